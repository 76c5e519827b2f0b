/-! ===== Strings: constants of the Reader, as cells of their own ===== -/
section GoStr
variable {p : Program} {l : Launch} {e : Env} {s : State} {m : MethodId} {args : Array Value} {below : List Frame} {meth : Method} {c : Code} {as : Nat → Nat} {dA : Nat → ClassId} {D : va_G} {SH : List zS} {d nL : Nat} {α : Type} {Qk : (Nat → Nat) → (Nat → ClassId) → va_G → List zS → Nat → α → zM → Array Value → State → Outcome → State → Prop}
variable {own : String} {cc : ByteArray} {ret : Option FieldType} {pc : Nat} {L : List (Nat × Value)} {st : List Value} {u : zM} {F : Option (α × zM)}
def zStr (o : Nat) : Prop := ∃ k : Nat, k < 5 ∧ o = 1010 + k
def zskL (o : Nat) : Nat := (zSK.map (fun q => q.2.2.length)).getD (o - 1010) 0
def zskB (o : Nat) (i : Int32) : Int32 := ((zSK.map (fun q => q.2.2)).getD (o - 1010) []).getD i.toNatClampNeg 0
theorem zStr_S {A : Nat → Prop} {U : State} {o : Nat} (hZ : zSt as A U) (ho : zStr o) : va_OF "java/lang/String" "coder" "B" (.int 0) (as o) A U U.heap ∧ va_OF "java/lang/String" "value" "[B" (.ref (as (o + 10))) (as o) A U U.heap ∧ va_T .byte (as (o + 10)) (zskL o) (fun j => .int (((zSK.map (fun q => q.2.2)).getD (o - 1010) []).getD j 0)) A U U.heap := by
  obtain ⟨k, hk, rfl⟩ := ho
  obtain ⟨-, h1, h2, h3⟩ := hZ.2.2.2.2.1.1 k hk
  have e1 : 1010 + k + 10 = 1020 + k := by omega
  have e2 : 1010 + k - 1010 = k := by omega
  unfold zskL
  rw [e1, e2]
  exact ⟨h1, h2, h3⟩
theorem zStr_recv {H : Heap} {locs : List Loc} {o : Nat} {cn : String} (hZ : zSt as (zA as SH.length s.heap.size) s) (hS : va_S (zA as SH.length s.heap.size) s.heap H locs) (ho : zStr o) (hcl : cn = "java/lang/String") : ∃ cell : Cell, H[as o]? = some cell ∧ cell.vm.isStatics = false ∧ s.vm.findClass cn = some cell.cls := by
  obtain ⟨k, hk, rfl⟩ := ho
  subst hcl
  exact vk_recv (i := k) hZ.2.2.2.2.1 hk hS
theorem G_ldcS (C : zCx p s m args meth c as dA D SH d nL "StruckWhile$Reader" cc ret) {q : Nat × String × List Int32} (sk : Nat) (hq : zSK[sk]? = some q) (hdg : decode cc pc = .ok (.ldc q.1, 2)) (k : Go p l e s m args below meth c as dA D SH d nL Qk  (pc + 2) L (.ref (1010 + sk) :: st) u F) : Go p l e s m args below meth c as dA D SH d nL Qk  pc L st u F := by
  obtain ⟨hx, hb, hml, hown, hts, hr, hlk, hK, hI, hZ, hd1⟩ := C
  intro r u' hF H locs ls hP hS hl
  exact va_ldcS hx hb hown (hZ.2.2.2.2.2 sk q hq) hdg (k r u' hF H locs ls hP hS hl)
theorem G_ldcw (C : zCx p s m args meth c as dA D SH d nL own cc ret) {index : Nat} {v : Int32} (hdg : decode cc pc = .ok (.ldc_w index, 3)) (hc : Cond.constant own index v ∈ zTb) (k : Go p l e s m args below meth c as dA D SH d nL Qk  (pc + 3) L (.int v :: st) u F) : Go p l e s m args below meth c as dA D SH d nL Qk  pc L st u F := by
  obtain ⟨hx, hb, hml, hown, hts, hr, hlk, hK, hI, hZ, hd1⟩ := C
  intro r u' hF H locs ls hP hS hl
  exact lv_ldcw hx hb hown (hts _ hc) hdg (k r u' hF H locs ls hP hS hl)
theorem G_sval (C : zCx p s m args meth c as dA D SH d nL own cc ret) {o index : Nat} (ho : zStr o) (hw : Cond.fieldLink own index "java/lang/String" "value" "[B" ∈ zTb) (hdg : decode cc pc = .ok (.getfield index, 3)) (k : Go p l e s m args below meth c as dA D SH d nL Qk  (pc + 3) L (.ref (o + 10) :: st) u F) : Go p l e s m args below meth c as dA D SH d nL Qk  pc L (.ref o :: st) u F := by
  obtain ⟨hx, hb, hml, hown, hts, hr, hlk, hK, hI, hZ, hd1⟩ := C
  intro r u' hF H locs ls hP hS hl
  exact vk_getf hx hb (zStr_S hZ ho).2.1 hS hown (hts _ hw) (fun _ h9 => h9) hdg (k r u' hF H locs ls hP hS hl)
theorem G_scod (C : zCx p s m args meth c as dA D SH d nL own cc ret) {o index : Nat} (ho : zStr o) (hw : Cond.fieldLink own index "java/lang/String" "coder" "B" ∈ zTb) (hdg : decode cc pc = .ok (.getfield index, 3)) (k : Go p l e s m args below meth c as dA D SH d nL Qk  (pc + 3) L (.int 0 :: st) u F) : Go p l e s m args below meth c as dA D SH d nL Qk  pc L (.ref o :: st) u F := by
  obtain ⟨hx, hb, hml, hown, hts, hr, hlk, hK, hI, hZ, hd1⟩ := C
  intro r u' hF H locs ls hP hS hl
  exact vk_getf hx hb (zStr_S hZ ho).1 hS hown (hts _ hw) (fun _ h9 => h9) hdg (k r u' hF H locs ls hP hS hl)
theorem G_sbld (C : zCx p s m args meth c as dA D SH d nL own cc ret) {o : Nat} {i : Int32} (ho : zStr o) (hdg : decode cc pc = .ok (.baload, 1)) (k : inB i (zskL o) = true → Go p l e s m args below meth c as dA D SH d nL Qk  (pc + 1) L (.int (zskB o i) :: st) u F) : Go p l e s m args below meth c as dA D SH d nL Qk  pc L (.int i :: .ref (o + 10) :: st) u (zck (inB i (zskL o)) F) := by
  obtain ⟨hx, hb, hml, hown, hts, hr, hlk, hK, hI, hZ, hd1⟩ := C
  intro r u' hF H locs ls hP hS hl
  obtain ⟨h1, hF⟩ := zck_some hF
  exact va_tb hx hb (zStr_S hZ ho).2.2 hS (inB_in h1) (v := .int (zskB o i)) rfl hdg (k h1 r u' hF H locs ls hP hS hl)
theorem G_sblen (C : zCx p s m args meth c as dA D SH d nL own cc ret) {o : Nat} (ho : zStr o) (hdg : decode cc pc = .ok (.arraylength, 1)) (k : Go p l e s m args below meth c as dA D SH d nL Qk  (pc + 1) L (.int (Int32.ofNat (zskL o)) :: st) u F) : Go p l e s m args below meth c as dA D SH d nL Qk  pc L (.ref (o + 10) :: st) u F := by
  obtain ⟨hx, hb, hml, hown, hts, hr, hlk, hK, hI, hZ, hd1⟩ := C
  intro r u' hF H locs ls hP hS hl
  exact va_tlen hx hb (zStr_S hZ ho).2.2 hS rfl hdg (k r u' hF H locs ls hP hS hl)
theorem G_compact (C : zCx p s m args meth c as dA D SH d nL own cc ret) {index : Nat} (hw : Cond.fieldLink own index "java/lang/String" "COMPACT_STRINGS" "Z" ∈ zTb) (hdg : decode cc pc = .ok (.getstatic index, 3)) (k : Go p l e s m args below meth c as dA D SH d nL Qk  (pc + 3) L (.int 1 :: st) u F) : Go p l e s m args below meth c as dA D SH d nL Qk  pc L st u F := by
  obtain ⟨hx, hb, hml, hown, hts, hr, hlk, hK, hI, hZ, hd1⟩ := C
  intro r u' hF H locs ls hP hS hl
  exact va_gets hx hb hZ.2.1 hS hown (hts _ hw) (fun _ h9 => h9) hdg (k r u' hF H locs ls hP hS hl)
theorem G_siobe (C : zCx p s m args meth c as dA D SH d nL own cc ret) {index : Nat} (hw : Cond.fieldLink own index "jdk/internal/util/Preconditions" "SIOOBE_FORMATTER" "Ljava/util/function/BiFunction;" ∈ zTb) (hdg : decode cc pc = .ok (.getstatic index, 3)) (k : ∀ w : Value, w = .null ∨ w = .ref 1030 → Go p l e s m args below meth c as dA D SH d nL Qk  (pc + 3) L (w :: st) u F) : Go p l e s m args below meth c as dA D SH d nL Qk  pc L st u F := by
  obtain ⟨hx, hb, hml, hown, hts, hr, hlk, hK, hI, hZ, hd1⟩ := C
  intro r u' hF H locs ls hP hS hl
  rcases hZ.2.2.1 with h | h
  · exact va_gets hx hb h hS hown (hts _ hw) (fun _ h9 => h9) hdg (k .null (Or.inl rfl) r u' hF H locs ls hP hS hl)
  · exact va_gets hx hb h hS hown (hts _ hw) (fun _ h9 => h9) hdg (k (.ref 1030) (Or.inr rfl) r u' hF H locs ls hP hS hl)
theorem G_callTi (C : zCx p s m args meth c as dA D SH d nL own cc ret) {y : MethodName} {bytes : ByteArray} {maxL index d' : Nat} {rt : Option FieldType} {As : List Value} {stk : List Value} {Fc : Option (Int32 × zM)} {K : Int32 → zM → Option (α × zM)} {a : Nat} (hM : zMet zQi SH y bytes maxL rt d' (.ref a :: As) u Fc) (hR : d' + 1 ≤ d) (hstk : stk = As.reverse ++ .ref a :: st) (w1 : Cond.methodLink own index y ∈ zTb) (hw : zWv y bytes maxL rt As.length) (ho : zStr a) (hcl : y.cls = "java/lang/String") (h8 : (st.map fun v => v.category).sum ≤ 8) (hdg : decode cc pc = .ok (.invokevirtual index, 3)) (k : ∀ (x : Int32) (v : zM), Go p l e s m args below meth c as dA D SH d nL Qk (pc + 3) L (.int x :: st) v (K x v)) : Go p l e s m args below meth c as dA D SH d nL Qk pc L stk u (zb Fc K) := by
  obtain ⟨hx, hb, hml, hown, hts, hr, hlk, hK, hI, hZ, hd1⟩ := C
  obtain ⟨w2, w3, w4, w5, hm, hdsc⟩ := hw
  intro r u' hF H locs ls hP hS hl
  obtain ⟨x0, u0, hFc, hF⟩ := zb_some hF
  have hm0 := hM x0 u0 hFc l as dA D H.size
  have hA0 := zA_in (as := as) (n := SH.length) hS.1
  refine va_calli (va_runV (As := As.map (zr as)) (rest := st.map (zr as)) ⟨hx, hb, hml, hown, hts⟩ hm0 (zcwV As.length hts hR w1 w2 w3 w4 w5 hm hdsc) ⟨zPre_blind, zStr_recv hZ hS ho hcl, fun U hU hW => ⟨rfl, zPre_at hK hI hZ hP hS hU hW⟩⟩ rfl (List.length_map _) hl.1 (by rw [hstk]; exact zmapA) (lv_room (zsum8 h8)) hdg ⟨Nat.zero_le _, Nat.zero_le _⟩) hS (fun q _ h => hA0 q h) hA0 (fun r0 v0 t H1 locs1 ht hvm hw hB hz1 hk1 hS1 => ?_)
  obtain ⟨rfl, rfl⟩ := hw
  obtain ⟨hP1, hK1⟩ := hB
  rw [ht] at hP1
  exact k r0 v0 r u' hF H1 locs1 ls hP1 hS1 hl
def zcB (x : Int32) : Bool := vp_nar .char x == x
theorem zcB_nar {x : Int32} (h : zcB x = true) : narrow .char (.int x) = .int x := by
  unfold zcB at h
  have h1 := eq_of_beq h
  have h2 : narrow .char (.int x) = .int (vp_nar .char x) := rfl
  rw [h2, h1]
end GoStr
