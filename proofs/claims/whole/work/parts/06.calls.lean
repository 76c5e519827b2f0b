/-! ===== copies, calls, ends ===== -/
section GoCalls
variable {p : Program} {l : Launch} {e : Env} {s : State} {m : MethodId} {args : Array Value} {below : List Frame} {meth : Method} {c : Code} {as : Nat → Nat} {dA : Nat → ClassId} {D : va_G} {SH : List zS} {d nL : Nat} {α : Type} {Qk : (Nat → Nat) → (Nat → ClassId) → va_G → List zS → Nat → α → zM → Array Value → State → Outcome → State → Prop}
variable {own : String} {cc : ByteArray} {ret : Option FieldType} {pc : Nat} {L : List (Nat × Value)} {st : List Value} {u : zM} {F : Option (α × zM)}
theorem G_copyI (C : zCx p s m args meth c as dA D SH d nL own cc ret) {a b n0 n1 p0 p1 q0 q1 index : Nat} {sp dp n : Int32} {F : zM → Option (α × zM)} (hs0 : SH[a]? = some (.inr (0, n0, p0, q0))) (hs1 : SH[b]? = some (.inr (0, n1, p1, q1))) (w1 : Cond.methodLink own index arraycopyName ∈ zTb) (w2 : Cond.native arraycopyName ∈ zTb) (w3 : Cond.static arraycopyName ∈ zTb) (w4 : Cond.initialized "java/lang/System" ∈ zTb) (h8 : (st.map fun v => v.category).sum ≤ 8) (hdg : decode cc pc = .ok (.invokestatic index, 3)) (k : cpB sp dp n n0 n1 = true → ∀ v : zM, Go p l e s m args below meth c as dA D SH d nL Qk  (pc + 3) L st v (F v)) : Go p l e s m args below meth c as dA D SH d nL Qk  pc L (.int n :: .int dp :: .ref b :: .int sp :: .ref a :: st) u (zck (cpB sp dp n n0 n1) (zlet (cpI u a sp.toNatClampNeg b dp.toNatClampNeg n.toNatClampNeg) F)) := by
  obtain ⟨hx, hb, hml, hown, hts, hr, hlk, hK, hI, hZ, hd1⟩ := C
  intro r u' hF H locs ls hP hS hl
  obtain ⟨g0, hF⟩ := zck_some hF
  obtain ⟨g1, g2, g3, g4, g5⟩ := of_decide_eq_true g0
  refine va_copyi hx hb (hml.trans hl.1.symm) hown (hts _ w1) (hts _ w2) (hts _ w3) (hts _ w4) hK hP (zw_DA hI) hS a b 0 0 (zw_arr hs0) (zw_arr hs1) rfl rfl rfl g1 g2 g3 g4 g5 (fun _ _ => rfl) ?hf ?hh hdg (fun H1 locs1 hP1 _ hS1 => ?kk)
  case kk =>
    rw [zw_set (u' := cpI u a sp.toNatClampNeg b dp.toNatClampNeg n.toNatClampNeg) hs1 (by show Sum.inl (_, _, Sum.inl _) = Sum.inl (_, _, Sum.inl (gI (cpI u a sp.toNatClampNeg b dp.toNatClampNeg n.toNatClampNeg) b)); rw [gI_cp]) (fun q S' h => zcell_cpI q S' h)] at hP1
    exact k g0 _ r u' hF H1 locs1 ls hP1 hS1 hl
  case hf => exact hd1
  case hh =>
    have h1 : nativeFrameWords "java/lang/System" "arraycopy" 5 ≤ 40 := by decide +kernel
    have h2 := zsum8 (as := as) h8
    show _ ≤ 64 * d
    omega
theorem G_copyJ (C : zCx p s m args meth c as dA D SH d nL own cc ret) {a b n0 n1 p0 p1 q0 q1 index : Nat} {sp dp n : Int32} {F : zM → Option (α × zM)} (hs0 : SH[a]? = some (.inr (3, n0, p0, q0))) (hs1 : SH[b]? = some (.inr (3, n1, p1, q1))) (w1 : Cond.methodLink own index arraycopyName ∈ zTb) (w2 : Cond.native arraycopyName ∈ zTb) (w3 : Cond.static arraycopyName ∈ zTb) (w4 : Cond.initialized "java/lang/System" ∈ zTb) (h8 : (st.map fun v => v.category).sum ≤ 8) (hdg : decode cc pc = .ok (.invokestatic index, 3)) (k : cpB sp dp n n0 n1 = true → ∀ v : zM, Go p l e s m args below meth c as dA D SH d nL Qk  (pc + 3) L st v (F v)) : Go p l e s m args below meth c as dA D SH d nL Qk  pc L (.int n :: .int dp :: .ref b :: .int sp :: .ref a :: st) u (zck (cpB sp dp n n0 n1) (zlet (cpJ u a sp.toNatClampNeg b dp.toNatClampNeg n.toNatClampNeg) F)) := by
  obtain ⟨hx, hb, hml, hown, hts, hr, hlk, hK, hI, hZ, hd1⟩ := C
  intro r u' hF H locs ls hP hS hl
  obtain ⟨g0, hF⟩ := zck_some hF
  obtain ⟨g1, g2, g3, g4, g5⟩ := of_decide_eq_true g0
  refine va_copyl hx hb (hml.trans hl.1.symm) hown (hts _ w1) (hts _ w2) (hts _ w3) (hts _ w4) hK hP (zw_DA hI) hS a b 3 3 (zw_arr hs0) (zw_arr hs1) rfl rfl rfl g1 g2 g3 g4 g5 (fun _ _ => rfl) ?hf ?hh hdg (fun H1 locs1 hP1 _ hS1 => ?kk)
  case kk =>
    rw [zw_set (u' := cpJ u a sp.toNatClampNeg b dp.toNatClampNeg n.toNatClampNeg) hs1 (by show Sum.inl (_, _, Sum.inr (Sum.inl _)) = Sum.inl (_, _, Sum.inr (Sum.inl (gJ (cpJ u a sp.toNatClampNeg b dp.toNatClampNeg n.toNatClampNeg) b))); rw [gJ_cp]) (fun q S' h => zcell_cpJ q S' h)] at hP1
    exact k g0 _ r u' hF H1 locs1 ls hP1 hS1 hl
  case hf => exact hd1
  case hh =>
    have h1 : nativeFrameWords "java/lang/System" "arraycopy" 5 ≤ 40 := by decide +kernel
    have h2 := zsum8 (as := as) h8
    show _ ≤ 64 * d
    omega
theorem G_iret (C : zCx p s m args meth c as dA D SH d nL own cc (some .int)) {x : Int32} (hdg : decode cc pc = .ok (.ireturn, 1)) : Go p l e s m args below meth c as dA D SH d nL zQi pc L [.int x] u (some (x, u)) := by
  obtain ⟨hx, hb, hml, hown, hts, hr, hlk, hK, hI, hZ, hd1⟩ := C
  intro r u' hF H locs ls hP hS hl
  cases hF
  exact W.iret hx hb hr (fun t ht hW => ⟨⟨x, u, rfl, ⟨rfl, rfl⟩, by rw [ht]; exact hP, hK.moved hW.alike⟩, hS.F ht⟩) hS.2.2 hdg hlk
theorem G_lret (C : zCx p s m args meth c as dA D SH d nL own cc (some .long)) {x : Int64} (hdg : decode cc pc = .ok (.lreturn, 1)) : Go p l e s m args below meth c as dA D SH d nL zQl pc L [.long x] u (some (x, u)) := by
  obtain ⟨hx, hb, hml, hown, hts, hr, hlk, hK, hI, hZ, hd1⟩ := C
  intro r u' hF H locs ls hP hS hl
  cases hF
  exact W.lret hx hb hr (fun t ht hW => ⟨⟨x, u, rfl, ⟨rfl, rfl⟩, by rw [ht]; exact hP, hK.moved hW.alike⟩, hS.F ht⟩) hS.2.2 hdg hlk
def z01 (x : Int32) : Bool := x == 0 || x == 1
theorem z01_nar {x : Int32} (h : z01 x = true) : narrow .boolean (.int x) = .int x := by
  unfold z01 at h
  rw [Bool.or_eq_true, beq_iff_eq, beq_iff_eq] at h
  rcases h with h | h <;> subst h <;> rfl
theorem G_zret {ty : FieldType} (C : zCx p s m args meth c as dA D SH d nL own cc (some ty)) {x : Int32} (hn : narrow ty (.int x) = .int x) (hdg : decode cc pc = .ok (.ireturn, 1)) : Go p l e s m args below meth c as dA D SH d nL zQi pc L [.int x] u (some (x, u)) := by
  obtain ⟨hx, hb, hml, hown, hts, hr, hlk, hK, hI, hZ, hd1⟩ := C
  intro r u' hF H locs ls hP hS hl
  cases hF
  exact W.zret hx hb hr hn (fun t ht hW => ⟨⟨x, u, rfl, ⟨rfl, rfl⟩, by rw [ht]; exact hP, hK.moved hW.alike⟩, hS.F ht⟩) hS.2.2 hdg hlk
theorem G_vret (C : zCx p s m args meth c as dA D SH d nL own cc none) (hdg : decode cc pc = .ok (.return_, 1)) : Go p l e s m args below meth c as dA D SH d nL zQv pc L [] u (some ((), u)) := by
  obtain ⟨hx, hb, hml, hown, hts, hr, hlk, hK, hI, hZ, hd1⟩ := C
  intro r u' hF H locs ls hP hS hl
  cases hF
  exact W.vret hx hb hr (fun t ht hW => ⟨⟨u, rfl, rfl, by rw [ht]; exact hP, hK.moved hW.alike⟩, hS.F ht⟩) hS.2.2 hdg hlk
theorem G_aret {Cr : String} (C : zCx p s m args meth c as dA D SH d nL own cc (some (.object Cr))) {x : Nat} (hdg : decode cc pc = .ok (.areturn, 1)) : Go p l e s m args below meth c as dA D SH d nL zQr pc L [.ref x] u (some (x, u)) := by
  obtain ⟨hx, hb, hml, hown, hts, hr, hlk, hK, hI, hZ, hd1⟩ := C
  intro r u' hF H locs ls hP hS hl
  cases hF
  exact W.aret hx hb hr (Or.inl ⟨_, rfl⟩) (Or.inr ⟨_, rfl⟩) (fun t ht hW => ⟨⟨u, as x, rfl, rfl, rfl, by rw [ht]; exact hP, hK.moved hW.alike⟩, hS.F ht⟩) hS.2.2 hdg hlk
/-- the words of a method that is called on an object; of a static one -/
def zWv (y : MethodName) (bytes : ByteArray) (maxL : Nat) (rt : Option FieldType) (n : Nat) : Prop := Cond.instanceMethod y ∈ zTb ∧ Cond.selects y.cls y y ∈ zTb ∧ Cond.initialized y.cls ∈ zTb ∧ Cond.code y bytes maxL rt ∈ zTb ∧ maxL ≤ 45 ∧ (y.cls ≠ "java/lang/invoke/MethodHandle" ∧ y.cls ≠ "java/lang/invoke/VarHandle" ∧ (parseMethodDescriptor y.desc).map (fun d => d.parameters.length) = some n)
def zWs (y : MethodName) (bytes : ByteArray) (maxL : Nat) (rt : Option FieldType) (n : Nat) : Prop := Cond.static y ∈ zTb ∧ Cond.initialized y.cls ∈ zTb ∧ Cond.code y bytes maxL rt ∈ zTb ∧ maxL ≤ 45 ∧ (y.cls ≠ "java/lang/invoke/MethodHandle" ∧ y.cls ≠ "java/lang/invoke/VarHandle" ∧ (parseMethodDescriptor y.desc).map (fun d => d.parameters.length) = some n)
theorem zPre_blind {dd : Nat → Nat} {av : List Value} {sz : Nat} : FrameBlind (va_Pc av (zPre dd dA D SH u sz)) := fun a U g mk q => by
  obtain ⟨q0, q1, q2, q3, q4, q5⟩ := q
  exact ⟨q0, q1, q2, q3.moved (u := U) (U := U.calling g mk a) (Vm.Alike.refl U.vm), q4, q5.same (u := U) (U := U.calling g mk a) rfl rfl⟩
theorem zA_in {n sz : Nat} {H : Heap} (hs : sz ≤ H.size) : ∀ q, zA as n H.size q → zA as n sz q := fun q h => h.elim Or.inl (fun h => Or.inr (Nat.le_trans hs h))
theorem zPre_at {H : Heap} {locs : List Loc} {U : State} (hK : va_K D zcl (zty dA) s) (hI : zInj as SH.length) (hZ : zSt as (zA as SH.length s.heap.size) s) (hP : va_P D zcl (zw as dA SH u) H) (hS : va_S (zA as SH.length s.heap.size) s.heap H locs) (hU : U.heap = H) (hW : s.WarmedH U.vm) : zPre as dA D SH u H.size U :=
  ⟨by rw [hU], by rw [hU]; exact hP, hK.moved hW.alike, hI, hZ.call hU hW hS (zA_in hS.1)⟩
theorem zmapA {As st : List Value} {v : Value} : (As.reverse ++ v :: st).map (zr as) = (As.map (zr as)).reverse ++ zr as v :: st.map (zr as) := by
  rw [List.map_append, List.map_reverse]
  rfl
theorem zmapS {As st : List Value} : (As.reverse ++ st).map (zr as) = (As.map (zr as)).reverse ++ st.map (zr as) := by
  rw [List.map_append, List.map_reverse]
theorem zcwV (n : Nat) {y : MethodName} {bytes : ByteArray} {maxL index d' : Nat} {rt : Option FieldType} {own : String} (hts : ∀ w ∈ zTb, w.before args s = true) (hR : d' + 1 ≤ d) (w1 : Cond.methodLink own index y ∈ zTb) (w2 : Cond.instanceMethod y ∈ zTb) (w3 : Cond.selects y.cls y y ∈ zTb) (w4 : Cond.initialized y.cls ∈ zTb) (w5 : Cond.code y bytes maxL rt ∈ zTb) (hm : maxL ≤ 45)
    (hd : y.cls ≠ "java/lang/invoke/MethodHandle" ∧ y.cls ≠ "java/lang/invoke/VarHandle" ∧ (parseMethodDescriptor y.desc).map (fun d => d.parameters.length) = some n) : CallW (zRm d) s args own y.cls index y bytes maxL rt (.code y bytes maxL rt :: zTb) (zRm d') 0 0 n :=
  cwV n hts (zgood_of (fun w hw => by
    unfold wsV at hw
    rcases List.mem_append.mp hw with h | h
    · simp only [List.mem_cons, List.not_mem_nil, or_false] at h
      rcases h with h | h | h | h <;> subst h <;> assumption
    · rcases List.mem_cons.mp h with h | h
      · subst h; exact w5
      · exact h)) rfl rfl rfl ⟨rfl, hd⟩ ⟨hR, by show 8 + (maxL + 11) + 64 * d' ≤ 64 * d; omega⟩
theorem zcwS (n : Nat) {y : MethodName} {bytes : ByteArray} {maxL index d' : Nat} {rt : Option FieldType} {own : String} (hts : ∀ w ∈ zTb, w.before args s = true) (hR : d' + 1 ≤ d) (w1 : Cond.methodLink own index y ∈ zTb) (w2 : Cond.static y ∈ zTb) (w4 : Cond.initialized y.cls ∈ zTb) (w5 : Cond.code y bytes maxL rt ∈ zTb) (hm : maxL ≤ 45)
    (hd : y.cls ≠ "java/lang/invoke/MethodHandle" ∧ y.cls ≠ "java/lang/invoke/VarHandle" ∧ (parseMethodDescriptor y.desc).map (fun d => d.parameters.length) = some n) : CallB (zRm d) s args own index y bytes maxL rt (.code y bytes maxL rt :: zTb) (zRm d') 0 0 n ∧ (Cond.static y).before args s = true :=
  ⟨callB_of n hts (zgood_of (fun w hw => by
    rcases List.mem_cons.mp hw with h | h
    · subst h; exact w5
    · exact h)) rfl rfl rfl (hts _ w4) (hts _ w1) hd ⟨hR, by show 8 + (maxL + 11) + 64 * d' ≤ 64 * d; omega⟩, hts _ w2⟩
theorem zcwN (n : Nat) {y : MethodName} {bytes : ByteArray} {maxL index d' : Nat} {rt : Option FieldType} {own host : String} (hts : ∀ w ∈ zTb, w.before args s = true) (hR : d' + 1 ≤ d) (w1 : va_Nw (.methodLinkNest own index y host) s) (w2 : Cond.static y ∈ zTb) (w4 : Cond.initialized y.cls ∈ zTb) (w5 : Cond.code y bytes maxL rt ∈ zTb) (hm : maxL ≤ 45)
    (hd : y.cls ≠ "java/lang/invoke/MethodHandle" ∧ y.cls ≠ "java/lang/invoke/VarHandle" ∧ (parseMethodDescriptor y.desc).map (fun d => d.parameters.length) = some n) : va_CN (zRm d) s args own index y host bytes maxL rt (.code y bytes maxL rt :: zTb) (zRm d') 0 0 n ∧ (Cond.static y).before args s = true ∧ True :=
  ⟨va_cnB n hts (zgood_of (fun w hw => by
    rcases List.mem_cons.mp hw with h | h
    · subst h; exact w5
    · exact h)) rfl rfl rfl w1 (hts _ w4) hd ⟨hR, by show 8 + (maxL + 11) + 64 * d' ≤ 64 * d; omega⟩, hts _ w2, trivial⟩
theorem G_callVi (C : zCx p s m args meth c as dA D SH d nL own cc ret) {y : MethodName} {bytes : ByteArray} {maxL index d' : Nat} {rt : Option FieldType} {As : List Value} {stk : List Value} {Fc : Option (Int32 × zM)} {K : Int32 → zM → Option (α × zM)} {a ci : Nat} {ks : List Nat} {T : u_T} {N : Nat} (hM : zMet zQi SH y bytes maxL rt d' (.ref a :: As) u Fc) (hR : d' + 1 ≤ d) (hstk : stk = As.reverse ++ .ref a :: st) (w1 : Cond.methodLink own index y ∈ zTb) (hw : zWv y bytes maxL rt As.length) (hs : SH[a]? = some (.inl (ci, ks))) (hc : zcl[ci]? = some (y.cls, T, N)) (h8 : (st.map fun v => v.category).sum ≤ 8) (hdg : decode cc pc = .ok (.invokevirtual index, 3)) (k : ∀ (x : Int32) (v : zM), Go p l e s m args below meth c as dA D SH d nL Qk (pc + 3) L (.int x :: st) v (K x v)) : Go p l e s m args below meth c as dA D SH d nL Qk pc L stk u (zb Fc K) := by
  obtain ⟨hx, hb, hml, hown, hts, hr, hlk, hK, hI, hZ, hd1⟩ := C
  obtain ⟨w2, w3, w4, w5, hm, hdsc⟩ := hw
  intro r u' hF H locs ls hP hS hl
  obtain ⟨x0, u0, hFc, hF⟩ := zb_some hF
  have hm0 := hM x0 u0 hFc l as dA D H.size
  have hA0 := zA_in (as := as) (n := SH.length) hS.1
  refine va_calli (va_runV (As := As.map (zr as)) (rest := st.map (zr as)) ⟨hx, hb, hml, hown, hts⟩ hm0 (zcwV As.length hts hR w1 w2 w3 w4 w5 hm hdsc) ⟨zPre_blind, va_recv hK hP hc (zw_obj hs), fun U hU hW => ⟨rfl, zPre_at hK hI hZ hP hS hU hW⟩⟩ rfl (List.length_map _) hl.1 (by rw [hstk]; exact zmapA) (lv_room (zsum8 h8)) hdg ⟨Nat.zero_le _, Nat.zero_le _⟩) hS (fun q _ h => hA0 q h) hA0 (fun r0 v0 t H1 locs1 ht hvm hw hB hz1 hk1 hS1 => ?_)
  obtain ⟨rfl, rfl⟩ := hw
  obtain ⟨hP1, hK1⟩ := hB
  rw [ht] at hP1
  exact k r0 v0 r u' hF H1 locs1 ls hP1 hS1 hl
theorem G_callSi (C : zCx p s m args meth c as dA D SH d nL own cc ret) {y : MethodName} {bytes : ByteArray} {maxL index d' : Nat} {rt : Option FieldType} {As : List Value} {stk : List Value} {Fc : Option (Int32 × zM)} {K : Int32 → zM → Option (α × zM)} (hM : zMet zQi SH y bytes maxL rt d' As u Fc) (hR : d' + 1 ≤ d) (hstk : stk = As.reverse ++ st) (w1 : Cond.methodLink own index y ∈ zTb) (hw : zWs y bytes maxL rt As.length) (h8 : (st.map fun v => v.category).sum ≤ 8) (hdg : decode cc pc = .ok (.invokestatic index, 3)) (k : ∀ (x : Int32) (v : zM), Go p l e s m args below meth c as dA D SH d nL Qk (pc + 3) L (.int x :: st) v (K x v)) : Go p l e s m args below meth c as dA D SH d nL Qk pc L stk u (zb Fc K) := by
  obtain ⟨hx, hb, hml, hown, hts, hr, hlk, hK, hI, hZ, hd1⟩ := C
  obtain ⟨w2, w4, w5, hm, hdsc⟩ := hw
  intro r u' hF H locs ls hP hS hl
  obtain ⟨x0, u0, hFc, hF⟩ := zb_some hF
  have hm0 := hM x0 u0 hFc l as dA D H.size
  have hA0 := zA_in (as := as) (n := SH.length) hS.1
  refine va_calli (va_runS (As := As.map (zr as)) (rest := st.map (zr as)) ⟨hx, hb, hml, hown, hts⟩ hm0 (zcwS As.length hts hR w1 w2 w4 w5 hm hdsc) ⟨zPre_blind, fun U hU hW => ⟨rfl, zPre_at hK hI hZ hP hS hU hW⟩⟩ rfl (List.length_map _) hl.1 (by rw [hstk]; exact zmapS) (lv_room (zsum8 h8)) hdg ⟨Nat.zero_le _, Nat.zero_le _⟩) hS (fun q _ h => hA0 q h) hA0 (fun r0 v0 t H1 locs1 ht hvm hw hB hz1 hk1 hS1 => ?_)
  obtain ⟨rfl, rfl⟩ := hw
  obtain ⟨hP1, hK1⟩ := hB
  rw [ht] at hP1
  exact k r0 v0 r u' hF H1 locs1 ls hP1 hS1 hl
theorem G_callNi (C : zCx p s m args meth c as dA D SH d nL own cc ret) {y : MethodName} {bytes : ByteArray} {maxL index d' : Nat} {rt : Option FieldType} {As : List Value} {stk : List Value} {Fc : Option (Int32 × zM)} {K : Int32 → zM → Option (α × zM)} {host : String} (hM : zMet zQi SH y bytes maxL rt d' As u Fc) (hR : d' + 1 ≤ d) (hstk : stk = As.reverse ++ st) (w1 : Cond.methodLinkNest own index y host ∈ zNest) (hw : zWs y bytes maxL rt As.length) (h8 : (st.map fun v => v.category).sum ≤ 8) (hdg : decode cc pc = .ok (.invokestatic index, 3)) (k : ∀ (x : Int32) (v : zM), Go p l e s m args below meth c as dA D SH d nL Qk (pc + 3) L (.int x :: st) v (K x v)) : Go p l e s m args below meth c as dA D SH d nL Qk pc L stk u (zb Fc K) := by
  obtain ⟨hx, hb, hml, hown, hts, hr, hlk, hK, hI, hZ, hd1⟩ := C
  obtain ⟨w2, w4, w5, hm, hdsc⟩ := hw
  intro r u' hF H locs ls hP hS hl
  obtain ⟨x0, u0, hFc, hF⟩ := zb_some hF
  have hm0 := hM x0 u0 hFc l as dA D H.size
  have hA0 := zA_in (as := as) (n := SH.length) hS.1
  refine va_calli (va_runSN (As := As.map (zr as)) (rest := st.map (zr as)) ⟨hx, hb, hml, hown, hts⟩ hm0 (zcwN As.length hts hR (hZ.1 _ w1) w2 w4 w5 hm hdsc) ⟨zPre_blind, fun U hU hW => ⟨rfl, zPre_at hK hI hZ hP hS hU hW⟩⟩ rfl (List.length_map _) hl.1 (by rw [hstk]; exact zmapS) (lv_room (zsum8 h8)) hdg ⟨Nat.zero_le _, Nat.zero_le _⟩) hS (fun q _ h => hA0 q h) hA0 (fun r0 v0 t H1 locs1 ht hvm hw hB hz1 hk1 hS1 => ?_)
  obtain ⟨rfl, rfl⟩ := hw
  obtain ⟨hP1, hK1⟩ := hB
  rw [ht] at hP1
  exact k r0 v0 r u' hF H1 locs1 ls hP1 hS1 hl
theorem G_callVl (C : zCx p s m args meth c as dA D SH d nL own cc ret) {y : MethodName} {bytes : ByteArray} {maxL index d' : Nat} {rt : Option FieldType} {As : List Value} {stk : List Value} {Fc : Option (Int64 × zM)} {K : Int64 → zM → Option (α × zM)} {a ci : Nat} {ks : List Nat} {T : u_T} {N : Nat} (hM : zMet zQl SH y bytes maxL rt d' (.ref a :: As) u Fc) (hR : d' + 1 ≤ d) (hstk : stk = As.reverse ++ .ref a :: st) (w1 : Cond.methodLink own index y ∈ zTb) (hw : zWv y bytes maxL rt As.length) (hs : SH[a]? = some (.inl (ci, ks))) (hc : zcl[ci]? = some (y.cls, T, N)) (h8 : (st.map fun v => v.category).sum ≤ 8) (hdg : decode cc pc = .ok (.invokevirtual index, 3)) (k : ∀ (x : Int64) (v : zM), Go p l e s m args below meth c as dA D SH d nL Qk (pc + 3) L (.long x :: st) v (K x v)) : Go p l e s m args below meth c as dA D SH d nL Qk pc L stk u (zb Fc K) := by
  obtain ⟨hx, hb, hml, hown, hts, hr, hlk, hK, hI, hZ, hd1⟩ := C
  obtain ⟨w2, w3, w4, w5, hm, hdsc⟩ := hw
  intro r u' hF H locs ls hP hS hl
  obtain ⟨x0, u0, hFc, hF⟩ := zb_some hF
  have hm0 := hM x0 u0 hFc l as dA D H.size
  have hA0 := zA_in (as := as) (n := SH.length) hS.1
  refine va_calll (va_runV (As := As.map (zr as)) (rest := st.map (zr as)) ⟨hx, hb, hml, hown, hts⟩ hm0 (zcwV As.length hts hR w1 w2 w3 w4 w5 hm hdsc) ⟨zPre_blind, va_recv hK hP hc (zw_obj hs), fun U hU hW => ⟨rfl, zPre_at hK hI hZ hP hS hU hW⟩⟩ rfl (List.length_map _) hl.1 (by rw [hstk]; exact zmapA) (lv_room (zsum8 h8)) hdg ⟨Nat.zero_le _, Nat.zero_le _⟩) hS (fun q _ h => hA0 q h) hA0 (fun r0 v0 t H1 locs1 ht hvm hw hB hz1 hk1 hS1 => ?_)
  obtain ⟨rfl, rfl⟩ := hw
  obtain ⟨hP1, hK1⟩ := hB
  rw [ht] at hP1
  exact k r0 v0 r u' hF H1 locs1 ls hP1 hS1 hl
theorem G_callSl (C : zCx p s m args meth c as dA D SH d nL own cc ret) {y : MethodName} {bytes : ByteArray} {maxL index d' : Nat} {rt : Option FieldType} {As : List Value} {stk : List Value} {Fc : Option (Int64 × zM)} {K : Int64 → zM → Option (α × zM)} (hM : zMet zQl SH y bytes maxL rt d' As u Fc) (hR : d' + 1 ≤ d) (hstk : stk = As.reverse ++ st) (w1 : Cond.methodLink own index y ∈ zTb) (hw : zWs y bytes maxL rt As.length) (h8 : (st.map fun v => v.category).sum ≤ 8) (hdg : decode cc pc = .ok (.invokestatic index, 3)) (k : ∀ (x : Int64) (v : zM), Go p l e s m args below meth c as dA D SH d nL Qk (pc + 3) L (.long x :: st) v (K x v)) : Go p l e s m args below meth c as dA D SH d nL Qk pc L stk u (zb Fc K) := by
  obtain ⟨hx, hb, hml, hown, hts, hr, hlk, hK, hI, hZ, hd1⟩ := C
  obtain ⟨w2, w4, w5, hm, hdsc⟩ := hw
  intro r u' hF H locs ls hP hS hl
  obtain ⟨x0, u0, hFc, hF⟩ := zb_some hF
  have hm0 := hM x0 u0 hFc l as dA D H.size
  have hA0 := zA_in (as := as) (n := SH.length) hS.1
  refine va_calll (va_runS (As := As.map (zr as)) (rest := st.map (zr as)) ⟨hx, hb, hml, hown, hts⟩ hm0 (zcwS As.length hts hR w1 w2 w4 w5 hm hdsc) ⟨zPre_blind, fun U hU hW => ⟨rfl, zPre_at hK hI hZ hP hS hU hW⟩⟩ rfl (List.length_map _) hl.1 (by rw [hstk]; exact zmapS) (lv_room (zsum8 h8)) hdg ⟨Nat.zero_le _, Nat.zero_le _⟩) hS (fun q _ h => hA0 q h) hA0 (fun r0 v0 t H1 locs1 ht hvm hw hB hz1 hk1 hS1 => ?_)
  obtain ⟨rfl, rfl⟩ := hw
  obtain ⟨hP1, hK1⟩ := hB
  rw [ht] at hP1
  exact k r0 v0 r u' hF H1 locs1 ls hP1 hS1 hl
theorem G_callVv (C : zCx p s m args meth c as dA D SH d nL own cc ret) {y : MethodName} {bytes : ByteArray} {maxL index d' : Nat} {rt : Option FieldType} {As : List Value} {stk : List Value} {Fc : Option (Unit × zM)} {K : Unit → zM → Option (α × zM)} {a ci : Nat} {ks : List Nat} {T : u_T} {N : Nat} (hM : zMet zQv SH y bytes maxL rt d' (.ref a :: As) u Fc) (hR : d' + 1 ≤ d) (hstk : stk = As.reverse ++ .ref a :: st) (w1 : Cond.methodLink own index y ∈ zTb) (hw : zWv y bytes maxL rt As.length) (hs : SH[a]? = some (.inl (ci, ks))) (hc : zcl[ci]? = some (y.cls, T, N)) (h8 : (st.map fun v => v.category).sum ≤ 8) (hdg : decode cc pc = .ok (.invokevirtual index, 3)) (k : ∀ (x : Unit) (v : zM), Go p l e s m args below meth c as dA D SH d nL Qk (pc + 3) L st v (K x v)) : Go p l e s m args below meth c as dA D SH d nL Qk pc L stk u (zb Fc K) := by
  obtain ⟨hx, hb, hml, hown, hts, hr, hlk, hK, hI, hZ, hd1⟩ := C
  obtain ⟨w2, w3, w4, w5, hm, hdsc⟩ := hw
  intro r u' hF H locs ls hP hS hl
  obtain ⟨x0, u0, hFc, hF⟩ := zb_some hF
  have hm0 := hM x0 u0 hFc l as dA D H.size
  have hA0 := zA_in (as := as) (n := SH.length) hS.1
  refine va_callv (va_runV (As := As.map (zr as)) (rest := st.map (zr as)) ⟨hx, hb, hml, hown, hts⟩ hm0 (zcwV As.length hts hR w1 w2 w3 w4 w5 hm hdsc) ⟨zPre_blind, va_recv hK hP hc (zw_obj hs), fun U hU hW => ⟨rfl, zPre_at hK hI hZ hP hS hU hW⟩⟩ rfl (List.length_map _) hl.1 (by rw [hstk]; exact zmapA) (lv_room (zsum8 h8)) hdg ⟨Nat.zero_le _, Nat.zero_le _⟩) hS (fun q _ h => hA0 q h) hA0 (fun v0 t H1 locs1 ht hvm hw hB hz1 hk1 hS1 => ?_)
  cases x0
  subst hw
  obtain ⟨hP1, hK1⟩ := hB
  rw [ht] at hP1
  exact k () v0 r u' hF H1 locs1 ls hP1 hS1 hl
theorem G_callSv (C : zCx p s m args meth c as dA D SH d nL own cc ret) {y : MethodName} {bytes : ByteArray} {maxL index d' : Nat} {rt : Option FieldType} {As : List Value} {stk : List Value} {Fc : Option (Unit × zM)} {K : Unit → zM → Option (α × zM)} (hM : zMet zQv SH y bytes maxL rt d' As u Fc) (hR : d' + 1 ≤ d) (hstk : stk = As.reverse ++ st) (w1 : Cond.methodLink own index y ∈ zTb) (hw : zWs y bytes maxL rt As.length) (h8 : (st.map fun v => v.category).sum ≤ 8) (hdg : decode cc pc = .ok (.invokestatic index, 3)) (k : ∀ (x : Unit) (v : zM), Go p l e s m args below meth c as dA D SH d nL Qk (pc + 3) L st v (K x v)) : Go p l e s m args below meth c as dA D SH d nL Qk pc L stk u (zb Fc K) := by
  obtain ⟨hx, hb, hml, hown, hts, hr, hlk, hK, hI, hZ, hd1⟩ := C
  obtain ⟨w2, w4, w5, hm, hdsc⟩ := hw
  intro r u' hF H locs ls hP hS hl
  obtain ⟨x0, u0, hFc, hF⟩ := zb_some hF
  have hm0 := hM x0 u0 hFc l as dA D H.size
  have hA0 := zA_in (as := as) (n := SH.length) hS.1
  refine va_callv (va_runS (As := As.map (zr as)) (rest := st.map (zr as)) ⟨hx, hb, hml, hown, hts⟩ hm0 (zcwS As.length hts hR w1 w2 w4 w5 hm hdsc) ⟨zPre_blind, fun U hU hW => ⟨rfl, zPre_at hK hI hZ hP hS hU hW⟩⟩ rfl (List.length_map _) hl.1 (by rw [hstk]; exact zmapS) (lv_room (zsum8 h8)) hdg ⟨Nat.zero_le _, Nat.zero_le _⟩) hS (fun q _ h => hA0 q h) hA0 (fun v0 t H1 locs1 ht hvm hw hB hz1 hk1 hS1 => ?_)
  cases x0
  subst hw
  obtain ⟨hP1, hK1⟩ := hB
  rw [ht] at hP1
  exact k () v0 r u' hF H1 locs1 ls hP1 hS1 hl
theorem G_callNv (C : zCx p s m args meth c as dA D SH d nL own cc ret) {y : MethodName} {bytes : ByteArray} {maxL index d' : Nat} {rt : Option FieldType} {As : List Value} {stk : List Value} {Fc : Option (Unit × zM)} {K : Unit → zM → Option (α × zM)} {host : String} (hM : zMet zQv SH y bytes maxL rt d' As u Fc) (hR : d' + 1 ≤ d) (hstk : stk = As.reverse ++ st) (w1 : Cond.methodLinkNest own index y host ∈ zNest) (hw : zWs y bytes maxL rt As.length) (h8 : (st.map fun v => v.category).sum ≤ 8) (hdg : decode cc pc = .ok (.invokestatic index, 3)) (k : ∀ (x : Unit) (v : zM), Go p l e s m args below meth c as dA D SH d nL Qk (pc + 3) L st v (K x v)) : Go p l e s m args below meth c as dA D SH d nL Qk pc L stk u (zb Fc K) := by
  obtain ⟨hx, hb, hml, hown, hts, hr, hlk, hK, hI, hZ, hd1⟩ := C
  obtain ⟨w2, w4, w5, hm, hdsc⟩ := hw
  intro r u' hF H locs ls hP hS hl
  obtain ⟨x0, u0, hFc, hF⟩ := zb_some hF
  have hm0 := hM x0 u0 hFc l as dA D H.size
  have hA0 := zA_in (as := as) (n := SH.length) hS.1
  refine va_callv (va_runSN (As := As.map (zr as)) (rest := st.map (zr as)) ⟨hx, hb, hml, hown, hts⟩ hm0 (zcwN As.length hts hR (hZ.1 _ w1) w2 w4 w5 hm hdsc) ⟨zPre_blind, fun U hU hW => ⟨rfl, zPre_at hK hI hZ hP hS hU hW⟩⟩ rfl (List.length_map _) hl.1 (by rw [hstk]; exact zmapS) (lv_room (zsum8 h8)) hdg ⟨Nat.zero_le _, Nat.zero_le _⟩) hS (fun q _ h => hA0 q h) hA0 (fun v0 t H1 locs1 ht hvm hw hB hz1 hk1 hS1 => ?_)
  cases x0
  subst hw
  obtain ⟨hP1, hK1⟩ := hB
  rw [ht] at hP1
  exact k () v0 r u' hF H1 locs1 ls hP1 hS1 hl
theorem G_callVr (C : zCx p s m args meth c as dA D SH d nL own cc ret) {y : MethodName} {bytes : ByteArray} {maxL index d' : Nat} {rt : Option FieldType} {As : List Value} {stk : List Value} {Fc : Option (Nat × zM)} {K : Nat → zM → Option (α × zM)} {a ci : Nat} {ks : List Nat} {T : u_T} {N : Nat} (hM : zMet zQr SH y bytes maxL rt d' (.ref a :: As) u Fc) (hR : d' + 1 ≤ d) (hstk : stk = As.reverse ++ .ref a :: st) (w1 : Cond.methodLink own index y ∈ zTb) (hw : zWv y bytes maxL rt As.length) (hs : SH[a]? = some (.inl (ci, ks))) (hc : zcl[ci]? = some (y.cls, T, N)) (h8 : (st.map fun v => v.category).sum ≤ 8) (hdg : decode cc pc = .ok (.invokevirtual index, 3)) (k : ∀ (x : Nat) (v : zM), Go p l e s m args below meth c as dA D SH d nL Qk (pc + 3) L (.ref x :: st) v (K x v)) : Go p l e s m args below meth c as dA D SH d nL Qk pc L stk u (zb Fc K) := by
  obtain ⟨hx, hb, hml, hown, hts, hr, hlk, hK, hI, hZ, hd1⟩ := C
  obtain ⟨w2, w3, w4, w5, hm, hdsc⟩ := hw
  intro r u' hF H locs ls hP hS hl
  obtain ⟨x0, u0, hFc, hF⟩ := zb_some hF
  have hm0 := hM x0 u0 hFc l as dA D H.size
  have hA0 := zA_in (as := as) (n := SH.length) hS.1
  refine va_callr (va_runV (As := As.map (zr as)) (rest := st.map (zr as)) ⟨hx, hb, hml, hown, hts⟩ hm0 (zcwV As.length hts hR w1 w2 w3 w4 w5 hm hdsc) ⟨zPre_blind, va_recv hK hP hc (zw_obj hs), fun U hU hW => ⟨rfl, zPre_at hK hI hZ hP hS hU hW⟩⟩ rfl (List.length_map _) hl.1 (by rw [hstk]; exact zmapA) (lv_room (zsum8 h8)) hdg ⟨Nat.zero_le _, Nat.zero_le _⟩) hS (fun q _ h => hA0 q h) hA0 (fun v0 ra t H1 locs1 ht hvm hw hB hz1 hk1 hS1 => ?_)
  subst hw
  obtain ⟨rfl, hB⟩ := hB
  obtain ⟨hP1, hK1⟩ := hB
  rw [ht] at hP1
  exact k x0 v0 r u' hF H1 locs1 ls hP1 hS1 hl
theorem G_callSr (C : zCx p s m args meth c as dA D SH d nL own cc ret) {y : MethodName} {bytes : ByteArray} {maxL index d' : Nat} {rt : Option FieldType} {As : List Value} {stk : List Value} {Fc : Option (Nat × zM)} {K : Nat → zM → Option (α × zM)} (hM : zMet zQr SH y bytes maxL rt d' As u Fc) (hR : d' + 1 ≤ d) (hstk : stk = As.reverse ++ st) (w1 : Cond.methodLink own index y ∈ zTb) (hw : zWs y bytes maxL rt As.length) (h8 : (st.map fun v => v.category).sum ≤ 8) (hdg : decode cc pc = .ok (.invokestatic index, 3)) (k : ∀ (x : Nat) (v : zM), Go p l e s m args below meth c as dA D SH d nL Qk (pc + 3) L (.ref x :: st) v (K x v)) : Go p l e s m args below meth c as dA D SH d nL Qk pc L stk u (zb Fc K) := by
  obtain ⟨hx, hb, hml, hown, hts, hr, hlk, hK, hI, hZ, hd1⟩ := C
  obtain ⟨w2, w4, w5, hm, hdsc⟩ := hw
  intro r u' hF H locs ls hP hS hl
  obtain ⟨x0, u0, hFc, hF⟩ := zb_some hF
  have hm0 := hM x0 u0 hFc l as dA D H.size
  have hA0 := zA_in (as := as) (n := SH.length) hS.1
  refine va_callr (va_runS (As := As.map (zr as)) (rest := st.map (zr as)) ⟨hx, hb, hml, hown, hts⟩ hm0 (zcwS As.length hts hR w1 w2 w4 w5 hm hdsc) ⟨zPre_blind, fun U hU hW => ⟨rfl, zPre_at hK hI hZ hP hS hU hW⟩⟩ rfl (List.length_map _) hl.1 (by rw [hstk]; exact zmapS) (lv_room (zsum8 h8)) hdg ⟨Nat.zero_le _, Nat.zero_le _⟩) hS (fun q _ h => hA0 q h) hA0 (fun v0 ra t H1 locs1 ht hvm hw hB hz1 hk1 hS1 => ?_)
  subst hw
  obtain ⟨rfl, hB⟩ := hB
  obtain ⟨hP1, hK1⟩ := hB
  rw [ht] at hP1
  exact k x0 v0 r u' hF H1 locs1 ls hP1 hS1 hl
theorem zMet_of {α : Type} {Qk : (Nat → Nat) → (Nat → ClassId) → va_G → List zS → Nat → α → zM → Array Value → State → Outcome → State → Prop} {y : MethodName} {bytes : ByteArray} {maxL : Nat} {rt : Option FieldType} {av : List Value} {F : Option (α × zM)} (hy : plainName y.cls = true) (hlen : ∀ as : Nat → Nat, (lg_sl (av.map (zr as))).length ≤ maxL) (hw5 : Cond.code y bytes maxL rt ∈ zTb) (hd1 : 1 ≤ d)
    (body : ∀ (p : Program) (l : Launch) (e : Env) (s : State) (m : MethodId) (args : Array Value) (below : List Frame) (meth : Method) (c : Code) (as : Nat → Nat) (dA : Nat → ClassId) (D : va_G), zCx p s m args meth c as dA D SH d maxL y.cls bytes rt → Go p l e s m args below meth c as dA D SH d maxL Qk 0 (lv_args 0 av) [] u F) : zMet Qk SH y bytes maxL rt d av u F := by
  intro r u' hF l as dA D sz
  refine Met.ofW (cc := bytes) (maxL := maxL) (ret := rt) hy rfl ?_
  intro p e s m args below meth c s₁ B hml hv
  obtain ⟨rfl, hsz, hP, hK, hI, hZ⟩ := hv
  subst hsz
  have hts0 := atoms_spec (ws := .code y bytes maxL rt :: zTb) B.pre
  have hts : ∀ w ∈ zTb, w.before ((av.map (zr as)).toArray) s = true := fun w hw => hts0 w (List.mem_cons_of_mem _ hw)
  have hown : s.vm.findClass y.cls = some m.cls := findClass_of_methodNamed B.named
  have hl := lv_entry (av.map (zr as)) (n := maxL) (hlen as)
  rw [lg_entry_eq]
  generalize (lg_sl (av.map (zr as)) ++ List.replicate (maxL - (lg_sl (av.map (zr as))).length) Slot.unset).toArray = ls at hl ⊢
  have hl2 : lv_has ls maxL (zL as (lv_args 0 av)) := by
    have hz : ∀ (i : Nat) (av : List Value), lv_args i (av.map (zr as)) = zL as (lv_args i av) := by
      intro i av
      induction av generalizing i with
      | nil => rfl
      | cons v vs ih =>
        show (i, zr as v) :: lv_args (if (zr as v).category = 2 then i + 2 else i + 1) (vs.map (zr as)) = (i, zr as v) :: zL as (lv_args (if v.category = 2 then i + 2 else i + 1) vs)
        rw [zr_cat, ih]
    rw [← hz]
    exact hl
  exact body p l e s m _ below meth c as dA D ⟨B.exec, B.bytes, hml, hown, hts, B.returns, B.notSynchronized, hK, hI, hZ, hd1⟩ r u' hF s.heap [] ls hP va_S.rf hl2
end GoCalls
