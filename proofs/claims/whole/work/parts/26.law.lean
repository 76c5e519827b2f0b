/-! ===== the law's rules, and its calls ===== -/
def zSim (Rel : zM → zM → Prop) {α : Type} (fx fm : zM → Option (α × zM)) : Prop := ∀ uX uM, Rel uX uM → ∃ r uX' uM', fx uX = some (r, uX') ∧ fm uM = some (r, uM') ∧ Rel uX' uM'
def lwA (s : State) : Nat → Prop := fun q => s.heap.size ≤ q
def LwC (p : Program) (s : State) (m : MethodId) (c : Code) (b Ln : Nat) (xs : Nat → Int32) (aX aM : Nat → Nat) (dA : Nat → ClassId) (D : va_G) : Prop :=
  p.tables.exec = Jvm.exec ∧ c.code = code ∧ c.maxLocals = 4 ∧ s.vm.findClass "StruckWhileLaw" = some m.cls ∧ (∀ w ∈ zTb, w.before #[Value.ref b] s = true) ∧ va_X b Ln xs s s.heap ∧ b < s.heap.size ∧ va_K D zcl (zty dA) s ∧ zInj aX SHX.length ∧ zInj aM SHM.length ∧ (∀ i, i < SHX.length → s.heap.size ≤ aX i) ∧ (∀ i, i < SHM.length → s.heap.size ≤ aM i) ∧ (∀ i j, i < SHX.length → j < SHM.length → aX i ≠ aM j) ∧ zSt aX (lwA s) s ∧ zSt aM (lwA s) s
def lwCells : Nat := 145
def lwSlots : Nat := 3591
def GoL (p : Program) (l : Launch) (e : Env) (s : State) (m : MethodId) (below : List Frame) (meth : Method) (c : Code) (b : Nat) (aX aM : Nat → Nat) (dA : Nat → ClassId) (D : va_G) (x3 : Int32) (pc : Nat) (st : List Value) (uX uM : zM) : Prop :=
  ∀ (H : Heap) (locs : List Loc) (ls : Array Slot), va_P D zcl (zw aX dA SHX uX) H → va_P D zcl (zw aM dA SHM uM) H → va_S (lwA s) s.heap H locs → lv_has ls 4 [(0, .ref b), (1, .ref (aX 0)), (2, .ref (aM 0)), (3, .int x3)] →
    W p l e room_1 s m #[Value.ref b] below meth c H locs lwCells lwSlots (lw_Z below #[Value.ref b] s) (F0 m pc ls st)
section Law
variable {p : Program} {l : Launch} {e : Env} {s : State} {m : MethodId} {below : List Frame} {meth : Method} {c : Code} {b Ln : Nat} {xs : Nat → Int32} {aX aM : Nat → Nat} {dA : Nat → ClassId} {D : va_G} {x3 : Int32} {pc : Nat} {st : List Value} {uX uM : zM}
theorem L_aload0 (C : LwC p s m c b Ln xs aX aM dA D) (hdg : decode code pc = .ok (.aload_n 0, 1)) (k : GoL p l e s m below meth c b aX aM dA D x3 (pc + 1) (.ref b :: st) uX uM) : GoL p l e s m below meth c b aX aM dA D x3 pc st uX uM := by
  obtain ⟨hx, hb, hml, hown, hts, hX, hbl, hK, hIX, hIM, hgX, hgM, hdis, hZX, hZM⟩ := C
  intro H locs ls hPX hPM hS hl
  exact lv_aload_n hx hb hdg rfl (lv_at hl 0 rfl) (k H locs ls hPX hPM hS hl)
theorem L_aload1 (C : LwC p s m c b Ln xs aX aM dA D) (hdg : decode code pc = .ok (.aload_n 1, 1)) (k : GoL p l e s m below meth c b aX aM dA D x3 (pc + 1) (.ref (aX 0) :: st) uX uM) : GoL p l e s m below meth c b aX aM dA D x3 pc st uX uM := by
  obtain ⟨hx, hb, hml, hown, hts, hX, hbl, hK, hIX, hIM, hgX, hgM, hdis, hZX, hZM⟩ := C
  intro H locs ls hPX hPM hS hl
  exact lv_aload_n hx hb hdg rfl (lv_at hl 1 rfl) (k H locs ls hPX hPM hS hl)
theorem L_aload2 (C : LwC p s m c b Ln xs aX aM dA D) (hdg : decode code pc = .ok (.aload_n 2, 1)) (k : GoL p l e s m below meth c b aX aM dA D x3 (pc + 1) (.ref (aM 0) :: st) uX uM) : GoL p l e s m below meth c b aX aM dA D x3 pc st uX uM := by
  obtain ⟨hx, hb, hml, hown, hts, hX, hbl, hK, hIX, hIM, hgX, hgM, hdis, hZX, hZM⟩ := C
  intro H locs ls hPX hPM hS hl
  exact lv_aload_n hx hb hdg rfl (lv_at hl 2 rfl) (k H locs ls hPX hPM hS hl)
theorem L_iload3 (C : LwC p s m c b Ln xs aX aM dA D) (hdg : decode code pc = .ok (.iload_n 3, 1)) (k : GoL p l e s m below meth c b aX aM dA D x3 (pc + 1) (.int x3 :: st) uX uM) : GoL p l e s m below meth c b aX aM dA D x3 pc st uX uM := by
  obtain ⟨hx, hb, hml, hown, hts, hX, hbl, hK, hIX, hIM, hgX, hgM, hdis, hZX, hZM⟩ := C
  intro H locs ls hPX hPM hS hl
  exact lv_iload_n hx hb hdg rfl (lv_at hl 3 rfl) (k H locs ls hPX hPM hS hl)
theorem L_iconst (C : LwC p s m c b Ln xs aX aM dA D) {n : Int} {v : Int32} (hdg : decode code pc = .ok (.iconst n, 1)) (hv : Int32.ofInt n = v) (k : GoL p l e s m below meth c b aX aM dA D x3 (pc + 1) (.int v :: st) uX uM) : GoL p l e s m below meth c b aX aM dA D x3 pc st uX uM := by
  obtain ⟨hx, hb, hml, hown, hts, hX, hbl, hK, hIX, hIM, hgX, hgM, hdis, hZX, hZM⟩ := C
  intro H locs ls hPX hPM hS hl
  exact lv_iconst hx hb hdg hv (k H locs ls hPX hPM hS hl)
theorem L_bipush (C : LwC p s m c b Ln xs aX aM dA D) {n : Int} {v : Int32} (hdg : decode code pc = .ok (.bipush n, 2)) (hv : (Int8.ofInt n).toInt32 = v) (k : GoL p l e s m below meth c b aX aM dA D x3 (pc + 2) (.int v :: st) uX uM) : GoL p l e s m below meth c b aX aM dA D x3 pc st uX uM := by
  obtain ⟨hx, hb, hml, hown, hts, hX, hbl, hK, hIX, hIM, hgX, hgM, hdis, hZX, hZM⟩ := C
  intro H locs ls hPX hPM hS hl
  exact lv_bipush hx hb hdg hv (k H locs ls hPX hPM hS hl)
theorem L_iadd (C : LwC p s m c b Ln xs aX aM dA D) {x y : Int32} (hdg : decode code pc = .ok (.iadd, 1)) (k : GoL p l e s m below meth c b aX aM dA D x3 (pc + 1) (.int (x + y) :: st) uX uM) : GoL p l e s m below meth c b aX aM dA D x3 pc (.int y :: .int x :: st) uX uM := by
  obtain ⟨hx, hb, hml, hown, hts, hX, hbl, hK, hIX, hIM, hgX, hgM, hdis, hZX, hZM⟩ := C
  intro H locs ls hPX hPM hS hl
  exact lv_iadd hx hb hdg (k H locs ls hPX hPM hS hl)
theorem L_iand (C : LwC p s m c b Ln xs aX aM dA D) {x y : Int32} (hdg : decode code pc = .ok (.iand, 1)) (k : GoL p l e s m below meth c b aX aM dA D x3 (pc + 1) (.int (x &&& y) :: st) uX uM) : GoL p l e s m below meth c b aX aM dA D x3 pc (.int y :: .int x :: st) uX uM := by
  obtain ⟨hx, hb, hml, hown, hts, hX, hbl, hK, hIX, hIM, hgX, hgM, hdis, hZX, hZM⟩ := C
  intro H locs ls hPX hPM hS hl
  exact lv_iand hx hb hdg (k H locs ls hPX hPM hS hl)
theorem L_isub (C : LwC p s m c b Ln xs aX aM dA D) {x y : Int32} (hdg : decode code pc = .ok (.isub, 1)) (k : GoL p l e s m below meth c b aX aM dA D x3 (pc + 1) (.int (x - y) :: st) uX uM) : GoL p l e s m below meth c b aX aM dA D x3 pc (.int y :: .int x :: st) uX uM := by
  obtain ⟨hx, hb, hml, hown, hts, hX, hbl, hK, hIX, hIM, hgX, hgM, hdis, hZX, hZM⟩ := C
  intro H locs ls hPX hPM hS hl
  exact lv_isub hx hb hdg (k H locs ls hPX hPM hS hl)
theorem L_i2l (C : LwC p s m c b Ln xs aX aM dA D) {x : Int32} (hdg : decode code pc = .ok (.i2l, 1)) (k : GoL p l e s m below meth c b aX aM dA D x3 (pc + 1) (.long x.toInt64 :: st) uX uM) : GoL p l e s m below meth c b aX aM dA D x3 pc (.int x :: st) uX uM := by
  obtain ⟨hx, hb, hml, hown, hts, hX, hbl, hK, hIX, hIM, hgX, hgM, hdis, hZX, hZM⟩ := C
  intro H locs ls hPX hPM hS hl
  exact lv_i2l hx hb hdg rfl (k H locs ls hPX hPM hS hl)
theorem L_lshl (C : LwC p s m c b Ln xs aX aM dA D) {x : Int64} {y : Int32} (hdg : decode code pc = .ok (.lshl, 1)) (k : GoL p l e s m below meth c b aX aM dA D x3 (pc + 1) (.long (x <<< (y.toInt64 &&& 63)) :: st) uX uM) : GoL p l e s m below meth c b aX aM dA D x3 pc (.int y :: .long x :: st) uX uM := by
  obtain ⟨hx, hb, hml, hown, hts, hX, hbl, hK, hIX, hIM, hgX, hgM, hdis, hZX, hZM⟩ := C
  intro H locs ls hPX hPM hS hl
  exact lv_lshl hx hb hdg rfl (k H locs ls hPX hPM hS hl)
theorem L_land (C : LwC p s m c b Ln xs aX aM dA D) {x y : Int64} (hdg : decode code pc = .ok (.land, 1)) (k : GoL p l e s m below meth c b aX aM dA D x3 (pc + 1) (.long (x &&& y) :: st) uX uM) : GoL p l e s m below meth c b aX aM dA D x3 pc (.long y :: .long x :: st) uX uM := by
  obtain ⟨hx, hb, hml, hown, hts, hX, hbl, hK, hIX, hIM, hgX, hgM, hdis, hZX, hZM⟩ := C
  intro H locs ls hPX hPM hS hl
  exact lv_land hx hb hdg (k H locs ls hPX hPM hS hl)
theorem L_lor (C : LwC p s m c b Ln xs aX aM dA D) {x y : Int64} (hdg : decode code pc = .ok (.lor, 1)) (k : GoL p l e s m below meth c b aX aM dA D x3 (pc + 1) (.long (x ||| y) :: st) uX uM) : GoL p l e s m below meth c b aX aM dA D x3 pc (.long y :: .long x :: st) uX uM := by
  obtain ⟨hx, hb, hml, hown, hts, hX, hbl, hK, hIX, hIM, hgX, hgM, hdis, hZX, hZM⟩ := C
  intro H locs ls hPX hPM hS hl
  exact lv_lor hx hb hdg (k H locs ls hPX hPM hS hl)
theorem L_ldc2 (C : LwC p s m c b Ln xs aX aM dA D) {index : Nat} {v : Int64} (hdg : decode code pc = .ok (.ldc2_w index, 3)) (hc : Cond.constantLong "StruckWhileLaw" index v ∈ zTb) (k : GoL p l e s m below meth c b aX aM dA D x3 (pc + 3) (.long v :: st) uX uM) : GoL p l e s m below meth c b aX aM dA D x3 pc st uX uM := by
  obtain ⟨hx, hb, hml, hown, hts, hX, hbl, hK, hIX, hIM, hgX, hgM, hdis, hZX, hZM⟩ := C
  intro H locs ls hPX hPM hS hl
  exact lv_ldc2 hx hb hown (hts _ hc) hdg (k H locs ls hPX hPM hS hl)
theorem L_goto (C : LwC p s m c b Ln xs aX aM dA D) {off : Int} {tgt : Nat} (hdg : decode code pc = .ok (.goto off, 3)) (ht : (pc : Int) + off = (tgt : Int)) (k : GoL p l e s m below meth c b aX aM dA D x3 tgt st uX uM) : GoL p l e s m below meth c b aX aM dA D x3 pc st uX uM := by
  obtain ⟨hx, hb, hml, hown, hts, hX, hbl, hK, hIX, hIM, hgX, hgM, hdis, hZX, hZM⟩ := C
  intro H locs ls hPX hPM hS hl
  exact lv_goto hx hb hdg ht (k H locs ls hPX hPM hS hl)
theorem L_sld (C : LwC p s m c b Ln xs aX aM dA D) {i : Int32} (hin : vp_in i Ln) (hdg : decode code pc = .ok (.iaload, 1)) (k : GoL p l e s m below meth c b aX aM dA D x3 (pc + 1) (.int (xs i.toNatClampNeg) :: st) uX uM) : GoL p l e s m below meth c b aX aM dA D x3 pc (.int i :: .ref b :: st) uX uM := by
  obtain ⟨hx, hb, hml, hown, hts, hX, hbl, hK, hIX, hIM, hgX, hgM, hdis, hZX, hZM⟩ := C
  intro H locs ls hPX hPM hS hl
  exact va_sld hx hb hX hbl (Nat.not_le.mpr hbl) hS hin hdg (k H locs ls hPX hPM hS hl)
theorem L_slen (C : LwC p s m c b Ln xs aX aM dA D) (hdg : decode code pc = .ok (.arraylength, 1)) (k : GoL p l e s m below meth c b aX aM dA D x3 (pc + 1) (.int (nI Ln) :: st) uX uM) : GoL p l e s m below meth c b aX aM dA D x3 pc (.ref b :: st) uX uM := by
  obtain ⟨hx, hb, hml, hown, hts, hX, hbl, hK, hIX, hIM, hgX, hgM, hdis, hZX, hZM⟩ := C
  intro H locs ls hPX hPM hS hl
  exact va_slen hx hb hX hbl (Nat.not_le.mpr hbl) hS hdg (k H locs ls hPX hPM hS hl)
theorem L_same (C : LwC p s m c b Ln xs aX aM dA D) {x : Int32} {off : Int} {tgt : Nat} (hdg : decode code pc = .ok (.if_icmp .eq off, 3)) (ht : (pc : Int) + off = (tgt : Int)) (k : GoL p l e s m below meth c b aX aM dA D x3 tgt st uX uM) : GoL p l e s m below meth c b aX aM dA D x3 pc (.int x :: .int x :: st) uX uM := by
  obtain ⟨hx, hb, hml, hown, hts, hX, hbl, hK, hIX, hIM, hgX, hgM, hdis, hZX, hZM⟩ := C
  intro H locs ls hPX hPM hS hl
  exact lv_icmp_eq hx hb hdg ht (fun _ => k H locs ls hPX hPM hS hl) (fun h => absurd rfl h)
theorem L_lsame (C : LwC p s m c b Ln xs aX aM dA D) {x : Int64} {off : Int} {tgt : Nat} (hd1 : decode code pc = .ok (.lcmp, 1)) (hdg : decode code (pc + 1) = .ok (.ifCond .eq off, 3)) (ht : ((pc + 1 : Nat) : Int) + off = (tgt : Int)) (k : GoL p l e s m below meth c b aX aM dA D x3 tgt st uX uM) : GoL p l e s m below meth c b aX aM dA D x3 pc (.long x :: .long x :: st) uX uM := by
  obtain ⟨hx, hb, hml, hown, hts, hX, hbl, hK, hIX, hIM, hgX, hgM, hdis, hZX, hZM⟩ := C
  intro H locs ls hPX hPM hS hl
  refine W.lcmp hx hb hd1 ?_
  have h0 : lg_cmp x x = 0 := by unfold lg_cmp; simp
  rw [h0]
  exact lv_if_eq hx hb hdg ht (fun _ => k H locs ls hPX hPM hS hl) (fun h => absurd rfl h)
theorem L_if (C : LwC p s m c b Ln xs aX aM dA D) {x : Int32} {off : Int} {tgt : Nat} (hdg : decode code pc = .ok (.ifCond .eq off, 3)) (ht : (pc : Int) + off = (tgt : Int)) (k1 : x = 0 → GoL p l e s m below meth c b aX aM dA D x3 tgt st uX uM) (k2 : ¬ x = 0 → GoL p l e s m below meth c b aX aM dA D x3 (pc + 3) st uX uM) : GoL p l e s m below meth c b aX aM dA D x3 pc (.int x :: st) uX uM := by
  obtain ⟨hx, hb, hml, hown, hts, hX, hbl, hK, hIX, hIM, hgX, hgM, hdis, hZX, hZM⟩ := C
  intro H locs ls hPX hPM hS hl
  exact lv_if_eq hx hb hdg ht (fun h => k1 h H locs ls hPX hPM hS hl) (fun h => k2 h H locs ls hPX hPM hS hl)
/-- a call on one of the two systems: the other's cells stay -/
theorem zP_other {as as2 : Nat → Nat} {SH SH2 : List zS} {u2 : zM} {H H1 : Heap} (hP2 : va_P D zcl (zw as2 dA SH2 u2) H) (hdis : ∀ i j, i < SH.length → j < SH2.length → as i ≠ as2 j) (hk1 : ∀ q : Nat, q < H.size → ¬ zA as SH.length H.size q → H1[q]? = H[q]?) : va_P D zcl (zw as2 dA SH2 u2) H1 := by
  refine hP2.kept (fun k q hk => ?_)
  have hlt := (hP2 k q hk).lt
  obtain ⟨S, hS, rfl⟩ := zw_has hk
  refine hk1 _ hlt (fun h => ?_)
  rcases h with ⟨i, hi, e⟩ | h
  · exact hdis i k hi (List.getElem?_eq_some_iff.mp hS).1 e.symm
  · exact absurd hlt (Nat.not_lt.mpr h)
theorem zA_lw {as : Nat → Nat} {SH : List zS} {H : Heap} (hg : ∀ i, i < SH.length → s.heap.size ≤ as i) (hs : s.heap.size ≤ H.size) : ∀ q, zA as SH.length H.size q → lwA s q := fun q h => h.elim (fun ⟨i, hi, e⟩ => by rw [e]; exact hg i hi) (fun h => Nat.le_trans hs h)
theorem L_callXi (C : LwC p s m c b Ln xs aX aM dA D) {y : MethodName} {bytes : ByteArray} {maxL index ci : Nat} {rt : Option FieldType} {As stk : List Value} {Fc : Option (Int32 × zM)} {r : Int32} {u' : zM} {ks : List Nat} {T : u_T} {N : Nat} (hM : zMet zQi SHX y bytes maxL rt 100 (.ref 0 :: As) uX Fc) (hF : Fc = some (r, u')) (hAs : As.map (zr aX) = As) (hstk : stk = As.reverse ++ .ref (aX 0) :: st) (w1 : Cond.methodLink "StruckWhileLaw" index y ∈ zTb) (hw : zWv y bytes maxL rt As.length) (hs0 : SHX[0]? = some (.inl (ci, ks))) (hc : zcl[ci]? = some (y.cls, T, N)) (h8 : (st.map fun v => v.category).sum ≤ 8) (hdg : decode code pc = .ok (.invokevirtual index, 3)) (k : GoL p l e s m below meth c b aX aM dA D x3 (pc + 3) (.int r :: st) u' uM) : GoL p l e s m below meth c b aX aM dA D x3 pc stk uX uM := by
  obtain ⟨w2, w3, w4, w5, hm, hdsc⟩ := hw
  obtain ⟨hx, hb, hml, hown, hts, hX, hbl, hK, hIX, hIM, hgX, hgM, hdis, hZX, hZM⟩ := C
  intro H locs ls hPX hPM hS hl
  have hm0 := hM r u' hF l aX dA D H.size
  rw [show (Value.ref 0 :: As).map (zr aX) = Value.ref (aX 0) :: As from congrArg _ hAs] at hm0
  have hA0 := zA_lw (H := H) hgX hS.1
  refine va_calli (va_runV (As := As) (rest := st) ⟨hx, hb, hml, hown, hts⟩ hm0 (cwV As.length hts (zgood_of (fun w hw => by
    unfold wsV at hw
    rcases List.mem_append.mp hw with h | h
    · simp only [List.mem_cons, List.not_mem_nil, or_false] at h
      rcases h with h | h | h | h <;> subst h <;> assumption
    · rcases List.mem_cons.mp h with h | h
      · subst h; exact w5
      · exact h)) rfl rfl rfl ⟨rfl, hdsc⟩ ⟨by decide, by show 8 + (maxL + 11) + 64 * 100 ≤ 84000; omega⟩) ⟨zPre_blind, va_recv hK hPX hc (zw_obj hs0), fun U hU hW => ⟨rfl, by rw [hU], by rw [hU]; exact hPX, hK.moved hW.alike, hIX, hZX.call hU hW hS hA0⟩⟩ rfl rfl hl.1 hstk (lv_room h8) hdg ⟨by decide, by decide⟩) hS (fun q _ h => hA0 q h) hA0 (fun r0 v0 t H1 locs1 ht hvm hw hB hz1 hk1 hS1 => ?_)
  obtain ⟨rfl, rfl⟩ := hw
  obtain ⟨hP1, hK1⟩ := hB
  rw [ht] at hP1
  exact k H1 locs1 ls hP1 (zP_other hPM hdis hk1) hS1 hl
theorem L_callMi (C : LwC p s m c b Ln xs aX aM dA D) {y : MethodName} {bytes : ByteArray} {maxL index ci : Nat} {rt : Option FieldType} {As stk : List Value} {Fc : Option (Int32 × zM)} {r : Int32} {u' : zM} {ks : List Nat} {T : u_T} {N : Nat} (hM : zMet zQi SHM y bytes maxL rt 100 (.ref 0 :: As) uM Fc) (hF : Fc = some (r, u')) (hAs : As.map (zr aM) = As) (hstk : stk = As.reverse ++ .ref (aM 0) :: st) (w1 : Cond.methodLink "StruckWhileLaw" index y ∈ zTb) (hw : zWv y bytes maxL rt As.length) (hs0 : SHM[0]? = some (.inl (ci, ks))) (hc : zcl[ci]? = some (y.cls, T, N)) (h8 : (st.map fun v => v.category).sum ≤ 8) (hdg : decode code pc = .ok (.invokevirtual index, 3)) (k : GoL p l e s m below meth c b aX aM dA D x3 (pc + 3) (.int r :: st) uX u') : GoL p l e s m below meth c b aX aM dA D x3 pc stk uX uM := by
  obtain ⟨w2, w3, w4, w5, hm, hdsc⟩ := hw
  obtain ⟨hx, hb, hml, hown, hts, hX, hbl, hK, hIX, hIM, hgX, hgM, hdis, hZX, hZM⟩ := C
  intro H locs ls hPX hPM hS hl
  have hm0 := hM r u' hF l aM dA D H.size
  rw [show (Value.ref 0 :: As).map (zr aM) = Value.ref (aM 0) :: As from congrArg _ hAs] at hm0
  have hA0 := zA_lw (H := H) hgM hS.1
  refine va_calli (va_runV (As := As) (rest := st) ⟨hx, hb, hml, hown, hts⟩ hm0 (cwV As.length hts (zgood_of (fun w hw => by
    unfold wsV at hw
    rcases List.mem_append.mp hw with h | h
    · simp only [List.mem_cons, List.not_mem_nil, or_false] at h
      rcases h with h | h | h | h <;> subst h <;> assumption
    · rcases List.mem_cons.mp h with h | h
      · subst h; exact w5
      · exact h)) rfl rfl rfl ⟨rfl, hdsc⟩ ⟨by decide, by show 8 + (maxL + 11) + 64 * 100 ≤ 84000; omega⟩) ⟨zPre_blind, va_recv hK hPM hc (zw_obj hs0), fun U hU hW => ⟨rfl, by rw [hU], by rw [hU]; exact hPM, hK.moved hW.alike, hIM, hZM.call hU hW hS hA0⟩⟩ rfl rfl hl.1 hstk (lv_room h8) hdg ⟨by decide, by decide⟩) hS (fun q _ h => hA0 q h) hA0 (fun r0 v0 t H1 locs1 ht hvm hw hB hz1 hk1 hS1 => ?_)
  obtain ⟨rfl, rfl⟩ := hw
  obtain ⟨hP1, hK1⟩ := hB
  rw [ht] at hP1
  exact k H1 locs1 ls (zP_other hPX (fun i j hi hj h => hdis j i hj hi h.symm) hk1) hP1 hS1 hl
theorem L_callXl (C : LwC p s m c b Ln xs aX aM dA D) {y : MethodName} {bytes : ByteArray} {maxL index ci : Nat} {rt : Option FieldType} {As stk : List Value} {Fc : Option (Int64 × zM)} {r : Int64} {u' : zM} {ks : List Nat} {T : u_T} {N : Nat} (hM : zMet zQl SHX y bytes maxL rt 100 (.ref 0 :: As) uX Fc) (hF : Fc = some (r, u')) (hAs : As.map (zr aX) = As) (hstk : stk = As.reverse ++ .ref (aX 0) :: st) (w1 : Cond.methodLink "StruckWhileLaw" index y ∈ zTb) (hw : zWv y bytes maxL rt As.length) (hs0 : SHX[0]? = some (.inl (ci, ks))) (hc : zcl[ci]? = some (y.cls, T, N)) (h8 : (st.map fun v => v.category).sum ≤ 8) (hdg : decode code pc = .ok (.invokevirtual index, 3)) (k : GoL p l e s m below meth c b aX aM dA D x3 (pc + 3) (.long r :: st) u' uM) : GoL p l e s m below meth c b aX aM dA D x3 pc stk uX uM := by
  obtain ⟨w2, w3, w4, w5, hm, hdsc⟩ := hw
  obtain ⟨hx, hb, hml, hown, hts, hX, hbl, hK, hIX, hIM, hgX, hgM, hdis, hZX, hZM⟩ := C
  intro H locs ls hPX hPM hS hl
  have hm0 := hM r u' hF l aX dA D H.size
  rw [show (Value.ref 0 :: As).map (zr aX) = Value.ref (aX 0) :: As from congrArg _ hAs] at hm0
  have hA0 := zA_lw (H := H) hgX hS.1
  refine va_calll (va_runV (As := As) (rest := st) ⟨hx, hb, hml, hown, hts⟩ hm0 (cwV As.length hts (zgood_of (fun w hw => by
    unfold wsV at hw
    rcases List.mem_append.mp hw with h | h
    · simp only [List.mem_cons, List.not_mem_nil, or_false] at h
      rcases h with h | h | h | h <;> subst h <;> assumption
    · rcases List.mem_cons.mp h with h | h
      · subst h; exact w5
      · exact h)) rfl rfl rfl ⟨rfl, hdsc⟩ ⟨by decide, by show 8 + (maxL + 11) + 64 * 100 ≤ 84000; omega⟩) ⟨zPre_blind, va_recv hK hPX hc (zw_obj hs0), fun U hU hW => ⟨rfl, by rw [hU], by rw [hU]; exact hPX, hK.moved hW.alike, hIX, hZX.call hU hW hS hA0⟩⟩ rfl rfl hl.1 hstk (lv_room h8) hdg ⟨by decide, by decide⟩) hS (fun q _ h => hA0 q h) hA0 (fun r0 v0 t H1 locs1 ht hvm hw hB hz1 hk1 hS1 => ?_)
  obtain ⟨rfl, rfl⟩ := hw
  obtain ⟨hP1, hK1⟩ := hB
  rw [ht] at hP1
  exact k H1 locs1 ls hP1 (zP_other hPM hdis hk1) hS1 hl
theorem L_callMl (C : LwC p s m c b Ln xs aX aM dA D) {y : MethodName} {bytes : ByteArray} {maxL index ci : Nat} {rt : Option FieldType} {As stk : List Value} {Fc : Option (Int64 × zM)} {r : Int64} {u' : zM} {ks : List Nat} {T : u_T} {N : Nat} (hM : zMet zQl SHM y bytes maxL rt 100 (.ref 0 :: As) uM Fc) (hF : Fc = some (r, u')) (hAs : As.map (zr aM) = As) (hstk : stk = As.reverse ++ .ref (aM 0) :: st) (w1 : Cond.methodLink "StruckWhileLaw" index y ∈ zTb) (hw : zWv y bytes maxL rt As.length) (hs0 : SHM[0]? = some (.inl (ci, ks))) (hc : zcl[ci]? = some (y.cls, T, N)) (h8 : (st.map fun v => v.category).sum ≤ 8) (hdg : decode code pc = .ok (.invokevirtual index, 3)) (k : GoL p l e s m below meth c b aX aM dA D x3 (pc + 3) (.long r :: st) uX u') : GoL p l e s m below meth c b aX aM dA D x3 pc stk uX uM := by
  obtain ⟨w2, w3, w4, w5, hm, hdsc⟩ := hw
  obtain ⟨hx, hb, hml, hown, hts, hX, hbl, hK, hIX, hIM, hgX, hgM, hdis, hZX, hZM⟩ := C
  intro H locs ls hPX hPM hS hl
  have hm0 := hM r u' hF l aM dA D H.size
  rw [show (Value.ref 0 :: As).map (zr aM) = Value.ref (aM 0) :: As from congrArg _ hAs] at hm0
  have hA0 := zA_lw (H := H) hgM hS.1
  refine va_calll (va_runV (As := As) (rest := st) ⟨hx, hb, hml, hown, hts⟩ hm0 (cwV As.length hts (zgood_of (fun w hw => by
    unfold wsV at hw
    rcases List.mem_append.mp hw with h | h
    · simp only [List.mem_cons, List.not_mem_nil, or_false] at h
      rcases h with h | h | h | h <;> subst h <;> assumption
    · rcases List.mem_cons.mp h with h | h
      · subst h; exact w5
      · exact h)) rfl rfl rfl ⟨rfl, hdsc⟩ ⟨by decide, by show 8 + (maxL + 11) + 64 * 100 ≤ 84000; omega⟩) ⟨zPre_blind, va_recv hK hPM hc (zw_obj hs0), fun U hU hW => ⟨rfl, by rw [hU], by rw [hU]; exact hPM, hK.moved hW.alike, hIM, hZM.call hU hW hS hA0⟩⟩ rfl rfl hl.1 hstk (lv_room h8) hdg ⟨by decide, by decide⟩) hS (fun q _ h => hA0 q h) hA0 (fun r0 v0 t H1 locs1 ht hvm hw hB hz1 hk1 hS1 => ?_)
  obtain ⟨rfl, rfl⟩ := hw
  obtain ⟨hP1, hK1⟩ := hB
  rw [ht] at hP1
  exact k H1 locs1 ls (zP_other hPX (fun i j hi hj h => hdis j i hj hi h.symm) hk1) hP1 hS1 hl
/-- what is wanted of the two systems: each call keeps the relation, with equal answers -/
def sim_X8_one (Rel : zM → zM → Prop) : Prop := ∀ (a0 : Int32) (a1 : Int32) (a2 : Int32), zSim Rel (f_X8_one a0 a1 a2) (f_X9_one a0 a1 a2)
def sim_X8_of (Rel : zM → zM → Prop) : Prop := ∀ (a0 : Int32) (a1 : Int32), zSim Rel (f_X8_of a0 a1) (f_X9_of a0 a1)
def sim_X8_heat (Rel : zM → zM → Prop) : Prop := ∀ (a0 : Int32) (a1 : Int32), zSim Rel (f_X8_heat a0 a1) (f_X9_heat a0 a1)
def sim_X8_away (Rel : zM → zM → Prop) : Prop := ∀ (a0 : Int32) (a1 : Int32), (a1 = 0 ∨ a1 = 1) → zSim Rel (f_X8_away a0 a1) (f_X9_away a0 a1)
def sim_X8_work (Rel : zM → zM → Prop) : Prop := ∀ (a0 : Int32) (a1 : Int32), zSim Rel (f_X8_work a0 a1) (f_X9_work a0 a1)
def sim_X8_piece (Rel : zM → zM → Prop) : Prop := ∀ (a0 : Int32) (a1 : Int32), zSim Rel (f_X8_piece a0 a1) (f_X9_piece a0 a1)
def sim_X8_anvil (Rel : zM → zM → Prop) : Prop := ∀ (a0 : Int32), zSim Rel (f_X8_anvil a0) (f_X9_anvil a0)
def sim_X8_row (Rel : zM → zM → Prop) : Prop := ∀ (a0 : Int32) (a1 : Int32) (a2 : Int32), zSim Rel (f_X8_row a0 a1 a2) (f_X9_row a0 a1 a2)
def sim_X8_feed (Rel : zM → zM → Prop) : Prop := ∀ (a0 : Int32), zSim Rel (f_X8_feed a0) (f_X9_feed a0)
def sim_X8_square (Rel : zM → zM → Prop) : Prop := zSim Rel f_X8_square f_X9_square
def sim_X8_told (Rel : zM → zM → Prop) : Prop := ∀ (a0 : Int32), zSim Rel (f_X8_told a0) (f_X9_told a0)
def sim_X8_pass (Rel : zM → zM → Prop) : Prop := ∀ (a0 : Int32), zSim Rel (f_X8_pass a0) (f_X9_pass a0)
def sim_X8_on (Rel : zM → zM → Prop) : Prop := ∀ (a0 : Int32) (a1 : Int32), zSim Rel (f_X8_on a0 a1) (f_X9_on a0 a1)
def sim_X8_best (Rel : zM → zM → Prop) : Prop := ∀ (a0 : Int32) (a1 : Int32), zSim Rel (f_X8_best a0 a1) (f_X9_best a0 a1)
def sim_X8_talk (Rel : zM → zM → Prop) : Prop := ∀ (a0 : Int32) (a1 : Int32), zSim Rel (f_X8_talk a0 a1) (f_X9_talk a0 a1)
def sim_X8_see (Rel : zM → zM → Prop) : Prop := ∀ (a0 : Int32) (a1 : Int32) (a2 : Int32), (a2 = 0 ∨ a2 = 1) → zSim Rel (f_X8_see a0 a1 a2) (f_X9_see a0 a1 a2)
def sim_X8_can (Rel : zM → zM → Prop) : Prop := ∀ (a0 : Int32) (a1 : Int32) (a2 : Int32), zSim Rel (f_X8_can a0 a1 a2) (f_X9_can a0 a1 a2)
def sim_X8_odds (Rel : zM → zM → Prop) : Prop := ∀ (a0 : Int32) (a1 : Int32) (a2 : Int32), zSim Rel (f_X8_odds a0 a1 a2) (f_X9_odds a0 a1 a2)
def sim_X8_mean (Rel : zM → zM → Prop) : Prop := ∀ (a0 : Int32) (a1 : Int32), zSim Rel (f_X8_mean a0 a1) (f_X9_mean a0 a1)
def sim_X8_plan (Rel : zM → zM → Prop) : Prop := ∀ (a0 : Int32) (a1 : Int32), zSim Rel (f_X8_plan a0 a1) (f_X9_plan a0 a1)
def sim_X8_ends (Rel : zM → zM → Prop) : Prop := ∀ (a0 : Int32), zSim Rel (f_X8_ends a0) (f_X9_ends a0)
def sim_X8_book (Rel : zM → zM → Prop) : Prop := ∀ (a0 : Int32) (a1 : Int32), zSim Rel (f_X8_book a0 a1) (f_X9_book a0 a1)
def sim_X8_looked (Rel : zM → zM → Prop) : Prop := zSim Rel f_X8_looked f_X9_looked
def sim_X8_judge (Rel : zM → zM → Prop) : Prop := ∀ (a0 : Int32) (a1 : Int32), zSim Rel (f_X8_judge a0 a1) (f_X9_judge a0 a1)
def sim_X8_image (Rel : zM → zM → Prop) : Prop := zSim Rel f_X8_image f_X9_image
def sim_X8_undo (Rel : zM → zM → Prop) : Prop := zSim Rel f_X8_undo f_X9_undo
def sim_X8_act (Rel : zM → zM → Prop) : Prop := ∀ (a0 : Int32) (a1 : Int32) (a2 : Int32), zSim Rel (f_X8_act a0 a1 a2) (f_X9_act a0 a1 a2)
def sim_X8_trace (Rel : zM → zM → Prop) : Prop := ∀ (a0 : Int32), zSim Rel (f_X8_trace a0) (f_X9_trace a0)
def sim_X8_taken (Rel : zM → zM → Prop) : Prop := ∀ (a0 : Int32) (a1 : Int32), zSim Rel (f_X8_taken a0 a1) (f_X9_taken a0 a1)
def sim_X8_count (Rel : zM → zM → Prop) : Prop := ∀ (a0 : Int32), zSim Rel (f_X8_count a0) (f_X9_count a0)
def sim_X8_tape (Rel : zM → zM → Prop) : Prop := ∀ (a0 : Int32) (a1 : Int32) (a2 : Int32), zSim Rel (f_X8_tape a0 a1 a2) (f_X9_tape a0 a1 a2)
def sim_X8_item (Rel : zM → zM → Prop) : Prop := ∀ (a0 : Int32) (a1 : Int32) (a2 : Int64), zSim Rel (f_X8_item a0 a1 a2) (f_X9_item a0 a1 a2)
def sim_X8_read (Rel : zM → zM → Prop) : Prop := ∀ (a0 : Int32) (a1 : Int32), zSim Rel (f_X8_read a0 a1) (f_X9_read a0 a1)
def sim_X8_shift (Rel : zM → zM → Prop) : Prop := ∀ (a0 : Int32) (a1 : Int32) (a2 : Int32) (a3 : Int32) (a4 : Int32), zSim Rel (f_X8_shift a0 a1 a2 a3 a4) (f_X9_shift a0 a1 a2 a3 a4)
theorem law_0 (C : LwC p s m c b Ln xs aX aM dA D) {Rel : zM → zM → Prop} (hs : sim_X8_one Rel) (hRel : Rel uX uM) (h1 : vp_in (x3 + 1) Ln) (h2 : vp_in (x3 + 2) Ln) (h3 : vp_in (x3 + 3) Ln) (h4 : vp_in (x3 + 4) Ln) (h5 : vp_in (x3 + 5) Ln) (hcont : ∀ uX uM, Rel uX uM → GoL p l e s m below meth c b aX aM dA D x3 1331 [] uX uM) : GoL p l e s m below meth c b aX aM dA D x3 184 [] uX uM := by
  obtain ⟨r, uX', uM', e1, e2, hR⟩ := hs (xs (x3 + 1).toNatClampNeg) (xs (x3 + 2).toNatClampNeg) (xs (x3 + 3).toNatClampNeg) uX uM hRel
  refine L_aload1 C dL_184 ?_
  refine L_aload0 C dL_185 ?_
  refine L_iload3 C dL_186 ?_
  refine L_iconst (v := 1) C dL_187 (by decide) ?_
  refine L_iadd C dL_188 ?_
  refine L_sld C h1 dL_189 ?_
  refine L_aload0 C dL_190 ?_
  refine L_iload3 C dL_191 ?_
  refine L_iconst (v := 2) C dL_192 (by decide) ?_
  refine L_iadd C dL_193 ?_
  refine L_sld C h2 dL_194 ?_
  refine L_aload0 C dL_195 ?_
  refine L_iload3 C dL_196 ?_
  refine L_iconst (v := 3) C dL_197 (by decide) ?_
  refine L_iadd C dL_198 ?_
  refine L_sld C h3 dL_199 ?_
  refine L_callXi C (As := [.int (xs (x3 + 1).toNatClampNeg), .int (xs (x3 + 2).toNatClampNeg), .int (xs (x3 + 3).toNatClampNeg)]) (m_X8_one (xs (x3 + 1).toNatClampNeg) (xs (x3 + 2).toNatClampNeg) (xs (x3 + 3).toNatClampNeg) uX 100 (by decide)) e1 rfl rfl wL_13 wwX8_one shX_0 rfl (Nat.le_of_ble_eq_true rfl) dL_200 ?_
  refine L_aload2 C dL_203 ?_
  refine L_aload0 C dL_204 ?_
  refine L_iload3 C dL_205 ?_
  refine L_iconst (v := 1) C dL_206 (by decide) ?_
  refine L_iadd C dL_207 ?_
  refine L_sld C h1 dL_208 ?_
  refine L_aload0 C dL_209 ?_
  refine L_iload3 C dL_210 ?_
  refine L_iconst (v := 2) C dL_211 (by decide) ?_
  refine L_iadd C dL_212 ?_
  refine L_sld C h2 dL_213 ?_
  refine L_aload0 C dL_214 ?_
  refine L_iload3 C dL_215 ?_
  refine L_iconst (v := 3) C dL_216 (by decide) ?_
  refine L_iadd C dL_217 ?_
  refine L_sld C h3 dL_218 ?_
  refine L_callMi C (As := [.int (xs (x3 + 1).toNatClampNeg), .int (xs (x3 + 2).toNatClampNeg), .int (xs (x3 + 3).toNatClampNeg)]) (m_X9_one (xs (x3 + 1).toNatClampNeg) (xs (x3 + 2).toNatClampNeg) (xs (x3 + 3).toNatClampNeg) uM 100 (by decide)) e2 rfl rfl wL_17 wwX9_one shM_0 rfl (Nat.le_of_ble_eq_true rfl) dL_219 ?_
  refine L_same (tgt := 1331) C dL_222 (by decide) ?_
  exact hcont uX' uM' hR
theorem law_1 (C : LwC p s m c b Ln xs aX aM dA D) {Rel : zM → zM → Prop} (hs : sim_X8_of Rel) (hRel : Rel uX uM) (h1 : vp_in (x3 + 1) Ln) (h2 : vp_in (x3 + 2) Ln) (h3 : vp_in (x3 + 3) Ln) (h4 : vp_in (x3 + 4) Ln) (h5 : vp_in (x3 + 5) Ln) (hcont : ∀ uX uM, Rel uX uM → GoL p l e s m below meth c b aX aM dA D x3 1331 [] uX uM) : GoL p l e s m below meth c b aX aM dA D x3 227 [] uX uM := by
  obtain ⟨r, uX', uM', e1, e2, hR⟩ := hs (xs (x3 + 1).toNatClampNeg) (xs (x3 + 2).toNatClampNeg) uX uM hRel
  refine L_aload1 C dL_227 ?_
  refine L_aload0 C dL_228 ?_
  refine L_iload3 C dL_229 ?_
  refine L_iconst (v := 1) C dL_230 (by decide) ?_
  refine L_iadd C dL_231 ?_
  refine L_sld C h1 dL_232 ?_
  refine L_aload0 C dL_233 ?_
  refine L_iload3 C dL_234 ?_
  refine L_iconst (v := 2) C dL_235 (by decide) ?_
  refine L_iadd C dL_236 ?_
  refine L_sld C h2 dL_237 ?_
  refine L_callXi C (As := [.int (xs (x3 + 1).toNatClampNeg), .int (xs (x3 + 2).toNatClampNeg)]) (m_X8_of (xs (x3 + 1).toNatClampNeg) (xs (x3 + 2).toNatClampNeg) uX 100 (by decide)) e1 rfl rfl wL_18 wwX8_of shX_0 rfl (Nat.le_of_ble_eq_true rfl) dL_238 ?_
  refine L_aload2 C dL_241 ?_
  refine L_aload0 C dL_242 ?_
  refine L_iload3 C dL_243 ?_
  refine L_iconst (v := 1) C dL_244 (by decide) ?_
  refine L_iadd C dL_245 ?_
  refine L_sld C h1 dL_246 ?_
  refine L_aload0 C dL_247 ?_
  refine L_iload3 C dL_248 ?_
  refine L_iconst (v := 2) C dL_249 (by decide) ?_
  refine L_iadd C dL_250 ?_
  refine L_sld C h2 dL_251 ?_
  refine L_callMi C (As := [.int (xs (x3 + 1).toNatClampNeg), .int (xs (x3 + 2).toNatClampNeg)]) (m_X9_of (xs (x3 + 1).toNatClampNeg) (xs (x3 + 2).toNatClampNeg) uM 100 (by decide)) e2 rfl rfl wL_22 wwX9_of shM_0 rfl (Nat.le_of_ble_eq_true rfl) dL_252 ?_
  refine L_same (tgt := 1331) C dL_255 (by decide) ?_
  exact hcont uX' uM' hR
theorem law_2 (C : LwC p s m c b Ln xs aX aM dA D) {Rel : zM → zM → Prop} (hs : sim_X8_heat Rel) (hRel : Rel uX uM) (h1 : vp_in (x3 + 1) Ln) (h2 : vp_in (x3 + 2) Ln) (h3 : vp_in (x3 + 3) Ln) (h4 : vp_in (x3 + 4) Ln) (h5 : vp_in (x3 + 5) Ln) (hcont : ∀ uX uM, Rel uX uM → GoL p l e s m below meth c b aX aM dA D x3 1331 [] uX uM) : GoL p l e s m below meth c b aX aM dA D x3 260 [] uX uM := by
  obtain ⟨r, uX', uM', e1, e2, hR⟩ := hs (xs (x3 + 1).toNatClampNeg) (xs (x3 + 2).toNatClampNeg) uX uM hRel
  refine L_aload1 C dL_260 ?_
  refine L_aload0 C dL_261 ?_
  refine L_iload3 C dL_262 ?_
  refine L_iconst (v := 1) C dL_263 (by decide) ?_
  refine L_iadd C dL_264 ?_
  refine L_sld C h1 dL_265 ?_
  refine L_aload0 C dL_266 ?_
  refine L_iload3 C dL_267 ?_
  refine L_iconst (v := 2) C dL_268 (by decide) ?_
  refine L_iadd C dL_269 ?_
  refine L_sld C h2 dL_270 ?_
  refine L_callXi C (As := [.int (xs (x3 + 1).toNatClampNeg), .int (xs (x3 + 2).toNatClampNeg)]) (m_X8_heat (xs (x3 + 1).toNatClampNeg) (xs (x3 + 2).toNatClampNeg) uX 100 (by decide)) e1 rfl rfl wL_23 wwX8_heat shX_0 rfl (Nat.le_of_ble_eq_true rfl) dL_271 ?_
  refine L_aload2 C dL_274 ?_
  refine L_aload0 C dL_275 ?_
  refine L_iload3 C dL_276 ?_
  refine L_iconst (v := 1) C dL_277 (by decide) ?_
  refine L_iadd C dL_278 ?_
  refine L_sld C h1 dL_279 ?_
  refine L_aload0 C dL_280 ?_
  refine L_iload3 C dL_281 ?_
  refine L_iconst (v := 2) C dL_282 (by decide) ?_
  refine L_iadd C dL_283 ?_
  refine L_sld C h2 dL_284 ?_
  refine L_callMi C (As := [.int (xs (x3 + 1).toNatClampNeg), .int (xs (x3 + 2).toNatClampNeg)]) (m_X9_heat (xs (x3 + 1).toNatClampNeg) (xs (x3 + 2).toNatClampNeg) uM 100 (by decide)) e2 rfl rfl wL_26 wwX9_heat shM_0 rfl (Nat.le_of_ble_eq_true rfl) dL_285 ?_
  refine L_same (tgt := 1331) C dL_288 (by decide) ?_
  exact hcont uX' uM' hR
theorem law_3 (C : LwC p s m c b Ln xs aX aM dA D) {Rel : zM → zM → Prop} (hs : sim_X8_away Rel) (hRel : Rel uX uM) (h1 : vp_in (x3 + 1) Ln) (h2 : vp_in (x3 + 2) Ln) (h3 : vp_in (x3 + 3) Ln) (h4 : vp_in (x3 + 4) Ln) (h5 : vp_in (x3 + 5) Ln) (hcont : ∀ uX uM, Rel uX uM → GoL p l e s m below meth c b aX aM dA D x3 1331 [] uX uM) : GoL p l e s m below meth c b aX aM dA D x3 293 [] uX uM := by
  refine L_aload1 C dL_293 ?_
  refine L_aload0 C dL_294 ?_
  refine L_iload3 C dL_295 ?_
  refine L_iconst (v := 1) C dL_296 (by decide) ?_
  refine L_iadd C dL_297 ?_
  refine L_sld C h1 dL_298 ?_
  refine L_aload0 C dL_299 ?_
  refine L_iload3 C dL_300 ?_
  refine L_iconst (v := 2) C dL_301 (by decide) ?_
  refine L_iadd C dL_302 ?_
  refine L_sld C h2 dL_303 ?_
  refine L_if (tgt := 311) C dL_304 (by decide) (fun hz => ?_) (fun hz => ?_)
  · obtain ⟨r, uX', uM', e1, e2, hR⟩ := hs (xs (x3 + 1).toNatClampNeg) (0 : Int32) (by decide) uX uM hRel
    refine L_iconst (v := 0) C dL_311 (by decide) ?_
    refine L_callXi C (As := [.int (xs (x3 + 1).toNatClampNeg), .int (0 : Int32)]) (m_X8_away (xs (x3 + 1).toNatClampNeg) (0 : Int32) uX 100 (by decide)) e1 rfl rfl wL_27 wwX8_away shX_0 rfl (Nat.le_of_ble_eq_true rfl) dL_312 ?_
    refine L_aload2 C dL_315 ?_
    refine L_aload0 C dL_316 ?_
    refine L_iload3 C dL_317 ?_
    refine L_iconst (v := 1) C dL_318 (by decide) ?_
    refine L_iadd C dL_319 ?_
    refine L_sld C h1 dL_320 ?_
    refine L_aload0 C dL_321 ?_
    refine L_iload3 C dL_322 ?_
    refine L_iconst (v := 2) C dL_323 (by decide) ?_
    refine L_iadd C dL_324 ?_
    refine L_sld C h2 dL_325 ?_
    refine L_if (tgt := 333) C dL_326 (by decide) (fun _ => ?_) (fun h => absurd hz h)
    refine L_iconst (v := 0) C dL_333 (by decide) ?_
    refine L_callMi C (As := [.int (xs (x3 + 1).toNatClampNeg), .int (0 : Int32)]) (m_X9_away (xs (x3 + 1).toNatClampNeg) (0 : Int32) uM 100 (by decide)) e2 rfl rfl wL_31 wwX9_away shM_0 rfl (Nat.le_of_ble_eq_true rfl) dL_334 ?_
    refine L_same (tgt := 1331) C dL_337 (by decide) ?_
    exact hcont uX' uM' hR
  · obtain ⟨r, uX', uM', e1, e2, hR⟩ := hs (xs (x3 + 1).toNatClampNeg) (1 : Int32) (by decide) uX uM hRel
    refine L_iconst (v := 1) C dL_307 (by decide) ?_
    refine L_goto (tgt := 312) C dL_308 (by decide) ?_
    refine L_callXi C (As := [.int (xs (x3 + 1).toNatClampNeg), .int (1 : Int32)]) (m_X8_away (xs (x3 + 1).toNatClampNeg) (1 : Int32) uX 100 (by decide)) e1 rfl rfl wL_27 wwX8_away shX_0 rfl (Nat.le_of_ble_eq_true rfl) dL_312 ?_
    refine L_aload2 C dL_315 ?_
    refine L_aload0 C dL_316 ?_
    refine L_iload3 C dL_317 ?_
    refine L_iconst (v := 1) C dL_318 (by decide) ?_
    refine L_iadd C dL_319 ?_
    refine L_sld C h1 dL_320 ?_
    refine L_aload0 C dL_321 ?_
    refine L_iload3 C dL_322 ?_
    refine L_iconst (v := 2) C dL_323 (by decide) ?_
    refine L_iadd C dL_324 ?_
    refine L_sld C h2 dL_325 ?_
    refine L_if (tgt := 333) C dL_326 (by decide) (fun h => absurd h hz) (fun _ => ?_)
    refine L_iconst (v := 1) C dL_329 (by decide) ?_
    refine L_goto (tgt := 334) C dL_330 (by decide) ?_
    refine L_callMi C (As := [.int (xs (x3 + 1).toNatClampNeg), .int (1 : Int32)]) (m_X9_away (xs (x3 + 1).toNatClampNeg) (1 : Int32) uM 100 (by decide)) e2 rfl rfl wL_31 wwX9_away shM_0 rfl (Nat.le_of_ble_eq_true rfl) dL_334 ?_
    refine L_same (tgt := 1331) C dL_337 (by decide) ?_
    exact hcont uX' uM' hR
theorem law_4 (C : LwC p s m c b Ln xs aX aM dA D) {Rel : zM → zM → Prop} (hs : sim_X8_work Rel) (hRel : Rel uX uM) (h1 : vp_in (x3 + 1) Ln) (h2 : vp_in (x3 + 2) Ln) (h3 : vp_in (x3 + 3) Ln) (h4 : vp_in (x3 + 4) Ln) (h5 : vp_in (x3 + 5) Ln) (hcont : ∀ uX uM, Rel uX uM → GoL p l e s m below meth c b aX aM dA D x3 1331 [] uX uM) : GoL p l e s m below meth c b aX aM dA D x3 342 [] uX uM := by
  obtain ⟨r, uX', uM', e1, e2, hR⟩ := hs (xs (x3 + 1).toNatClampNeg) (xs (x3 + 2).toNatClampNeg) uX uM hRel
  refine L_aload1 C dL_342 ?_
  refine L_aload0 C dL_343 ?_
  refine L_iload3 C dL_344 ?_
  refine L_iconst (v := 1) C dL_345 (by decide) ?_
  refine L_iadd C dL_346 ?_
  refine L_sld C h1 dL_347 ?_
  refine L_aload0 C dL_348 ?_
  refine L_iload3 C dL_349 ?_
  refine L_iconst (v := 2) C dL_350 (by decide) ?_
  refine L_iadd C dL_351 ?_
  refine L_sld C h2 dL_352 ?_
  refine L_callXi C (As := [.int (xs (x3 + 1).toNatClampNeg), .int (xs (x3 + 2).toNatClampNeg)]) (m_X8_work (xs (x3 + 1).toNatClampNeg) (xs (x3 + 2).toNatClampNeg) uX 100 (by decide)) e1 rfl rfl wL_32 wwX8_work shX_0 rfl (Nat.le_of_ble_eq_true rfl) dL_353 ?_
  refine L_aload2 C dL_356 ?_
  refine L_aload0 C dL_357 ?_
  refine L_iload3 C dL_358 ?_
  refine L_iconst (v := 1) C dL_359 (by decide) ?_
  refine L_iadd C dL_360 ?_
  refine L_sld C h1 dL_361 ?_
  refine L_aload0 C dL_362 ?_
  refine L_iload3 C dL_363 ?_
  refine L_iconst (v := 2) C dL_364 (by decide) ?_
  refine L_iadd C dL_365 ?_
  refine L_sld C h2 dL_366 ?_
  refine L_callMi C (As := [.int (xs (x3 + 1).toNatClampNeg), .int (xs (x3 + 2).toNatClampNeg)]) (m_X9_work (xs (x3 + 1).toNatClampNeg) (xs (x3 + 2).toNatClampNeg) uM 100 (by decide)) e2 rfl rfl wL_35 wwX9_work shM_0 rfl (Nat.le_of_ble_eq_true rfl) dL_367 ?_
  refine L_same (tgt := 1331) C dL_370 (by decide) ?_
  exact hcont uX' uM' hR
theorem law_5 (C : LwC p s m c b Ln xs aX aM dA D) {Rel : zM → zM → Prop} (hs : sim_X8_piece Rel) (hRel : Rel uX uM) (h1 : vp_in (x3 + 1) Ln) (h2 : vp_in (x3 + 2) Ln) (h3 : vp_in (x3 + 3) Ln) (h4 : vp_in (x3 + 4) Ln) (h5 : vp_in (x3 + 5) Ln) (hcont : ∀ uX uM, Rel uX uM → GoL p l e s m below meth c b aX aM dA D x3 1331 [] uX uM) : GoL p l e s m below meth c b aX aM dA D x3 375 [] uX uM := by
  obtain ⟨r, uX', uM', e1, e2, hR⟩ := hs (xs (x3 + 1).toNatClampNeg) (xs (x3 + 2).toNatClampNeg) uX uM hRel
  refine L_aload1 C dL_375 ?_
  refine L_aload0 C dL_376 ?_
  refine L_iload3 C dL_377 ?_
  refine L_iconst (v := 1) C dL_378 (by decide) ?_
  refine L_iadd C dL_379 ?_
  refine L_sld C h1 dL_380 ?_
  refine L_aload0 C dL_381 ?_
  refine L_iload3 C dL_382 ?_
  refine L_iconst (v := 2) C dL_383 (by decide) ?_
  refine L_iadd C dL_384 ?_
  refine L_sld C h2 dL_385 ?_
  refine L_callXi C (As := [.int (xs (x3 + 1).toNatClampNeg), .int (xs (x3 + 2).toNatClampNeg)]) (m_X8_piece (xs (x3 + 1).toNatClampNeg) (xs (x3 + 2).toNatClampNeg) uX 100 (by decide)) e1 rfl rfl wL_36 wwX8_piece shX_0 rfl (Nat.le_of_ble_eq_true rfl) dL_386 ?_
  refine L_aload2 C dL_389 ?_
  refine L_aload0 C dL_390 ?_
  refine L_iload3 C dL_391 ?_
  refine L_iconst (v := 1) C dL_392 (by decide) ?_
  refine L_iadd C dL_393 ?_
  refine L_sld C h1 dL_394 ?_
  refine L_aload0 C dL_395 ?_
  refine L_iload3 C dL_396 ?_
  refine L_iconst (v := 2) C dL_397 (by decide) ?_
  refine L_iadd C dL_398 ?_
  refine L_sld C h2 dL_399 ?_
  refine L_callMi C (As := [.int (xs (x3 + 1).toNatClampNeg), .int (xs (x3 + 2).toNatClampNeg)]) (m_X9_piece (xs (x3 + 1).toNatClampNeg) (xs (x3 + 2).toNatClampNeg) uM 100 (by decide)) e2 rfl rfl wL_39 wwX9_piece shM_0 rfl (Nat.le_of_ble_eq_true rfl) dL_400 ?_
  refine L_same (tgt := 1331) C dL_403 (by decide) ?_
  exact hcont uX' uM' hR
theorem law_6 (C : LwC p s m c b Ln xs aX aM dA D) {Rel : zM → zM → Prop} (hs : sim_X8_anvil Rel) (hRel : Rel uX uM) (h1 : vp_in (x3 + 1) Ln) (h2 : vp_in (x3 + 2) Ln) (h3 : vp_in (x3 + 3) Ln) (h4 : vp_in (x3 + 4) Ln) (h5 : vp_in (x3 + 5) Ln) (hcont : ∀ uX uM, Rel uX uM → GoL p l e s m below meth c b aX aM dA D x3 1331 [] uX uM) : GoL p l e s m below meth c b aX aM dA D x3 408 [] uX uM := by
  obtain ⟨r, uX', uM', e1, e2, hR⟩ := hs (xs (x3 + 1).toNatClampNeg) uX uM hRel
  refine L_aload1 C dL_408 ?_
  refine L_aload0 C dL_409 ?_
  refine L_iload3 C dL_410 ?_
  refine L_iconst (v := 1) C dL_411 (by decide) ?_
  refine L_iadd C dL_412 ?_
  refine L_sld C h1 dL_413 ?_
  refine L_callXi C (As := [.int (xs (x3 + 1).toNatClampNeg)]) (m_X8_anvil (xs (x3 + 1).toNatClampNeg) uX 100 (by decide)) e1 rfl rfl wL_40 wwX8_anvil shX_0 rfl (Nat.le_of_ble_eq_true rfl) dL_414 ?_
  refine L_aload2 C dL_417 ?_
  refine L_aload0 C dL_418 ?_
  refine L_iload3 C dL_419 ?_
  refine L_iconst (v := 1) C dL_420 (by decide) ?_
  refine L_iadd C dL_421 ?_
  refine L_sld C h1 dL_422 ?_
  refine L_callMi C (As := [.int (xs (x3 + 1).toNatClampNeg)]) (m_X9_anvil (xs (x3 + 1).toNatClampNeg) uM 100 (by decide)) e2 rfl rfl wL_44 wwX9_anvil shM_0 rfl (Nat.le_of_ble_eq_true rfl) dL_423 ?_
  refine L_same (tgt := 1331) C dL_426 (by decide) ?_
  exact hcont uX' uM' hR
theorem law_7 (C : LwC p s m c b Ln xs aX aM dA D) {Rel : zM → zM → Prop} (hs : sim_X8_row Rel) (hRel : Rel uX uM) (h1 : vp_in (x3 + 1) Ln) (h2 : vp_in (x3 + 2) Ln) (h3 : vp_in (x3 + 3) Ln) (h4 : vp_in (x3 + 4) Ln) (h5 : vp_in (x3 + 5) Ln) (hcont : ∀ uX uM, Rel uX uM → GoL p l e s m below meth c b aX aM dA D x3 1331 [] uX uM) : GoL p l e s m below meth c b aX aM dA D x3 431 [] uX uM := by
  obtain ⟨r, uX', uM', e1, e2, hR⟩ := hs (xs (x3 + 1).toNatClampNeg) (xs (x3 + 2).toNatClampNeg) (xs (x3 + 3).toNatClampNeg) uX uM hRel
  refine L_aload1 C dL_431 ?_
  refine L_aload0 C dL_432 ?_
  refine L_iload3 C dL_433 ?_
  refine L_iconst (v := 1) C dL_434 (by decide) ?_
  refine L_iadd C dL_435 ?_
  refine L_sld C h1 dL_436 ?_
  refine L_aload0 C dL_437 ?_
  refine L_iload3 C dL_438 ?_
  refine L_iconst (v := 2) C dL_439 (by decide) ?_
  refine L_iadd C dL_440 ?_
  refine L_sld C h2 dL_441 ?_
  refine L_aload0 C dL_442 ?_
  refine L_iload3 C dL_443 ?_
  refine L_iconst (v := 3) C dL_444 (by decide) ?_
  refine L_iadd C dL_445 ?_
  refine L_sld C h3 dL_446 ?_
  refine L_callXi C (As := [.int (xs (x3 + 1).toNatClampNeg), .int (xs (x3 + 2).toNatClampNeg), .int (xs (x3 + 3).toNatClampNeg)]) (m_X8_row (xs (x3 + 1).toNatClampNeg) (xs (x3 + 2).toNatClampNeg) (xs (x3 + 3).toNatClampNeg) uX 100 (by decide)) e1 rfl rfl wL_45 wwX8_row shX_0 rfl (Nat.le_of_ble_eq_true rfl) dL_447 ?_
  refine L_aload2 C dL_450 ?_
  refine L_aload0 C dL_451 ?_
  refine L_iload3 C dL_452 ?_
  refine L_iconst (v := 1) C dL_453 (by decide) ?_
  refine L_iadd C dL_454 ?_
  refine L_sld C h1 dL_455 ?_
  refine L_aload0 C dL_456 ?_
  refine L_iload3 C dL_457 ?_
  refine L_iconst (v := 2) C dL_458 (by decide) ?_
  refine L_iadd C dL_459 ?_
  refine L_sld C h2 dL_460 ?_
  refine L_aload0 C dL_461 ?_
  refine L_iload3 C dL_462 ?_
  refine L_iconst (v := 3) C dL_463 (by decide) ?_
  refine L_iadd C dL_464 ?_
  refine L_sld C h3 dL_465 ?_
  refine L_callMi C (As := [.int (xs (x3 + 1).toNatClampNeg), .int (xs (x3 + 2).toNatClampNeg), .int (xs (x3 + 3).toNatClampNeg)]) (m_X9_row (xs (x3 + 1).toNatClampNeg) (xs (x3 + 2).toNatClampNeg) (xs (x3 + 3).toNatClampNeg) uM 100 (by decide)) e2 rfl rfl wL_48 wwX9_row shM_0 rfl (Nat.le_of_ble_eq_true rfl) dL_466 ?_
  refine L_same (tgt := 1331) C dL_469 (by decide) ?_
  exact hcont uX' uM' hR
theorem law_8 (C : LwC p s m c b Ln xs aX aM dA D) {Rel : zM → zM → Prop} (hs : sim_X8_feed Rel) (hRel : Rel uX uM) (h1 : vp_in (x3 + 1) Ln) (h2 : vp_in (x3 + 2) Ln) (h3 : vp_in (x3 + 3) Ln) (h4 : vp_in (x3 + 4) Ln) (h5 : vp_in (x3 + 5) Ln) (hcont : ∀ uX uM, Rel uX uM → GoL p l e s m below meth c b aX aM dA D x3 1331 [] uX uM) : GoL p l e s m below meth c b aX aM dA D x3 474 [] uX uM := by
  obtain ⟨r, uX', uM', e1, e2, hR⟩ := hs (xs (x3 + 1).toNatClampNeg) uX uM hRel
  refine L_aload1 C dL_474 ?_
  refine L_aload0 C dL_475 ?_
  refine L_iload3 C dL_476 ?_
  refine L_iconst (v := 1) C dL_477 (by decide) ?_
  refine L_iadd C dL_478 ?_
  refine L_sld C h1 dL_479 ?_
  refine L_callXi C (As := [.int (xs (x3 + 1).toNatClampNeg)]) (m_X8_feed (xs (x3 + 1).toNatClampNeg) uX 100 (by decide)) e1 rfl rfl wL_49 wwX8_feed shX_0 rfl (Nat.le_of_ble_eq_true rfl) dL_480 ?_
  refine L_aload2 C dL_483 ?_
  refine L_aload0 C dL_484 ?_
  refine L_iload3 C dL_485 ?_
  refine L_iconst (v := 1) C dL_486 (by decide) ?_
  refine L_iadd C dL_487 ?_
  refine L_sld C h1 dL_488 ?_
  refine L_callMi C (As := [.int (xs (x3 + 1).toNatClampNeg)]) (m_X9_feed (xs (x3 + 1).toNatClampNeg) uM 100 (by decide)) e2 rfl rfl wL_52 wwX9_feed shM_0 rfl (Nat.le_of_ble_eq_true rfl) dL_489 ?_
  refine L_same (tgt := 1331) C dL_492 (by decide) ?_
  exact hcont uX' uM' hR
theorem law_9 (C : LwC p s m c b Ln xs aX aM dA D) {Rel : zM → zM → Prop} (hs : sim_X8_square Rel) (hRel : Rel uX uM) (h1 : vp_in (x3 + 1) Ln) (h2 : vp_in (x3 + 2) Ln) (h3 : vp_in (x3 + 3) Ln) (h4 : vp_in (x3 + 4) Ln) (h5 : vp_in (x3 + 5) Ln) (hcont : ∀ uX uM, Rel uX uM → GoL p l e s m below meth c b aX aM dA D x3 1331 [] uX uM) : GoL p l e s m below meth c b aX aM dA D x3 497 [] uX uM := by
  obtain ⟨r, uX', uM', e1, e2, hR⟩ := hs uX uM hRel
  refine L_aload1 C dL_497 ?_
  refine L_callXi C (As := []) (m_X8_square uX 100 (by decide)) e1 rfl rfl wL_53 wwX8_square shX_0 rfl (Nat.le_of_ble_eq_true rfl) dL_498 ?_
  refine L_aload2 C dL_501 ?_
  refine L_callMi C (As := []) (m_X9_square uM 100 (by decide)) e2 rfl rfl wL_57 wwX9_square shM_0 rfl (Nat.le_of_ble_eq_true rfl) dL_502 ?_
  refine L_same (tgt := 1331) C dL_505 (by decide) ?_
  exact hcont uX' uM' hR
theorem law_10 (C : LwC p s m c b Ln xs aX aM dA D) {Rel : zM → zM → Prop} (hs : sim_X8_told Rel) (hRel : Rel uX uM) (h1 : vp_in (x3 + 1) Ln) (h2 : vp_in (x3 + 2) Ln) (h3 : vp_in (x3 + 3) Ln) (h4 : vp_in (x3 + 4) Ln) (h5 : vp_in (x3 + 5) Ln) (hcont : ∀ uX uM, Rel uX uM → GoL p l e s m below meth c b aX aM dA D x3 1331 [] uX uM) : GoL p l e s m below meth c b aX aM dA D x3 510 [] uX uM := by
  obtain ⟨r, uX', uM', e1, e2, hR⟩ := hs (xs (x3 + 1).toNatClampNeg) uX uM hRel
  refine L_aload1 C dL_510 ?_
  refine L_aload0 C dL_511 ?_
  refine L_iload3 C dL_512 ?_
  refine L_iconst (v := 1) C dL_513 (by decide) ?_
  refine L_iadd C dL_514 ?_
  refine L_sld C h1 dL_515 ?_
  refine L_callXi C (As := [.int (xs (x3 + 1).toNatClampNeg)]) (m_X8_told (xs (x3 + 1).toNatClampNeg) uX 100 (by decide)) e1 rfl rfl wL_58 wwX8_told shX_0 rfl (Nat.le_of_ble_eq_true rfl) dL_516 ?_
  refine L_aload2 C dL_519 ?_
  refine L_aload0 C dL_520 ?_
  refine L_iload3 C dL_521 ?_
  refine L_iconst (v := 1) C dL_522 (by decide) ?_
  refine L_iadd C dL_523 ?_
  refine L_sld C h1 dL_524 ?_
  refine L_callMi C (As := [.int (xs (x3 + 1).toNatClampNeg)]) (m_X9_told (xs (x3 + 1).toNatClampNeg) uM 100 (by decide)) e2 rfl rfl wL_61 wwX9_told shM_0 rfl (Nat.le_of_ble_eq_true rfl) dL_525 ?_
  refine L_same (tgt := 1331) C dL_528 (by decide) ?_
  exact hcont uX' uM' hR
theorem law_11 (C : LwC p s m c b Ln xs aX aM dA D) {Rel : zM → zM → Prop} (hs : sim_X8_pass Rel) (hRel : Rel uX uM) (h1 : vp_in (x3 + 1) Ln) (h2 : vp_in (x3 + 2) Ln) (h3 : vp_in (x3 + 3) Ln) (h4 : vp_in (x3 + 4) Ln) (h5 : vp_in (x3 + 5) Ln) (hcont : ∀ uX uM, Rel uX uM → GoL p l e s m below meth c b aX aM dA D x3 1331 [] uX uM) : GoL p l e s m below meth c b aX aM dA D x3 533 [] uX uM := by
  obtain ⟨r, uX', uM', e1, e2, hR⟩ := hs (xs (x3 + 1).toNatClampNeg) uX uM hRel
  refine L_aload1 C dL_533 ?_
  refine L_aload0 C dL_534 ?_
  refine L_iload3 C dL_535 ?_
  refine L_iconst (v := 1) C dL_536 (by decide) ?_
  refine L_iadd C dL_537 ?_
  refine L_sld C h1 dL_538 ?_
  refine L_callXi C (As := [.int (xs (x3 + 1).toNatClampNeg)]) (m_X8_pass (xs (x3 + 1).toNatClampNeg) uX 100 (by decide)) e1 rfl rfl wL_62 wwX8_pass shX_0 rfl (Nat.le_of_ble_eq_true rfl) dL_539 ?_
  refine L_aload2 C dL_542 ?_
  refine L_aload0 C dL_543 ?_
  refine L_iload3 C dL_544 ?_
  refine L_iconst (v := 1) C dL_545 (by decide) ?_
  refine L_iadd C dL_546 ?_
  refine L_sld C h1 dL_547 ?_
  refine L_callMi C (As := [.int (xs (x3 + 1).toNatClampNeg)]) (m_X9_pass (xs (x3 + 1).toNatClampNeg) uM 100 (by decide)) e2 rfl rfl wL_65 wwX9_pass shM_0 rfl (Nat.le_of_ble_eq_true rfl) dL_548 ?_
  refine L_same (tgt := 1331) C dL_551 (by decide) ?_
  exact hcont uX' uM' hR
theorem law_12 (C : LwC p s m c b Ln xs aX aM dA D) {Rel : zM → zM → Prop} (hs : sim_X8_on Rel) (hRel : Rel uX uM) (h1 : vp_in (x3 + 1) Ln) (h2 : vp_in (x3 + 2) Ln) (h3 : vp_in (x3 + 3) Ln) (h4 : vp_in (x3 + 4) Ln) (h5 : vp_in (x3 + 5) Ln) (hcont : ∀ uX uM, Rel uX uM → GoL p l e s m below meth c b aX aM dA D x3 1331 [] uX uM) : GoL p l e s m below meth c b aX aM dA D x3 556 [] uX uM := by
  obtain ⟨r, uX', uM', e1, e2, hR⟩ := hs (xs (x3 + 1).toNatClampNeg) (xs (x3 + 2).toNatClampNeg) uX uM hRel
  refine L_aload1 C dL_556 ?_
  refine L_aload0 C dL_557 ?_
  refine L_iload3 C dL_558 ?_
  refine L_iconst (v := 1) C dL_559 (by decide) ?_
  refine L_iadd C dL_560 ?_
  refine L_sld C h1 dL_561 ?_
  refine L_aload0 C dL_562 ?_
  refine L_iload3 C dL_563 ?_
  refine L_iconst (v := 2) C dL_564 (by decide) ?_
  refine L_iadd C dL_565 ?_
  refine L_sld C h2 dL_566 ?_
  refine L_callXi C (As := [.int (xs (x3 + 1).toNatClampNeg), .int (xs (x3 + 2).toNatClampNeg)]) (m_X8_on (xs (x3 + 1).toNatClampNeg) (xs (x3 + 2).toNatClampNeg) uX 100 (by decide)) e1 rfl rfl wL_66 wwX8_on shX_0 rfl (Nat.le_of_ble_eq_true rfl) dL_567 ?_
  refine L_aload2 C dL_570 ?_
  refine L_aload0 C dL_571 ?_
  refine L_iload3 C dL_572 ?_
  refine L_iconst (v := 1) C dL_573 (by decide) ?_
  refine L_iadd C dL_574 ?_
  refine L_sld C h1 dL_575 ?_
  refine L_aload0 C dL_576 ?_
  refine L_iload3 C dL_577 ?_
  refine L_iconst (v := 2) C dL_578 (by decide) ?_
  refine L_iadd C dL_579 ?_
  refine L_sld C h2 dL_580 ?_
  refine L_callMi C (As := [.int (xs (x3 + 1).toNatClampNeg), .int (xs (x3 + 2).toNatClampNeg)]) (m_X9_on (xs (x3 + 1).toNatClampNeg) (xs (x3 + 2).toNatClampNeg) uM 100 (by decide)) e2 rfl rfl wL_69 wwX9_on shM_0 rfl (Nat.le_of_ble_eq_true rfl) dL_581 ?_
  refine L_same (tgt := 1331) C dL_584 (by decide) ?_
  exact hcont uX' uM' hR
theorem law_13 (C : LwC p s m c b Ln xs aX aM dA D) {Rel : zM → zM → Prop} (hs : sim_X8_best Rel) (hRel : Rel uX uM) (h1 : vp_in (x3 + 1) Ln) (h2 : vp_in (x3 + 2) Ln) (h3 : vp_in (x3 + 3) Ln) (h4 : vp_in (x3 + 4) Ln) (h5 : vp_in (x3 + 5) Ln) (hcont : ∀ uX uM, Rel uX uM → GoL p l e s m below meth c b aX aM dA D x3 1331 [] uX uM) : GoL p l e s m below meth c b aX aM dA D x3 589 [] uX uM := by
  obtain ⟨r, uX', uM', e1, e2, hR⟩ := hs (xs (x3 + 1).toNatClampNeg) (xs (x3 + 2).toNatClampNeg) uX uM hRel
  refine L_aload1 C dL_589 ?_
  refine L_aload0 C dL_590 ?_
  refine L_iload3 C dL_591 ?_
  refine L_iconst (v := 1) C dL_592 (by decide) ?_
  refine L_iadd C dL_593 ?_
  refine L_sld C h1 dL_594 ?_
  refine L_aload0 C dL_595 ?_
  refine L_iload3 C dL_596 ?_
  refine L_iconst (v := 2) C dL_597 (by decide) ?_
  refine L_iadd C dL_598 ?_
  refine L_sld C h2 dL_599 ?_
  refine L_callXi C (As := [.int (xs (x3 + 1).toNatClampNeg), .int (xs (x3 + 2).toNatClampNeg)]) (m_X8_best (xs (x3 + 1).toNatClampNeg) (xs (x3 + 2).toNatClampNeg) uX 100 (by decide)) e1 rfl rfl wL_70 wwX8_best shX_0 rfl (Nat.le_of_ble_eq_true rfl) dL_600 ?_
  refine L_aload2 C dL_603 ?_
  refine L_aload0 C dL_604 ?_
  refine L_iload3 C dL_605 ?_
  refine L_iconst (v := 1) C dL_606 (by decide) ?_
  refine L_iadd C dL_607 ?_
  refine L_sld C h1 dL_608 ?_
  refine L_aload0 C dL_609 ?_
  refine L_iload3 C dL_610 ?_
  refine L_iconst (v := 2) C dL_611 (by decide) ?_
  refine L_iadd C dL_612 ?_
  refine L_sld C h2 dL_613 ?_
  refine L_callMi C (As := [.int (xs (x3 + 1).toNatClampNeg), .int (xs (x3 + 2).toNatClampNeg)]) (m_X9_best (xs (x3 + 1).toNatClampNeg) (xs (x3 + 2).toNatClampNeg) uM 100 (by decide)) e2 rfl rfl wL_73 wwX9_best shM_0 rfl (Nat.le_of_ble_eq_true rfl) dL_614 ?_
  refine L_same (tgt := 1331) C dL_617 (by decide) ?_
  exact hcont uX' uM' hR
theorem law_14 (C : LwC p s m c b Ln xs aX aM dA D) {Rel : zM → zM → Prop} (hs : sim_X8_talk Rel) (hRel : Rel uX uM) (h1 : vp_in (x3 + 1) Ln) (h2 : vp_in (x3 + 2) Ln) (h3 : vp_in (x3 + 3) Ln) (h4 : vp_in (x3 + 4) Ln) (h5 : vp_in (x3 + 5) Ln) (hcont : ∀ uX uM, Rel uX uM → GoL p l e s m below meth c b aX aM dA D x3 1331 [] uX uM) : GoL p l e s m below meth c b aX aM dA D x3 622 [] uX uM := by
  obtain ⟨r, uX', uM', e1, e2, hR⟩ := hs (xs (x3 + 1).toNatClampNeg) (xs (x3 + 2).toNatClampNeg) uX uM hRel
  refine L_aload1 C dL_622 ?_
  refine L_aload0 C dL_623 ?_
  refine L_iload3 C dL_624 ?_
  refine L_iconst (v := 1) C dL_625 (by decide) ?_
  refine L_iadd C dL_626 ?_
  refine L_sld C h1 dL_627 ?_
  refine L_aload0 C dL_628 ?_
  refine L_iload3 C dL_629 ?_
  refine L_iconst (v := 2) C dL_630 (by decide) ?_
  refine L_iadd C dL_631 ?_
  refine L_sld C h2 dL_632 ?_
  refine L_callXi C (As := [.int (xs (x3 + 1).toNatClampNeg), .int (xs (x3 + 2).toNatClampNeg)]) (m_X8_talk (xs (x3 + 1).toNatClampNeg) (xs (x3 + 2).toNatClampNeg) uX 100 (by decide)) e1 rfl rfl wL_74 wwX8_talk shX_0 rfl (Nat.le_of_ble_eq_true rfl) dL_633 ?_
  refine L_aload2 C dL_636 ?_
  refine L_aload0 C dL_637 ?_
  refine L_iload3 C dL_638 ?_
  refine L_iconst (v := 1) C dL_639 (by decide) ?_
  refine L_iadd C dL_640 ?_
  refine L_sld C h1 dL_641 ?_
  refine L_aload0 C dL_642 ?_
  refine L_iload3 C dL_643 ?_
  refine L_iconst (v := 2) C dL_644 (by decide) ?_
  refine L_iadd C dL_645 ?_
  refine L_sld C h2 dL_646 ?_
  refine L_callMi C (As := [.int (xs (x3 + 1).toNatClampNeg), .int (xs (x3 + 2).toNatClampNeg)]) (m_X9_talk (xs (x3 + 1).toNatClampNeg) (xs (x3 + 2).toNatClampNeg) uM 100 (by decide)) e2 rfl rfl wL_77 wwX9_talk shM_0 rfl (Nat.le_of_ble_eq_true rfl) dL_647 ?_
  refine L_same (tgt := 1331) C dL_650 (by decide) ?_
  exact hcont uX' uM' hR
theorem law_15 (C : LwC p s m c b Ln xs aX aM dA D) {Rel : zM → zM → Prop} (hs : sim_X8_see Rel) (hRel : Rel uX uM) (h1 : vp_in (x3 + 1) Ln) (h2 : vp_in (x3 + 2) Ln) (h3 : vp_in (x3 + 3) Ln) (h4 : vp_in (x3 + 4) Ln) (h5 : vp_in (x3 + 5) Ln) (hcont : ∀ uX uM, Rel uX uM → GoL p l e s m below meth c b aX aM dA D x3 1331 [] uX uM) : GoL p l e s m below meth c b aX aM dA D x3 655 [] uX uM := by
  refine L_aload1 C dL_655 ?_
  refine L_aload0 C dL_656 ?_
  refine L_iload3 C dL_657 ?_
  refine L_iconst (v := 1) C dL_658 (by decide) ?_
  refine L_iadd C dL_659 ?_
  refine L_sld C h1 dL_660 ?_
  refine L_aload0 C dL_661 ?_
  refine L_iload3 C dL_662 ?_
  refine L_iconst (v := 2) C dL_663 (by decide) ?_
  refine L_iadd C dL_664 ?_
  refine L_sld C h2 dL_665 ?_
  refine L_aload0 C dL_666 ?_
  refine L_iload3 C dL_667 ?_
  refine L_iconst (v := 3) C dL_668 (by decide) ?_
  refine L_iadd C dL_669 ?_
  refine L_sld C h3 dL_670 ?_
  refine L_if (tgt := 678) C dL_671 (by decide) (fun hz => ?_) (fun hz => ?_)
  · obtain ⟨r, uX', uM', e1, e2, hR⟩ := hs (xs (x3 + 1).toNatClampNeg) (xs (x3 + 2).toNatClampNeg) (0 : Int32) (by decide) uX uM hRel
    refine L_iconst (v := 0) C dL_678 (by decide) ?_
    refine L_callXi C (As := [.int (xs (x3 + 1).toNatClampNeg), .int (xs (x3 + 2).toNatClampNeg), .int (0 : Int32)]) (m_X8_see (xs (x3 + 1).toNatClampNeg) (xs (x3 + 2).toNatClampNeg) (0 : Int32) uX 100 (by decide)) e1 rfl rfl wL_78 wwX8_see shX_0 rfl (Nat.le_of_ble_eq_true rfl) dL_679 ?_
    refine L_aload2 C dL_682 ?_
    refine L_aload0 C dL_683 ?_
    refine L_iload3 C dL_684 ?_
    refine L_iconst (v := 1) C dL_685 (by decide) ?_
    refine L_iadd C dL_686 ?_
    refine L_sld C h1 dL_687 ?_
    refine L_aload0 C dL_688 ?_
    refine L_iload3 C dL_689 ?_
    refine L_iconst (v := 2) C dL_690 (by decide) ?_
    refine L_iadd C dL_691 ?_
    refine L_sld C h2 dL_692 ?_
    refine L_aload0 C dL_693 ?_
    refine L_iload3 C dL_694 ?_
    refine L_iconst (v := 3) C dL_695 (by decide) ?_
    refine L_iadd C dL_696 ?_
    refine L_sld C h3 dL_697 ?_
    refine L_if (tgt := 705) C dL_698 (by decide) (fun _ => ?_) (fun h => absurd hz h)
    refine L_iconst (v := 0) C dL_705 (by decide) ?_
    refine L_callMi C (As := [.int (xs (x3 + 1).toNatClampNeg), .int (xs (x3 + 2).toNatClampNeg), .int (0 : Int32)]) (m_X9_see (xs (x3 + 1).toNatClampNeg) (xs (x3 + 2).toNatClampNeg) (0 : Int32) uM 100 (by decide)) e2 rfl rfl wL_82 wwX9_see shM_0 rfl (Nat.le_of_ble_eq_true rfl) dL_706 ?_
    refine L_same (tgt := 1331) C dL_709 (by decide) ?_
    exact hcont uX' uM' hR
  · obtain ⟨r, uX', uM', e1, e2, hR⟩ := hs (xs (x3 + 1).toNatClampNeg) (xs (x3 + 2).toNatClampNeg) (1 : Int32) (by decide) uX uM hRel
    refine L_iconst (v := 1) C dL_674 (by decide) ?_
    refine L_goto (tgt := 679) C dL_675 (by decide) ?_
    refine L_callXi C (As := [.int (xs (x3 + 1).toNatClampNeg), .int (xs (x3 + 2).toNatClampNeg), .int (1 : Int32)]) (m_X8_see (xs (x3 + 1).toNatClampNeg) (xs (x3 + 2).toNatClampNeg) (1 : Int32) uX 100 (by decide)) e1 rfl rfl wL_78 wwX8_see shX_0 rfl (Nat.le_of_ble_eq_true rfl) dL_679 ?_
    refine L_aload2 C dL_682 ?_
    refine L_aload0 C dL_683 ?_
    refine L_iload3 C dL_684 ?_
    refine L_iconst (v := 1) C dL_685 (by decide) ?_
    refine L_iadd C dL_686 ?_
    refine L_sld C h1 dL_687 ?_
    refine L_aload0 C dL_688 ?_
    refine L_iload3 C dL_689 ?_
    refine L_iconst (v := 2) C dL_690 (by decide) ?_
    refine L_iadd C dL_691 ?_
    refine L_sld C h2 dL_692 ?_
    refine L_aload0 C dL_693 ?_
    refine L_iload3 C dL_694 ?_
    refine L_iconst (v := 3) C dL_695 (by decide) ?_
    refine L_iadd C dL_696 ?_
    refine L_sld C h3 dL_697 ?_
    refine L_if (tgt := 705) C dL_698 (by decide) (fun h => absurd h hz) (fun _ => ?_)
    refine L_iconst (v := 1) C dL_701 (by decide) ?_
    refine L_goto (tgt := 706) C dL_702 (by decide) ?_
    refine L_callMi C (As := [.int (xs (x3 + 1).toNatClampNeg), .int (xs (x3 + 2).toNatClampNeg), .int (1 : Int32)]) (m_X9_see (xs (x3 + 1).toNatClampNeg) (xs (x3 + 2).toNatClampNeg) (1 : Int32) uM 100 (by decide)) e2 rfl rfl wL_82 wwX9_see shM_0 rfl (Nat.le_of_ble_eq_true rfl) dL_706 ?_
    refine L_same (tgt := 1331) C dL_709 (by decide) ?_
    exact hcont uX' uM' hR
theorem law_16 (C : LwC p s m c b Ln xs aX aM dA D) {Rel : zM → zM → Prop} (hs : sim_X8_can Rel) (hRel : Rel uX uM) (h1 : vp_in (x3 + 1) Ln) (h2 : vp_in (x3 + 2) Ln) (h3 : vp_in (x3 + 3) Ln) (h4 : vp_in (x3 + 4) Ln) (h5 : vp_in (x3 + 5) Ln) (hcont : ∀ uX uM, Rel uX uM → GoL p l e s m below meth c b aX aM dA D x3 1331 [] uX uM) : GoL p l e s m below meth c b aX aM dA D x3 714 [] uX uM := by
  obtain ⟨r, uX', uM', e1, e2, hR⟩ := hs (xs (x3 + 1).toNatClampNeg) (xs (x3 + 2).toNatClampNeg) (xs (x3 + 3).toNatClampNeg) uX uM hRel
  refine L_aload1 C dL_714 ?_
  refine L_aload0 C dL_715 ?_
  refine L_iload3 C dL_716 ?_
  refine L_iconst (v := 1) C dL_717 (by decide) ?_
  refine L_iadd C dL_718 ?_
  refine L_sld C h1 dL_719 ?_
  refine L_aload0 C dL_720 ?_
  refine L_iload3 C dL_721 ?_
  refine L_iconst (v := 2) C dL_722 (by decide) ?_
  refine L_iadd C dL_723 ?_
  refine L_sld C h2 dL_724 ?_
  refine L_aload0 C dL_725 ?_
  refine L_iload3 C dL_726 ?_
  refine L_iconst (v := 3) C dL_727 (by decide) ?_
  refine L_iadd C dL_728 ?_
  refine L_sld C h3 dL_729 ?_
  refine L_callXi C (As := [.int (xs (x3 + 1).toNatClampNeg), .int (xs (x3 + 2).toNatClampNeg), .int (xs (x3 + 3).toNatClampNeg)]) (m_X8_can (xs (x3 + 1).toNatClampNeg) (xs (x3 + 2).toNatClampNeg) (xs (x3 + 3).toNatClampNeg) uX 100 (by decide)) e1 rfl rfl wL_83 wwX8_can shX_0 rfl (Nat.le_of_ble_eq_true rfl) dL_730 ?_
  refine L_aload2 C dL_733 ?_
  refine L_aload0 C dL_734 ?_
  refine L_iload3 C dL_735 ?_
  refine L_iconst (v := 1) C dL_736 (by decide) ?_
  refine L_iadd C dL_737 ?_
  refine L_sld C h1 dL_738 ?_
  refine L_aload0 C dL_739 ?_
  refine L_iload3 C dL_740 ?_
  refine L_iconst (v := 2) C dL_741 (by decide) ?_
  refine L_iadd C dL_742 ?_
  refine L_sld C h2 dL_743 ?_
  refine L_aload0 C dL_744 ?_
  refine L_iload3 C dL_745 ?_
  refine L_iconst (v := 3) C dL_746 (by decide) ?_
  refine L_iadd C dL_747 ?_
  refine L_sld C h3 dL_748 ?_
  refine L_callMi C (As := [.int (xs (x3 + 1).toNatClampNeg), .int (xs (x3 + 2).toNatClampNeg), .int (xs (x3 + 3).toNatClampNeg)]) (m_X9_can (xs (x3 + 1).toNatClampNeg) (xs (x3 + 2).toNatClampNeg) (xs (x3 + 3).toNatClampNeg) uM 100 (by decide)) e2 rfl rfl wL_86 wwX9_can shM_0 rfl (Nat.le_of_ble_eq_true rfl) dL_749 ?_
  refine L_same (tgt := 1331) C dL_752 (by decide) ?_
  exact hcont uX' uM' hR
theorem law_17 (C : LwC p s m c b Ln xs aX aM dA D) {Rel : zM → zM → Prop} (hs : sim_X8_odds Rel) (hRel : Rel uX uM) (h1 : vp_in (x3 + 1) Ln) (h2 : vp_in (x3 + 2) Ln) (h3 : vp_in (x3 + 3) Ln) (h4 : vp_in (x3 + 4) Ln) (h5 : vp_in (x3 + 5) Ln) (hcont : ∀ uX uM, Rel uX uM → GoL p l e s m below meth c b aX aM dA D x3 1331 [] uX uM) : GoL p l e s m below meth c b aX aM dA D x3 757 [] uX uM := by
  obtain ⟨r, uX', uM', e1, e2, hR⟩ := hs (xs (x3 + 1).toNatClampNeg) (xs (x3 + 2).toNatClampNeg) (xs (x3 + 3).toNatClampNeg) uX uM hRel
  refine L_aload1 C dL_757 ?_
  refine L_aload0 C dL_758 ?_
  refine L_iload3 C dL_759 ?_
  refine L_iconst (v := 1) C dL_760 (by decide) ?_
  refine L_iadd C dL_761 ?_
  refine L_sld C h1 dL_762 ?_
  refine L_aload0 C dL_763 ?_
  refine L_iload3 C dL_764 ?_
  refine L_iconst (v := 2) C dL_765 (by decide) ?_
  refine L_iadd C dL_766 ?_
  refine L_sld C h2 dL_767 ?_
  refine L_aload0 C dL_768 ?_
  refine L_iload3 C dL_769 ?_
  refine L_iconst (v := 3) C dL_770 (by decide) ?_
  refine L_iadd C dL_771 ?_
  refine L_sld C h3 dL_772 ?_
  refine L_callXl C (As := [.int (xs (x3 + 1).toNatClampNeg), .int (xs (x3 + 2).toNatClampNeg), .int (xs (x3 + 3).toNatClampNeg)]) (m_X8_odds (xs (x3 + 1).toNatClampNeg) (xs (x3 + 2).toNatClampNeg) (xs (x3 + 3).toNatClampNeg) uX 100 (by decide)) e1 rfl rfl wL_87 wwX8_odds shX_0 rfl (Nat.le_of_ble_eq_true rfl) dL_773 ?_
  refine L_aload2 C dL_776 ?_
  refine L_aload0 C dL_777 ?_
  refine L_iload3 C dL_778 ?_
  refine L_iconst (v := 1) C dL_779 (by decide) ?_
  refine L_iadd C dL_780 ?_
  refine L_sld C h1 dL_781 ?_
  refine L_aload0 C dL_782 ?_
  refine L_iload3 C dL_783 ?_
  refine L_iconst (v := 2) C dL_784 (by decide) ?_
  refine L_iadd C dL_785 ?_
  refine L_sld C h2 dL_786 ?_
  refine L_aload0 C dL_787 ?_
  refine L_iload3 C dL_788 ?_
  refine L_iconst (v := 3) C dL_789 (by decide) ?_
  refine L_iadd C dL_790 ?_
  refine L_sld C h3 dL_791 ?_
  refine L_callMl C (As := [.int (xs (x3 + 1).toNatClampNeg), .int (xs (x3 + 2).toNatClampNeg), .int (xs (x3 + 3).toNatClampNeg)]) (m_X9_odds (xs (x3 + 1).toNatClampNeg) (xs (x3 + 2).toNatClampNeg) (xs (x3 + 3).toNatClampNeg) uM 100 (by decide)) e2 rfl rfl wL_91 wwX9_odds shM_0 rfl (Nat.le_of_ble_eq_true rfl) dL_792 ?_
  refine L_lsame (tgt := 1331) C dL_795 dL_796 (by decide) ?_
  exact hcont uX' uM' hR
theorem law_18 (C : LwC p s m c b Ln xs aX aM dA D) {Rel : zM → zM → Prop} (hs : sim_X8_mean Rel) (hRel : Rel uX uM) (h1 : vp_in (x3 + 1) Ln) (h2 : vp_in (x3 + 2) Ln) (h3 : vp_in (x3 + 3) Ln) (h4 : vp_in (x3 + 4) Ln) (h5 : vp_in (x3 + 5) Ln) (hcont : ∀ uX uM, Rel uX uM → GoL p l e s m below meth c b aX aM dA D x3 1331 [] uX uM) : GoL p l e s m below meth c b aX aM dA D x3 801 [] uX uM := by
  obtain ⟨r, uX', uM', e1, e2, hR⟩ := hs (xs (x3 + 1).toNatClampNeg) (xs (x3 + 2).toNatClampNeg) uX uM hRel
  refine L_aload1 C dL_801 ?_
  refine L_aload0 C dL_802 ?_
  refine L_iload3 C dL_803 ?_
  refine L_iconst (v := 1) C dL_804 (by decide) ?_
  refine L_iadd C dL_805 ?_
  refine L_sld C h1 dL_806 ?_
  refine L_aload0 C dL_807 ?_
  refine L_iload3 C dL_808 ?_
  refine L_iconst (v := 2) C dL_809 (by decide) ?_
  refine L_iadd C dL_810 ?_
  refine L_sld C h2 dL_811 ?_
  refine L_callXl C (As := [.int (xs (x3 + 1).toNatClampNeg), .int (xs (x3 + 2).toNatClampNeg)]) (m_X8_mean (xs (x3 + 1).toNatClampNeg) (xs (x3 + 2).toNatClampNeg) uX 100 (by decide)) e1 rfl rfl wL_92 wwX8_mean shX_0 rfl (Nat.le_of_ble_eq_true rfl) dL_812 ?_
  refine L_aload2 C dL_815 ?_
  refine L_aload0 C dL_816 ?_
  refine L_iload3 C dL_817 ?_
  refine L_iconst (v := 1) C dL_818 (by decide) ?_
  refine L_iadd C dL_819 ?_
  refine L_sld C h1 dL_820 ?_
  refine L_aload0 C dL_821 ?_
  refine L_iload3 C dL_822 ?_
  refine L_iconst (v := 2) C dL_823 (by decide) ?_
  refine L_iadd C dL_824 ?_
  refine L_sld C h2 dL_825 ?_
  refine L_callMl C (As := [.int (xs (x3 + 1).toNatClampNeg), .int (xs (x3 + 2).toNatClampNeg)]) (m_X9_mean (xs (x3 + 1).toNatClampNeg) (xs (x3 + 2).toNatClampNeg) uM 100 (by decide)) e2 rfl rfl wL_96 wwX9_mean shM_0 rfl (Nat.le_of_ble_eq_true rfl) dL_826 ?_
  refine L_lsame (tgt := 1331) C dL_829 dL_830 (by decide) ?_
  exact hcont uX' uM' hR
theorem law_19 (C : LwC p s m c b Ln xs aX aM dA D) {Rel : zM → zM → Prop} (hs : sim_X8_plan Rel) (hRel : Rel uX uM) (h1 : vp_in (x3 + 1) Ln) (h2 : vp_in (x3 + 2) Ln) (h3 : vp_in (x3 + 3) Ln) (h4 : vp_in (x3 + 4) Ln) (h5 : vp_in (x3 + 5) Ln) (hcont : ∀ uX uM, Rel uX uM → GoL p l e s m below meth c b aX aM dA D x3 1331 [] uX uM) : GoL p l e s m below meth c b aX aM dA D x3 835 [] uX uM := by
  obtain ⟨r, uX', uM', e1, e2, hR⟩ := hs (xs (x3 + 1).toNatClampNeg) (xs (x3 + 2).toNatClampNeg) uX uM hRel
  refine L_aload1 C dL_835 ?_
  refine L_aload0 C dL_836 ?_
  refine L_iload3 C dL_837 ?_
  refine L_iconst (v := 1) C dL_838 (by decide) ?_
  refine L_iadd C dL_839 ?_
  refine L_sld C h1 dL_840 ?_
  refine L_aload0 C dL_841 ?_
  refine L_iload3 C dL_842 ?_
  refine L_iconst (v := 2) C dL_843 (by decide) ?_
  refine L_iadd C dL_844 ?_
  refine L_sld C h2 dL_845 ?_
  refine L_callXi C (As := [.int (xs (x3 + 1).toNatClampNeg), .int (xs (x3 + 2).toNatClampNeg)]) (m_X8_plan (xs (x3 + 1).toNatClampNeg) (xs (x3 + 2).toNatClampNeg) uX 100 (by decide)) e1 rfl rfl wL_97 wwX8_plan shX_0 rfl (Nat.le_of_ble_eq_true rfl) dL_846 ?_
  refine L_aload2 C dL_849 ?_
  refine L_aload0 C dL_850 ?_
  refine L_iload3 C dL_851 ?_
  refine L_iconst (v := 1) C dL_852 (by decide) ?_
  refine L_iadd C dL_853 ?_
  refine L_sld C h1 dL_854 ?_
  refine L_aload0 C dL_855 ?_
  refine L_iload3 C dL_856 ?_
  refine L_iconst (v := 2) C dL_857 (by decide) ?_
  refine L_iadd C dL_858 ?_
  refine L_sld C h2 dL_859 ?_
  refine L_callMi C (As := [.int (xs (x3 + 1).toNatClampNeg), .int (xs (x3 + 2).toNatClampNeg)]) (m_X9_plan (xs (x3 + 1).toNatClampNeg) (xs (x3 + 2).toNatClampNeg) uM 100 (by decide)) e2 rfl rfl wL_100 wwX9_plan shM_0 rfl (Nat.le_of_ble_eq_true rfl) dL_860 ?_
  refine L_same (tgt := 1331) C dL_863 (by decide) ?_
  exact hcont uX' uM' hR
theorem law_20 (C : LwC p s m c b Ln xs aX aM dA D) {Rel : zM → zM → Prop} (hs : sim_X8_ends Rel) (hRel : Rel uX uM) (h1 : vp_in (x3 + 1) Ln) (h2 : vp_in (x3 + 2) Ln) (h3 : vp_in (x3 + 3) Ln) (h4 : vp_in (x3 + 4) Ln) (h5 : vp_in (x3 + 5) Ln) (hcont : ∀ uX uM, Rel uX uM → GoL p l e s m below meth c b aX aM dA D x3 1331 [] uX uM) : GoL p l e s m below meth c b aX aM dA D x3 868 [] uX uM := by
  obtain ⟨r, uX', uM', e1, e2, hR⟩ := hs (xs (x3 + 1).toNatClampNeg) uX uM hRel
  refine L_aload1 C dL_868 ?_
  refine L_aload0 C dL_869 ?_
  refine L_iload3 C dL_870 ?_
  refine L_iconst (v := 1) C dL_871 (by decide) ?_
  refine L_iadd C dL_872 ?_
  refine L_sld C h1 dL_873 ?_
  refine L_callXi C (As := [.int (xs (x3 + 1).toNatClampNeg)]) (m_X8_ends (xs (x3 + 1).toNatClampNeg) uX 100 (by decide)) e1 rfl rfl wL_101 wwX8_ends shX_0 rfl (Nat.le_of_ble_eq_true rfl) dL_874 ?_
  refine L_aload2 C dL_877 ?_
  refine L_aload0 C dL_878 ?_
  refine L_iload3 C dL_879 ?_
  refine L_iconst (v := 1) C dL_880 (by decide) ?_
  refine L_iadd C dL_881 ?_
  refine L_sld C h1 dL_882 ?_
  refine L_callMi C (As := [.int (xs (x3 + 1).toNatClampNeg)]) (m_X9_ends (xs (x3 + 1).toNatClampNeg) uM 100 (by decide)) e2 rfl rfl wL_104 wwX9_ends shM_0 rfl (Nat.le_of_ble_eq_true rfl) dL_883 ?_
  refine L_same (tgt := 1331) C dL_886 (by decide) ?_
  exact hcont uX' uM' hR
theorem law_21 (C : LwC p s m c b Ln xs aX aM dA D) {Rel : zM → zM → Prop} (hs : sim_X8_book Rel) (hRel : Rel uX uM) (h1 : vp_in (x3 + 1) Ln) (h2 : vp_in (x3 + 2) Ln) (h3 : vp_in (x3 + 3) Ln) (h4 : vp_in (x3 + 4) Ln) (h5 : vp_in (x3 + 5) Ln) (hcont : ∀ uX uM, Rel uX uM → GoL p l e s m below meth c b aX aM dA D x3 1331 [] uX uM) : GoL p l e s m below meth c b aX aM dA D x3 891 [] uX uM := by
  obtain ⟨r, uX', uM', e1, e2, hR⟩ := hs (xs (x3 + 1).toNatClampNeg) (xs (x3 + 2).toNatClampNeg) uX uM hRel
  refine L_aload1 C dL_891 ?_
  refine L_aload0 C dL_892 ?_
  refine L_iload3 C dL_893 ?_
  refine L_iconst (v := 1) C dL_894 (by decide) ?_
  refine L_iadd C dL_895 ?_
  refine L_sld C h1 dL_896 ?_
  refine L_aload0 C dL_897 ?_
  refine L_iload3 C dL_898 ?_
  refine L_iconst (v := 2) C dL_899 (by decide) ?_
  refine L_iadd C dL_900 ?_
  refine L_sld C h2 dL_901 ?_
  refine L_callXi C (As := [.int (xs (x3 + 1).toNatClampNeg), .int (xs (x3 + 2).toNatClampNeg)]) (m_X8_book (xs (x3 + 1).toNatClampNeg) (xs (x3 + 2).toNatClampNeg) uX 100 (by decide)) e1 rfl rfl wL_105 wwX8_book shX_0 rfl (Nat.le_of_ble_eq_true rfl) dL_902 ?_
  refine L_aload2 C dL_905 ?_
  refine L_aload0 C dL_906 ?_
  refine L_iload3 C dL_907 ?_
  refine L_iconst (v := 1) C dL_908 (by decide) ?_
  refine L_iadd C dL_909 ?_
  refine L_sld C h1 dL_910 ?_
  refine L_aload0 C dL_911 ?_
  refine L_iload3 C dL_912 ?_
  refine L_iconst (v := 2) C dL_913 (by decide) ?_
  refine L_iadd C dL_914 ?_
  refine L_sld C h2 dL_915 ?_
  refine L_callMi C (As := [.int (xs (x3 + 1).toNatClampNeg), .int (xs (x3 + 2).toNatClampNeg)]) (m_X9_book (xs (x3 + 1).toNatClampNeg) (xs (x3 + 2).toNatClampNeg) uM 100 (by decide)) e2 rfl rfl wL_108 wwX9_book shM_0 rfl (Nat.le_of_ble_eq_true rfl) dL_916 ?_
  refine L_same (tgt := 1331) C dL_919 (by decide) ?_
  exact hcont uX' uM' hR
theorem law_22 (C : LwC p s m c b Ln xs aX aM dA D) {Rel : zM → zM → Prop} (hs : sim_X8_looked Rel) (hRel : Rel uX uM) (h1 : vp_in (x3 + 1) Ln) (h2 : vp_in (x3 + 2) Ln) (h3 : vp_in (x3 + 3) Ln) (h4 : vp_in (x3 + 4) Ln) (h5 : vp_in (x3 + 5) Ln) (hcont : ∀ uX uM, Rel uX uM → GoL p l e s m below meth c b aX aM dA D x3 1331 [] uX uM) : GoL p l e s m below meth c b aX aM dA D x3 924 [] uX uM := by
  obtain ⟨r, uX', uM', e1, e2, hR⟩ := hs uX uM hRel
  refine L_aload1 C dL_924 ?_
  refine L_callXi C (As := []) (m_X8_looked uX 100 (by decide)) e1 rfl rfl wL_109 wwX8_looked shX_0 rfl (Nat.le_of_ble_eq_true rfl) dL_925 ?_
  refine L_aload2 C dL_928 ?_
  refine L_callMi C (As := []) (m_X9_looked uM 100 (by decide)) e2 rfl rfl wL_112 wwX9_looked shM_0 rfl (Nat.le_of_ble_eq_true rfl) dL_929 ?_
  refine L_same (tgt := 1331) C dL_932 (by decide) ?_
  exact hcont uX' uM' hR
theorem law_23 (C : LwC p s m c b Ln xs aX aM dA D) {Rel : zM → zM → Prop} (hs : sim_X8_judge Rel) (hRel : Rel uX uM) (h1 : vp_in (x3 + 1) Ln) (h2 : vp_in (x3 + 2) Ln) (h3 : vp_in (x3 + 3) Ln) (h4 : vp_in (x3 + 4) Ln) (h5 : vp_in (x3 + 5) Ln) (hcont : ∀ uX uM, Rel uX uM → GoL p l e s m below meth c b aX aM dA D x3 1331 [] uX uM) : GoL p l e s m below meth c b aX aM dA D x3 937 [] uX uM := by
  obtain ⟨r, uX', uM', e1, e2, hR⟩ := hs (xs (x3 + 1).toNatClampNeg) (xs (x3 + 2).toNatClampNeg) uX uM hRel
  refine L_aload1 C dL_937 ?_
  refine L_aload0 C dL_938 ?_
  refine L_iload3 C dL_939 ?_
  refine L_iconst (v := 1) C dL_940 (by decide) ?_
  refine L_iadd C dL_941 ?_
  refine L_sld C h1 dL_942 ?_
  refine L_aload0 C dL_943 ?_
  refine L_iload3 C dL_944 ?_
  refine L_iconst (v := 2) C dL_945 (by decide) ?_
  refine L_iadd C dL_946 ?_
  refine L_sld C h2 dL_947 ?_
  refine L_callXi C (As := [.int (xs (x3 + 1).toNatClampNeg), .int (xs (x3 + 2).toNatClampNeg)]) (m_X8_judge (xs (x3 + 1).toNatClampNeg) (xs (x3 + 2).toNatClampNeg) uX 100 (by decide)) e1 rfl rfl wL_113 wwX8_judge shX_0 rfl (Nat.le_of_ble_eq_true rfl) dL_948 ?_
  refine L_aload2 C dL_951 ?_
  refine L_aload0 C dL_952 ?_
  refine L_iload3 C dL_953 ?_
  refine L_iconst (v := 1) C dL_954 (by decide) ?_
  refine L_iadd C dL_955 ?_
  refine L_sld C h1 dL_956 ?_
  refine L_aload0 C dL_957 ?_
  refine L_iload3 C dL_958 ?_
  refine L_iconst (v := 2) C dL_959 (by decide) ?_
  refine L_iadd C dL_960 ?_
  refine L_sld C h2 dL_961 ?_
  refine L_callMi C (As := [.int (xs (x3 + 1).toNatClampNeg), .int (xs (x3 + 2).toNatClampNeg)]) (m_X9_judge (xs (x3 + 1).toNatClampNeg) (xs (x3 + 2).toNatClampNeg) uM 100 (by decide)) e2 rfl rfl wL_116 wwX9_judge shM_0 rfl (Nat.le_of_ble_eq_true rfl) dL_962 ?_
  refine L_same (tgt := 1331) C dL_965 (by decide) ?_
  exact hcont uX' uM' hR
theorem law_24 (C : LwC p s m c b Ln xs aX aM dA D) {Rel : zM → zM → Prop} (hs : sim_X8_image Rel) (hRel : Rel uX uM) (h1 : vp_in (x3 + 1) Ln) (h2 : vp_in (x3 + 2) Ln) (h3 : vp_in (x3 + 3) Ln) (h4 : vp_in (x3 + 4) Ln) (h5 : vp_in (x3 + 5) Ln) (hcont : ∀ uX uM, Rel uX uM → GoL p l e s m below meth c b aX aM dA D x3 1331 [] uX uM) : GoL p l e s m below meth c b aX aM dA D x3 970 [] uX uM := by
  obtain ⟨r, uX', uM', e1, e2, hR⟩ := hs uX uM hRel
  refine L_aload1 C dL_970 ?_
  refine L_callXi C (As := []) (m_X8_image uX 100 (by decide)) e1 rfl rfl wL_117 wwX8_image shX_0 rfl (Nat.le_of_ble_eq_true rfl) dL_971 ?_
  refine L_aload2 C dL_974 ?_
  refine L_callMi C (As := []) (m_X9_image uM 100 (by decide)) e2 rfl rfl wL_120 wwX9_image shM_0 rfl (Nat.le_of_ble_eq_true rfl) dL_975 ?_
  refine L_same (tgt := 1331) C dL_978 (by decide) ?_
  exact hcont uX' uM' hR
theorem law_25 (C : LwC p s m c b Ln xs aX aM dA D) {Rel : zM → zM → Prop} (hs : sim_X8_undo Rel) (hRel : Rel uX uM) (h1 : vp_in (x3 + 1) Ln) (h2 : vp_in (x3 + 2) Ln) (h3 : vp_in (x3 + 3) Ln) (h4 : vp_in (x3 + 4) Ln) (h5 : vp_in (x3 + 5) Ln) (hcont : ∀ uX uM, Rel uX uM → GoL p l e s m below meth c b aX aM dA D x3 1331 [] uX uM) : GoL p l e s m below meth c b aX aM dA D x3 983 [] uX uM := by
  obtain ⟨r, uX', uM', e1, e2, hR⟩ := hs uX uM hRel
  refine L_aload1 C dL_983 ?_
  refine L_callXi C (As := []) (m_X8_undo uX 100 (by decide)) e1 rfl rfl wL_121 wwX8_undo shX_0 rfl (Nat.le_of_ble_eq_true rfl) dL_984 ?_
  refine L_aload2 C dL_987 ?_
  refine L_callMi C (As := []) (m_X9_undo uM 100 (by decide)) e2 rfl rfl wL_124 wwX9_undo shM_0 rfl (Nat.le_of_ble_eq_true rfl) dL_988 ?_
  refine L_same (tgt := 1331) C dL_991 (by decide) ?_
  exact hcont uX' uM' hR
theorem law_26 (C : LwC p s m c b Ln xs aX aM dA D) {Rel : zM → zM → Prop} (hs : sim_X8_act Rel) (hRel : Rel uX uM) (h1 : vp_in (x3 + 1) Ln) (h2 : vp_in (x3 + 2) Ln) (h3 : vp_in (x3 + 3) Ln) (h4 : vp_in (x3 + 4) Ln) (h5 : vp_in (x3 + 5) Ln) (hcont : ∀ uX uM, Rel uX uM → GoL p l e s m below meth c b aX aM dA D x3 1331 [] uX uM) : GoL p l e s m below meth c b aX aM dA D x3 996 [] uX uM := by
  obtain ⟨r, uX', uM', e1, e2, hR⟩ := hs (xs (x3 + 1).toNatClampNeg) (xs (x3 + 2).toNatClampNeg) (xs (x3 + 3).toNatClampNeg) uX uM hRel
  refine L_aload1 C dL_996 ?_
  refine L_aload0 C dL_997 ?_
  refine L_iload3 C dL_998 ?_
  refine L_iconst (v := 1) C dL_999 (by decide) ?_
  refine L_iadd C dL_1000 ?_
  refine L_sld C h1 dL_1001 ?_
  refine L_aload0 C dL_1002 ?_
  refine L_iload3 C dL_1003 ?_
  refine L_iconst (v := 2) C dL_1004 (by decide) ?_
  refine L_iadd C dL_1005 ?_
  refine L_sld C h2 dL_1006 ?_
  refine L_aload0 C dL_1007 ?_
  refine L_iload3 C dL_1008 ?_
  refine L_iconst (v := 3) C dL_1009 (by decide) ?_
  refine L_iadd C dL_1010 ?_
  refine L_sld C h3 dL_1011 ?_
  refine L_callXi C (As := [.int (xs (x3 + 1).toNatClampNeg), .int (xs (x3 + 2).toNatClampNeg), .int (xs (x3 + 3).toNatClampNeg)]) (m_X8_act (xs (x3 + 1).toNatClampNeg) (xs (x3 + 2).toNatClampNeg) (xs (x3 + 3).toNatClampNeg) uX 100 (by decide)) e1 rfl rfl wL_125 wwX8_act shX_0 rfl (Nat.le_of_ble_eq_true rfl) dL_1012 ?_
  refine L_aload2 C dL_1015 ?_
  refine L_aload0 C dL_1016 ?_
  refine L_iload3 C dL_1017 ?_
  refine L_iconst (v := 1) C dL_1018 (by decide) ?_
  refine L_iadd C dL_1019 ?_
  refine L_sld C h1 dL_1020 ?_
  refine L_aload0 C dL_1021 ?_
  refine L_iload3 C dL_1022 ?_
  refine L_iconst (v := 2) C dL_1023 (by decide) ?_
  refine L_iadd C dL_1024 ?_
  refine L_sld C h2 dL_1025 ?_
  refine L_aload0 C dL_1026 ?_
  refine L_iload3 C dL_1027 ?_
  refine L_iconst (v := 3) C dL_1028 (by decide) ?_
  refine L_iadd C dL_1029 ?_
  refine L_sld C h3 dL_1030 ?_
  refine L_callMi C (As := [.int (xs (x3 + 1).toNatClampNeg), .int (xs (x3 + 2).toNatClampNeg), .int (xs (x3 + 3).toNatClampNeg)]) (m_X9_act (xs (x3 + 1).toNatClampNeg) (xs (x3 + 2).toNatClampNeg) (xs (x3 + 3).toNatClampNeg) uM 100 (by decide)) e2 rfl rfl wL_128 wwX9_act shM_0 rfl (Nat.le_of_ble_eq_true rfl) dL_1031 ?_
  refine L_same (tgt := 1331) C dL_1034 (by decide) ?_
  exact hcont uX' uM' hR
theorem law_27 (C : LwC p s m c b Ln xs aX aM dA D) {Rel : zM → zM → Prop} (hs : sim_X8_trace Rel) (hRel : Rel uX uM) (h1 : vp_in (x3 + 1) Ln) (h2 : vp_in (x3 + 2) Ln) (h3 : vp_in (x3 + 3) Ln) (h4 : vp_in (x3 + 4) Ln) (h5 : vp_in (x3 + 5) Ln) (hcont : ∀ uX uM, Rel uX uM → GoL p l e s m below meth c b aX aM dA D x3 1331 [] uX uM) : GoL p l e s m below meth c b aX aM dA D x3 1039 [] uX uM := by
  obtain ⟨r, uX', uM', e1, e2, hR⟩ := hs (xs (x3 + 1).toNatClampNeg) uX uM hRel
  refine L_aload1 C dL_1039 ?_
  refine L_aload0 C dL_1040 ?_
  refine L_iload3 C dL_1041 ?_
  refine L_iconst (v := 1) C dL_1042 (by decide) ?_
  refine L_iadd C dL_1043 ?_
  refine L_sld C h1 dL_1044 ?_
  refine L_callXi C (As := [.int (xs (x3 + 1).toNatClampNeg)]) (m_X8_trace (xs (x3 + 1).toNatClampNeg) uX 100 (by decide)) e1 rfl rfl wL_129 wwX8_trace shX_0 rfl (Nat.le_of_ble_eq_true rfl) dL_1045 ?_
  refine L_aload2 C dL_1048 ?_
  refine L_aload0 C dL_1049 ?_
  refine L_iload3 C dL_1050 ?_
  refine L_iconst (v := 1) C dL_1051 (by decide) ?_
  refine L_iadd C dL_1052 ?_
  refine L_sld C h1 dL_1053 ?_
  refine L_callMi C (As := [.int (xs (x3 + 1).toNatClampNeg)]) (m_X9_trace (xs (x3 + 1).toNatClampNeg) uM 100 (by decide)) e2 rfl rfl wL_132 wwX9_trace shM_0 rfl (Nat.le_of_ble_eq_true rfl) dL_1054 ?_
  refine L_same (tgt := 1331) C dL_1057 (by decide) ?_
  exact hcont uX' uM' hR
theorem law_28 (C : LwC p s m c b Ln xs aX aM dA D) {Rel : zM → zM → Prop} (hs : sim_X8_taken Rel) (hRel : Rel uX uM) (h1 : vp_in (x3 + 1) Ln) (h2 : vp_in (x3 + 2) Ln) (h3 : vp_in (x3 + 3) Ln) (h4 : vp_in (x3 + 4) Ln) (h5 : vp_in (x3 + 5) Ln) (hcont : ∀ uX uM, Rel uX uM → GoL p l e s m below meth c b aX aM dA D x3 1331 [] uX uM) : GoL p l e s m below meth c b aX aM dA D x3 1062 [] uX uM := by
  obtain ⟨r, uX', uM', e1, e2, hR⟩ := hs (xs (x3 + 1).toNatClampNeg) (xs (x3 + 2).toNatClampNeg) uX uM hRel
  refine L_aload1 C dL_1062 ?_
  refine L_aload0 C dL_1063 ?_
  refine L_iload3 C dL_1064 ?_
  refine L_iconst (v := 1) C dL_1065 (by decide) ?_
  refine L_iadd C dL_1066 ?_
  refine L_sld C h1 dL_1067 ?_
  refine L_aload0 C dL_1068 ?_
  refine L_iload3 C dL_1069 ?_
  refine L_iconst (v := 2) C dL_1070 (by decide) ?_
  refine L_iadd C dL_1071 ?_
  refine L_sld C h2 dL_1072 ?_
  refine L_callXi C (As := [.int (xs (x3 + 1).toNatClampNeg), .int (xs (x3 + 2).toNatClampNeg)]) (m_X8_taken (xs (x3 + 1).toNatClampNeg) (xs (x3 + 2).toNatClampNeg) uX 100 (by decide)) e1 rfl rfl wL_133 wwX8_taken shX_0 rfl (Nat.le_of_ble_eq_true rfl) dL_1073 ?_
  refine L_aload2 C dL_1076 ?_
  refine L_aload0 C dL_1077 ?_
  refine L_iload3 C dL_1078 ?_
  refine L_iconst (v := 1) C dL_1079 (by decide) ?_
  refine L_iadd C dL_1080 ?_
  refine L_sld C h1 dL_1081 ?_
  refine L_aload0 C dL_1082 ?_
  refine L_iload3 C dL_1083 ?_
  refine L_iconst (v := 2) C dL_1084 (by decide) ?_
  refine L_iadd C dL_1085 ?_
  refine L_sld C h2 dL_1086 ?_
  refine L_callMi C (As := [.int (xs (x3 + 1).toNatClampNeg), .int (xs (x3 + 2).toNatClampNeg)]) (m_X9_taken (xs (x3 + 1).toNatClampNeg) (xs (x3 + 2).toNatClampNeg) uM 100 (by decide)) e2 rfl rfl wL_136 wwX9_taken shM_0 rfl (Nat.le_of_ble_eq_true rfl) dL_1087 ?_
  refine L_same (tgt := 1331) C dL_1090 (by decide) ?_
  exact hcont uX' uM' hR
theorem law_29 (C : LwC p s m c b Ln xs aX aM dA D) {Rel : zM → zM → Prop} (hs : sim_X8_count Rel) (hRel : Rel uX uM) (h1 : vp_in (x3 + 1) Ln) (h2 : vp_in (x3 + 2) Ln) (h3 : vp_in (x3 + 3) Ln) (h4 : vp_in (x3 + 4) Ln) (h5 : vp_in (x3 + 5) Ln) (hcont : ∀ uX uM, Rel uX uM → GoL p l e s m below meth c b aX aM dA D x3 1331 [] uX uM) : GoL p l e s m below meth c b aX aM dA D x3 1095 [] uX uM := by
  obtain ⟨r, uX', uM', e1, e2, hR⟩ := hs (xs (x3 + 1).toNatClampNeg) uX uM hRel
  refine L_aload1 C dL_1095 ?_
  refine L_aload0 C dL_1096 ?_
  refine L_iload3 C dL_1097 ?_
  refine L_iconst (v := 1) C dL_1098 (by decide) ?_
  refine L_iadd C dL_1099 ?_
  refine L_sld C h1 dL_1100 ?_
  refine L_callXi C (As := [.int (xs (x3 + 1).toNatClampNeg)]) (m_X8_count (xs (x3 + 1).toNatClampNeg) uX 100 (by decide)) e1 rfl rfl wL_137 wwX8_count shX_0 rfl (Nat.le_of_ble_eq_true rfl) dL_1101 ?_
  refine L_aload2 C dL_1104 ?_
  refine L_aload0 C dL_1105 ?_
  refine L_iload3 C dL_1106 ?_
  refine L_iconst (v := 1) C dL_1107 (by decide) ?_
  refine L_iadd C dL_1108 ?_
  refine L_sld C h1 dL_1109 ?_
  refine L_callMi C (As := [.int (xs (x3 + 1).toNatClampNeg)]) (m_X9_count (xs (x3 + 1).toNatClampNeg) uM 100 (by decide)) e2 rfl rfl wL_140 wwX9_count shM_0 rfl (Nat.le_of_ble_eq_true rfl) dL_1110 ?_
  refine L_same (tgt := 1331) C dL_1113 (by decide) ?_
  exact hcont uX' uM' hR
theorem law_30 (C : LwC p s m c b Ln xs aX aM dA D) {Rel : zM → zM → Prop} (hs : sim_X8_tape Rel) (hRel : Rel uX uM) (h1 : vp_in (x3 + 1) Ln) (h2 : vp_in (x3 + 2) Ln) (h3 : vp_in (x3 + 3) Ln) (h4 : vp_in (x3 + 4) Ln) (h5 : vp_in (x3 + 5) Ln) (hcont : ∀ uX uM, Rel uX uM → GoL p l e s m below meth c b aX aM dA D x3 1331 [] uX uM) : GoL p l e s m below meth c b aX aM dA D x3 1118 [] uX uM := by
  obtain ⟨r, uX', uM', e1, e2, hR⟩ := hs (xs (x3 + 1).toNatClampNeg) (xs (x3 + 2).toNatClampNeg) (xs (x3 + 3).toNatClampNeg) uX uM hRel
  refine L_aload1 C dL_1118 ?_
  refine L_aload0 C dL_1119 ?_
  refine L_iload3 C dL_1120 ?_
  refine L_iconst (v := 1) C dL_1121 (by decide) ?_
  refine L_iadd C dL_1122 ?_
  refine L_sld C h1 dL_1123 ?_
  refine L_aload0 C dL_1124 ?_
  refine L_iload3 C dL_1125 ?_
  refine L_iconst (v := 2) C dL_1126 (by decide) ?_
  refine L_iadd C dL_1127 ?_
  refine L_sld C h2 dL_1128 ?_
  refine L_aload0 C dL_1129 ?_
  refine L_iload3 C dL_1130 ?_
  refine L_iconst (v := 3) C dL_1131 (by decide) ?_
  refine L_iadd C dL_1132 ?_
  refine L_sld C h3 dL_1133 ?_
  refine L_callXi C (As := [.int (xs (x3 + 1).toNatClampNeg), .int (xs (x3 + 2).toNatClampNeg), .int (xs (x3 + 3).toNatClampNeg)]) (m_X8_tape (xs (x3 + 1).toNatClampNeg) (xs (x3 + 2).toNatClampNeg) (xs (x3 + 3).toNatClampNeg) uX 100 (by decide)) e1 rfl rfl wL_141 wwX8_tape shX_0 rfl (Nat.le_of_ble_eq_true rfl) dL_1134 ?_
  refine L_aload2 C dL_1137 ?_
  refine L_aload0 C dL_1138 ?_
  refine L_iload3 C dL_1139 ?_
  refine L_iconst (v := 1) C dL_1140 (by decide) ?_
  refine L_iadd C dL_1141 ?_
  refine L_sld C h1 dL_1142 ?_
  refine L_aload0 C dL_1143 ?_
  refine L_iload3 C dL_1144 ?_
  refine L_iconst (v := 2) C dL_1145 (by decide) ?_
  refine L_iadd C dL_1146 ?_
  refine L_sld C h2 dL_1147 ?_
  refine L_aload0 C dL_1148 ?_
  refine L_iload3 C dL_1149 ?_
  refine L_iconst (v := 3) C dL_1150 (by decide) ?_
  refine L_iadd C dL_1151 ?_
  refine L_sld C h3 dL_1152 ?_
  refine L_callMi C (As := [.int (xs (x3 + 1).toNatClampNeg), .int (xs (x3 + 2).toNatClampNeg), .int (xs (x3 + 3).toNatClampNeg)]) (m_X9_tape (xs (x3 + 1).toNatClampNeg) (xs (x3 + 2).toNatClampNeg) (xs (x3 + 3).toNatClampNeg) uM 100 (by decide)) e2 rfl rfl wL_144 wwX9_tape shM_0 rfl (Nat.le_of_ble_eq_true rfl) dL_1153 ?_
  refine L_same (tgt := 1331) C dL_1156 (by decide) ?_
  exact hcont uX' uM' hR
theorem law_31 (C : LwC p s m c b Ln xs aX aM dA D) {Rel : zM → zM → Prop} (hs : sim_X8_item Rel) (hRel : Rel uX uM) (h1 : vp_in (x3 + 1) Ln) (h2 : vp_in (x3 + 2) Ln) (h3 : vp_in (x3 + 3) Ln) (h4 : vp_in (x3 + 4) Ln) (h5 : vp_in (x3 + 5) Ln) (hcont : ∀ uX uM, Rel uX uM → GoL p l e s m below meth c b aX aM dA D x3 1331 [] uX uM) : GoL p l e s m below meth c b aX aM dA D x3 1161 [] uX uM := by
  obtain ⟨r, uX', uM', e1, e2, hR⟩ := hs (xs (x3 + 1).toNatClampNeg) (xs (x3 + 2).toNatClampNeg) (((xs (x3 + 3).toNatClampNeg).toInt64 <<< ((32 : Int32).toInt64 &&& 63)) ||| ((xs (x3 + 4).toNatClampNeg).toInt64 &&& (4294967295 : Int64))) uX uM hRel
  refine L_aload1 C dL_1161 ?_
  refine L_aload0 C dL_1162 ?_
  refine L_iload3 C dL_1163 ?_
  refine L_iconst (v := 1) C dL_1164 (by decide) ?_
  refine L_iadd C dL_1165 ?_
  refine L_sld C h1 dL_1166 ?_
  refine L_aload0 C dL_1167 ?_
  refine L_iload3 C dL_1168 ?_
  refine L_iconst (v := 2) C dL_1169 (by decide) ?_
  refine L_iadd C dL_1170 ?_
  refine L_sld C h2 dL_1171 ?_
  refine L_aload0 C dL_1172 ?_
  refine L_iload3 C dL_1173 ?_
  refine L_iconst (v := 3) C dL_1174 (by decide) ?_
  refine L_iadd C dL_1175 ?_
  refine L_sld C h3 dL_1176 ?_
  refine L_i2l C dL_1177 ?_
  refine L_bipush (v := 32) C dL_1178 (by decide) ?_
  refine L_lshl C dL_1180 ?_
  refine L_aload0 C dL_1181 ?_
  refine L_iload3 C dL_1182 ?_
  refine L_iconst (v := 4) C dL_1183 (by decide) ?_
  refine L_iadd C dL_1184 ?_
  refine L_sld C h4 dL_1185 ?_
  refine L_i2l C dL_1186 ?_
  refine L_ldc2 C dL_1187 wL_145 ?_
  refine L_land C dL_1190 ?_
  refine L_lor C dL_1191 ?_
  refine L_callXi C (As := [.int (xs (x3 + 1).toNatClampNeg), .int (xs (x3 + 2).toNatClampNeg), .long (((xs (x3 + 3).toNatClampNeg).toInt64 <<< ((32 : Int32).toInt64 &&& 63)) ||| ((xs (x3 + 4).toNatClampNeg).toInt64 &&& (4294967295 : Int64)))]) (m_X8_item (xs (x3 + 1).toNatClampNeg) (xs (x3 + 2).toNatClampNeg) (((xs (x3 + 3).toNatClampNeg).toInt64 <<< ((32 : Int32).toInt64 &&& 63)) ||| ((xs (x3 + 4).toNatClampNeg).toInt64 &&& (4294967295 : Int64))) uX 100 (by decide)) e1 rfl rfl wL_147 wwX8_item shX_0 rfl (Nat.le_of_ble_eq_true rfl) dL_1192 ?_
  refine L_aload2 C dL_1195 ?_
  refine L_aload0 C dL_1196 ?_
  refine L_iload3 C dL_1197 ?_
  refine L_iconst (v := 1) C dL_1198 (by decide) ?_
  refine L_iadd C dL_1199 ?_
  refine L_sld C h1 dL_1200 ?_
  refine L_aload0 C dL_1201 ?_
  refine L_iload3 C dL_1202 ?_
  refine L_iconst (v := 2) C dL_1203 (by decide) ?_
  refine L_iadd C dL_1204 ?_
  refine L_sld C h2 dL_1205 ?_
  refine L_aload0 C dL_1206 ?_
  refine L_iload3 C dL_1207 ?_
  refine L_iconst (v := 3) C dL_1208 (by decide) ?_
  refine L_iadd C dL_1209 ?_
  refine L_sld C h3 dL_1210 ?_
  refine L_i2l C dL_1211 ?_
  refine L_bipush (v := 32) C dL_1212 (by decide) ?_
  refine L_lshl C dL_1214 ?_
  refine L_aload0 C dL_1215 ?_
  refine L_iload3 C dL_1216 ?_
  refine L_iconst (v := 4) C dL_1217 (by decide) ?_
  refine L_iadd C dL_1218 ?_
  refine L_sld C h4 dL_1219 ?_
  refine L_i2l C dL_1220 ?_
  refine L_ldc2 C dL_1221 wL_145 ?_
  refine L_land C dL_1224 ?_
  refine L_lor C dL_1225 ?_
  refine L_callMi C (As := [.int (xs (x3 + 1).toNatClampNeg), .int (xs (x3 + 2).toNatClampNeg), .long (((xs (x3 + 3).toNatClampNeg).toInt64 <<< ((32 : Int32).toInt64 &&& 63)) ||| ((xs (x3 + 4).toNatClampNeg).toInt64 &&& (4294967295 : Int64)))]) (m_X9_item (xs (x3 + 1).toNatClampNeg) (xs (x3 + 2).toNatClampNeg) (((xs (x3 + 3).toNatClampNeg).toInt64 <<< ((32 : Int32).toInt64 &&& 63)) ||| ((xs (x3 + 4).toNatClampNeg).toInt64 &&& (4294967295 : Int64))) uM 100 (by decide)) e2 rfl rfl wL_151 wwX9_item shM_0 rfl (Nat.le_of_ble_eq_true rfl) dL_1226 ?_
  refine L_same (tgt := 1331) C dL_1229 (by decide) ?_
  exact hcont uX' uM' hR
theorem law_32 (C : LwC p s m c b Ln xs aX aM dA D) {Rel : zM → zM → Prop} (hs : sim_X8_read Rel) (hRel : Rel uX uM) (h1 : vp_in (x3 + 1) Ln) (h2 : vp_in (x3 + 2) Ln) (h3 : vp_in (x3 + 3) Ln) (h4 : vp_in (x3 + 4) Ln) (h5 : vp_in (x3 + 5) Ln) (hcont : ∀ uX uM, Rel uX uM → GoL p l e s m below meth c b aX aM dA D x3 1331 [] uX uM) : GoL p l e s m below meth c b aX aM dA D x3 1234 [] uX uM := by
  obtain ⟨r, uX', uM', e1, e2, hR⟩ := hs (xs (x3 + 1).toNatClampNeg) (xs (x3 + 2).toNatClampNeg) uX uM hRel
  refine L_aload1 C dL_1234 ?_
  refine L_aload0 C dL_1235 ?_
  refine L_iload3 C dL_1236 ?_
  refine L_iconst (v := 1) C dL_1237 (by decide) ?_
  refine L_iadd C dL_1238 ?_
  refine L_sld C h1 dL_1239 ?_
  refine L_aload0 C dL_1240 ?_
  refine L_iload3 C dL_1241 ?_
  refine L_iconst (v := 2) C dL_1242 (by decide) ?_
  refine L_iadd C dL_1243 ?_
  refine L_sld C h2 dL_1244 ?_
  refine L_callXl C (As := [.int (xs (x3 + 1).toNatClampNeg), .int (xs (x3 + 2).toNatClampNeg)]) (m_X8_read (xs (x3 + 1).toNatClampNeg) (xs (x3 + 2).toNatClampNeg) uX 100 (by decide)) e1 rfl rfl wL_152 wwX8_read shX_0 rfl (Nat.le_of_ble_eq_true rfl) dL_1245 ?_
  refine L_aload2 C dL_1248 ?_
  refine L_aload0 C dL_1249 ?_
  refine L_iload3 C dL_1250 ?_
  refine L_iconst (v := 1) C dL_1251 (by decide) ?_
  refine L_iadd C dL_1252 ?_
  refine L_sld C h1 dL_1253 ?_
  refine L_aload0 C dL_1254 ?_
  refine L_iload3 C dL_1255 ?_
  refine L_iconst (v := 2) C dL_1256 (by decide) ?_
  refine L_iadd C dL_1257 ?_
  refine L_sld C h2 dL_1258 ?_
  refine L_callMl C (As := [.int (xs (x3 + 1).toNatClampNeg), .int (xs (x3 + 2).toNatClampNeg)]) (m_X9_read (xs (x3 + 1).toNatClampNeg) (xs (x3 + 2).toNatClampNeg) uM 100 (by decide)) e2 rfl rfl wL_155 wwX9_read shM_0 rfl (Nat.le_of_ble_eq_true rfl) dL_1259 ?_
  refine L_lsame (tgt := 1331) C dL_1262 dL_1263 (by decide) ?_
  exact hcont uX' uM' hR
theorem law_33 (C : LwC p s m c b Ln xs aX aM dA D) {Rel : zM → zM → Prop} (hs : sim_X8_shift Rel) (hRel : Rel uX uM) (h1 : vp_in (x3 + 1) Ln) (h2 : vp_in (x3 + 2) Ln) (h3 : vp_in (x3 + 3) Ln) (h4 : vp_in (x3 + 4) Ln) (h5 : vp_in (x3 + 5) Ln) (hcont : ∀ uX uM, Rel uX uM → GoL p l e s m below meth c b aX aM dA D x3 1331 [] uX uM) : GoL p l e s m below meth c b aX aM dA D x3 1268 [] uX uM := by
  obtain ⟨r, uX', uM', e1, e2, hR⟩ := hs (xs (x3 + 1).toNatClampNeg) (xs (x3 + 2).toNatClampNeg) (xs (x3 + 3).toNatClampNeg) (xs (x3 + 4).toNatClampNeg) (xs (x3 + 5).toNatClampNeg) uX uM hRel
  refine L_aload1 C dL_1268 ?_
  refine L_aload0 C dL_1269 ?_
  refine L_iload3 C dL_1270 ?_
  refine L_iconst (v := 1) C dL_1271 (by decide) ?_
  refine L_iadd C dL_1272 ?_
  refine L_sld C h1 dL_1273 ?_
  refine L_aload0 C dL_1274 ?_
  refine L_iload3 C dL_1275 ?_
  refine L_iconst (v := 2) C dL_1276 (by decide) ?_
  refine L_iadd C dL_1277 ?_
  refine L_sld C h2 dL_1278 ?_
  refine L_aload0 C dL_1279 ?_
  refine L_iload3 C dL_1280 ?_
  refine L_iconst (v := 3) C dL_1281 (by decide) ?_
  refine L_iadd C dL_1282 ?_
  refine L_sld C h3 dL_1283 ?_
  refine L_aload0 C dL_1284 ?_
  refine L_iload3 C dL_1285 ?_
  refine L_iconst (v := 4) C dL_1286 (by decide) ?_
  refine L_iadd C dL_1287 ?_
  refine L_sld C h4 dL_1288 ?_
  refine L_aload0 C dL_1289 ?_
  refine L_iload3 C dL_1290 ?_
  refine L_iconst (v := 5) C dL_1291 (by decide) ?_
  refine L_iadd C dL_1292 ?_
  refine L_sld C h5 dL_1293 ?_
  refine L_callXi C (As := [.int (xs (x3 + 1).toNatClampNeg), .int (xs (x3 + 2).toNatClampNeg), .int (xs (x3 + 3).toNatClampNeg), .int (xs (x3 + 4).toNatClampNeg), .int (xs (x3 + 5).toNatClampNeg)]) (m_X8_shift (xs (x3 + 1).toNatClampNeg) (xs (x3 + 2).toNatClampNeg) (xs (x3 + 3).toNatClampNeg) (xs (x3 + 4).toNatClampNeg) (xs (x3 + 5).toNatClampNeg) uX 100 (by decide)) e1 rfl rfl wL_156 wwX8_shift shX_0 rfl (Nat.le_of_ble_eq_true rfl) dL_1294 ?_
  refine L_aload2 C dL_1297 ?_
  refine L_aload0 C dL_1298 ?_
  refine L_iload3 C dL_1299 ?_
  refine L_iconst (v := 1) C dL_1300 (by decide) ?_
  refine L_iadd C dL_1301 ?_
  refine L_sld C h1 dL_1302 ?_
  refine L_aload0 C dL_1303 ?_
  refine L_iload3 C dL_1304 ?_
  refine L_iconst (v := 2) C dL_1305 (by decide) ?_
  refine L_iadd C dL_1306 ?_
  refine L_sld C h2 dL_1307 ?_
  refine L_aload0 C dL_1308 ?_
  refine L_iload3 C dL_1309 ?_
  refine L_iconst (v := 3) C dL_1310 (by decide) ?_
  refine L_iadd C dL_1311 ?_
  refine L_sld C h3 dL_1312 ?_
  refine L_aload0 C dL_1313 ?_
  refine L_iload3 C dL_1314 ?_
  refine L_iconst (v := 4) C dL_1315 (by decide) ?_
  refine L_iadd C dL_1316 ?_
  refine L_sld C h4 dL_1317 ?_
  refine L_aload0 C dL_1318 ?_
  refine L_iload3 C dL_1319 ?_
  refine L_iconst (v := 5) C dL_1320 (by decide) ?_
  refine L_iadd C dL_1321 ?_
  refine L_sld C h5 dL_1322 ?_
  refine L_callMi C (As := [.int (xs (x3 + 1).toNatClampNeg), .int (xs (x3 + 2).toNatClampNeg), .int (xs (x3 + 3).toNatClampNeg), .int (xs (x3 + 4).toNatClampNeg), .int (xs (x3 + 5).toNatClampNeg)]) (m_X9_shift (xs (x3 + 1).toNatClampNeg) (xs (x3 + 2).toNatClampNeg) (xs (x3 + 3).toNatClampNeg) (xs (x3 + 4).toNatClampNeg) (xs (x3 + 5).toNatClampNeg) uM 100 (by decide)) e2 rfl rfl wL_160 wwX9_shift shM_0 rfl (Nat.le_of_ble_eq_true rfl) dL_1323 ?_
  refine L_same (tgt := 1331) C dL_1326 (by decide) ?_
  exact hcont uX' uM' hR
end Law
