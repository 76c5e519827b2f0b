/-! ===== the start, walked: both systems made, then the loop; what is wanted is a relation that every call keeps ===== -/
theorem zw_one {as : Nat → Nat} {dA : Nat → ClassId} {SHg : List zS} {u : zM} {S : zS} (hs : SHg[0]? = some S) : zw as dA (SHg.take 1) u = [(as 0, zcell as dA u 0 S)] := by
  cases SHg with
  | nil => cases hs
  | cons S0 r =>
    have h : S0 = S := Option.some.inj hs
    subst h
    rfl
theorem z0_ok (k : Nat) : zOk z0 k := fun a i x h => by cases h
theorem z0_fr (k : Nat) : zFr z0 k := fun a i _ => ⟨rfl, rfl, rfl⟩
theorem va_P_left {D : va_G} {cl : List vw_C} {w1 w2 : va_W} {H : Heap} (h : va_P D cl (w1 ++ w2) H) : va_P D cl w1 H := fun k q hk => h k q (by rw [List.getElem?_append_left (List.getElem?_eq_some_iff.mp hk).1]; exact hk)
theorem va_P_right {D : va_G} {cl : List vw_C} {w1 w2 : va_W} {H : Heap} (h : va_P D cl (w1 ++ w2) H) : va_P D cl w2 H := fun k q hk => h (w1.length + k) q (by rw [List.getElem?_append_right (by omega), Nat.add_sub_cancel_left]; exact hk)
theorem zcell_z0 {as : Nat → Nat} {dA : Nat → ClassId} {a ci : Nat} {ks : List Nat} (h : ks.all (fun kd => kd == 0 || kd == 2) = true) : zcell as dA z0 a (.inl (ci, ks)) = .inr (ci, ks.map (fun kd => if kd = 0 then Value.int 0 else Value.null)) := by
  show Sum.inr (ci, ks.mapIdx (fun j kd => zfield as z0 a j kd)) = Sum.inr (ci, _)
  congr 2
  apply List.ext_getElem?
  intro j
  rw [List.getElem?_map, List.getElem?_mapIdx]
  cases hj : ks[j]? with
  | none => rfl
  | some kd =>
    refine congrArg some ?_
    have h1 := List.all_eq_true.mp h kd (List.mem_of_getElem? hj)
    rw [Bool.or_eq_true, beq_iff_eq, beq_iff_eq] at h1
    rcases h1 with h1 | h1 <;> subst h1 <;> rfl
def ksM : List Nat := [0, 0, 0, 0, 0, 2, 2, 2, 2, 2, 2, 2, 0, 0, 0, 0, 0, 2, 2, 2, 2, 2, 2, 2, 2, 0, 0, 0, 2, 2, 2, 0, 0, 0, 2, 2, 2, 2, 0, 2, 2, 2, 0, 0, 2, 2, 2, 2, 0, 0, 0, 0, 0, 0, 0, 0, 0, 0, 2, 2, 2, 2, 2, 2, 2, 2, 2, 2, 2, 2, 2, 2, 0, 2, 2, 2, 2, 2]
def fsM : List Value := ksM.map (fun kd => if kd = 0 then Value.int 0 else Value.null)
theorem sgM_0' : SGM[0]? = some (.inl (9, ksM)) := sgM_0
theorem fsM_ok : ∀ j, j < 78 → defaultValue (tyX9 j) = vp_V fsM j := by decide +kernel
set_option maxHeartbeats 4000000 in
set_option maxRecDepth 100000 in
theorem whole_open {Rel : zM → zM → Prop} (hs : zSims Rel) (h0 : Rel uX0 uM0) {p : Program} {e : Env} {s : State} {m : MethodId} {below : List Frame} {meth : Method} {c : Code} (l : Launch) {b L : Nat} {xs : Nat → Int32} (hL : L ≤ 3072) (C0 : lw_At p s m meth c b L xs) : W p l e room_1 s m #[Value.ref b] below meth c s.heap [] 0 0 (lw_Z below #[Value.ref b] s) (entryFrame m ([Value.ref b] : List Value).toArray 4) := by
  obtain ⟨hx, hb, hr, hml, hown, hts, hX, hbl, hlocks, hgv⟩ := C0
  have hown : s.vm.findClass "StruckWhileLaw" = some m.cls := hown
  have hfl : ∀ w ∈ lwF, w.before #[Value.ref b] s = true := flat_of_before _ hgv
  have htz : ∀ w ∈ zTb, w.before #[Value.ref b] s = true := fun w hw => hts w (zt_in hw)
  obtain ⟨D, dA, hK, h64, h75, hO⟩ := start_K hts
  obtain ⟨as0, has0⟩ := start_out (A := lwA s) (fun q h h2 => absurd h (Nat.not_lt.mpr h2)) hts hfl
  have hA : ∀ q : Nat, s.heap.size ≤ q → lwA s q := fun _ h => h
  have hl := lv_entry ([.ref b]) (n := 4) (Nat.le_of_ble_eq_true rfl)
  rw [lg_entry_eq]
  generalize (lg_sl ([.ref b]) ++ List.replicate (4 - (lg_sl ([.ref b])).length) Slot.unset).toArray = ls at hl ⊢
  have hl : lv_has ls 4 [(0, .ref b)] := hl
  have hS : va_S (lwA s) s.heap s.heap [] := va_S.rf
  have hP : va_P D zcl [] s.heap := fun k q h => by simp at h
  have hD : va_D (lwA s) [] := ⟨fun i j p q h => by simp at h, fun k q h => by simp at h⟩
  -- the class's object
  refine va_new (ci := 8) (fs := ([2, 2, 0, 2, 2, 2, 2, 0, 2, 2] : List Nat).map (fun kd => if kd = 0 then Value.int 0 else Value.null)) hx hb htz inX8 tyX8 tyX8_ok hown (htz _ wL_7) (htz _ wx8) (htz _ wy8) hK hP hD hS hA rfl (by decide +kernel) (by decide) (by decide) dL_0 (fun qX H1 hP1 hD1 hS1 => ?_)
  refine W.widen (k := 1) (n := 10) (by omega) (by omega) ?_
  refine lv_dup hx hb dL_3 rfl ?_
  have hqX : s.heap.size ≤ qX := hD1.2 0 _ rfl
  have hPX1 : va_P D zcl (zw (fun _ => qX) dA (SGX.take 1) z0) H1 := by
    rw [zw_one (SHg := SGX) rfl]
    exact hP1
  have hgoodX : ∀ w ∈ (Cond.code yX8_init cX8_init 2 none :: zTb), w ∈ zTb := fun w hw => (List.mem_cons.mp hw).elim (fun h => by subst h; exact wiX8_init.2.2.2.1) id
  have hmX := nX8_init 100 (by decide) (fun v hv => by
      rcases List.mem_cons.mp hv with h | h
      · subst h; exact Nat.zero_lt_one
      · cases h) (z0_ok 1) (z0_fr 1) l (fun _ => qX) dA D H1.size h64 h75
  have hA1 : ∀ q, zA (fun _ => qX) 1 H1.size q → lwA s q := fun q h => h.elim (fun ⟨i, hi, e⟩ => by rw [e]; exact hqX) (fun h => Nat.le_trans hS1.1 h)
  refine va_callv (va_runI (As := []) (rest := [.ref qX]) ⟨hx, hb, hml, hown, htz⟩ hmX (cwI 0 htz (zgood_of hgoodX) rfl rfl rfl (htz _ wiX8_init.2.2.1) (htz _ wL_9) (htz _ wiX8_init.2.1) rfl wiX8_init.2.2.2.2.2 ⟨by decide, by decide⟩) ⟨zPreN_blind, fun U hU hW => ⟨rfl, by rw [hU], by rw [hU]; exact hPX1, hK.moved hW.alike, fun i j hi hj _ => by omega, hO.warm hW⟩⟩ rfl rfl hl.1 rfl (lv_room (Nat.le_of_ble_eq_true rfl)) dL_4 ⟨by decide, by decide⟩) hS1 (fun q _ h => hA1 q h) hA1 (fun asX t H2 locs2 ht hvm hw hB hz2 hk2 hS2 => ?_)
  obtain ⟨gX1, gX2, gX3, gX4, gX5⟩ := hw
  obtain ⟨hPX2, -⟩ := hB
  rw [ht] at hPX2
  obtain ⟨aX, haX, haX2⟩ : ∃ aX : Nat → Nat, (∀ i, i < 96 → aX i = asX i) ∧ ∀ i, 1000 ≤ i → aX i = as0 i := ⟨fun i => if i < 96 then asX i else as0 i, fun i hi => if_pos hi, fun i hi => if_neg (by omega)⟩
  have hPX := convX haX gX4 h64 h75 hPX2
  have lX : SHX.length = 96 := by decide +kernel
  have lM : SHM.length = 49 := by decide +kernel
  have hIX : zInj aX SHX.length := by
    rw [lX]
    intro i j hi hj h
    rw [haX i hi, haX j hj] at h
    exact gX3 i j hi hj h
  have hgX : ∀ i, i < SHX.length → s.heap.size ≤ aX i := by
    rw [lX]
    intro i hi
    rw [haX i hi]
    exact hA1 _ (gX2 i hi)
  have eX0 : qX = aX 0 := by rw [haX 0 (by decide), gX1 0 (by decide)]
  have hDX : va_D (lwA s) (zw aX dA SHX uX0) := zw_D hIX hgX
  rw [eX0]
  refine W.widen (k := 96) (n := 10 + (0 + 4 + (0 + 15 + (0 + 6 + 6 + 6 + 6 + 24 + 4 + 4 + 4 + 6 + 8) + 4 + (0 + 5 + 5 + 5) + 4 + (0 + 10 + 10 + 10) + 4 + (0 + 8 + 8 + 8)) + 4 + (0 + 15 + (0 + 6 + 6 + 6 + 6 + 24 + 4 + 4 + 4 + 6 + 8) + 4 + (0 + 5 + 5 + 5) + 4 + (0 + 10 + 10 + 10) + 4 + (0 + 8 + 8 + 8)) + 6 + (0 + 4 + 15 + (0 + 6 + 6 + 6 + 6 + 24 + 4 + 4 + 4 + 6 + 8) + 4) + 4 + (0 + 100) + 6 + 5 + (0 + 20) + 3 + (0 + 6 + 6 + 6 + (6 * 60)) + 5 + (0 + 100 + 10) + 5 + (0 + 100 + 10) + 5 + (0 + 100 + 10) + 5 + (0 + 100 + 10) + 5 + (0 + 100 + 10) + 5 + (0 + 100 + 10))) (by decide) (by omega) ?_
  refine lv_astore_n (lv' := [(1, .ref (aX 0)), (0, .ref b)]) hx hb dL_7 rfl hl (by decide) rfl (fun ls hl => ?_)
  -- the reference's object
  refine va_new (ci := 9) (fs := fsM) hx hb htz inX9 tyX9 tyX9_ok hown (htz _ wL_10) (htz _ wx9) (htz _ wy9) hK hPX hDX hS2 hA rfl fsM_ok (by decide) (by decide) dL_8 (fun qM H3 hP3 hD3 hS3 => ?_)
  refine W.widen (k := 97) (n := 10 + (0 + 4 + (0 + 15 + (0 + 6 + 6 + 6 + 6 + 24 + 4 + 4 + 4 + 6 + 8) + 4 + (0 + 5 + 5 + 5) + 4 + (0 + 10 + 10 + 10) + 4 + (0 + 8 + 8 + 8)) + 4 + (0 + 15 + (0 + 6 + 6 + 6 + 6 + 24 + 4 + 4 + 4 + 6 + 8) + 4 + (0 + 5 + 5 + 5) + 4 + (0 + 10 + 10 + 10) + 4 + (0 + 8 + 8 + 8)) + 6 + (0 + 4 + 15 + (0 + 6 + 6 + 6 + 6 + 24 + 4 + 4 + 4 + 6 + 8) + 4) + 4 + (0 + 100) + 6 + 5 + (0 + 20) + 3 + (0 + 6 + 6 + 6 + (6 * 60)) + 5 + (0 + 100 + 10) + 5 + (0 + 100 + 10) + 5 + (0 + 100 + 10) + 5 + (0 + 100 + 10) + 5 + (0 + 100 + 10) + 5 + (0 + 100 + 10)) + 78) (by decide) (by omega) ?_
  refine lv_dup hx hb dL_11 rfl ?_
  have lw : (zw aX dA SHX uX0).length = 96 := by
    unfold zw
    rw [List.length_mapIdx, lX]
  have hlast : (zw aX dA SHX uX0 ++ [(qM, (Sum.inr (9, fsM) : va_E))])[96]? = some (qM, Sum.inr (9, fsM)) := by
    rw [List.getElem?_append_right (by omega), lw]
    rfl
  have hqM : s.heap.size ≤ qM := hD3.2 96 _ hlast
  have hPX3 := va_P_left hP3
  have hneX : ∀ i, i < 96 → aX i ≠ qM := fun i hi h => by
    have h1 : (zw aX dA SHX uX0 ++ [(qM, (Sum.inr (9, fsM) : va_E))])[i]? = some (aX i, zcell aX dA uX0 i (SHX[i]'(by omega))) := by
      rw [List.getElem?_append_left (by omega)]
      exact zw_get (List.getElem?_eq_getElem (by omega))
    have := hD3.1 i 96 _ _ h1 hlast h
    omega
  have hltX : ∀ i, i < 96 → aX i < H3.size := fun i hi => (hPX3 i _ (zw_get (List.getElem?_eq_getElem (by omega)))).lt
  have hPM1 : va_P D zcl (zw (fun _ => qM) dA (SGM.take 1) z0) H3 := by
    rw [zw_one sgM_0', zcell_z0 (by decide)]
    exact va_P_right hP3
  have hgoodM : ∀ w ∈ (Cond.code yX9_init cX9_init 1 none :: zTb), w ∈ zTb := fun w hw => (List.mem_cons.mp hw).elim (fun h => by subst h; exact wiX9_init.2.2.2.1) id
  have hmM := nX9_init 100 (by decide) (fun v hv => by
      rcases List.mem_cons.mp hv with h | h
      · subst h; exact Nat.zero_lt_one
      · cases h) (z0_ok 1) (z0_fr 1) l (fun _ => qM) dA D H3.size h64 h75
  have hA3 : ∀ q, zA (fun _ => qM) 1 H3.size q → lwA s q := fun q h => h.elim (fun ⟨i, hi, e⟩ => by rw [e]; exact hqM) (fun h => Nat.le_trans hS3.1 h)
  refine va_callv (va_runI (As := []) (rest := [.ref qM]) ⟨hx, hb, hml, hown, htz⟩ hmM (cwI 0 htz (zgood_of hgoodM) rfl rfl rfl (htz _ wiX9_init.2.2.1) (htz _ wL_12) (htz _ wiX9_init.2.1) rfl wiX9_init.2.2.2.2.2 ⟨by decide, by decide⟩) ⟨zPreN_blind, fun U hU hW => ⟨rfl, by rw [hU], by rw [hU]; exact hPM1, hK.moved hW.alike, fun i j hi hj _ => by omega, hO.warm hW⟩⟩ rfl rfl hl.1 rfl (lv_room (Nat.le_of_ble_eq_true rfl)) dL_12 ⟨by decide, by decide⟩) hS3 (fun q _ h => hA3 q h) hA3 (fun asM t2 H4 locs4 ht2 hvm2 hw2 hB2 hz4 hk4 hS4 => ?_)
  obtain ⟨gM1, gM2, gM3, gM4, gM5⟩ := hw2
  obtain ⟨hPM2, -⟩ := hB2
  rw [ht2] at hPM2
  obtain ⟨aM, haM, haM2⟩ : ∃ aM : Nat → Nat, (∀ i, i < 49 → aM i = asM i) ∧ ∀ i, 1000 ≤ i → aM i = as0 i := ⟨fun i => if i < 49 then asM i else as0 i, fun i hi => if_pos hi, fun i hi => if_neg (by omega)⟩
  have hPM := convM haM gM4 h64 h75 hPM2
  have hIM : zInj aM SHM.length := by
    rw [lM]
    intro i j hi hj h
    rw [haM i hi, haM j hj] at h
    exact gM3 i j hi hj h
  have hgM : ∀ i, i < SHM.length → s.heap.size ≤ aM i := by
    rw [lM]
    intro i hi
    rw [haM i hi]
    exact hA3 _ (gM2 i hi)
  have eM0 : qM = aM 0 := by rw [haM 0 (by decide), gM1 0 (by decide)]
  have hdis : ∀ i j, i < SHX.length → j < SHM.length → aX i ≠ aM j := by
    rw [lX, lM]
    intro i j hi hj h
    rw [haM j hj] at h
    rcases gM2 j hj with ⟨k, hk, e⟩ | h2
    · rw [e] at h
      exact hneX i hi h
    · have := hltX i hi
      omega
  have hPX4 : va_P D zcl (zw aX dA SHX uX0) H4 := hPX3.kept (fun k q hk => by
    have hlt := (hPX3 k q hk).lt
    obtain ⟨S, hS', rfl⟩ := zw_has hk
    have hk96 : k < 96 := by rw [← lX]; exact (List.getElem?_eq_some_iff.mp hS').1
    refine hk4 _ hlt (fun h => ?_)
    rcases h with ⟨i, hi, e⟩ | h
    · exact hneX k hk96 e
    · exact absurd hlt (Nat.not_lt.mpr h))
  rw [eM0]
  refine W.widen (k := lwCells) (n := lwSlots) (by decide) (by decide) ?_
  refine lv_astore_n (lv' := [(2, .ref (aM 0)), (1, .ref (aX 0)), (0, .ref b)]) hx hb dL_15 rfl hl (by decide) rfl (fun ls hl => ?_)
  refine lv_iconst (v := 0) hx hb dL_16 (by decide) ?_
  refine lv_istore_n (lv' := [(3, .int 0), (2, .ref (aM 0)), (1, .ref (aX 0)), (0, .ref b)]) hx hb dL_17 rfl hl (by decide) rfl (fun ls hl => ?_)
  exact law_loop (D := D) (dA := dA) (aX := aX) (aM := aM) ⟨hx, hb, hml, hown, htz, hX, hbl, hK, hIX, hIM, hgX, hgM, hdis, has0 aX haX2, has0 aM haM2⟩ hr hlocks hL hs (L + 1) 0 0 uX0 uM0 (by omega) (by omega) rfl h0 H4 locs4 ls hPX4 hPM hS4 (lv_sub hl [3, 2, 1, 0] rfl)
