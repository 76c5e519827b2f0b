/-! ===== the cells as they were made are the cells as they are used ===== -/
def zCvB (u : zM) (a : Nat) (S S' : zS) : Bool := match S, S' with
  | .inl o, .inl o' => o.1 == o'.1 && o.2.length == o'.2.length && (List.range o.2.length).all (fun k => (o.2.getD k 0 == o'.2.getD k 0 && decide (o.2.getD k 0 ≤ 2)) || (o.2.getD k 0 == 2 && decide (3 ≤ o'.2.getD k 0) && gO u a k == some (o'.2.getD k 0 - 3)))
  | .inr r, .inr r' => (r == r' && decide (r.1 < 4)) || (((r.1 == 6 && r'.1 == 4) || (r.1 == 7 && r'.1 == 5)) && r.2.1 == r'.2.1 && (List.range r.2.1).all (fun j => gO u a j == some (r'.2.2.1 + r'.2.2.2 * j)))
  | _, _ => false
theorem arrV_same {c : ClassId} {n : Nat} {f g : Nat → Value} (h : ∀ j, j < n → f j = g j) : arrV c n f = arrV c n g := by
  unfold arrV
  congr 2
  funext j
  exact h j.val j.isLt
theorem zCv_at {as as2 : Nat → Nat} {n0 : Nat} {dA : Nat → ClassId} {D : va_G} {u : zM} {a q : Nat} {S S' : zS} {H : Heap} (he : ∀ i, i < n0 → as2 i = as i) (ho : zOk u n0) (h64 : dA 6 = dA 4) (h75 : dA 7 = dA 5) (hb : zCvB u a S S' = true) (h : va_at D zcl (q, zcell as dA u a S) H) : va_at D zcl (q, zcell as2 dA u a S') H := by
  cases S with
  | inl o =>
    cases S' with
    | inr r' => cases hb
    | inl o' =>
      have hb : (o.1 == o'.1 && o.2.length == o'.2.length && (List.range o.2.length).all (fun k => (o.2.getD k 0 == o'.2.getD k 0 && decide (o.2.getD k 0 ≤ 2)) || (o.2.getD k 0 == 2 && decide (3 ≤ o'.2.getD k 0) && gO u a k == some (o'.2.getD k 0 - 3)))) = true := hb
      simp only [Bool.and_eq_true, beq_iff_eq] at hb
      obtain ⟨⟨h1, h2⟩, h3⟩ := hb
      have e : zcell as dA u a (.inl o) = zcell as2 dA u a (.inl o') := by
        show Sum.inr (o.1, o.2.mapIdx (fun k kd => zfield as u a k kd)) = Sum.inr (o'.1, o'.2.mapIdx (fun k kd => zfield as2 u a k kd))
        rw [h1]
        congr 2
        apply List.ext_getElem?
        intro k
        rw [List.getElem?_mapIdx, List.getElem?_mapIdx]
        by_cases hk : k < o.2.length
        · have hk' : k < o'.2.length := by omega
          have h4 := List.all_eq_true.mp h3 k (List.mem_range.mpr hk)
          have g1 : o.2.getD k 0 = o.2[k] := by rw [List.getD_eq_getElem?_getD, List.getElem?_eq_getElem hk]; rfl
          have g2 : o'.2.getD k 0 = o'.2[k] := by rw [List.getD_eq_getElem?_getD, List.getElem?_eq_getElem hk']; rfl
          rw [g1, g2] at h4
          rw [List.getElem?_eq_getElem hk, List.getElem?_eq_getElem hk']
          refine congrArg some ?_
          generalize o.2[k] = x at h4 ⊢
          generalize o'.2[k] = y at h4 ⊢
          simp only [Bool.or_eq_true, Bool.and_eq_true, beq_iff_eq, decide_eq_true_eq] at h4
          rcases h4 with ⟨h5, h6⟩ | ⟨⟨h5, h6⟩, h7⟩
          · subst h5
            match x, h6 with
            | 0, _ => rfl
            | 1, _ => rfl
            | 2, _ => show va_rf _ = va_rf _; rw [zmap_eq he ho]
          · subst h5
            obtain ⟨j, rfl⟩ : ∃ j, y = j + 3 := ⟨y - 3, by omega⟩
            show va_rf ((gO u a k).map as) = .ref (as2 j)
            have h8 := ho a k _ h7
            rw [h7, show j + 3 - 3 = j by omega, he j (by omega)]
            rfl
        · rw [List.getElem?_eq_none (by omega), List.getElem?_eq_none (by omega)]
          rfl
      rw [← e]
      exact h
  | inr r =>
    cases S' with
    | inl o' => cases hb
    | inr r' =>
      have hb : ((r == r' && decide (r.1 < 4)) || (((r.1 == 6 && r'.1 == 4) || (r.1 == 7 && r'.1 == 5)) && r.2.1 == r'.2.1 && (List.range r.2.1).all (fun j => gO u a j == some (r'.2.2.1 + r'.2.2.2 * j)))) = true := hb
      rw [Bool.or_eq_true] at hb
      rcases hb with hb | hb
      · rw [Bool.and_eq_true] at hb
        rw [← eq_of_beq hb.1]
        have h4 : r.1 < 4 := of_decide_eq_true hb.2
        obtain ⟨t, n, p, sd⟩ := r
        match t, h4 with
        | 0, _ => exact h
        | 1, _ => exact h
        | 2, _ => exact h
        | 3, _ => exact h
      · obtain ⟨t, n, p, sd⟩ := r
        obtain ⟨t', n', p', sd'⟩ := r'
        simp only [Bool.and_eq_true, Bool.or_eq_true, beq_iff_eq] at hb
        obtain ⟨⟨h1, h2⟩, h3⟩ := hb
        subst h2
        have hj : ∀ j, j < n → va_rf ((gO u a j).map as) = va_rf (some (as2 (p' + sd' * j))) := fun j hj => by
          have := eq_of_beq (List.all_eq_true.mp h3 j (List.mem_range.mpr hj))
          rw [this, he _ (ho a j _ this)]
          rfl
        rcases h1 with ⟨h1, h2⟩ | ⟨h1, h2⟩ <;> subst h1 <;> subst h2
        · have h : H[q]? = some (arrV (dA 6) n (fun j => va_rf ((gO u a j).map as))) := h
          show H[q]? = some (arrV (dA 4) n (fun j => va_rf (some (as2 (p' + sd' * j)))))
          rw [h, h64, arrV_same hj]
        · have h : H[q]? = some (arrV (dA 7) n (fun j => va_rf ((gO u a j).map as))) := h
          show H[q]? = some (arrV (dA 5) n (fun j => va_rf (some (as2 (p' + sd' * j)))))
          rw [h, h75, arrV_same hj]
theorem zCv_P {as as2 : Nat → Nat} {dA : Nat → ClassId} {D : va_G} {u : zM} {SG SH : List zS} {H : Heap} (he : ∀ i, i < SG.length → as2 i = as i) (ho : zOk u SG.length) (h64 : dA 6 = dA 4) (h75 : dA 7 = dA 5) (hl : SG.length = SH.length) (hb : (List.range SG.length).all (fun a => match SG[a]?, SH[a]? with | some S, some S' => zCvB u a S S' | _, _ => false) = true) (h : va_P D zcl (zw as dA SG u) H) : va_P D zcl (zw as2 dA SH u) H := by
  intro a q hq
  obtain ⟨S', hS', rfl⟩ := zw_has hq
  have ha : a < SG.length := by rw [hl]; exact (List.getElem?_eq_some_iff.mp hS').1
  have h1 := List.all_eq_true.mp hb a (List.mem_range.mpr ha)
  rw [hS', List.getElem?_eq_getElem ha] at h1
  have h2 := zCv_at (q := as a) he ho h64 h75 h1 (h a _ (zw_get (List.getElem?_eq_getElem ha)))
  rw [← he a ha] at h2
  exact h2
def zCvA (u : zM) (SG SH : List zS) : Bool := (List.range SG.length).all (fun a => match SG[a]?, SH[a]? with | some S, some S' => zCvB u a S S' | _, _ => false)
theorem lenX : SGX.length = SHX.length := by decide +kernel
theorem lenM : SGM.length = SHM.length := by decide +kernel
theorem cvX : zCvA uX0 SGX SHX = true := by decide +kernel
theorem cvM : zCvA uM0 SGM SHM = true := by decide +kernel
theorem convX {as as2 : Nat → Nat} {dA : Nat → ClassId} {D : va_G} {H : Heap} (he : ∀ i, i < 96 → as2 i = as i) (ho : zOk uX0 96) (h64 : dA 6 = dA 4) (h75 : dA 7 = dA 5) (h : va_P D zcl (zw as dA (SGX.take 96) uX0) H) : va_P D zcl (zw as2 dA SHX uX0) H := by
  have e : SGX.take 96 = SGX := List.take_of_length_le (by decide +kernel)
  rw [e] at h
  have e2 : SGX.length = 96 := by decide +kernel
  exact zCv_P (by rw [e2]; exact he) (by rw [e2]; exact ho) h64 h75 lenX cvX h
theorem convM {as as2 : Nat → Nat} {dA : Nat → ClassId} {D : va_G} {H : Heap} (he : ∀ i, i < 49 → as2 i = as i) (ho : zOk uM0 49) (h64 : dA 6 = dA 4) (h75 : dA 7 = dA 5) (h : va_P D zcl (zw as dA (SGM.take 49) uM0) H) : va_P D zcl (zw as2 dA SHM uM0) H := by
  have e : SGM.take 49 = SGM := List.take_of_length_le (by decide +kernel)
  rw [e] at h
  have e2 : SGM.length = 49 := by decide +kernel
  exact zCv_P (by rw [e2]; exact he) (by rw [e2]; exact ho) h64 h75 lenM cvM h
