/-! ===== PURE: the tapes' four doors ===== -/
theorem RTp1_cg {uX w uX' w' : zM} {t : Nat} (h1 : gI uX' 69 t = gI uX 69 t) (h2 : gI uX' 70 t = gI uX 70 t) (h3 : gI w' 45 t = gI w 45 t) (h4 : gI w' 46 t = gI w 46 t) (h5 : ∀ i, i < 60 → gJ uX' (72 + t) i = gJ uX (72 + t) i) (h6 : ∀ i, i < 60 → gJ w' 47 (60 * t + i) = gJ w 47 (60 * t + i)) (h : RTp1 uX w t) : RTp1 uX' w' t := by
  rcases h with ⟨a, b, c, d⟩ | ⟨s, n, a, b, c, d, e, f, g⟩
  · exact Or.inl ⟨h1.trans a, h3.trans b, h2.trans c, h4.trans d⟩
  · exact Or.inr ⟨s, n, a, b, h1.trans c, h3.trans d, h2.trans e, h4.trans f, fun i hi => (h5 i (by omega)).trans ((g i hi).trans (h6 i (by omega)).symm)⟩
theorem tape_made {uX w : zM} {t n : Nat} {s : Int32} (ht : t < 6) (hn : n ≤ 60) (hs : (s = -1 ∧ n = 0) ∨ ∃ s' : Nat, s' ≤ 4 ∧ s = nI s') (h : RTp uX w) (pn : Int32) : ∃ uX' w', f_X5_become (nI t) s (nI n) uX = some (1, uX') ∧ f_X9_tape_L69 (nI t) s pn 400 0 (sI (sI w 45 t s) 46 t (nI n)) = some (1, w') ∧ RTp uX' w' ∧ tpX uX uX' ∧ tpM w w' := by
  obtain ⟨uX', e, a1, a2⟩ := become_ok (s := s) ht hn n 0 400 (sI (sI uX 69 t s) 70 t (nI n)) (by omega) (by omega)
  obtain ⟨w', e', b1, b2⟩ := tape_ok (s := s) (n := pn) ht 60 0 400 (sI (sI w 45 t s) 46 t (nI n)) (by omega) (by omega)
  refine ⟨uX', w', ?_, e', ?_, ?_, ?_⟩
  · unfold f_X5_become
    rw [inB_n ht (by decide), zck_t, zlet_s, zck_t, zlet_s, nI_cl (by omega)]
    exact e
  · intro t' ht'
    by_cases hq : t' = t
    · subst hq
      have c1 : gI uX' 69 t' = s := by rw [(a1 69 t').1, gI_sI, if_neg (by omega), gI_sI, if_pos ⟨rfl, rfl⟩]
      have c2 : gI uX' 70 t' = nI n := by rw [(a1 70 t').1, gI_sI, if_pos ⟨rfl, rfl⟩]
      have c3 : gI w' 45 t' = s := by rw [b1 45 t', gI_sI, if_neg (by omega), gI_sI, if_pos ⟨rfl, rfl⟩]
      have c4 : gI w' 46 t' = nI n := by rw [b1 46 t', gI_sI, if_pos ⟨rfl, rfl⟩]
      rcases hs with ⟨rfl, rfl⟩ | ⟨s', hs', rfl⟩
      · exact Or.inl ⟨c1, c3, c2, c4⟩
      · refine Or.inr ⟨s', n, hs', hn, c1, c3, c2, c4, fun i hi => ?_⟩
        rw [a2, b2, if_pos ⟨rfl, Nat.zero_le _, hi⟩, if_pos ⟨rfl, by omega, by omega⟩]
    · refine RTp1_cg ?_ ?_ ?_ ?_ ?_ ?_ (h t' ht')
      · rw [(a1 69 t').1, gI_sI, if_neg (by omega), gI_sI, if_neg (by omega)]
      · rw [(a1 70 t').1, gI_sI, if_neg (by omega), gI_sI, if_neg (by omega)]
      · rw [b1 45 t', gI_sI, if_neg (by omega), gI_sI, if_neg (by omega)]
      · rw [b1 46 t', gI_sI, if_neg (by omega), gI_sI, if_neg (by omega)]
      · intro i hi
        rw [a2, if_neg (by omega)]
        rfl
      · intro i hi
        rw [b2, if_neg (by omega)]
        rfl
  · intro a k ha
    rw [(a1 a k).1, (a1 a k).2, gI_sI, if_neg (by omega), gI_sI, if_neg (by omega)]
    exact ⟨rfl, rfl⟩
  · intro a k ha
    rw [b1 a k, gI_sI, if_neg (by omega), gI_sI, if_neg (by omega)]
theorem tape_sim {uX w : zM} (h : RTp uX w) (p1 p2 p3 : Int32) : zTpSim (f_X8_tape p1 p2 p3) (f_X9_tape p1 p2 p3) uX w := by
  rcases nI_in_or (n := 6) (by decide) p1 with ⟨t, ht, rfl⟩ | ho
  · by_cases hm : p2 = -1
    · subst hm
      obtain ⟨uX', w', e1, e2, e3, e4, e5⟩ := tape_made (n := 0) (s := -1) ht (by omega) (Or.inl ⟨rfl, rfl⟩) h p3
      refine ⟨1, uX', w', ?_, ?_, e3, e4, e5⟩
      · unfold f_X8_tape
        rw [has_t ht, zb_s, if1, if_pos rfl, show f_X5_become (nI t) (-1) 0 uX = some (1, uX') from e1]
        rfl
      · unfold f_X9_tape
        rw [tp_t ht, zb_s, if1, f_in, show b2i (decide ((-1 : Int32) ≤ -1 ∧ (-1 : Int32) ≤ 4)) = 1 from by decide, zb_s, if1, if_pos (show (-1 : Int32) < 0 by decide)]
        unfold f_X9_tape_L33
        rw [if_pos (show (-1 : Int32) < 0 by decide)]
        unfold f_X9_tape_L44
        rw [inB_n ht (by decide), zck_t, zlet_s, if_neg (show ¬ (0 : Int32) ≤ -1 by decide), zck_t, zlet_s, nI_cl (by omega)]
        exact e2
    · rcases nI_in_or (n := 5) (by decide) p2 with ⟨s, hs, rfl⟩ | ho2
      · have hw : f_X8_isWithin (nI s) 0 4 uX = some (1, uX) := wi_t (a := 0) (b := 4) (by omega) (by decide) uX
        have hi : f_X9_in (nI s) (-1) 4 w = some (1, w) := by
          rw [f_in, decide_eq_true (show (-1 : Int32) ≤ nI s ∧ nI s ≤ 4 from ⟨Int32.le_trans (show (-1 : Int32) ≤ 0 by decide) (nI_pos' (by omega)), nI_le (a := s) (b := 4) (by omega) (by decide)⟩)]
          rfl
        rcases nI_in_or (n := 61) (by decide) p3 with ⟨n, hn, rfl⟩ | ho3
        · obtain ⟨uX', w', e1, e2, e3, e4, e5⟩ := tape_made (n := n) (s := nI s) ht (by omega) (Or.inr ⟨s, by omega, rfl⟩) h (nI n)
          have h60 : nI n ≤ (60 : Int32) := nI_le (a := n) (b := 60) (by omega) (by decide)
          refine ⟨1, uX', w', ?_, ?_, e3, e4, e5⟩
          · unfold f_X8_tape
            rw [has_t ht, zb_s, if1, if_neg hm, hw, zb_s, if1, if_pos h60, if_pos (nI_pos' (by omega)), e1]
            rfl
          · unfold f_X9_tape
            rw [tp_t ht, zb_s, if1, hi, zb_s, if1, if_neg (nI_pos (by omega)), if_pos h60]
            unfold f_X9_tape_L33
            rw [if_neg (nI_pos (by omega)), if_pos (nI_pos' (by omega))]
            unfold f_X9_tape_L44
            rw [inB_n ht (by decide), zck_t, zlet_s, if_pos (nI_pos' (by omega)), zck_t, zlet_s, nI_cl (by omega)]
            exact e2
        · by_cases h0 : p3 < 0
          · have h60 : p3 ≤ 60 := Int32.le_trans (Int32.le_of_lt h0) (by decide)
            refine tp_same (r := -14) h ?_ ?_
            · unfold f_X8_tape
              rw [has_t ht, zb_s, if1, if_neg hm, hw, zb_s, if1, if_pos h60, if_neg (fun q => Int32_not_le.mpr h0 q)]
            · unfold f_X9_tape
              rw [tp_t ht, zb_s, if1, hi, zb_s, if1, if_neg (nI_pos (by omega)), if_pos h60]
              unfold f_X9_tape_L33
              rw [if_neg (nI_pos (by omega)), if_neg (fun q => Int32_not_le.mpr h0 q)]
          · have h60 : ¬ p3 ≤ 60 := fun q => out_le (n := 60) (by decide) ho3 ⟨Int32_not_lt.mp h0, q⟩
            refine tp_same (r := -2) h ?_ ?_
            · unfold f_X8_tape
              rw [has_t ht, zb_s, if1, if_neg hm, hw, zb_s, if1, if_neg h60]
            · unfold f_X9_tape
              rw [tp_t ht, zb_s, if1, hi, zb_s, if1, if_neg (nI_pos (by omega)), if_neg h60]
      · have hw : f_X8_isWithin p2 0 4 uX = some (0, uX) := wi_f (n := 4) (by decide) ho2 uX
        have hi : f_X9_in p2 (-1) 4 w = some (0, w) := by
          rw [f_in, decide_eq_false (show ¬ ((-1 : Int32) ≤ p2 ∧ p2 ≤ 4) from fun ⟨q1, q2⟩ => out_le (n := 4) (by decide) ho2 ⟨?_, q2⟩)]
          · rfl
          · rw [Int32.le_iff_toInt_le] at q1 ⊢
            have hne : p2.toInt ≠ (-1 : Int32).toInt := fun q => hm (Int32.toInt_inj.mp q)
            have e1 : (-1 : Int32).toInt = -1 := by decide
            have e2 : (0 : Int32).toInt = 0 := by decide
            omega
        refine tp_same (r := -2) h ?_ ?_
        · unfold f_X8_tape
          rw [has_t ht, zb_s, if1, if_neg hm, hw, zb_s, if0]
        · unfold f_X9_tape
          rw [tp_t ht, zb_s, if1, hi, zb_s, if0]
  · refine tp_same (r := -1) h ?_ ?_
    · unfold f_X8_tape
      rw [has_f ho, zb_s, if0]
    · unfold f_X9_tape
      rw [tp_f ho, zb_s, if0]
