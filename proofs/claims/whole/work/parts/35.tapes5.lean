/-! ===== PURE: the shift's door ===== -/
theorem shift_both {uX w : zM} (h : RTp uX w) {t1 t3 j k j4 n1 n3 s1 s3 : Nat} (ht1 : t1 < 6) (ht3 : t3 < 6) (hn1 : n1 ≤ 60) (hn3 : n3 ≤ 60) (hs3 : s3 ≤ 4) (hj : j + k ≤ n1) (hj4 : j4 + k ≤ n3)
    (a5 : ∀ i, i < n1 → gJ uX (72 + t1) i = gJ w 47 (60 * t1 + i)) (b1 : gI uX 69 t3 = nI s3) (b2 : gI w 45 t3 = nI s3) (b3 : gI uX 70 t3 = nI n3) (b4 : gI w 46 t3 = nI n3) (b5 : ∀ i, i < n3 → gJ uX (72 + t3) i = gJ w 47 (60 * t3 + i)) :
    ∃ w', f_X9_shift_L104 (nI t1) (nI j) (nI t3) (nI j4) (nI k) 400 0 w = some (nI k, w') ∧ RTp (cpJ uX (72 + 1 * t1) j (72 + 1 * t3) j4 k) w' ∧ tpM w w' := by
  obtain ⟨u1, e1, c1, c2⟩ := s104 (k := k) (t := t1) (j := j) (t3 := t3) (j4 := j4) (p3 := nI t3) (p4 := nI j4) ht1 (by omega) k 0 400 w (by omega) (by omega)
  obtain ⟨u2, e2, d1, d2⟩ := s141 (k := k) (t3 := t3) (j4 := j4) (p1 := nI t1) (p2 := nI j) ht3 (by omega) k 0 400 u1 (by omega) (by omega)
  refine ⟨u2, e1.trans e2, ?_, fun a b hab => (d1 a b).trans (c1 a b)⟩
  have hI : ∀ a b, gI u2 a b = gI w a b := fun a b => (d1 a b).trans (c1 a b)
  intro t' ht'
  by_cases hq : t' = t3
  · subst hq
    refine Or.inr ⟨s3, n3, hs3, hn3, b1, (hI 45 t').trans b2, b3, (hI 46 t').trans b4, fun i hi => ?_⟩
    rw [gJ_cpJ, d2]
    by_cases hin : j4 ≤ i ∧ i < j4 + k
    · rw [if_pos ⟨by omega, hin⟩, if_pos ⟨rfl, by omega, by omega⟩, c2, if_pos ⟨rfl, by omega, by omega⟩, show 72 + 1 * t1 = 72 + t1 by omega, a5 _ (by omega)]
      congr 1
      omega
    · rw [if_neg (by omega), if_neg (by omega), c2, if_neg (by omega)]
      exact b5 i hi
  · refine RTp1_cg (uX := uX) (w := w) rfl rfl (hI 45 t') (hI 46 t') ?_ ?_ (h t' ht')
    · intro i hi
      rw [gJ_cpJ, if_neg (by omega)]
    · intro i hi
      rw [d2, if_neg (by omega), c2, if_neg (by omega)]
theorem gd_cp {n1 n3 j k j4 : Nat} (hn1 : n1 ≤ 60) (hn3 : n3 ≤ 60) (hj : j + k ≤ n1) (hj4 : j4 + k ≤ n3) : cpB (nI j) (nI j4) (nI k) 60 60 = true := by
  refine decide_eq_true ⟨nI_pos (by omega), nI_pos (by omega), nI_pos (by omega), ?_, ?_⟩
  · rw [nI_cl (by omega), nI_cl (by omega)]
    omega
  · rw [nI_cl (by omega), nI_cl (by omega)]
    omega
theorem shift_sim {uX w : zM} (h : RTp uX w) (p1 p2 p3 p4 p5 : Int32) : zTpSim (f_X8_shift p1 p2 p3 p4 p5) (f_X9_shift p1 p2 p3 p4 p5) uX w := by
  rcases nI_in_or (n := 6) (by decide) p1 with ⟨t1, ht1, rfl⟩ | ho
  · rcases nI_in_or (n := 6) (by decide) p3 with ⟨t3, ht3, rfl⟩ | ho
    · rcases h t1 ht1 with ⟨a1, a2, a3, a4⟩ | ⟨s1, n1, hs1, hn1, a1, a2, a3, a4, a5⟩
      · refine tp_same (r := -11) h ?_ ?_
        · unfold f_X8_shift
          rw [has_t ht1, zb_s, if1, has_t ht3, zb_s, if1, ho_f ht1 a1, zb_s, if0]
        · unfold f_X9_shift
          rw [tp_t ht1, zb_s, if1, tp_t ht3, zb_s, if1, inB_n ht1 (by decide), zck_t, nI_cl (n := t1) (by omega), a2, if_pos (by decide)]
      · rcases h t3 ht3 with ⟨b1, b2, b3, b4⟩ | ⟨s3, n3, hs3, hn3, b1, b2, b3, b4, b5⟩
        · refine tp_same (r := -11) h ?_ ?_
          · unfold f_X8_shift
            rw [has_t ht1, zb_s, if1, has_t ht3, zb_s, if1, ho_t ht1 (a1 ▸ s_ne hs1), zb_s, if1, ho_f ht3 b1, zb_s, if0]
          · unfold f_X9_shift
            rw [tp_t ht1, zb_s, if1, tp_t ht3, zb_s, if1, inB_n ht1 (by decide), zck_t, nI_cl (n := t1) (by omega), a2, if_neg (nI_pos (by omega)), inB_n ht3 (by decide), zck_t, nI_cl (n := t3) (by omega), b2, if_neg (by decide)]
        · by_cases hs : nI s1 = nI s3
          · rcases gdM (p2 := p2) (p4 := p4) (p5 := p5) hn1 hn3 (f_X9_shift_L104 (nI t1) p2 (nI t3) p4 p5 400 0 w) (some ((-13 : Int32), w)) with ⟨g1, g3, hM⟩ | ⟨g, hM⟩
            · obtain ⟨j, k, rfl, rfl, hj⟩ := g1
              obtain ⟨j4, k', rfl, hk, hj4⟩ := g3
              have hkk : k = k' := (nI_eq (by omega) (by omega)).mp hk
              subst hkk
              obtain ⟨w', f1, f2, f3⟩ := shift_both h ht1 ht3 hn1 hn3 hs3 hj hj4 a5 b1 b2 b3 b4 b5 (s1 := s1)
              refine ⟨nI k, _, w', ?_, ?_, f2, fun _ _ _ => ⟨rfl, rfl⟩, f3⟩
              · unfold f_X8_shift
                rw [has_t ht1, zb_s, if1, has_t ht3, zb_s, if1, ho_t ht1 (a1 ▸ s_ne hs1), zb_s, if1, ho_t ht3 (b1 ▸ s_ne hs3), zb_s, if1, inB_n ht1 (by decide), inB_n ht3 (by decide), zck_t, zck_t, nI_cl (n := t1) (by omega), nI_cl (n := t3) (by omega), a1, b1, if_pos hs, hi_t ht1 hn1 a3 hj, zb_s, if1, hi_t ht3 hn3 b3 hj4, zb_s, if1, zck_t, zck_t, gd_cp hn1 hn3 hj hj4, zck_t, zlet_s, nI_cl (n := j) (by omega), nI_cl (n := j4) (by omega), nI_cl (n := k) (by omega)]
              · unfold f_X9_shift
                rw [tp_t ht1, zb_s, if1, tp_t ht3, zb_s, if1, inB_n ht1 (by decide), inB_n ht3 (by decide), zck_t, nI_cl (n := t1) (by omega), nI_cl (n := t3) (by omega), a2, if_neg (nI_pos (n := s1) (by omega)), zck_t, b2, if_pos (nI_pos' (n := s3) (by omega)), zck_t, zck_t, if_pos hs, zck_t, a4, zck_t, b4]
                exact hM.trans f1
            · refine tp_same (r := -13) h ?_ ?_
              · unfold f_X8_shift
                rw [has_t ht1, zb_s, if1, has_t ht3, zb_s, if1, ho_t ht1 (a1 ▸ s_ne hs1), zb_s, if1, ho_t ht3 (b1 ▸ s_ne hs3), zb_s, if1, inB_n ht1 (by decide), inB_n ht3 (by decide), zck_t, zck_t, nI_cl (n := t1) (by omega), nI_cl (n := t3) (by omega), a1, b1, if_pos hs]
                by_cases g1 : tpGd n1 p2 p5
                · have g3 : ¬ tpGd n3 p4 p5 := g.elim (fun q => absurd g1 q) id
                  obtain ⟨j, k, rfl, rfl, hj⟩ := g1
                  rw [hi_t ht1 hn1 a3 hj, zb_s, if1, hi_f ht3 hn3 b3 g3, zb_s, if0]
                · rw [hi_f ht1 hn1 a3 g1, zb_s, if0]
              · unfold f_X9_shift
                rw [tp_t ht1, zb_s, if1, tp_t ht3, zb_s, if1, inB_n ht1 (by decide), inB_n ht3 (by decide), zck_t, nI_cl (n := t1) (by omega), nI_cl (n := t3) (by omega), a2, if_neg (nI_pos (n := s1) (by omega)), zck_t, b2, if_pos (nI_pos' (n := s3) (by omega)), zck_t, zck_t, if_pos hs, zck_t, a4, zck_t, b4]
                exact hM
          · refine tp_same (r := -12) h ?_ ?_
            · unfold f_X8_shift
              rw [has_t ht1, zb_s, if1, has_t ht3, zb_s, if1, ho_t ht1 (a1 ▸ s_ne hs1), zb_s, if1, ho_t ht3 (b1 ▸ s_ne hs3), zb_s, if1, inB_n ht1 (by decide), inB_n ht3 (by decide), zck_t, zck_t, nI_cl (n := t1) (by omega), nI_cl (n := t3) (by omega), a1, b1, if_neg hs]
            · unfold f_X9_shift
              rw [tp_t ht1, zb_s, if1, tp_t ht3, zb_s, if1, inB_n ht1 (by decide), inB_n ht3 (by decide), zck_t, nI_cl (n := t1) (by omega), nI_cl (n := t3) (by omega), a2, if_neg (nI_pos (n := s1) (by omega)), zck_t, b2, if_pos (nI_pos' (n := s3) (by omega)), zck_t, zck_t, if_neg hs]
    · refine tp_same (r := -1) h ?_ ?_
      · unfold f_X8_shift
        rw [has_t ht1, zb_s, if1, has_f ho, zb_s, if0]
      · unfold f_X9_shift
        rw [tp_t ht1, zb_s, if1, tp_f ho, zb_s, if0]
  · refine tp_same (r := -1) h ?_ ?_
    · unfold f_X8_shift
      rw [has_f ho, zb_s, if0]
    · unfold f_X9_shift
      rw [tp_f ho, zb_s, if0]
