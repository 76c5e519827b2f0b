/-! ===== PURE: judge, taken, count, act ===== -/
theorem RPpl_C {k : Nat} {T : zT} {sqs : Nat → zQ} {uX w : zM} (hc : Core k T sqs uX w) : RPpl uX w := by
  obtain ⟨hX, hM, ho, -, -, -, -⟩ := hc
  refine ⟨T 0 0, ho.1, hX.1, hM.1, fun i hi => ?_⟩
  obtain ⟨x1, x2, x3, -⟩ := hX.2.2.2.2.2.1 i hi
  obtain ⟨y1, y2, y3⟩ := hM.2.2.2.2.2.1 i hi
  obtain ⟨o1, o2, o3, -⟩ := ho.2.2.2.2.2.1 i hi
  refine ⟨⟨T 1 i, o1, x1, by rw [Nat.zero_add] at y1; exact y1⟩, ⟨T 2 i, o2, x2, by rw [Nat.zero_add] at y2; exact y2⟩, ⟨T 3 i, o3, x3, by rw [Nat.zero_add] at y3; exact y3⟩, fun c hc => ⟨T 5 (4 * i + c), ho.2.2.2.2.2.2.1 _ (by omega), hX.2.2.2.2.2.2.1 _ (by omega), ?_⟩⟩
  have := hM.2.2.2.2.2.2.1 (4 * i + c) (by omega)
  rw [Nat.zero_add] at this
  exact this
theorem jd_neg : ∀ n, n < 6 → ∀ x, x < 6 → n ≤ x → (nI n - nI x).toInt ≤ 0 ∧ (nI n - nI x - 1).toInt < 0 := by decide
theorem jd_X {i n x : Nat} (hi : i < 2147483648) (hn : n ≤ 60) (hx : x < 6) : (nI i < nI n - nI x) = (i + x < n) := by
  by_cases c : x < n
  · rw [pk_sub (by omega)]
    refine propext ((nI_ltI hi (by omega)).trans ⟨fun q => by omega, fun q => by omega⟩)
  · have := (jd_neg n (by omega) x hx (by omega)).1
    refine propext ⟨fun q => ?_, fun q => by omega⟩
    rw [Int32.lt_iff_toInt_lt, nI_toInt hi] at q
    omega
theorem jd_M {i n x : Nat} (hi : i < 2147483648) (hn : n ≤ 60) (hx : x < 6) : (nI i ≤ nI n - nI x - 1) = (i + x < n) := by
  by_cases c : x < n
  · rw [pk_sub (by omega), nI_m1 (by omega)]
    refine propext ((nI_leI hi (by omega)).trans ⟨fun q => by omega, fun q => by omega⟩)
  · have := (jd_neg n (by omega) x hx (by omega)).2
    refine propext ⟨fun q => ?_, fun q => by omega⟩
    rw [Int32.le_iff_toInt_le, nI_toInt hi] at q
    omega
theorem judge_sim {k : Nat} {T : zT} {sqs : Nat → zQ} {uX w : zM} (hc : Core k T sqs uX w) (hT : RTp uX w) (p1 p2 : Int32) : ∃ r, f_X8_judge p1 p2 uX = some (r, uX) ∧ f_X9_judge p1 p2 w = some (r, w) := by
  obtain ⟨hX, hM, ho, -, -, -, -⟩ := hc
  have hn := ho.1
  have eX : gI uX 2 0 = nI (T 0 0) := hX.1
  have eM : gI w 0 0 = nI (T 0 0) := hM.1
  rcases nI_in_or (n := 6) (by decide) p1 with ⟨t, ht, rfl⟩ | hp
  · unfold f_X8_judge f_X9_judge
    rw [has_t ht, zb_s, if1, tp_t ht, zb_s, if1, inB_n ht (by decide), zck_t, nI_cl (by omega)]
    rcases hT t ht with ⟨a1, a2, a3, a4⟩ | ⟨s, n, hs, hn60, a1, a2, a3, a4, a5⟩
    · rw [ho_f ht a1, zb_s, if0, a2, if_pos (show (-1 : Int32) ≤ 0 from by decide)]
      show ∃ r, f_X8_judge_L41_b _ _ _ _ _ = _ ∧ f_X9_judge_L24_b _ _ _ _ _ = _
      unfold f_X8_judge_L41_b f_X9_judge_L24_b
      rw [eX, eM]
      by_cases c : T 0 0 = 0
      · rw [if_pos (show nI (T 0 0) ≤ (0 : Int32) by rw [c]; decide), if_pos (show nI (T 0 0) ≤ (0 : Int32) by rw [c]; decide)]
        exact ⟨_, rfl, rfl⟩
      · have hge : ¬ nI (T 0 0) ≤ (0 : Int32) := nI_ge (a := 0) (by omega) (by omega)
        rw [if_neg hge, if_neg hge, ho_f ht a1, zb_s, if0, inB_n ht (by decide), zck_t, nI_cl (by omega), a2, if_pos (show (-1 : Int32) < 0 from by decide)]
        exact ⟨_, rfl, rfl⟩
    · rw [ho_t ht (a1 ▸ s_ne hs), zb_s, if1, zck_t, a1, a2]
      by_cases c0 : s = 0
      · rw [c0, if_pos (show nI 0 = (0 : Int32) from rfl), if_pos (show nI 0 ≤ (0 : Int32) from by decide)]
        have hs0 : gI w 45 t = nI 0 := by rw [a2, c0]
        have lp : ∀ j x fn, x + j = T 0 0 → j < fn → ∃ r, f_X8_judge_L41 (nI t) p2 fn (nI x) uX = some (r, uX) ∧ f_X9_judge_L24 (nI t) p2 fn (nI x) w = some (r, w) := by
          intro j
          induction j with
          | zero =>
            intro x fn hx hf
            obtain ⟨fn, rfl⟩ : ∃ g, fn = g + 1 := ⟨fn - 1, by omega⟩
            show ∃ r, f_X8_judge_L41_b _ _ _ _ _ = _ ∧ f_X9_judge_L24_b _ _ _ _ _ = _
            unfold f_X8_judge_L41_b f_X9_judge_L24_b
            have hle : nI (T 0 0) ≤ nI x := nI_le (by omega) (by omega)
            rw [eX, eM, if_pos hle, if_pos hle]
            exact ⟨_, rfl, rfl⟩
          | succ j ih =>
            intro x fn hx hf
            obtain ⟨fn, rfl⟩ : ∃ g, fn = g + 1 := ⟨fn - 1, by omega⟩
            have g3 : gI uX 5 x = nI (T 3 x) := (hX.2.2.2.2.2.1 x (by omega)).2.2.1
            have g3' : gI w 3 x = nI (T 3 x) := by
              have := (hM.2.2.2.2.2.1 x (by omega)).2.2
              rw [Nat.zero_add] at this
              exact this
            show ∃ r, f_X8_judge_L41_b _ _ _ _ _ = _ ∧ f_X9_judge_L24_b _ _ _ _ _ = _
            unfold f_X8_judge_L41_b f_X9_judge_L24_b
            have hge : ¬ nI (T 0 0) ≤ nI x := nI_ge (by omega) (by omega)
            rw [eX, eM, if_neg hge, if_neg hge, ho_t ht (a1 ▸ s_ne hs), zb_s, if1, inB_n ht (by decide), zck_t, zck_t, zck_t, zck_t, nI_cl (show t < 2 ^ 31 by omega), hs0, if_neg (show ¬ nI 0 < (0 : Int32) from by decide)]
            by_cases cp : p2 < 0
            · rw [if_pos cp, if_pos cp]
              exact ⟨_, rfl, rfl⟩
            · obtain ⟨i, hi, rfl⟩ := nI_of cp
              rw [if_neg cp, if_neg cp, a3, a4]
              by_cases ci : i + x < n
              · rw [if_pos ((jd_X hi hn60 (by omega)).mpr ci), if_pos ((jd_M hi hn60 (by omega)).mpr ci), nI_add, inB_n (show i + x < 60 by omega) (by decide), zck_t, inB_n (show x < 6 by omega) (by decide), zck_t, mul60 ht (by omega), nI_add, inB_n (show 60 * t + i + x < 360 by omega) (by decide), zck_t, zck_t, nI_cl (show x < 2 ^ 31 by omega), nI_cl (show i + x < 2 ^ 31 by omega), nI_cl (show 60 * t + i + x < 2 ^ 31 by omega), g3, g3', Nat.one_mul, a5 _ ci, Nat.add_assoc]
                by_cases cq : lg_cmp (gJ w 47 (60 * t + (i + x))) (nI (T 3 x)).toInt64 = (0 : Int32)
                · rw [if_pos cq, if_pos cq, nI_a1]
                  exact ih (x + 1) fn (by omega) (by omega)
                · rw [if_neg cq, if_neg cq]
                  exact ⟨_, rfl, rfl⟩
              · rw [if_neg (fun q => ci ((jd_X hi hn60 (by omega)).mp q)), if_neg (fun q => ci ((jd_M hi hn60 (by omega)).mp q))]
                exact ⟨_, rfl, rfl⟩
        exact lp (T 0 0) 0 400 (by omega) (by omega)
      · rw [if_neg (show ¬ nI s = (0 : Int32) from fun q => c0 ((nI_eq (b := 0) (by omega) (by decide)).mp q)), if_neg (show ¬ nI s ≤ (0 : Int32) from nI_ge (a := 0) (by omega) (by omega))]
        exact ⟨_, rfl, rfl⟩
  · unfold f_X8_judge f_X9_judge
    rw [has_f hp, zb_s, if0, tp_f hp, zb_s, if0]
    exact ⟨_, rfl, rfl⟩
theorem count_tab {uX w : zM} {a b c d e f g h : Int32} (x0 : gI uX 2 0 = a) (y0 : gI w 0 0 = a) (x1 : gI uX 2 6 = b) (y1 : gI w 0 2 = b) (x2 : gI uX 0 7 = c) (y2 : gI w 0 12 = c) (x3 : gI uX 13 3 = d) (y3 : gI w 0 38 = d) (x4 : gI uX 17 3 = e) (y4 : gI w 0 42 = e) (x5 : gI uX 21 3 = f) (y5 : gI w 0 43 = f) (x6 : gI uX 63 0 = g) (y6 : gI w 0 14 = g) (x7 : gI uX 66 0 = h) (y7 : gI w 0 72 = h) (p1 : Int32) : ∃ r, f_X8_count p1 uX = some (r, uX) ∧ f_X9_count p1 w = some (r, w) := by
  unfold f_X8_count f_X9_count
  rw [x0, y0, x1, y1, x2, y2, x3, y3, x4, y4, x5, y5, x6, y6, x7, y7]
  refine ⟨if p1 = (0 : Int32) then a else if p1 = (1 : Int32) then b else if p1 = (2 : Int32) then c else if p1 = (3 : Int32) then d else if p1 = (4 : Int32) then e else if p1 = (5 : Int32) then f else if p1 = (6 : Int32) then g else if p1 = (7 : Int32) then h else -2, ?_, ?_⟩ <;> (repeat' split) <;> first | rfl | contradiction
