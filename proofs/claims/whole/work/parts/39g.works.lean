/-! ===== PURE: the works of the town now ===== -/
def RWork (uX w : zM) (i : Nat) : Prop := (∃ n : Nat, 1 ≤ n ∧ n ≤ 999 ∧ gI uX 8 i = nI n ∧ gI w 5 i = nI n) ∧ (∃ d : Nat, d ≤ 60 ∧ gI uX 9 i = nI d ∧ gI w 6 i = nI d) ∧ ∃ s : Nat, s ≤ 999 + 600 ∧ gI uX 10 i = nI s ∧ gI w 7 i = nI s
def RWks (uX w : zM) : Prop := ∃ m : Nat, m ≤ 4 ∧ gI uX 2 6 = nI m ∧ gI w 0 2 = nI m ∧ ∀ i, i < m → RWork uX w i
theorem in1_f {p : Int32} {n : Nat} (hn : n + 1 < 2 ^ 31) (h : ¬ ∃ j : Nat, 1 ≤ j ∧ j ≤ n ∧ p = nI j) : ¬ ((1 : Int32) ≤ p ∧ p ≤ nI n) := by
  rintro ⟨h1, h2⟩
  have h0 : ¬ p < 0 := fun q => by
    rw [Int32.lt_iff_toInt_lt] at q
    rw [Int32.le_iff_toInt_le] at h1
    have e1 : (1 : Int32).toInt = 1 := by decide
    have e0 : (0 : Int32).toInt = 0 := by decide
    omega
  obtain ⟨j, hj, rfl⟩ := nI_of h0
  exact h ⟨j, (nI_leI (a := 1) (by decide) hj).mp h1, (nI_leI hj (by omega)).mp h2, rfl⟩
theorem work_sim {uX w : zM} (h : RWks uX w) (p1 p2 : Int32) : ∃ r uX' w', f_X8_work p1 p2 uX = some (r, uX') ∧ f_X9_work p1 p2 w = some (r, w') ∧ RWks uX' w' ∧ (∀ a k, ¬ (a = 2 ∧ k = 6) → ¬ (8 ≤ a ∧ a ≤ 10) → gI uX' a k = gI uX a k) ∧ (∀ a k, ¬ (a = 0 ∧ k = 2) → ¬ (5 ≤ a ∧ a ≤ 7) → gI w' a k = gI w a k) := by
  obtain ⟨m, hm, e1, e2, hw⟩ := id h
  unfold f_X8_work f_X9_work
  rw [f_within, f_in, zb_s, zb_s]
  by_cases hp : ∃ j : Nat, 1 ≤ j ∧ j ≤ 999 ∧ p1 = nI j
  · obtain ⟨j, j1, j2, rfl⟩ := hp
    rw [decide_eq_true (show (1 : Int32) ≤ nI j ∧ nI j ≤ 999 from ⟨nI_le (a := 1) j1 (by omega), nI_le (b := 999) j2 (by decide)⟩), show b2i true = 1 from rfl, if1, if1]
    rcases nI_in_or (n := 61) (by decide) p2 with ⟨d, hd, rfl⟩ | ho2
    · rw [show f_X8_isWithin (nI d) 0 60 uX = some (1, uX) from wi_t (a := 0) (b := 60) (by omega) (by decide) _, show f_X9_in (nI d) 0 60 w = some (1, w) from in_t (a := 0) (b := 60) (by omega) (by decide) _, zb_s, zb_s, if1, if1, e1, e2]
      by_cases h4 : m = 4
      · subst h4
        rw [if_neg (show ¬ nI 4 < (4 : Int32) by decide), if_pos (show nI 4 = (4 : Int32) from rfl)]
        exact ⟨-4, uX, w, rfl, rfl, h, fun _ _ _ _ => rfl, fun _ _ _ _ => rfl⟩
      · rw [if_pos (show nI m < (4 : Int32) from nI_lt (b := 4) (by omega) (by decide)), if_neg (show ¬ nI m = (4 : Int32) from fun q => h4 ((nI_eq (b := 4) (by omega) (by decide)).mp q))]
        refine ⟨nI m, sI (sI (sI (sI uX 8 m (nI j)) 9 m (nI d)) 10 m 0) 2 6 (nI m + 1), sI (sI (sI (sI w 5 m (nI j)) 6 m (nI d)) 7 m 0) 0 2 (nI m + 1), ?_, ?_, ⟨m + 1, by omega, ?_, ?_, fun i hi => ?_⟩, fun a k q1 q2 => ?_, fun a k q1 q2 => ?_⟩
        · unfold f_X6_addWork
          rw [e1, zlx_s, inB_n (show m < 4 by omega) (by decide), zck_t, zlet_s, zck_t, zlet_s, zck_t, zlet_s, nI_cl (n := m) (by omega), zlet_s, zb_s, gI_sI, if_neg (by omega), gI_sI, if_neg (by omega), gI_sI, if_neg (by omega), e1]
        · have g1 : gI (sI w 5 m (nI j)) 0 2 = nI m := by
            rw [gI_sI, if_neg (by omega)]
            exact e2
          have g2 : gI (sI (sI w 5 m (nI j)) 6 m (nI d)) 0 2 = nI m := by
            rw [gI_sI, if_neg (by omega)]
            exact g1
          have g3 : gI (sI (sI (sI w 5 m (nI j)) 6 m (nI d)) 7 m 0) 0 2 = nI m := by
            rw [gI_sI, if_neg (by omega)]
            exact g2
          have g4 : gI (sI (sI (sI (sI w 5 m (nI j)) 6 m (nI d)) 7 m 0) 0 2 (nI m + 1)) 0 2 = nI m + 1 := by
            rw [gI_sI, if_pos ⟨rfl, rfl⟩]
          have hb : inB (nI m) 4 = true := inB_n (show m < 4 by omega) (by decide)
          have hc : (nI m).toNatClampNeg = m := nI_cl (by omega)
          rw [hb, zck_t, zlet_s, hc, g1, hb, zck_t, zlet_s, hc, g2, hb, zck_t, zlet_s, hc, g3, zlet_s, g4, nI_a1, nI_pred]
        · rw [gI_sI, if_pos ⟨rfl, rfl⟩, nI_a1]
        · rw [gI_sI, if_pos ⟨rfl, rfl⟩, nI_a1]
        · by_cases him : i = m
          · subst him
            refine ⟨⟨j, j1, j2, ?_, ?_⟩, ⟨d, by omega, ?_, ?_⟩, ⟨0, by omega, ?_, ?_⟩⟩
            · rw [gI_sI, if_neg (by omega), gI_sI, if_neg (by omega), gI_sI, if_neg (by omega), gI_sI, if_pos ⟨rfl, rfl⟩]
            · rw [gI_sI, if_neg (by omega), gI_sI, if_neg (by omega), gI_sI, if_neg (by omega), gI_sI, if_pos ⟨rfl, rfl⟩]
            · rw [gI_sI, if_neg (by omega), gI_sI, if_neg (by omega), gI_sI, if_pos ⟨rfl, rfl⟩]
            · rw [gI_sI, if_neg (by omega), gI_sI, if_neg (by omega), gI_sI, if_pos ⟨rfl, rfl⟩]
            · rw [gI_sI, if_neg (by omega), gI_sI, if_pos ⟨rfl, rfl⟩]
              rfl
            · rw [gI_sI, if_neg (by omega), gI_sI, if_pos ⟨rfl, rfl⟩]
              rfl
          · obtain ⟨⟨n, n1, n2, n3, n4⟩, ⟨t, t1, t2, t3⟩, ⟨s, s1, s2, s3⟩⟩ := hw i (by omega)
            refine ⟨⟨n, n1, n2, ?_, ?_⟩, ⟨t, t1, ?_, ?_⟩, ⟨s, s1, ?_, ?_⟩⟩ <;> rw [gI_sI, if_neg (by omega), gI_sI, if_neg (by omega), gI_sI, if_neg (by omega), gI_sI, if_neg (by omega)] <;> assumption
        · rw [gI_sI, if_neg (by omega), gI_sI, if_neg (by omega), gI_sI, if_neg (by omega), gI_sI, if_neg (by omega)]
        · rw [gI_sI, if_neg (by omega), gI_sI, if_neg (by omega), gI_sI, if_neg (by omega), gI_sI, if_neg (by omega)]
    · rw [show f_X8_isWithin p2 0 60 uX = some (0, uX) from wi_f (n := 60) (by decide) ho2 _, show f_X9_in p2 0 60 w = some (0, w) from in_f (n := 60) (by decide) ho2 _]
      exact ⟨-2, uX, w, rfl, rfl, h, fun _ _ _ _ => rfl, fun _ _ _ _ => rfl⟩
  · rw [decide_eq_false (show ¬ ((1 : Int32) ≤ p1 ∧ p1 ≤ 999) from in1_f (n := 999) (by decide) hp), show b2i false = 0 from rfl, if0, if0]
    exact ⟨-2, uX, w, rfl, rfl, h, fun _ _ _ _ => rfl, fun _ _ _ _ => rfl⟩
theorem init_wks : RWks uX0 uM0 := ⟨0, by omega, by decide +kernel, by decide +kernel, fun i hi => absurd hi (Nat.not_lt_zero i)⟩
