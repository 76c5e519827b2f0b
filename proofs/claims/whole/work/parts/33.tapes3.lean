/-! ===== PURE: items, reads ===== -/
theorem sb_toInt {n k : Nat} (hn : n < 2 ^ 31) (hk : k < 2 ^ 31) : (nI n - nI k).toInt = (n : Int) - (k : Int) := by
  rw [Int32.toInt_sub, nI_toInt hn, nI_toInt hk]
  rw [Int.bmod_def]
  split <;> omega
theorem sb_lt {n k j : Nat} (hn : n < 2 ^ 31) (hk : k < 2 ^ 31) (hj : j < 2 ^ 31) : nI n - nI k < nI j ↔ ¬ (j + k ≤ n) := by
  rw [Int32.lt_iff_toInt_lt, sb_toInt hn hk, nI_toInt hj]
  omega
theorem le_sb {n k j : Nat} (hn : n < 2 ^ 31) (hk : k < 2 ^ 31) (hj : j < 2 ^ 31) : nI j ≤ nI n - nI k ↔ j + k ≤ n := by
  rw [Int32.le_iff_toInt_le, sb_toInt hn hk, nI_toInt hj]
  omega
/-- there are c items from p on -/
def tpGd (n : Nat) (p c : Int32) : Prop := ∃ j k : Nat, p = nI j ∧ c = nI k ∧ j + k ≤ n
theorem hi_t {u : zM} {t n j k : Nat} (ht : t < 6) (hn : n ≤ 60) (h : gI u 70 t = nI n) (hjk : j + k ≤ n) : f_X5_hasItems (nI t) (nI j) (nI k) u = some (1, u) := by
  unfold f_X5_hasItems
  rw [if_neg (nI_pos (by omega)), inB_n ht (by decide), zck_t, nI_cl (by omega), h, if_neg (nI_nlt (by omega) (by omega)), if_neg (nI_pos (by omega)), zck_t, if_neg (fun q => (sb_lt (by omega) (by omega) (by omega)).mp q hjk)]
theorem hi_f {u : zM} {t n : Nat} {p c : Int32} (ht : t < 6) (hn : n ≤ 60) (h : gI u 70 t = nI n) (hg : ¬ tpGd n p c) : f_X5_hasItems (nI t) p c u = some (0, u) := by
  unfold f_X5_hasItems
  by_cases hc : c < 0
  · rw [if_pos hc]
  · rw [if_neg hc, inB_n ht (by decide), zck_t, nI_cl (by omega), h]
    by_cases h1 : nI n < c
    · rw [if_pos h1]
    · rw [if_neg h1]
      by_cases hp : p < 0
      · rw [if_pos hp]
      · rw [if_neg hp, zck_t]
        obtain ⟨k, hk, rfl⟩ := nI_of hc
        obtain ⟨j, hj, rfl⟩ := nI_of hp
        rw [if_pos ((sb_lt (by omega) hk hj).mpr (fun q => hg ⟨j, k, rfl, rfl, q⟩))]
theorem la_t {u : zM} {n j : Nat} (hn : n ≤ 60) (hj : j < n) : f_X9_in (nI j) 0 (nI n - 1) u = some (1, u) := by
  rw [nI_m1 (by omega)]
  exact in_t (a := 0) (b := n - 1) (by omega) (by omega) u
theorem la_f {u : zM} {n : Nat} {p : Int32} (hn : n ≤ 60) (hp : p < 0 ∨ nI n ≤ p) : f_X9_in p 0 (nI n - 1) u = some (0, u) := by
  cases n with
  | zero =>
    rw [f_in, decide_eq_false (show ¬ ((0 : Int32) ≤ p ∧ p ≤ nI 0 - 1) from fun ⟨q1, q2⟩ => by
      rw [Int32.le_iff_toInt_le] at q1 q2
      have e1 : (nI 0 - 1).toInt = -1 := by decide
      have e2 : (0 : Int32).toInt = 0 := by decide
      omega)]
    rfl
  | succ n =>
    rw [nI_pred]
    exact in_f (by omega) hp u
theorem gd_1 {n : Nat} {p : Int32} (hp : p < 0 ∨ nI n ≤ p) (hn : n ≤ 60) : ¬ tpGd n p 1 := by
  rintro ⟨j, k, rfl, hk, hjk⟩
  have hk2 : k < 2 ^ 31 := by omega
  have : k = 1 := ((nI_eq (a := 1) (b := k) (by decide) hk2).mp hk).symm
  subst this
  rcases hp with hp | hp
  · exact nI_pos (by omega) hp
  · have := (nI_leI (a := n) (b := j) (by omega) (by omega)).mp hp
    omega
theorem cut_eq {s : Nat} (hs : s ≤ 4) (x : Int64) (u w : zM) : ∃ y, f_X5_cut (nI s) x u = some (y, u) ∧ f_X9_narrow (nI s) x w = some (y, w) := by
  have h : s = 0 ∨ s = 1 ∨ s = 2 ∨ s = 3 ∨ s = 4 := by omega
  unfold f_X5_cut f_X9_narrow
  rcases h with rfl | rfl | rfl | rfl | rfl
  · exact ⟨_, rfl, rfl⟩
  · exact ⟨_, rfl, rfl⟩
  · exact ⟨_, rfl, rfl⟩
  · exact ⟨_, rfl, rfl⟩
  · rw [if_neg (show ¬ nI 4 = 0 by decide), if_neg (show ¬ nI 4 = 1 by decide), if_neg (show ¬ nI 4 = 2 by decide), if_neg (show ¬ nI 4 = 3 by decide), if_neg (show ¬ nI 4 = 0 by decide), if_neg (show ¬ nI 4 = 1 by decide), if_neg (show ¬ nI 4 = 2 by decide), if_pos (show nI 4 = 4 from rfl)]
    by_cases hx : lg_cmp x 0 = 0
    · rw [if_pos hx, if_pos hx]
      exact ⟨0, rfl, rfl⟩
    · rw [if_neg hx, if_neg hx]
      exact ⟨1, rfl, rfl⟩
theorem ho_t {u : zM} {t : Nat} (ht : t < 6) (h : ¬ gI u 69 t = -1) : f_X5_holds (nI t) u = some (1, u) := by
  unfold f_X5_holds
  rw [inB_n ht (by decide), zck_t, nI_cl (by omega), if_neg h]
theorem ho_f {u : zM} {t : Nat} (ht : t < 6) (h : gI u 69 t = -1) : f_X5_holds (nI t) u = some (0, u) := by
  unfold f_X5_holds
  rw [inB_n ht (by decide), zck_t, nI_cl (by omega), if_pos h]
theorem s_ne {s : Nat} (hs : s ≤ 4) : ¬ nI s = -1 := fun q => nI_pos (n := s) (by omega) (q ▸ (by decide))
theorem item_sim {uX w : zM} (h : RTp uX w) (p1 p2 : Int32) (p3 : Int64) : zTpSim (f_X8_item p1 p2 p3) (f_X9_item p1 p2 p3) uX w := by
  rcases nI_in_or (n := 6) (by decide) p1 with ⟨t, ht, rfl⟩ | ho
  · rcases h t ht with ⟨a1, a2, a3, a4⟩ | ⟨s, n, hs, hn, a1, a2, a3, a4, a5⟩
    · refine tp_same (r := -11) h ?_ ?_
      · unfold f_X8_item
        rw [has_t ht, zb_s, if1, ho_f ht a1, zb_s, if0]
      · unfold f_X9_item
        rw [tp_t ht, zb_s, if1, inB_n ht (by decide), zck_t, nI_cl (by omega), a2, if_neg (by decide)]
    · rcases nI_in_or (n := n) (by omega) p2 with ⟨j, hj, rfl⟩ | ho2
      · obtain ⟨y, e1, e2⟩ := cut_eq hs p3 uX w
        refine ⟨1, sJ uX (72 + 1 * t) j y, sJ w 47 (60 * t + j) y, ?_, ?_, ?_, ?_, ?_⟩
        · unfold f_X8_item
          rw [has_t ht, zb_s, if1, ho_t ht (a1 ▸ s_ne hs), zb_s, if1, show f_X5_hasItems (nI t) (nI j) 1 uX = some (1, uX) from hi_t (k := 1) ht hn a3 (by omega), zb_s, if1]
          unfold f_X5_put
          rw [inB_n ht (by decide), zck_t, zck_t, nI_cl (by omega), a1, e1, zb_s, inB_n (show j < 60 by omega) (by decide), zck_t, nI_cl (by omega)]
          rfl
        · unfold f_X9_item
          rw [tp_t ht, zb_s, if1, inB_n ht (by decide), zck_t, nI_cl (by omega), a2, if_pos (nI_pos' (by omega)), zck_t, a4, la_t hn hj, zb_s, if1, zck_t, a2, e2, zb_s, mul60 ht (by omega), inB_n (idx60 ht (by omega)) (by decide), zck_t, nI_cl (by omega)]
          rfl
        · intro t' ht'
          by_cases hq : t' = t
          · subst hq
            refine Or.inr ⟨s, n, hs, hn, a1, a2, a3, a4, fun i hi => ?_⟩
            rw [gJ_sJ, gJ_sJ]
            by_cases hij : i = j
            · rw [if_pos ⟨by omega, hij⟩, if_pos ⟨rfl, by omega⟩]
            · rw [if_neg (by omega), if_neg (by omega)]
              exact a5 i hi
          · refine RTp1_cg (uX := uX) (w := w) rfl rfl rfl rfl ?_ ?_ (h t' ht')
            · intro i hi
              rw [gJ_sJ, if_neg (by omega)]
            · intro i hi
              rw [gJ_sJ, if_neg (by omega)]
        · exact fun _ _ _ => ⟨rfl, rfl⟩
        · exact fun _ _ _ => rfl
      · refine tp_same (r := -13) h ?_ ?_
        · unfold f_X8_item
          rw [has_t ht, zb_s, if1, ho_t ht (a1 ▸ s_ne hs), zb_s, if1, hi_f ht hn a3 (gd_1 ho2 hn), zb_s, if0]
        · unfold f_X9_item
          rw [tp_t ht, zb_s, if1, inB_n ht (by decide), zck_t, nI_cl (by omega), a2, if_pos (nI_pos' (by omega)), zck_t, a4, la_f hn ho2, zb_s, if0]
  · refine tp_same (r := -1) h ?_ ?_
    · unfold f_X8_item
      rw [has_f ho, zb_s, if0]
    · unfold f_X9_item
      rw [tp_f ho, zb_s, if0]
/-- a read changes nothing and answers the same -/
theorem read_sim {uX w : zM} (h : RTp uX w) (p1 p2 : Int32) : ∃ r, f_X8_read p1 p2 uX = some (r, uX) ∧ f_X9_read p1 p2 w = some (r, w) := by
  rcases nI_in_or (n := 6) (by decide) p1 with ⟨t, ht, rfl⟩ | ho
  · rcases h t ht with ⟨a1, a2, a3, a4⟩ | ⟨s, n, hs, hn, a1, a2, a3, a4, a5⟩
    · refine ⟨-9223372036854775808, ?_, ?_⟩
      · unfold f_X8_read
        rw [has_t ht, zb_s, if1, ho_f ht a1, zb_s, if0]
      · unfold f_X9_read
        rw [tp_t ht, zb_s, if1, inB_n ht (by decide), zck_t, nI_cl (by omega), a2, if_pos (by decide)]
    · rcases nI_in_or (n := n) (by omega) p2 with ⟨j, hj, rfl⟩ | ho2
      · refine ⟨gJ w 47 (60 * t + j), ?_, ?_⟩
        · unfold f_X8_read
          rw [has_t ht, zb_s, if1, ho_t ht (a1 ▸ s_ne hs), zb_s, if1, show f_X5_hasItems (nI t) (nI j) 1 uX = some (1, uX) from hi_t (k := 1) ht hn a3 (by omega), zb_s, if1, inB_n ht (by decide), zck_t, inB_n (show j < 60 by omega) (by decide), zck_t, nI_cl (by omega), nI_cl (by omega), ← a5 j hj]
          exact congrArg (fun q => some (gJ uX (72 + q) j, uX)) (Nat.one_mul t)
        · unfold f_X9_read
          rw [tp_t ht, zb_s, if1, inB_n ht (by decide), zck_t, nI_cl (by omega), a2, if_neg (nI_pos (by omega)), zck_t, a4, la_t hn hj, zb_s, if1, mul60 ht (by omega), inB_n (idx60 ht (by omega)) (by decide), zck_t, nI_cl (by omega)]
      · refine ⟨-9223372036854775808, ?_, ?_⟩
        · unfold f_X8_read
          rw [has_t ht, zb_s, if1, ho_t ht (a1 ▸ s_ne hs), zb_s, if1, hi_f ht hn a3 (gd_1 ho2 hn), zb_s, if0]
        · unfold f_X9_read
          rw [tp_t ht, zb_s, if1, inB_n ht (by decide), zck_t, nI_cl (by omega), a2, if_neg (nI_pos (by omega)), zck_t, a4, la_f hn ho2, zb_s, if0]
  · refine ⟨-9223372036854775808, ?_, ?_⟩
    · unfold f_X8_read
      rw [has_f ho, zb_s, if0]
    · unfold f_X9_read
      rw [tp_f ho, zb_s, if0]
