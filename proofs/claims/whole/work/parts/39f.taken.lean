/-! ===== PURE: the taken's door ===== -/
theorem taken_tab {K q : Nat} (hK : K < 7) (hq : q < 7) (p1 : Int32) (u w : zM) : ∃ r : Int32, (zb (f_X8_isOrIsUnder (nI K) (nI q) u) fun y6 u7 => if y6 = (0 : Int32) then some ((-12 : Int32), u7) else some (nI K, u7)) = some (r, u) ∧ (if nI q = (0 : Int32) then some (nI K, w) else (if nI K = nI q then some (nI K, w) else (if nI q = (1 : Int32) then (if nI K = (4 : Int32) then some (nI K, w) else f_X9_taken_L51 p1 (nI q) (nI K) w) else f_X9_taken_L51 p1 (nI q) (nI K) w))) = some (r, w) := by
  have h1 : K = 0 ∨ K = 1 ∨ K = 2 ∨ K = 3 ∨ K = 4 ∨ K = 5 ∨ K = 6 := by omega
  have h2 : q = 0 ∨ q = 1 ∨ q = 2 ∨ q = 3 ∨ q = 4 ∨ q = 5 ∨ q = 6 := by omega
  rcases h1 with rfl | rfl | rfl | rfl | rfl | rfl | rfl <;> rcases h2 with rfl | rfl | rfl | rfl | rfl | rfl | rfl <;> exact ⟨_, rfl, rfl⟩
theorem un_t {K q : Nat} (hK : K < 7) (hq : q < 7) (u : zM) : ∃ y : Int32, f_X8_isOrIsUnder (nI K) (nI q) u = some (y, u) := by
  have h1 : K = 0 ∨ K = 1 ∨ K = 2 ∨ K = 3 ∨ K = 4 ∨ K = 5 ∨ K = 6 := by omega
  have h2 : q = 0 ∨ q = 1 ∨ q = 2 ∨ q = 3 ∨ q = 4 ∨ q = 5 ∨ q = 6 := by omega
  rcases h1 with rfl | rfl | rfl | rfl | rfl | rfl | rfl <;> rcases h2 with rfl | rfl | rfl | rfl | rfl | rfl | rfl <;> exact ⟨_, rfl⟩
theorem taken_sim {uX w : zM} (h : RPpl uX w) (p1 p2 : Int32) : ∃ r, f_X8_taken p1 p2 uX = some (r, uX) ∧ f_X9_taken p1 p2 w = some (r, w) := by
  obtain ⟨n, hn, e1, e2, hp⟩ := id h
  unfold f_X8_taken f_X9_taken
  rcases nI_in_or (n := 7) (by decide) p2 with ⟨q, hq, rfl⟩ | ho2
  · rw [show f_X8_isWithin (nI q) 0 6 uX = some (1, uX) from wi_t (a := 0) (b := 6) (by omega) (by decide) _, show f_X9_in (nI q) 0 6 w = some (1, w) from in_t (a := 0) (b := 6) (by omega) (by decide) _, zb_s, zb_s, if1, if1]
    rcases nI_in_or (n := n) (by omega) p1 with ⟨i, hi, rfl⟩ | ho
    · rw [has1_t e1 hn hi, is1_t e2 hn hi, zb_s, zb_s, if1, if1]
      obtain ⟨⟨K, q1, q2, q3⟩, _⟩ := hp i hi
      obtain ⟨r, t1, t2⟩ := taken_tab q1 hq (nI i) uX w
      obtain ⟨y, ey⟩ := un_t q1 hq uX
      refine ⟨r, ?_, ?_⟩
      · rw [inB_n (show i < 6 by omega) (by decide), zck_t, nI_cl (n := i) (by omega), q2, ey, zb_s, zck_t, q2]
        rw [ey, zb_s] at t1
        exact t1
      · rw [inB_n (show i < 6 by omega) (by decide), zck_t, zlx_s, nI_cl (n := i) (by omega), q3]
        exact t2
    · rw [has1_f e1 ho, is1_f e2 hn ho]
      exact ⟨-11, rfl, rfl⟩
  · rw [show f_X8_isWithin p2 0 6 uX = some (0, uX) from wi_f (n := 6) (by decide) ho2 _, show f_X9_in p2 0 6 w = some (0, w) from in_f (n := 6) (by decide) ho2 _]
    exact ⟨-2, rfl, rfl⟩
