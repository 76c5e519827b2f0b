/-! ===== PURE: the anvil's door ===== -/
def RAnv (uX w : zM) : Prop := (gI uX 2 10 = -1 ∧ gI w 0 3 = -5) ∨ ∃ i m : Nat, i < m ∧ m ≤ 4 ∧ gI uX 2 6 = nI m ∧ gI uX 2 10 = nI i ∧ gI w 0 3 = nI i
theorem anv_old {uX w : zM} (h : RAnv uX w) : f_X8_orLacks (gI uX 2 10) uX = some (gI w 0 3, uX) := by
  unfold f_X8_orLacks
  rcases h with ⟨a, b⟩ | ⟨i, m, hi, hm, h6, a, b⟩
  · rw [a, b, if_neg (show ¬ (0 : Int32) ≤ -1 by decide)]
  · rw [a, b, if_pos (nI_pos' (by omega))]
theorem hw_t {u : zM} {m i : Nat} (h : gI u 2 6 = nI m) (hm : m ≤ 4) (hi : i < m) : f_X6_hasWork 2 (nI i) u = some (1, u) := by
  unfold f_X6_hasWork
  rw [if_neg (nI_pos (by omega)), h, if_neg (nI_ge hi (by omega))]
theorem hw_f {u : zM} {m : Nat} {p : Int32} (h : gI u 2 6 = nI m) (hp : p < 0 ∨ nI m ≤ p) : f_X6_hasWork 2 p u = some (0, u) := by
  unfold f_X6_hasWork
  by_cases h0 : p < 0
  · rw [if_pos h0]
  · rw [if_neg h0, h, if_pos (hp.elim (fun q => absurd q h0) id)]
theorem iw_t {u : zM} {m i : Nat} (h : gI u 0 2 = nI m) (hm : m ≤ 4) (hi : i < m) : f_X9_isWork (nI i) u = some (1, u) := by
  unfold f_X9_isWork
  rw [h, la_t (by omega) hi]
  rfl
theorem iw_f {u : zM} {m : Nat} {p : Int32} (h : gI u 0 2 = nI m) (hm : m ≤ 4) (hp : p < 0 ∨ nI m ≤ p) : f_X9_isWork p u = some (0, u) := by
  unfold f_X9_isWork
  rw [h, la_f (by omega) hp]
  rfl
theorem anvil_sim {uX w : zM} (h : RAnv uX w) (hW : RWks uX w) (p1 : Int32) : ∃ r uX' w', f_X8_anvil p1 uX = some (r, uX') ∧ f_X9_anvil p1 w = some (r, w') ∧ RAnv uX' w' ∧ ((uX' = uX ∧ w' = w) ∨ ∃ x y, uX' = sI uX 2 10 x ∧ w' = sI w 0 3 y) := by
  obtain ⟨m, hm, e1, e2, _⟩ := hW
  unfold f_X8_anvil f_X9_anvil
  by_cases h1 : p1 = -1
  · subst h1
    rw [if_pos rfl, if_pos rfl]
    unfold f_X8_anvil_L18 f_X9_anvil_L15
    rw [anv_old h, zb_s, zlet_s, zlx_s, if_neg (show ¬ (0 : Int32) ≤ -1 by decide), zlet_s]
    exact ⟨_, _, _, rfl, rfl, Or.inl ⟨by rw [gI_sI, if_pos ⟨rfl, rfl⟩], by rw [gI_sI, if_pos ⟨rfl, rfl⟩]⟩, Or.inr ⟨_, _, rfl, rfl⟩⟩
  · rw [if_neg h1, if_neg h1]
    rcases nI_in_or (n := m) (by omega) p1 with ⟨i, hi, rfl⟩ | ho
    · rw [hw_t e1 hm hi, iw_t e2 hm hi, zb_s, zb_s, if1, if1]
      unfold f_X8_anvil_L18 f_X9_anvil_L15
      rw [anv_old h, zb_s, zlet_s, zlx_s, if_pos (nI_pos' (n := i) (by omega)), zlet_s]
      refine ⟨_, _, _, rfl, rfl, Or.inr ⟨i, m, hi, hm, ?_, ?_, ?_⟩, Or.inr ⟨_, _, rfl, rfl⟩⟩
      · rw [gI_sI, if_neg (by omega)]
        exact e1
      · rw [gI_sI, if_pos ⟨rfl, rfl⟩]
      · rw [gI_sI, if_pos ⟨rfl, rfl⟩]
    · rw [hw_f e1 ho, iw_f e2 hm ho]
      exact ⟨-1, uX, w, rfl, rfl, h, Or.inl ⟨rfl, rfl⟩⟩
theorem init_anv : RAnv uX0 uM0 := Or.inl ⟨by decide +kernel, by decide +kernel⟩
