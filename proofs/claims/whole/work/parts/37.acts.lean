/-! ===== PURE: the acts' record (cells 66, 67; 0 slot 72, 44) ===== -/
def RActN (n : Nat) (uX w : zM) : Prop := gI uX 66 0 = nI n ∧ gI w 0 72 = nI n ∧ ∀ i, i < n → i < 20 → gI uX 67 i = gI w 44 i
def RAct (uX w : zM) : Prop := ∃ n : Nat, n ≤ 1000 ∧ RActN n uX w
def acX (u u' : zM) : Prop := (∀ a k, ¬ (a = 66 ∧ k = 0) → a ≠ 67 → gI u' a k = gI u a k) ∧ (∀ a k, gJ u' a k = gJ u a k) ∧ ∀ a k, gO u' a k = gO u a k
def acM (u u' : zM) : Prop := (∀ a k, ¬ (a = 0 ∧ k = 72) → a ≠ 44 → gI u' a k = gI u a k) ∧ (∀ a k, gJ u' a k = gJ u a k) ∧ ∀ a k, gO u' a k = gO u a k
theorem acX_rf (u : zM) : acX u u := ⟨fun _ _ _ _ => rfl, fun _ _ => rfl, fun _ _ => rfl⟩
theorem acM_rf (u : zM) : acM u u := ⟨fun _ _ _ _ => rfl, fun _ _ => rfl, fun _ _ => rfl⟩
theorem acX_tr {u u' u2 : zM} (h : acX u u') (g : acX u' u2) : acX u u2 := ⟨fun a k p q => (g.1 a k p q).trans (h.1 a k p q), fun a k => (g.2.1 a k).trans (h.2.1 a k), fun a k => (g.2.2 a k).trans (h.2.2 a k)⟩
theorem acM_tr {u u' u2 : zM} (h : acM u u') (g : acM u' u2) : acM u u2 := ⟨fun a k p q => (g.1 a k p q).trans (h.1 a k p q), fun a k => (g.2.1 a k).trans (h.2.1 a k), fun a k => (g.2.2 a k).trans (h.2.2 a k)⟩
theorem note_sim {n : Nat} {uX w : zM} (hn : n < 1000) (h : RActN n uX w) (b : Int32) : ∃ uX' w', f_X0_note b uX = some ((), uX') ∧ f_X9_body b w = some ((), w') ∧ RActN (n + 1) uX' w' ∧ acX uX uX' ∧ acM w w' := by
  obtain ⟨h1, h2, h3⟩ := h
  by_cases h20 : 20 ≤ n
  · have hc : (20 : Int32) ≤ nI n := nI_le (a := 20) (by omega) (by omega)
    refine ⟨sI uX 66 0 (nI n + 1), sI w 0 72 (nI n + 1), ?_, ?_, ⟨?_, ?_, ?_⟩, ⟨?_, fun _ _ => rfl, fun _ _ => rfl⟩, ⟨?_, fun _ _ => rfl, fun _ _ => rfl⟩⟩
    · unfold f_X0_note
      rw [h1, if_pos hc, zlet_s]
    · unfold f_X9_body
      rw [h2, if_pos hc, zlet_s]
    · rw [gI_sI, if_pos ⟨rfl, rfl⟩, nI_a1]
    · rw [gI_sI, if_pos ⟨rfl, rfl⟩, nI_a1]
    · intro i hi hi2
      rw [gI_sI, if_neg (by omega), gI_sI, if_neg (by omega)]
      exact h3 i (by omega) hi2
    · intro a k p q
      rw [gI_sI, if_neg (by omega)]
    · intro a k p q
      rw [gI_sI, if_neg (by omega)]
  · have hc : ¬ (20 : Int32) ≤ nI n := nI_ge (b := 20) (by omega) (by decide)
    refine ⟨sI (sI uX 67 n b) 66 0 (nI n + 1), sI (sI w 44 n b) 0 72 (nI n + 1), ?_, ?_, ⟨?_, ?_, ?_⟩, ⟨?_, fun _ _ => rfl, fun _ _ => rfl⟩, ⟨?_, fun _ _ => rfl, fun _ _ => rfl⟩⟩
    · unfold f_X0_note
      rw [h1, if_neg hc, inB_n (show n < 20 by omega) (by decide), zck_t, zlet_s, nI_cl (by omega), zlet_s, gI_sI, if_neg (by omega), h1]
    · unfold f_X9_body
      rw [h2, if_neg hc, inB_n (show n < 20 by omega) (by decide), zck_t, zlet_s, nI_cl (by omega), zlet_s, gI_sI, if_neg (by omega), h2]
    · rw [gI_sI, if_pos ⟨rfl, rfl⟩, nI_a1]
    · rw [gI_sI, if_pos ⟨rfl, rfl⟩, nI_a1]
    · intro i hi hi2
      by_cases hin : i = n
      · rw [gI_sI, if_neg (by omega), gI_sI, if_pos ⟨rfl, hin⟩, gI_sI, if_neg (by omega), gI_sI, if_pos ⟨rfl, hin⟩]
      · rw [gI_sI, if_neg (by omega), gI_sI, if_neg (by omega), gI_sI, if_neg (by omega), gI_sI, if_neg (by omega)]
        exact h3 i (by omega) hi2
    · intro a k p q
      rw [gI_sI, if_neg (by omega), gI_sI, if_neg (by omega)]
    · intro a k p q
      rw [gI_sI, if_neg (by omega), gI_sI, if_neg (by omega)]
/-- a trace changes nothing and answers the same -/
theorem trace_sim {uX w : zM} (h : RAct uX w) (p1 : Int32) : ∃ r, f_X8_trace p1 uX = some (r, uX) ∧ f_X9_trace p1 w = some (r, w) := by
  obtain ⟨n, hn, h1, h2, h3⟩ := h
  rcases nI_in_or (n := 20) (by decide) p1 with ⟨i, hi, rfl⟩ | ho
  · have hin : f_X9_in (nI i) 0 19 w = some (1, w) := in_t (a := 0) (b := 19) (by omega) (by decide) w
    by_cases hq : i < n
    · refine ⟨gI w 44 i, ?_, ?_⟩
      · unfold f_X8_trace
        rw [if_neg (nI_pos (by omega)), h1, if_neg (nI_ge hq (by omega)), if_neg (show ¬ (20 : Int32) ≤ nI i from nI_ge hi (by decide)), inB_n hi (by decide), zck_t, nI_cl (by omega), h3 i hq hi]
      · unfold f_X9_trace
        rw [hin, zb_s, if1, h2, if_neg (nI_ge hq (by omega)), inB_n hi (by decide), zck_t, nI_cl (by omega)]
    · refine ⟨-1, ?_, ?_⟩
      · unfold f_X8_trace
        rw [if_neg (nI_pos (by omega)), h1, if_pos (nI_le (by omega) (by omega))]
      · unfold f_X9_trace
        rw [hin, zb_s, if1, h2, if_pos (nI_le (by omega) (by omega))]
  · have hin : f_X9_in p1 0 19 w = some (0, w) := in_f (n := 19) (by decide) ho w
    refine ⟨-1, ?_, ?_⟩
    · unfold f_X8_trace
      rcases ho with ho | ho
      · rw [if_pos ho]
      · by_cases h0 : p1 < 0
        · rw [if_pos h0]
        · rw [if_neg h0]
          by_cases hq : gI uX 66 0 ≤ p1
          · rw [if_pos hq]
          · rw [if_neg hq, if_pos (show (20 : Int32) ≤ p1 from ho)]
    · unfold f_X9_trace
      rw [hin, zb_s, if0]
theorem init_ac : RAct uX0 uM0 := ⟨0, by omega, by decide +kernel, by decide +kernel, fun i hi => absurd hi (Nat.not_lt_zero i)⟩
