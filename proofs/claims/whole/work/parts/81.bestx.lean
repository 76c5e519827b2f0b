/-! ===== PURE: the best row, the class's side ===== -/
def fo (V : List Nat → Nat) (m : Nat) : Nat → Nat × List Nat
  | 0 => (0, [])
  | k + 1 => fA V (fo V m k) ((prm m).getD k [])
theorem fo_skip {V : List Nat → Nat} {m x : Nat} : ∀ j, (∀ y, y < j + 1 → V ((prm m).getD (x + y) []) = V ((prm m).getD x [])) → fo V m (x + j + 1) = fA V (fo V m x) ((prm m).getD x []) := by
  intro j
  induction j with
  | zero => exact fun _ => rfl
  | succ j ih =>
    intro h
    show fA V (fo V m (x + (j + 1))) ((prm m).getD (x + (j + 1)) []) = _
    rw [show x + (j + 1) = x + j + 1 by omega, ih (fun y hy => h y (by omega))]
    have e := h (j + 1) (by omega)
    rw [show x + (j + 1) = x + j + 1 by omega] at e
    unfold fA
    rw [e]
    by_cases c : (fo V m x).1 < V ((prm m).getD x []) + 1
    · rw [if_pos c, if_neg (show ¬ V ((prm m).getD x []) + 1 < V ((prm m).getD x []) + 1 by omega)]
    · rw [if_neg c, if_neg c]
theorem fo_full {V : List Nat → Nat} {m x : Nat} (hx : m + 1 ≤ (fo V m x).1) : ∀ j, (∀ y, y < x + j → V ((prm m).getD y []) ≤ m) → fo V m (x + j) = fo V m x := by
  intro j
  induction j with
  | zero => exact fun _ => rfl
  | succ j ih =>
    intro h
    show fA V (fo V m (x + j)) ((prm m).getD (x + j) []) = _
    rw [ih (fun y hy => h y (by omega))]
    unfold fA
    rw [if_neg (by have := h (x + j) (by omega); omega)]
def p62 (a _k : Nat) : Prop := a = 62
set_option maxRecDepth 20000 in
theorem setR_0_0 (u : zM) : f_X1_setRow (nI 0) (nI 0) u = some ((), u) := rfl
set_option maxRecDepth 20000 in
theorem setR_1_0 (u : zM) : f_X1_setRow (nI 1) (nI 0) u = some ((), (sI u 62 0 (nI 0))) := rfl
set_option maxRecDepth 20000 in
theorem setR_2_0 (u : zM) : f_X1_setRow (nI 2) (nI 0) u = some ((), (sI (sI u 62 0 (nI 0)) 62 1 (nI 1))) := rfl
set_option maxRecDepth 20000 in
theorem setR_2_1 (u : zM) : f_X1_setRow (nI 2) (nI 1) u = some ((), (sI (sI u 62 0 (nI 1)) 62 1 (nI 0))) := rfl
set_option maxRecDepth 20000 in
theorem setR_3_0 (u : zM) : f_X1_setRow (nI 3) (nI 0) u = some ((), (sI (sI (sI u 62 0 (nI 0)) 62 1 (nI 1)) 62 2 (nI 2))) := rfl
set_option maxRecDepth 20000 in
theorem setR_3_1 (u : zM) : f_X1_setRow (nI 3) (nI 1) u = some ((), (sI (sI (sI u 62 0 (nI 0)) 62 1 (nI 2)) 62 2 (nI 1))) := rfl
set_option maxRecDepth 20000 in
theorem setR_3_2 (u : zM) : f_X1_setRow (nI 3) (nI 2) u = some ((), (sI (sI (sI u 62 0 (nI 1)) 62 1 (nI 0)) 62 2 (nI 2))) := rfl
set_option maxRecDepth 20000 in
theorem setR_3_3 (u : zM) : f_X1_setRow (nI 3) (nI 3) u = some ((), (sI (sI (sI u 62 0 (nI 1)) 62 1 (nI 2)) 62 2 (nI 0))) := rfl
set_option maxRecDepth 20000 in
theorem setR_3_4 (u : zM) : f_X1_setRow (nI 3) (nI 4) u = some ((), (sI (sI (sI u 62 0 (nI 2)) 62 1 (nI 0)) 62 2 (nI 1))) := rfl
set_option maxRecDepth 20000 in
theorem setR_3_5 (u : zM) : f_X1_setRow (nI 3) (nI 5) u = some ((), (sI (sI (sI u 62 0 (nI 2)) 62 1 (nI 1)) 62 2 (nI 0))) := rfl
set_option maxRecDepth 20000 in
theorem setR_4_0 (u : zM) : f_X1_setRow (nI 4) (nI 0) u = some ((), (sI (sI (sI (sI u 62 0 (nI 0)) 62 1 (nI 1)) 62 2 (nI 2)) 62 3 (nI 3))) := rfl
set_option maxRecDepth 20000 in
theorem setR_4_1 (u : zM) : f_X1_setRow (nI 4) (nI 1) u = some ((), (sI (sI (sI (sI u 62 0 (nI 0)) 62 1 (nI 1)) 62 2 (nI 3)) 62 3 (nI 2))) := rfl
set_option maxRecDepth 20000 in
theorem setR_4_2 (u : zM) : f_X1_setRow (nI 4) (nI 2) u = some ((), (sI (sI (sI (sI u 62 0 (nI 0)) 62 1 (nI 2)) 62 2 (nI 1)) 62 3 (nI 3))) := rfl
set_option maxRecDepth 20000 in
theorem setR_4_3 (u : zM) : f_X1_setRow (nI 4) (nI 3) u = some ((), (sI (sI (sI (sI u 62 0 (nI 0)) 62 1 (nI 2)) 62 2 (nI 3)) 62 3 (nI 1))) := rfl
set_option maxRecDepth 20000 in
theorem setR_4_4 (u : zM) : f_X1_setRow (nI 4) (nI 4) u = some ((), (sI (sI (sI (sI u 62 0 (nI 0)) 62 1 (nI 3)) 62 2 (nI 1)) 62 3 (nI 2))) := rfl
set_option maxRecDepth 20000 in
theorem setR_4_5 (u : zM) : f_X1_setRow (nI 4) (nI 5) u = some ((), (sI (sI (sI (sI u 62 0 (nI 0)) 62 1 (nI 3)) 62 2 (nI 2)) 62 3 (nI 1))) := rfl
set_option maxRecDepth 20000 in
theorem setR_4_6 (u : zM) : f_X1_setRow (nI 4) (nI 6) u = some ((), (sI (sI (sI (sI u 62 0 (nI 1)) 62 1 (nI 0)) 62 2 (nI 2)) 62 3 (nI 3))) := rfl
set_option maxRecDepth 20000 in
theorem setR_4_7 (u : zM) : f_X1_setRow (nI 4) (nI 7) u = some ((), (sI (sI (sI (sI u 62 0 (nI 1)) 62 1 (nI 0)) 62 2 (nI 3)) 62 3 (nI 2))) := rfl
set_option maxRecDepth 20000 in
theorem setR_4_8 (u : zM) : f_X1_setRow (nI 4) (nI 8) u = some ((), (sI (sI (sI (sI u 62 0 (nI 1)) 62 1 (nI 2)) 62 2 (nI 0)) 62 3 (nI 3))) := rfl
set_option maxRecDepth 20000 in
theorem setR_4_9 (u : zM) : f_X1_setRow (nI 4) (nI 9) u = some ((), (sI (sI (sI (sI u 62 0 (nI 1)) 62 1 (nI 2)) 62 2 (nI 3)) 62 3 (nI 0))) := rfl
set_option maxRecDepth 20000 in
theorem setR_4_10 (u : zM) : f_X1_setRow (nI 4) (nI 10) u = some ((), (sI (sI (sI (sI u 62 0 (nI 1)) 62 1 (nI 3)) 62 2 (nI 0)) 62 3 (nI 2))) := rfl
set_option maxRecDepth 20000 in
theorem setR_4_11 (u : zM) : f_X1_setRow (nI 4) (nI 11) u = some ((), (sI (sI (sI (sI u 62 0 (nI 1)) 62 1 (nI 3)) 62 2 (nI 2)) 62 3 (nI 0))) := rfl
set_option maxRecDepth 20000 in
theorem setR_4_12 (u : zM) : f_X1_setRow (nI 4) (nI 12) u = some ((), (sI (sI (sI (sI u 62 0 (nI 2)) 62 1 (nI 0)) 62 2 (nI 1)) 62 3 (nI 3))) := rfl
set_option maxRecDepth 20000 in
theorem setR_4_13 (u : zM) : f_X1_setRow (nI 4) (nI 13) u = some ((), (sI (sI (sI (sI u 62 0 (nI 2)) 62 1 (nI 0)) 62 2 (nI 3)) 62 3 (nI 1))) := rfl
set_option maxRecDepth 20000 in
theorem setR_4_14 (u : zM) : f_X1_setRow (nI 4) (nI 14) u = some ((), (sI (sI (sI (sI u 62 0 (nI 2)) 62 1 (nI 1)) 62 2 (nI 0)) 62 3 (nI 3))) := rfl
set_option maxRecDepth 20000 in
theorem setR_4_15 (u : zM) : f_X1_setRow (nI 4) (nI 15) u = some ((), (sI (sI (sI (sI u 62 0 (nI 2)) 62 1 (nI 1)) 62 2 (nI 3)) 62 3 (nI 0))) := rfl
set_option maxRecDepth 20000 in
theorem setR_4_16 (u : zM) : f_X1_setRow (nI 4) (nI 16) u = some ((), (sI (sI (sI (sI u 62 0 (nI 2)) 62 1 (nI 3)) 62 2 (nI 0)) 62 3 (nI 1))) := rfl
set_option maxRecDepth 20000 in
theorem setR_4_17 (u : zM) : f_X1_setRow (nI 4) (nI 17) u = some ((), (sI (sI (sI (sI u 62 0 (nI 2)) 62 1 (nI 3)) 62 2 (nI 1)) 62 3 (nI 0))) := rfl
set_option maxRecDepth 20000 in
theorem setR_4_18 (u : zM) : f_X1_setRow (nI 4) (nI 18) u = some ((), (sI (sI (sI (sI u 62 0 (nI 3)) 62 1 (nI 0)) 62 2 (nI 1)) 62 3 (nI 2))) := rfl
set_option maxRecDepth 20000 in
theorem setR_4_19 (u : zM) : f_X1_setRow (nI 4) (nI 19) u = some ((), (sI (sI (sI (sI u 62 0 (nI 3)) 62 1 (nI 0)) 62 2 (nI 2)) 62 3 (nI 1))) := rfl
set_option maxRecDepth 20000 in
theorem setR_4_20 (u : zM) : f_X1_setRow (nI 4) (nI 20) u = some ((), (sI (sI (sI (sI u 62 0 (nI 3)) 62 1 (nI 1)) 62 2 (nI 0)) 62 3 (nI 2))) := rfl
set_option maxRecDepth 20000 in
theorem setR_4_21 (u : zM) : f_X1_setRow (nI 4) (nI 21) u = some ((), (sI (sI (sI (sI u 62 0 (nI 3)) 62 1 (nI 1)) 62 2 (nI 2)) 62 3 (nI 0))) := rfl
set_option maxRecDepth 20000 in
theorem setR_4_22 (u : zM) : f_X1_setRow (nI 4) (nI 22) u = some ((), (sI (sI (sI (sI u 62 0 (nI 3)) 62 1 (nI 2)) 62 2 (nI 0)) 62 3 (nI 1))) := rfl
set_option maxRecDepth 20000 in
theorem setR_4_23 (u : zM) : f_X1_setRow (nI 4) (nI 23) u = some ((), (sI (sI (sI (sI u 62 0 (nI 3)) 62 1 (nI 2)) 62 2 (nI 1)) 62 3 (nI 0))) := rfl
theorem setR_0 (nb : Nat) (hb : nb < 1) (u : zM) : ∃ u', f_X1_setRow (nI 0) (nI nb) u = some ((), u') ∧ (∀ i, i < 0 → gI u' 62 i = nI (((prm 0).getD nb []).getD i 0)) ∧ frP p62 u u' := by
  obtain rfl : nb = 0 := by omega
  refine ⟨_, setR_0_0 u, fun i hi => ?_, frP_rf _ u⟩
  exact absurd hi (Nat.not_lt_zero _)
theorem setR_1 (nb : Nat) (hb : nb < 1) (u : zM) : ∃ u', f_X1_setRow (nI 1) (nI nb) u = some ((), u') ∧ (∀ i, i < 1 → gI u' 62 i = nI (((prm 1).getD nb []).getD i 0)) ∧ frP p62 u u' := by
  obtain rfl : nb = 0 := by omega
  refine ⟨_, setR_1_0 u, fun i hi => ?_, frP_s (frP_rf _ u) rfl⟩
  obtain rfl : i = 0 := by omega
  rfl
theorem setR_2 (nb : Nat) (hb : nb < 2) (u : zM) : ∃ u', f_X1_setRow (nI 2) (nI nb) u = some ((), u') ∧ (∀ i, i < 2 → gI u' 62 i = nI (((prm 2).getD nb []).getD i 0)) ∧ frP p62 u u' := by
  have hc : nb = 0 ∨ nb = 1 := by omega
  rcases hc with rfl | rfl
  · refine ⟨_, setR_2_0 u, fun i hi => ?_, frP_s (frP_s (frP_rf _ u) rfl) rfl⟩
    have h : i = 0 ∨ i = 1 := by omega
    rcases h with rfl | rfl <;> rfl
  · refine ⟨_, setR_2_1 u, fun i hi => ?_, frP_s (frP_s (frP_rf _ u) rfl) rfl⟩
    have h : i = 0 ∨ i = 1 := by omega
    rcases h with rfl | rfl <;> rfl
theorem setR_3 (nb : Nat) (hb : nb < 6) (u : zM) : ∃ u', f_X1_setRow (nI 3) (nI nb) u = some ((), u') ∧ (∀ i, i < 3 → gI u' 62 i = nI (((prm 3).getD nb []).getD i 0)) ∧ frP p62 u u' := by
  have hc : nb = 0 ∨ nb = 1 ∨ nb = 2 ∨ nb = 3 ∨ nb = 4 ∨ nb = 5 := by omega
  rcases hc with rfl | rfl | rfl | rfl | rfl | rfl
  · refine ⟨_, setR_3_0 u, fun i hi => ?_, frP_s (frP_s (frP_s (frP_rf _ u) rfl) rfl) rfl⟩
    have h : i = 0 ∨ i = 1 ∨ i = 2 := by omega
    rcases h with rfl | rfl | rfl <;> rfl
  · refine ⟨_, setR_3_1 u, fun i hi => ?_, frP_s (frP_s (frP_s (frP_rf _ u) rfl) rfl) rfl⟩
    have h : i = 0 ∨ i = 1 ∨ i = 2 := by omega
    rcases h with rfl | rfl | rfl <;> rfl
  · refine ⟨_, setR_3_2 u, fun i hi => ?_, frP_s (frP_s (frP_s (frP_rf _ u) rfl) rfl) rfl⟩
    have h : i = 0 ∨ i = 1 ∨ i = 2 := by omega
    rcases h with rfl | rfl | rfl <;> rfl
  · refine ⟨_, setR_3_3 u, fun i hi => ?_, frP_s (frP_s (frP_s (frP_rf _ u) rfl) rfl) rfl⟩
    have h : i = 0 ∨ i = 1 ∨ i = 2 := by omega
    rcases h with rfl | rfl | rfl <;> rfl
  · refine ⟨_, setR_3_4 u, fun i hi => ?_, frP_s (frP_s (frP_s (frP_rf _ u) rfl) rfl) rfl⟩
    have h : i = 0 ∨ i = 1 ∨ i = 2 := by omega
    rcases h with rfl | rfl | rfl <;> rfl
  · refine ⟨_, setR_3_5 u, fun i hi => ?_, frP_s (frP_s (frP_s (frP_rf _ u) rfl) rfl) rfl⟩
    have h : i = 0 ∨ i = 1 ∨ i = 2 := by omega
    rcases h with rfl | rfl | rfl <;> rfl
theorem setR_4 (nb : Nat) (hb : nb < 24) (u : zM) : ∃ u', f_X1_setRow (nI 4) (nI nb) u = some ((), u') ∧ (∀ i, i < 4 → gI u' 62 i = nI (((prm 4).getD nb []).getD i 0)) ∧ frP p62 u u' := by
  have hc : nb = 0 ∨ nb = 1 ∨ nb = 2 ∨ nb = 3 ∨ nb = 4 ∨ nb = 5 ∨ nb = 6 ∨ nb = 7 ∨ nb = 8 ∨ nb = 9 ∨ nb = 10 ∨ nb = 11 ∨ nb = 12 ∨ nb = 13 ∨ nb = 14 ∨ nb = 15 ∨ nb = 16 ∨ nb = 17 ∨ nb = 18 ∨ nb = 19 ∨ nb = 20 ∨ nb = 21 ∨ nb = 22 ∨ nb = 23 := by omega
  rcases hc with rfl | rfl | rfl | rfl | rfl | rfl | rfl | rfl | rfl | rfl | rfl | rfl | rfl | rfl | rfl | rfl | rfl | rfl | rfl | rfl | rfl | rfl | rfl | rfl
  · refine ⟨_, setR_4_0 u, fun i hi => ?_, frP_s (frP_s (frP_s (frP_s (frP_rf _ u) rfl) rfl) rfl) rfl⟩
    have h : i = 0 ∨ i = 1 ∨ i = 2 ∨ i = 3 := by omega
    rcases h with rfl | rfl | rfl | rfl <;> rfl
  · refine ⟨_, setR_4_1 u, fun i hi => ?_, frP_s (frP_s (frP_s (frP_s (frP_rf _ u) rfl) rfl) rfl) rfl⟩
    have h : i = 0 ∨ i = 1 ∨ i = 2 ∨ i = 3 := by omega
    rcases h with rfl | rfl | rfl | rfl <;> rfl
  · refine ⟨_, setR_4_2 u, fun i hi => ?_, frP_s (frP_s (frP_s (frP_s (frP_rf _ u) rfl) rfl) rfl) rfl⟩
    have h : i = 0 ∨ i = 1 ∨ i = 2 ∨ i = 3 := by omega
    rcases h with rfl | rfl | rfl | rfl <;> rfl
  · refine ⟨_, setR_4_3 u, fun i hi => ?_, frP_s (frP_s (frP_s (frP_s (frP_rf _ u) rfl) rfl) rfl) rfl⟩
    have h : i = 0 ∨ i = 1 ∨ i = 2 ∨ i = 3 := by omega
    rcases h with rfl | rfl | rfl | rfl <;> rfl
  · refine ⟨_, setR_4_4 u, fun i hi => ?_, frP_s (frP_s (frP_s (frP_s (frP_rf _ u) rfl) rfl) rfl) rfl⟩
    have h : i = 0 ∨ i = 1 ∨ i = 2 ∨ i = 3 := by omega
    rcases h with rfl | rfl | rfl | rfl <;> rfl
  · refine ⟨_, setR_4_5 u, fun i hi => ?_, frP_s (frP_s (frP_s (frP_s (frP_rf _ u) rfl) rfl) rfl) rfl⟩
    have h : i = 0 ∨ i = 1 ∨ i = 2 ∨ i = 3 := by omega
    rcases h with rfl | rfl | rfl | rfl <;> rfl
  · refine ⟨_, setR_4_6 u, fun i hi => ?_, frP_s (frP_s (frP_s (frP_s (frP_rf _ u) rfl) rfl) rfl) rfl⟩
    have h : i = 0 ∨ i = 1 ∨ i = 2 ∨ i = 3 := by omega
    rcases h with rfl | rfl | rfl | rfl <;> rfl
  · refine ⟨_, setR_4_7 u, fun i hi => ?_, frP_s (frP_s (frP_s (frP_s (frP_rf _ u) rfl) rfl) rfl) rfl⟩
    have h : i = 0 ∨ i = 1 ∨ i = 2 ∨ i = 3 := by omega
    rcases h with rfl | rfl | rfl | rfl <;> rfl
  · refine ⟨_, setR_4_8 u, fun i hi => ?_, frP_s (frP_s (frP_s (frP_s (frP_rf _ u) rfl) rfl) rfl) rfl⟩
    have h : i = 0 ∨ i = 1 ∨ i = 2 ∨ i = 3 := by omega
    rcases h with rfl | rfl | rfl | rfl <;> rfl
  · refine ⟨_, setR_4_9 u, fun i hi => ?_, frP_s (frP_s (frP_s (frP_s (frP_rf _ u) rfl) rfl) rfl) rfl⟩
    have h : i = 0 ∨ i = 1 ∨ i = 2 ∨ i = 3 := by omega
    rcases h with rfl | rfl | rfl | rfl <;> rfl
  · refine ⟨_, setR_4_10 u, fun i hi => ?_, frP_s (frP_s (frP_s (frP_s (frP_rf _ u) rfl) rfl) rfl) rfl⟩
    have h : i = 0 ∨ i = 1 ∨ i = 2 ∨ i = 3 := by omega
    rcases h with rfl | rfl | rfl | rfl <;> rfl
  · refine ⟨_, setR_4_11 u, fun i hi => ?_, frP_s (frP_s (frP_s (frP_s (frP_rf _ u) rfl) rfl) rfl) rfl⟩
    have h : i = 0 ∨ i = 1 ∨ i = 2 ∨ i = 3 := by omega
    rcases h with rfl | rfl | rfl | rfl <;> rfl
  · refine ⟨_, setR_4_12 u, fun i hi => ?_, frP_s (frP_s (frP_s (frP_s (frP_rf _ u) rfl) rfl) rfl) rfl⟩
    have h : i = 0 ∨ i = 1 ∨ i = 2 ∨ i = 3 := by omega
    rcases h with rfl | rfl | rfl | rfl <;> rfl
  · refine ⟨_, setR_4_13 u, fun i hi => ?_, frP_s (frP_s (frP_s (frP_s (frP_rf _ u) rfl) rfl) rfl) rfl⟩
    have h : i = 0 ∨ i = 1 ∨ i = 2 ∨ i = 3 := by omega
    rcases h with rfl | rfl | rfl | rfl <;> rfl
  · refine ⟨_, setR_4_14 u, fun i hi => ?_, frP_s (frP_s (frP_s (frP_s (frP_rf _ u) rfl) rfl) rfl) rfl⟩
    have h : i = 0 ∨ i = 1 ∨ i = 2 ∨ i = 3 := by omega
    rcases h with rfl | rfl | rfl | rfl <;> rfl
  · refine ⟨_, setR_4_15 u, fun i hi => ?_, frP_s (frP_s (frP_s (frP_s (frP_rf _ u) rfl) rfl) rfl) rfl⟩
    have h : i = 0 ∨ i = 1 ∨ i = 2 ∨ i = 3 := by omega
    rcases h with rfl | rfl | rfl | rfl <;> rfl
  · refine ⟨_, setR_4_16 u, fun i hi => ?_, frP_s (frP_s (frP_s (frP_s (frP_rf _ u) rfl) rfl) rfl) rfl⟩
    have h : i = 0 ∨ i = 1 ∨ i = 2 ∨ i = 3 := by omega
    rcases h with rfl | rfl | rfl | rfl <;> rfl
  · refine ⟨_, setR_4_17 u, fun i hi => ?_, frP_s (frP_s (frP_s (frP_s (frP_rf _ u) rfl) rfl) rfl) rfl⟩
    have h : i = 0 ∨ i = 1 ∨ i = 2 ∨ i = 3 := by omega
    rcases h with rfl | rfl | rfl | rfl <;> rfl
  · refine ⟨_, setR_4_18 u, fun i hi => ?_, frP_s (frP_s (frP_s (frP_s (frP_rf _ u) rfl) rfl) rfl) rfl⟩
    have h : i = 0 ∨ i = 1 ∨ i = 2 ∨ i = 3 := by omega
    rcases h with rfl | rfl | rfl | rfl <;> rfl
  · refine ⟨_, setR_4_19 u, fun i hi => ?_, frP_s (frP_s (frP_s (frP_s (frP_rf _ u) rfl) rfl) rfl) rfl⟩
    have h : i = 0 ∨ i = 1 ∨ i = 2 ∨ i = 3 := by omega
    rcases h with rfl | rfl | rfl | rfl <;> rfl
  · refine ⟨_, setR_4_20 u, fun i hi => ?_, frP_s (frP_s (frP_s (frP_s (frP_rf _ u) rfl) rfl) rfl) rfl⟩
    have h : i = 0 ∨ i = 1 ∨ i = 2 ∨ i = 3 := by omega
    rcases h with rfl | rfl | rfl | rfl <;> rfl
  · refine ⟨_, setR_4_21 u, fun i hi => ?_, frP_s (frP_s (frP_s (frP_s (frP_rf _ u) rfl) rfl) rfl) rfl⟩
    have h : i = 0 ∨ i = 1 ∨ i = 2 ∨ i = 3 := by omega
    rcases h with rfl | rfl | rfl | rfl <;> rfl
  · refine ⟨_, setR_4_22 u, fun i hi => ?_, frP_s (frP_s (frP_s (frP_s (frP_rf _ u) rfl) rfl) rfl) rfl⟩
    have h : i = 0 ∨ i = 1 ∨ i = 2 ∨ i = 3 := by omega
    rcases h with rfl | rfl | rfl | rfl <;> rfl
  · refine ⟨_, setR_4_23 u, fun i hi => ?_, frP_s (frP_s (frP_s (frP_s (frP_rf _ u) rfl) rfl) rfl) rfl⟩
    have h : i = 0 ∨ i = 1 ∨ i = 2 ∨ i = 3 := by omega
    rcases h with rfl | rfl | rfl | rfl <;> rfl
theorem setR {m nb : Nat} (hm : m ≤ 4) (hb : nb < roF m) (u : zM) : ∃ u', f_X1_setRow (nI m) (nI nb) u = some ((), u') ∧ (∀ i, i < m → gI u' 62 i = nI (((prm m).getD nb []).getD i 0)) ∧ frP p62 u u' := by
  have h : m = 0 ∨ m = 1 ∨ m = 2 ∨ m = 3 ∨ m = 4 := by omega
  rcases h with rfl | rfl | rfl | rfl | rfl
  · exact setR_0 nb hb u
  · exact setR_1 nb hb u
  · exact setR_2 nb hb u
  · exact setR_3 nb hb u
  · exact setR_4 nb hb u
/-- the row as the class holds it -/
def RW (u : zM) (m : Nat) (r : List Nat) : Prop := ∀ i, i < m → gI u 62 i = nI (r.getD i 0)
theorem fuX {k m p1 : Nat} {T : zT} {r : List Nat} {u : zM} (h : VX 51 u T) (ho : OkT k T) (hm : T 0 1 = m) (hr : rowOk m r) (hR : RW u m r) : ∀ j p fn, m ≤ p + j → p ≤ m → j < fn → f_X1_firstUndone_L2 (nI p1) (nI m) fn (nI p) u = some (nI (fuL T r m j p), u) := by
  have hm4 := ho.2.1
  intro j
  induction j with
  | zero =>
    intro p fn hp hpm hf
    obtain ⟨fn, rfl⟩ : ∃ g, fn = g + 1 := ⟨fn - 1, by omega⟩
    show f_X1_firstUndone_L2_b _ _ _ _ _ = _
    unfold f_X1_firstUndone_L2_b fuL
    rw [if_pos (nI_le (by omega) (by omega))]
  | succ j ih =>
    intro p fn hp hpm hf
    obtain ⟨fn, rfl⟩ : ∃ g, fn = g + 1 := ⟨fn - 1, by omega⟩
    show f_X1_firstUndone_L2_b _ _ _ _ _ = _
    unfold f_X1_firstUndone_L2_b fuL
    by_cases c : p < m
    · have hx := hr.1 p c
      rw [if_pos c, if_neg (nI_ge c (by omega)), inB_n (show p < 4 by omega) (by decide), zck_t, nI_cl (by omega), hR p c, isDX h ho (by omega), zb_s]
      by_cases d : T 6 (r.getD p 0) ≤ T 8 (r.getD p 0)
      · rw [if_pos d, if_pos d, if_neg (by decide), nI_a1]
        exact ih (p + 1) fn (by omega) (by omega) (by omega)
      · rw [if_neg d, if_neg d, if_pos (show nI 0 = (0 : Int32) from rfl)]
    · rw [if_neg c, if_pos (nI_le (by omega) (by omega))]
def bfr (u u' : zM) : Prop := (∀ a i, ¬ (51 ≤ a ∧ a ≤ 61) → ¬ (a = 49 ∧ i = 5) → gI u' a i = gI u a i) ∧ (∀ a i, gJ u' a i = gJ u a i) ∧ ∀ a i, ¬ (51 ≤ a ∧ a ≤ 61) → gO u' a i = gO u a i
theorem bfr_rf (u : zM) : bfr u u := ⟨fun _ _ _ _ => rfl, fun _ _ => rfl, fun _ _ _ => rfl⟩
theorem bfr_tr {u v w : zM} (h : bfr u v) (g : bfr v w) : bfr u w := ⟨fun a k p q => (g.1 a k p q).trans (h.1 a k p q), fun a k => (g.2.1 a k).trans (h.2.1 a k), fun a k q => (g.2.2 a k q).trans (h.2.2 a k q)⟩
theorem bfr_x {u u' : zM} (h : xfr 51 u u') : bfr u u' := ⟨fun a k q _ => h.1 a k (by omega), h.2.1, fun a k q => h.2.2 a k (by omega)⟩
theorem bfr_s (u : zM) {a j : Nat} {x : Int32} (ha : (51 ≤ a ∧ a ≤ 61) ∨ (a = 49 ∧ j = 5)) : bfr u (sI u a j x) := ⟨fun b i _ q => by rw [gI_sI, if_neg (by omega)], fun _ _ => rfl, fun _ _ _ => rfl⟩
theorem RW_b {u u' : zM} {m : Nat} {r : List Nat} (h : RW u m r) (g : bfr u u') : RW u' m r := fun i hi => (g.1 62 i (by omega) (by omega)).trans (h i hi)
theorem SqX_b {k : Nat} {u u' : zM} {sqs : Nat → zQ} (h : SqX k u sqs) (g : bfr u u') : SqX k u' sqs := SqX_cg h (fun a i ha => g.1 _ _ (by omega) (by omega))
theorem cdX {k m n : Nat} {sqs : Nat → zQ} {r : List Nat} (hs : OkS k sqs) (hr : rowOk m r) (hn : n ≤ 40) : ∀ (j t fn : Nat) (T : zT) (p d : Nat) (u : zM), t + j = n + 1 → 0 < t → j < fn → d + j ≤ 100 → VX 51 u T → OkT k T → SqX k u sqs → T 0 3 + j ≤ 20000 → T 0 1 = m → RW u m r → p ≤ m → ∃ u', f_X1_countDoneInTime_L33 (nI m) (nI n) fn (nI d) (nI p) (nI t) u = some (nI (cdL sqs r m j t T p d).1, u') ∧ gI u' 49 5 = nI ((fun p => if m < p + 1 then m else p + 1) (cdL sqs r m j t T p d).2) ∧ bfr u u' := by
  have hend : ∀ (m p : Nat) (u : zM), m ≤ 4 → p ≤ m → (if nI m < nI p + (1 : Int32) then nI m else nI p + (1 : Int32)) = nI ((fun p => if m < p + 1 then m else p + 1) p) := by
    intro m p u h1 h2
    rw [nI_a1]
    dsimp only
    by_cases c : m < p + 1
    · rw [if_pos c, if_pos (nI_lt c (by omega))]
    · rw [if_neg c, if_neg (nI_nlt (by omega) (by omega))]
  intro j
  induction j with
  | zero =>
    intro t fn T p d u ht ht0 hf hd hV ho hq h3 hm hR hp
    obtain ⟨fn, rfl⟩ : ∃ g, fn = g + 1 := ⟨fn - 1, by omega⟩
    have hm4 := ho.2.1
    show ∃ u', f_X1_countDoneInTime_L33_b _ _ _ _ _ _ _ = _ ∧ _
    unfold f_X1_countDoneInTime_L33_b
    rw [if_pos (show nI n < nI t from nI_lt (by omega) (by omega)), hend m p u (by omega) hp, zlet_s]
    exact ⟨_, rfl, by rw [gI_sI, if_pos ⟨rfl, rfl⟩]; rfl, bfr_s u (Or.inr ⟨rfl, rfl⟩)⟩
  | succ j ih =>
    intro t fn T p d u ht ht0 hf hd hV ho hq h3 hm hR hp
    obtain ⟨fn, rfl⟩ : ∃ g, fn = g + 1 := ⟨fn - 1, by omega⟩
    have hm4 := ho.2.1
    show ∃ u', f_X1_countDoneInTime_L33_b _ _ _ _ _ _ _ = _ ∧ _
    unfold f_X1_countDoneInTime_L33_b cdL
    rw [if_neg (show ¬ nI n < nI t from nI_nlt (by omega) (by omega))]
    by_cases c : m ≤ p
    · rw [if_pos c, if_pos (nI_le c (by omega)), hend m p u (by omega) hp, zlet_s]
      exact ⟨_, rfl, by rw [gI_sI, if_pos ⟨rfl, rfl⟩], bfr_s u (Or.inr ⟨rfl, rfl⟩)⟩
    · have hpm : p < m := by omega
      have hx := hr.1 p hpm
      rw [if_neg c, if_neg (nI_ge hpm (by omega)), inB_n (show p < 4 by omega) (by decide), zck_t, nI_cl (by omega), hR p hpm, zlx_s, zlet_s]
      generalize r.getD p 0 = x at hx ⊢
      have hV1 : VX 51 (sI u 51 10 (nI x)) (tS T 0 2 (x + 1)) := by
        have := VX_anv (a := x + 1) hV
        rw [pk_sub (show 1 ≤ x + 1 by omega), Nat.add_sub_cancel] at this
        exact this
      have ho1 := OkT_anv ho (show x + 1 ≤ T 0 1 by omega)
      obtain ⟨u2, e2, V2, F2⟩ := minX hV1 ho1 hs (SqX_b hq (bfr_s u (Or.inl ⟨by decide, by decide⟩))) (by decide)
      have ho2 : OkT k (stepT sqs (tS T 0 2 (x + 1))) := OkT_step ho1 (by show T 0 3 < 20000; omega)
      have h32 : stepT sqs (tS T 0 2 (x + 1)) 0 3 = T 0 3 + 1 := rfl
      have hm2 : stepT sqs (tS T 0 2 (x + 1)) 0 1 = m := by rw [st01]; exact hm
      have B2 : bfr u u2 := bfr_tr (bfr_s u (Or.inl ⟨by decide, by decide⟩)) (bfr_x F2)
      have R2 := RW_b hR B2
      have Q2 := SqX_b hq B2
      rw [e2, zb_s]
      generalize stepT sqs (tS T 0 2 (x + 1)) = T1 at *
      rw [isDX V2 ho2 (by omega), zb_s]
      by_cases e : T1 6 x ≤ T1 8 x
      · have hdue : gI u2 58 x = nI (T1 7 x) := (V2.2.2.2.2.2.2.2 x (by omega)).2.1
        have hdue60 := (ho2.2.2.2.2.2.2.2 x (by omega)).2.2.1
        have hfu : f_X1_firstUndone (nI (p + 1)) (nI m) u2 = some (nI (fuL T1 r m 5 (p + 1)), u2) := fuX V2 ho2 hm2 hr R2 5 (p + 1) 400 (by omega) (by omega) (by decide)
        have hfle : fuL T1 r m 5 (p + 1) ≤ m := by
          have hq : ∀ j p, p ≤ m → fuL T1 r m j p ≤ m := by
            intro j
            induction j with
            | zero => exact fun p h => h
            | succ j ih =>
              intro p h
              unfold fuL
              split
              · split
                · exact ih (p + 1) (by omega)
                · exact h
              · exact h
          exact hq 5 (p + 1) (by omega)
        rw [if_pos e, if_pos e, if_neg (by decide), inB_n (show x < 4 by omega) (by decide), zck_t, nI_cl (show x < 2 ^ 31 by omega), hdue]
        by_cases f : t ≤ T1 7 x
        · rw [if_pos f, if_neg (show ¬ nI (T1 7 x) < nI t from nI_nlt f (by omega))]
          unfold f_X1_countDoneInTime_L103
          rw [show f_X8_asNumber (1 : Int32) u2 = some ((1 : Int32), u2) from rfl, zb_s, zlx_s, nI_a1, nI_a1, nI_a1, hfu, zb_s]
          obtain ⟨u', e1, g1, b1⟩ := ih (t + 1) fn T1 (fuL T1 r m 5 (p + 1)) (d + 1) u2 (by omega) (by omega) (by omega) (by omega) V2 ho2 Q2 (by omega) hm2 R2 hfle
          exact ⟨u', e1, g1, bfr_tr B2 b1⟩
        · rw [if_neg f, if_pos (show nI (T1 7 x) < nI t from nI_lt (by omega) (by omega))]
          unfold f_X1_countDoneInTime_L103
          rw [show f_X8_asNumber (0 : Int32) u2 = some ((0 : Int32), u2) from rfl, zb_s, zlx_s, show nI d + (0 : Int32) = nI (d + 0) from nI_add d 0, nI_a1, nI_a1, hfu, zb_s]
          obtain ⟨u', e1, g1, b1⟩ := ih (t + 1) fn T1 (fuL T1 r m 5 (p + 1)) (d + 0) u2 (by omega) (by omega) (by omega) (by omega) V2 ho2 Q2 (by omega) hm2 R2 hfle
          exact ⟨u', e1, g1, bfr_tr B2 b1⟩
      · rw [if_neg e, if_neg e, if_pos (show nI 0 = (0 : Int32) from rfl), nI_a1]
        obtain ⟨u', e1, g1, b1⟩ := ih (t + 1) fn T1 p d u2 (by omega) (by omega) (by omega) (by omega) V2 ho2 Q2 (by omega) hm2 R2 hp
        exact ⟨u', e1, g1, bfr_tr B2 b1⟩
def bcE (p0 : Int32) : Int32 := ((((((((p0 - (((p0.toUInt32 >>> ((1 : Int32).toUInt32 &&& Int32.toUInt32 31)).toInt32) &&& (1431655765 : Int32))) &&& (858993459 : Int32)) + ((((p0 - (((p0.toUInt32 >>> ((1 : Int32).toUInt32 &&& Int32.toUInt32 31)).toInt32) &&& (1431655765 : Int32))).toUInt32 >>> ((2 : Int32).toUInt32 &&& Int32.toUInt32 31)).toInt32) &&& (858993459 : Int32))) + (((((p0 - (((p0.toUInt32 >>> ((1 : Int32).toUInt32 &&& Int32.toUInt32 31)).toInt32) &&& (1431655765 : Int32))) &&& (858993459 : Int32)) + ((((p0 - (((p0.toUInt32 >>> ((1 : Int32).toUInt32 &&& Int32.toUInt32 31)).toInt32) &&& (1431655765 : Int32))).toUInt32 >>> ((2 : Int32).toUInt32 &&& Int32.toUInt32 31)).toInt32) &&& (858993459 : Int32))).toUInt32 >>> ((4 : Int32).toUInt32 &&& Int32.toUInt32 31)).toInt32)) &&& (252645135 : Int32)) + (((((((p0 - (((p0.toUInt32 >>> ((1 : Int32).toUInt32 &&& Int32.toUInt32 31)).toInt32) &&& (1431655765 : Int32))) &&& (858993459 : Int32)) + ((((p0 - (((p0.toUInt32 >>> ((1 : Int32).toUInt32 &&& Int32.toUInt32 31)).toInt32) &&& (1431655765 : Int32))).toUInt32 >>> ((2 : Int32).toUInt32 &&& Int32.toUInt32 31)).toInt32) &&& (858993459 : Int32))) + (((((p0 - (((p0.toUInt32 >>> ((1 : Int32).toUInt32 &&& Int32.toUInt32 31)).toInt32) &&& (1431655765 : Int32))) &&& (858993459 : Int32)) + ((((p0 - (((p0.toUInt32 >>> ((1 : Int32).toUInt32 &&& Int32.toUInt32 31)).toInt32) &&& (1431655765 : Int32))).toUInt32 >>> ((2 : Int32).toUInt32 &&& Int32.toUInt32 31)).toInt32) &&& (858993459 : Int32))).toUInt32 >>> ((4 : Int32).toUInt32 &&& Int32.toUInt32 31)).toInt32)) &&& (252645135 : Int32)).toUInt32 >>> ((8 : Int32).toUInt32 &&& Int32.toUInt32 31)).toInt32)) + ((((((((p0 - (((p0.toUInt32 >>> ((1 : Int32).toUInt32 &&& Int32.toUInt32 31)).toInt32) &&& (1431655765 : Int32))) &&& (858993459 : Int32)) + ((((p0 - (((p0.toUInt32 >>> ((1 : Int32).toUInt32 &&& Int32.toUInt32 31)).toInt32) &&& (1431655765 : Int32))).toUInt32 >>> ((2 : Int32).toUInt32 &&& Int32.toUInt32 31)).toInt32) &&& (858993459 : Int32))) + (((((p0 - (((p0.toUInt32 >>> ((1 : Int32).toUInt32 &&& Int32.toUInt32 31)).toInt32) &&& (1431655765 : Int32))) &&& (858993459 : Int32)) + ((((p0 - (((p0.toUInt32 >>> ((1 : Int32).toUInt32 &&& Int32.toUInt32 31)).toInt32) &&& (1431655765 : Int32))).toUInt32 >>> ((2 : Int32).toUInt32 &&& Int32.toUInt32 31)).toInt32) &&& (858993459 : Int32))).toUInt32 >>> ((4 : Int32).toUInt32 &&& Int32.toUInt32 31)).toInt32)) &&& (252645135 : Int32)) + (((((((p0 - (((p0.toUInt32 >>> ((1 : Int32).toUInt32 &&& Int32.toUInt32 31)).toInt32) &&& (1431655765 : Int32))) &&& (858993459 : Int32)) + ((((p0 - (((p0.toUInt32 >>> ((1 : Int32).toUInt32 &&& Int32.toUInt32 31)).toInt32) &&& (1431655765 : Int32))).toUInt32 >>> ((2 : Int32).toUInt32 &&& Int32.toUInt32 31)).toInt32) &&& (858993459 : Int32))) + (((((p0 - (((p0.toUInt32 >>> ((1 : Int32).toUInt32 &&& Int32.toUInt32 31)).toInt32) &&& (1431655765 : Int32))) &&& (858993459 : Int32)) + ((((p0 - (((p0.toUInt32 >>> ((1 : Int32).toUInt32 &&& Int32.toUInt32 31)).toInt32) &&& (1431655765 : Int32))).toUInt32 >>> ((2 : Int32).toUInt32 &&& Int32.toUInt32 31)).toInt32) &&& (858993459 : Int32))).toUInt32 >>> ((4 : Int32).toUInt32 &&& Int32.toUInt32 31)).toInt32)) &&& (252645135 : Int32)).toUInt32 >>> ((8 : Int32).toUInt32 &&& Int32.toUInt32 31)).toInt32)).toUInt32 >>> ((16 : Int32).toUInt32 &&& Int32.toUInt32 31)).toInt32)) &&& (63 : Int32))
theorem bcE_t : ∀ b, b < 64 → bcE (nI b) = nI (popC 6 b) := by decide +kernel
theorem bcX {b : Nat} (hb : b < 64) (u : zM) : f_J6_bitCount_0f7a4 (nI b) u = some (nI (popC 6 b), u) := by
  rw [← bcE_t b hb]
  rfl
theorem cntX {k m n : Nat} {T : zT} {sqs : Nat → zQ} {r : List Nat} {u : zM} (h : XC k T sqs u) (hm : T 0 1 = m) (hr : rowOk m r) (hR : RW u m r) (hn : n ≤ 40) : ∃ u', f_X1_countDoneInTime (nI m) (nI n) u = some (nI (vaT sqs T m n r), u') ∧ gI u' 49 5 = nI (reT sqs T m n r) ∧ bfr u u' := by
  obtain ⟨hX, ho, hmn, hs, hq⟩ := h
  have hm4 := ho.2.1
  obtain ⟨u1, e1, V1, F1⟩ := becX (t := 51) (o := 2) (by omega) hX ho hs.1
  have B1 := bfr_x F1
  have X1 : VX 2 u1 T := VX_cg hX (fun c i hc => B1.1 _ _ (by omega) (by omega)) (B1.2.2 _ _ (by omega))
  have R1 := RW_b hR B1
  have hF : f_X1_firstUndone (0 : Int32) (nI m) u1 = some (nI (fuL T r m 5 0), u1) := fuX V1 ho hm hr R1 5 0 400 (by omega) (by omega) (by decide)
  have hp := (fuL_FU (T := T) (r := r) (m := m) 5 0 (Nat.zero_le _) (by omega) (fun i hi => absurd hi (Nat.not_lt_zero _))).1
  have hpc : popC 6 (dnT T) = popC m (dnT T) := by rw [← hm]; exact popC_dn (by omega)
  obtain ⟨u', e2, g2, b2⟩ := cdX hs hr hn n 1 400 T (fuL T r m 5 0) (popC m (dnT T)) u1 (by omega) (by decide) (by omega) (by have := popC_le (dnT T) m; omega) V1 ho (SqX_b hq B1) (by omega) hm R1 hp
  refine ⟨u', ?_, g2, bfr_tr B1 b2⟩
  unfold f_X1_countDoneInTime
  rw [e1, zb_s, dnX X1 ho, zb_s, bcX (dnT_lt ho), zb_s, hF, zb_s, hpc]
  exact e2
theorem roX : ∀ m, m ≤ 4 → zsv 2 (nI m) = nI (roF m) := by decide +kernel
/-- the best row so far as the class holds it -/
def BW (u : zM) (m : Nat) (r : List Nat) : Prop := ∀ i, i < m → gI u 50 i = nI (r.getD i 0)
theorem XC_b {k : Nat} {T : zT} {sqs : Nat → zQ} {u u' : zM} (h : XC k T sqs u) (g : ∀ a i, ¬ (49 ≤ a ∧ a ≤ 62) → gI u' a i = gI u a i) (gO' : ∀ a i, ¬ (49 ≤ a ∧ a ≤ 62) → gO u' a i = gO u a i) : XC k T sqs u' := ⟨VX_cg h.1 (fun c i hc => g _ _ (by omega)) (gO' _ _ (by omega)), h.2.1, h.2.2.1, h.2.2.2.1, SqX_cg h.2.2.2.2 (fun a i ha => g _ _ (by omega))⟩
theorem fo_le {V : List Nat → Nat} {m : Nat} : ∀ x, (∀ y, y < x → V ((prm m).getD y []) ≤ m) → (fo V m x).1 ≤ m + 1 := by
  intro x
  induction x with
  | zero => exact fun _ => Nat.zero_le _
  | succ x ih =>
    intro h
    show (fA V (fo V m x) ((prm m).getD x [])).1 ≤ m + 1
    unfold fA
    split
    · show V ((prm m).getD x []) + 1 ≤ m + 1
      have := h x (by omega)
      omega
    · exact ih (fun y hy => h y (by omega))
def b49 (u u' : zM) : Prop := (∀ a i, ¬ (49 ≤ a ∧ a ≤ 62) → gI u' a i = gI u a i) ∧ (∀ a i, gJ u' a i = gJ u a i) ∧ ∀ a i, ¬ (49 ≤ a ∧ a ≤ 62) → gO u' a i = gO u a i
theorem b49_tr {u v w : zM} (h : b49 u v) (g : b49 v w) : b49 u w := ⟨fun a k p => (g.1 a k p).trans (h.1 a k p), fun a k => (g.2.1 a k).trans (h.2.1 a k), fun a k q => (g.2.2 a k q).trans (h.2.2 a k q)⟩
theorem b49_b {u u' : zM} (h : bfr u u') : b49 u u' := ⟨fun a k q => h.1 a k (by omega) (by omega), h.2.1, fun a k q => h.2.2 a k (by omega)⟩
theorem bestX {k m n : Nat} {T : zT} {sqs : Nat → zQ} (hm : T 0 1 = m) (hn : n ≤ 40) : ∀ (c x b y fn : Nat) (u : zM), x + c = roF m → c < fn → y ≤ x → XC k T sqs u → (fo (vaT sqs T m n) m x).1 = b → (0 < b → BW u m (fo (vaT sqs T m n) m x).2) → (x < roF m → x % roF (m - reT sqs T m n ((prm m).getD x [])) = 0) → ∃ u', f_X1_findBestRow_L20 (nI n) fn (nI m) (nI b - nI 1) (nI x) (nI y) u = some (nI (fo (vaT sqs T m n) m (roF m)).1 - nI 1, u') ∧ (0 < (fo (vaT sqs T m n) m (roF m)).1 → BW u' m (fo (vaT sqs T m n) m (roF m)).2) ∧ b49 u u' := by
  intro c
  induction c using Nat.strongRecOn with
  | _ c ih =>
    intro x b y fn u hx hf hy h hb hB hal
    obtain ⟨fn, rfl⟩ : ∃ g, fn = g + 1 := ⟨fn - 1, by omega⟩
    have hm4 : m ≤ 4 := by have := h.2.1.2.1; omega
    have hro := roF_pos m hm4
    show ∃ u', f_X1_findBestRow_L20_b _ _ _ _ _ _ _ = _ ∧ _
    unfold f_X1_findBestRow_L20_b
    rw [inB_n (show m < 5 by omega) (by decide), zck_t, zck_t, roX m hm4]
    have hVle : ∀ y, y < roF m → vaT sqs T m n ((prm m).getD y []) ≤ m := fun y hy => va_le hm4 (prm_ok m hm4 y hy) hm
    by_cases c1 : x = roF m
    · have stop : ∀ z : Option (Int32 × zM), z = some (nI b - nI 1, u) → ∃ u', z = some (nI (fo (vaT sqs T m n) m (roF m)).1 - nI 1, u') ∧ (0 < (fo (vaT sqs T m n) m (roF m)).1 → BW u' m (fo (vaT sqs T m n) m (roF m)).2) ∧ b49 u u' := by
        intro z hz
        rw [← c1, hb]
        exact ⟨u, hz, hB, ⟨fun _ _ _ => rfl, fun _ _ => rfl, fun _ _ _ => rfl⟩⟩
      by_cases c2 : y = roF m
      · exact stop _ (by rw [if_pos (nI_le (by omega) (by omega))])
      · exact stop _ (by rw [if_neg (nI_ge (by omega) (by omega)), if_pos (nI_le (by omega) (by omega))])
    · have hxl : x < roF m := by omega
      rw [if_neg (nI_ge (show y < roF m by omega) (by omega)), if_neg (nI_ge hxl (by omega))]
      have hble : b ≤ m + 1 := by rw [← hb]; exact fo_le x (fun y hy => hVle y (by omega))
      by_cases c3 : m + 1 ≤ b
      · have hfull := fo_full (V := vaT sqs T m n) (m := m) (x := x) (by omega) (roF m - x) (fun y hy => hVle y (by omega))
        rw [show x + (roF m - x) = roF m by omega] at hfull
        rw [if_pos (show nI m ≤ nI b - nI 1 by rw [pk_sub (by omega)]; exact nI_le (by omega) (by omega)), hfull, hb]
        exact ⟨u, rfl, hB, ⟨fun _ _ _ => rfl, fun _ _ => rfl, fun _ _ _ => rfl⟩⟩
      · have hnm : ∀ a : Nat, a < 100 → b ≤ a → ¬ nI a ≤ nI b - nI 1 := by
          intro a ha hba
          by_cases z : b = 0
          · rw [z, show nI 0 - nI 1 = -nI 1 from rfl]
            exact (mle_f (a := 1) (b := a) (by omega) (by decide) (by omega)).mp
          · rw [pk_sub (by omega)]
            exact nI_ge (by omega) (by omega)
        have hpl : ∀ a : Nat, a < 100 → a < b → nI a ≤ nI b - nI 1 := by
          intro a ha hba
          rw [pk_sub (by omega)]
          exact nI_le (by omega) (by omega)
        have hro1 := prm_ok m hm4 x hxl
        have hre := re_le sqs T m n ((prm m).getD x [])
        obtain ⟨hblk1, hblk2⟩ := prm_blk m hm4 _ hre x hxl (hal hxl)
        have hrp := roF_pos (m - reT sqs T m n ((prm m).getD x [])) (by omega)
        have hV : ∀ y, y < roF (m - reT sqs T m n ((prm m).getD x [])) → vaT sqs T m n ((prm m).getD (x + y) []) = vaT sqs T m n ((prm m).getD x []) := fun y hy => (va_pre (hblk2 y hy)).1
        have hfo : fo (vaT sqs T m n) m (x + roF (m - reT sqs T m n ((prm m).getD x []))) = fA (vaT sqs T m n) (fo (vaT sqs T m n) m x) ((prm m).getD x []) := by
          have := fo_skip (V := vaT sqs T m n) (m := m) (x := x) (roF (m - reT sqs T m n ((prm m).getD x [])) - 1) (fun y hy => hV y (by omega))
          rw [show x + (roF (m - reT sqs T m n ((prm m).getD x [])) - 1) + 1 = x + roF (m - reT sqs T m n ((prm m).getD x [])) by omega] at this
          exact this
        have hal' : x + roF (m - reT sqs T m n ((prm m).getD x [])) < roF m → (x + roF (m - reT sqs T m n ((prm m).getD x []))) % roF (m - reT sqs T m n ((prm m).getD (x + roF (m - reT sqs T m n ((prm m).getD x []))) [])) = 0 := by
          intro hlt
          rcases prm_nxt m hm4 _ hre x hxl (hal hxl) hlt _ (re_le sqs T m n ((prm m).getD (x + roF (m - reT sqs T m n ((prm m).getD x []))) [])) with h1 | ⟨h1, h2⟩
          · exact h1
          · have h3 := (va_pre (sqs := sqs) (T := T) (m := m) (n := n) (r := (prm m).getD (x + roF (m - reT sqs T m n ((prm m).getD x []))) []) (s := (prm m).getD x []) h2).2
            omega
        obtain ⟨u1, e1, R1, F1⟩ := setR hm4 hxl u
        have G1 : b49 u u1 := ⟨fun a i q => F1.1 a i (by unfold p62; omega), F1.2.1, fun a i _ => F1.2.2 a i⟩
        have X1 := XC_b h G1.1 G1.2.2
        obtain ⟨u2, e2, V2, B2⟩ := cntX X1 hm hro1 R1 hn
        have G2 : b49 u u2 := b49_tr G1 (b49_b B2)
        have R2 := RW_b R1 B2
        have hv := hVle x hxl
        rw [if_neg (hnm m (by omega) (by omega)), e1, zb_s, e2, zb_s]
        have l83 : ∀ (z : Int32) (u3 : zM), gI u3 49 5 = nI (reT sqs T m n ((prm m).getD x [])) → f_X1_findBestRow_L83 (nI n) (f_X1_findBestRow_L20 (nI n) fn) (nI m) z (nI x) (nI y) u3 = f_X1_findBestRow_L20 (nI n) fn (nI m) z (nI (x + roF (m - reT sqs T m n ((prm m).getD x [])))) (nI (y + 1)) u3 := by
          intro z u3 hz
          unfold f_X1_findBestRow_L83
          rw [hz, pk_sub hre, inB_n (show m - reT sqs T m n ((prm m).getD x []) < 5 by omega) (by decide), zck_t, roX _ (by omega), nI_add, zlx_s, nI_a1]
        by_cases c4 : vaT sqs T m n ((prm m).getD x []) < b
        · rw [if_pos (hpl _ (by omega) c4), l83 _ u2 V2]
          have hfo' : fo (vaT sqs T m n) m (x + roF (m - reT sqs T m n ((prm m).getD x []))) = fo (vaT sqs T m n) m x := by
            rw [hfo]
            unfold fA
            rw [if_neg (by omega)]
          obtain ⟨u', e3, B3, G3⟩ := ih (roF m - (x + roF (m - reT sqs T m n ((prm m).getD x [])))) (by omega) (x + roF (m - reT sqs T m n ((prm m).getD x []))) b (y + 1) fn u2 (by omega) (by omega) (by omega) (XC_b h G2.1 G2.2.2) (by rw [hfo']; exact hb) (fun q => by rw [hfo']; exact fun i hi => ((B2.1 50 i (by omega) (by omega)).trans (F1.1 50 i (by unfold p62; omega))).trans (hB q i hi)) hal'
          exact ⟨u', e3, B3, b49_tr G2 G3⟩
        · rw [if_neg (hnm _ (by omega) (by omega)), show cpB (0 : Int32) (0 : Int32) (4 : Int32) 4 4 = true from by decide, zck_t, zlet_s, show (0 : Int32).toNatClampNeg = 0 from by decide, show (4 : Int32).toNatClampNeg = 4 from by decide, l83 _ (cpI u2 62 0 50 0 4) (by rw [gI_cpI, if_neg (by omega)]; exact V2), show nI (vaT sqs T m n ((prm m).getD x [])) = nI (vaT sqs T m n ((prm m).getD x []) + 1) - nI 1 from by rw [pk_sub (by omega), Nat.add_sub_cancel]]
          have hfo' : fo (vaT sqs T m n) m (x + roF (m - reT sqs T m n ((prm m).getD x []))) = (vaT sqs T m n ((prm m).getD x []) + 1, (prm m).getD x []) := by
            rw [hfo]
            unfold fA
            rw [if_pos (by omega)]
          have G3 : b49 u (cpI u2 62 0 50 0 4) := b49_tr G2 ⟨fun a i q => by rw [gI_cpI, if_neg (by omega)], fun a i => gJ_cpI _ _ _ _ _ _ _ _, fun a i _ => gO_cpI _ _ _ _ _ _ _ _⟩
          obtain ⟨u', e3, B3, G4⟩ := ih (roF m - (x + roF (m - reT sqs T m n ((prm m).getD x [])))) (by omega) (x + roF (m - reT sqs T m n ((prm m).getD x []))) (vaT sqs T m n ((prm m).getD x []) + 1) (y + 1) fn (cpI u2 62 0 50 0 4) (by omega) (by omega) (by omega) (XC_b h G3.1 G3.2.2) (by rw [hfo']) (fun q => by
            rw [hfo']
            intro i hi
            rw [gI_cpI, if_pos (by omega), Nat.zero_add, Nat.sub_zero]
            exact R2 i hi) hal'
          exact ⟨u', e3, B3, b49_tr G3 G4⟩
