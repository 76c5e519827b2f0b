/-! ===== PURE: the tapes ===== -/
theorem if1 {γ : Type} (x y : γ) : (if (1 : Int32) = 0 then x else y) = y := if_neg (by decide)
theorem if0 {γ : Type} (x y : γ) : (if (0 : Int32) = 0 then x else y) = x := if_pos rfl
theorem n31 {a b : Nat} (h : a < b) (hb : b < 2 ^ 31) : a < 2 ^ 31 := Nat.lt_trans h hb
theorem out_lt {p : Int32} {n : Nat} (hn : n < 2 ^ 31) (h : p < 0 ∨ nI n ≤ p) : ¬ (0 ≤ p ∧ p < nI n) := fun ⟨h1, h2⟩ => h.elim (fun h => Int32_not_lt.mpr h1 h) (fun h => Int32_not_le.mpr h2 h)
theorem out_le {p : Int32} {n : Nat} (hn : n + 1 < 2 ^ 31) (h : p < 0 ∨ nI (n + 1) ≤ p) : ¬ (0 ≤ p ∧ p ≤ nI n) := fun ⟨h1, h2⟩ => h.elim (fun h => Int32_not_lt.mpr h1 h) (fun h => by
  have h3 : nI n < nI (n + 1) := (nI_ltI (by omega) hn).mpr (Nat.lt_succ_self n)
  rw [Int32.lt_iff_toInt_lt] at h3
  rw [Int32.le_iff_toInt_le] at h h2
  omega)
theorem in_t {j a b : Nat} (h : a ≤ j ∧ j ≤ b) (hb : b < 2 ^ 31) (u : zM) : f_X9_in (nI j) (nI a) (nI b) u = some (1, u) := by
  rw [f_in, decide_eq_true (⟨(nI_leI (by omega) (by omega)).mpr h.1, (nI_leI (by omega) hb).mpr h.2⟩ : nI a ≤ nI j ∧ nI j ≤ nI b)]
  rfl
theorem in_f {p : Int32} {n : Nat} (hn : n + 1 < 2 ^ 31) (h : p < 0 ∨ nI (n + 1) ≤ p) (u : zM) : f_X9_in p 0 (nI n) u = some (0, u) := by
  rw [f_in, decide_eq_false (out_le hn h)]
  rfl
theorem wi_t {j a b : Nat} (h : a ≤ j ∧ j ≤ b) (hb : b < 2 ^ 31) (u : zM) : f_X8_isWithin (nI j) (nI a) (nI b) u = some (1, u) := by
  rw [f_within, decide_eq_true (⟨(nI_leI (by omega) (by omega)).mpr h.1, (nI_leI (by omega) hb).mpr h.2⟩ : nI a ≤ nI j ∧ nI j ≤ nI b)]
  rfl
theorem wi_f {p : Int32} {n : Nat} (hn : n + 1 < 2 ^ 31) (h : p < 0 ∨ nI (n + 1) ≤ p) (u : zM) : f_X8_isWithin p 0 (nI n) u = some (0, u) := by
  rw [f_within, decide_eq_false (out_le hn h)]
  rfl
theorem has_t {j : Nat} (h : j < 6) (u : zM) : f_X5_has (nI j) u = some (1, u) := by
  unfold f_X5_has
  rw [if_neg (nI_pos (by omega)), if_neg (show ¬ (6 : Int32) ≤ nI j from nI_ge h (by decide))]
theorem has_f {p : Int32} (h : p < 0 ∨ nI 6 ≤ p) (u : zM) : f_X5_has p u = some (0, u) := by
  unfold f_X5_has
  rcases h with h | h
  · rw [if_pos h]
  · by_cases h0 : p < 0
    · rw [if_pos h0]
    · rw [if_neg h0, if_pos (show (6 : Int32) ≤ p from h)]
theorem tp_t {j : Nat} (h : j < 6) (u : zM) : f_X9_isTape (nI j) u = some (1, u) := by
  unfold f_X9_isTape
  rw [show f_X9_in (nI j) 0 5 u = some (1, u) from in_t (a := 0) (b := 5) (by omega) (by decide) u]
  rfl
theorem tp_f {p : Int32} (h : p < 0 ∨ nI 6 ≤ p) (u : zM) : f_X9_isTape p u = some (0, u) := by
  unfold f_X9_isTape
  rw [show f_X9_in p 0 5 u = some (0, u) from in_f (n := 5) (by decide) h u]
  rfl
/-- a tape holds nothing in both, or the same row -/
def RTp1 (uX w : zM) (t : Nat) : Prop := (gI uX 69 t = -1 ∧ gI w 45 t = -1 ∧ gI uX 70 t = nI 0 ∧ gI w 46 t = nI 0) ∨ ∃ s n : Nat, s ≤ 4 ∧ n ≤ 60 ∧ gI uX 69 t = nI s ∧ gI w 45 t = nI s ∧ gI uX 70 t = nI n ∧ gI w 46 t = nI n ∧ ∀ i, i < n → gJ uX (72 + t) i = gJ w 47 (60 * t + i)
def RTp (uX w : zM) : Prop := ∀ t, t < 6 → RTp1 uX w t
/-- nothing but the tapes' cells has changed -/
def tpX (u u' : zM) : Prop := ∀ a k, ¬ (69 ≤ a ∧ a ≤ 77) → gI u' a k = gI u a k ∧ gO u' a k = gO u a k
def tpM (u u' : zM) : Prop := ∀ a k, ¬ (45 ≤ a ∧ a ≤ 48) → gI u' a k = gI u a k
theorem tpX_rf (u : zM) : tpX u u := fun _ _ _ => ⟨rfl, rfl⟩
theorem tpM_rf (u : zM) : tpM u u := fun _ _ _ => rfl
def zTpSim (fx fm : zM → Option (Int32 × zM)) (uX w : zM) : Prop := ∃ r uX' w', fx uX = some (r, uX') ∧ fm w = some (r, w') ∧ RTp uX' w' ∧ tpX uX uX' ∧ tpM w w'
theorem tp_same {fx fm : zM → Option (Int32 × zM)} {uX w : zM} {r : Int32} (h : RTp uX w) (h1 : fx uX = some (r, uX)) (h2 : fm w = some (r, w)) : zTpSim fx fm uX w := ⟨r, uX, w, h1, h2, h, tpX_rf _, tpM_rf _⟩
theorem mul60 {t i : Nat} (ht : t < 6) (hi : i < 60) : (60 : Int32) * nI t + nI i = nI (60 * t + i) := by
  rw [show (60 : Int32) = nI 60 from rfl, ← nI_add]
  congr 1
  exact (Int32.ofNat_mul 60 t).symm
theorem idx60 {t i : Nat} (ht : t < 6) (hi : i < 60) : 60 * t + i < 360 := by omega
/-- both rows are cleared -/
theorem become_ok {t n : Nat} {s : Int32} (ht : t < 6) (hn : n ≤ 60) : ∀ (k i fn : Nat) (u : zM), i + k = n → k < fn → ∃ u', f_X5_become_L17 (nI t) s (nI n) fn (nI i) u = some (1, u') ∧ (∀ a j, gI u' a j = gI u a j ∧ gO u' a j = gO u a j) ∧ ∀ a j, gJ u' a j = if a = 72 + t ∧ i ≤ j ∧ j < n then 0 else gJ u a j := by
  intro k
  induction k with
  | zero =>
    intro i fn u hi hf
    obtain ⟨fn, rfl⟩ : ∃ g, fn = g + 1 := ⟨fn - 1, by omega⟩
    refine ⟨u, ?_, fun _ _ => ⟨rfl, rfl⟩, fun a j => by rw [if_neg (by omega)]⟩
    show f_X5_become_L17_b _ _ _ _ _ _ = _
    unfold f_X5_become_L17_b
    rw [if_pos (nI_le (by omega) (by omega))]
  | succ k ih =>
    intro i fn u hi hf
    obtain ⟨fn, rfl⟩ : ∃ g, fn = g + 1 := ⟨fn - 1, by omega⟩
    obtain ⟨u', e, h1, h2⟩ := ih (i + 1) fn (sJ u (72 + 1 * t) i 0) (by omega) (by omega)
    refine ⟨u', ?_, fun a j => h1 a j, fun a j => ?_⟩
    · show f_X5_become_L17_b _ _ _ _ _ _ = _
      unfold f_X5_become_L17_b
      rw [if_neg (nI_ge (by omega) (by omega)), inB_n ht (by decide), inB_n (show i < 60 by omega) (by decide), zck_t, zck_t, zlet_s, nI_cl (by omega), nI_cl (by omega), nI_a1]
      exact e
    · rw [h2, gJ_sJ]
      by_cases ha : a = 72 + t
      · subst ha
        by_cases hj : j = i
        · subst hj
          rw [if_neg (by omega), if_pos ⟨by omega, rfl⟩, if_pos (by omega)]
        · by_cases hj2 : i + 1 ≤ j ∧ j < n
          · rw [if_pos (by omega), if_pos (by omega)]
          · rw [if_neg (by omega), if_neg (by omega), if_neg (by omega)]
      · rw [if_neg (by omega), if_neg (by omega), if_neg (by omega)]
theorem tape_ok {t : Nat} {s n : Int32} (ht : t < 6) : ∀ (k i fn : Nat) (u : zM), i + k = 60 → k < fn → ∃ u', f_X9_tape_L69 (nI t) s n fn (nI i) u = some (1, u') ∧ (∀ a j, gI u' a j = gI u a j) ∧ ∀ a j, gJ u' a j = if a = 47 ∧ 60 * t + i ≤ j ∧ j < 60 * t + 60 then 0 else gJ u a j := by
  intro k
  induction k with
  | zero =>
    intro i fn u hi hf
    obtain ⟨fn, rfl⟩ : ∃ g, fn = g + 1 := ⟨fn - 1, by omega⟩
    refine ⟨u, ?_, fun _ _ => rfl, fun a j => by rw [if_neg (by omega)]⟩
    show f_X9_tape_L69_b _ _ _ _ _ _ = _
    unfold f_X9_tape_L69_b
    rw [if_pos (show (60 : Int32) ≤ nI i from nI_le (a := 60) (by omega) (by omega))]
  | succ k ih =>
    intro i fn u hi hf
    obtain ⟨fn, rfl⟩ : ∃ g, fn = g + 1 := ⟨fn - 1, by omega⟩
    obtain ⟨u', e, h1, h2⟩ := ih (i + 1) fn (sJ u 47 (60 * t + i) 0) (by omega) (by omega)
    refine ⟨u', ?_, fun a j => h1 a j, fun a j => ?_⟩
    · show f_X9_tape_L69_b _ _ _ _ _ _ = _
      unfold f_X9_tape_L69_b
      rw [if_neg (show ¬ (60 : Int32) ≤ nI i from nI_ge (b := 60) (by omega) (by omega)), mul60 ht (by omega), inB_n (idx60 ht (by omega)) (by decide), zck_t, zlet_s, nI_cl (by omega), nI_a1]
      exact e
    · rw [h2, gJ_sJ]
      by_cases ha : a = 47
      · subst ha
        by_cases hj : j = 60 * t + i
        · subst hj
          rw [if_neg (by omega), if_pos ⟨rfl, rfl⟩, if_pos (by omega)]
        · by_cases hj2 : 60 * t + (i + 1) ≤ j ∧ j < 60 * t + 60
          · rw [if_pos ⟨rfl, hj2⟩, if_pos (by omega)]
          · rw [if_neg (by omega), if_neg (by omega), if_neg (by omega)]
      · rw [if_neg (by omega), if_neg (by omega), if_neg (by omega)]
