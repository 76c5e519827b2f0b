/-! ===== PURE: the absent's bits ===== -/
def abit (A i : Nat) : Int32 := if A.testBit i = true then 1 else 0
def aset (A i : Nat) : Nat := A ||| 2 ^ i
def aclr (A i : Nat) : Nat := A &&& (63 ^^^ 2 ^ i)
theorem ab_get : ∀ A, A < 64 → ∀ i, i < 6 → ((nI A >>> (nI i &&& 31)) &&& (1 : Int32)) = abit A i := by decide +kernel
theorem ab_set : ∀ A, A < 64 → ∀ i, i < 6 → (nI A ||| ((1 : Int32) <<< (nI i &&& 31))) = nI (aset A i) ∧ aset A i < 64 := by decide +kernel
theorem ab_clr : ∀ A, A < 64 → ∀ i, i < 6 → (nI A &&& (((1 : Int32) <<< (nI i &&& 31)) ^^^ (-1 : Int32))) = nI (aclr A i) ∧ aclr A i < 64 := by decide +kernel
theorem ab_set_get : ∀ A, A < 64 → ∀ i, i < 6 → ∀ j, j < 6 → abit (aset A i) j = if j = i then 1 else abit A j := by decide +kernel
theorem ab_clr_get : ∀ A, A < 64 → ∀ i, i < 6 → ∀ j, j < 6 → abit (aclr A i) j = if j = i then 0 else abit A j := by decide +kernel
theorem ab_01 (A i : Nat) : abit A i = 0 ∨ abit A i = 1 := by
  unfold abit
  by_cases h : A.testBit i = true
  · exact Or.inr (if_pos h)
  · exact Or.inl (if_neg h)
theorem has_bit {A i : Nat} (hA : A < 64) (hi : i < 6) (u : zM) : f_X9_has (nI A) (nI i) u = some (abit A i, u) := by
  unfold f_X9_has
  rw [ab_get A hA i hi]
  rcases ab_01 A i with h | h
  · rw [h, if_neg (show ¬ (0 : Int32) = 1 by decide)]
  · rw [h, if_pos rfl]
def RAwy (uX w : zM) : Prop := ∃ A n : Nat, A < 64 ∧ n ≤ 6 ∧ gI uX 2 0 = nI n ∧ gI w 0 1 = nI A ∧ ∀ i, i < n → gI uX 6 i = abit A i
theorem init_awy : RAwy uX0 uM0 := ⟨0, 0, by omega, by omega, by decide +kernel, by decide +kernel, fun i hi => absurd hi (Nat.not_lt_zero i)⟩
