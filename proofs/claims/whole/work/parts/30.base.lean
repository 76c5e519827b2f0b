/-! ===== PURE: from here on no machine; small laws of the functions' words ===== -/
theorem zb_s {β γ : Type} (x : β) (u : zM) (k : β → zM → Option γ) : zb (some (x, u)) k = k x u := rfl
theorem zck_t {β : Type} (o : Option β) : zck true o = o := rfl
theorem zlet_s {γ : Type} (u : zM) (k : zM → Option γ) : zlet u k = k u := rfl
theorem zlx_s {γ : Type} (x : Int32) (k : Int32 → Option γ) : zlx x k = k x := rfl
theorem zly_s {γ : Type} (x : Int64) (k : Int64 → Option γ) : zly x k = k x := rfl
theorem zmo_n {γ : Type} (k0 : Option γ) (k1 : Nat → Option γ) : zmo none k0 k1 = k0 := rfl
theorem zmo_s {γ : Type} (x : Nat) (k0 : Option γ) (k1 : Nat → Option γ) : zmo (some x) k0 k1 = k1 x := rfl
theorem gI_sI (u : zM) (a k : Nat) (x : Int32) (b j : Nat) : gI (sI u a k x) b j = if b = a ∧ j = k then x else gI u b j := rfl
theorem gI_sO (u : zM) (a k : Nat) (x : Option Nat) (b j : Nat) : gI (sO u a k x) b j = gI u b j := rfl
theorem gI_sJ (u : zM) (a k : Nat) (x : Int64) (b j : Nat) : gI (sJ u a k x) b j = gI u b j := rfl
theorem gO_sI (u : zM) (a k : Nat) (x : Int32) (b j : Nat) : gO (sI u a k x) b j = gO u b j := rfl
theorem gO_sO (u : zM) (a k : Nat) (x : Option Nat) (b j : Nat) : gO (sO u a k x) b j = if b = a ∧ j = k then x else gO u b j := rfl
theorem gO_sJ (u : zM) (a k : Nat) (x : Int64) (b j : Nat) : gO (sJ u a k x) b j = gO u b j := rfl
theorem gJ_sI (u : zM) (a k : Nat) (x : Int32) (b j : Nat) : gJ (sI u a k x) b j = gJ u b j := rfl
theorem gJ_sO (u : zM) (a k : Nat) (x : Option Nat) (b j : Nat) : gJ (sO u a k x) b j = gJ u b j := rfl
theorem gJ_sJ (u : zM) (a k : Nat) (x : Int64) (b j : Nat) : gJ (sJ u a k x) b j = if b = a ∧ j = k then x else gJ u b j := rfl
theorem gI_cpI (u : zM) (a sp d dp n b j : Nat) : gI (cpI u a sp d dp n) b j = if b = d ∧ dp ≤ j ∧ j < dp + n then gI u a (sp + (j - dp)) else gI u b j := rfl
theorem gO_cpI (u : zM) (a sp d dp n b j : Nat) : gO (cpI u a sp d dp n) b j = gO u b j := rfl
theorem gJ_cpI (u : zM) (a sp d dp n b j : Nat) : gJ (cpI u a sp d dp n) b j = gJ u b j := rfl
theorem gI_cpJ (u : zM) (a sp d dp n b j : Nat) : gI (cpJ u a sp d dp n) b j = gI u b j := rfl
theorem gO_cpJ (u : zM) (a sp d dp n b j : Nat) : gO (cpJ u a sp d dp n) b j = gO u b j := rfl
theorem gJ_cpJ (u : zM) (a sp d dp n b j : Nat) : gJ (cpJ u a sp d dp n) b j = if b = d ∧ dp ≤ j ∧ j < dp + n then gJ u a (sp + (j - dp)) else gJ u b j := rfl
/-- a truth as 0 or 1 -/
def b2i (b : Bool) : Int32 := if b = true then 1 else 0
theorem b2i_0 {b : Bool} : b2i b = 0 ↔ b = false := by cases b <;> decide
theorem b2i_1 {b : Bool} : b2i b = 1 ↔ b = true := by cases b <;> decide
theorem b2i_z01 (b : Bool) : z01 (b2i b) = true := by cases b <;> decide
theorem b2i_if {γ : Type} (b : Bool) (x y : γ) : (if b2i b = 0 then x else y) = if b = true then y else x := by cases b <;> rfl
/-- numbers of small size -/
theorem inB_n {i n : Nat} (h : i < n) (hn : n < 2 ^ 31) : inB (nI i) n = true := decide_eq_true (nI_in h hn)
theorem nI_cl {n : Nat} (h : n < 2 ^ 31) : (nI n).toNatClampNeg = n := nI_clamp h
theorem nI_le_iff {a b : Nat} (ha : a < 2 ^ 31) (hb : b < 2 ^ 31) : (nI a ≤ nI b) = (a ≤ b) := propext (nI_leI ha hb)
theorem nI_lt_iff {a b : Nat} (ha : a < 2 ^ 31) (hb : b < 2 ^ 31) : (nI a < nI b) = (a < b) := propext (nI_ltI ha hb)
theorem nI_eq_iff {a b : Nat} (ha : a < 2 ^ 31) (hb : b < 2 ^ 31) : (nI a = nI b) = (a = b) := propext (nI_eq ha hb)
theorem nI_lt0 {a : Nat} (ha : a < 2 ^ 31) : (nI a < 0) = False := eq_false (nI_pos ha)
theorem nI_0le {a : Nat} (ha : a < 2 ^ 31) : ((0 : Int32) ≤ nI a) = True := eq_true (nI_pos' ha)
theorem nI_m1 {a : Nat} (h : 0 < a) : nI a - 1 = nI (a - 1) := by
  obtain ⟨b, rfl⟩ : ∃ b, a = b + 1 := ⟨a - 1, by omega⟩
  exact nI_pred b
theorem nI_a1 (a : Nat) : nI a + 1 = nI (a + 1) := nI_1 a
/-- an int within 0 and what is below n -/
theorem nI_from {x : Int32} {n : Nat} (hn : n < 2 ^ 31) (h0 : ¬ x < 0) (h1 : x < nI n) : ∃ j : Nat, j < n ∧ x = nI j := by
  obtain ⟨j, hj, rfl⟩ := nI_of h0
  exact ⟨j, (nI_ltI hj hn).mp h1, rfl⟩
theorem Int32_not_le {a b : Int32} : ¬ a ≤ b ↔ b < a := by
  rw [Int32.le_iff_toInt_le, Int32.lt_iff_toInt_lt]
  omega
theorem Int32_not_lt {a b : Int32} : ¬ a < b ↔ b ≤ a := by
  rw [Int32.le_iff_toInt_le, Int32.lt_iff_toInt_lt]
  omega
/-- in a range of numbers, or not -/
theorem nI_in_or {n : Nat} (hn : n < 2 ^ 31) (x : Int32) : (∃ j : Nat, j < n ∧ x = nI j) ∨ (x < 0 ∨ nI n ≤ x) := by
  by_cases h0 : x < 0
  · exact Or.inr (Or.inl h0)
  · by_cases h1 : x < nI n
    · exact Or.inl (nI_from hn h0 h1)
    · exact Or.inr (Or.inr (Int32_not_lt.mp h1))
-- the small helpers of both
theorem f_within (n a b : Int32) (u : zM) : f_X8_isWithin n a b u = some (b2i (decide (a ≤ n ∧ n ≤ b)), u) := by
  unfold f_X8_isWithin
  by_cases h1 : n < a
  · rw [if_pos h1]
    have : ¬ (a ≤ n ∧ n ≤ b) := fun h => Int32_not_le.mpr h1 h.1
    simp [this, b2i]
  · rw [if_neg h1]
    by_cases h2 : b < n
    · rw [if_pos h2]
      have : ¬ (a ≤ n ∧ n ≤ b) := fun h => Int32_not_le.mpr h2 h.2
      simp [this, b2i]
    · rw [if_neg h2]
      have : a ≤ n ∧ n ≤ b := ⟨Int32_not_lt.mp h1, Int32_not_lt.mp h2⟩
      simp [this, b2i]
theorem f_in (n a b : Int32) (u : zM) : f_X9_in n a b u = some (b2i (decide (a ≤ n ∧ n ≤ b)), u) := by
  unfold f_X9_in
  by_cases h1 : n < a
  · rw [if_pos h1]
    have : ¬ (a ≤ n ∧ n ≤ b) := fun h => Int32_not_le.mpr h1 h.1
    simp [this, b2i]
  · rw [if_neg h1]
    by_cases h2 : b < n
    · rw [if_pos h2]
      have : ¬ (a ≤ n ∧ n ≤ b) := fun h => Int32_not_le.mpr h2 h.2
      simp [this, b2i]
    · rw [if_neg h2]
      have : a ≤ n ∧ n ≤ b := ⟨Int32_not_lt.mp h1, Int32_not_lt.mp h2⟩
      simp [this, b2i]
theorem f_asNumber (b : Bool) (u : zM) : f_X8_asNumber (b2i b) u = some (b2i b, u) := by
  unfold f_X8_asNumber
  cases b <;> rfl
