/-! ===== PURE: squares: pure clauses and tokens; what the class's steps and the reference's signs come to ===== -/
abbrev zK : Type := Nat × Nat × Nat × Nat
abbrev zC : Type := Nat × Nat × List zK
abbrev zQ : Type := List zC
def OkK (k : zK) : Prop := k.1 ≤ 3 ∧ k.2.1 < 6 ∧ k.2.2.1 < 3 ∧ k.2.2.2 < 100
def tkX (k : zK) : Int32 := if k.1 = 0 then nI (32 * k.2.2.2 + 8 * k.2.2.1 + k.2.1) else -nI k.1
def tkM (k : zK) : Int32 := if k.1 = 0 then nI (1000 * k.2.1 + 100 * k.2.2.1 + k.2.2.2) else if k.1 = 1 then -nI 33 else if k.1 = 2 then -nI 38 else -nI 124
def TX (u : zM) (a : Nat) : List zK → Nat → Prop
  | [], _ => True
  | k :: ks, i => gI u a i = tkX k ∧ TX u a ks (i + 1)
def TM (u : zM) : List zK → Nat → Prop
  | [], _ => True
  | k :: ks, i => gI u 14 i = tkM k ∧ TM u ks (i + 1)
/-- tokens that go from so many bits on the pile to so many, never above 20 -/
def vK : List zK → Nat → Nat → Prop
  | [], d, e => d = e
  | k :: ks, d, e => OkK k ∧ (if k.1 = 0 then d + 1 ≤ 20 ∧ vK ks (d + 1) e else if k.1 = 1 then 1 ≤ d ∧ vK ks d e else 2 ≤ d ∧ vK ks (d - 1) e)
theorem vK_app : ∀ (a b : List zK) (d e f : Nat), vK a d e → vK b e f → vK (a ++ b) d f := by
  intro a
  induction a with
  | nil =>
    intro b d e f h1 h2
    rw [show d = e from h1]
    exact h2
  | cons k a ih =>
    intro b d e f h1 h2
    refine ⟨h1.1, ?_⟩
    have h3 := h1.2
    by_cases c0 : k.1 = 0
    · rw [if_pos c0] at h3 ⊢
      exact ⟨h3.1, ih b _ e f h3.2 h2⟩
    · rw [if_neg c0] at h3 ⊢
      by_cases c1 : k.1 = 1
      · rw [if_pos c1] at h3 ⊢
        exact ⟨h3.1, ih b _ e f h3.2 h2⟩
      · rw [if_neg c1] at h3 ⊢
        exact ⟨h3.1, ih b _ e f h3.2 h2⟩
def tstB (s x d : Nat) : Bool := if s = 0 then decide (x < d) else if s = 1 then decide (x = d) else decide (d < x)
def stpB (F : Nat → Nat) (st : List Bool) (k : zK) : List Bool := if k.1 = 0 then tstB k.2.2.1 (F k.2.1) k.2.2.2 :: st else if k.1 = 1 then (!st.headD false) :: st.tail else if k.1 = 2 then (st.tail.headD false && st.headD false) :: st.tail.tail else (st.tail.headD false || st.headD false) :: st.tail.tail
def evK (F : Nat → Nat) : List zK → List Bool → List Bool
  | [], st => st
  | k :: ks, st => evK F ks (stpB F st k)
def b2n (b : Bool) : Nat := if b = true then 1 else 0
theorem b2n_le (b : Bool) : b2n b ≤ 1 := by cases b <;> decide
/-- a pile of bits as a number, the top lowest -/
def enc : List Bool → Nat
  | [] => 0
  | b :: st => b2n b + 2 * enc st
theorem enc_lt : ∀ st : List Bool, enc st < 2 ^ st.length := by
  intro st
  induction st with
  | nil => decide
  | cons b st ih =>
    have := b2n_le b
    show b2n b + 2 * enc st < 2 ^ (st.length + 1)
    rw [Nat.pow_succ]
    omega
theorem enc_sm {st : List Bool} (h : st.length ≤ 20) : enc st < 1048577 := Nat.lt_of_lt_of_le (enc_lt st) (Nat.le_trans (Nat.pow_le_pow_right (by decide) h) (by decide))
theorem or_even {e y : Nat} (hy : y ≤ 1) : (2 * e) ||| y = 2 * e + y := by
  have h := Nat.two_pow_add_eq_or_of_lt (i := 1) (b := y) (by omega) e
  rw [show 2 ^ 1 = 2 from rfl] at h
  exact h.symm
theorem nI_or (a b : Nat) : nI a ||| nI b = nI (a ||| b) := Int32.toBitVec_inj.mp (by rw [Int32.toBitVec_or]; exact BitVec.ofNat_or.symm)
theorem nI_xor (a b : Nat) : nI a ^^^ nI b = nI (a ^^^ b) := Int32.toBitVec_inj.mp (by rw [Int32.toBitVec_xor]; exact BitVec.ofNat_xor.symm)
theorem nI_and (a b : Nat) : nI a &&& nI b = nI (a &&& b) := Int32.toBitVec_inj.mp (by rw [Int32.toBitVec_and]; exact BitVec.ofNat_and.symm)
theorem pile_push {e y : Nat} (he : e < 1048577) (hy : y ≤ 1) : ((nI e <<< ((1 : Int32) &&& 31)) ||| nI y) = nI (y + 2 * e) := by
  rw [pk_shlN _ 1 (by decide) (by omega), nI_or, Nat.mul_comm, show 2 ^ 1 = 2 from rfl, or_even hy, Nat.add_comm]
theorem pile_top {e y : Nat} (he : e < 1048577) (hy : y ≤ 1) : (nI (y + 2 * e) &&& (1 : Int32)) = nI y := by
  rw [pk_andN (by omega) 1 (by decide)]
  congr 1
  omega
theorem pile_not {e y : Nat} (he : e < 1048577) (hy : y ≤ 1) : (nI (y + 2 * e) ^^^ (1 : Int32)) = nI ((1 - y) + 2 * e) := by
  rw [show (1 : Int32) = nI 1 from rfl, nI_xor]
  congr 1
  apply Nat.eq_of_testBit_eq
  intro j
  rw [Nat.testBit_xor]
  have h : y = 0 ∨ y = 1 := by omega
  cases j with
  | zero => rcases h with rfl | rfl <;> simp [Nat.testBit_zero, Nat.add_mod]
  | succ j => rcases h with rfl | rfl <;> simp [Nat.testBit_succ, Nat.add_mul_div_left, Nat.add_comm]
theorem pile_shr {e y : Nat} (he : e < 1048577) (hy : y ≤ 1) : (nI (y + 2 * e) >>> ((1 : Int32) &&& 31)) = nI e := by
  rw [pk_shrN (by omega) _ 1 (by decide)]
  congr 1
  omega
theorem m2_even {e : Nat} (he : e < 1048577) {y : Nat} (hy : y ≤ 1) : nI (y + 2 * e) &&& (-2 : Int32) = nI (2 * e) := by
  apply Int32.toBitVec_inj.mp
  apply BitVec.eq_of_getLsbD_eq
  intro j hj
  rw [Int32.toBitVec_and, BitVec.getLsbD_and]
  show ((BitVec.ofNat 32 (y + 2 * e)).getLsbD j && (-2 : Int32).toBitVec.getLsbD j) = (BitVec.ofNat 32 (2 * e)).getLsbD j
  rw [BitVec.getLsbD_ofNat, BitVec.getLsbD_ofNat]
  cases j with
  | zero =>
    have h1 : (-2 : Int32).toBitVec.getLsbD 0 = false := by decide
    rw [h1, Bool.and_false]
    simp [Nat.testBit_zero, Nat.mul_mod_right]
  | succ j =>
    have h1 : ∀ j, j < 31 → (-2 : Int32).toBitVec.getLsbD (j + 1) = true := by decide
    rw [h1 j (by omega), Bool.and_true, Nat.testBit_succ, Nat.testBit_succ, show (y + 2 * e) / 2 = e by omega, show 2 * e / 2 = e by omega]
theorem pile_and {e a b : Nat} (he : e < 1048577) (ha : a ≤ 1) (hb : b ≤ 1) : (nI (b + 2 * e) &&& (nI a ||| (-2 : Int32))) = nI ((if b = 1 ∧ a = 1 then 1 else 0) + 2 * e) := by
  have h : a = 0 ∨ a = 1 := by omega
  rcases h with rfl | rfl
  · rw [if_neg (by omega), show (nI 0 ||| (-2 : Int32)) = -2 from by decide, m2_even he hb, Nat.zero_add]
  · rw [show (nI 1 ||| (-2 : Int32)) = -1 from by decide, show (-1 : Int32) = -1 from rfl, Int32.and_neg_one]
    congr 1
    by_cases c : b = 1
    · rw [if_pos ⟨c, rfl⟩, c]
    · rw [if_neg (by omega)]
      omega
theorem pile_or {e a b : Nat} (he : e < 1048577) (ha : a ≤ 1) (hb : b ≤ 1) : (nI (b + 2 * e) ||| nI a) = nI ((if b = 1 ∨ a = 1 then 1 else 0) + 2 * e) := by
  rw [nI_or]
  congr 1
  have h1 : a = 0 ∨ a = 1 := by omega
  have h2 : b = 0 ∨ b = 1 := by omega
  rcases h1 with rfl | rfl <;> rcases h2 with rfl | rfl
  · rw [Nat.or_zero, if_neg (by omega)]
  · rw [Nat.or_zero, if_pos (by omega)]
  · rw [if_pos (by omega), Nat.zero_add, or_even (by omega), Nat.add_comm]
  · rw [if_pos (by omega)]
    have h := or_even (e := e) (y := 1) (by omega)
    rw [Nat.add_comm 1 (2 * e), ← h, Nat.or_assoc]
    rfl
