/-! ===== PURE, second half: both sides against one pure state ===== -/
theorem nle_t {a b : Nat} (h : a ≤ b) (hb : b < 2147483648) : (nI a ≤ nI b) = True := eq_true (nI_le h hb)
theorem nle_f {a b : Nat} (h : b < a) (ha : a < 2147483648) : (nI a ≤ nI b) = False := eq_false (nI_ge h ha)
theorem nlt_t {a b : Nat} (h : a < b) (hb : b < 2147483648) : (nI a < nI b) = True := eq_true (nI_lt h hb)
theorem nlt_f {a b : Nat} (h : b ≤ a) (ha : a < 2147483648) : (nI a < nI b) = False := eq_false (nI_nlt h ha)
theorem neq_t {a b : Nat} (h : a = b) : (nI a = nI b) = True := eq_true (by rw [h])
theorem neq_f {a b : Nat} (h : a ≠ b) (ha : a < 2147483648) (hb : b < 2147483648) : (nI a = nI b) = False := eq_false (fun q => h ((nI_eq ha hb).mp q))
theorem mI_toInt {a : Nat} (h : a < 2147483648) : (-nI a).toInt = -(a : Int) := sb_negT h
theorem mlt_t {a b : Nat} (h : 0 < a + b) (ha : a < 2147483648) (hb : b < 2147483648) : (-nI a < nI b) = True := eq_true (by
  rw [Int32.lt_iff_toInt_lt, mI_toInt ha, nI_toInt hb]
  omega)
theorem mle_t {a b : Nat} (ha : a < 2147483648) (hb : b < 2147483648) : (-nI a ≤ nI b) = True := eq_true (by
  rw [Int32.le_iff_toInt_le, mI_toInt ha, nI_toInt hb]
  omega)
theorem mlt_f {a b : Nat} (ha : a < 2147483648) (hb : b < 2147483648) : (nI b < -nI a) = False := eq_false (fun q => by
  rw [Int32.lt_iff_toInt_lt, mI_toInt ha, nI_toInt hb] at q
  omega)
theorem mle_f {a b : Nat} (h : 0 < a + b) (ha : a < 2147483648) (hb : b < 2147483648) : (nI b ≤ -nI a) = False := eq_false (fun q => by
  rw [Int32.le_iff_toInt_le, mI_toInt ha, nI_toInt hb] at q
  omega)
theorem meq_f {a b : Nat} (h : 0 < a + b) (ha : a < 2147483648) (hb : b < 2147483648) : (nI b = -nI a) = False := eq_false (fun q => by
  have q := congrArg Int32.toInt q
  rw [mI_toInt ha, nI_toInt hb] at q
  omega)
theorem meq_f2 {a b : Nat} (h : 0 < a + b) (ha : a < 2147483648) (hb : b < 2147483648) : (-nI a = nI b) = False := eq_false (fun q => by
  have q := congrArg Int32.toInt q
  rw [mI_toInt ha, nI_toInt hb] at q
  omega)
theorem mmeq_t {a b : Nat} (h : a = b) : (-nI a = -nI b) = True := eq_true (by rw [h])
theorem mmeq_f {a b : Nat} (h : a ≠ b) (ha : a < 2147483648) (hb : b < 2147483648) : (-nI a = -nI b) = False := eq_false (fun q => by
  have q := congrArg Int32.toInt q
  rw [mI_toInt ha, mI_toInt hb] at q
  omega)
theorem zrem_n {a d : Nat} (ha : a < 2147483648) (h0 : 0 < d) (hd : d < 2147483648) : zrem (nI a) (nI d) = nI (a % d) := pk_rem ha h0 hd
theorem q0 : (0 : Int32) = nI 0 := rfl
theorem q1 : (1 : Int32) = nI 1 := rfl
theorem q2 : (2 : Int32) = nI 2 := rfl
theorem q3 : (3 : Int32) = nI 3 := rfl
theorem q4 : (4 : Int32) = nI 4 := rfl
theorem q5 : (5 : Int32) = nI 5 := rfl
theorem q6 : (6 : Int32) = nI 6 := rfl
theorem q7 : (7 : Int32) = nI 7 := rfl
theorem q8 : (8 : Int32) = nI 8 := rfl
theorem q9 : (9 : Int32) = nI 9 := rfl
theorem q10 : (10 : Int32) = nI 10 := rfl
theorem q11 : (11 : Int32) = nI 11 := rfl
theorem q12 : (12 : Int32) = nI 12 := rfl
theorem q20 : (20 : Int32) = nI 20 := rfl
theorem q24 : (24 : Int32) = nI 24 := rfl
theorem q40 : (40 : Int32) = nI 40 := rfl
theorem q50 : (50 : Int32) = nI 50 := rfl
theorem q60 : (60 : Int32) = nI 60 := rfl
theorem q61 : (61 : Int32) = nI 61 := rfl
theorem q80 : (80 : Int32) = nI 80 := rfl
theorem q99 : (99 : Int32) = nI 99 := rfl
theorem q100 : (100 : Int32) = nI 100 := rfl
theorem q9999 : (9999 : Int32) = nI 9999 := rfl
theorem pnI_neg1 (a : Nat) : nI (a + 1) + -nI 1 = nI a := pk_m1 a
/-! the pure state: T 0 0 people, T 0 1 works, T 0 2 the work on the anvil and 1 (0: none), T 0 3 the minute, T 0 4 the square that holds and 1 (0: none); T 1 kinds, T 2 numbers, T 3 heats, T 4 away, T 5 rows, T 6 needs, T 7 dues, T 8 struck -/
abbrev zT : Type := Nat → Nat → Nat
def tS (T : zT) (c i x : Nat) : zT := fun b j => if b = c ∧ j = i then x else T b j
theorem tS_ap (T : zT) (c i x b j : Nat) : tS T c i x b j = if b = c ∧ j = i then x else T b j := rfl
def OkT (k : Nat) (T : zT) : Prop := T 0 0 ≤ 6 ∧ T 0 1 ≤ 4 ∧ T 0 2 ≤ T 0 1 ∧ T 0 3 ≤ 20000 ∧ T 0 4 ≤ k ∧ (∀ i, i < T 0 0 → T 1 i < 7 ∧ T 2 i ≤ 9 ∧ T 3 i ≤ 99 ∧ T 4 i ≤ 1) ∧ (∀ j, j < 4 * T 0 0 → T 5 j ≤ 9) ∧ ∀ i, i < T 0 1 → 1 ≤ T 6 i ∧ T 6 i ≤ 999 ∧ T 7 i ≤ 60 ∧ T 8 i ≤ 9999
/-- the class's town t shows it -/
def VX (t : Nat) (u : zM) (T : zT) : Prop := gI u t 0 = nI (T 0 0) ∧ gI u t 6 = nI (T 0 1) ∧ gI u t 10 = nI (T 0 2) - nI 1 ∧ gI u t 11 = nI (T 0 3) ∧ gO u t 12 = (if T 0 4 = 0 then none else some (75 + 3 * T 0 4)) ∧ (∀ i, i < T 0 0 → gI u (t + 1) i = nI (T 1 i) ∧ gI u (t + 2) i = nI (T 2 i) ∧ gI u (t + 3) i = nI (T 3 i) ∧ gI u (t + 4) i = nI (T 4 i)) ∧ (∀ j, j < 4 * T 0 0 → gI u (t + 5) j = nI (T 5 j)) ∧ ∀ i, i < T 0 1 → gI u (t + 6) i = nI (T 6 i) ∧ gI u (t + 7) i = nI (T 7 i) ∧ gI u (t + 8) i = nI (T 8 i)
/-- what lies on the anvil, as the reference writes it -/
def mAn (a : Nat) : Int32 := if a = 0 then -nI 5 else nI (a - 1)
/-- the reference's cells from o and slots from s on show it -/
def VM (o s h : Nat) (w : zM) (T : zT) : Prop := gI w 0 (s + 0) = nI (T 0 0) ∧ gI w 0 (s + 2) = nI (T 0 1) ∧ gI w 0 (s + 3) = mAn (T 0 2) ∧ gI w 0 (s + 4) = nI (T 0 3) ∧ gI w 0 h = nI (T 0 4) - nI 1 ∧ (∀ i, i < T 0 0 → gI w (o + 1) i = nI (T 1 i) ∧ gI w (o + 2) i = nI (T 2 i) ∧ gI w (o + 3) i = nI (T 3 i)) ∧ (∀ j, j < 4 * T 0 0 → gI w (o + 4) j = nI (T 5 j)) ∧ (∀ i, i < T 0 1 → gI w (o + 5) i = nI (T 6 i) ∧ gI w (o + 6) i = nI (T 7 i) ∧ gI w (o + 7) i = nI (T 8 i)) ∧ ∃ A, A < 64 ∧ gI w 0 (s + 1) = nI A ∧ ∀ i, i < T 0 0 → abit A i = nI (T 4 i)
theorem VX_cg {t : Nat} {u u' : zM} {T : zT} (h : VX t u T) (h1 : ∀ c k, c ≤ 8 → gI u' (t + c) k = gI u (t + c) k) (h2 : gO u' t 12 = gO u t 12) : VX t u' T := by
  obtain ⟨a1, a2, a3, a4, a5, a6, a7, a8⟩ := h
  have h0 : ∀ k, gI u' t k = gI u t k := fun k => h1 0 k (by omega)
  refine ⟨(h0 _).trans a1, (h0 _).trans a2, (h0 _).trans a3, (h0 _).trans a4, h2.trans a5, fun i hi => ?_, fun j hj => (h1 5 j (by omega)).trans (a7 j hj), fun i hi => ?_⟩
  · obtain ⟨b1, b2, b3, b4⟩ := a6 i hi
    exact ⟨(h1 1 i (by omega)).trans b1, (h1 2 i (by omega)).trans b2, (h1 3 i (by omega)).trans b3, (h1 4 i (by omega)).trans b4⟩
  · obtain ⟨b1, b2, b3⟩ := a8 i hi
    exact ⟨(h1 6 i (by omega)).trans b1, (h1 7 i (by omega)).trans b2, (h1 8 i (by omega)).trans b3⟩
theorem VM_cg {o s h : Nat} {w w' : zM} {T : zT} (hv : VM o s h w T) (h1 : ∀ k, k ≤ 4 → gI w' 0 (s + k) = gI w 0 (s + k)) (h2 : gI w' 0 h = gI w 0 h) (h3 : ∀ c k, 1 ≤ c → c ≤ 7 → gI w' (o + c) k = gI w (o + c) k) : VM o s h w' T := by
  obtain ⟨a1, a2, a3, a4, a5, a6, a7, a8, A, hA, a9, a10⟩ := hv
  refine ⟨(h1 0 (by omega)).trans a1, (h1 2 (by omega)).trans a2, (h1 3 (by omega)).trans a3, (h1 4 (by omega)).trans a4, h2.trans a5, fun i hi => ?_, fun j hj => (h3 4 j (by omega) (by omega)).trans (a7 j hj), fun i hi => ?_, A, hA, (h1 1 (by omega)).trans a9, a10⟩
  · obtain ⟨b1, b2, b3⟩ := a6 i hi
    exact ⟨(h3 1 i (by omega) (by omega)).trans b1, (h3 2 i (by omega) (by omega)).trans b2, (h3 3 i (by omega) (by omega)).trans b3⟩
  · obtain ⟨b1, b2, b3⟩ := a8 i hi
    exact ⟨(h3 5 i (by omega) (by omega)).trans b1, (h3 6 i (by omega) (by omega)).trans b2, (h3 7 i (by omega) (by omega)).trans b3⟩
/-- the same, where the state agrees on what it speaks of -/
def tEq (T T' : zT) : Prop := (∀ k, k ≤ 4 → T' 0 k = T 0 k) ∧ (∀ c i, 1 ≤ c → c ≤ 4 → i < T 0 0 → T' c i = T c i) ∧ (∀ j, j < 4 * T 0 0 → T' 5 j = T 5 j) ∧ ∀ c i, 6 ≤ c → c ≤ 8 → i < T 0 1 → T' c i = T c i
/-! small doors of both -/
theorem hasX_t {t : Nat} {u : zM} {T : zT} {k i : Nat} (h : VX t u T) (ho : OkT k T) (hi : i < T 0 0) : f_X6_hasOne t (nI i) u = some (nI 1, u) := by
  have hn := ho.1
  unfold f_X6_hasOne
  simp (disch := omega) only [↓zb_s, ↓zck_t, ↓zlet_s, ↓zlx_s, ↓zly_s, ↓zmo_n, ↓zmo_s, ↓reduceIte, nle_t, nle_f, nlt_t, nlt_f, neq_t, neq_f, mlt_t, mle_t, mlt_f, mle_f, meq_f, meq_f2, mmeq_t, mmeq_f, inB_n, nI_cl, nI_add, pk_mul, pk_sub, pk_div, zrem_n, q0, q1, q2, q3, q4, q5, q6, q7, q8, q9, q10, q12, q20, q24, q40, q50, q60, q61, q80, q99, q100, q9999, h.1]
theorem hasX_f {t : Nat} {u : zM} {T : zT} {p : Int32} (h : VX t u T) (hp : p < 0 ∨ nI (T 0 0) ≤ p) : f_X6_hasOne t p u = some (nI 0, u) := by
  unfold f_X6_hasOne
  by_cases h0 : p < 0
  · rw [if_pos h0, q0]
  · rw [if_neg h0, h.1, if_pos (hp.elim (fun q => absurd q h0) id), q0]
theorem isM_t {w : zM} {T : zT} {k i : Nat} (h : VM 0 0 13 w T) (ho : OkT k T) (hi : i < T 0 0) : f_X9_isOne (nI i) w = some (nI 1, w) := is1_t h.1 ho.1 hi
theorem isM_f {w : zM} {T : zT} {k : Nat} {p : Int32} (h : VM 0 0 13 w T) (ho : OkT k T) (hp : p < 0 ∨ nI (T 0 0) ≤ p) : f_X9_isOne p w = some (nI 0, w) := is1_f h.1 ho.1 hp
theorem hasWX_t {t : Nat} {u : zM} {T : zT} {k i : Nat} (h : VX t u T) (ho : OkT k T) (hi : i < T 0 1) : f_X6_hasWork t (nI i) u = some (nI 1, u) := by
  have hn := ho.2.1
  unfold f_X6_hasWork
  simp (disch := omega) only [↓zb_s, ↓zck_t, ↓zlet_s, ↓zlx_s, ↓zly_s, ↓zmo_n, ↓zmo_s, ↓reduceIte, nle_t, nle_f, nlt_t, nlt_f, neq_t, neq_f, mlt_t, mle_t, mlt_f, mle_f, meq_f, meq_f2, mmeq_t, mmeq_f, inB_n, nI_cl, nI_add, pk_mul, pk_sub, pk_div, zrem_n, q0, q1, q2, q3, q4, q5, q6, q7, q8, q9, q10, q12, q20, q24, q40, q50, q60, q61, q80, q99, q100, q9999, h.2.1]
theorem hasWX_f {t : Nat} {u : zM} {T : zT} {p : Int32} (h : VX t u T) (hp : p < 0 ∨ nI (T 0 1) ≤ p) : f_X6_hasWork t p u = some (nI 0, u) := by
  unfold f_X6_hasWork
  by_cases h0 : p < 0
  · rw [if_pos h0, q0]
  · rw [if_neg h0, h.2.1, if_pos (hp.elim (fun q => absurd q h0) id), q0]
theorem isWM_t {w : zM} {T : zT} {k i : Nat} (h : VM 0 0 13 w T) (ho : OkT k T) (hi : i < T 0 1) : f_X9_isWork (nI i) w = some (nI 1, w) := iw_t h.2.1 ho.2.1 hi
theorem isWM_f {w : zM} {T : zT} {k : Nat} {p : Int32} (h : VM 0 0 13 w T) (ho : OkT k T) (hp : p < 0 ∨ nI (T 0 1) ≤ p) : f_X9_isWork p w = some (nI 0, w) := iw_f h.2.1 ho.2.1 hp
theorem hasM {w : zM} {T : zT} {k i : Nat} (h : VM 0 0 13 w T) (ho : OkT k T) (hi : i < T 0 0) : f_X9_has (gI w 0 1) (nI i) w = some (nI (T 4 i), w) := by
  obtain ⟨-, -, -, -, -, -, -, -, A, hA, a9, a10⟩ := h
  rw [show gI w 0 1 = nI A from a9, has_bit hA (Nat.lt_of_lt_of_le hi ho.1), a10 i hi]
/-- the hottest one not away, and 1 (0: none) -/
def hotN (T : zT) (i b : Nat) : Nat := if T 4 i = 0 ∧ (b = 0 ∨ T 3 (b - 1) < T 3 i) then i + 1 else b
def hotL (T : zT) : Nat → Nat → Nat → Nat
  | 0, _, b => b
  | k + 1, i, b => hotL T k (i + 1) (hotN T i b)
def hotT (T : zT) : Nat := hotL T (T 0 0) 0 0
theorem hotX {t : Nat} {u : zM} {T : zT} {k : Nat} (h : VX t u T) (ho : OkT k T) : f_X6_hottest t u = some (nI (hotT T) - nI 1, u) := by
  have hl : ∀ j i b fn, i + j = T 0 0 → j < fn → b ≤ i → f_X6_hottest_L4 t fn (nI b - nI 1) (nI i) u = some (nI (hotL T j i b) - nI 1, u) := by
    intro j
    induction j with
    | zero =>
      intro i b fn hi hf hb
      obtain ⟨fn, rfl⟩ : ∃ g, fn = g + 1 := ⟨fn - 1, by omega⟩
      show f_X6_hottest_L4_b _ _ _ _ _ = _
      have hn := ho.1
      unfold f_X6_hottest_L4_b hotL
      rw [h.1, if_pos (nI_le (by omega) (by omega))]
    | succ j ih =>
      intro i b fn hi hf hb
      obtain ⟨fn, rfl⟩ : ∃ g, fn = g + 1 := ⟨fn - 1, by omega⟩
      have hn := ho.1
      obtain ⟨-, -, e3, e4⟩ := h.2.2.2.2.2.1 i (by omega)
      obtain ⟨-, -, o3, o4⟩ := ho.2.2.2.2.2.1 i (by omega)
      show f_X6_hottest_L4_b _ _ _ _ _ = some (nI (hotL T j (i + 1) (hotN T i b)) - nI 1, u)
      unfold f_X6_hottest_L4_b
      rw [h.1]
      by_cases c4 : T 4 i = 0
      · rcases Nat.eq_zero_or_pos b with rfl | hb0
        · have hN : hotN T i 0 = i + 1 := if_pos ⟨c4, Or.inl rfl⟩
          rw [hN, ← ih (i + 1) (i + 1) fn (by omega) (by omega) (by omega)]
          simp (disch := omega) only [↓zb_s, ↓zck_t, ↓zlet_s, ↓zlx_s, ↓zly_s, ↓zmo_n, ↓zmo_s, ↓reduceIte, nle_t, nle_f, nlt_t, nlt_f, neq_t, neq_f, mlt_t, mle_t, mlt_f, mle_f, meq_f, meq_f2, mmeq_t, mmeq_f, inB_n, nI_cl, nI_add, pk_mul, pk_sub, pk_div, zrem_n, q0, q1, q2, q3, q4, q5, q6, q7, q8, q9, q10, q12, q20, q24, q40, q50, q60, q61, q80, q99, q100, q9999, e4, c4, show nI 0 - nI 1 = -nI 1 from rfl, Nat.add_sub_cancel]
        · obtain ⟨-, -, e3', -⟩ := h.2.2.2.2.2.1 (b - 1) (by omega)
          obtain ⟨-, -, o3', -⟩ := ho.2.2.2.2.2.1 (b - 1) (by omega)
          by_cases c3 : T 3 (b - 1) < T 3 i
          · have hN : hotN T i b = i + 1 := if_pos ⟨c4, Or.inr c3⟩
            rw [hN, ← ih (i + 1) (i + 1) fn (by omega) (by omega) (by omega)]
            simp (disch := omega) only [↓zb_s, ↓zck_t, ↓zlet_s, ↓zlx_s, ↓zly_s, ↓zmo_n, ↓zmo_s, ↓reduceIte, nle_t, nle_f, nlt_t, nlt_f, neq_t, neq_f, mlt_t, mle_t, mlt_f, mle_f, meq_f, meq_f2, mmeq_t, mmeq_f, inB_n, nI_cl, nI_add, pk_mul, pk_sub, pk_div, zrem_n, q0, q1, q2, q3, q4, q5, q6, q7, q8, q9, q10, q12, q20, q24, q40, q50, q60, q61, q80, q99, q100, q9999, e4, c4, e3, e3', Nat.add_sub_cancel]
          · have hN : hotN T i b = b := if_neg (by omega)
            rw [hN, ← ih (i + 1) b fn (by omega) (by omega) (by omega)]
            simp (disch := omega) only [↓zb_s, ↓zck_t, ↓zlet_s, ↓zlx_s, ↓zly_s, ↓zmo_n, ↓zmo_s, ↓reduceIte, nle_t, nle_f, nlt_t, nlt_f, neq_t, neq_f, mlt_t, mle_t, mlt_f, mle_f, meq_f, meq_f2, mmeq_t, mmeq_f, inB_n, nI_cl, nI_add, pk_mul, pk_sub, pk_div, zrem_n, q0, q1, q2, q3, q4, q5, q6, q7, q8, q9, q10, q12, q20, q24, q40, q50, q60, q61, q80, q99, q100, q9999, e4, c4, e3, e3']
      · have hN : hotN T i b = b := if_neg (fun q => c4 q.1)
        rw [hN, ← ih (i + 1) b fn (by omega) (by omega) (by omega)]
        simp (disch := omega) only [↓zb_s, ↓zck_t, ↓zlet_s, ↓zlx_s, ↓zly_s, ↓zmo_n, ↓zmo_s, ↓reduceIte, nle_t, nle_f, nlt_t, nlt_f, neq_t, neq_f, mlt_t, mle_t, mlt_f, mle_f, meq_f, meq_f2, mmeq_t, mmeq_f, inB_n, nI_cl, nI_add, pk_mul, pk_sub, pk_div, zrem_n, q0, q1, q2, q3, q4, q5, q6, q7, q8, q9, q10, q12, q20, q24, q40, q50, q60, q61, q80, q99, q100, q9999, e4]
  exact hl (T 0 0) 0 0 400 (by omega) (by have := ho.1; omega) (by omega)
