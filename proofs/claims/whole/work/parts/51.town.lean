/-! ===== PURE: hottest, works that are done, heats together, beside; both sides ===== -/
theorem mAn_0 : mAn 0 = -nI 5 := rfl
theorem mAn_s (b : Nat) (h : 0 < b) : mAn b = nI (b - 1) := if_neg (by omega)
theorem hotM {w : zM} {T : zT} {k : Nat} (h : VM 0 0 13 w T) (ho : OkT k T) : f_X9_hottest w = some (mAn (hotT T), w) := by
  have hl : ∀ j i b fn, i + j = T 0 0 → j < fn → b ≤ i → f_X9_hottest_L5 fn (mAn b) (nI i) w = some (mAn (hotL T j i b), w) := by
    intro j
    induction j with
    | zero =>
      intro i b fn hi hf hb
      obtain ⟨fn, rfl⟩ : ∃ g, fn = g + 1 := ⟨fn - 1, by omega⟩
      show f_X9_hottest_L5_b _ _ _ _ = _
      have hn := ho.1
      have e0 : gI w 0 0 = nI (T 0 0) := h.1
      unfold f_X9_hottest_L5_b hotL
      rw [e0, if_pos (nI_le (by omega) (by omega))]
    | succ j ih =>
      intro i b fn hi hf hb
      obtain ⟨fn, rfl⟩ : ∃ g, fn = g + 1 := ⟨fn - 1, by omega⟩
      have hn := ho.1
      have e0 : gI w 0 0 = nI (T 0 0) := h.1
      have e3 : gI w 3 i = nI (T 3 i) := (h.2.2.2.2.2.1 i (by omega)).2.2
      obtain ⟨-, -, o3, o4⟩ := ho.2.2.2.2.2.1 i (by omega)
      have hh := hasM h ho (i := i) (by omega)
      show f_X9_hottest_L5_b _ _ _ _ = some (mAn (hotL T j (i + 1) (hotN T i b)), w)
      unfold f_X9_hottest_L5_b
      rw [e0, hh]
      by_cases c4 : T 4 i = 0
      · rcases Nat.eq_zero_or_pos b with rfl | hb0
        · have hN : hotN T i 0 = i + 1 := if_pos ⟨c4, Or.inl rfl⟩
          rw [hN, ← ih (i + 1) (i + 1) fn (by omega) (by omega) (by omega), mAn_0, show mAn (i + 1) = nI i from mAn_s _ (Nat.succ_pos i)]
          simp (disch := omega) only [↓zb_s, ↓zck_t, ↓zlet_s, ↓zlx_s, ↓zly_s, ↓zmo_n, ↓zmo_s, ↓reduceIte, nle_t, nle_f, nlt_t, nlt_f, neq_t, neq_f, mlt_t, mle_t, mlt_f, mle_f, meq_f, meq_f2, mmeq_t, mmeq_f, inB_n, nI_cl, nI_add, pk_mul, pk_sub, pk_div, zrem_n, q0, q1, q2, q3, q4, q5, q6, q7, q8, q9, q10, q12, q20, q24, q40, q50, q60, q61, q80, q99, q100, q9999, c4, Nat.add_sub_cancel]
        · have e3' : gI w 3 (b - 1) = nI (T 3 (b - 1)) := (h.2.2.2.2.2.1 (b - 1) (by omega)).2.2
          obtain ⟨-, -, o3', -⟩ := ho.2.2.2.2.2.1 (b - 1) (by omega)
          by_cases c3 : T 3 (b - 1) < T 3 i
          · have hN : hotN T i b = i + 1 := if_pos ⟨c4, Or.inr c3⟩
            rw [hN, ← ih (i + 1) (i + 1) fn (by omega) (by omega) (by omega), mAn_s b hb0, show mAn (i + 1) = nI i from mAn_s _ (Nat.succ_pos i)]
            simp (disch := omega) only [↓zb_s, ↓zck_t, ↓zlet_s, ↓zlx_s, ↓zly_s, ↓zmo_n, ↓zmo_s, ↓reduceIte, nle_t, nle_f, nlt_t, nlt_f, neq_t, neq_f, mlt_t, mle_t, mlt_f, mle_f, meq_f, meq_f2, mmeq_t, mmeq_f, inB_n, nI_cl, nI_add, pk_mul, pk_sub, pk_div, zrem_n, q0, q1, q2, q3, q4, q5, q6, q7, q8, q9, q10, q12, q20, q24, q40, q50, q60, q61, q80, q99, q100, q9999, c4, e3, e3', Nat.add_sub_cancel]
          · have hN : hotN T i b = b := if_neg (by omega)
            rw [hN, ← ih (i + 1) b fn (by omega) (by omega) (by omega), mAn_s b hb0]
            simp (disch := omega) only [↓zb_s, ↓zck_t, ↓zlet_s, ↓zlx_s, ↓zly_s, ↓zmo_n, ↓zmo_s, ↓reduceIte, nle_t, nle_f, nlt_t, nlt_f, neq_t, neq_f, mlt_t, mle_t, mlt_f, mle_f, meq_f, meq_f2, mmeq_t, mmeq_f, inB_n, nI_cl, nI_add, pk_mul, pk_sub, pk_div, zrem_n, q0, q1, q2, q3, q4, q5, q6, q7, q8, q9, q10, q12, q20, q24, q40, q50, q60, q61, q80, q99, q100, q9999, c4, e3, e3']
      · have hN : hotN T i b = b := if_neg (fun q => c4 q.1)
        rw [hN, ← ih (i + 1) b fn (by omega) (by omega) (by omega)]
        simp (disch := omega) only [↓zb_s, ↓zck_t, ↓zlet_s, ↓zlx_s, ↓zly_s, ↓zmo_n, ↓zmo_s, ↓reduceIte, nle_t, nle_f, nlt_t, nlt_f, neq_t, neq_f, mlt_t, mle_t, mlt_f, mle_f, meq_f, meq_f2, mmeq_t, mmeq_f, inB_n, nI_cl, nI_add, pk_mul, pk_sub, pk_div, zrem_n, q0, q1, q2, q3, q4, q5, q6, q7, q8, q9, q10, q12, q20, q24, q40, q50, q60, q61, q80, q99, q100, q9999]
  exact hl (T 0 0) 0 0 400 (by omega) (by have := ho.1; omega) (by omega)
/-- heats together -/
def sumL (T : zT) : Nat → Nat → Nat → Nat
  | 0, _, b => b
  | k + 1, i, b => sumL T k (i + 1) (b + T 3 i)
def sumT (T : zT) : Nat := sumL T (T 0 0) 0 0
theorem sumX {t : Nat} {u : zM} {T : zT} {k : Nat} (h : VX t u T) (ho : OkT k T) : f_X6_heatOfAll t u = some (nI (sumT T), u) := by
  have hl : ∀ j i b fn, i + j = T 0 0 → j < fn → f_X6_heatOfAll_L4 t fn (nI b) (nI i) u = some (nI (sumL T j i b), u) := by
    intro j
    induction j with
    | zero =>
      intro i b fn hi hf
      obtain ⟨fn, rfl⟩ : ∃ g, fn = g + 1 := ⟨fn - 1, by omega⟩
      show f_X6_heatOfAll_L4_b _ _ _ _ _ = _
      have hn := ho.1
      unfold f_X6_heatOfAll_L4_b sumL
      rw [h.1, if_pos (nI_le (by omega) (by omega))]
    | succ j ih =>
      intro i b fn hi hf
      obtain ⟨fn, rfl⟩ : ∃ g, fn = g + 1 := ⟨fn - 1, by omega⟩
      have hn := ho.1
      obtain ⟨-, -, e3, -⟩ := h.2.2.2.2.2.1 i (by omega)
      show f_X6_heatOfAll_L4_b _ _ _ _ _ = _
      unfold f_X6_heatOfAll_L4_b sumL
      rw [h.1, ← ih (i + 1) (b + T 3 i) fn (by omega) (by omega)]
      simp (disch := omega) only [↓zb_s, ↓zck_t, ↓zlet_s, ↓zlx_s, ↓zly_s, ↓zmo_n, ↓zmo_s, ↓reduceIte, nle_t, nle_f, nlt_t, nlt_f, neq_t, neq_f, mlt_t, mle_t, mlt_f, mle_f, meq_f, meq_f2, mmeq_t, mmeq_f, inB_n, nI_cl, nI_add, pk_mul, pk_sub, pk_div, zrem_n, q0, q1, q2, q3, q4, q5, q6, q7, q8, q9, q10, q12, q20, q24, q40, q50, q60, q61, q80, q99, q100, q9999, e3]
  exact hl (T 0 0) 0 0 400 (by omega) (by have := ho.1; omega)
theorem sumM {w : zM} {T : zT} {k : Nat} (h : VM 0 0 13 w T) (ho : OkT k T) : f_X9_allHeat w = some (nI (sumT T), w) := by
  have hl : ∀ j i b fn, i + j = T 0 0 → j < fn → f_X9_allHeat_L4 fn (nI b) (nI i) w = some (nI (sumL T j i b), w) := by
    intro j
    induction j with
    | zero =>
      intro i b fn hi hf
      obtain ⟨fn, rfl⟩ : ∃ g, fn = g + 1 := ⟨fn - 1, by omega⟩
      show f_X9_allHeat_L4_b _ _ _ _ = _
      have hn := ho.1
      have e0 : gI w 0 0 = nI (T 0 0) := h.1
      unfold f_X9_allHeat_L4_b sumL
      rw [e0, if_pos (nI_le (by omega) (by omega))]
    | succ j ih =>
      intro i b fn hi hf
      obtain ⟨fn, rfl⟩ : ∃ g, fn = g + 1 := ⟨fn - 1, by omega⟩
      have hn := ho.1
      have e0 : gI w 0 0 = nI (T 0 0) := h.1
      have e3 : gI w 3 i = nI (T 3 i) := (h.2.2.2.2.2.1 i (by omega)).2.2
      show f_X9_allHeat_L4_b _ _ _ _ = _
      unfold f_X9_allHeat_L4_b sumL
      rw [e0, ← ih (i + 1) (b + T 3 i) fn (by omega) (by omega)]
      simp (disch := omega) only [↓zb_s, ↓zck_t, ↓zlet_s, ↓zlx_s, ↓zly_s, ↓zmo_n, ↓zmo_s, ↓reduceIte, nle_t, nle_f, nlt_t, nlt_f, neq_t, neq_f, mlt_t, mle_t, mlt_f, mle_f, meq_f, meq_f2, mmeq_t, mmeq_f, inB_n, nI_cl, nI_add, pk_mul, pk_sub, pk_div, zrem_n, q0, q1, q2, q3, q4, q5, q6, q7, q8, q9, q10, q12, q20, q24, q40, q50, q60, q61, q80, q99, q100, q9999, e3]
  exact hl (T 0 0) 0 0 400 (by omega) (by have := ho.1; omega)
theorem sumL_le {T : zT} {k : Nat} (ho : OkT k T) : ∀ j i b, i + j = T 0 0 → sumL T j i b ≤ b + 99 * j := by
  intro j
  induction j with
  | zero => intro i b hi; exact Nat.le_add_right _ _
  | succ j ih =>
    intro i b hi
    have h1 := ih (i + 1) (b + T 3 i) (by omega)
    obtain ⟨-, -, o3, -⟩ := ho.2.2.2.2.2.1 i (by omega)
    show sumL T j (i + 1) (b + T 3 i) ≤ _
    omega
theorem sumT_le {T : zT} {k : Nat} (ho : OkT k T) : sumT T ≤ 594 := by
  have h1 := sumL_le ho (T 0 0) 0 0 (by omega)
  have := ho.1
  unfold sumT
  omega
/-- which works are done, as bits -/
def donT (T : zT) (i : Nat) : Prop := T 6 i ≤ T 8 i
def dnL (T : zT) : Nat → Nat → Nat → Nat
  | 0, _, b => b
  | k + 1, i, b => dnL T k (i + 1) (if T 6 i ≤ T 8 i then aset b i else b)
def dnT (T : zT) : Nat := dnL T (T 0 1) 0 0
theorem aset_lt : ∀ A, A < 64 → ∀ i, i < 6 → aset A i < 64 := fun A hA i hi => (ab_set A hA i hi).2
theorem isDX {t : Nat} {u : zM} {T : zT} {k i : Nat} (h : VX t u T) (ho : OkT k T) (hi : i < T 0 1) : f_X6_isDone t (nI i) u = some (nI (if T 6 i ≤ T 8 i then 1 else 0), u) := by
  have hm := ho.2.1
  obtain ⟨e6, -, e8⟩ := h.2.2.2.2.2.2.2 i hi
  obtain ⟨o1, o2, o3, o4⟩ := ho.2.2.2.2.2.2.2 i hi
  unfold f_X6_isDone
  rw [hasWX_t h ho hi]
  by_cases c : T 6 i ≤ T 8 i
  · rw [if_pos c]
    simp (disch := omega) only [↓zb_s, ↓zck_t, ↓zlet_s, ↓zlx_s, ↓zly_s, ↓zmo_n, ↓zmo_s, ↓reduceIte, nle_t, nle_f, nlt_t, nlt_f, neq_t, neq_f, mlt_t, mle_t, mlt_f, mle_f, meq_f, meq_f2, mmeq_t, mmeq_f, inB_n, nI_cl, nI_add, pk_mul, pk_sub, pk_div, zrem_n, q0, q1, q2, q3, q4, q5, q6, q7, q8, q9, q10, q12, q20, q24, q40, q50, q60, q61, q80, q99, q100, q9999, e6, e8]
  · rw [if_neg c]
    simp (disch := omega) only [↓zb_s, ↓zck_t, ↓zlet_s, ↓zlx_s, ↓zly_s, ↓zmo_n, ↓zmo_s, ↓reduceIte, nle_t, nle_f, nlt_t, nlt_f, neq_t, neq_f, mlt_t, mle_t, mlt_f, mle_f, meq_f, meq_f2, mmeq_t, mmeq_f, inB_n, nI_cl, nI_add, pk_mul, pk_sub, pk_div, zrem_n, q0, q1, q2, q3, q4, q5, q6, q7, q8, q9, q10, q12, q20, q24, q40, q50, q60, q61, q80, q99, q100, q9999, e6, e8]
theorem isDM {w : zM} {T : zT} {k i : Nat} (h : VM 0 0 13 w T) (ho : OkT k T) (hi : i < T 0 1) : f_X9_isDone (nI i) w = some (nI (if T 6 i ≤ T 8 i then 1 else 0), w) := by
  have hm := ho.2.1
  have e5 : gI w 5 i = nI (T 6 i) := (h.2.2.2.2.2.2.2.1 i hi).1
  have e7 : gI w 7 i = nI (T 8 i) := (h.2.2.2.2.2.2.2.1 i hi).2.2
  obtain ⟨o1, o2, o3, o4⟩ := ho.2.2.2.2.2.2.2 i hi
  unfold f_X9_isDone
  by_cases c : T 6 i ≤ T 8 i
  · rw [if_pos c]
    simp (disch := omega) only [↓zb_s, ↓zck_t, ↓zlet_s, ↓zlx_s, ↓zly_s, ↓zmo_n, ↓zmo_s, ↓reduceIte, nle_t, nle_f, nlt_t, nlt_f, neq_t, neq_f, mlt_t, mle_t, mlt_f, mle_f, meq_f, meq_f2, mmeq_t, mmeq_f, inB_n, nI_cl, nI_add, pk_mul, pk_sub, pk_div, zrem_n, q0, q1, q2, q3, q4, q5, q6, q7, q8, q9, q10, q12, q20, q24, q40, q50, q60, q61, q80, q99, q100, q9999, e5, e7]
  · rw [if_neg c]
    simp (disch := omega) only [↓zb_s, ↓zck_t, ↓zlet_s, ↓zlx_s, ↓zly_s, ↓zmo_n, ↓zmo_s, ↓reduceIte, nle_t, nle_f, nlt_t, nlt_f, neq_t, neq_f, mlt_t, mle_t, mlt_f, mle_f, meq_f, meq_f2, mmeq_t, mmeq_f, inB_n, nI_cl, nI_add, pk_mul, pk_sub, pk_div, zrem_n, q0, q1, q2, q3, q4, q5, q6, q7, q8, q9, q10, q12, q20, q24, q40, q50, q60, q61, q80, q99, q100, q9999, e5, e7]
theorem dnX {t : Nat} {u : zM} {T : zT} {k : Nat} (h : VX t u T) (ho : OkT k T) : f_X6_doneBits t u = some (nI (dnT T), u) := by
  have hl : ∀ j i b fn, i + j = T 0 1 → j < fn → b < 64 → f_X6_doneBits_L4 t fn (nI b) (nI i) u = some (nI (dnL T j i b), u) := by
    intro j
    induction j with
    | zero =>
      intro i b fn hi hf hb
      obtain ⟨fn, rfl⟩ : ∃ g, fn = g + 1 := ⟨fn - 1, by omega⟩
      show f_X6_doneBits_L4_b _ _ _ _ _ = _
      have hn := ho.2.1
      unfold f_X6_doneBits_L4_b dnL
      rw [h.2.1, if_pos (nI_le (by omega) (by omega))]
    | succ j ih =>
      intro i b fn hi hf hb
      obtain ⟨fn, rfl⟩ : ∃ g, fn = g + 1 := ⟨fn - 1, by omega⟩
      have hn := ho.2.1
      have hd := isDX h ho (i := i) (by omega)
      have hs := (ab_set b hb i (by omega)).1
      show f_X6_doneBits_L4_b _ _ _ _ _ = _
      unfold f_X6_doneBits_L4_b dnL
      rw [h.2.1, hd]
      by_cases c : T 6 i ≤ T 8 i
      · rw [if_pos c, if_pos c, ← ih (i + 1) (aset b i) fn (by omega) (by omega) (aset_lt b hb i (by omega)), if_neg (nI_ge (by omega) (by omega)), zb_s, if_neg (by decide), zlx_s, hs, nI_a1]
      · rw [if_neg c, if_neg c, ← ih (i + 1) b fn (by omega) (by omega) hb]
        simp (disch := omega) only [↓zb_s, ↓zck_t, ↓zlet_s, ↓zlx_s, ↓zly_s, ↓zmo_n, ↓zmo_s, ↓reduceIte, nle_t, nle_f, nlt_t, nlt_f, neq_t, neq_f, mlt_t, mle_t, mlt_f, mle_f, meq_f, meq_f2, mmeq_t, mmeq_f, inB_n, nI_cl, nI_add, pk_mul, pk_sub, pk_div, zrem_n, q0, q1, q2, q3, q4, q5, q6, q7, q8, q9, q10, q12, q20, q24, q40, q50, q60, q61, q80, q99, q100, q9999]
  exact hl (T 0 1) 0 0 400 (by omega) (by have := ho.2.1; omega) (by omega)
theorem dnM {w : zM} {T : zT} {k : Nat} (h : VM 0 0 13 w T) (ho : OkT k T) : f_X9_doneSet w = some (nI (dnT T), w) := by
  have hl : ∀ j i b fn, i + j = T 0 1 → j < fn → b < 64 → f_X9_doneSet_L4 fn (nI b) (nI i) w = some (nI (dnL T j i b), w) := by
    intro j
    induction j with
    | zero =>
      intro i b fn hi hf hb
      obtain ⟨fn, rfl⟩ : ∃ g, fn = g + 1 := ⟨fn - 1, by omega⟩
      show f_X9_doneSet_L4_b _ _ _ _ = _
      have hn := ho.2.1
      have e0 : gI w 0 2 = nI (T 0 1) := h.2.1
      unfold f_X9_doneSet_L4_b dnL
      rw [e0, if_pos (nI_le (by omega) (by omega))]
    | succ j ih =>
      intro i b fn hi hf hb
      obtain ⟨fn, rfl⟩ : ∃ g, fn = g + 1 := ⟨fn - 1, by omega⟩
      have hn := ho.2.1
      have e0 : gI w 0 2 = nI (T 0 1) := h.2.1
      have hd := isDM h ho (i := i) (by omega)
      have hs := (ab_set b hb i (by omega)).1
      show f_X9_doneSet_L4_b _ _ _ _ = _
      unfold f_X9_doneSet_L4_b dnL
      rw [e0, hd]
      by_cases c : T 6 i ≤ T 8 i
      · rw [if_pos c, if_pos c, ← ih (i + 1) (aset b i) fn (by omega) (by omega) (aset_lt b hb i (by omega)), if_neg (nI_ge (by omega) (by omega)), zb_s, if_neg (by decide), zlx_s, hs, nI_a1]
      · rw [if_neg c, if_neg c, ← ih (i + 1) b fn (by omega) (by omega) hb, if_neg (nI_ge (by omega) (by omega)), zb_s, if_pos (by decide), zlx_s, Int32.or_zero, nI_a1]
  exact hl (T 0 1) 0 0 400 (by omega) (by have := ho.2.1; omega) (by omega)
theorem dnL_lt {T : zT} {k : Nat} (ho : OkT k T) : ∀ j i b, i + j = T 0 1 → b < 64 → dnL T j i b < 64 := by
  intro j
  induction j with
  | zero => intro i b hi hb; exact hb
  | succ j ih =>
    intro i b hi hb
    have hm := ho.2.1
    refine ih (i + 1) _ (by omega) ?_
    split
    · exact aset_lt b hb i (by omega)
    · exact hb
theorem dnT_lt {T : zT} {k : Nat} (ho : OkT k T) : dnT T < 64 := dnL_lt ho _ 0 0 (by omega) (by omega)
/-- how many of those next to one, not away, have at least so much heat -/
def besA (T : zT) (i l : Nat) : Nat := if 0 < i ∧ T 4 (i - 1) = 0 ∧ l ≤ T 3 (i - 1) then 1 else 0
def besB (T : zT) (i l : Nat) : Nat := if i + 1 < T 0 0 ∧ T 4 (i + 1) = 0 ∧ l ≤ T 3 (i + 1) then 1 else 0
def besT (T : zT) (i l : Nat) : Nat := besA T i l + besB T i l
theorem besT_le (T : zT) (i l : Nat) : besT T i l ≤ 2 := by
  unfold besT besA besB
  split <;> split <;> omega
theorem besX {t : Nat} {u : zM} {T : zT} {k i l : Nat} (h : VX t u T) (ho : OkT k T) (hi : i < T 0 0) (hl : l < 2147483648) : f_X6_countBeside t (nI i) (nI l) u = some (nI (besT T i l), u) := by
  have hn := ho.1
  have h2 : ∀ x, f_X6_countBeside_L38 t (nI i) (nI l) (nI x) u = some (nI (x + besB T i l), u) := by
    intro x
    unfold f_X6_countBeside_L38
    rw [nI_a1]
    by_cases c1 : i + 1 < T 0 0
    · obtain ⟨-, -, e3, e4⟩ := h.2.2.2.2.2.1 (i + 1) c1
      obtain ⟨-, -, o3, o4⟩ := ho.2.2.2.2.2.1 (i + 1) c1
      rw [hasX_t h ho c1]
      by_cases c2 : T 4 (i + 1) = 0
      · by_cases c3 : l ≤ T 3 (i + 1)
        · rw [show besB T i l = 1 from if_pos ⟨c1, c2, c3⟩]
          simp (disch := omega) only [↓zb_s, ↓zck_t, ↓zlet_s, ↓zlx_s, ↓zly_s, ↓zmo_n, ↓zmo_s, ↓reduceIte, nle_t, nle_f, nlt_t, nlt_f, neq_t, neq_f, mlt_t, mle_t, mlt_f, mle_f, meq_f, meq_f2, mmeq_t, mmeq_f, inB_n, nI_cl, nI_add, pk_mul, pk_sub, pk_div, zrem_n, q0, q1, q2, q3, q4, q5, q6, q7, q8, q9, q10, q12, q20, q24, q40, q50, q60, q61, q80, q99, q100, q9999, e3, e4, c2]
        · rw [show besB T i l = 0 from if_neg (by omega)]
          simp (disch := omega) only [↓zb_s, ↓zck_t, ↓zlet_s, ↓zlx_s, ↓zly_s, ↓zmo_n, ↓zmo_s, ↓reduceIte, nle_t, nle_f, nlt_t, nlt_f, neq_t, neq_f, mlt_t, mle_t, mlt_f, mle_f, meq_f, meq_f2, mmeq_t, mmeq_f, inB_n, nI_cl, nI_add, pk_mul, pk_sub, pk_div, zrem_n, q0, q1, q2, q3, q4, q5, q6, q7, q8, q9, q10, q12, q20, q24, q40, q50, q60, q61, q80, q99, q100, q9999, e3, e4, c2, Nat.add_zero]
      · rw [show besB T i l = 0 from if_neg (by omega)]
        simp (disch := omega) only [↓zb_s, ↓zck_t, ↓zlet_s, ↓zlx_s, ↓zly_s, ↓zmo_n, ↓zmo_s, ↓reduceIte, nle_t, nle_f, nlt_t, nlt_f, neq_t, neq_f, mlt_t, mle_t, mlt_f, mle_f, meq_f, meq_f2, mmeq_t, mmeq_f, inB_n, nI_cl, nI_add, pk_mul, pk_sub, pk_div, zrem_n, q0, q1, q2, q3, q4, q5, q6, q7, q8, q9, q10, q12, q20, q24, q40, q50, q60, q61, q80, q99, q100, q9999, e3, e4, Nat.add_zero]
    · rw [show besB T i l = 0 from if_neg (by omega), hasX_f h (Or.inr (nI_le (by omega) (by omega)))]
      simp (disch := omega) only [↓zb_s, ↓zck_t, ↓zlet_s, ↓zlx_s, ↓zly_s, ↓zmo_n, ↓zmo_s, ↓reduceIte, nle_t, nle_f, nlt_t, nlt_f, neq_t, neq_f, mlt_t, mle_t, mlt_f, mle_f, meq_f, meq_f2, mmeq_t, mmeq_f, inB_n, nI_cl, nI_add, pk_mul, pk_sub, pk_div, zrem_n, q0, q1, q2, q3, q4, q5, q6, q7, q8, q9, q10, q12, q20, q24, q40, q50, q60, q61, q80, q99, q100, q9999, Nat.add_zero]
  unfold f_X6_countBeside besT
  by_cases c0 : 0 < i
  · have hi1 : nI i - 1 = nI (i - 1) := nI_m1 c0
    obtain ⟨-, -, e3, e4⟩ := h.2.2.2.2.2.1 (i - 1) (by omega)
    obtain ⟨-, -, o3, o4⟩ := ho.2.2.2.2.2.1 (i - 1) (by omega)
    rw [hi1, hasX_t h ho (i := i - 1) (by omega)]
    by_cases c2 : T 4 (i - 1) = 0
    · by_cases c3 : l ≤ T 3 (i - 1)
      · rw [show besA T i l = 1 from if_pos ⟨c0, c2, c3⟩]
        simp (disch := omega) only [↓zb_s, ↓zck_t, ↓zlet_s, ↓zlx_s, ↓zly_s, ↓zmo_n, ↓zmo_s, ↓reduceIte, nle_t, nle_f, nlt_t, nlt_f, neq_t, neq_f, mlt_t, mle_t, mlt_f, mle_f, meq_f, meq_f2, mmeq_t, mmeq_f, inB_n, nI_cl, nI_add, pk_mul, pk_sub, pk_div, zrem_n, q0, q1, q2, q3, q4, q5, q6, q7, q8, q9, q10, q12, q20, q24, q40, q50, q60, q61, q80, q99, q100, q9999, e3, e4, c2, h2]
      · rw [show besA T i l = 0 from if_neg (by omega)]
        simp (disch := omega) only [↓zb_s, ↓zck_t, ↓zlet_s, ↓zlx_s, ↓zly_s, ↓zmo_n, ↓zmo_s, ↓reduceIte, nle_t, nle_f, nlt_t, nlt_f, neq_t, neq_f, mlt_t, mle_t, mlt_f, mle_f, meq_f, meq_f2, mmeq_t, mmeq_f, inB_n, nI_cl, nI_add, pk_mul, pk_sub, pk_div, zrem_n, q0, q1, q2, q3, q4, q5, q6, q7, q8, q9, q10, q12, q20, q24, q40, q50, q60, q61, q80, q99, q100, q9999, e3, e4, c2, h2]
    · rw [show besA T i l = 0 from if_neg (by omega)]
      simp (disch := omega) only [↓zb_s, ↓zck_t, ↓zlet_s, ↓zlx_s, ↓zly_s, ↓zmo_n, ↓zmo_s, ↓reduceIte, nle_t, nle_f, nlt_t, nlt_f, neq_t, neq_f, mlt_t, mle_t, mlt_f, mle_f, meq_f, meq_f2, mmeq_t, mmeq_f, inB_n, nI_cl, nI_add, pk_mul, pk_sub, pk_div, zrem_n, q0, q1, q2, q3, q4, q5, q6, q7, q8, q9, q10, q12, q20, q24, q40, q50, q60, q61, q80, q99, q100, q9999, e3, e4, h2]
  · obtain rfl : i = 0 := by omega
    rw [show besA T 0 l = 0 from if_neg (by omega), hasX_f h (Or.inl (by decide))]
    simp (disch := omega) only [↓zb_s, ↓zck_t, ↓zlet_s, ↓zlx_s, ↓zly_s, ↓zmo_n, ↓zmo_s, ↓reduceIte, nle_t, nle_f, nlt_t, nlt_f, neq_t, neq_f, mlt_t, mle_t, mlt_f, mle_f, meq_f, meq_f2, mmeq_t, mmeq_f, inB_n, nI_cl, nI_add, pk_mul, pk_sub, pk_div, zrem_n, q0, q1, q2, q3, q4, q5, q6, q7, q8, q9, q10, q12, q20, q24, q40, q50, q60, q61, q80, q99, q100, q9999, h2]
theorem besM {w : zM} {T : zT} {k i l : Nat} (h : VM 0 0 13 w T) (ho : OkT k T) (hi : i < T 0 0) (hl : l < 2147483648) : f_X9_beside (nI i) (nI l) w = some (nI (besT T i l), w) := by
  have hn := ho.1
  have e0 : gI w 0 0 = nI (T 0 0) := h.1
  have h2 : ∀ x, f_X9_beside_L35 (nI i) (nI l) (nI x) w = some (nI (x + besB T i l), w) := by
    intro x
    unfold f_X9_beside_L35
    rw [nI_a1, e0]
    by_cases c1 : i + 1 < T 0 0
    · have e3 : gI w 3 (i + 1) = nI (T 3 (i + 1)) := (h.2.2.2.2.2.1 (i + 1) c1).2.2
      obtain ⟨-, -, o3, o4⟩ := ho.2.2.2.2.2.1 (i + 1) c1
      rw [hasM h ho c1]
      by_cases c2 : T 4 (i + 1) = 0
      · by_cases c3 : l ≤ T 3 (i + 1)
        · rw [show besB T i l = 1 from if_pos ⟨c1, c2, c3⟩]
          simp (disch := omega) only [↓zb_s, ↓zck_t, ↓zlet_s, ↓zlx_s, ↓zly_s, ↓zmo_n, ↓zmo_s, ↓reduceIte, nle_t, nle_f, nlt_t, nlt_f, neq_t, neq_f, mlt_t, mle_t, mlt_f, mle_f, meq_f, meq_f2, mmeq_t, mmeq_f, inB_n, nI_cl, nI_add, pk_mul, pk_sub, pk_div, zrem_n, q0, q1, q2, q3, q4, q5, q6, q7, q8, q9, q10, q12, q20, q24, q40, q50, q60, q61, q80, q99, q100, q9999, e3, c2]
        · rw [show besB T i l = 0 from if_neg (by omega)]
          simp (disch := omega) only [↓zb_s, ↓zck_t, ↓zlet_s, ↓zlx_s, ↓zly_s, ↓zmo_n, ↓zmo_s, ↓reduceIte, nle_t, nle_f, nlt_t, nlt_f, neq_t, neq_f, mlt_t, mle_t, mlt_f, mle_f, meq_f, meq_f2, mmeq_t, mmeq_f, inB_n, nI_cl, nI_add, pk_mul, pk_sub, pk_div, zrem_n, q0, q1, q2, q3, q4, q5, q6, q7, q8, q9, q10, q12, q20, q24, q40, q50, q60, q61, q80, q99, q100, q9999, e3, c2, Nat.add_zero]
      · rw [show besB T i l = 0 from if_neg (by omega)]
        simp (disch := omega) only [↓zb_s, ↓zck_t, ↓zlet_s, ↓zlx_s, ↓zly_s, ↓zmo_n, ↓zmo_s, ↓reduceIte, nle_t, nle_f, nlt_t, nlt_f, neq_t, neq_f, mlt_t, mle_t, mlt_f, mle_f, meq_f, meq_f2, mmeq_t, mmeq_f, inB_n, nI_cl, nI_add, pk_mul, pk_sub, pk_div, zrem_n, q0, q1, q2, q3, q4, q5, q6, q7, q8, q9, q10, q12, q20, q24, q40, q50, q60, q61, q80, q99, q100, q9999, e3, Nat.add_zero]
    · rw [show besB T i l = 0 from if_neg (by omega)]
      simp (disch := omega) only [↓zb_s, ↓zck_t, ↓zlet_s, ↓zlx_s, ↓zly_s, ↓zmo_n, ↓zmo_s, ↓reduceIte, nle_t, nle_f, nlt_t, nlt_f, neq_t, neq_f, mlt_t, mle_t, mlt_f, mle_f, meq_f, meq_f2, mmeq_t, mmeq_f, inB_n, nI_cl, nI_add, pk_mul, pk_sub, pk_div, zrem_n, q0, q1, q2, q3, q4, q5, q6, q7, q8, q9, q10, q12, q20, q24, q40, q50, q60, q61, q80, q99, q100, q9999, Nat.add_zero]
  unfold f_X9_beside besT
  by_cases c0 : 0 < i
  · have hi1 : nI i - 1 = nI (i - 1) := nI_m1 c0
    have e3 : gI w 3 (i - 1) = nI (T 3 (i - 1)) := (h.2.2.2.2.2.1 (i - 1) (by omega)).2.2
    obtain ⟨-, -, o3, o4⟩ := ho.2.2.2.2.2.1 (i - 1) (by omega)
    rw [hi1, hasM h ho (i := i - 1) (by omega)]
    by_cases c2 : T 4 (i - 1) = 0
    · by_cases c3 : l ≤ T 3 (i - 1)
      · rw [show besA T i l = 1 from if_pos ⟨c0, c2, c3⟩]
        simp (disch := omega) only [↓zb_s, ↓zck_t, ↓zlet_s, ↓zlx_s, ↓zly_s, ↓zmo_n, ↓zmo_s, ↓reduceIte, nle_t, nle_f, nlt_t, nlt_f, neq_t, neq_f, mlt_t, mle_t, mlt_f, mle_f, meq_f, meq_f2, mmeq_t, mmeq_f, inB_n, nI_cl, nI_add, pk_mul, pk_sub, pk_div, zrem_n, q0, q1, q2, q3, q4, q5, q6, q7, q8, q9, q10, q12, q20, q24, q40, q50, q60, q61, q80, q99, q100, q9999, e3, c2, h2]
      · rw [show besA T i l = 0 from if_neg (by omega)]
        simp (disch := omega) only [↓zb_s, ↓zck_t, ↓zlet_s, ↓zlx_s, ↓zly_s, ↓zmo_n, ↓zmo_s, ↓reduceIte, nle_t, nle_f, nlt_t, nlt_f, neq_t, neq_f, mlt_t, mle_t, mlt_f, mle_f, meq_f, meq_f2, mmeq_t, mmeq_f, inB_n, nI_cl, nI_add, pk_mul, pk_sub, pk_div, zrem_n, q0, q1, q2, q3, q4, q5, q6, q7, q8, q9, q10, q12, q20, q24, q40, q50, q60, q61, q80, q99, q100, q9999, e3, c2, h2]
    · rw [show besA T i l = 0 from if_neg (by omega)]
      simp (disch := omega) only [↓zb_s, ↓zck_t, ↓zlet_s, ↓zlx_s, ↓zly_s, ↓zmo_n, ↓zmo_s, ↓reduceIte, nle_t, nle_f, nlt_t, nlt_f, neq_t, neq_f, mlt_t, mle_t, mlt_f, mle_f, meq_f, meq_f2, mmeq_t, mmeq_f, inB_n, nI_cl, nI_add, pk_mul, pk_sub, pk_div, zrem_n, q0, q1, q2, q3, q4, q5, q6, q7, q8, q9, q10, q12, q20, q24, q40, q50, q60, q61, q80, q99, q100, q9999, e3, h2]
  · obtain rfl : i = 0 := by omega
    rw [show besA T 0 l = 0 from if_neg (by omega)]
    simp (disch := omega) only [↓zb_s, ↓zck_t, ↓zlet_s, ↓zlx_s, ↓zly_s, ↓zmo_n, ↓zmo_s, ↓reduceIte, nle_t, nle_f, nlt_t, nlt_f, neq_t, neq_f, mlt_t, mle_t, mlt_f, mle_f, meq_f, meq_f2, mmeq_t, mmeq_f, inB_n, nI_cl, nI_add, pk_mul, pk_sub, pk_div, zrem_n, q0, q1, q2, q3, q4, q5, q6, q7, q8, q9, q10, q12, q20, q24, q40, q50, q60, q61, q80, q99, q100, q9999, h2]
