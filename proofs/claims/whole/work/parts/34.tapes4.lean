/-! ===== PURE: the shift of a tape ===== -/
theorem mul61 (t j i : Nat) : (60 : Int32) * nI t + nI j + nI i = nI (60 * t + j + i) := by
  rw [show (60 : Int32) = nI 60 from rfl, ← nI_add, ← nI_add]
  congr 2
  exact (Int32.ofNat_mul 60 t).symm
theorem s104 {t j t3 j4 k : Nat} {p3 p4 : Int32} (ht : t < 6) (hj : j + k ≤ 60) : ∀ (q i fn : Nat) (u : zM), i + q = k → q < fn → ∃ u', f_X9_shift_L104 (nI t) (nI j) p3 p4 (nI k) fn (nI i) u = f_X9_shift_L141 (nI t) (nI j) p3 p4 (nI k) 400 0 u' ∧ (∀ a b, gI u' a b = gI u a b) ∧ ∀ a b, gJ u' a b = if a = 48 ∧ i ≤ b ∧ b < k then gJ u 47 (60 * t + j + b) else gJ u a b := by
  intro q
  induction q with
  | zero =>
    intro i fn u hi hf
    obtain ⟨fn, rfl⟩ : ∃ g, fn = g + 1 := ⟨fn - 1, by omega⟩
    refine ⟨u, ?_, fun _ _ => rfl, fun a b => by rw [if_neg (by omega)]⟩
    show f_X9_shift_L104_b _ _ _ _ _ _ _ _ = _
    unfold f_X9_shift_L104_b
    rw [if_pos (nI_le (by omega) (by omega))]
  | succ q ih =>
    intro i fn u hi hf
    obtain ⟨fn, rfl⟩ : ∃ g, fn = g + 1 := ⟨fn - 1, by omega⟩
    obtain ⟨u', e, h1, h2⟩ := ih (i + 1) fn (sJ u 48 i (gJ u 47 (60 * t + j + i))) (by omega) (by omega)
    refine ⟨u', ?_, fun a b => h1 a b, fun a b => ?_⟩
    · show f_X9_shift_L104_b _ _ _ _ _ _ _ _ = _
      unfold f_X9_shift_L104_b
      rw [if_neg (nI_ge (by omega) (by omega)), mul61, inB_n (show 60 * t + j + i < 360 by omega) (by decide), inB_n (show i < 60 by omega) (by decide), zck_t, zck_t, zlet_s, nI_cl (by omega), nI_cl (by omega), nI_a1]
      exact e
    · rw [h2, gJ_sJ, gJ_sJ, if_neg (show ¬ ((47 : Nat) = 48 ∧ 60 * t + j + b = i) by omega)]
      by_cases ha : a = 48
      · subst ha
        by_cases hb : b = i
        · subst hb
          rw [if_neg (by omega), if_pos ⟨rfl, rfl⟩, if_pos (by omega)]
        · by_cases hb2 : i + 1 ≤ b ∧ b < k
          · rw [if_pos ⟨rfl, hb2⟩, if_pos (by omega)]
          · rw [if_neg (by omega), if_neg (by omega), if_neg (by omega)]
      · rw [if_neg (by omega), if_neg (by omega), if_neg (by omega)]
theorem s141 {t3 j4 k : Nat} {p1 p2 : Int32} (ht : t3 < 6) (hj : j4 + k ≤ 60) : ∀ (q i fn : Nat) (u : zM), i + q = k → q < fn → ∃ u', f_X9_shift_L141 p1 p2 (nI t3) (nI j4) (nI k) fn (nI i) u = some (nI k, u') ∧ (∀ a b, gI u' a b = gI u a b) ∧ ∀ a b, gJ u' a b = if a = 47 ∧ 60 * t3 + j4 + i ≤ b ∧ b < 60 * t3 + j4 + k then gJ u 48 (b - (60 * t3 + j4)) else gJ u a b := by
  intro q
  induction q with
  | zero =>
    intro i fn u hi hf
    obtain ⟨fn, rfl⟩ : ∃ g, fn = g + 1 := ⟨fn - 1, by omega⟩
    refine ⟨u, ?_, fun _ _ => rfl, fun a b => by rw [if_neg (by omega)]⟩
    show f_X9_shift_L141_b _ _ _ _ _ _ _ _ = _
    unfold f_X9_shift_L141_b
    rw [if_pos (nI_le (by omega) (by omega))]
  | succ q ih =>
    intro i fn u hi hf
    obtain ⟨fn, rfl⟩ : ∃ g, fn = g + 1 := ⟨fn - 1, by omega⟩
    obtain ⟨u', e, h1, h2⟩ := ih (i + 1) fn (sJ u 47 (60 * t3 + j4 + i) (gJ u 48 i)) (by omega) (by omega)
    refine ⟨u', ?_, fun a b => h1 a b, fun a b => ?_⟩
    · show f_X9_shift_L141_b _ _ _ _ _ _ _ _ = _
      unfold f_X9_shift_L141_b
      rw [if_neg (nI_ge (by omega) (by omega)), mul61, inB_n (show i < 60 by omega) (by decide), inB_n (show 60 * t3 + j4 + i < 360 by omega) (by decide), zck_t, zck_t, zlet_s, nI_cl (by omega), nI_cl (by omega), nI_a1]
      exact e
    · rw [h2, gJ_sJ, gJ_sJ, if_neg (show ¬ ((48 : Nat) = 47 ∧ b - (60 * t3 + j4) = 60 * t3 + j4 + i) by omega)]
      by_cases ha : a = 47
      · subst ha
        by_cases hb : b = 60 * t3 + j4 + i
        · subst hb
          rw [if_neg (by omega), if_pos ⟨rfl, rfl⟩, if_pos (by omega), show 60 * t3 + j4 + i - (60 * t3 + j4) = i by omega]
        · by_cases hb2 : 60 * t3 + j4 + (i + 1) ≤ b ∧ b < 60 * t3 + j4 + k
          · rw [if_pos ⟨rfl, hb2⟩, if_pos (by omega)]
          · rw [if_neg (by omega), if_neg (by omega), if_neg (by omega)]
      · rw [if_neg (by omega), if_neg (by omega), if_neg (by omega)]
theorem gd_or {n : Nat} (hn : n ≤ 60) (p c : Int32) : tpGd n p c ∨ ¬ tpGd n p c := Classical.em _
/-- the reference's five questions about the rows -/
theorem gdM {n1 n3 : Nat} {p2 p4 p5 : Int32} (h1 : n1 ≤ 60) (h3 : n3 ≤ 60) {γ : Type} (x y : γ) : (tpGd n1 p2 p5 ∧ tpGd n3 p4 p5 ∧ (if p5 < (0 : Int32) then y else (if p2 < (0 : Int32) then y else (if p4 < (0 : Int32) then y else (if nI n1 - p5 < p2 then y else (if p4 ≤ nI n3 - p5 then x else y))))) = x) ∨ ((¬ tpGd n1 p2 p5 ∨ ¬ tpGd n3 p4 p5) ∧ (if p5 < (0 : Int32) then y else (if p2 < (0 : Int32) then y else (if p4 < (0 : Int32) then y else (if nI n1 - p5 < p2 then y else (if p4 ≤ nI n3 - p5 then x else y))))) = y) := by
  by_cases c5 : p5 < 0
  · refine Or.inr ⟨Or.inl ?_, by rw [if_pos c5]⟩
    rintro ⟨j, k, rfl, rfl, hjk⟩
    exact nI_pos (by omega) c5
  · by_cases c2 : p2 < 0
    · refine Or.inr ⟨Or.inl ?_, by rw [if_neg c5, if_pos c2]⟩
      rintro ⟨j, k, rfl, rfl, hjk⟩
      exact nI_pos (by omega) c2
    · by_cases c4 : p4 < 0
      · refine Or.inr ⟨Or.inr ?_, by rw [if_neg c5, if_neg c2, if_pos c4]⟩
        rintro ⟨j, k, rfl, rfl, hjk⟩
        exact nI_pos (by omega) c4
      · obtain ⟨k, hk, rfl⟩ := nI_of c5
        obtain ⟨j, hj, rfl⟩ := nI_of c2
        obtain ⟨i, hi, rfl⟩ := nI_of c4
        rw [if_neg c5, if_neg c2, if_neg c4]
        by_cases g1 : j + k ≤ n1
        · rw [if_neg (fun q => (sb_lt (by omega) hk hj).mp q g1)]
          by_cases g3 : i + k ≤ n3
          · exact Or.inl ⟨⟨j, k, rfl, rfl, g1⟩, ⟨i, k, rfl, rfl, g3⟩, if_pos ((le_sb (by omega) hk hi).mpr g3)⟩
          · refine Or.inr ⟨Or.inr ?_, if_neg (fun q => g3 ((le_sb (by omega) hk hi).mp q))⟩
            rintro ⟨i', k', e1, e2, e3⟩
            have := (nI_eq hi (by omega)).mp e1
            have := (nI_eq hk (by omega)).mp e2
            omega
        · refine Or.inr ⟨Or.inl ?_, if_pos ((sb_lt (by omega) hk hj).mpr g1)⟩
          rintro ⟨j', k', e1, e2, e3⟩
          have := (nI_eq hj (by omega)).mp e1
          have := (nI_eq hk (by omega)).mp e2
          omega
