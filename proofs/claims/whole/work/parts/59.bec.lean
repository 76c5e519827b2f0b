/-! ===== PURE: a town becomes another ===== -/
theorem nar01 : ∀ x, x ≤ 1 → vp_nar .boolean (nI x) = nI x := by decide
theorem becX {t o k : Nat} {u : zM} {T : zT} (hd : o + 10 < t ∨ t + 10 < o) (h : VX o u T) (ho : OkT k T) (hk : k ≤ 6) : ∃ u', f_X6_become t o u = some ((), u') ∧ VX t u' T ∧ xfr t u u' := by
  have hn := ho.1
  have hm := ho.2.1
  obtain ⟨a1, a2, a3, a4, a5, a6, a7, a8⟩ := h
  have hl : ∀ j i fn (u1 : zM), i + j = 6 → j < fn → ∃ u2, f_X6_become_L55 t o fn (nI i) u1 = f_X6_become_L55_b t o (fun _ _ => none) (6 : Int32) u2 ∧ (∀ a x, a ≠ t + 4 → gI u2 a x = gI u1 a x) ∧ (∀ x, x < i → gI u2 (t + 4) x = gI u1 (t + 4) x) ∧ (∀ x, i ≤ x → x < 6 → gI u2 (t + 4) x = vp_nar .boolean (gI u1 (o + 4) x)) ∧ (∀ a x, gJ u2 a x = gJ u1 a x) ∧ ∀ a x, gO u2 a x = gO u1 a x := by
    intro j
    induction j with
    | zero =>
      intro i fn u1 hi hf
      obtain ⟨fn, rfl⟩ : ∃ g, fn = g + 1 := ⟨fn - 1, by omega⟩
      obtain rfl : i = 6 := by omega
      exact ⟨u1, rfl, fun _ _ _ => rfl, fun _ _ => rfl, fun x h1 h2 => absurd h2 (by omega), fun _ _ => rfl, fun _ _ => rfl⟩
    | succ j ih =>
      intro i fn u1 hi hf
      obtain ⟨fn, rfl⟩ : ∃ g, fn = g + 1 := ⟨fn - 1, by omega⟩
      obtain ⟨u2, r1, r2, r3, r4, r5, r6⟩ := ih (i + 1) fn (sI u1 (t + 4) i (vp_nar .boolean (gI u1 (o + 4) i))) (by omega) (by omega)
      refine ⟨u2, ?_, fun a x q => ?_, fun x hx => ?_, fun x h1 h2 => ?_, r5, r6⟩
      · show f_X6_become_L55_b t o (f_X6_become_L55 t o fn) (nI i) u1 = _
        have hcl : (nI i).toNatClampNeg = i := nI_cl (by omega)
        have e : f_X6_become_L55_b t o (f_X6_become_L55 t o fn) (nI i) u1 = f_X6_become_L55 t o fn (nI (i + 1)) (sI u1 (t + 4) i (vp_nar .boolean (gI u1 (o + 4) i))) := by
          unfold f_X6_become_L55_b
          rw [if_neg (show ¬ (6 : Int32) ≤ nI i from nI_ge (b := 6) (by omega) (by decide)), inB_n (show i < 6 by omega) (by decide), zck_t, zck_t, zlet_s, hcl, nI_a1]
        exact e.trans r1
      · rw [r2 a x q, gI_sI, if_neg (fun h => q h.1)]
      · rw [r3 x (by omega), gI_sI, if_neg (by omega)]
      · by_cases cx : x = i
        · rw [r3 x (by omega), gI_sI, if_pos ⟨rfl, cx⟩, cx]
        · rw [r4 x (by omega) h2, gI_sI, if_neg (by omega)]
  obtain ⟨u2, r1, r2, r3, r4, r5, r6⟩ := hl 6 0 400 (cpI (cpI (cpI (sI u t 0 (gI u o 0)) (o + 1) 0 (t + 1) 0 6) (o + 2) 0 (t + 2) 0 6) (o + 3) 0 (t + 3) 0 6) (by decide) (by decide)
  have src : ∀ a x, (a < t ∨ t + 11 ≤ a) → gI u2 a x = gI u a x := by
    intro a x q
    rw [r2 a x (by omega), gI_cpI, if_neg (by omega), gI_cpI, if_neg (by omega), gI_cpI, if_neg (by omega), gI_sI, if_neg (by omega)]
  have b1 : ∀ x, x < 6 → gI u2 (t + 1) x = gI u (o + 1) x := by
    intro x hx
    rw [r2 _ x (by omega), gI_cpI, if_neg (by omega), gI_cpI, if_neg (by omega), gI_cpI, if_pos (by omega), gI_sI, if_neg (by omega), Nat.zero_add, Nat.sub_zero]
  have b2 : ∀ x, x < 6 → gI u2 (t + 2) x = gI u (o + 2) x := by
    intro x hx
    rw [r2 _ x (by omega), gI_cpI, if_neg (by omega), gI_cpI, if_pos (by omega), gI_cpI, if_neg (by omega), gI_sI, if_neg (by omega), Nat.zero_add, Nat.sub_zero]
  have b3 : ∀ x, x < 6 → gI u2 (t + 3) x = gI u (o + 3) x := by
    intro x hx
    rw [r2 _ x (by omega), gI_cpI, if_pos (by omega), gI_cpI, if_neg (by omega), gI_cpI, if_neg (by omega), gI_sI, if_neg (by omega), Nat.zero_add, Nat.sub_zero]
  have b4 : ∀ x, x < 6 → gI u2 (t + 4) x = vp_nar .boolean (gI u (o + 4) x) := by
    intro x hx
    rw [r4 x (by omega) hx, gI_cpI, if_neg (by omega), gI_cpI, if_neg (by omega), gI_cpI, if_neg (by omega), gI_sI, if_neg (by omega)]
  have b0 : gI u2 t 0 = gI u o 0 := by
    rw [r2 t 0 (by omega), gI_cpI, if_neg (by omega), gI_cpI, if_neg (by omega), gI_cpI, if_neg (by omega), gI_sI, if_pos ⟨rfl, rfl⟩]
  have s1 : cpB (0 : Int32) (0 : Int32) (6 : Int32) 6 6 = true := by decide
  have s2 : cpB (0 : Int32) (0 : Int32) (24 : Int32) 24 24 = true := by decide
  have s3 : cpB (0 : Int32) (0 : Int32) (4 : Int32) 4 4 = true := by decide
  have go : ∀ w : Option Nat, (w = none ∨ ∃ q, w = some q ∧ isQ q = true) → gO u o 12 = w → f_X6_become t o u = some ((), sO (sI (sI (cpI (cpI (cpI (sI (cpI u2 (o + 5) 0 (t + 5) 0 24) t 6 (gI u o 6)) (o + 6) 0 (t + 6) 0 4) (o + 7) 0 (t + 7) 0 4) (o + 8) 0 (t + 8) 0 4) t 10 (gI u o 10)) t 11 (gI u o 11)) t 12 w) := by
    intro w hw hg
    have e1 : f_X6_become t o u = f_X6_become_L55_b t o (fun _ _ => none) (6 : Int32) u2 := by
      unfold f_X6_become
      rw [s1, zlet_s, zck_t, zlet_s, zck_t, zlet_s, zck_t, zlet_s]
      exact r1
    rw [e1]
    unfold f_X6_become_L55_b
    rw [if_pos (by decide), s2, s3, zck_t, zlet_s, zlet_s, zck_t, zlet_s, zck_t, zlet_s, zck_t, zlet_s, zlet_s, zlet_s]
    have k6 : gI (cpI u2 (o + 5) (0 : Int32).toNatClampNeg (t + 5) (0 : Int32).toNatClampNeg (24 : Int32).toNatClampNeg) o 6 = gI u o 6 := by
      rw [gI_cpI, if_neg (by omega), src o 6 (by omega)]
    rw [k6]
    have k10 : gI (cpI (cpI (cpI (sI (cpI u2 (o + 5) (0 : Int32).toNatClampNeg (t + 5) (0 : Int32).toNatClampNeg (24 : Int32).toNatClampNeg) t 6 (gI u o 6)) (o + 6) (0 : Int32).toNatClampNeg (t + 6) (0 : Int32).toNatClampNeg (4 : Int32).toNatClampNeg) (o + 7) (0 : Int32).toNatClampNeg (t + 7) (0 : Int32).toNatClampNeg (4 : Int32).toNatClampNeg) (o + 8) (0 : Int32).toNatClampNeg (t + 8) (0 : Int32).toNatClampNeg (4 : Int32).toNatClampNeg) o 10 = gI u o 10 := by
      rw [gI_cpI, if_neg (by omega), gI_cpI, if_neg (by omega), gI_cpI, if_neg (by omega), gI_sI, if_neg (by omega), gI_cpI, if_neg (by omega), src o 10 (by omega)]
    rw [k10]
    have k11 : gI (sI (cpI (cpI (cpI (sI (cpI u2 (o + 5) (0 : Int32).toNatClampNeg (t + 5) (0 : Int32).toNatClampNeg (24 : Int32).toNatClampNeg) t 6 (gI u o 6)) (o + 6) (0 : Int32).toNatClampNeg (t + 6) (0 : Int32).toNatClampNeg (4 : Int32).toNatClampNeg) (o + 7) (0 : Int32).toNatClampNeg (t + 7) (0 : Int32).toNatClampNeg (4 : Int32).toNatClampNeg) (o + 8) (0 : Int32).toNatClampNeg (t + 8) (0 : Int32).toNatClampNeg (4 : Int32).toNatClampNeg) t 10 (gI u o 10)) o 11 = gI u o 11 := by
      rw [gI_sI, if_neg (by omega), gI_cpI, if_neg (by omega), gI_cpI, if_neg (by omega), gI_cpI, if_neg (by omega), gI_sI, if_neg (by omega), gI_cpI, if_neg (by omega), src o 11 (by omega)]
    rw [k11]
    have kO : gO (sI (sI (cpI (cpI (cpI (sI (cpI u2 (o + 5) (0 : Int32).toNatClampNeg (t + 5) (0 : Int32).toNatClampNeg (24 : Int32).toNatClampNeg) t 6 (gI u o 6)) (o + 6) (0 : Int32).toNatClampNeg (t + 6) (0 : Int32).toNatClampNeg (4 : Int32).toNatClampNeg) (o + 7) (0 : Int32).toNatClampNeg (t + 7) (0 : Int32).toNatClampNeg (4 : Int32).toNatClampNeg) (o + 8) (0 : Int32).toNatClampNeg (t + 8) (0 : Int32).toNatClampNeg (4 : Int32).toNatClampNeg) t 10 (gI u o 10)) t 11 (gI u o 11)) o 12 = w := (r6 o 12).trans hg
    rw [kO]
    rcases hw with rfl | ⟨q, rfl, hq⟩
    · rfl
    · rw [zmo_s, hq, zck_t, zlet_s]
      rfl
  have hO : gO u o 12 = none ∨ ∃ q, gO u o 12 = some q ∧ isQ q = true := by
    rw [a5]
    have := ho.2.2.2.2.1
    by_cases c : T 0 4 = 0
    · exact Or.inl (if_pos c)
    · exact Or.inr ⟨_, if_neg c, isQ_ok _ (by omega) (by omega)⟩
  refine ⟨_, go _ hO rfl, ⟨?_, ?_, ?_, ?_, ?_, fun i hi => ?_, fun j hj => ?_, fun i hi => ?_⟩, ⟨fun a x q => ?_, fun a x => r5 a x, fun a x q => ?_⟩⟩
  · rw [gI_sO, gI_sI, if_neg (by omega), gI_sI, if_neg (by omega), gI_cpI, if_neg (by omega), gI_cpI, if_neg (by omega), gI_cpI, if_neg (by omega), gI_sI, if_neg (by omega), gI_cpI, if_neg (by omega), b0]
    exact a1
  · rw [gI_sO, gI_sI, if_neg (by omega), gI_sI, if_neg (by omega), gI_cpI, if_neg (by omega), gI_cpI, if_neg (by omega), gI_cpI, if_neg (by omega), gI_sI, if_pos ⟨rfl, rfl⟩]
    exact a2
  · rw [gI_sO, gI_sI, if_neg (by omega), gI_sI, if_pos ⟨rfl, rfl⟩]
    exact a3
  · rw [gI_sO, gI_sI, if_pos ⟨rfl, rfl⟩]
    exact a4
  · rw [gO_sO, if_pos ⟨rfl, rfl⟩]
    exact a5
  · obtain ⟨d1, d2, d3, d4⟩ := a6 i hi
    have o4 := (ho.2.2.2.2.2.1 i hi).2.2.2
    refine ⟨?_, ?_, ?_, ?_⟩
    · rw [gI_sO, gI_sI, if_neg (by omega), gI_sI, if_neg (by omega), gI_cpI, if_neg (by omega), gI_cpI, if_neg (by omega), gI_cpI, if_neg (by omega), gI_sI, if_neg (by omega), gI_cpI, if_neg (by omega), b1 i (by omega), d1]
    · rw [gI_sO, gI_sI, if_neg (by omega), gI_sI, if_neg (by omega), gI_cpI, if_neg (by omega), gI_cpI, if_neg (by omega), gI_cpI, if_neg (by omega), gI_sI, if_neg (by omega), gI_cpI, if_neg (by omega), b2 i (by omega), d2]
    · rw [gI_sO, gI_sI, if_neg (by omega), gI_sI, if_neg (by omega), gI_cpI, if_neg (by omega), gI_cpI, if_neg (by omega), gI_cpI, if_neg (by omega), gI_sI, if_neg (by omega), gI_cpI, if_neg (by omega), b3 i (by omega), d3]
    · rw [gI_sO, gI_sI, if_neg (by omega), gI_sI, if_neg (by omega), gI_cpI, if_neg (by omega), gI_cpI, if_neg (by omega), gI_cpI, if_neg (by omega), gI_sI, if_neg (by omega), gI_cpI, if_neg (by omega), b4 i (by omega), d4, nar01 _ o4]
  · rw [gI_sO, gI_sI, if_neg (by omega), gI_sI, if_neg (by omega), gI_cpI, if_neg (by omega), gI_cpI, if_neg (by omega), gI_cpI, if_neg (by omega), gI_sI, if_neg (by omega), gI_cpI, if_pos (by omega), Nat.zero_add, Nat.sub_zero, src _ j (by omega)]
    exact a7 j hj
  · obtain ⟨d1, d2, d3⟩ := a8 i hi
    refine ⟨?_, ?_, ?_⟩
    · rw [gI_sO, gI_sI, if_neg (by omega), gI_sI, if_neg (by omega), gI_cpI, if_neg (by omega), gI_cpI, if_neg (by omega), gI_cpI, if_pos (by omega), gI_sI, if_neg (by omega), gI_cpI, if_neg (by omega), Nat.zero_add, Nat.sub_zero, src _ i (by omega), d1]
    · rw [gI_sO, gI_sI, if_neg (by omega), gI_sI, if_neg (by omega), gI_cpI, if_neg (by omega), gI_cpI, if_pos (by omega), gI_cpI, if_neg (by omega), gI_sI, if_neg (by omega), gI_cpI, if_neg (by omega), Nat.zero_add, Nat.sub_zero, src _ i (by omega), d2]
    · rw [gI_sO, gI_sI, if_neg (by omega), gI_sI, if_neg (by omega), gI_cpI, if_pos (by omega), gI_cpI, if_neg (by omega), gI_cpI, if_neg (by omega), gI_sI, if_neg (by omega), gI_cpI, if_neg (by omega), Nat.zero_add, Nat.sub_zero, src _ i (by omega), d3]
  · rw [gI_sO, gI_sI, if_neg (by omega), gI_sI, if_neg (by omega), gI_cpI, if_neg (by omega), gI_cpI, if_neg (by omega), gI_cpI, if_neg (by omega), gI_sI, if_neg (by omega), gI_cpI, if_neg (by omega), src a x q]
  · rw [gO_sO, if_neg (by omega)]
    exact r6 a x
