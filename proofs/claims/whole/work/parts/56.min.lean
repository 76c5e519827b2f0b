/-! ===== PURE: a minute goes ===== -/
def clN (y : Int32) : Nat := (if y < 0 then (0 : Int32) else if y < 99 then y else 99).toNatClampNeg
theorem clN_x (y : Int32) : (if (0 : Int32) < (if y < (99 : Int32) then y else (99 : Int32)) then (if y < (99 : Int32) then y else (99 : Int32)) else (0 : Int32)) = nI (clN y) ∧ clN y ≤ 99 := by
  unfold clN
  by_cases h0 : y < 0
  · have h99 : y < 99 := by
      rw [Int32.lt_iff_toInt_lt] at h0 ⊢
      have e0 : (0 : Int32).toInt = 0 := by decide
      have e9 : (99 : Int32).toInt = 99 := by decide
      omega
    have hn : ¬ (0 : Int32) < y := fun q => by
      rw [Int32.lt_iff_toInt_lt] at h0 q
      omega
    rw [if_pos h99, if_neg hn, if_pos h0]
    exact ⟨rfl, by decide⟩
  · obtain ⟨j, hj, rfl⟩ := nI_of h0
    rw [if_neg h0]
    by_cases h9 : j < 99
    · rw [if_pos (show nI j < (99 : Int32) from nI_lt (b := 99) h9 (by decide)), nI_cl hj]
      by_cases hz : j = 0
      · subst hz
        exact ⟨rfl, by decide⟩
      · rw [if_pos (show (0 : Int32) < nI j from nI_lt (a := 0) (by omega) hj)]
        exact ⟨rfl, by omega⟩
    · rw [if_neg (show ¬ nI j < (99 : Int32) from nI_nlt (b := 99) (by omega) hj)]
      exact ⟨rfl, by decide⟩
theorem clN_m (y : Int32) (w : zM) : f_X9_held y w = some (nI (clN y), w) := by
  unfold f_X9_held f_X9_least clN
  by_cases h0 : y < 0
  · rw [if_neg (Int32_not_le.mpr h0), if_pos h0]
    rfl
  · obtain ⟨j, hj, rfl⟩ := nI_of h0
    rw [if_pos (Int32_not_lt.mp h0), if_neg h0]
    by_cases h9 : j < 99
    · rw [if_neg (show ¬ (99 : Int32) ≤ nI j from nI_ge (b := 99) h9 (by decide)), zb_s, if_pos (show nI j < (99 : Int32) from nI_lt (b := 99) h9 (by decide)), nI_cl hj]
    · rw [if_pos (show (99 : Int32) ≤ nI j from nI_le (a := 99) (by omega) hj), zb_s, if_neg (show ¬ nI j < (99 : Int32) from nI_nlt (b := 99) (by omega) hj)]
      rfl
theorem hotL_le {T : zT} : ∀ j i b, i + j = T 0 0 → b ≤ i → hotL T j i b ≤ T 0 0 := by
  intro j
  induction j with
  | zero => intro i b hi hb; show b ≤ _; omega
  | succ j ih =>
    intro i b hi hb
    refine ih (i + 1) _ (by omega) ?_
    unfold hotN
    split <;> omega
theorem hotT_le (T : zT) : hotT T ≤ T 0 0 := hotL_le _ 0 0 (by omega) (by omega)
theorem hotL_aw {T : zT} : ∀ j i b, (b = 0 ∨ T 4 (b - 1) = 0) → hotL T j i b = 0 ∨ T 4 (hotL T j i b - 1) = 0 := by
  intro j
  induction j with
  | zero => intro i b hb; exact hb
  | succ j ih =>
    intro i b hb
    refine ih (i + 1) _ ?_
    unfold hotN
    split
    · rename_i h
      exact Or.inr h.1
    · exact hb
/-- who gives his heat, and 1 (0: nobody) -/
def givT (T : zT) : Nat := if 0 < T 0 2 ∧ T 8 (T 0 2 - 1) < T 6 (T 0 2 - 1) then hotT T else 0
theorem givT_le (T : zT) : givT T ≤ T 0 0 := by
  unfold givT
  split
  · exact hotT_le T
  · exact Nat.zero_le _
theorem givT_pos {T : zT} (h : 0 < givT T) : 0 < T 0 2 := by
  unfold givT at h
  split at h
  · rename_i h2
    exact h2.1
  · omega
def hvT (sqs : Nat → zQ) (T : zT) (i : Nat) : Nat := clN (nI (T 3 i) + (riseT sqs T i + nI 10 * nI (besT T i (spkT sqs T))))
def nhT (sqs : Nat → zQ) (T : zT) (i : Nat) : Nat := if T 4 i = 0 ∧ givT T ≠ i + 1 then hvT sqs T i else T 3 i
def fhT (sqs : Nat → zQ) (T : zT) (i : Nat) : Nat := if givT T = i + 1 then 0 else if T 4 i = 0 then hvT sqs T i else T 3 i
def skT (T : zT) (i : Nat) : Nat := if 0 < givT T ∧ i + 1 = T 0 2 then (if T 8 i + T 3 (givT T - 1) < 9999 then T 8 i + T 3 (givT T - 1) else 9999) else T 8 i
def stepT (sqs : Nat → zQ) (T : zT) : zT := fun c i => if c = 3 then fhT sqs T i else if c = 8 then skT T i else if c = 0 ∧ i = 3 then T 0 3 + 1 else T c i
theorem hvT_le (sqs : Nat → zQ) (T : zT) (i : Nat) : hvT sqs T i ≤ 99 := (clN_x _).2
theorem OkT_step {k : Nat} {sqs : Nat → zQ} {T : zT} (ho : OkT k T) (hm : T 0 3 < 20000) : OkT k (stepT sqs T) := by
  obtain ⟨a1, a2, a3, a4, a5, a6, a7, a8⟩ := ho
  refine ⟨a1, a2, a3, ?_, a5, fun i hi => ?_, a7, fun i hi => ?_⟩
  · show T 0 3 + 1 ≤ 20000
    omega
  · obtain ⟨b1, b2, b3, b4⟩ := a6 i hi
    refine ⟨b1, b2, ?_, b4⟩
    show fhT sqs T i ≤ 99
    have := hvT_le sqs T i
    unfold fhT
    split
    · omega
    · split <;> omega
  · obtain ⟨b1, b2, b3, b4⟩ := a8 i hi
    refine ⟨b1, b2, b3, ?_⟩
    show skT T i ≤ 9999
    unfold skT
    split
    · split <;> omega
    · omega
/-- nothing outside the class's town t has changed -/
def xfr (t : Nat) (u u' : zM) : Prop := (∀ a k, (a < t ∨ t + 11 ≤ a) → gI u' a k = gI u a k) ∧ (∀ a k, gJ u' a k = gJ u a k) ∧ ∀ a k, (a < t ∨ t + 11 ≤ a) → gO u' a k = gO u a k
theorem xfr_rf (t : Nat) (u : zM) : xfr t u u := ⟨fun _ _ _ => rfl, fun _ _ => rfl, fun _ _ _ => rfl⟩
theorem xfr_tr {t : Nat} {u v w : zM} (h : xfr t u v) (g : xfr t v w) : xfr t u w := ⟨fun a k q => (g.1 a k q).trans (h.1 a k q), fun a k => (g.2.1 a k).trans (h.2.1 a k), fun a k q => (g.2.2 a k q).trans (h.2.2 a k q)⟩
theorem minX {t k : Nat} {u : zM} {T : zT} {sqs : Nat → zQ} (h : VX t u T) (ho : OkT k T) (hs : OkS k sqs) (hq : SqX k u sqs) (ht : t + 10 < 78) : ∃ u', f_X6_goOneMinute t u = some ((), u') ∧ VX t u' (stepT sqs T) ∧ xfr t u u' := by
  have hn := ho.1
  have hm := ho.2.1
  have ha := ho.2.2.1
  have hM := ho.2.2.2.1
  have hg := givT_le T
  have hsp := spkT_le hs ho
  have fin : ∀ u2 : zM, (∀ a j, a ≠ t + 8 → a ≠ t + 9 → a ≠ t + 10 → gI u2 a j = gI u a j) → (∀ a j, gJ u2 a j = gJ u a j) → (∀ a j, gO u2 a j = gO u a j) → (∀ x, x < T 0 0 → gI u2 (t + 9) x = nI (fhT sqs T x)) → (∀ x, x < T 0 1 → gI u2 (t + 8) x = nI (skT T x)) → ∃ u', f_X6_goOneMinute_L161 t u2 = some ((), u') ∧ VX t u' (stepT sqs T) ∧ xfr t u u' := by
    intro u2 g1 g2 g3 g4 g5
    refine ⟨sI (cpI u2 (t + 9) 0 (t + 3) 0 6) t 11 (gI (cpI u2 (t + 9) 0 (t + 3) 0 6) t 11 + 1), ?_, ?_, ⟨fun a j hj => ?_, g2, fun a j _ => g3 a j⟩⟩
    · unfold f_X6_goOneMinute_L161
      rw [show cpB (0 : Int32) (0 : Int32) (6 : Int32) 6 6 = true from by decide, zck_t, zlet_s, zlet_s]
      rfl
    · obtain ⟨a1, a2, a3, a4, a5, a6, a7, a8⟩ := h
      have ho3 : ∀ a j, a ≠ t + 3 → a ≠ t → gI (sI (cpI u2 (t + 9) 0 (t + 3) 0 6) t 11 (gI (cpI u2 (t + 9) 0 (t + 3) 0 6) t 11 + 1)) a j = gI u2 a j := fun a j q1 q2 => by rw [gI_sI, if_neg (fun q => q2 q.1), gI_cpI, if_neg (fun q => q1 q.1)]
      have ho0 : ∀ j, j ≠ 11 → gI (sI (cpI u2 (t + 9) 0 (t + 3) 0 6) t 11 (gI (cpI u2 (t + 9) 0 (t + 3) 0 6) t 11 + 1)) t j = gI u t j := fun j q1 => by rw [gI_sI, if_neg (fun q => q1 q.2), gI_cpI, if_neg (by omega), g1 t j (by omega) (by omega) (by omega)]
      refine ⟨(ho0 _ (by decide)).trans a1, (ho0 _ (by decide)).trans a2, (ho0 _ (by decide)).trans a3, ?_, (g3 _ _).trans a5, fun i hi => ?_, fun j hj => ?_, fun i hi => ?_⟩
      · rw [gI_sI, if_pos ⟨rfl, rfl⟩, gI_cpI, if_neg (by omega), g1 t 11 (by omega) (by omega) (by omega), a4, nI_a1]
        rfl
      · obtain ⟨b1, b2, b3, b4⟩ := a6 i hi
        have hi : i < T 0 0 := hi
        refine ⟨(ho3 _ _ (by omega) (by omega)).trans ((g1 _ _ (by omega) (by omega) (by omega)).trans b1), (ho3 _ _ (by omega) (by omega)).trans ((g1 _ _ (by omega) (by omega) (by omega)).trans b2), ?_, (ho3 _ _ (by omega) (by omega)).trans ((g1 _ _ (by omega) (by omega) (by omega)).trans b4)⟩
        rw [gI_sI, if_neg (by omega), gI_cpI, if_pos ⟨rfl, by omega, by omega⟩, Nat.zero_add, Nat.sub_zero, g4 i hi]
        rfl
      · exact (ho3 _ _ (by omega) (by omega)).trans ((g1 _ _ (by omega) (by omega) (by omega)).trans (a7 j hj))
      · obtain ⟨b1, b2, b3⟩ := a8 i hi
        exact ⟨(ho3 _ _ (by omega) (by omega)).trans ((g1 _ _ (by omega) (by omega) (by omega)).trans b1), (ho3 _ _ (by omega) (by omega)).trans ((g1 _ _ (by omega) (by omega) (by omega)).trans b2), (ho3 _ _ (by omega) (by omega)).trans (g5 i hi)⟩
    · rw [gI_sI, if_neg (by omega), gI_cpI, if_neg (by omega), g1 a j (by omega) (by omega) (by omega)]
  have hl : ∀ j i fn (u1 : zM), i + j = T 0 0 → j < fn → (∀ a x, a ≠ t + 9 → a ≠ t + 10 → gI u1 a x = gI u a x) → (∀ a x, gJ u1 a x = gJ u a x) → (∀ a x, gO u1 a x = gO u a x) → (∀ x, x < i → gI u1 (t + 9) x = nI (nhT sqs T x)) → ∃ u', f_X6_goOneMinute_L38 t fn (nI (givT T) - nI 1) (nI (spkT sqs T)) (nI i) u1 = some ((), u') ∧ VX t u' (stepT sqs T) ∧ xfr t u u' := by
    intro j
    induction j with
    | zero =>
      intro i fn u1 hi hf g1 g2 g3 g4
      obtain ⟨fn, rfl⟩ : ∃ g, fn = g + 1 := ⟨fn - 1, by omega⟩
      have hV : VX t u1 T := VX_cg h (fun c x hc => g1 _ _ (by omega) (by omega)) (g3 _ _)
      show ∃ u', f_X6_goOneMinute_L38_b _ _ _ _ _ _ = _ ∧ _
      unfold f_X6_goOneMinute_L38_b
      rw [hV.1, if_pos (nI_le (by omega) (by omega))]
      by_cases c0 : givT T = 0
      · rw [c0, if_pos (show (nI 0 - nI 1 : Int32) < 0 by decide)]
        refine fin u1 (fun a x _ q1 q2 => g1 a x q1 q2) g2 g3 (fun x hx => ?_) (fun x hx => ?_)
        · rw [g4 x (by omega)]
          unfold nhT fhT
          rw [c0]
          by_cases c4 : T 4 x = 0
          · rw [if_pos ⟨c4, by omega⟩, if_neg (by omega), if_pos c4]
          · rw [if_neg (fun q => c4 q.1), if_neg (by omega), if_neg c4]
        · rw [g1 _ _ (by omega) (by omega), (h.2.2.2.2.2.2.2 x hx).2.2]
          unfold skT
          rw [if_neg (by omega)]
      · have hp : 0 < T 0 2 := givT_pos (by omega)
        have e3 := (hV.2.2.2.2.2.1 (givT T - 1) (by omega)).2.2.1
        have e8 := (hV.2.2.2.2.2.2.2 (T 0 2 - 1) (by omega)).2.2
        have o3 := (ho.2.2.2.2.2.1 (givT T - 1) (by omega)).2.2.1
        have o8 := (ho.2.2.2.2.2.2.2 (T 0 2 - 1) (by omega)).2.2.2
        have e10 : gI u1 t 10 = nI (T 0 2 - 1) := by
          rw [hV.2.2.1, pk_sub (by omega)]
        rw [pk_sub (show 1 ≤ givT T by omega), if_neg (nI_pos (by omega)), e10, inB_n (show T 0 2 - 1 < 4 by omega) (by decide), zck_t, inB_n (show givT T - 1 < 6 by omega) (by decide), zck_t, zck_t, nI_cl (n := T 0 2 - 1) (by omega), nI_cl (n := givT T - 1) (by omega), e3, e8, nI_add, zlet_s, zck_t, zlet_s]
        refine fin _ (fun a x q0 q1 q2 => ?_) g2 g3 (fun x hx => ?_) (fun x hx => ?_)
        · rw [gI_sI, if_neg (fun q => q1 q.1), gI_sI, if_neg (fun q => q0 q.1), g1 a x q1 q2]
        · rw [gI_sI]
          by_cases cx : x = givT T - 1
          · rw [if_pos ⟨rfl, cx⟩]
            unfold fhT
            rw [if_pos (by omega)]
            rfl
          · rw [if_neg (fun q => cx q.2), gI_sI, if_neg (by omega), g4 x (by omega)]
            unfold nhT fhT
            by_cases c4 : T 4 x = 0
            · rw [if_pos ⟨c4, by omega⟩, if_neg (by omega), if_pos c4]
            · rw [if_neg (fun q => c4 q.1), if_neg (by omega), if_neg c4]
        · rw [gI_sI, if_neg (by omega), gI_sI]
          unfold skT
          by_cases cx : x = T 0 2 - 1
          · rw [if_pos ⟨rfl, cx⟩, if_pos (show 0 < givT T ∧ x + 1 = T 0 2 by omega), cx]
            by_cases c9 : T 8 (T 0 2 - 1) + T 3 (givT T - 1) < 9999
            · rw [if_pos c9, if_pos (show nI (T 8 (T 0 2 - 1) + T 3 (givT T - 1)) < (9999 : Int32) from nI_lt (b := 9999) c9 (by decide))]
            · rw [if_neg c9, if_neg (show ¬ nI (T 8 (T 0 2 - 1) + T 3 (givT T - 1)) < (9999 : Int32) from nI_nlt (b := 9999) (by omega) (by omega))]
              rfl
          · rw [if_neg (fun q => cx q.2), if_neg (show ¬ (0 < givT T ∧ x + 1 = T 0 2) by omega), g1 _ _ (by omega) (by omega), (h.2.2.2.2.2.2.2 x hx).2.2]
    | succ j ih =>
      intro i fn u1 hi hf g1 g2 g3 g4
      obtain ⟨fn, rfl⟩ : ∃ g, fn = g + 1 := ⟨fn - 1, by omega⟩
      have hi6 : i < 6 := by omega
      have hV : VX t u1 T := VX_cg h (fun c x hc => g1 _ _ (by omega) (by omega)) (g3 _ _)
      obtain ⟨-, -, e3, -⟩ := hV.2.2.2.2.2.1 i (by omega)
      obtain ⟨-, -, o3, o4⟩ := ho.2.2.2.2.2.1 i (by omega)
      have f1 : ∀ a x, a ≠ t + 9 → a ≠ t + 10 → gI (sI u1 (t + 9) i (nI (T 3 i))) a x = gI u a x := fun a x q1 q2 => by rw [gI_sI, if_neg (fun q => q1 q.1), g1 a x q1 q2]
      have hV2 : VX t (sI u1 (t + 9) i (nI (T 3 i))) T := VX_cg h (fun c x hc => f1 _ _ (by omega) (by omega)) (g3 _ _)
      have e4 := (hV2.2.2.2.2.2.1 i (by omega)).2.2.2
      show ∃ u', f_X6_goOneMinute_L38_b _ _ _ _ _ _ = _ ∧ _
      unfold f_X6_goOneMinute_L38_b
      rw [hV.1, if_neg (nI_ge (by omega) (by omega)), inB_n hi6 (by decide), zck_t, zck_t, zlet_s, zck_t, nI_cl (n := i) (by omega), e3, e4]
      have hskip : nhT sqs T i = T 3 i → ∃ u', f_X6_goOneMinute_L38 t fn (nI (givT T) - nI 1) (nI (spkT sqs T)) (nI i + 1) (sI u1 (t + 9) i (nI (T 3 i))) = some ((), u') ∧ VX t u' (stepT sqs T) ∧ xfr t u u' := by
        intro hne
        rw [nI_a1]
        refine ih (i + 1) fn _ (by omega) (by omega) f1 g2 g3 (fun x hx => ?_)
        rw [gI_sI]
        by_cases cx : x = i
        · rw [if_pos ⟨rfl, cx⟩, cx, hne]
        · rw [if_neg (fun q => cx q.2), g4 x (by omega)]
      by_cases c4 : T 4 i = 0
      · rw [if_pos (show nI (T 4 i) = (0 : Int32) by rw [c4]; rfl)]
        by_cases cg : givT T = i + 1
        · rw [if_pos (show nI i = nI (givT T) - nI 1 by rw [cg, pk_sub (by omega)]; rfl)]
          exact hskip (if_neg (fun q => q.2 cg))
        · have hne : ¬ nI i = nI (givT T) - nI 1 := by
            intro q
            by_cases cz : givT T = 0
            · rw [cz] at q
              exact of_eq_false (meq_f (a := 1) (b := i) (by omega) (by decide) (by omega)) q
            · rw [pk_sub (by omega)] at q
              have := (nI_eq (by omega) (by omega)).mp q
              omega
          have hq2 : SqX k (sI u1 (t + 9) i (nI (T 3 i))) sqs := SqX_cg hq (fun a x hx => f1 _ _ (by omega) (by omega))
          obtain ⟨u3, r1, r2⟩ := riseX hV2 ho hs hq2 ht (p := i) (by omega)
          have f3 : ∀ a x, a ≠ t + 9 → a ≠ t + 10 → gI u3 a x = gI u a x := fun a x q1 q2 => (r1.1 a x q2).trans (f1 a x q1 q2)
          have hV3 : VX t u3 T := VX_cg h (fun c x hc => f3 _ _ (by omega) (by omega)) ((r1.2.2 _ _).trans (g3 _ _))
          have e3' := (hV3.2.2.2.2.2.1 i (by omega)).2.2.1
          rw [if_neg hne, r2, zb_s, besX hV3 ho (by omega) (by omega), zb_s, zlx_s, zck_t, zck_t, e3', zlet_s, show (10 : Int32) = nI 10 from rfl, (clN_x _).1, nI_a1]
          refine ih (i + 1) fn _ (by omega) (by omega) (fun a x q1 q2 => ?_) (fun a x => (r1.2.1 a x).trans (g2 a x)) (fun a x => (r1.2.2 a x).trans (g3 a x)) (fun x hx => ?_)
          · rw [gI_sI, if_neg (fun q => q1 q.1), f3 a x q1 q2]
          · rw [gI_sI]
            by_cases cx : x = i
            · rw [if_pos ⟨rfl, cx⟩, cx]
              unfold nhT
              rw [if_pos ⟨c4, cg⟩]
              rfl
            · rw [if_neg (fun q => cx q.2), r1.1 _ _ (by omega), gI_sI, if_neg (fun q => cx q.2), g4 x (by omega)]
      · rw [if_neg (show ¬ nI (T 4 i) = (0 : Int32) from nI_ne0 (by omega) (by omega))]
        exact hskip (if_neg (fun q => c4 q.1))
  have go := hl (T 0 0) 0 400 u (by omega) (by omega) (fun _ _ _ _ => rfl) (fun _ _ => rfl) (fun _ _ => rfl) (fun x hx => absurd hx (Nat.not_lt_zero x))
  have hsx := spkX h ho hs hq
  unfold f_X6_goOneMinute
  rw [h.2.2.1]
  by_cases c2 : T 0 2 = 0
  · have hg0 : givT T = 0 := if_neg (by omega)
    rw [hg0] at go
    rw [c2, hasWX_f h (Or.inl (by decide)), zb_s, if_pos (show nI 0 = (0 : Int32) from rfl), hsx, zb_s]
    exact go
  · have o8 := (ho.2.2.2.2.2.2.2 (T 0 2 - 1) (by omega)).2.2.2
    rw [pk_sub (show 1 ≤ T 0 2 by omega), hasWX_t h ho (show T 0 2 - 1 < T 0 1 by omega), zb_s, if_neg (show ¬ nI 1 = (0 : Int32) by decide), h.2.2.1, pk_sub (show 1 ≤ T 0 2 by omega), isDX h ho (show T 0 2 - 1 < T 0 1 by omega)]
    by_cases c8 : T 6 (T 0 2 - 1) ≤ T 8 (T 0 2 - 1)
    · have hg0 : givT T = 0 := if_neg (by omega)
      rw [hg0] at go
      rw [if_pos c8, zb_s, if_neg (show ¬ nI 1 = (0 : Int32) by decide), hsx, zb_s]
      exact go
    · have hg0 : givT T = hotT T := if_pos ⟨by omega, by omega⟩
      rw [hg0] at go
      rw [if_neg c8, zb_s, if_pos (show nI 0 = (0 : Int32) from rfl), hotX h ho, zb_s, hsx, zb_s]
      exact go
