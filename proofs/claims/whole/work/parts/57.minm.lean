/-! ===== PURE: a minute of the reference ===== -/
def mfr (w w' : zM) : Prop := (∀ a k, a ≠ 3 → a ≠ 7 → a ≠ 17 → a ≠ 18 → ¬ (a = 0 ∧ k = 4) → gI w' a k = gI w a k) ∧ (∀ a k, gJ w' a k = gJ w a k) ∧ ∀ a k, gO w' a k = gO w a k
theorem mfr_rf (w : zM) : mfr w w := ⟨fun _ _ _ _ _ _ _ => rfl, fun _ _ => rfl, fun _ _ => rfl⟩
theorem mfr_tr {u v w : zM} (h : mfr u v) (g : mfr v w) : mfr u w := ⟨fun a k q1 q2 q3 q4 q5 => (g.1 a k q1 q2 q3 q4 q5).trans (h.1 a k q1 q2 q3 q4 q5), fun a k => (g.2.1 a k).trans (h.2.1 a k), fun a k => (g.2.2 a k).trans (h.2.2 a k)⟩
theorem LM_cg {w w' : zM} (g : ∀ a k, 9 ≤ a → a ≤ 14 → gI w' a k = gI w a k) : ∀ (Q : zQ) (j : Nat), LM w Q j → LM w' Q j := by
  have hT : ∀ (ks : List zK) (i : Nat), TM w ks i → TM w' ks i := by
    intro ks
    induction ks with
    | nil => intro i _; exact trivial
    | cons k ks ih => intro i h; exact ⟨(g _ _ (by omega) (by omega)).trans h.1, ih _ h.2⟩
  intro Q
  induction Q with
  | nil => intro j _; exact trivial
  | cons c Q ih =>
    intro j h
    obtain ⟨h1, h2, h3, h4⟩ := h
    refine ⟨(g _ _ (by omega) (by omega)).trans h1, (g _ _ (by omega) (by omega)).trans h2, fun q => ?_, ih _ h4⟩
    obtain ⟨a, a1, a2, a3, a4⟩ := h3 q
    exact ⟨a, a1, (g _ _ (by omega) (by omega)).trans a2, (g _ _ (by omega) (by omega)).trans a3, hT _ _ a4⟩
theorem SqM_cg {k : Nat} {w w' : zM} {sqs : Nat → zQ} (g : ∀ a k, 9 ≤ a → a ≤ 14 → gI w' a k = gI w a k) (h : SqM k w sqs) : SqM k w' sqs := fun q h1 h2 => ⟨(g _ _ (by omega) (by omega)).trans (h q h1 h2).1, LM_cg g _ _ (h q h1 h2).2⟩
theorem SqM_mfr {k : Nat} {w w' : zM} {sqs : Nat → zQ} (g : mfr w w') (h : SqM k w sqs) : SqM k w' sqs := SqM_cg (fun a j h1 h2 => g.1 a j (by omega) (by omega) (by omega) (by omega) (by omega)) h
def thT (sqs : Nat → zQ) (T : zT) (i : Nat) : Nat := if T 4 i = 0 then hvT sqs T i else T 3 i
theorem minM {k : Nat} {w : zM} {T : zT} {sqs : Nat → zQ} (h : VM 0 0 13 w T) (ho : OkT k T) (hs : OkS k sqs) (hq : SqM k w sqs) : ∃ w', f_X9_goMinute w = some ((), w') ∧ VM 0 0 13 w' (stepT sqs T) ∧ mfr w w' := by
  have hn := ho.1
  have hm := ho.2.1
  have ha := ho.2.2.1
  have hM := ho.2.2.2.1
  have hg := givT_le T
  have hsp := spkT_le hs ho
  have cp : ∀ j i fn (w1 : zM), i + j = T 0 0 → j < fn → gI w1 0 0 = nI (T 0 0) → ∃ w', f_X9_goMinute_L147 fn (nI i) w1 = some ((), w') ∧ (∀ a x, a ≠ 3 → ¬ (a = 0 ∧ x = 4) → gI w' a x = gI w1 a x) ∧ gI w' 0 4 = gI w1 0 4 + 1 ∧ (∀ x, x < i → gI w' 3 x = gI w1 3 x) ∧ (∀ x, i ≤ x → x < T 0 0 → gI w' 3 x = gI w1 18 x) ∧ (∀ a x, gJ w' a x = gJ w1 a x) ∧ ∀ a x, gO w' a x = gO w1 a x := by
    intro j
    induction j with
    | zero =>
      intro i fn w1 hi hf h0
      obtain ⟨fn, rfl⟩ : ∃ g, fn = g + 1 := ⟨fn - 1, by omega⟩
      refine ⟨sI w1 0 4 (gI w1 0 4 + 1), ?_, fun a x q1 q2 => by rw [gI_sI, if_neg q2], by rw [gI_sI, if_pos ⟨rfl, rfl⟩], fun x hx => by rw [gI_sI, if_neg (by omega)], fun x h1 h2 => absurd h2 (by omega), fun _ _ => rfl, fun _ _ => rfl⟩
      show f_X9_goMinute_L147_b _ _ _ = _
      unfold f_X9_goMinute_L147_b
      rw [h0, if_pos (nI_le (by omega) (by omega)), zlet_s]
    | succ j ih =>
      intro i fn w1 hi hf h0
      obtain ⟨fn, rfl⟩ : ∃ g, fn = g + 1 := ⟨fn - 1, by omega⟩
      obtain ⟨w', r1, r2, r3, r4, r5, r6, r7⟩ := ih (i + 1) fn (sI w1 3 i (gI w1 18 i)) (by omega) (by omega) (by rw [gI_sI, if_neg (by omega)]; exact h0)
      refine ⟨w', ?_, fun a x q1 q2 => ?_, ?_, fun x hx => ?_, fun x h1 h2 => ?_, r6, r7⟩
      · show f_X9_goMinute_L147_b _ _ _ = _
        unfold f_X9_goMinute_L147_b
        rw [h0, if_neg (nI_ge (by omega) (by omega)), inB_n (show i < 6 by omega) (by decide), zck_t, zck_t, zlet_s, nI_cl (n := i) (by omega), nI_a1]
        exact r1
      · rw [r2 a x q1 q2, gI_sI, if_neg (fun q => q1 q.1)]
      · rw [r3, gI_sI, if_neg (by omega)]
      · rw [r4 x (by omega), gI_sI, if_neg (by omega)]
      · by_cases cx : x = i
        · rw [r4 x (by omega), gI_sI, if_pos ⟨rfl, cx⟩, cx]
        · rw [r5 x (by omega) h2, gI_sI, if_neg (by omega)]
  have fin : ∀ w2 : zM, (∀ a x, a ≠ 7 → a ≠ 17 → a ≠ 18 → gI w2 a x = gI w a x) → (∀ a x, gJ w2 a x = gJ w a x) → (∀ a x, gO w2 a x = gO w a x) → (∀ x, x < T 0 0 → gI w2 18 x = nI (fhT sqs T x)) → (∀ x, x < T 0 1 → gI w2 7 x = nI (skT T x)) → ∃ w', f_X9_goMinute_L147 400 (0 : Int32) w2 = some ((), w') ∧ VM 0 0 13 w' (stepT sqs T) ∧ mfr w w' := by
    intro w2 g1 g2 g3 g4 g5
    obtain ⟨a1, a2, a3, a4, a5, a6, a7, a8, A, hA, a9, a10⟩ := h
    obtain ⟨w', r1, r2, r3, r4, r5, r6, r7⟩ := cp (T 0 0) 0 400 w2 (by omega) (by omega) ((g1 0 0 (by omega) (by omega) (by omega)).trans a1)
    have ho : ∀ a x, a ≠ 3 → a ≠ 7 → a ≠ 17 → a ≠ 18 → ¬ (a = 0 ∧ x = 4) → gI w' a x = gI w a x := fun a x q1 q2 q3 q4 q5 => (r2 a x q1 q5).trans (g1 a x q2 q3 q4)
    refine ⟨w', r1, ⟨(ho _ _ (by omega) (by omega) (by omega) (by omega) (by omega)).trans a1, (ho _ _ (by omega) (by omega) (by omega) (by omega) (by omega)).trans a2, (ho _ _ (by omega) (by omega) (by omega) (by omega) (by omega)).trans a3, ?_, (ho _ _ (by omega) (by omega) (by omega) (by omega) (by omega)).trans a5, fun i hi => ?_, fun j hj => ?_, fun i hi => ?_, A, hA, (ho _ _ (by omega) (by omega) (by omega) (by omega) (by omega)).trans a9, a10⟩, ⟨ho, fun a x => (r6 a x).trans (g2 a x), fun a x => (r7 a x).trans (g3 a x)⟩⟩
    · show gI w' 0 4 = _
      rw [r3, g1 0 4 (by omega) (by omega) (by omega), show gI w 0 4 = nI (T 0 3) from a4, nI_a1]
      rfl
    · have hi : i < T 0 0 := hi
      obtain ⟨b1, b2, b3⟩ := a6 i hi
      refine ⟨(ho _ _ (by omega) (by omega) (by omega) (by omega) (by omega)).trans b1, (ho _ _ (by omega) (by omega) (by omega) (by omega) (by omega)).trans b2, ?_⟩
      show gI w' 3 i = nI (fhT sqs T i)
      rw [r5 i (by omega) hi, g4 i hi]
    · exact (ho _ _ (by omega) (by omega) (by omega) (by omega) (by omega)).trans (a7 j hj)
    · have hi : i < T 0 1 := hi
      obtain ⟨b1, b2, b3⟩ := a8 i hi
      refine ⟨(ho _ _ (by omega) (by omega) (by omega) (by omega) (by omega)).trans b1, (ho _ _ (by omega) (by omega) (by omega) (by omega) (by omega)).trans b2, ?_⟩
      show gI w' 7 i = nI (skT T i)
      rw [r2 7 i (by omega) (by omega), g5 i hi]
  have hl : ∀ j i fn (w1 : zM), i + j = T 0 0 → j < fn → (∀ a x, a ≠ 17 → a ≠ 18 → gI w1 a x = gI w a x) → (∀ a x, gJ w1 a x = gJ w a x) → (∀ a x, gO w1 a x = gO w a x) → (∀ x, x < i → gI w1 18 x = nI (thT sqs T x)) → ∃ w', f_X9_goMinute_L35 fn (mAn (givT T)) (nI (spkT sqs T)) (nI i) w1 = some ((), w') ∧ VM 0 0 13 w' (stepT sqs T) ∧ mfr w w' := by
    intro j
    induction j with
    | zero =>
      intro i fn w1 hi hf g1 g2 g3 g4
      obtain ⟨fn, rfl⟩ : ∃ g, fn = g + 1 := ⟨fn - 1, by omega⟩
      have hV : VM 0 0 13 w1 T := VM_cg h (fun x _ => g1 _ _ (by omega) (by omega)) (g1 _ _ (by omega) (by omega)) (fun c x h1 h2 => g1 _ _ (by omega) (by omega))
      have e0 : gI w1 0 0 = nI (T 0 0) := hV.1
      show ∃ w', f_X9_goMinute_L35_b _ _ _ _ _ = _ ∧ _
      unfold f_X9_goMinute_L35_b
      rw [e0, if_pos (nI_le (by omega) (by omega))]
      by_cases c0 : givT T = 0
      · rw [c0, mAn_0, if_pos (show (-nI 5 : Int32) < 0 by decide)]
        refine fin w1 (fun a x _ q1 q2 => g1 a x q1 q2) g2 g3 (fun x hx => ?_) (fun x hx => ?_)
        · rw [g4 x (by omega)]
          unfold thT fhT
          rw [c0, if_neg (show ¬ 0 = x + 1 by omega)]
        · have e7 : gI w 7 x = nI (T 8 x) := (h.2.2.2.2.2.2.2.1 x hx).2.2
          rw [g1 _ _ (by omega) (by omega), e7]
          unfold skT
          rw [if_neg (by omega)]
      · have hp : 0 < T 0 2 := givT_pos (by omega)
        have e3 : gI w1 3 (givT T - 1) = nI (T 3 (givT T - 1)) := (hV.2.2.2.2.2.1 (givT T - 1) (by omega)).2.2
        have e7 : gI w1 7 (T 0 2 - 1) = nI (T 8 (T 0 2 - 1)) := (hV.2.2.2.2.2.2.2.1 (T 0 2 - 1) (by omega)).2.2
        have o3 := (ho.2.2.2.2.2.1 (givT T - 1) (by omega)).2.2.1
        have o8 := (ho.2.2.2.2.2.2.2 (T 0 2 - 1) (by omega)).2.2.2
        have e10 : gI w1 0 3 = nI (T 0 2 - 1) := by
          rw [show gI w1 0 3 = mAn (T 0 2) from hV.2.2.1, mAn_s _ hp]
        have hle : f_X9_least (nI (T 8 (T 0 2 - 1) + T 3 (givT T - 1))) (9999 : Int32) w1 = some (nI (if T 8 (T 0 2 - 1) + T 3 (givT T - 1) < 9999 then T 8 (T 0 2 - 1) + T 3 (givT T - 1) else 9999), w1) := by
          unfold f_X9_least
          by_cases c9 : T 8 (T 0 2 - 1) + T 3 (givT T - 1) < 9999
          · rw [if_neg (show ¬ (9999 : Int32) ≤ nI (T 8 (T 0 2 - 1) + T 3 (givT T - 1)) from nI_ge (b := 9999) c9 (by decide)), if_pos c9]
          · rw [if_pos (show (9999 : Int32) ≤ nI (T 8 (T 0 2 - 1) + T 3 (givT T - 1)) from nI_le (a := 9999) (by omega) (by omega)), if_neg c9]
            rfl
        rw [mAn_s _ (show 0 < givT T by omega), if_neg (nI_pos (by omega)), e10, inB_n (show T 0 2 - 1 < 4 by omega) (by decide), zck_t, inB_n (show givT T - 1 < 6 by omega) (by decide), zck_t, nI_cl (n := T 0 2 - 1) (by omega), nI_cl (n := givT T - 1) (by omega), e3, e7, nI_add, hle, zb_s, zck_t, zlet_s, zck_t, zlet_s]
        refine fin _ (fun a x q0 q1 q2 => ?_) g2 g3 (fun x hx => ?_) (fun x hx => ?_)
        · rw [gI_sI, if_neg (fun q => q2 q.1), gI_sI, if_neg (fun q => q0 q.1), g1 a x q1 q2]
        · rw [gI_sI]
          by_cases cx : x = givT T - 1
          · rw [if_pos ⟨rfl, cx⟩]
            unfold fhT
            rw [if_pos (by omega)]
            rfl
          · rw [if_neg (fun q => cx q.2), gI_sI, if_neg (by omega), g4 x (by omega)]
            unfold thT fhT
            rw [if_neg (show ¬ givT T = x + 1 by omega)]
        · rw [gI_sI, if_neg (by omega), gI_sI]
          unfold skT
          by_cases cx : x = T 0 2 - 1
          · rw [if_pos ⟨rfl, cx⟩, if_pos (show 0 < givT T ∧ x + 1 = T 0 2 by omega), cx]
          · have e7' : gI w 7 x = nI (T 8 x) := (h.2.2.2.2.2.2.2.1 x hx).2.2
            rw [if_neg (fun q => cx q.2), if_neg (show ¬ (0 < givT T ∧ x + 1 = T 0 2) by omega), g1 _ _ (by omega) (by omega), e7']
    | succ j ih =>
      intro i fn w1 hi hf g1 g2 g3 g4
      obtain ⟨fn, rfl⟩ : ∃ g, fn = g + 1 := ⟨fn - 1, by omega⟩
      have hi6 : i < 6 := by omega
      have hV : VM 0 0 13 w1 T := VM_cg h (fun x _ => g1 _ _ (by omega) (by omega)) (g1 _ _ (by omega) (by omega)) (fun c x h1 h2 => g1 _ _ (by omega) (by omega))
      have e0 : gI w1 0 0 = nI (T 0 0) := hV.1
      have e3 : gI w1 3 i = nI (T 3 i) := (hV.2.2.2.2.2.1 i (by omega)).2.2
      obtain ⟨-, -, o3, o4⟩ := ho.2.2.2.2.2.1 i (by omega)
      show ∃ w', f_X9_goMinute_L35_b _ _ _ _ _ = _ ∧ _
      unfold f_X9_goMinute_L35_b
      rw [e0, if_neg (nI_ge (by omega) (by omega)), hasM hV ho (by omega), zb_s, inB_n hi6 (by decide), zck_t, zck_t, zck_t, nI_cl (n := i) (by omega), e3]
      by_cases c4 : T 4 i = 0
      · rw [if_pos (show nI (T 4 i) = (0 : Int32) by rw [c4]; rfl)]
        have hq1 : SqM k w1 sqs := SqM_cg (fun a x h1 h2 => g1 a x (by omega) (by omega)) hq
        obtain ⟨w3, r1, r2⟩ := riseM hV ho hs hq1 (p := i) (by omega)
        have hV3 := VM_pfr hV r1
        rw [r2, zb_s, besM hV3 ho (by omega) (by omega), zb_s, Int32.add_assoc, show (10 : Int32) = nI 10 from rfl, clN_m, zb_s, zck_t, zlet_s, nI_a1]
        refine ih (i + 1) fn _ (by omega) (by omega) (fun a x q1 q2 => ?_) (fun a x => (r1.2.1 a x).trans (g2 a x)) (fun a x => (r1.2.2 a x).trans (g3 a x)) (fun x hx => ?_)
        · rw [gI_sI, if_neg (fun q => q2 q.1), r1.1 a x q1, g1 a x q1 q2]
        · rw [gI_sI]
          by_cases cx : x = i
          · rw [if_pos ⟨rfl, cx⟩, cx]
            unfold thT
            rw [if_pos c4]
            rfl
          · rw [if_neg (fun q => cx q.2), r1.1 _ _ (by omega), g4 x (by omega)]
      · rw [if_neg (show ¬ nI (T 4 i) = (0 : Int32) from nI_ne0 (by omega) (by omega)), zlet_s, nI_a1]
        refine ih (i + 1) fn _ (by omega) (by omega) (fun a x q1 q2 => ?_) g2 g3 (fun x hx => ?_)
        · rw [gI_sI, if_neg (fun q => q2 q.1), g1 a x q1 q2]
        · rw [gI_sI]
          by_cases cx : x = i
          · rw [if_pos ⟨rfl, cx⟩, cx]
            unfold thT
            rw [if_neg c4]
          · rw [if_neg (fun q => cx q.2), g4 x (by omega)]
  have go := hl (T 0 0) 0 400 w (by omega) (by omega) (fun _ _ _ _ => rfl) (fun _ _ => rfl) (fun _ _ => rfl) (fun x hx => absurd hx (Nat.not_lt_zero x))
  have hsx := spkM h ho hs hq
  unfold f_X9_goMinute
  rw [show gI w 0 3 = mAn (T 0 2) from h.2.2.1]
  by_cases c2 : T 0 2 = 0
  · have hg0 : givT T = 0 := if_neg (by omega)
    rw [hg0] at go
    rw [c2, mAn_0, if_pos (show (-nI 5 : Int32) < 0 by decide), hsx, zb_s]
    exact go
  · have o8 := (ho.2.2.2.2.2.2.2 (T 0 2 - 1) (by omega)).2.2.2
    rw [mAn_s _ (show 0 < T 0 2 by omega), if_neg (nI_pos (by omega)), isDM h ho (show T 0 2 - 1 < T 0 1 by omega)]
    by_cases c8 : T 6 (T 0 2 - 1) ≤ T 8 (T 0 2 - 1)
    · have hg0 : givT T = 0 := if_neg (by omega)
      rw [hg0] at go
      rw [if_pos c8, zb_s, if_neg (show ¬ nI 1 = (0 : Int32) by decide), hsx, zb_s]
      exact go
    · have hg0 : givT T = hotT T := if_pos ⟨by omega, by omega⟩
      rw [hg0] at go
      rw [if_neg c8, zb_s, if_pos (show nI 0 = (0 : Int32) from rfl), hotM h ho, zb_s, hsx, zb_s]
      exact go
/-! n minutes -/
def goT (sqs : Nat → zQ) : Nat → zT → zT
  | 0, T => T
  | n + 1, T => goT sqs n (stepT sqs T)
theorem goT_min (sqs : Nat → zQ) : ∀ n T, goT sqs n T 0 3 = T 0 3 + n := by
  intro n
  induction n with
  | zero => intro T; rfl
  | succ n ih =>
    intro T
    show goT sqs n (stepT sqs T) 0 3 = _
    rw [ih]
    show T 0 3 + 1 + n = _
    omega
theorem goT_same (sqs : Nat → zQ) : ∀ n T c i, c ≠ 3 → c ≠ 8 → ¬ (c = 0 ∧ i = 3) → goT sqs n T c i = T c i := by
  intro n
  induction n with
  | zero => intro T c i _ _ _; rfl
  | succ n ih =>
    intro T c i h1 h2 h3
    show goT sqs n (stepT sqs T) c i = _
    rw [ih _ _ _ h1 h2 h3]
    show (if c = 3 then _ else if c = 8 then _ else if c = 0 ∧ i = 3 then _ else T c i) = _
    rw [if_neg h1, if_neg h2, if_neg h3]
theorem OkT_go {k : Nat} {sqs : Nat → zQ} : ∀ n T, OkT k T → T 0 3 + n ≤ 20000 → OkT k (goT sqs n T) := by
  intro n
  induction n with
  | zero => intro T h _; exact h
  | succ n ih =>
    intro T h hn
    exact ih _ (OkT_step h (by omega)) (by show T 0 3 + 1 + n ≤ 20000; omega)
theorem goX {t k : Nat} {sqs : Nat → zQ} (hs : OkS k sqs) (ht : t + 10 < 78) {n : Nat} (hn : n < 390) {u : zM} {T : zT} (h : VX t u T) (ho : OkT k T) (hq : SqX k u sqs) (hm : T 0 3 + n ≤ 20000) : ∃ u', f_X6_goOn t (nI n) u = some ((), u') ∧ VX t u' (goT sqs n T) ∧ xfr t u u' := by
  have hl : ∀ j i fn (u : zM) (T : zT), i + j = n → j < fn → VX t u T → OkT k T → SqX k u sqs → T 0 3 + j ≤ 20000 → ∃ u', f_X6_goOn_L2 t (nI n) fn (nI i) u = some ((), u') ∧ VX t u' (goT sqs j T) ∧ xfr t u u' := by
    intro j
    induction j with
    | zero =>
      intro i fn u T hi hf h ho hq hm
      obtain ⟨fn, rfl⟩ : ∃ g, fn = g + 1 := ⟨fn - 1, by omega⟩
      refine ⟨u, ?_, h, xfr_rf t u⟩
      show f_X6_goOn_L2_b _ _ _ _ _ = _
      unfold f_X6_goOn_L2_b
      rw [if_pos (nI_le (by omega) (by omega))]
    | succ j ih =>
      intro i fn u T hi hf h ho hq hm
      obtain ⟨fn, rfl⟩ : ∃ g, fn = g + 1 := ⟨fn - 1, by omega⟩
      obtain ⟨u1, r1, r2, r3⟩ := minX h ho hs hq ht
      obtain ⟨u', s1, s2, s3⟩ := ih (i + 1) fn u1 (stepT sqs T) (by omega) (by omega) r2 (OkT_step ho (by omega)) (SqX_cg hq (fun a x hx => r3.1 _ _ (by omega))) (by show T 0 3 + 1 + j ≤ 20000; omega)
      refine ⟨u', ?_, s2, xfr_tr r3 s3⟩
      show f_X6_goOn_L2_b _ _ _ _ _ = _
      unfold f_X6_goOn_L2_b
      rw [if_neg (nI_ge (by omega) (by omega)), r1, zb_s, nI_a1]
      exact s1
  exact hl n 0 400 u T (by omega) (by omega) h ho hq hm
theorem goM {k : Nat} {sqs : Nat → zQ} (hs : OkS k sqs) {n : Nat} (hn : n < 390) {w : zM} {T : zT} (h : VM 0 0 13 w T) (ho : OkT k T) (hq : SqM k w sqs) (hm : T 0 3 + n ≤ 20000) : ∃ w', f_X9_goMinutes (nI n) w = some ((), w') ∧ VM 0 0 13 w' (goT sqs n T) ∧ mfr w w' := by
  have hl : ∀ j i fn (w : zM) (T : zT), i + j = n → j < fn → VM 0 0 13 w T → OkT k T → SqM k w sqs → T 0 3 + j ≤ 20000 → ∃ w', f_X9_goMinutes_L2 (nI n) fn (nI i) w = some ((), w') ∧ VM 0 0 13 w' (goT sqs j T) ∧ mfr w w' := by
    intro j
    induction j with
    | zero =>
      intro i fn w T hi hf h ho hq hm
      obtain ⟨fn, rfl⟩ : ∃ g, fn = g + 1 := ⟨fn - 1, by omega⟩
      refine ⟨w, ?_, h, mfr_rf w⟩
      show f_X9_goMinutes_L2_b _ _ _ _ = _
      unfold f_X9_goMinutes_L2_b
      rw [if_pos (nI_le (by omega) (by omega))]
    | succ j ih =>
      intro i fn w T hi hf h ho hq hm
      obtain ⟨fn, rfl⟩ : ∃ g, fn = g + 1 := ⟨fn - 1, by omega⟩
      obtain ⟨u1, r1, r2, r3⟩ := minM h ho hs hq
      obtain ⟨u', s1, s2, s3⟩ := ih (i + 1) fn u1 (stepT sqs T) (by omega) (by omega) r2 (OkT_step ho (by omega)) (SqM_mfr r3 hq) (by show T 0 3 + 1 + j ≤ 20000; omega)
      refine ⟨u', ?_, s2, mfr_tr r3 s3⟩
      show f_X9_goMinutes_L2_b _ _ _ _ = _
      unfold f_X9_goMinutes_L2_b
      rw [if_neg (nI_ge (by omega) (by omega)), r1, zb_s, nI_a1]
      exact s1
  exact hl n 0 400 w T (by omega) (by omega) h ho hq hm
