/-! ===== PURE: puts, save and put back, become ===== -/
theorem VX_put {t c p x : Nat} {u : zM} {T : zT} (h : VX t u T) (h1 : 1 ≤ c) (h8 : c ≤ 8) : VX t (sI u (t + c) p (nI x)) (tS T c p x) := by
  obtain ⟨a1, a2, a3, a4, a5, a6, a7, a8⟩ := h
  have key : ∀ c' i, gI u (t + c') i = nI (T c' i) → gI (sI u (t + c) p (nI x)) (t + c') i = nI (tS T c p x c' i) := by
    intro c' i hh
    rw [gI_sI, tS_ap]
    by_cases q : c' = c ∧ i = p
    · rw [if_pos (show t + c' = t + c ∧ i = p by omega), if_pos q]
    · rw [if_neg (show ¬ (t + c' = t + c ∧ i = p) by omega), if_neg q]
      exact hh
  have k0 : ∀ i, tS T c p x 0 i = T 0 i := fun i => by rw [tS_ap, if_neg (by omega)]
  have kt : ∀ i, gI (sI u (t + c) p (nI x)) t i = gI u t i := fun i => by rw [gI_sI, if_neg (by omega)]
  unfold VX
  rw [k0, k0, k0, k0, k0, kt, kt, kt, kt]
  refine ⟨a1, a2, a3, a4, a5, fun i hi => ?_, fun j hj => key 5 j (a7 j hj), fun i hi => ?_⟩
  · obtain ⟨b1, b2, b3, b4⟩ := a6 i hi
    exact ⟨key 1 i b1, key 2 i b2, key 3 i b3, key 4 i b4⟩
  · obtain ⟨b1, b2, b3⟩ := a8 i hi
    exact ⟨key 6 i b1, key 7 i b2, key 8 i b3⟩
theorem VX_anv {t a : Nat} {u : zM} {T : zT} (h : VX t u T) : VX t (sI u t 10 (nI a - nI 1)) (tS T 0 2 a) := by
  obtain ⟨a1, a2, a3, a4, a5, a6, a7, a8⟩ := h
  have ko : ∀ c i, 1 ≤ c → gI (sI u t 10 (nI a - nI 1)) (t + c) i = gI u (t + c) i := fun c i hc => by rw [gI_sI, if_neg (by omega)]
  refine ⟨?_, ?_, ?_, ?_, a5, fun i hi => ?_, fun j hj => (ko 5 j (by omega)).trans (a7 j hj), fun i hi => ?_⟩
  · rw [gI_sI, if_neg (by omega)]
    exact a1
  · rw [gI_sI, if_neg (by omega)]
    exact a2
  · rw [gI_sI, if_pos ⟨rfl, rfl⟩]
    rfl
  · rw [gI_sI, if_neg (by omega)]
    exact a4
  · obtain ⟨b1, b2, b3, b4⟩ := a6 i hi
    exact ⟨(ko 1 i (by omega)).trans b1, (ko 2 i (by omega)).trans b2, (ko 3 i (by omega)).trans b3, (ko 4 i (by omega)).trans b4⟩
  · obtain ⟨b1, b2, b3⟩ := a8 i hi
    exact ⟨(ko 6 i (by omega)).trans b1, (ko 7 i (by omega)).trans b2, (ko 8 i (by omega)).trans b3⟩
theorem VM_put1 {c p x : Nat} {w : zM} {T : zT} (h : VM 0 0 13 w T) (h1 : 1 ≤ c) (h3 : c ≤ 3) : VM 0 0 13 (sI w c p (nI x)) (tS T c p x) := by
  obtain ⟨a1, a2, a3, a4, a5, a6, a7, a8, A, hA, a9, a10⟩ := h
  have key : ∀ c' i, gI w (0 + c') i = nI (T c' i) → gI (sI w c p (nI x)) (0 + c') i = nI (tS T c p x c' i) := by
    intro c' i hh
    rw [gI_sI, tS_ap]
    by_cases q : c' = c ∧ i = p
    · rw [if_pos (show 0 + c' = c ∧ i = p by omega), if_pos q]
    · rw [if_neg (show ¬ (0 + c' = c ∧ i = p) by omega), if_neg q]
      exact hh
  have k0 : ∀ i, tS T c p x 0 i = T 0 i := fun i => by rw [tS_ap, if_neg (by omega)]
  have ko : ∀ c' i, 4 ≤ c' → tS T c p x c' i = T c' i := fun c' i hc => by rw [tS_ap, if_neg (by omega)]
  have kt : ∀ i, gI (sI w c p (nI x)) 0 i = gI w 0 i := fun i => by rw [gI_sI, if_neg (by omega)]
  have kp : ∀ c' i, 4 ≤ c' → gI (sI w c p (nI x)) (0 + c') i = gI w (0 + c') i := fun c' i hc => by rw [gI_sI, if_neg (by omega)]
  unfold VM
  rw [k0, k0, k0, k0, k0, kt, kt, kt, kt, kt, kt]
  refine ⟨a1, a2, a3, a4, a5, fun i hi => ?_, fun j hj => ?_, fun i hi => ?_, A, hA, a9, fun i hi => ?_⟩
  · obtain ⟨b1, b2, b3⟩ := a6 i hi
    exact ⟨key 1 i b1, key 2 i b2, key 3 i b3⟩
  · rw [kp 4 j (by omega), ko 5 j (by omega)]
    exact a7 j hj
  · obtain ⟨b1, b2, b3⟩ := a8 i hi
    rw [kp 5 i (by omega), kp 6 i (by omega), kp 7 i (by omega), ko 6 i (by omega), ko 7 i (by omega), ko 8 i (by omega)]
    exact ⟨b1, b2, b3⟩
  · rw [ko 4 i (by omega)]
    exact a10 i hi
theorem VM_anv {a : Nat} {w : zM} {T : zT} (h : VM 0 0 13 w T) : VM 0 0 13 (sI w 0 3 (mAn a)) (tS T 0 2 a) := by
  obtain ⟨a1, a2, a3, a4, a5, a6, a7, a8, A, hA, a9, a10⟩ := h
  have kp : ∀ c' i, 1 ≤ c' → gI (sI w 0 3 (mAn a)) (0 + c') i = gI w (0 + c') i := fun c' i hc => by rw [gI_sI, if_neg (by omega)]
  refine ⟨?_, ?_, ?_, ?_, ?_, fun i hi => ?_, fun j hj => (kp 4 j (by omega)).trans (a7 j hj), fun i hi => ?_, A, hA, ?_, a10⟩
  · rw [gI_sI, if_neg (by omega)]
    exact a1
  · rw [gI_sI, if_neg (by omega)]
    exact a2
  · rw [gI_sI, if_pos ⟨rfl, rfl⟩]
    rfl
  · rw [gI_sI, if_neg (by omega)]
    exact a4
  · rw [gI_sI, if_neg (by omega)]
    exact a5
  · obtain ⟨b1, b2, b3⟩ := a6 i hi
    exact ⟨(kp 1 i (by omega)).trans b1, (kp 2 i (by omega)).trans b2, (kp 3 i (by omega)).trans b3⟩
  · obtain ⟨b1, b2, b3⟩ := a8 i hi
    exact ⟨(kp 5 i (by omega)).trans b1, (kp 6 i (by omega)).trans b2, (kp 7 i (by omega)).trans b3⟩
  · rw [gI_sI, if_neg (by omega)]
    exact a9
/-- what stands saved in w2 is w's -/
def SV (w w2 : zM) : Prop := gI w2 0 31 = gI w 0 1 ∧ gI w2 0 32 = gI w 0 3 ∧ gI w2 0 33 = gI w 0 4 ∧ (∀ x, x < 6 → gI w2 19 x = gI w 3 x) ∧ (∀ x, x < 4 → gI w2 20 x = gI w 7 x) ∧ (∀ a k, a ≠ 3 → a ≠ 7 → a ≠ 17 → a ≠ 18 → a ≠ 19 → a ≠ 20 → ¬ (a = 0 ∧ (k = 1 ∨ k = 3 ∨ k = 4 ∨ k = 31 ∨ k = 32 ∨ k = 33)) → gI w2 a k = gI w a k) ∧ (∀ a k, gJ w2 a k = gJ w a k) ∧ ∀ a k, gO w2 a k = gO w a k
theorem SV_mfr {w w1 w2 : zM} (h : SV w w1) (g : mfr w1 w2) : SV w w2 := by
  obtain ⟨h1, h2, h3, h4, h5, h6, h7, h8⟩ := h
  exact ⟨(g.1 _ _ (by omega) (by omega) (by omega) (by omega) (by omega)).trans h1, (g.1 _ _ (by omega) (by omega) (by omega) (by omega) (by omega)).trans h2, (g.1 _ _ (by omega) (by omega) (by omega) (by omega) (by omega)).trans h3, fun x hx => (g.1 _ _ (by omega) (by omega) (by omega) (by omega) (by omega)).trans (h4 x hx), fun x hx => (g.1 _ _ (by omega) (by omega) (by omega) (by omega) (by omega)).trans (h5 x hx), fun a k q1 q2 q3 q4 q5 q6 q7 => (g.1 _ _ q1 q2 q3 q4 (by omega)).trans (h6 a k q1 q2 q3 q4 q5 q6 q7), fun a k => (g.2.1 a k).trans (h7 a k), fun a k => (g.2.2 a k).trans (h8 a k)⟩
theorem SV_put {w w1 : zM} {b j : Nat} {x : Int32} (h : SV w w1) (hb : b = 3 ∨ (b = 0 ∧ (j = 1 ∨ j = 3 ∨ j = 4))) : SV w (sI w1 b j x) := by
  obtain ⟨h1, h2, h3, h4, h5, h6, h7, h8⟩ := h
  refine ⟨?_, ?_, ?_, fun y hy => ?_, fun y hy => ?_, fun a k q1 q2 q3 q4 q5 q6 q7 => ?_, h7, h8⟩
  · rw [gI_sI, if_neg (by omega)]
    exact h1
  · rw [gI_sI, if_neg (by omega)]
    exact h2
  · rw [gI_sI, if_neg (by omega)]
    exact h3
  · rw [gI_sI, if_neg (by omega)]
    exact h4 y hy
  · rw [gI_sI, if_neg (by omega)]
    exact h5 y hy
  · rw [gI_sI, if_neg (by omega)]
    exact h6 a k q1 q2 q3 q4 q5 q6 q7
theorem cp_loop (b : Int32 → (Int32 → zM → Option (Unit × zM)) → zM → Option (Unit × zM)) (src dst n : Nat) (L : Nat → Int32 → zM → Option (Unit × zM)) (R : zM → Option (Unit × zM)) (hs : src ≠ dst) (hL : ∀ fn i u, i < n → L (fn + 1) (nI i) u = L fn (nI (i + 1)) (sI u dst i (gI u src i))) (hE : ∀ fn u, L (fn + 1) (nI n) u = R u) : ∀ j i fn (u : zM), i + j = n → j < fn → ∃ u', L fn (nI i) u = R u' ∧ (∀ a x, a ≠ dst → gI u' a x = gI u a x) ∧ (∀ x, x < i → gI u' dst x = gI u dst x) ∧ (∀ x, i ≤ x → x < n → gI u' dst x = gI u src x) ∧ (∀ x, n ≤ x → gI u' dst x = gI u dst x) ∧ (∀ a x, gJ u' a x = gJ u a x) ∧ ∀ a x, gO u' a x = gO u a x := by
  intro j
  induction j with
  | zero =>
    intro i fn u hi hf
    obtain ⟨fn, rfl⟩ : ∃ g, fn = g + 1 := ⟨fn - 1, by omega⟩
    obtain rfl : i = n := by omega
    exact ⟨u, hE fn u, fun _ _ _ => rfl, fun _ _ => rfl, fun x h1 h2 => absurd h2 (by omega), fun _ _ => rfl, fun _ _ => rfl, fun _ _ => rfl⟩
  | succ j ih =>
    intro i fn u hi hf
    obtain ⟨fn, rfl⟩ : ∃ g, fn = g + 1 := ⟨fn - 1, by omega⟩
    obtain ⟨u', r1, r2, r3, r4, r5, r6, r7⟩ := ih (i + 1) fn (sI u dst i (gI u src i)) (by omega) (by omega)
    refine ⟨u', (hL fn i u (by omega)).trans r1, fun a x q => ?_, fun x hx => ?_, fun x h1 h2 => ?_, fun x hx => ?_, r6, r7⟩
    · rw [r2 a x q, gI_sI, if_neg (fun h => q h.1)]
    · rw [r3 x (by omega), gI_sI, if_neg (by omega)]
    · by_cases cx : x = i
      · rw [r3 x (by omega), gI_sI, if_pos ⟨rfl, cx⟩, cx]
      · rw [r4 x (by omega) h2, gI_sI, if_neg (fun h => hs h.1)]
    · rw [r5 x hx, gI_sI, if_neg (by omega)]
theorem saveM (w : zM) : ∃ w1, f_X9_save w = some ((), w1) ∧ SV w w1 ∧ (∀ a k, a ≠ 19 → a ≠ 20 → ¬ (a = 0 ∧ 31 ≤ k ∧ k ≤ 33) → gI w1 a k = gI w a k) := by
  obtain ⟨u2, e1, e2, e3, e4, e5, e6, e7⟩ := cp_loop (fun _ _ _ => none) 3 19 6 f_X9_save_L26 (fun u => f_X9_save_L52 400 (0 : Int32) u) (by decide) (fun fn i u hi => by
    show f_X9_save_L26_b _ _ _ = _
    unfold f_X9_save_L26_b
    rw [if_neg (show ¬ (6 : Int32) ≤ nI i from nI_ge (b := 6) hi (by decide)), inB_n hi (by decide), zck_t, zck_t, zlet_s, nI_cl (n := i) (by omega), nI_a1]) (fun fn u => by
    show f_X9_save_L26_b _ _ _ = _
    rfl) 6 0 400 (sI (sI (sI w 0 31 (gI w 0 1)) 0 32 (gI w 0 3)) 0 33 (gI w 0 4)) (by decide) (by decide)
  obtain ⟨u3, d1, d2, d3, d4, d5, d6, d7⟩ := cp_loop (fun _ _ _ => none) 7 20 4 f_X9_save_L52 (fun u => some ((), u)) (by decide) (fun fn i u hi => by
    show f_X9_save_L52_b _ _ _ = _
    unfold f_X9_save_L52_b
    rw [if_neg (show ¬ (4 : Int32) ≤ nI i from nI_ge (b := 4) hi (by decide)), inB_n hi (by decide), zck_t, zck_t, zlet_s, nI_cl (n := i) (by omega), nI_a1]) (fun fn u => by
    show f_X9_save_L52_b _ _ _ = _
    rfl) 4 0 400 u2 (by decide) (by decide)
  have hz : ∀ a k, a ≠ 19 → a ≠ 20 → gI u3 a k = gI (sI (sI (sI w 0 31 (gI w 0 1)) 0 32 (gI w 0 3)) 0 33 (gI w 0 4)) a k := fun a k q1 q2 => (d2 a k q2).trans (e2 a k q1)
  have ho : ∀ a k, a ≠ 19 → a ≠ 20 → ¬ (a = 0 ∧ 31 ≤ k ∧ k ≤ 33) → gI u3 a k = gI w a k := fun a k q1 q2 q3 => by
    rw [hz a k q1 q2, gI_sI, if_neg (by omega), gI_sI, if_neg (by omega), gI_sI, if_neg (by omega)]
  refine ⟨u3, ?_, ⟨?_, ?_, ?_, fun x hx => ?_, fun x hx => ?_, fun a k q1 q2 q3 q4 q5 q6 q7 => ho a k q5 q6 (by omega), fun a k => (d6 a k).trans (e6 a k), fun a k => (d7 a k).trans (e7 a k)⟩, ho⟩
  · unfold f_X9_save
    rw [zlet_s, zlet_s, zlet_s]
    exact e1.trans d1
  · rw [hz _ _ (by omega) (by omega), gI_sI, if_neg (by omega), gI_sI, if_neg (by omega), gI_sI, if_pos ⟨rfl, rfl⟩]
  · rw [hz _ _ (by omega) (by omega), gI_sI, if_neg (by omega), gI_sI, if_pos ⟨rfl, rfl⟩]
  · rw [hz _ _ (by omega) (by omega), gI_sI, if_pos ⟨rfl, rfl⟩]
  · rw [d2 _ _ (by omega), e4 x (by omega) hx, gI_sI, if_neg (by omega), gI_sI, if_neg (by omega), gI_sI, if_neg (by omega)]
  · rw [d4 x (by omega) hx, e2 _ _ (by omega), gI_sI, if_neg (by omega), gI_sI, if_neg (by omega), gI_sI, if_neg (by omega)]
/-- as it was, but for what nobody reads again -/
def rfr (w w' : zM) : Prop := (∀ a k, ¬ (a = 3 ∧ 6 ≤ k) → ¬ (a = 7 ∧ 4 ≤ k) → ¬ (17 ≤ a ∧ a ≤ 22) → ¬ (a = 0 ∧ 31 ≤ k ∧ k ≤ 33) → gI w' a k = gI w a k) ∧ (∀ a k, gJ w' a k = gJ w a k) ∧ ∀ a k, gO w' a k = gO w a k
theorem rfr_rf (w : zM) : rfr w w := ⟨fun _ _ _ _ _ _ => rfl, fun _ _ => rfl, fun _ _ => rfl⟩
theorem rfr_tr {u v w : zM} (h : rfr u v) (g : rfr v w) : rfr u w := ⟨fun a k q1 q2 q3 q4 => (g.1 a k q1 q2 q3 q4).trans (h.1 a k q1 q2 q3 q4), fun a k => (g.2.1 a k).trans (h.2.1 a k), fun a k => (g.2.2 a k).trans (h.2.2 a k)⟩
theorem VM_rfr {k : Nat} {w w' : zM} {T : zT} (h : VM 0 0 13 w T) (ho : OkT k T) (g : rfr w w') : VM 0 0 13 w' T := by
  obtain ⟨a1, a2, a3, a4, a5, a6, a7, a8, A, hA, a9, a10⟩ := h
  have hn := ho.1
  have hm := ho.2.1
  refine ⟨(g.1 _ _ (by omega) (by omega) (by omega) (by omega)).trans a1, (g.1 _ _ (by omega) (by omega) (by omega) (by omega)).trans a2, (g.1 _ _ (by omega) (by omega) (by omega) (by omega)).trans a3, (g.1 _ _ (by omega) (by omega) (by omega) (by omega)).trans a4, (g.1 _ _ (by omega) (by omega) (by omega) (by omega)).trans a5, fun i hi => ?_, fun j hj => (g.1 _ _ (by omega) (by omega) (by omega) (by omega)).trans (a7 j hj), fun i hi => ?_, A, hA, (g.1 _ _ (by omega) (by omega) (by omega) (by omega)).trans a9, a10⟩
  · obtain ⟨b1, b2, b3⟩ := a6 i hi
    exact ⟨(g.1 _ _ (by omega) (by omega) (by omega) (by omega)).trans b1, (g.1 _ _ (by omega) (by omega) (by omega) (by omega)).trans b2, (g.1 _ _ (by omega) (by omega) (by omega) (by omega)).trans b3⟩
  · obtain ⟨b1, b2, b3⟩ := a8 i hi
    exact ⟨(g.1 _ _ (by omega) (by omega) (by omega) (by omega)).trans b1, (g.1 _ _ (by omega) (by omega) (by omega) (by omega)).trans b2, (g.1 _ _ (by omega) (by omega) (by omega) (by omega)).trans b3⟩
theorem SqM_rfr {k : Nat} {w w' : zM} {sqs : Nat → zQ} (g : rfr w w') (h : SqM k w sqs) : SqM k w' sqs := SqM_cg (fun a j h1 h2 => g.1 a j (by omega) (by omega) (by omega) (by omega)) h
theorem backM {w w2 : zM} (h : SV w w2) : ∃ w3, f_X9_putBack w2 = some ((), w3) ∧ rfr w w3 := by
  obtain ⟨h1, h2, h3, h4, h5, h6, h7, h8⟩ := h
  obtain ⟨u2, e1, e2, e3, e4, e5, e6, e7⟩ := cp_loop (fun _ _ _ => none) 19 3 6 f_X9_putBack_L26 (fun u => f_X9_putBack_L52 400 (0 : Int32) u) (by decide) (fun fn i u hi => by
    show f_X9_putBack_L26_b _ _ _ = _
    unfold f_X9_putBack_L26_b
    rw [if_neg (show ¬ (6 : Int32) ≤ nI i from nI_ge (b := 6) hi (by decide)), inB_n hi (by decide), zck_t, zck_t, zlet_s, nI_cl (n := i) (by omega), nI_a1]) (fun fn u => by
    show f_X9_putBack_L26_b _ _ _ = _
    rfl) 6 0 400 (sI (sI (sI w2 0 1 (gI w2 0 31)) 0 3 (gI w2 0 32)) 0 4 (gI w2 0 33)) (by decide) (by decide)
  obtain ⟨u3, d1, d2, d3, d4, d5, d6, d7⟩ := cp_loop (fun _ _ _ => none) 20 7 4 f_X9_putBack_L52 (fun u => some ((), u)) (by decide) (fun fn i u hi => by
    show f_X9_putBack_L52_b _ _ _ = _
    unfold f_X9_putBack_L52_b
    rw [if_neg (show ¬ (4 : Int32) ≤ nI i from nI_ge (b := 4) hi (by decide)), inB_n hi (by decide), zck_t, zck_t, zlet_s, nI_cl (n := i) (by omega), nI_a1]) (fun fn u => by
    show f_X9_putBack_L52_b _ _ _ = _
    rfl) 4 0 400 u2 (by decide) (by decide)
  refine ⟨u3, ?_, fun a k q1 q2 q3 q4 => ?_, fun a k => (d6 a k).trans ((e6 a k).trans (h7 a k)), fun a k => (d7 a k).trans ((e7 a k).trans (h8 a k))⟩
  · unfold f_X9_putBack
    rw [zlet_s, zlet_s, zlet_s]
    exact e1.trans d1
  · by_cases c7 : a = 7
    · subst c7
      rw [d4 k (by omega) (by omega), e2 _ _ (by omega), gI_sI, if_neg (by omega), gI_sI, if_neg (by omega), gI_sI, if_neg (by omega), h5 k (by omega)]
    · rw [d2 a k c7]
      by_cases c3 : a = 3
      · subst c3
        rw [e4 k (by omega) (by omega), gI_sI, if_neg (by omega), gI_sI, if_neg (by omega), gI_sI, if_neg (by omega), h4 k (by omega)]
      · rw [e2 a k c3, gI_sI]
        by_cases c4 : a = 0 ∧ k = 4
        · rw [if_pos c4, h3, c4.1, c4.2]
        · rw [if_neg c4, gI_sI]
          by_cases c5 : a = 0 ∧ k = 3
          · rw [if_pos c5, h2, c5.1, c5.2]
          · rw [if_neg c5, gI_sI]
            by_cases c6 : a = 0 ∧ k = 1
            · rw [if_pos c6, h1, c6.1, c6.2]
            · rw [if_neg c6]
              exact h6 a k c3 c7 (by omega) (by omega) (by omega) (by omega) (by omega)
