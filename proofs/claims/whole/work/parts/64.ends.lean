/-! ===== PURE: ends, can ===== -/
theorem goesM {k i b : Nat} {w : zM} {T : zT} (h : VM 0 0 13 w T) (ho : OkT k T) (hi : i < T 0 0) (hb : b ≤ 1) : ∃ x, f_X9_goes (nI i) (nI b) w = some ((), sI w 0 1 x) ∧ VM 0 0 13 (sI w 0 1 x) (tS T 4 i b) := by
  obtain ⟨a1, a2, a3, a4, a5, a6, a7, a8, A, hA, a9, a10⟩ := h
  have a9 : gI w 0 1 = nI A := a9
  have hn := ho.1
  have hin : ∀ x : Int32, ∀ c j, 1 ≤ c → gI (sI w 0 1 x) (0 + c) j = gI w (0 + c) j := fun x c j hc => by rw [gI_sI, if_neg (by omega)]
  have fin : ∀ B, B < 64 → (∀ j, j < T 0 0 → abit B j = nI (tS T 4 i b 4 j)) → VM 0 0 13 (sI w 0 1 (nI B)) (tS T 4 i b) := by
    intro B hB hbit
    have k0 : ∀ j, tS T 4 i b 0 j = T 0 j := fun j => by rw [tS_ap, if_neg (by omega)]
    have ko : ∀ c j, c ≠ 4 → tS T 4 i b c j = T c j := fun c j hc => by rw [tS_ap, if_neg (by omega)]
    unfold VM
    rw [k0, k0, k0, k0, k0]
    refine ⟨?_, ?_, ?_, ?_, ?_, fun j hj => ?_, fun j hj => ?_, fun j hj => ?_, B, hB, ?_, hbit⟩
    · rw [gI_sI, if_neg (by omega)]; exact a1
    · rw [gI_sI, if_neg (by omega)]; exact a2
    · rw [gI_sI, if_neg (by omega)]; exact a3
    · rw [gI_sI, if_neg (by omega)]; exact a4
    · rw [gI_sI, if_neg (by omega)]; exact a5
    · obtain ⟨b1, b2, b3⟩ := a6 j hj
      rw [hin _ 1 j (by omega), hin _ 2 j (by omega), hin _ 3 j (by omega), ko 1 j (by omega), ko 2 j (by omega), ko 3 j (by omega)]
      exact ⟨b1, b2, b3⟩
    · rw [hin _ 4 j (by omega), ko 5 j (by omega)]
      exact a7 j hj
    · obtain ⟨b1, b2, b3⟩ := a8 j hj
      rw [hin _ 5 j (by omega), hin _ 6 j (by omega), hin _ 7 j (by omega), ko 6 j (by omega), ko 7 j (by omega), ko 8 j (by omega)]
      exact ⟨b1, b2, b3⟩
    · rw [gI_sI, if_pos ⟨rfl, rfl⟩]
  unfold f_X9_goes
  rw [a9]
  have hc : b = 0 ∨ b = 1 := by omega
  rcases hc with rfl | rfl
  · obtain ⟨e1, e2⟩ := ab_clr A hA i (by omega)
    rw [if_pos (by decide), e1, zlet_s]
    refine ⟨_, rfl, fin _ e2 (fun j hj => ?_)⟩
    rw [ab_clr_get A hA i (by omega) j (by omega), tS_ap]
    by_cases c : j = i
    · rw [if_pos c, if_pos ⟨rfl, c⟩]
      rfl
    · rw [if_neg c, if_neg (fun q => c q.2), a10 j hj]
  · obtain ⟨e1, e2⟩ := ab_set A hA i (by omega)
    rw [if_neg (by decide), e1, zlet_s]
    refine ⟨_, rfl, fin _ e2 (fun j hj => ?_)⟩
    rw [ab_set_get A hA i (by omega) j (by omega), tS_ap]
    by_cases c : j = i
    · rw [if_pos c, if_pos ⟨rfl, c⟩]
      rfl
    · rw [if_neg c, if_neg (fun q => c q.2), a10 j hj]
theorem OkT_put4 {k p x : Nat} {T : zT} (h : OkT k T) (hx : x ≤ 1) : OkT k (tS T 4 p x) := by
  obtain ⟨a1, a2, a3, a4, a5, a6, a7, a8⟩ := h
  refine ⟨a1, a2, a3, a4, a5, fun i hi => ?_, a7, a8⟩
  obtain ⟨b1, b2, b3, b4⟩ := a6 i hi
  refine ⟨b1, b2, b3, ?_⟩
  rw [tS_ap]
  split
  · exact hx
  · exact b4
/-- a planned row -/
def plS (sqs : Nat → zQ) (T : zT) (a n : Nat) : zT := if a = 0 then stepT sqs T else if a = 3 then tS T 0 2 (n + 1) else if a = 1 then tS T 4 n 1 else tS T 4 n 0
def plL (sqs : Nat → zQ) (S : zT) : Nat → Nat → zT → zT
  | 0, _, T => T
  | j + 1, i, T => plL sqs S j (i + 1) (plS sqs T (S 0 i) (S 1 i))
theorem plS_ok {k a n N M : Nat} {T : zT} {sqs : Nat → zQ} (ho : OkT k T) (hN : T 0 0 = N) (hM : T 0 1 = M) (hm : T 0 3 < 20000) (h3 : a = 3 → n < M) : OkT k (plS sqs T a n) ∧ plS sqs T a n 0 0 = N ∧ plS sqs T a n 0 1 = M ∧ plS sqs T a n 0 3 ≤ T 0 3 + 1 := by
  unfold plS
  by_cases c0 : a = 0
  · rw [if_pos c0]
    exact ⟨OkT_step ho hm, hN, hM, Nat.le_refl _⟩
  · rw [if_neg c0]
    by_cases c3 : a = 3
    · rw [if_pos c3]
      exact ⟨OkT_anv ho (by rw [hM]; exact h3 c3), hN, hM, Nat.le_succ _⟩
    · rw [if_neg c3]
      by_cases c1 : a = 1
      · rw [if_pos c1]
        exact ⟨OkT_put4 ho (by decide), hN, hM, Nat.le_succ _⟩
      · rw [if_neg c1]
        exact ⟨OkT_put4 ho (by decide), hN, hM, Nat.le_succ _⟩
theorem gpX {k a n : Nat} {p2 : Int32} {T : zT} {sqs : Nat → zQ} {u : zM} (hV : VX 51 u T) (ho : OkT k T) (hs : OkS k sqs) (hq : SqX k u sqs) (ha : a ≤ 3) (hp : a ≠ 0 → p2 = nI n) (h12 : a = 1 ∨ a = 2 → n < T 0 0) (h3 : a = 3 → n < T 0 1) : ∃ u', f_X1_goPlanned (nI a) p2 u = some ((), u') ∧ VX 51 u' (plS sqs T a n) ∧ xfr 51 u u' := by
  have hn := ho.1
  have h4 : a = 0 ∨ a = 1 ∨ a = 2 ∨ a = 3 := by omega
  unfold f_X1_goPlanned plS
  have xs : ∀ j x, xfr 51 u (sI u 55 j x) := fun j x => ⟨fun b i q => by rw [gI_sI, if_neg (by omega)], fun _ _ => rfl, fun _ _ _ => rfl⟩
  have xs2 : ∀ j x, xfr 51 u (sI u 51 j x) := fun j x => ⟨fun b i q => by rw [gI_sI, if_neg (by omega)], fun _ _ => rfl, fun _ _ _ => rfl⟩
  rcases h4 with rfl | rfl | rfl | rfl
  · obtain ⟨u', r1, r2, r3⟩ := minX hV ho hs hq (by decide)
    rw [if_pos (by decide), if_pos (by decide), r1, zb_s]
    exact ⟨u', rfl, r2, r3⟩
  · have e := hp (by decide)
    have hnn := h12 (Or.inl rfl)
    rw [e, if_neg (by decide), if_neg (by decide), hasX_t hV ho hnn, zb_s, if_neg (by decide), if_pos (by decide), if_neg (by decide), if_neg (by decide), if_pos (by decide), inB_n (show n < 6 by omega) (by decide), zck_t, zlet_s, nI_cl (n := n) (by omega), nar1]
    exact ⟨_, rfl, VX_put (c := 4) hV (by decide) (by decide), xs _ _⟩
  · have e := hp (by decide)
    have hnn := h12 (Or.inr rfl)
    rw [e, if_neg (by decide), if_neg (by decide), hasX_t hV ho hnn, zb_s, if_neg (by decide), if_neg (by decide), if_neg (by decide), if_neg (by decide), if_neg (by decide), inB_n (show n < 6 by omega) (by decide), zck_t, zlet_s, nI_cl (n := n) (by omega), nar0]
    exact ⟨_, rfl, VX_put (c := 4) hV (by decide) (by decide), xs _ _⟩
  · have e := hp (by decide)
    rw [e, if_neg (by decide), if_pos (by decide), if_neg (by decide), if_pos (by decide), zlet_s, ← nI_pred n, show (1 : Int32) = nI 1 from rfl]
    exact ⟨_, rfl, VX_anv (a := n + 1) hV, xs2 _ _⟩
theorem gpM {k a n : Nat} {p2 : Int32} {T : zT} {sqs : Nat → zQ} {w0 w : zM} (hV : VM 0 0 13 w T) (ho : OkT k T) (hs : OkS k sqs) (hq : SqM k w sqs) (ha : a ≤ 3) (hp : a ≠ 0 → p2 = nI n) (h12 : a = 1 ∨ a = 2 → n < T 0 0) (h3 : a = 3 → n < T 0 1) (hsv : SV w0 w) : ∃ w', f_X9_goPlan (nI a) p2 w = some ((), w') ∧ VM 0 0 13 w' (plS sqs T a n) ∧ SV w0 w' ∧ (∀ b j, b ≠ 3 → b ≠ 7 → b ≠ 17 → b ≠ 18 → b ≠ 0 → gI w' b j = gI w b j) ∧ gI w' 0 42 = gI w 0 42 := by
  have hn := ho.1
  have h4 : a = 0 ∨ a = 1 ∨ a = 2 ∨ a = 3 := by omega
  unfold f_X9_goPlan f_X9_goPlan_L8 plS
  rcases h4 with rfl | rfl | rfl | rfl
  · obtain ⟨w', r1, r2, r3⟩ := minM hV ho hs hq
    rw [if_pos (by decide), if_pos (by decide), r1, zb_s, show f_X9_in (nI 0) 1 2 w' = some (0, w') from by rw [f_in]; rfl, zb_s, if0, if_neg (by decide)]
    exact ⟨w', rfl, r2, SV_mfr hsv r3, fun b j q1 q2 q3 q4 q5 => r3.1 b j q1 q2 q3 q4 (by omega), r3.1 _ _ (by omega) (by omega) (by omega) (by omega) (by omega)⟩
  · have e := hp (by decide)
    have hnn := h12 (Or.inl rfl)
    obtain ⟨x, r1, r2⟩ := goesM hV ho hnn (b := 1) (by decide)
    rw [e, if_neg (by decide), if_neg (by decide), if_neg (by decide), if_pos (by decide), show f_X9_in (nI 1) 1 2 w = some (1, w) from by rw [f_in]; rfl, zb_s, if1, if_pos (by decide), show (1 : Int32) = nI 1 from rfl, r1, zb_s, if_neg (by decide)]
    exact ⟨_, rfl, r2, SV_put hsv (by omega), fun b j _ _ _ _ q5 => by rw [gI_sI, if_neg (by omega)], by rw [gI_sI, if_neg (by omega)]⟩
  · have e := hp (by decide)
    have hnn := h12 (Or.inr rfl)
    obtain ⟨x, r1, r2⟩ := goesM hV ho hnn (b := 0) (by decide)
    rw [e, if_neg (by decide), if_neg (by decide), if_neg (by decide), if_neg (by decide), show f_X9_in (nI 2) 1 2 w = some (1, w) from by rw [f_in]; rfl, zb_s, if1, if_neg (by decide), show (0 : Int32) = nI 0 from rfl, r1, zb_s, if_neg (by decide)]
    exact ⟨_, rfl, r2, SV_put hsv (by omega), fun b j _ _ _ _ q5 => by rw [gI_sI, if_neg (by omega)], by rw [gI_sI, if_neg (by omega)]⟩
  · have e := hp (by decide)
    rw [e, if_neg (by decide), if_neg (by decide), if_pos (by decide), show f_X9_in (nI 3) 1 2 w = some (0, w) from by rw [f_in]; rfl, zb_s, if0, if_pos (by decide), zlet_s, show nI n = mAn (n + 1) from (mAn_s (n + 1) (Nat.succ_pos n)).symm]
    exact ⟨_, rfl, VM_anv (a := n + 1) hV, SV_put hsv (by omega), fun b j _ _ _ _ q5 => by rw [gI_sI, if_neg (by omega)], by rw [gI_sI, if_neg (by omega)]⟩
theorem plLX {k z N M : Nat} {S : zT} {sqs : Nat → zQ} (hs : OkS k sqs) (hS : PlOk N M S z) : ∀ (j i fn : Nat) (u : zM) (T : zT), i + j = z → j < fn → VX 51 u T → OkT k T → SqX k u sqs → T 0 0 = N → T 0 1 = M → T 0 3 + j ≤ 20000 → PlX 17 u S z → ∃ u', f_X1_behindPlan_L13 fn (nI i) u = some (51, u') ∧ VX 51 u' (plL sqs S j i T) ∧ xfr 51 u u' ∧ OkT k (plL sqs S j i T) := by
  intro j
  induction j with
  | zero =>
    intro i fn u T hi hf hV ho hq hN hM hm hP
    obtain ⟨fn, rfl⟩ : ∃ g, fn = g + 1 := ⟨fn - 1, by omega⟩
    have hz := hS.1
    refine ⟨u, ?_, hV, xfr_rf 51 u, ho⟩
    show f_X1_behindPlan_L13_b _ _ _ = _
    unfold f_X1_behindPlan_L13_b
    rw [hP.1, if_pos (nI_le (by omega) (by omega))]
  | succ j ih =>
    intro i fn u T hi hf hV ho hq hN hM hm hP
    obtain ⟨fn, rfl⟩ : ∃ g, fn = g + 1 := ⟨fn - 1, by omega⟩
    have hz := hS.1
    obtain ⟨s1, s2, s3⟩ := hS.2 i (by omega)
    obtain ⟨x1, x2⟩ := hP.2 i (by omega)
    obtain ⟨u1, r1, r2, r3⟩ := gpX (n := S 1 i) hV ho hs hq s1 x2 (by rw [hN]; exact s2) (by rw [hM]; exact s3)
    obtain ⟨o1, o2, o3, o4⟩ := plS_ok (sqs := sqs) ho hN hM (by omega) s3
    obtain ⟨u', d1, d2, d3, d4⟩ := ih (i + 1) fn u1 _ (by omega) (by omega) r2 o1 (SqX_cg hq (fun a x hx => r3.1 _ _ (by omega))) o2 o3 (by omega) ⟨(r3.1 _ _ (by omega)).trans hP.1, fun x hx => ⟨(r3.1 _ _ (by omega)).trans (hP.2 x hx).1, fun q => (r3.1 _ _ (by omega)).trans ((hP.2 x hx).2 q)⟩⟩
    refine ⟨u', ?_, d2, xfr_tr r3 d3, d4⟩
    show f_X1_behindPlan_L13_b _ _ _ = _
    unfold f_X1_behindPlan_L13_b
    rw [hP.1, if_neg (nI_ge (by omega) (by omega)), inB_n (show i < 10 by omega) (by decide), zck_t, zck_t, nI_cl (n := i) (by omega), x1, r1, zb_s, nI_a1]
    exact d1
theorem plLM {k z N M : Nat} {p1 : Int32} {S : zT} {sqs : Nat → zQ} {w0 : zM} (hs : OkS k sqs) (hS : PlOk N M S z) : ∀ (j i fn : Nat) (w : zM) (T : zT), i + j = z → j < fn → VM 0 0 13 w T → OkT k T → SqM k w sqs → T 0 0 = N → T 0 1 = M → T 0 3 + j ≤ 20000 → PlM 42 26 27 w S z → SV w0 w → ∃ w', f_X9_ends_L18 p1 fn (nI i) w = some ((if p1 = (0 : Int32) then nI (sumT (plL sqs S j i T)) else nI (dnT (plL sqs S j i T))), w') ∧ rfr w0 w' := by
  intro j
  induction j with
  | zero =>
    intro i fn w T hi hf hV ho hq hN hM hm hP hsv
    obtain ⟨fn, rfl⟩ : ∃ g, fn = g + 1 := ⟨fn - 1, by omega⟩
    have hz := hS.1
    obtain ⟨w', r1, r2⟩ := backM hsv
    refine ⟨w', ?_, r2⟩
    show f_X9_ends_L18_b _ _ _ _ = _
    unfold f_X9_ends_L18_b
    rw [hP.1, if_pos (nI_le (by omega) (by omega)), sumM hV ho, dnM hV ho, zb_s, zb_s, r1, zb_s, zb_s]
    split <;> rfl
  | succ j ih =>
    intro i fn w T hi hf hV ho hq hN hM hm hP hsv
    obtain ⟨fn, rfl⟩ : ∃ g, fn = g + 1 := ⟨fn - 1, by omega⟩
    have hz := hS.1
    obtain ⟨s1, s2, s3⟩ := hS.2 i (by omega)
    obtain ⟨x1, x2⟩ := hP.2 i (by omega)
    obtain ⟨w1, r1, r2, r3, r4, r5⟩ := gpM (n := S 1 i) hV ho hs hq s1 x2 (by rw [hN]; exact s2) (by rw [hM]; exact s3) hsv
    obtain ⟨o1, o2, o3, o4⟩ := plS_ok (sqs := sqs) ho hN hM (by omega) s3
    obtain ⟨w', d1, d2⟩ := ih (i + 1) fn w1 _ (by omega) (by omega) r2 o1 (SqM_cg (fun a x h1 h2 => r4 a x (by omega) (by omega) (by omega) (by omega) (by omega)) hq) o2 o3 (by omega) ⟨r5.trans hP.1, fun x hx => ⟨(r4 _ _ (by omega) (by omega) (by omega) (by omega) (by omega)).trans (hP.2 x hx).1, fun q => (r4 _ _ (by omega) (by omega) (by omega) (by omega) (by omega)).trans ((hP.2 x hx).2 q)⟩⟩ r3
    refine ⟨w', ?_, d2⟩
    show f_X9_ends_L18_b _ _ _ _ = _
    unfold f_X9_ends_L18_b
    rw [hP.1, if_neg (nI_ge (by omega) (by omega)), inB_n (show i < 10 by omega) (by decide), zck_t, zck_t, nI_cl (n := i) (by omega), x1, r1, zb_s, nI_a1]
    exact d1
theorem ends_ask {k : Nat} {T : zT} {sqs : Nat → zQ} {uX w : zM} {S : zT} {z : Nat} (hc : Core k T sqs uX w) (hX : PlX 17 uX S z) (hM : PlM 42 26 27 w S z) (hS : PlOk (T 0 0) (T 0 1) S z) (p1 : Int32) : Ask (f_X8_ends p1) (f_X9_ends p1) uX w := by
  obtain ⟨cX, cM, ho, hmn, hs, hqX, hqM⟩ := hc
  have hz := hS.1
  unfold Ask f_X8_ends f_X9_ends
  rcases nI_in_or (n := 2) (by decide) p1 with ⟨c, hc2, rfl⟩ | hp1
  · rw [show f_X8_isWithin (nI c) 0 1 uX = some (1, uX) from wi_t (a := 0) (b := 1) (by omega) (by decide) _, show f_X9_in (nI c) 0 1 w = some (1, w) from in_t (a := 0) (b := 1) (by omega) (by decide) _, zb_s, zb_s, if1, if1]
    obtain ⟨u1, a1, a2, a3⟩ := becX (t := 51) (by decide) cX ho hs.1
    have hP1 : PlX 17 u1 S z := ⟨(a3.1 _ _ (by omega)).trans hX.1, fun x hx => ⟨(a3.1 _ _ (by omega)).trans (hX.2 x hx).1, fun q => (a3.1 _ _ (by omega)).trans ((hX.2 x hx).2 q)⟩⟩
    obtain ⟨u2, b1, b2, b3, b4⟩ := plLX hs hS z 0 400 u1 T (by omega) (by omega) a2 ho (SqX_afr hqX (afr_x a3)) rfl rfl (by omega) hP1
    obtain ⟨w1, d1, d2, d3⟩ := saveM w
    have hPM : PlM 42 26 27 w1 S z := ⟨(d3 _ _ (by omega) (by omega) (by omega)).trans hM.1, fun x hx => ⟨(d3 _ _ (by omega) (by omega) (by omega)).trans (hM.2 x hx).1, fun q => (d3 _ _ (by omega) (by omega) (by omega)).trans ((hM.2 x hx).2 q)⟩⟩
    obtain ⟨w2, g1, g2⟩ := plLM (p1 := nI c) hs hS z 0 400 w1 T (by omega) (by omega) (VM_sv cM d3) ho (SqM_sv hqM d3) rfl rfl (by omega) hPM d2
    refine ⟨if nI c = (0 : Int32) then nI (sumT (plL sqs S z 0 T)) else nI (dnT (plL sqs S z 0 T)), u2, w2, ?_, ?_, afr_x (xfr_tr a3 b3), g2⟩
    · unfold f_X1_behindPlan
      rw [a1, zb_s, show (0 : Int32) = nI 0 from rfl, b1, zb_s, show isT 51 = true from rfl, zck_t, sumX b2 b4, dnX b2 b4, zb_s, zb_s]
      split <;> rfl
    · rw [d1, zb_s]
      exact g1
  · rw [show f_X8_isWithin p1 0 1 uX = some (0, uX) from wi_f (n := 1) (by decide) hp1 _, show f_X9_in p1 0 1 w = some (0, w) from in_f (n := 1) (by decide) hp1 _, zb_s, zb_s, if0, if0]
    exact ⟨-1, uX, w, rfl, rfl, afr_rf _, rfr_rf _⟩
/-! can -/
theorem goT_snoc (sqs : Nat → zQ) : ∀ n T, goT sqs (n + 1) T = stepT sqs (goT sqs n T) := by
  intro n
  induction n with
  | zero => intro T; rfl
  | succ n ih =>
    intro T
    show goT sqs (n + 1) (stepT sqs T) = stepT sqs (goT sqs n (stepT sqs T))
    exact ih _
def seenQ (sqs : Nat → zQ) (S T : zT) (i : Nat) : Prop := hoT (goT sqs (S 1 i) T) (S 0 i) = S 2 i
def seenL (sqs : Nat → zQ) (S T : zT) : Nat → Bool
  | 0 => true
  | z + 1 => seenL sqs S T z && (hoT (goT sqs (S 1 z) T) (S 0 z) == S 2 z)
theorem seenL_iff (sqs : Nat → zQ) (S T : zT) : ∀ z, seenL sqs S T z = true ↔ ∀ i, i < z → seenQ sqs S T i := by
  intro z
  induction z with
  | zero => exact ⟨fun _ i hi => absurd hi (Nat.not_lt_zero i), fun _ => rfl⟩
  | succ z ih =>
    show (seenL sqs S T z && (hoT (goT sqs (S 1 z) T) (S 0 z) == S 2 z)) = true ↔ _
    rw [Bool.and_eq_true, ih, beq_iff_eq]
    constructor
    · intro ⟨h1, h2⟩ i hi
      by_cases c : i = z
      · rw [c]; exact h2
      · exact h1 i (by omega)
    · intro h
      exact ⟨fun i hi => h i (by omega), h z (by omega)⟩
theorem seeX_x {t : Nat} {u u' : zM} {S : zT} {z : Nat} (ht : t + 3 < 51) (h : SeeX t u S z) (g : xfr 51 u u') : SeeX t u' S z := ⟨(g.1 _ _ (by omega)).trans h.1, fun i hi => ⟨(g.1 _ _ (by omega)).trans (h.2 i hi).1, (g.1 _ _ (by omega)).trans (h.2 i hi).2.1, (g.1 _ _ (by omega)).trans (h.2 i hi).2.2⟩⟩
theorem seenX {k z : Nat} {S T : zT} {sqs : Nat → zQ} {u : zM} (hs : OkS k sqs) (hV : VX 51 u T) (ho : OkT k T) (hq : SqX k u sqs) (hmn : T 0 3 ≤ 9999) (hX : SeeX 13 u S z) (hS : SeeOk (T 0 0) S z) : ∃ u', f_X1_isAllSeenSo u = some (nI (b2n (seenL sqs S T z)), u') ∧ xfr 51 u u' := by
  have hn := ho.1
  have hz := hS.1
  have hmax : ∀ j i L fn, i + j = z → j < fn → L ≤ 12 → ∃ L', L' ≤ 12 ∧ L ≤ L' ∧ (∀ x, i ≤ x → x < z → S 1 x ≤ L') ∧ f_X1_isAllSeenSo_L4 fn (nI L) (nI i) u = f_X1_isAllSeenSo_L37 400 (nI L') (0 : Int32) u := by
    intro j
    induction j with
    | zero =>
      intro i L fn hi hf hL
      obtain ⟨fn, rfl⟩ : ∃ g, fn = g + 1 := ⟨fn - 1, by omega⟩
      refine ⟨L, hL, Nat.le_refl _, fun x h1 h2 => absurd h2 (by omega), ?_⟩
      show f_X1_isAllSeenSo_L4_b _ _ _ _ = _
      unfold f_X1_isAllSeenSo_L4_b
      rw [hX.1, if_pos (nI_le (by omega) (by omega))]
    | succ j ih =>
      intro i L fn hi hf hL
      obtain ⟨fn, rfl⟩ : ∃ g, fn = g + 1 := ⟨fn - 1, by omega⟩
      obtain ⟨x1, x2, x3⟩ := hX.2 i (by omega)
      obtain ⟨s1, s2, s3⟩ := hS.2 i (by omega)
      have hstep : f_X1_isAllSeenSo_L4 (fn + 1) (nI L) (nI i) u = f_X1_isAllSeenSo_L4 fn (nI (if L < S 1 i then S 1 i else L)) (nI (i + 1)) u := by
        show f_X1_isAllSeenSo_L4_b _ _ _ _ = _
        unfold f_X1_isAllSeenSo_L4_b
        rw [hX.1, if_neg (nI_ge (by omega) (by omega)), inB_n (show i < 5 by omega) (by decide), zck_t, nI_cl (n := i) (by omega), x2, zlx_s, nI_a1]
        by_cases c : L < S 1 i
        · rw [if_pos c, if_pos (nI_lt c (by omega))]
        · rw [if_neg c, if_neg (nI_nlt (by omega) (by omega))]
      obtain ⟨L', l1, l2, l3, l4⟩ := ih (i + 1) (if L < S 1 i then S 1 i else L) fn (by omega) (by omega) (by split <;> omega)
      refine ⟨L', l1, ?_, fun x h1 h2 => ?_, hstep.trans l4⟩
      · split at l2 <;> omega
      · by_cases c : x = i
        · rw [c]
          split at l2 <;> omega
        · exact l3 x (by omega) h2
  obtain ⟨L, hL, -, hLs, hL4⟩ := hmax z 0 0 400 (by omega) (by omega) (by omega)
  have h37 : ∀ d m fn (u1 : zM), m + d = L + 1 → d < fn → VX 51 u1 (goT sqs m T) → xfr 51 u u1 → ∃ u' b, f_X1_isAllSeenSo_L37 fn (nI L) (nI m) u1 = some (nI (b2n b), u') ∧ (b = true ↔ ∀ i, i < z → m ≤ S 1 i → seenQ sqs S T i) ∧ xfr 51 u u' := by
    intro d
    induction d with
    | zero =>
      intro m fn u1 hm hf hV1 hx
      obtain ⟨fn, rfl⟩ : ∃ g, fn = g + 1 := ⟨fn - 1, by omega⟩
      refine ⟨u1, true, ?_, ⟨fun _ i hi hle => absurd (hLs i (by omega) hi) (by omega), fun _ => rfl⟩, hx⟩
      show f_X1_isAllSeenSo_L37_b _ _ _ _ = _
      unfold f_X1_isAllSeenSo_L37_b
      rw [if_pos (nI_lt (by omega) (by omega))]
      rfl
    | succ d ihd =>
      intro m fn u1 hm hf hV1 hx
      obtain ⟨fn, rfl⟩ : ∃ g, fn = g + 1 := ⟨fn - 1, by omega⟩
      have hX1 := seeX_x (by decide) hX hx
      have hok : OkT k (goT sqs m T) := OkT_go m T ho (by omega)
      have hnn : goT sqs m T 0 0 = T 0 0 := goT_n sqs m T
      have h44 : ∀ j i fx, i + j = z → j < fx → ((∀ x, i ≤ x → x < z → S 1 x = m → seenQ sqs S T x) → f_X1_isAllSeenSo_L44 (f_X1_isAllSeenSo_L37 fn) fx (nI L) (nI m) (nI i) u1 = (if nI L ≤ nI m then f_X1_isAllSeenSo_L37 fn (nI L) (nI m + 1) u1 else zb (f_X6_goOneMinute 51 u1) fun _ u2 => f_X1_isAllSeenSo_L37 fn (nI L) (nI m + 1) u2)) ∧ ((¬ ∀ x, i ≤ x → x < z → S 1 x = m → seenQ sqs S T x) → f_X1_isAllSeenSo_L44 (f_X1_isAllSeenSo_L37 fn) fx (nI L) (nI m) (nI i) u1 = some (0, u1)) := by
        intro j
        induction j with
        | zero =>
          intro i fx hi hfx
          obtain ⟨fx, rfl⟩ : ∃ g, fx = g + 1 := ⟨fx - 1, by omega⟩
          refine ⟨fun _ => ?_, fun h => absurd (fun x h1 h2 => absurd h2 (by omega)) h⟩
          show f_X1_isAllSeenSo_L44_b _ _ _ _ _ _ = _
          unfold f_X1_isAllSeenSo_L44_b
          rw [hX1.1, if_pos (nI_le (by omega) (by omega))]
        | succ j ihj =>
          intro i fx hi hfx
          obtain ⟨fx, rfl⟩ : ∃ g, fx = g + 1 := ⟨fx - 1, by omega⟩
          obtain ⟨x1, x2, x3⟩ := hX1.2 i (by omega)
          obtain ⟨s1, s2, s3⟩ := hS.2 i (by omega)
          obtain ⟨i1, i2⟩ := ihj (i + 1) fx (by omega) (by omega)
          have hcl : (nI i).toNatClampNeg = i := nI_cl (by omega)
          have hin : inB (nI i) 5 = true := inB_n (by omega) (by decide)
          have hb : f_X1_isAllSeenSo_L44 (f_X1_isAllSeenSo_L37 fn) (fx + 1) (nI L) (nI m) (nI i) u1 = if S 1 i = m then (if hoT (goT sqs m T) (S 0 i) = S 2 i then f_X1_isAllSeenSo_L44 (f_X1_isAllSeenSo_L37 fn) fx (nI L) (nI m) (nI (i + 1)) u1 else some (0, u1)) else f_X1_isAllSeenSo_L44 (f_X1_isAllSeenSo_L37 fn) fx (nI L) (nI m) (nI (i + 1)) u1 := by
            show f_X1_isAllSeenSo_L44_b _ _ _ _ _ _ = _
            unfold f_X1_isAllSeenSo_L44_b
            rw [hX1.1, if_neg (nI_ge (by omega) (by omega)), hin, zck_t, zck_t, hcl, x1, x2, isHX hV1 hok (by rw [hnn]; exact s1), zb_s, asN_n (hoT_le _ _), zb_s, x3, zck_t, nI_a1]
            have h1 := hoT_le (goT sqs m T) (S 0 i)
            by_cases c1 : S 1 i = m
            · rw [if_pos c1, if_pos (by rw [c1])]
              by_cases c2 : hoT (goT sqs m T) (S 0 i) = S 2 i
              · rw [if_pos c2, if_pos (by rw [c2])]
              · rw [if_neg c2, if_neg (fun q => c2 ((nI_eq (by omega) (by omega)).mp q))]
            · rw [if_neg c1, if_neg (fun q => c1 ((nI_eq (by omega) (by omega)).mp q))]
          rw [hb]
          by_cases c1 : S 1 i = m
          · rw [if_pos c1]
            by_cases c2 : hoT (goT sqs m T) (S 0 i) = S 2 i
            · have hqi : seenQ sqs S T i := by
                unfold seenQ
                rw [c1]
                exact c2
              rw [if_pos c2]
              refine ⟨fun h => i1 (fun x h1 h2 => h x (by omega) h2), fun h => i2 (fun h2 => h (fun x h3 h4 h5 => ?_))⟩
              by_cases cx : x = i
              · rw [cx]; exact hqi
              · exact h2 x (by omega) h4 h5
            · rw [if_neg c2]
              refine ⟨fun h => absurd (h i (Nat.le_refl _) (by omega) c1) ?_, fun _ => rfl⟩
              unfold seenQ
              rw [c1]
              exact c2
          · rw [if_neg c1]
            refine ⟨fun h => i1 (fun x h1 h2 => h x (by omega) h2), fun h => i2 (fun h2 => h (fun x h3 h4 h5 => ?_))⟩
            by_cases cx : x = i
            · exact absurd (cx ▸ h5) c1
            · exact h2 x (by omega) h4 h5
      obtain ⟨j1, j2⟩ := h44 z 0 400 (by omega) (by omega)
      have hrun : f_X1_isAllSeenSo_L37 (fn + 1) (nI L) (nI m) u1 = f_X1_isAllSeenSo_L44 (f_X1_isAllSeenSo_L37 fn) 400 (nI L) (nI m) (nI 0) u1 := by
        show f_X1_isAllSeenSo_L37_b _ _ _ _ = _
        unfold f_X1_isAllSeenSo_L37_b
        rw [if_neg (nI_nlt (by omega) (by omega))]
        rfl
      rw [hrun]
      by_cases hall : ∀ x, 0 ≤ x → x < z → S 1 x = m → seenQ sqs S T x
      · rw [j1 hall]
        have hcomb : ∀ b : Bool, (b = true ↔ ∀ i, i < z → m + 1 ≤ S 1 i → seenQ sqs S T i) → (b = true ↔ ∀ i, i < z → m ≤ S 1 i → seenQ sqs S T i) := by
          intro b hb
          rw [hb]
          constructor
          · intro h i hi hm2
            by_cases c : S 1 i = m
            · exact hall i (by omega) hi c
            · exact h i hi (by omega)
          · intro h i hi hm2
            exact h i hi (by omega)
        by_cases cL : L ≤ m
        · have hmL : m = L := by omega
          rw [if_pos (nI_le cL (by omega)), nI_a1]
          obtain ⟨fn2, rfl⟩ : ∃ g, fn = g + 1 := ⟨fn - 1, by omega⟩
          refine ⟨u1, true, ?_, hcomb true ⟨fun _ i hi hle => absurd (hLs i (by omega) hi) (by omega), fun _ => rfl⟩, hx⟩
          show f_X1_isAllSeenSo_L37_b _ _ _ _ = _
          unfold f_X1_isAllSeenSo_L37_b
          rw [if_pos (nI_lt (by omega) (by omega))]
          rfl
        · rw [if_neg (nI_ge (by omega) (by omega)), nI_a1]
          obtain ⟨u2, r1, r2, r3⟩ := minX hV1 hok hs (SqX_cg hq (fun a x hx2 => hx.1 _ _ (by omega))) (by decide)
          rw [r1, zb_s]
          obtain ⟨u', b, d1, d2, d3⟩ := ihd (m + 1) fn u2 (by omega) (by omega) (by rw [goT_snoc]; exact r2) (xfr_tr hx r3)
          exact ⟨u', b, d1, hcomb b d2, d3⟩
      · rw [j2 hall]
        refine ⟨u1, false, rfl, ⟨fun h => absurd h (by decide), fun h => absurd (fun x _ h2 h3 => h x h2 (by omega)) hall⟩, hx⟩
  obtain ⟨u', b, d1, d2, d3⟩ := h37 (L + 1) 0 400 u (by omega) (by omega) hV (xfr_rf 51 u)
  refine ⟨u', ?_, d3⟩
  have hb : b = seenL sqs S T z := by
    have h1 := seenL_iff sqs S T z
    have h2 : b = true ↔ seenL sqs S T z = true := by
      rw [h1, d2]
      exact ⟨fun h i hi => h i hi (Nat.zero_le _), fun h i hi _ => h i hi⟩
    cases b <;> cases hh : seenL sqs S T z <;> rw [hh] at h2 <;> first | rfl | exact absurd (h2.mp rfl) (by decide) | exact absurd (h2.mpr rfl) (by decide)
  rw [← hb]
  exact hL4.trans d1
