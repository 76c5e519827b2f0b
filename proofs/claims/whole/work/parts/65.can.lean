/-! ===== PURE: can ===== -/
def seenR (sqs : Nat → zQ) (S T : zT) : Nat → Nat → Bool
  | 0, _ => true
  | j + 1, i => (hoT (goT sqs (S 1 i) T) (S 0 i) == S 2 i) && seenR sqs S T j (i + 1)
theorem seenR_iff (sqs : Nat → zQ) (S T : zT) : ∀ j i, seenR sqs S T j i = true ↔ ∀ x, i ≤ x → x < i + j → seenQ sqs S T x := by
  intro j
  induction j with
  | zero => intro i; exact ⟨fun _ x h1 h2 => absurd h2 (by omega), fun _ => rfl⟩
  | succ j ih =>
    intro i
    show ((hoT (goT sqs (S 1 i) T) (S 0 i) == S 2 i) && seenR sqs S T j (i + 1)) = true ↔ _
    rw [Bool.and_eq_true, ih, beq_iff_eq]
    constructor
    · intro ⟨h1, h2⟩ x hx1 hx2
      by_cases c : x = i
      · rw [c]; exact h1
      · exact h2 x (by omega) (by omega)
    · intro h
      exact ⟨h i (Nat.le_refl _) (by omega), fun x h1 h2 => h x (by omega) (by omega)⟩
theorem bool_eq {a b : Bool} (h : a = true ↔ b = true) : a = b := by
  cases a <;> cases b <;> first | rfl | exact absurd (h.mp rfl) (by decide) | exact absurd (h.mpr rfl) (by decide)
theorem seenR_L (sqs : Nat → zQ) (S T : zT) (z : Nat) : seenR sqs S T z 0 = seenL sqs S T z := bool_eq (by
  rw [seenR_iff, seenL_iff]
  exact ⟨fun h i hi => h i (Nat.zero_le _) (by omega), fun h i _ hi => h i (by omega)⟩)
theorem seenM {k z : Nat} {S T : zT} {sqs : Nat → zQ} (hS : SeeOk (T 0 0) S z) : ∀ (j i fn : Nat) (b : Bool) (w : zM), i + j = z → j < fn → MC k T sqs w → SeeM 38 23 24 25 w S z → ∃ w', f_X9_isSeen_L4 fn (nI (b2n b)) (nI i) w = some (nI (b2n (b && seenR sqs S (tS T 0 2 0) j i)), w') ∧ rfr w w' := by
  intro j
  induction j with
  | zero =>
    intro i fn b w hi hf hmc hM
    obtain ⟨fn, rfl⟩ : ∃ g, fn = g + 1 := ⟨fn - 1, by omega⟩
    have hz := hS.1
    refine ⟨w, ?_, rfr_rf w⟩
    show f_X9_isSeen_L4_b _ _ _ _ = _
    unfold f_X9_isSeen_L4_b
    rw [hM.1, if_pos (nI_le (by omega) (by omega))]
    cases b <;> rfl
  | succ j ih =>
    intro i fn b w hi hf hmc hM
    obtain ⟨fn, rfl⟩ : ∃ g, fn = g + 1 := ⟨fn - 1, by omega⟩
    have hz := hS.1
    show ∃ w', f_X9_isSeen_L4_b _ _ _ _ = some (nI (b2n (b && ((hoT (goT sqs (S 1 i) (tS T 0 2 0)) (S 0 i) == S 2 i) && seenR sqs S (tS T 0 2 0) j (i + 1)))), w') ∧ _
    unfold f_X9_isSeen_L4_b
    rw [hM.1, if_neg (nI_ge (by omega) (by omega))]
    cases b with
    | false => exact ⟨w, rfl, rfr_rf w⟩
    | true =>
      have hmc2 := hmc
      obtain ⟨cM, ho, hmn, hs, hq⟩ := hmc
      have hn := ho.1
      obtain ⟨m1, m2, m3⟩ := hM.2 i (by omega)
      obtain ⟨s1, s2, s3⟩ := hS.2 i (by omega)
      obtain ⟨w1, a1, a2, a3⟩ := saveM w
      have hV : VM 0 0 13 (sI w1 0 3 (-5 : Int32)) (tS T 0 2 0) := VM_anv (a := 0) (VM_sv cM a3)
      have hok : OkT k (tS T 0 2 0) := OkT_anv ho (Nat.zero_le _)
      obtain ⟨w2, b1, b2, b3⟩ := goM hs (n := S 1 i) (by omega) hV hok (SqM_cg (fun a x h1 h2 => by rw [gI_sI, if_neg (by omega)]) (SqM_sv hq a3)) (by show T 0 3 + S 1 i ≤ 20000; omega)
      obtain ⟨w3, d1, d2⟩ := backM (SV_mfr (SV_put a2 (by omega)) b3)
      have hok2 : OkT k (goT sqs (S 1 i) (tS T 0 2 0)) := OkT_go _ _ hok (by show T 0 3 + S 1 i ≤ 20000; omega)
      have g1 : gI (sI w1 0 3 (-5 : Int32)) 24 i = nI (S 1 i) := by rw [gI_sI, if_neg (by omega), a3 _ _ (by omega) (by omega) (by omega)]; exact m2
      have g2 : gI w2 23 i = nI (S 0 i) := by rw [b3.1 _ _ (by omega) (by omega) (by omega) (by omega) (by omega), gI_sI, if_neg (by omega), a3 _ _ (by omega) (by omega) (by omega)]; exact m1
      have g3 : gI w2 25 i = nI (S 2 i) := by rw [b3.1 _ _ (by omega) (by omega) (by omega) (by omega) (by omega), gI_sI, if_neg (by omega), a3 _ _ (by omega) (by omega) (by omega)]; exact m3
      have hM3 : SeeM 38 23 24 25 w3 S z := ⟨(d2.1 _ _ (by omega) (by omega) (by omega) (by omega)).trans hM.1, fun x hx => ⟨(d2.1 _ _ (by omega) (by omega) (by omega) (by omega)).trans (hM.2 x hx).1, (d2.1 _ _ (by omega) (by omega) (by omega) (by omega)).trans (hM.2 x hx).2.1, (d2.1 _ _ (by omega) (by omega) (by omega) (by omega)).trans (hM.2 x hx).2.2⟩⟩
      have hcl : (nI i).toNatClampNeg = i := nI_cl (by omega)
      have hin : inB (nI i) 5 = true := inB_n (by omega) (by decide)
      have hcs : (nI (S 0 i)).toNatClampNeg = S 0 i := nI_cl (by omega)
      have his : inB (nI (S 0 i)) 6 = true := inB_n (by omega) (by decide)
      have h57 : ∀ x, x ≤ 1 → f_X9_isSeen_L57 (f_X9_isSeen_L4 fn) (nI i) (nI x) w2 = f_X9_isSeen_L4 fn (nI (b2n (x == S 2 i))) (nI (i + 1)) w3 := by
        intro x hx
        unfold f_X9_isSeen_L57
        rw [hin, zck_t, hcl, g3, d1, zb_s, zb_s, nI_a1]
        by_cases c : x = S 2 i
        · rw [if_pos (by rw [c]), show (x == S 2 i) = true from beq_iff_eq.mpr c]
          rfl
        · rw [if_neg (fun q => c ((nI_eq (by omega) (by omega)).mp q)), show (x == S 2 i) = false from beq_eq_false_iff_ne.mpr c]
          rfl
      obtain ⟨w', e1, e2⟩ := ih (i + 1) fn (hoT (goT sqs (S 1 i) (tS T 0 2 0)) (S 0 i) == S 2 i) w3 (by omega) (by omega) (MC_rfr hmc2 d2) hM3
      refine ⟨w', ?_, rfr_tr d2 e2⟩
      rw [if_neg (show ¬ nI (b2n true) = (0 : Int32) by decide), a1, zb_s, zlet_s, hin, zck_t, hcl, g1, b1, zb_s, zck_t, g2, his, zck_t, hcs, hoM b2 hok2 (by rw [goT_n]; exact s1), show (0 : Int32) = nI 0 from rfl, show (1 : Int32) = nI 1 from rfl, h57 0 (by omega), h57 1 (by omega)]
      have hc := hoT_le (goT sqs (S 1 i) (tS T 0 2 0)) (S 0 i)
      have hc2 : hoT (goT sqs (S 1 i) (tS T 0 2 0)) (S 0 i) = 0 ∨ hoT (goT sqs (S 1 i) (tS T 0 2 0)) (S 0 i) = 1 := by omega
      rcases hc2 with c | c
      · rw [c] at e1 ⊢
        rw [if_pos rfl]
        exact e1
      · rw [c] at e1 ⊢
        rw [if_neg (by decide)]
        exact e1
theorem tS_comm (T : zT) (c p x a : Nat) (hc : c ≠ 0) : tS (tS T c p x) 0 2 a = tS (tS T 0 2 a) c p x := by
  funext b j
  rw [tS_ap, tS_ap, tS_ap, tS_ap]
  by_cases h1 : b = 0 ∧ j = 2
  · rw [if_pos h1, if_neg (by omega), if_pos h1]
  · rw [if_neg h1, if_neg h1]
theorem tS_twice (T : zT) (c p x y : Nat) : tS (tS T c p x) c p y = tS T c p y := by
  funext b j
  rw [tS_ap, tS_ap, tS_ap]
  split <;> rfl
theorem tS_self (T : zT) (c p : Nat) : tS T c p (T c p) = T := by
  funext b j
  rw [tS_ap]
  split
  · rename_i h
    rw [h.1, h.2]
  · rfl
def fitB (sqs : Nat → zQ) (S T : zT) (z c p j : Nat) : Bool := seenL sqs S (tS (tS T 0 2 0) c p j) z
def ftL (sqs : Nat → zQ) (S T : zT) (z c p : Nat) : Nat → Nat → Nat → Nat × Nat
  | 0, n, l => (n, l)
  | j + 1, n, l => if fitB sqs S T z c p j = true then ftL sqs S T z c p j (n + 1) (j + 1) else ftL sqs S T z c p j n l
theorem nI_dn (j : Nat) : nI j + (-1 : Int32) = nI j - nI 1 := (Int32.sub_eq_add_neg (nI j) (nI 1)).symm
theorem ftXh {k z p : Nat} {p3 : Int32} {S T : zT} {sqs : Nat → zQ} (hp : p < T 0 0) (hS : SeeOk (T 0 0) S z) : ∀ (j n l fn : Nat) (u : zM), j ≤ 99 + 1 → j < fn → XC k T sqs u → SeeX 13 u S z → ∃ u', f_X1_fitting_L24 (nI p) (1 : Int32) p3 fn (nI n) (mAn l) (nI j - nI 1) u = (if p3 = (0 : Int32) then some (mAn (ftL sqs S T z 3 p j n l).2, u') else some (nI (ftL sqs S T z 3 p j n l).1, u')) ∧ afr u u' := by
  intro j
  induction j with
  | zero =>
    intro n l fn u hj hf hxc hX
    obtain ⟨fn, rfl⟩ : ∃ g, fn = g + 1 := ⟨fn - 1, by omega⟩
    refine ⟨u, ?_, afr_rf u⟩
    show f_X1_fitting_L24_b _ _ _ _ _ _ _ _ = _
    unfold f_X1_fitting_L24_b
    rw [if_pos (by decide)]
    rfl
  | succ j ih =>
    intro n l fn u hj hf hxc hX
    obtain ⟨fn, rfl⟩ : ∃ g, fn = g + 1 := ⟨fn - 1, by omega⟩
    have hxc2 := hxc
    obtain ⟨cX, ho, hmn, hs, hq⟩ := hxc
    have hn := ho.1
    obtain ⟨u1, a1, a2, a3⟩ := becX (t := 51) (by decide) cX ho hs.1
    have hV : VX 51 (sI (sI u1 51 10 (nI 0 - nI 1)) (51 + 3) p (nI j)) (tS (tS T 0 2 0) 3 p j) := VX_put (c := 3) (VX_anv (a := 0) a2) (by decide) (by decide)
    have hx : xfr 51 u (sI (sI u1 51 10 (nI 0 - nI 1)) (51 + 3) p (nI j)) := xfr_tr a3 ⟨fun b i q => by rw [gI_sI, if_neg (by omega), gI_sI, if_neg (by omega)], fun _ _ => rfl, fun _ _ _ => rfl⟩
    have hok : OkT k (tS (tS T 0 2 0) 3 p j) := OkT_put3 (OkT_anv ho (Nat.zero_le _)) (by omega)
    obtain ⟨u2, b1, b2⟩ := seenX hs hV hok (SqX_afr hq (afr_x hx)) hmn (seeX_x (by decide) hX hx) hS
    have hfr : afr u u2 := afr_x (xfr_tr hx b2)
    have hX2 := seeX_x (by decide) hX (xfr_tr hx b2)
    show ∃ u', f_X1_fitting_L24_b _ _ _ _ _ _ _ _ = _ ∧ _
    unfold f_X1_fitting_L24_b f_X1_fitting_L77
    rw [show nI (j + 1) - nI 1 = nI j from nI_pred j, if_neg (nI_pos (by omega)), a1, zb_s, zlet_s, if_neg (by decide), inB_n (show p < 6 by omega) (by decide), zck_t, zlet_s, nI_cl (n := p) (by omega), show (-1 : Int32) = nI 0 - nI 1 from by decide, b1, zb_s, show nI 0 - nI 1 = (-1 : Int32) from by decide, nI_dn, nI_a1]
    have hft : ftL sqs S T z 3 p (j + 1) n l = if fitB sqs S T z 3 p j = true then ftL sqs S T z 3 p j (n + 1) (j + 1) else ftL sqs S T z 3 p j n l := rfl
    rw [hft]
    unfold fitB
    cases hb : seenL sqs S (tS (tS T 0 2 0) 3 p j) z with
    | true =>
      rw [if_neg (by decide), if_pos rfl]
      obtain ⟨u', d1, d2⟩ := ih (n + 1) (j + 1) fn u2 (by omega) (by omega) (XC_afr hxc2 hfr) hX2
      rw [show mAn (j + 1) = nI j from mAn_s _ (Nat.succ_pos j)] at d1
      exact ⟨u', d1, afr_tr hfr d2⟩
    | false =>
      rw [if_pos (by decide), if_neg (show ¬ false = true by decide)]
      obtain ⟨u', d1, d2⟩ := ih n l fn u2 (by omega) (by omega) (XC_afr hxc2 hfr) hX2
      exact ⟨u', d1, afr_tr hfr d2⟩
theorem ftXv {k z p : Nat} {p3 : Int32} {S T : zT} {sqs : Nat → zQ} (hp : p < T 0 0) (hS : SeeOk (T 0 0) S z) : ∀ (j n l fn : Nat) (u : zM), j ≤ 9 + 1 → j < fn → XC k T sqs u → SeeX 13 u S z → ∃ u', f_X1_fitting_L24 (nI p) (0 : Int32) p3 fn (nI n) (mAn l) (nI j - nI 1) u = (if p3 = (0 : Int32) then some (mAn (ftL sqs S T z 2 p j n l).2, u') else some (nI (ftL sqs S T z 2 p j n l).1, u')) ∧ afr u u' := by
  intro j
  induction j with
  | zero =>
    intro n l fn u hj hf hxc hX
    obtain ⟨fn, rfl⟩ : ∃ g, fn = g + 1 := ⟨fn - 1, by omega⟩
    refine ⟨u, ?_, afr_rf u⟩
    show f_X1_fitting_L24_b _ _ _ _ _ _ _ _ = _
    unfold f_X1_fitting_L24_b
    rw [if_pos (by decide)]
    rfl
  | succ j ih =>
    intro n l fn u hj hf hxc hX
    obtain ⟨fn, rfl⟩ : ∃ g, fn = g + 1 := ⟨fn - 1, by omega⟩
    have hxc2 := hxc
    obtain ⟨cX, ho, hmn, hs, hq⟩ := hxc
    have hn := ho.1
    obtain ⟨u1, a1, a2, a3⟩ := becX (t := 51) (by decide) cX ho hs.1
    have hV : VX 51 (sI (sI u1 51 10 (nI 0 - nI 1)) (51 + 2) p (nI j)) (tS (tS T 0 2 0) 2 p j) := VX_put (c := 2) (VX_anv (a := 0) a2) (by decide) (by decide)
    have hx : xfr 51 u (sI (sI u1 51 10 (nI 0 - nI 1)) (51 + 2) p (nI j)) := xfr_tr a3 ⟨fun b i q => by rw [gI_sI, if_neg (by omega), gI_sI, if_neg (by omega)], fun _ _ => rfl, fun _ _ _ => rfl⟩
    have hok : OkT k (tS (tS T 0 2 0) 2 p j) := OkT_put2 (OkT_anv ho (Nat.zero_le _)) (by omega)
    obtain ⟨u2, b1, b2⟩ := seenX hs hV hok (SqX_afr hq (afr_x hx)) hmn (seeX_x (by decide) hX hx) hS
    have hfr : afr u u2 := afr_x (xfr_tr hx b2)
    have hX2 := seeX_x (by decide) hX (xfr_tr hx b2)
    show ∃ u', f_X1_fitting_L24_b _ _ _ _ _ _ _ _ = _ ∧ _
    unfold f_X1_fitting_L24_b f_X1_fitting_L77
    rw [show nI (j + 1) - nI 1 = nI j from nI_pred j, if_neg (nI_pos (by omega)), a1, zb_s, zlet_s, if_pos (by decide), inB_n (show p < 6 by omega) (by decide), zck_t, zlet_s, nI_cl (n := p) (by omega), show (-1 : Int32) = nI 0 - nI 1 from by decide, b1, zb_s, show nI 0 - nI 1 = (-1 : Int32) from by decide, nI_dn, nI_a1]
    have hft : ftL sqs S T z 2 p (j + 1) n l = if fitB sqs S T z 2 p j = true then ftL sqs S T z 2 p j (n + 1) (j + 1) else ftL sqs S T z 2 p j n l := rfl
    rw [hft]
    unfold fitB
    cases hb : seenL sqs S (tS (tS T 0 2 0) 2 p j) z with
    | true =>
      rw [if_neg (by decide), if_pos rfl]
      obtain ⟨u', d1, d2⟩ := ih (n + 1) (j + 1) fn u2 (by omega) (by omega) (XC_afr hxc2 hfr) hX2
      rw [show mAn (j + 1) = nI j from mAn_s _ (Nat.succ_pos j)] at d1
      exact ⟨u', d1, afr_tr hfr d2⟩
    | false =>
      rw [if_pos (by decide), if_neg (show ¬ false = true by decide)]
      obtain ⟨u', d1, d2⟩ := ih n l fn u2 (by omega) (by omega) (XC_afr hxc2 hfr) hX2
      exact ⟨u', d1, afr_tr hfr d2⟩
theorem ftMh {k z p : Nat} {p2 x3 : Int32} {S T : zT} {sqs : Nat → zQ} {w0 : zM} (hp : p < T 0 0) (hS : SeeOk (T 0 0) S z) (hx3 : gI w0 3 p = x3) : ∀ (j n l fn cur : Nat) (w : zM), j ≤ 99 + 1 → j < fn → cur ≤ 99 → VM 0 0 13 w (tS T 3 p cur) → OkT k T → T 0 3 ≤ 9999 → OkS k sqs → SqM k w sqs → SeeM 38 23 24 25 w S z → (∀ a i, ¬ (a = 3 ∧ i = p) → ¬ (a = 3 ∧ 6 ≤ i) → ¬ (a = 7 ∧ 4 ≤ i) → ¬ (17 ≤ a ∧ a ≤ 22) → ¬ (a = 0 ∧ 31 ≤ i ∧ i ≤ 33) → gI w a i = gI w0 a i) → (∀ a i, gJ w a i = gJ w0 a i) → (∀ a i, gO w a i = gO w0 a i) → ∃ w', f_X9_heats_L18 (nI p) p2 fn x3 (nI n) (mAn l) (nI j - nI 1) w = (if p2 = (0 : Int32) then some (nI (ftL sqs S T z 3 p j n l).1, w') else some (mAn (ftL sqs S T z 3 p j n l).2, w')) ∧ rfr w0 w' := by
  intro j
  induction j with
  | zero =>
    intro n l fn cur w hj hf hcu hV ho hmn hs hq hM f1 f2 f3
    obtain ⟨fn, rfl⟩ : ∃ g, fn = g + 1 := ⟨fn - 1, by omega⟩
    have hn := ho.1
    refine ⟨sI w 3 p x3, ?_, ⟨fun a i q1 q2 q3 q4 => ?_, f2, f3⟩⟩
    · show f_X9_heats_L18_b _ _ _ _ _ _ _ _ = _
      unfold f_X9_heats_L18_b
      rw [if_pos (by decide), inB_n (show p < 6 by omega) (by decide), zck_t, zlet_s, nI_cl (n := p) (by omega)]
      rfl
    · rw [gI_sI]
      by_cases c : a = 3 ∧ i = p
      · rw [if_pos c, c.1, c.2, hx3]
      · rw [if_neg c]
        exact f1 a i c q1 q2 q3 q4
  | succ j ih =>
    intro n l fn cur w hj hf hcu hV ho hmn hs hq hM f1 f2 f3
    obtain ⟨fn, rfl⟩ : ∃ g, fn = g + 1 := ⟨fn - 1, by omega⟩
    have hn := ho.1
    have hV1 : VM 0 0 13 (sI w 3 p (nI j)) (tS T 3 p j) := by
      rw [← tS_twice T 3 p cur j]
      exact VM_put1 hV (by decide) (by decide)
    have hok : OkT k (tS T 3 p j) := OkT_put3 ho (by omega)
    have hq1 : SqM k (sI w 3 p (nI j)) sqs := SqM_cg (fun a x h1 h2 => by rw [gI_sI, if_neg (by omega)]) hq
    have hM1 : SeeM 38 23 24 25 (sI w 3 p (nI j)) S z := ⟨by rw [gI_sI, if_neg (by omega)]; exact hM.1, fun x hx => ⟨by rw [gI_sI, if_neg (by omega)]; exact (hM.2 x hx).1, by rw [gI_sI, if_neg (by omega)]; exact (hM.2 x hx).2.1, by rw [gI_sI, if_neg (by omega)]; exact (hM.2 x hx).2.2⟩⟩
    have hmc : MC k (tS T 3 p j) sqs (sI w 3 p (nI j)) := ⟨hV1, hok, hmn, hs, hq1⟩
    obtain ⟨w1, a1, a2⟩ := seenM (T := tS T 3 p j) hS z 0 400 true _ (by omega) (by have := hS.1; omega) hmc hM1
    have e : f_X9_isSeen (sI w 3 p (nI j)) = some (nI (b2n (fitB sqs S T z 3 p j)), w1) := by
      unfold f_X9_isSeen fitB
      rw [← tS_comm T 3 p j 0 (by decide), ← seenR_L]
      exact a1
    have hV2 := VM_rfr hV1 hok a2
    have hq2 := SqM_rfr a2 hq1
    have hM2 : SeeM 38 23 24 25 w1 S z := ⟨(a2.1 _ _ (by omega) (by omega) (by omega) (by omega)).trans hM1.1, fun x hx => ⟨(a2.1 _ _ (by omega) (by omega) (by omega) (by omega)).trans (hM1.2 x hx).1, (a2.1 _ _ (by omega) (by omega) (by omega) (by omega)).trans (hM1.2 x hx).2.1, (a2.1 _ _ (by omega) (by omega) (by omega) (by omega)).trans (hM1.2 x hx).2.2⟩⟩
    have g1 : ∀ a i, ¬ (a = 3 ∧ i = p) → ¬ (a = 3 ∧ 6 ≤ i) → ¬ (a = 7 ∧ 4 ≤ i) → ¬ (17 ≤ a ∧ a ≤ 22) → ¬ (a = 0 ∧ 31 ≤ i ∧ i ≤ 33) → gI w1 a i = gI w0 a i := fun a i q0 q1 q2 q3 q4 => by rw [a2.1 a i q1 q2 q3 q4, gI_sI, if_neg q0, f1 a i q0 q1 q2 q3 q4]
    have g2 : ∀ a i, gJ w1 a i = gJ w0 a i := fun a i => (a2.2.1 a i).trans (f2 a i)
    have g3 : ∀ a i, gO w1 a i = gO w0 a i := fun a i => (a2.2.2 a i).trans (f3 a i)
    show ∃ w', f_X9_heats_L18_b _ _ _ _ _ _ _ _ = _ ∧ _
    unfold f_X9_heats_L18_b
    rw [show nI (j + 1) - nI 1 = nI j from nI_pred j, if_neg (nI_pos (by omega)), inB_n (show p < 6 by omega) (by decide), zck_t, zlet_s, nI_cl (n := p) (by omega), e, zb_s, nI_dn, nI_a1]
    have hft : ftL sqs S T z 3 p (j + 1) n l = if fitB sqs S T z 3 p j = true then ftL sqs S T z 3 p j (n + 1) (j + 1) else ftL sqs S T z 3 p j n l := rfl
    rw [hft]
    cases hb : fitB sqs S T z 3 p j with
    | true =>
      rw [if_neg (by decide), if_pos rfl]
      obtain ⟨w', d1, d2⟩ := ih (n + 1) (j + 1) fn j w1 (by omega) (by omega) (by omega) hV2 ho hmn hs hq2 hM2 g1 g2 g3
      rw [show mAn (j + 1) = nI j from mAn_s _ (Nat.succ_pos j)] at d1
      exact ⟨w', d1, d2⟩
    | false =>
      rw [if_pos (by decide), if_neg (show ¬ false = true by decide)]
      exact ih n l fn j w1 (by omega) (by omega) (by omega) hV2 ho hmn hs hq2 hM2 g1 g2 g3
theorem ftMv {k z p : Nat} {p2 x3 : Int32} {S T : zT} {sqs : Nat → zQ} {w0 : zM} (hp : p < T 0 0) (hS : SeeOk (T 0 0) S z) (hx3 : gI w0 2 p = x3) : ∀ (j n l fn cur : Nat) (w : zM), j ≤ 9 + 1 → j < fn → cur ≤ 9 → VM 0 0 13 w (tS T 2 p cur) → OkT k T → T 0 3 ≤ 9999 → OkS k sqs → SqM k w sqs → SeeM 38 23 24 25 w S z → (∀ a i, ¬ (a = 2 ∧ i = p) → ¬ (a = 3 ∧ 6 ≤ i) → ¬ (a = 7 ∧ 4 ≤ i) → ¬ (17 ≤ a ∧ a ≤ 22) → ¬ (a = 0 ∧ 31 ≤ i ∧ i ≤ 33) → gI w a i = gI w0 a i) → (∀ a i, gJ w a i = gJ w0 a i) → (∀ a i, gO w a i = gO w0 a i) → ∃ w', f_X9_canBe_L18 (nI p) p2 fn x3 (nI n) (mAn l) (nI j - nI 1) w = (if p2 = (0 : Int32) then some (nI (ftL sqs S T z 2 p j n l).1, w') else some (mAn (ftL sqs S T z 2 p j n l).2, w')) ∧ rfr w0 w' := by
  intro j
  induction j with
  | zero =>
    intro n l fn cur w hj hf hcu hV ho hmn hs hq hM f1 f2 f3
    obtain ⟨fn, rfl⟩ : ∃ g, fn = g + 1 := ⟨fn - 1, by omega⟩
    have hn := ho.1
    refine ⟨sI w 2 p x3, ?_, ⟨fun a i q1 q2 q3 q4 => ?_, f2, f3⟩⟩
    · show f_X9_canBe_L18_b _ _ _ _ _ _ _ _ = _
      unfold f_X9_canBe_L18_b
      rw [if_pos (by decide), inB_n (show p < 6 by omega) (by decide), zck_t, zlet_s, nI_cl (n := p) (by omega)]
      rfl
    · rw [gI_sI]
      by_cases c : a = 2 ∧ i = p
      · rw [if_pos c, c.1, c.2, hx3]
      · rw [if_neg c]
        exact f1 a i c q1 q2 q3 q4
  | succ j ih =>
    intro n l fn cur w hj hf hcu hV ho hmn hs hq hM f1 f2 f3
    obtain ⟨fn, rfl⟩ : ∃ g, fn = g + 1 := ⟨fn - 1, by omega⟩
    have hn := ho.1
    have hV1 : VM 0 0 13 (sI w 2 p (nI j)) (tS T 2 p j) := by
      rw [← tS_twice T 2 p cur j]
      exact VM_put1 hV (by decide) (by decide)
    have hok : OkT k (tS T 2 p j) := OkT_put2 ho (by omega)
    have hq1 : SqM k (sI w 2 p (nI j)) sqs := SqM_cg (fun a x h1 h2 => by rw [gI_sI, if_neg (by omega)]) hq
    have hM1 : SeeM 38 23 24 25 (sI w 2 p (nI j)) S z := ⟨by rw [gI_sI, if_neg (by omega)]; exact hM.1, fun x hx => ⟨by rw [gI_sI, if_neg (by omega)]; exact (hM.2 x hx).1, by rw [gI_sI, if_neg (by omega)]; exact (hM.2 x hx).2.1, by rw [gI_sI, if_neg (by omega)]; exact (hM.2 x hx).2.2⟩⟩
    have hmc : MC k (tS T 2 p j) sqs (sI w 2 p (nI j)) := ⟨hV1, hok, hmn, hs, hq1⟩
    obtain ⟨w1, a1, a2⟩ := seenM (T := tS T 2 p j) hS z 0 400 true _ (by omega) (by have := hS.1; omega) hmc hM1
    have e : f_X9_isSeen (sI w 2 p (nI j)) = some (nI (b2n (fitB sqs S T z 2 p j)), w1) := by
      unfold f_X9_isSeen fitB
      rw [← tS_comm T 2 p j 0 (by decide), ← seenR_L]
      exact a1
    have hV2 := VM_rfr hV1 hok a2
    have hq2 := SqM_rfr a2 hq1
    have hM2 : SeeM 38 23 24 25 w1 S z := ⟨(a2.1 _ _ (by omega) (by omega) (by omega) (by omega)).trans hM1.1, fun x hx => ⟨(a2.1 _ _ (by omega) (by omega) (by omega) (by omega)).trans (hM1.2 x hx).1, (a2.1 _ _ (by omega) (by omega) (by omega) (by omega)).trans (hM1.2 x hx).2.1, (a2.1 _ _ (by omega) (by omega) (by omega) (by omega)).trans (hM1.2 x hx).2.2⟩⟩
    have g1 : ∀ a i, ¬ (a = 2 ∧ i = p) → ¬ (a = 3 ∧ 6 ≤ i) → ¬ (a = 7 ∧ 4 ≤ i) → ¬ (17 ≤ a ∧ a ≤ 22) → ¬ (a = 0 ∧ 31 ≤ i ∧ i ≤ 33) → gI w1 a i = gI w0 a i := fun a i q0 q1 q2 q3 q4 => by rw [a2.1 a i q1 q2 q3 q4, gI_sI, if_neg q0, f1 a i q0 q1 q2 q3 q4]
    have g2 : ∀ a i, gJ w1 a i = gJ w0 a i := fun a i => (a2.2.1 a i).trans (f2 a i)
    have g3 : ∀ a i, gO w1 a i = gO w0 a i := fun a i => (a2.2.2 a i).trans (f3 a i)
    show ∃ w', f_X9_canBe_L18_b _ _ _ _ _ _ _ _ = _ ∧ _
    unfold f_X9_canBe_L18_b
    rw [show nI (j + 1) - nI 1 = nI j from nI_pred j, if_neg (nI_pos (by omega)), inB_n (show p < 6 by omega) (by decide), zck_t, zlet_s, nI_cl (n := p) (by omega), e, zb_s, nI_dn, nI_a1]
    have hft : ftL sqs S T z 2 p (j + 1) n l = if fitB sqs S T z 2 p j = true then ftL sqs S T z 2 p j (n + 1) (j + 1) else ftL sqs S T z 2 p j n l := rfl
    rw [hft]
    cases hb : fitB sqs S T z 2 p j with
    | true =>
      rw [if_neg (by decide), if_pos rfl]
      obtain ⟨w', d1, d2⟩ := ih (n + 1) (j + 1) fn j w1 (by omega) (by omega) (by omega) hV2 ho hmn hs hq2 hM2 g1 g2 g3
      rw [show mAn (j + 1) = nI j from mAn_s _ (Nat.succ_pos j)] at d1
      exact ⟨w', d1, d2⟩
    | false =>
      rw [if_pos (by decide), if_neg (show ¬ false = true by decide)]
      exact ih n l fn j w1 (by omega) (by omega) (by omega) hV2 ho hmn hs hq2 hM2 g1 g2 g3
theorem can_ask {k : Nat} {T : zT} {sqs : Nat → zQ} {uX w : zM} {S : zT} {z : Nat} (hc : Core k T sqs uX w) (hX : SeeX 13 uX S z) (hM : SeeM 38 23 24 25 w S z) (hS : SeeOk (T 0 0) S z) (p1 p2 p3 : Int32) : Ask (f_X8_can p1 p2 p3) (f_X9_can p1 p2 p3) uX w := by
  have hxc := Core_X hc
  obtain ⟨cX, cM, ho, hmn, hs, hqX, hqM⟩ := hc
  have hn := ho.1
  unfold Ask f_X8_can f_X9_can
  rcases nI_in_or (n := T 0 0) (by omega) p1 with ⟨p, hp, rfl⟩ | hp1
  · have y2 : gI w 2 p = nI (T 2 p) := (cM.2.2.2.2.2.1 p hp).2.1
    have y3 : gI w 3 p = nI (T 3 p) := (cM.2.2.2.2.2.1 p hp).2.2
    obtain ⟨-, o2, o3, -⟩ := ho.2.2.2.2.2.1 p hp
    have hin : inB (nI p) 6 = true := inB_n (by omega) (by decide)
    have hcl : (nI p).toNatClampNeg = p := nI_cl (by omega)
    rw [hasX_t cX ho hp, isM_t cM ho hp, zb_s, zb_s, if_neg (by decide), if_neg (by decide)]
    rcases nI_in_or (n := 2) (by decide) p2 with ⟨a, ha, rfl⟩ | hp2
    · rw [show f_X8_isWithin (nI a) 0 1 uX = some (1, uX) from wi_t (a := 0) (b := 1) (by omega) (by decide) _, show f_X9_in (nI a) 0 1 w = some (1, w) from in_t (a := 0) (b := 1) (by omega) (by decide) _, zb_s, zb_s, if1, if1]
      rcases nI_in_or (n := 2) (by decide) p3 with ⟨b, hb, rfl⟩ | hp3
      · rw [show f_X8_isWithin (nI b) 0 1 uX = some (1, uX) from wi_t (a := 0) (b := 1) (by omega) (by decide) _, show f_X9_in (nI b) 0 1 w = some (1, w) from in_t (a := 0) (b := 1) (by omega) (by decide) _, zb_s, zb_s, if1, if1]
        have ha2 : a = 0 ∨ a = 1 := by omega
        have hb2 : b = 0 ∨ b = 1 := by omega
        rcases ha2 with rfl | rfl
        · have eM : ∀ p2, ∃ w', f_X9_heats (nI p) p2 w = (if p2 = (0 : Int32) then some (nI (ftL sqs S T z 3 p 100 0 0).1, w') else some (mAn (ftL sqs S T z 3 p 100 0 0).2, w')) ∧ rfr w w' := by
            intro p2
            obtain ⟨w', r1, r2⟩ := ftMh (k := k) (p2 := p2) (sqs := sqs) (w0 := w) hp hS y3 100 0 0 400 (T 3 p) w (by decide) (by decide) o3 (by rw [tS_self]; exact cM) ho hmn hs hqM hM (fun _ _ _ _ _ _ _ => rfl) (fun _ _ => rfl) (fun _ _ => rfl)
            refine ⟨w', ?_, r2⟩
            unfold f_X9_heats
            rw [hin, zck_t, hcl, y3, zlx_s]
            exact r1
          have eX : ∀ p3, ∃ u', f_X1_fitting (nI p) (1 : Int32) p3 uX = (if p3 = (0 : Int32) then some (mAn (ftL sqs S T z 3 p 100 0 0).2, u') else some (nI (ftL sqs S T z 3 p 100 0 0).1, u')) ∧ afr uX u' := by
            intro p3
            obtain ⟨u', r1, r2⟩ := ftXh (k := k) (p3 := p3) (sqs := sqs) hp hS 100 0 0 400 uX (by decide) (by decide) hxc hX
            refine ⟨u', ?_, r2⟩
            unfold f_X1_fitting
            rw [if_neg (by decide)]
            exact r1
          rcases hb2 with rfl | rfl
          · obtain ⟨u', r1, r2⟩ := eX 1
            obtain ⟨w', s1, s2⟩ := eM (nI 0)
            rw [if_neg (by decide)] at r1
            rw [if_pos (by decide)] at s1
            exact ⟨_, u', w', by rw [if_pos (by decide), if_pos (by decide), r1, zb_s], by rw [if_pos (by decide), s1, zb_s], r2, s2⟩
          · obtain ⟨u', r1, r2⟩ := eX 0
            obtain ⟨w', s1, s2⟩ := eM (nI 1)
            rw [if_pos (by decide)] at r1
            rw [if_neg (by decide)] at s1
            exact ⟨_, u', w', by rw [if_pos (by decide), if_neg (by decide), r1, zb_s], by rw [if_pos (by decide), s1, zb_s], r2, s2⟩
        · have eM : ∀ p2, ∃ w', f_X9_canBe (nI p) p2 w = (if p2 = (0 : Int32) then some (nI (ftL sqs S T z 2 p 10 0 0).1, w') else some (mAn (ftL sqs S T z 2 p 10 0 0).2, w')) ∧ rfr w w' := by
            intro p2
            obtain ⟨w', r1, r2⟩ := ftMv (k := k) (p2 := p2) (sqs := sqs) (w0 := w) hp hS y2 10 0 0 400 (T 2 p) w (by decide) (by decide) o2 (by rw [tS_self]; exact cM) ho hmn hs hqM hM (fun _ _ _ _ _ _ _ => rfl) (fun _ _ => rfl) (fun _ _ => rfl)
            refine ⟨w', ?_, r2⟩
            unfold f_X9_canBe
            rw [hin, zck_t, hcl, y2, zlx_s]
            exact r1
          have eX : ∀ p3, ∃ u', f_X1_fitting (nI p) (0 : Int32) p3 uX = (if p3 = (0 : Int32) then some (mAn (ftL sqs S T z 2 p 10 0 0).2, u') else some (nI (ftL sqs S T z 2 p 10 0 0).1, u')) ∧ afr uX u' := by
            intro p3
            obtain ⟨u', r1, r2⟩ := ftXv (k := k) (p3 := p3) (sqs := sqs) hp hS 10 0 0 400 uX (by decide) (by decide) hxc hX
            refine ⟨u', ?_, r2⟩
            unfold f_X1_fitting
            rw [if_pos (by decide)]
            exact r1
          rcases hb2 with rfl | rfl
          · obtain ⟨u', r1, r2⟩ := eX 1
            obtain ⟨w', s1, s2⟩ := eM (nI 0)
            rw [if_neg (by decide)] at r1
            rw [if_pos (by decide)] at s1
            exact ⟨_, u', w', by rw [if_neg (by decide), if_pos (by decide), r1, zb_s], by rw [if_neg (by decide), s1, zb_s], r2, s2⟩
          · obtain ⟨u', r1, r2⟩ := eX 0
            obtain ⟨w', s1, s2⟩ := eM (nI 1)
            rw [if_pos (by decide)] at r1
            rw [if_neg (by decide)] at s1
            exact ⟨_, u', w', by rw [if_neg (by decide), if_neg (by decide), r1, zb_s], by rw [if_neg (by decide), s1, zb_s], r2, s2⟩
      · rw [show f_X8_isWithin p3 0 1 uX = some (0, uX) from wi_f (n := 1) (by decide) hp3 _, show f_X9_in p3 0 1 w = some (0, w) from in_f (n := 1) (by decide) hp3 _, zb_s, zb_s, if0, if0]
        exact ⟨-1, uX, w, rfl, rfl, afr_rf _, rfr_rf _⟩
    · rw [show f_X8_isWithin p2 0 1 uX = some (0, uX) from wi_f (n := 1) (by decide) hp2 _, show f_X9_in p2 0 1 w = some (0, w) from in_f (n := 1) (by decide) hp2 _, zb_s, zb_s, if0, if0]
      exact ⟨-1, uX, w, rfl, rfl, afr_rf _, rfr_rf _⟩
  · rw [hasX_f cX hp1, isM_f cM ho hp1, zb_s, zb_s, if_pos (by decide), if_pos (by decide)]
    exact ⟨-1, uX, w, rfl, rfl, afr_rf _, rfr_rf _⟩
