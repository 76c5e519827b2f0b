/-! ===== PURE: the door square, the door feed ===== -/
def TeM (tx : Nat → Nat) (n : Nat) (w : zM) : Prop := gI w 0 14 = nI n ∧ ∀ i, i < n → gI w 8 i = nI (tx i)
def SqB (k : Nat) (w : zM) (sqs : Nat → zQ) : Prop := ∀ q, 1 ≤ q → q ≤ k → gI w 9 (q - 1) = nI (sqs q).length ∧ LQ w (sqs q) (10 * (q - 1)) (100 * (q - 1)) ∧ AI w 14 (tkQ (sqs q)) (100 * (q - 1))
theorem TM_AI {w : zM} : ∀ (ks : List zK) (i : Nat), AI w 14 (ks.map tkM) i → TM w ks i := by
  intro ks
  induction ks with
  | nil => exact fun i _ => trivial
  | cons k ks ih => exact fun i h => ⟨h.1, ih (i + 1) h.2⟩
theorem LM_LQ {w : zM} : ∀ (Q : zQ) (j a : Nat), a + (tkQ Q).length ≤ 600 → LQ w Q j a → AI w 14 (tkQ Q) a → LM w Q j := by
  intro Q
  induction Q with
  | nil => exact fun _ _ _ _ _ => trivial
  | cons c Q ih =>
    intro j a hl h g
    have hl : a + (tkCl c ++ tkQ Q).length ≤ 600 := hl
    have g : AI w 14 (tkCl c ++ tkQ Q) a := g
    rw [List.length_append] at hl
    refine ⟨h.1.1, h.1.2.1, fun q => ?_, ih (j + 1) _ (by omega) h.2 (AI_r _ _ _ g)⟩
    have ht : tkCl c = c.2.2.map tkM := if_neg q
    have g1 := AI_l _ _ _ g
    rw [ht] at g1 hl
    rw [List.length_map] at hl
    exact ⟨a, by omega, (h.1.2.2 q).1, (h.1.2.2 q).2, TM_AI _ _ g1⟩
theorem SqM_B {k : Nat} {w : zM} {sqs : Nat → zQ} (ho : OkS k sqs) (h : SqB k w sqs) : SqM k w sqs := by
  intro q h1 h2
  obtain ⟨a1, a2, a3⟩ := h q h1 h2
  have o := ho.2.2 q h2
  have := tkQ_len (sqs q)
  have := o.2.1
  have := ho.1
  exact ⟨a1, LM_LQ _ _ _ (by omega) a2 a3⟩
theorem SqB_cg {k : Nat} {w w' : zM} {sqs : Nat → zQ} (g : ∀ a j, 9 ≤ a → a ≤ 14 → gI w' a j = gI w a j) (h : SqB k w sqs) : SqB k w' sqs := fun q h1 h2 => ⟨(g _ _ (by decide) (by decide)).trans (h q h1 h2).1, LQ_cg _ _ _ (fun b j a1 a2 _ _ => g b j (by omega) (by omega)) (h q h1 h2).2.1, AI_cg _ _ (fun j _ => g 14 j (by decide) (by decide)) (h q h1 h2).2.2⟩
theorem goTxM {tx : Nat → Nat} {n f : Nat} {w : zM} (ho : TxOk tx n) (hf : f < 6) (h : TeM tx n w) (hl : LTM w) : ((pTx tx n 10 0 []).1 = true → ∃ w', f_X9_goesText (nI f) w = some ((1 : Int32), w') ∧ LQ w' (pTx tx n 10 0 []).2.2 (10 * f) (100 * f) ∧ AI w' 14 (tkQ (pTx tx n 10 0 []).2.2) (100 * f) ∧ gI w' 9 f = nI (pTx tx n 10 0 []).2.2.length ∧ gI w' 0 15 = nI (pTx tx n 10 0 []).2.1 ∧ frP (PT f) w w') ∧ ((pTx tx n 10 0 []).1 = false → ∃ w', f_X9_goesText (nI f) w = some ((0 : Int32), w') ∧ gI w' 0 15 = nI (pTx tx n 10 0 []).2.1 ∧ frP (PT f) w w') := by
  have hR : RG tx n (sI (sI w 0 15 (0 : Int32)) 0 25 (nI (100 * f))) 0 (100 * f) (tkQ []) := by
    refine ⟨⟨?_, ?_, fun i hi => ?_⟩, ?_, trivial, LTM_cg hl (fun k => ?_)⟩
    · rw [gI_sI, if_neg (by omega), gI_sI, if_neg (by omega)]
      exact h.1
    · rw [gI_sI, if_neg (by omega), gI_sI, if_pos ⟨rfl, rfl⟩]
      rfl
    · rw [gI_sI, if_neg (by omega), gI_sI, if_neg (by omega)]
      exact h.2 i hi
    · rw [gI_sI, if_pos ⟨rfl, rfl⟩]
      rfl
    · rw [gI_sI, if_neg (by omega), gI_sI, if_neg (by omega)]
  have hF : frP (PT f) w (sI (sI w 0 15 (0 : Int32)) 0 25 (nI (100 * f))) := frP_s (frP_s (frP_rf _ w) (Or.inl ⟨rfl, by omega⟩)) (Or.inl ⟨rfl, by omega⟩)
  have e0 : ∀ F, f_X9_goesText_L15 (nI f) 400 (nI 0) (sI (sI w 0 15 (0 : Int32)) 0 25 (nI (100 * f))) = F → f_X9_goesText (nI f) w = F := by
    intro F hF
    unfold f_X9_goesText
    rw [zlet_s, zlet_s, q100, pk_mul]
    exact hF
  obtain ⟨m1, m2⟩ := txLM ho hf 10 0 400 _ 0 [] (by decide) (by decide) (by decide) hR trivial (Nat.le_refl _) rfl (Nat.zero_le _)
  refine ⟨fun q => ?_, fun q => ?_⟩
  · obtain ⟨w', e, a1, a2, a3, a4, F⟩ := m1 q
    exact ⟨w', e0 _ e, a1, a2, a3, a4, frP_tr hF F⟩
  · obtain ⟨w', e, a4, F⟩ := m2 q
    exact ⟨w', e0 _ e, a4, frP_tr hF F⟩
def fsqX (u u' : zM) : Prop := (∀ a i, ¬ (a = 0 ∧ i = 7) → a ≠ 63 → ¬ 78 ≤ a → gI u' a i = gI u a i) ∧ (∀ a i, gJ u' a i = gJ u a i) ∧ ∀ a i, a ≠ 63 → ¬ (a = 2 ∧ i = 12) → gO u' a i = gO u a i
def fsqM (w w' : zM) : Prop := (∀ a i, ¬ (a = 0 ∧ 12 ≤ i ∧ i ≤ 27) → ¬ (9 ≤ a ∧ a ≤ 15) → gI w' a i = gI w a i) ∧ (∀ a i, gJ w' a i = gJ w a i) ∧ ∀ a i, gO w' a i = gO w a i
theorem OkT_up {k k' : Nat} {T : zT} (h : OkT k T) (hk : k ≤ k') : OkT k' T := ⟨h.1, h.2.1, h.2.2.1, h.2.2.2.1, Nat.le_trans h.2.2.2.2.1 hk, h.2.2.2.2.2⟩
theorem square_sim {k : Nat} {T : zT} {sqs : Nat → zQ} {uX w : zM} {tx : Nat → Nat} {n : Nat} (hc : Core k T sqs uX w) (hk : gI uX 0 7 = nI k) (hkM : gI w 0 12 = nI k) (hX : TeX tx n uX) (hM : TeM tx n w) (ho : TxOk tx n) (hL : LTM w) (hB : SqB k w sqs) : ∃ r uX' w' k' T' sqs' n', f_X8_square uX = some (r, uX') ∧ f_X9_square w = some (r, w') ∧ Core k' T' sqs' uX' w' ∧ gI uX' 0 7 = nI k' ∧ gI w' 0 12 = nI k' ∧ k ≤ k' ∧ SqB k' w' sqs' ∧ T' 0 0 = T 0 0 ∧ T' 0 1 = T 0 1 ∧ TeX tx n' uX' ∧ TeM tx n' w' ∧ TxOk tx n' ∧ LTM w' ∧ fsqX uX uX' ∧ fsqM w w' := by
  obtain ⟨hVX, hVM, hoT, hmn, hs, hqX, hqM⟩ := hc
  have hk6 := hs.1
  have o1 := ho.1
  unfold f_X8_square f_X9_square
  rw [hk, hkM]
  by_cases c0 : k = 6
  · rw [if_neg (show ¬ nI k < (6 : Int32) from nI_nlt (b := 6) (by omega) (by omega)), if_pos (show nI k = (6 : Int32) by rw [c0]; rfl)]
    exact ⟨_, uX, w, k, T, sqs, n, rfl, rfl, ⟨hVX, hVM, hoT, hmn, hs, hqX, hqM⟩, hk, hkM, Nat.le_refl _, hB, rfl, rfl, hX, hM, ho, hL, ⟨fun _ _ _ _ _ => rfl, fun _ _ => rfl, fun _ _ _ _ => rfl⟩, ⟨fun _ _ _ _ => rfl, fun _ _ => rfl, fun _ _ => rfl⟩⟩
  · have hk5 : k < 6 := by omega
    have hq : isQ (78 + 3 * k) = true := by
      have := isQ_ok (k + 1) (by omega) (by omega)
      rw [show 75 + 3 * (k + 1) = 78 + 3 * k by omega] at this
      exact this
    rw [if_pos (show nI k < (6 : Int32) from nI_lt (b := 6) hk5 (by decide)), inB_n hk5 (by decide), zck_t, nI_cl (by omega), if_neg (show ¬ nI k = (6 : Int32) from fun q => c0 ((nI_eq (b := 6) (by omega) (by decide)).mp q))]
    obtain ⟨u2, e2, P2, S2, F2, F2J, F2O⟩ := readsX (t := 78 + 3 * k) (by omega) hq ho hX
    obtain ⟨m1, m2⟩ := goTxM ho hk5 hM hL
    obtain ⟨k1, k2⟩ := okTx ho 10 0 [] (by decide) (Nat.le_refl _) (fun c hc => by cases hc) (Nat.zero_le _)
    rw [e2, zb_s, show f_X2_empty u2 = some ((), sI u2 63 0 (0 : Int32)) from rfl, zb_s]
    have hTX : TeX tx 0 (sI u2 63 0 (0 : Int32)) := ⟨by rw [gI_sI, if_pos ⟨rfl, rfl⟩]; rfl, fun i hi => absurd hi (by omega)⟩
    have hT0 : TxOk tx 0 := ⟨by decide, fun i hi => absurd hi (by omega)⟩
    have P2' : gI (sI u2 63 0 (0 : Int32)) 63 1 = nI (pTx tx n 10 0 []).2.1 := by
      rw [gI_sI, if_neg (by omega)]
      exact P2
    have F3 : ∀ a i, a ≠ 63 → ¬ (78 + 3 * k ≤ a ∧ a ≤ 80 + 3 * k) → gI (sI u2 63 0 (0 : Int32)) a i = gI uX a i := by
      intro a i h1 h2
      rw [gI_sI, if_neg (by omega), F2 a i (by unfold PQ; omega)]
    have F3O : ∀ a i, a ≠ 63 → gO (sI u2 63 0 (0 : Int32)) a i = gO uX a i := by
      intro a i h1
      rw [gO_sI, F2O a i (by omega)]
    have V3 : VX 2 (sI u2 63 0 (0 : Int32)) T := VX_cg hVX (fun c i hc => F3 _ _ (by omega) (by omega)) (F3O _ _ (by omega))
    have Q3 : SqX k (sI u2 63 0 (0 : Int32)) sqs := fun q h1 h2 => SX_cg (hqX q h1 h2) (fun i => F3 _ i (by omega) (by omega)) (fun i => F3 _ i (by omega) (by omega)) (fun i => F3 _ i (by omega) (by omega))
    by_cases c1 : (pTx tx n 10 0 []).1 = true
    · obtain ⟨w2, d2, L2, A2, V2, p2, G2⟩ := m1 c1
      have G3 : ∀ a i, ¬ (a = 0 ∧ 14 ≤ i ∧ i ≤ 27) → ¬ (9 ≤ a ∧ a ≤ 15) → gI (sI w2 0 14 (0 : Int32)) a i = gI w a i := by
        intro a i h1 h2
        rw [gI_sI, if_neg (by omega), G2.1 a i (by unfold PT; omega)]
      have g12 : gI w2 0 12 = nI k := by
        rw [G2.1 0 12 (by unfold PT; omega)]
        exact hkM
      have gk : gI (sO (sI u2 63 0 (0 : Int32)) 2 12 (some (78 + 3 * k))) 0 7 = nI k := by
        rw [gI_sO, F3 0 7 (by omega) (by omega)]
        exact hk
      have eX : (zlet (sO (sI u2 63 0 (0 : Int32)) 2 12 (some (78 + 3 * k))) fun u6 => zlet (sI u6 0 7 ((gI u6 0 7) + (1 : Int32))) fun u7 => some (((gI u7 0 7) - (1 : Int32)), u7)) = some (nI k, sI (sO (sI u2 63 0 (0 : Int32)) 2 12 (some (78 + 3 * k))) 0 7 (nI (k + 1))) := by
        rw [zlet_s, gk, zlet_s, gI_sI, if_pos ⟨rfl, rfl⟩, nI_a1, nI_m1 (by omega), Nat.add_sub_cancel]
      have eM : (zlet (sI (sI w2 0 14 (0 : Int32)) 0 13 (gI (sI w2 0 14 (0 : Int32)) 0 12)) fun u4 => zlet (sI u4 0 12 ((gI u4 0 12) + (1 : Int32))) fun u5 => some ((gI u5 0 13), u5)) = some (nI k, sI (sI (sI w2 0 14 (0 : Int32)) 0 13 (nI k)) 0 12 (nI (k + 1))) := by
        rw [gI_sI, if_neg (by omega), g12, zlet_s, gI_sI, if_neg (by omega), gI_sI, if_neg (by omega), g12, zlet_s, nI_a1, gI_sI, if_neg (by omega), gI_sI, if_pos ⟨rfl, rfl⟩]
      have OQ := k2 c1
      generalize (pTx tx n 10 0 []).2.2 = Q at *
      have G4 : ∀ a i, ¬ (a = 0 ∧ 12 ≤ i ∧ i ≤ 27) → ¬ (9 ≤ a ∧ a ≤ 15) → gI (sI (sI (sI w2 0 14 (0 : Int32)) 0 13 (nI k)) 0 12 (nI (k + 1))) a i = gI w a i := by
        intro a i h1 h2
        rw [gI_sI, if_neg (by omega), gI_sI, if_neg (by omega), G3 a i (by omega) h2]
      have G5 : ∀ a i, a ≠ 0 → gI (sI (sI (sI w2 0 14 (0 : Int32)) 0 13 (nI k)) 0 12 (nI (k + 1))) a i = gI w2 a i := by
        intro a i h1
        rw [gI_sI, if_neg (by omega), gI_sI, if_neg (by omega), gI_sI, if_neg (by omega)]
      have F5 : ∀ a i, ¬ (a = 0 ∧ i = 7) → gI (sI (sO (sI u2 63 0 (0 : Int32)) 2 12 (some (78 + 3 * k))) 0 7 (nI (k + 1))) a i = gI (sI u2 63 0 (0 : Int32)) a i := by
        intro a i h1
        rw [gI_sI, if_neg h1, gI_sO]
      have B5 : SqB (k + 1) (sI (sI (sI w2 0 14 (0 : Int32)) 0 13 (nI k)) 0 12 (nI (k + 1))) (fun q => if q = k + 1 then Q else sqs q) := by
        intro q h1 h2
        dsimp only
        by_cases cq : q = k + 1
        · rw [if_pos cq, cq, Nat.add_sub_cancel]
          exact ⟨(G5 9 k (by omega)).trans V2, LQ_cg _ _ _ (fun b j a1 a2 _ _ => G5 b j (by omega)) L2, AI_cg _ _ (fun j _ => G5 14 j (by omega)) A2⟩
        · rw [if_neg cq]
          obtain ⟨b1, b2, b3⟩ := hB q h1 (by omega)
          have oq := hs.2.2 q (by omega)
          have := oq.1
          have := oq.2.1
          have := tkQ_len (sqs q)
          refine ⟨?_, LQ_cg _ _ _ (fun b j a1 a2 a3 a4 => ?_) b2, AI_cg _ _ (fun j hj => ?_) b3⟩
          · rw [G5 _ _ (by omega), G2.1 _ _ (by unfold PT; omega)]
            exact b1
          · rw [G5 _ _ (by omega), G2.1 _ _ (by unfold PT; omega)]
          · rw [G5 _ _ (by omega), G2.1 _ _ (by unfold PT; omega)]
      have S5 : OkS (k + 1) (fun q => if q = k + 1 then Q else sqs q) := by
        refine ⟨by omega, ?_, fun q hq => ?_⟩
        · dsimp only
          rw [if_neg (by omega)]
          exact hs.2.1
        · dsimp only
          by_cases cq : q = k + 1
          · rw [if_pos cq]; exact OQ
          · rw [if_neg cq]; exact hs.2.2 q (by omega)
      have X5 : SqX (k + 1) (sI (sO (sI u2 63 0 (0 : Int32)) 2 12 (some (78 + 3 * k))) 0 7 (nI (k + 1))) (fun q => if q = k + 1 then Q else sqs q) := by
        intro q h1 h2
        dsimp only
        by_cases cq : q = k + 1
        · rw [if_pos cq, cq, show 75 + 3 * (k + 1) = 78 + 3 * k by omega]
          have g : ∀ a i, 78 ≤ a → gI (sI (sO (sI u2 63 0 (0 : Int32)) 2 12 (some (78 + 3 * k))) 0 7 (nI (k + 1))) a i = gI u2 a i := fun a i h => by rw [F5 a i (by omega), gI_sI, if_neg (by omega)]
          exact SX_cg (S2 c1) (fun i => g _ i (by omega)) (fun i => g _ i (by omega)) (fun i => g _ i (by omega))
        · rw [if_neg cq]
          exact SX_cg (Q3 q h1 (by omega)) (fun i => F5 _ i (by omega)) (fun i => F5 _ i (by omega)) (fun i => F5 _ i (by omega))
      have T5 : ∀ c i, ¬ (c = 0 ∧ i = 4) → tS T 0 4 (k + 1) c i = T c i := fun c i h => by rw [tS_ap, if_neg h]
      have VX5 : VX 2 (sI (sO (sI u2 63 0 (0 : Int32)) 2 12 (some (78 + 3 * k))) 0 7 (nI (k + 1))) (tS T 0 4 (k + 1)) := by
        obtain ⟨v1, v2, v3, v4, v5, v6, v7, v8⟩ := V3
        have f : ∀ c i, c ≤ 8 → gI (sI (sO (sI u2 63 0 (0 : Int32)) 2 12 (some (78 + 3 * k))) 0 7 (nI (k + 1))) (2 + c) i = gI (sI u2 63 0 (0 : Int32)) (2 + c) i := fun c i hc => F5 _ i (by omega)
        refine ⟨(f 0 0 (by omega)).trans v1, (f 0 6 (by omega)).trans v2, (f 0 10 (by omega)).trans v3, (f 0 11 (by omega)).trans v4, ?_, fun i hi => ?_, fun j hj => (f 5 j (by omega)).trans (v7 j hj), fun i hi => ?_⟩
        · rw [gO_sI, gO_sO, if_pos ⟨rfl, rfl⟩, show tS T 0 4 (k + 1) 0 4 = k + 1 by rw [tS_ap, if_pos ⟨rfl, rfl⟩], if_neg (by omega), show 75 + 3 * (k + 1) = 78 + 3 * k by omega]
        · obtain ⟨b1, b2, b3, b4⟩ := v6 i hi
          exact ⟨(f 1 i (by omega)).trans b1, (f 2 i (by omega)).trans b2, (f 3 i (by omega)).trans b3, (f 4 i (by omega)).trans b4⟩
        · obtain ⟨b1, b2, b3⟩ := v8 i hi
          exact ⟨(f 6 i (by omega)).trans b1, (f 7 i (by omega)).trans b2, (f 8 i (by omega)).trans b3⟩
      have VM5 : VM 0 0 13 (sI (sI (sI w2 0 14 (0 : Int32)) 0 13 (nI k)) 0 12 (nI (k + 1))) (tS T 0 4 (k + 1)) := by
        obtain ⟨v1, v2, v3, v4, v5, v6, v7, v8, A, hA, v9, v10⟩ := hVM
        have f0 : ∀ i, i ≤ 4 → gI (sI (sI (sI w2 0 14 (0 : Int32)) 0 13 (nI k)) 0 12 (nI (k + 1))) 0 (0 + i) = gI w 0 (0 + i) := fun i hi => G4 _ _ (by omega) (by omega)
        have f : ∀ c i, 1 ≤ c → c ≤ 7 → gI (sI (sI (sI w2 0 14 (0 : Int32)) 0 13 (nI k)) 0 12 (nI (k + 1))) (0 + c) i = gI w (0 + c) i := fun c i h1 h2 => G4 _ _ (by omega) (by omega)
        refine ⟨(f0 0 (by omega)).trans v1, (f0 2 (by omega)).trans v2, (f0 3 (by omega)).trans v3, (f0 4 (by omega)).trans v4, ?_, fun i hi => ?_, fun j hj => (f 4 j (by omega) (by omega)).trans (v7 j hj), fun i hi => ?_, A, hA, (f0 1 (by omega)).trans v9, v10⟩
        · rw [gI_sI, if_neg (by omega), gI_sI, if_pos ⟨rfl, rfl⟩, tS_ap, if_pos ⟨rfl, rfl⟩, pk_sub (by omega), Nat.add_sub_cancel]
        · obtain ⟨b1, b2, b3⟩ := v6 i hi
          exact ⟨(f 1 i (by omega) (by omega)).trans b1, (f 2 i (by omega) (by omega)).trans b2, (f 3 i (by omega) (by omega)).trans b3⟩
        · obtain ⟨b1, b2, b3⟩ := v8 i hi
          exact ⟨(f 5 i (by omega) (by omega)).trans b1, (f 6 i (by omega) (by omega)).trans b2, (f 7 i (by omega) (by omega)).trans b3⟩
      have OT5 : OkT (k + 1) (tS T 0 4 (k + 1)) := ⟨hoT.1, hoT.2.1, hoT.2.2.1, hoT.2.2.2.1, by rw [tS_ap, if_pos ⟨rfl, rfl⟩]; exact Nat.le_refl _, hoT.2.2.2.2.2⟩
      rw [c1, if_neg (by decide), eX, d2, zb_s, zlet_s, if_neg (show ¬ (1 : Int32) = 0 from by decide), eM]
      refine ⟨_, _, _, k + 1, tS T 0 4 (k + 1), fun q => if q = k + 1 then Q else sqs q, 0, rfl, rfl, ⟨VX5, VM5, OT5, hmn, S5, X5, SqM_B S5 B5⟩, ?_, ?_, by omega, B5, rfl, rfl, ⟨?_, fun i hi => absurd hi (by omega)⟩, ⟨?_, fun i hi => absurd hi (by omega)⟩, hT0, LTM_cg hL (fun i => G4 _ _ (by omega) (by omega)), ⟨fun a i h1 h2 h3 => ?_, fun a i => F2J a i, fun a i h1 h2 => ?_⟩, ⟨fun a i h1 h2 => G4 a i h1 h2, fun a i => G2.2.1 a i, fun a i => G2.2.2 a i⟩⟩
      · rw [gI_sI, if_pos ⟨rfl, rfl⟩]
      · rw [gI_sI, if_pos ⟨rfl, rfl⟩]
      · rw [F5 63 0 (by omega)]
        exact hTX.1
      · rw [gI_sI, if_neg (by omega), gI_sI, if_neg (by omega), gI_sI, if_pos ⟨rfl, rfl⟩]
        rfl
      · rw [F5 a i h1, F3 a i h2 (by omega)]
      · rw [gO_sI, gO_sO, if_neg h2, F3O a i h1]
    · have c1f : (pTx tx n 10 0 []).1 = false := by simpa using c1
      obtain ⟨w2, d2, p2, G2⟩ := m2 c1f
      have G3 : ∀ a i, ¬ (a = 0 ∧ 14 ≤ i ∧ i ≤ 27) → ¬ (9 ≤ a ∧ a ≤ 15) → gI (sI w2 0 14 (0 : Int32)) a i = gI w a i := by
        intro a i h1 h2
        rw [gI_sI, if_neg (by omega), G2.1 a i (by unfold PT; omega)]
      have p2' : gI (sI w2 0 14 (0 : Int32)) 0 15 = nI (pTx tx n 10 0 []).2.1 := by
        rw [gI_sI, if_neg (by omega)]
        exact p2
      have B3 : SqB k (sI w2 0 14 (0 : Int32)) sqs := by
        intro q h1 h2
        obtain ⟨b1, b2, b3⟩ := hB q h1 h2
        have oq := hs.2.2 q h2
        have := oq.1
        have := oq.2.1
        have := tkQ_len (sqs q)
        refine ⟨?_, LQ_cg _ _ _ (fun b j a1 a2 a3 a4 => ?_) b2, AI_cg _ _ (fun j hj => ?_) b3⟩
        · rw [gI_sI, if_neg (by omega), G2.1 _ _ (by unfold PT; omega)]
          exact b1
        · rw [gI_sI, if_neg (by omega), G2.1 _ _ (by unfold PT; omega)]
        · rw [gI_sI, if_neg (by omega), G2.1 _ _ (by unfold PT; omega)]
      rw [c1f, if_pos (by decide), d2, zb_s, zlet_s, if_pos rfl, P2', p2']
      refine ⟨_, _, _, k, T, sqs, 0, rfl, rfl, ⟨V3, VM_cg hVM (fun i _ => G3 _ _ (by omega) (by omega)) (G3 _ _ (by omega) (by omega)) (fun c i h1 h2 => G3 _ _ (by omega) (by omega)), hoT, hmn, hs, Q3, SqM_B hs B3⟩, ?_, ?_, Nat.le_refl _, B3, rfl, rfl, hTX, ⟨by rw [gI_sI, if_pos ⟨rfl, rfl⟩]; rfl, fun i hi => absurd hi (by omega)⟩, hT0, LTM_cg hL (fun i => G3 _ _ (by omega) (by omega)), ⟨fun a i h1 h2 h3 => F3 a i h2 (by omega), fun a i => F2J a i, fun a i h1 h2 => F3O a i h1⟩, ⟨fun a i h1 h2 => G3 a i (by omega) h2, fun a i => G2.2.1 a i, fun a i => G2.2.2 a i⟩⟩
      · rw [F3 0 7 (by omega) (by omega)]
        exact hk
      · rw [G3 0 12 (by omega) (by omega)]
        exact hkM
theorem nar_b : ∀ c, c < 128 → vp_nar .byte ((nI c).toInt8.toInt32) = nI c := by decide +kernel
def ffX (u u' : zM) : Prop := (∀ a i, ¬ (a = 63 ∧ i = 0) → a ≠ 64 → gI u' a i = gI u a i) ∧ (∀ a i, gJ u' a i = gJ u a i) ∧ ∀ a i, gO u' a i = gO u a i
def ffM (w w' : zM) : Prop := (∀ a i, ¬ (a = 0 ∧ i = 14) → a ≠ 8 → gI w' a i = gI w a i) ∧ (∀ a i, gJ w' a i = gJ w a i) ∧ ∀ a i, gO w' a i = gO w a i
theorem feed_sim {uX w : zM} {tx : Nat → Nat} {n : Nat} (hX : TeX tx n uX) (hM : TeM tx n w) (ho : TxOk tx n) (p1 : Int32) : ∃ r uX' w' tx' n', f_X8_feed p1 uX = some (r, uX') ∧ f_X9_feed p1 w = some (r, w') ∧ TeX tx' n' uX' ∧ TeM tx' n' w' ∧ TxOk tx' n' ∧ ffX uX uX' ∧ ffM w w' := by
  obtain ⟨o1, o2⟩ := ho
  have same : ∀ r : Int32, ∃ r' uX' w' tx' n', some (r, uX) = some (r', uX') ∧ some (r, w) = some (r', w') ∧ TeX tx' n' uX' ∧ TeM tx' n' w' ∧ TxOk tx' n' ∧ ffX uX uX' ∧ ffM w w' := fun r => ⟨r, uX, w, tx, n, rfl, rfl, hX, hM, ⟨o1, o2⟩, ⟨fun _ _ _ _ => rfl, fun _ _ => rfl, fun _ _ => rfl⟩, ⟨fun _ _ _ _ => rfl, fun _ _ => rfl, fun _ _ => rfl⟩⟩
  unfold f_X8_feed f_X9_feed
  rcases nI_in_or (n := 128) (by decide) p1 with ⟨c, hc, rfl⟩ | hp
  · rw [show f_X8_isWithin (nI c) (0 : Int32) (127 : Int32) uX = some ((1 : Int32), uX) from wi_t (a := 0) (b := 127) (by omega) (by decide) uX, zb_s, if1, show f_X9_in (nI c) (0 : Int32) (127 : Int32) w = some ((1 : Int32), w) from in_t (a := 0) (b := 127) (by omega) (by decide) w, zb_s, if1, hX.1, hM.1]
    by_cases c0 : n = 100
    · rw [if_neg (show ¬ nI n < (100 : Int32) from nI_nlt (b := 100) (by omega) (by omega)), if_pos (show nI n = (100 : Int32) by rw [c0]; rfl)]
      exact same _
    · have hn : n < 100 := by omega
      rw [if_pos (show nI n < (100 : Int32) from nI_lt (b := 100) hn (by decide)), if_neg (show ¬ nI n = (100 : Int32) from fun q => c0 ((nI_eq (b := 100) (by omega) (by decide)).mp q)), inB_n hn (by decide), zck_t, nI_cl (by omega)]
      have eX : f_X2_add ((nI c).toInt8.toInt32) uX = some (nI (n + 1), sI (sI uX 64 n (nI c)) 63 0 (nI (n + 1))) := by
        unfold f_X2_add
        rw [hX.1, if_neg (show ¬ (100 : Int32) ≤ nI n from nI_ge (b := 100) hn (by decide)), inB_n hn (by decide), zck_t, nI_cl (by omega), nar_b c hc, zlet_s, gI_sI, if_neg (by omega), hX.1, zlet_s, nI_a1, gI_sI, if_pos ⟨rfl, rfl⟩]
      rw [eX, zb_s, zlet_s, gI_sI, if_neg (by omega), hM.1, zlet_s, nI_a1, gI_sI, if_pos ⟨rfl, rfl⟩]
      refine ⟨_, _, _, fun i => if i = n then c else tx i, n + 1, rfl, rfl, ⟨?_, fun i hi => ?_⟩, ⟨?_, fun i hi => ?_⟩, ⟨by omega, fun i hi => ?_⟩, ⟨fun a i h1 h2 => ?_, fun _ _ => rfl, fun _ _ => rfl⟩, ⟨fun a i h1 h2 => ?_, fun _ _ => rfl, fun _ _ => rfl⟩⟩
      · rw [gI_sI, if_pos ⟨rfl, rfl⟩]
      · dsimp only
        rw [gI_sI, if_neg (by omega), gI_sI]
        by_cases ci : i = n
        · rw [if_pos ⟨rfl, ci⟩, if_pos ci]
        · rw [if_neg (by omega), if_neg ci]
          exact hX.2 i (by omega)
      · rw [gI_sI, if_pos ⟨rfl, rfl⟩]
      · dsimp only
        rw [gI_sI, if_neg (by omega), gI_sI]
        by_cases ci : i = n
        · rw [if_pos ⟨rfl, ci⟩, if_pos ci]
        · rw [if_neg (by omega), if_neg ci]
          exact hM.2 i (by omega)
      · dsimp only
        split
        · exact hc
        · exact o2 i (by omega)
      · rw [gI_sI, if_neg h1, gI_sI, if_neg (by omega)]
      · rw [gI_sI, if_neg h1, gI_sI, if_neg (by omega)]
  · rw [show f_X8_isWithin p1 (0 : Int32) (127 : Int32) uX = some ((0 : Int32), uX) from wi_f (n := 127) (by decide) hp uX, zb_s, if0, show f_X9_in p1 (0 : Int32) (127 : Int32) w = some ((0 : Int32), w) from in_f (n := 127) (by decide) hp w, zb_s, if0]
    exact same _
