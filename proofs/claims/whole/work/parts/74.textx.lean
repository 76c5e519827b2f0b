/-! ===== PURE: the class reads a clause, a text ===== -/
theorem stC_len (c : zC) : (stC c).length = szC c := by
  unfold stC szC
  split
  · rfl
  · rw [List.length_append, List.length_map]
    rfl
theorem htC_len (c : zC) : (htC c).length ≤ 1 := by
  unfold htC
  split
  · exact Nat.zero_le _
  · exact Nat.le_refl _
theorem OL_w {tx : Nat → Nat} {n t sp p' : Nat} {F : Option (Int32 × zM)} {u u' : zM} {L H : List Int32} {r : zLc} (h : OL tx n t F u' sp L H r) (g : frP P1 u u') : OL tx n t F u sp L H r := by
  obtain ⟨u2, e, R, Q, F2⟩ := h
  exact ⟨u2, e, R, Q, frP_tr (PQ_1 g) F2⟩
theorem zb_01 {r : Bool} {u : zM} : (zb (some (nI (b2n r), u)) fun y u21 => (if y = (0 : Int32) then some ((0 : Int32), u21) else some ((1 : Int32), u21))) = some (nI (b2n r), u) := by cases r <;> rfl
theorem clX {tx : Nat → Nat} {n t p sp : Nat} {u : zM} {L H : List Int32} (ht : 78 ≤ t) (hq : isQ t = true) (ho : TxOk tx n) (h : RX tx n t u p) (hp : p ≤ n) (hQ : QX t u sp L H) (hl : L.length ≤ p) (hh : H.length < 10) : OL tx n t (f_X2_readsClause u) u sp L H (pCl tx n p) := by
  obtain ⟨k1, k2⟩ := pWd_ok (tx := tx) (wdT (chT tx n p)) p (wdT_lt _) hp
  unfold f_X2_readsClause
  rw [seesX (c := 104) (C := 104) rfl (by decide) h ho hp, zb_s]
  by_cases c1 : chT tx n p = 104
  · rw [if_pos c1, if_neg (by decide)]
    have hw : wdT (chT tx n p) = [104, 101, 97, 116] := by rw [c1]; rfl
    have hc : wcT (chT tx n p) = 0 := by rw [c1]; rfl
    obtain ⟨u2, e2, R2, F2⟩ := wordX h ho hp CHh (by decide) zskW.1 (by decide)
    unfold pCl
    rw [hw, hc]
    rw [hw] at k1 k2
    rw [e2, zb_s]
    by_cases c2 : (pWd tx n [104, 101, 97, 116] p).1 = true
    · rw [if_pos c2, c2, if_neg (by decide)]
      obtain ⟨u3, e3, R3, Q3, F3⟩ := heatX ht hq ho R2 k2 (QX_1 ht hQ F2) (by omega) hh (wc := 0) (s := 1) (by decide) (fun v => by rw [if_pos rfl, Int32.one_mul])
      rw [e3, zb_01]
      exact ⟨u3, rfl, R3, Q3, frP_tr (PQ_1 F2) F3⟩
    · have c2f : (pWd tx n [104, 101, 97, 116] p).1 = false := by simpa using c2
      rw [if_neg c2, c2f, if_pos (by decide)]
      exact ⟨u2, rfl, R2, fun q => nope q rfl, PQ_1 F2⟩
  · rw [if_neg c1, if_pos rfl, seesX (c := 99) (C := 99) rfl (by decide) h ho hp, zb_s]
    by_cases c3 : chT tx n p = 99
    · rw [if_pos c3, if_neg (by decide)]
      have hw : wdT (chT tx n p) = [99, 97, 108, 109] := by rw [c3]; rfl
      have hc : wcT (chT tx n p) = 1 := by rw [c3]; rfl
      obtain ⟨u2, e2, R2, F2⟩ := wordX h ho hp CHc (by decide) zskW.2.1 (by decide)
      unfold pCl
      rw [hw, hc]
      rw [hw] at k1 k2
      rw [e2, zb_s]
      by_cases c2 : (pWd tx n [99, 97, 108, 109] p).1 = true
      · rw [if_pos c2, c2, if_neg (by decide)]
        obtain ⟨u3, e3, R3, Q3, F3⟩ := heatX ht hq ho R2 k2 (QX_1 ht hQ F2) (by omega) hh (wc := 1) (s := -1) (by decide) (fun v => by rw [if_neg (by decide), Int32.neg_mul, Int32.one_mul])
        rw [e3, zb_01]
        exact ⟨u3, rfl, R3, Q3, frP_tr (PQ_1 F2) F3⟩
      · have c2f : (pWd tx n [99, 97, 108, 109] p).1 = false := by simpa using c2
        rw [if_neg c2, c2f, if_pos (by decide)]
        exact ⟨u2, rfl, R2, fun q => nope q rfl, PQ_1 F2⟩
    · have hw : wdT (chT tx n p) = [115, 112, 97, 114, 107] := by unfold wdT; rw [if_neg c1, if_neg c3]
      have hc : wcT (chT tx n p) = 2 := by unfold wcT; rw [if_neg c1, if_neg c3]
      rw [if_neg c3, if_pos rfl]
      obtain ⟨u2, e2, R2, F2⟩ := wordX h ho hp CHs (by decide) zskW.2.2 (by decide)
      unfold pCl
      rw [hw, hc]
      rw [hw] at k1 k2
      rw [e2, zb_s]
      by_cases c2 : (pWd tx n [115, 112, 97, 114, 107] p).1 = true
      · rw [if_pos c2, c2, if_neg (by decide), takesX (c := 32) (C := 32) rfl (by decide) R2 ho k2]
        unfold pC1
        by_cases c4 : chT tx n (pWd tx n [115, 112, 97, 114, 107] p).2 = 32
        · have l4 := ch_lt (tx := tx) (n := n) (p := (pWd tx n [115, 112, 97, 114, 107] p).2) (by omega)
          rw [if_pos c4, if_pos c4, zb_s, if_neg (by decide)]
          obtain ⟨u3, e3, R3, F3⟩ := numX (RX_s (p' := (pWd tx n [115, 112, 97, 114, 107] p).2 + 1) R2) ho (by omega)
          obtain ⟨j1, j2, j3⟩ := nuT_ok (tx := tx) (n := n) (p := (pWd tx n [115, 112, 97, 114, 107] p).2 + 1) (by omega)
          have hF := frP_tr F2 (frP_tr (fr1 u2 _) F3)
          rw [e3, zb_s]
          unfold pC2
          by_cases c5 : (nuT tx n ((pWd tx n [115, 112, 97, 114, 107] p).2 + 1)).1 = true
          · obtain ⟨j4, j5⟩ := j3 c5
            rw [if_pos c5, if_pos c5, if_pos rfl, if_neg (nI_pos (by omega)), R3.2.2.1, zmo_s, hq, zck_t, zlet_s, if_neg (nI_pos (by omega))]
            obtain ⟨q1, q2, q3, q4⟩ := QX_1 ht hQ hF
            refine ⟨_, rfl, ⟨by rw [gI_sI, if_neg (by omega)]; exact R3.1, by rw [gI_sI, if_neg (by omega)]; exact R3.2.1, R3.2.2.1, fun i hi => by rw [gI_sI, if_neg (by omega)]; exact R3.2.2.2 i hi⟩, fun _ => ⟨?_, ⟨?_, ?_⟩, ?_, ?_⟩, frP_s (PQ_1 hF) (Or.inr (Or.inl rfl))⟩
            · rw [gI_sI, if_pos ⟨rfl, rfl⟩, if_pos rfl]
            · rw [gI_sI, if_neg (by omega)]
              show gI u3 t 2 = nI (L ++ []).length
              rw [List.append_nil]
              exact q2.1
            · show AI _ _ (L ++ []) 0
              rw [List.append_nil]
              exact AI_cg L 0 (fun k _ => by rw [gI_sI, if_neg (by omega)]) q2.2
            · rw [gI_sI, if_neg (by omega)]
              show gI u3 t 4 = nI (H ++ []).length
              rw [List.append_nil]
              exact q3
            · show AI _ _ (H ++ []) 0
              rw [List.append_nil]
              exact AI_cg H 0 (fun k _ => by rw [gI_sI, if_neg (by omega)]) q4
          · rw [nuT_fp c5] at R3
            rw [if_neg c5, if_neg c5, if_pos (by decide), if_pos (by decide)]
            exact ⟨u3, rfl, R3, fun q => nope q rfl, PQ_1 hF⟩
        · rw [if_neg c4, if_neg c4, zb_s, if_pos rfl]
          exact ⟨u2, rfl, R2, fun q => nope q rfl, PQ_1 F2⟩
      · have c2f : (pWd tx n [115, 112, 97, 114, 107] p).1 = false := by simpa using c2
        rw [if_neg c2, c2f, if_pos (by decide)]
        exact ⟨u2, rfl, R2, fun q => nope q rfl, PQ_1 F2⟩
def stQ : zQ → List Int32
  | [] => []
  | c :: Q => stC c ++ stQ Q
def htQ : zQ → List Int32
  | [] => []
  | c :: Q => htC c ++ htQ Q
theorem stQ_app (c : zC) : ∀ Q : zQ, stQ (Q ++ [c]) = stQ Q ++ stC c := by
  intro Q
  induction Q with
  | nil => exact List.append_nil _
  | cons d Q ih =>
    show stC d ++ stQ (Q ++ [c]) = stC d ++ stQ Q ++ stC c
    rw [ih, List.append_assoc]
theorem htQ_app (c : zC) : ∀ Q : zQ, htQ (Q ++ [c]) = htQ Q ++ htC c := by
  intro Q
  induction Q with
  | nil => exact List.append_nil _
  | cons d Q ih =>
    show htC d ++ htQ (Q ++ [c]) = htC d ++ htQ Q ++ htC c
    rw [ih, List.append_assoc]
theorem sparkQ_app (c : zC) : ∀ (Q : zQ) (x : Nat), sparkQ (Q ++ [c]) x = if c.1 = 2 then c.2.1 else sparkQ Q x := by
  intro Q
  induction Q with
  | nil => exact fun x => rfl
  | cons d Q ih => exact fun x => ih _
theorem stQ_len : ∀ Q : zQ, (stQ Q).length = szQ Q := by
  intro Q
  induction Q with
  | nil => rfl
  | cons d Q ih =>
    show (stC d ++ stQ Q).length = szC d + szQ Q
    rw [List.length_append, stC_len, ih]
theorem htQ_len : ∀ Q : zQ, (htQ Q).length = hcQ Q := by
  intro Q
  induction Q with
  | nil => rfl
  | cons d Q ih =>
    show (htC d ++ htQ Q).length = (if d.1 = 2 then 0 else 1) + hcQ Q
    rw [List.length_append, ih]
    congr 1
    unfold htC
    split <;> rfl
theorem TX_AI {u : zM} {a : Nat} : ∀ (ks : List zK) (i : Nat), AI u a (ks.map tkX) i → TX u a ks i := by
  intro ks
  induction ks with
  | nil => exact fun i _ => trivial
  | cons k ks ih => exact fun i h => ⟨h.1, ih (i + 1) h.2⟩
theorem LX_AI {u : zM} {t : Nat} : ∀ (Q : zQ) (i e : Nat), AI u (t + 1) (stQ Q) i → AI u (t + 2) (htQ Q) e → LX u t Q i e := by
  intro Q
  induction Q with
  | nil => exact fun i e _ _ => trivial
  | cons c Q ih =>
    intro i e h1 h2
    have h1 : AI u (t + 1) (stC c ++ stQ Q) i := h1
    have h2 : AI u (t + 2) (htC c ++ htQ Q) e := h2
    unfold LX
    unfold stC at h1
    unfold htC at h2
    by_cases k : c.1 = 2
    · rw [if_pos k] at h1 h2 ⊢
      exact ih i e h1 h2
    · rw [if_neg k] at h1 h2 ⊢
      have g1 := AI_r _ _ _ h1
      rw [List.length_append, List.length_map] at g1
      have g2 := AI_l _ _ _ h1
      have g3 := AI_r _ _ _ g2
      rw [List.length_map] at g3
      have g4 := AI_r _ _ _ h2
      exact ⟨TX_AI _ _ (AI_l _ _ _ g2), g3.1, h2.1, ih _ _ g1 g4⟩
theorem SX_QX {t : Nat} {u : zM} {Q : zQ} (h : QX t u (sparkQ Q 80) (stQ Q) (htQ Q)) : SX u t Q := ⟨h.1, by rw [← stQ_len]; exact h.2.1.1, by rw [← htQ_len]; exact h.2.2.1, LX_AI Q 0 0 h.2.1.2 h.2.2.2⟩
theorem szQ_app (c : zC) (Q : zQ) : szQ (Q ++ [c]) = szQ Q + szC c := by
  rw [← stQ_len, stQ_app, List.length_append, stQ_len, stC_len]
theorem okTx {tx : Nat → Nat} {n : Nat} (ho : TxOk tx n) : ∀ (j p : Nat) (Q : zQ), Q.length + j ≤ 10 → szQ Q ≤ p → (∀ c ∈ Q, OkC c) → p ≤ n → (pTx tx n j p Q).2.1 ≤ n ∧ ((pTx tx n j p Q).1 = true → OkQ (pTx tx n j p Q).2.2) := by
  intro j
  induction j with
  | zero => exact fun p Q _ _ _ hp => ⟨hp, fun q => nope q rfl⟩
  | succ j ih =>
    intro p Q hj hs hc hp
    have o1 := ho.1
    obtain ⟨r1, r2, r3⟩ := okCl (tx := tx) hp
    unfold pTx
    by_cases c1 : (pCl tx n p).1 = true
    · obtain ⟨r4, r5⟩ := r3 c1
      have h1 : (Q ++ [(pCl tx n p).2.2]).length ≤ 10 - j := by
        rw [List.length_append]
        show Q.length + 1 ≤ _
        omega
      have h2 : szQ (Q ++ [(pCl tx n p).2.2]) ≤ (pCl tx n p).2.1 := by
        rw [szQ_app]
        omega
      have h3 : ∀ c ∈ Q ++ [(pCl tx n p).2.2], OkC c := by
        intro c hm
        rcases List.mem_append.mp hm with hm | hm
        · exact hc c hm
        · rw [List.mem_singleton.mp hm]
          exact r4
      rw [if_pos c1]
      by_cases c2 : (pCl tx n p).2.1 = n
      · rw [if_pos c2]
        exact ⟨Nat.le_refl _, fun _ => ⟨Nat.le_trans h1 (Nat.sub_le _ _), Nat.le_trans h2 (by omega), h3⟩⟩
      · rw [if_neg c2]
        by_cases c3 : j = 0
        · rw [if_pos c3]
          exact ⟨r2, fun q => nope q rfl⟩
        · rw [if_neg c3]
          by_cases c4 : chT tx n (pCl tx n p).2.1 = 59
          · rw [if_pos c4]
            have l := ch_lt (tx := tx) (n := n) (p := (pCl tx n p).2.1) (by omega)
            exact ih _ _ (by omega) (by omega) h3 (by omega)
          · rw [if_neg c4]
            exact ⟨r2, fun q => nope q rfl⟩
    · rw [if_neg c1]
      exact ⟨r2, fun q => nope q rfl⟩
theorem txL {tx : Nat → Nat} {n t : Nat} (ht : 78 ≤ t) (hq : isQ t = true) (ho : TxOk tx n) : ∀ (j i fn : Nat) (u : zM) (p : Nat) (Q : zQ), i + j = 11 → j < fn → RX tx n t u p → QX t u (sparkQ Q 80) (stQ Q) (htQ Q) → szQ Q ≤ p → Q.length + 1 = i → p ≤ n → ∃ u', f_X2_reads_L16 t fn (nI i) u = some (nI (b2n (pTx tx n j p Q).1), u') ∧ RX tx n t u' (pTx tx n j p Q).2.1 ∧ ((pTx tx n j p Q).1 = true → QX t u' (sparkQ (pTx tx n j p Q).2.2 80) (stQ (pTx tx n j p Q).2.2) (htQ (pTx tx n j p Q).2.2)) ∧ frP (PQ t) u u' := by
  intro j
  induction j with
  | zero =>
    intro i fn u p Q hi hf h hQ hs hQl hp
    obtain ⟨fn, rfl⟩ : ∃ g, fn = g + 1 := ⟨fn - 1, by omega⟩
    obtain rfl : i = 11 := by omega
    exact ⟨u, rfl, h, fun q => nope q rfl, frP_rf _ _⟩
  | succ j ih =>
    intro i fn u p Q hi hf h hQ hs hQl hp
    obtain ⟨fn, rfl⟩ : ∃ g, fn = g + 1 := ⟨fn - 1, by omega⟩
    have o1 := ho.1
    have hH : (htQ Q).length < 10 := by
      have := hcQ_le Q
      rw [htQ_len]
      omega
    obtain ⟨r1, r2, r3⟩ := okCl (tx := tx) hp
    obtain ⟨u2, e2, R2, Q2, F2⟩ := clX ht hq ho h hp hQ (by rw [stQ_len]; exact hs) hH
    show ∃ u', f_X2_reads_L16_b _ _ _ _ = _ ∧ _
    unfold f_X2_reads_L16_b pTx
    rw [if_neg (show ¬ (10 : Int32) < nI i from nI_nlt (a := 10) (by omega) (by decide)), e2, zb_s]
    by_cases c1 : (pCl tx n p).1 = true
    · obtain ⟨r4, r5⟩ := r3 c1
      have Q2' : QX t u2 (sparkQ (Q ++ [(pCl tx n p).2.2]) 80) (stQ (Q ++ [(pCl tx n p).2.2])) (htQ (Q ++ [(pCl tx n p).2.2])) := by
        rw [sparkQ_app, stQ_app, htQ_app]
        exact Q2 c1
      rw [if_pos c1, c1, if_neg (by decide), R2.2.1, R2.1]
      by_cases c2 : (pCl tx n p).2.1 = n
      · rw [if_pos c2, c2, if_pos rfl]
        rw [c2] at R2
        exact ⟨u2, rfl, R2, fun _ => Q2', F2⟩
      · rw [if_neg c2, if_neg (fun q => c2 ((nI_eq (by omega) (by omega)).mp q))]
        by_cases c3 : j = 0
        · obtain rfl : i = 10 := by omega
          rw [if_pos c3, if_pos (show nI 10 = (10 : Int32) from rfl)]
          exact ⟨u2, rfl, R2, fun q => nope q rfl, F2⟩
        · rw [if_neg c3, if_neg (show ¬ nI i = (10 : Int32) from fun q => c3 (by have := (nI_eq (b := 10) (by omega) (by decide)).mp q; omega)), takesX (c := 59) (C := 59) rfl (by decide) R2 ho r2]
          by_cases c4 : chT tx n (pCl tx n p).2.1 = 59
          · have l := ch_lt (tx := tx) (n := n) (p := (pCl tx n p).2.1) (by omega)
            rw [if_pos c4, if_pos c4, zb_s, if_neg (by decide), nI_a1]
            obtain ⟨u3, e3, R3, Q3, F3⟩ := ih (i + 1) fn _ ((pCl tx n p).2.1 + 1) (Q ++ [(pCl tx n p).2.2]) (by omega) (by omega) (RX_s R2) (QX_1 ht Q2' (fr1 u2 _)) (by rw [szQ_app]; omega) (by rw [List.length_append]; show Q.length + 1 + 1 = i + 1; omega) (by omega)
            exact ⟨u3, e3, R3, Q3, frP_tr F2 (frP_tr (PQ_1 (fr1 u2 _)) F3)⟩
          · rw [if_neg c4, if_neg c4, zb_s, if_pos rfl]
            exact ⟨u2, rfl, R2, fun q => nope q rfl, F2⟩
    · have c1f : (pCl tx n p).1 = false := by simpa using c1
      rw [if_neg c1, c1f, if_pos (by decide)]
      exact ⟨u2, rfl, R2, fun q => nope q rfl, F2⟩
/-- the text as the class holds it -/
def TeX (tx : Nat → Nat) (n : Nat) (u : zM) : Prop := gI u 63 0 = nI n ∧ ∀ i, i < n → gI u 64 i = nI (tx i)
def PR (t a k : Nat) : Prop := (a = 63 ∧ k = 1) ∨ a = t ∨ a = t + 1 ∨ a = t + 2
theorem readsX {tx : Nat → Nat} {n t : Nat} {u : zM} (ht : 78 ≤ t) (hq : isQ t = true) (ho : TxOk tx n) (h : TeX tx n u) : ∃ u', f_X2_reads t u = some (nI (b2n (pTx tx n 10 0 []).1), u') ∧ gI u' 63 1 = nI (pTx tx n 10 0 []).2.1 ∧ ((pTx tx n 10 0 []).1 = true → SX u' t (pTx tx n 10 0 []).2.2) ∧ (∀ a k, ¬ PQ t a k → gI u' a k = gI u a k) ∧ (∀ a k, gJ u' a k = gJ u a k) ∧ ∀ a k, ¬ (a = 63 ∧ k = 3) → gO u' a k = gO u a k := by
  have hR : RX tx n t (sI (sO (sI (sI (sI u t 0 (80 : Int32)) t 2 (0 : Int32)) t 4 (0 : Int32)) 63 3 (some t)) 63 1 (0 : Int32)) 0 := by
    refine ⟨?_, ?_, ?_, fun i hi => ?_⟩
    · rw [gI_sI, if_neg (by omega), gI_sO, gI_sI, if_neg (by omega), gI_sI, if_neg (by omega), gI_sI, if_neg (by omega)]
      exact h.1
    · rw [gI_sI, if_pos ⟨rfl, rfl⟩]
      rfl
    · rw [gO_sI, gO_sO, if_pos ⟨rfl, rfl⟩]
    · rw [gI_sI, if_neg (by omega), gI_sO, gI_sI, if_neg (by omega), gI_sI, if_neg (by omega), gI_sI, if_neg (by omega)]
      exact h.2 i hi
  have hQ : QX t (sI (sO (sI (sI (sI u t 0 (80 : Int32)) t 2 (0 : Int32)) t 4 (0 : Int32)) 63 3 (some t)) 63 1 (0 : Int32)) (sparkQ [] 80) (stQ []) (htQ []) := by
    refine ⟨?_, ⟨?_, trivial⟩, ?_, trivial⟩
    · rw [gI_sI, if_neg (by omega), gI_sO, gI_sI, if_neg (by omega), gI_sI, if_neg (by omega), gI_sI, if_pos ⟨rfl, rfl⟩]
      rfl
    · rw [gI_sI, if_neg (by omega), gI_sO, gI_sI, if_neg (by omega), gI_sI, if_pos ⟨rfl, rfl⟩]
      rfl
    · rw [gI_sI, if_neg (by omega), gI_sO, gI_sI, if_pos ⟨rfl, rfl⟩]
      rfl
  obtain ⟨u', e, R, Q, F⟩ := txL ht hq ho 10 1 400 _ 0 [] (by decide) (by decide) hR hQ (Nat.le_refl _) rfl (Nat.zero_le _)
  refine ⟨u', ?_, R.2.1, fun q => SX_QX (Q q), fun a k q => ?_, fun a k => F.2.1 a k, fun a k q => ?_⟩
  · unfold f_X2_reads f_X4_empty
    rw [zlet_s, zlet_s, zlet_s, zb_s, zlet_s, zlet_s]
    exact e
  · rw [F.1 a k q]
    unfold PQ at q
    rw [gI_sI, if_neg (by omega), gI_sO, gI_sI, if_neg (by omega), gI_sI, if_neg (by omega), gI_sI, if_neg (by omega)]
  · rw [F.2.2 a k, gO_sI, gO_sO, if_neg q, gO_sI, gO_sI, gO_sI]
