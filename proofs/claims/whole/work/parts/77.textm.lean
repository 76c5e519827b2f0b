/-! ===== PURE: the reference reads words, clauses, texts ===== -/
def CHM (w : zM) : List Nat → Nat → Prop
  | [], _ => True
  | c :: cs, i => gI w 16 i = nI c ∧ c < 128 ∧ CHM w cs (i + 1)
theorem CHM_cg {w w' : zM} (g : ∀ k, gI w' 16 k = gI w 16 k) : ∀ (cs : List Nat) (i : Nat), CHM w cs i → CHM w' cs i := by
  intro cs
  induction cs with
  | nil => exact fun _ _ => trivial
  | cons c cs ih => exact fun i h => ⟨(g i).trans h.1, h.2.1, ih (i + 1) h.2.2⟩
theorem wordLM {tx : Nat → Nat} {n f m : Nat} (ho : TxOk tx n) (hm : m < 13) (hf : f < 13) : ∀ (cs : List Nat) (i fn : Nat) (w : zM) (p : Nat), i + cs.length = m → f + m ≤ 13 → CHM w cs (f + i) → cs.length < fn → RH tx n w p → p ≤ n → ∃ w', f_X9_takesWord_L2 (nI f) (nI m) fn (nI i) w = (if (pWd tx n cs p).1 = true then (if chT tx n (pWd tx n cs p).2 = 32 then some ((1 : Int32), sI w' 0 15 (nI ((pWd tx n cs p).2 + 1))) else some ((0 : Int32), w')) else some ((0 : Int32), w')) ∧ RH tx n w' (pWd tx n cs p).2 ∧ frP P15 w w' := by
  intro cs
  induction cs with
  | nil =>
    intro i fn w p hi hfm hc hfn h hp
    obtain ⟨fn, rfl⟩ : ∃ g, fn = g + 1 := ⟨fn - 1, by omega⟩
    have hi : i + 0 = m := hi
    refine ⟨w, ?_, h, frP_rf _ _⟩
    show f_X9_takesWord_L2_b _ _ _ _ _ = if true = true then (if chT tx n p = 32 then some ((1 : Int32), sI w 0 15 (nI (p + 1))) else some ((0 : Int32), w)) else some ((0 : Int32), w)
    unfold f_X9_takesWord_L2_b
    rw [if_pos (show nI m ≤ nI i from nI_le (by omega) (by omega)), takesM (c := 32) (C := 32) rfl (by decide) h ho hp, if_pos rfl]
    by_cases e : chT tx n p = 32
    · rw [if_pos e]
      rfl
    · rw [if_neg e]
      rfl
  | cons c cs ih =>
    intro i fn w p hi hfm hc hfn h hp
    obtain ⟨fn, rfl⟩ : ∃ g, fn = g + 1 := ⟨fn - 1, by omega⟩
    have hi : i + (cs.length + 1) = m := hi
    have hfn : cs.length + 1 < fn + 1 := hfn
    obtain ⟨c1, c2, c3⟩ := hc
    show ∃ w', f_X9_takesWord_L2_b _ _ _ _ _ = _ ∧ _
    unfold f_X9_takesWord_L2_b pWd
    rw [if_neg (show ¬ nI m ≤ nI i from nI_ge (by omega) (by omega)), nI_add, inB_n (show f + i < 13 by omega) (by decide), zck_t, nI_cl (by omega), c1, takesM rfl c2 h ho hp]
    by_cases e : chT tx n p = c
    · have l := ch_lt (tx := tx) (n := n) (p := p) (by omega)
      rw [if_pos e, if_pos e, zb_s, if_neg (by decide), nI_a1]
      obtain ⟨w', e1, e2, e3⟩ := ih (i + 1) fn _ (p + 1) (by omega) hfm (CHM_cg (fun k => by rw [gI_sI, if_neg (by omega)]) cs _ c3) (by omega) (RH_s h) (by omega)
      exact ⟨w', e1, e2, frP_tr (fr15 w _) e3⟩
    · rw [if_neg e, if_neg e, zb_s, if_pos rfl]
      exact ⟨w, rfl, h, frP_rf _ _⟩
/-- the reference's letters -/
def LTM (w : zM) : Prop := CHM w [104, 101, 97, 116, 99, 97, 108, 109, 115, 112, 97, 114, 107] 0
theorem LTM_cg {w w' : zM} (h : LTM w) (g : ∀ k, gI w' 16 k = gI w 16 k) : LTM w' := CHM_cg g _ _ h
def RG (tx : Nat → Nat) (n : Nat) (w : zM) (p b : Nat) (M : List Int32) : Prop := RH tx n w p ∧ gI w 0 25 = nI (b + M.length) ∧ AI w 14 M b ∧ LTM w
def PC (b c a k : Nat) : Prop := (a = 0 ∧ (k = 15 ∨ k = 16 ∨ k = 25 ∨ k = 26 ∨ k = 27)) ∨ (10 ≤ a ∧ a ≤ 13 ∧ k = c) ∨ (a = 14 ∧ b ≤ k) ∨ a = 15
theorem PC_15 {b c : Nat} {w w' : zM} (h : frP P15 w w') : frP (PC b c) w w' := frP_mono h (fun a k q => by unfold P15 at q; unfold PC; omega)
theorem PC_M {b c : Nat} {w w' : zM} (h : frP (PM b c) w w') : frP (PC b c) w w' := frP_mono h (fun a k q => by unfold PM at q; unfold PC; omega)
theorem RG_15 {tx : Nat → Nat} {n p p' b : Nat} {M : List Int32} {w w' : zM} (h : RG tx n w p b M) (g : frP P15 w w') (hr : RH tx n w' p') : RG tx n w' p' b M := ⟨hr, (g.1 0 25 (by unfold P15; omega)).trans h.2.1, AI_cg M b (fun k _ => g.1 14 k (by unfold P15; omega)) h.2.2.1, LTM_cg h.2.2.2 (fun k => g.1 16 k (by unfold P15; omega))⟩
theorem RG_o {tx : Nat → Nat} {n p b a k : Nat} {M : List Int32} {w : zM} {x : Int32} (h : RG tx n w p b M) (ha : 9 ≤ a ∧ a ≤ 13) : RG tx n (sI w a k x) p b M := by
  obtain ⟨⟨a1, a2, a3⟩, h2, h3, h4⟩ := h
  exact ⟨⟨by rw [gI_sI, if_neg (by omega)]; exact a1, by rw [gI_sI, if_neg (by omega)]; exact a2, fun i hi => by rw [gI_sI, if_neg (by omega)]; exact a3 i hi⟩, by rw [gI_sI, if_neg (by omega)]; exact h2, AI_cg M b (fun k _ => by rw [gI_sI, if_neg (by omega)]) h3, LTM_cg h4 (fun k => by rw [gI_sI, if_neg (by omega)])⟩
def tkCl (c : zC) : List Int32 := if c.1 = 2 then [] else c.2.2.map tkM
theorem tkCl_len (c : zC) : (tkCl c).length ≤ szC c := by
  unfold tkCl szC
  split
  · exact Nat.le_refl _
  · rw [List.length_map]
    omega
def CLq (w : zM) (j : Nat) (c : zC) (a : Nat) : Prop := gI w 10 j = nI c.1 ∧ gI w 11 j = nI c.2.1 ∧ (c.1 ≠ 2 → gI w 12 j = nI a ∧ gI w 13 j = nI (a + c.2.2.length))
theorem headM {tx : Nat → Nat} {n p b c : Nat} {M : List Int32} {w : zM} (ho : TxOk tx n) (h : RG tx n w p b M) (hp : p ≤ n) (hc : c < 60) : ∃ w', f_X9_takesHead (nI c) w = (if (pWd tx n (wdT (chT tx n p)) p).1 = true then (if chT tx n (pWd tx n (wdT (chT tx n p)) p).2 = 32 then some ((1 : Int32), sI w' 0 15 (nI ((pWd tx n (wdT (chT tx n p)) p).2 + 1))) else some ((0 : Int32), w')) else some ((0 : Int32), w')) ∧ RG tx n w' (pWd tx n (wdT (chT tx n p)) p).2 b M ∧ gI w' 10 c = nI (wcT (chT tx n p)) ∧ frP (PC b c) w w' := by
  obtain ⟨l0, -, l1, -, l2, -, l3, -, l4, -, l5, -, l6, -, l7, -, l8, -, l9, -, l10, -, l11, -, l12, -, -⟩ := h.2.2.2
  have hz : ∀ (r : Option (Int32 × zM)) (w' : zM) (b1 b2 : Prop) [Decidable b1] [Decidable b2] (w'' : zM), r = (if b1 then (if b2 then some ((1 : Int32), w'') else some ((0 : Int32), w')) else some ((0 : Int32), w')) → (zb r fun y5 u6 => zck (z01 y5) <| some (y5, u6)) = r := by
    intro r w' b1 b2 _ _ w'' hr
    subst hr
    by_cases c1 : b1
    · rw [if_pos c1]
      by_cases c2 : b2
      · rw [if_pos c2]; rfl
      · rw [if_neg c2]; rfl
    · rw [if_neg c1]; rfl
  have fin : ∀ (x : Nat) (cs : List Nat) (f m : Nat), x = wcT (chT tx n p) → cs = wdT (chT tx n p) → cs.length = m → m < 13 → f < 13 → f + m ≤ 13 → CHM (sI w 10 c (nI x)) cs f → ∃ w', (zb (f_X9_takesWord (nI f) (nI m) (sI w 10 c (nI x))) fun y5 u6 => zck (z01 y5) <| some (y5, u6)) = (if (pWd tx n (wdT (chT tx n p)) p).1 = true then (if chT tx n (pWd tx n (wdT (chT tx n p)) p).2 = 32 then some ((1 : Int32), sI w' 0 15 (nI ((pWd tx n (wdT (chT tx n p)) p).2 + 1))) else some ((0 : Int32), w')) else some ((0 : Int32), w')) ∧ RG tx n w' (pWd tx n (wdT (chT tx n p)) p).2 b M ∧ gI w' 10 c = nI (wcT (chT tx n p)) ∧ frP (PC b c) w w' := by
    intro x cs f m hx hcs hm hm1 hf1 hfm hch
    have h1 := RG_o (a := 10) (k := c) (x := nI x) h (by omega)
    obtain ⟨w', e1, e2, e3⟩ := wordLM ho hm1 hf1 cs 0 400 _ p (by omega) hfm hch (by omega) h1.1 hp
    have e1' : f_X9_takesWord (nI f) (nI m) (sI w 10 c (nI x)) = _ := e1
    rw [hcs] at e1' e2
    refine ⟨w', (hz _ _ _ _ _ e1').trans e1', RG_15 h1 e3 e2, ?_, frP_tr (frP_s (frP_rf _ w) (Or.inr (Or.inl ⟨by decide, by decide, rfl⟩))) (PC_15 e3)⟩
    rw [e3.1 10 c (by unfold P15; omega), gI_sI, if_pos ⟨rfl, rfl⟩, hx]
  unfold f_X9_takesHead
  rw [nextM h.1 ho hp, zb_s, inB_n hc (by decide), zck_t, zck_t, zck_t, nI_cl (by omega), zlet_s, zlet_s, zlet_s]
  have g : ∀ (x : Nat) (k : Nat) (d : Nat), gI w 16 k = nI d → gI (sI w 10 c (nI x)) 16 k = nI d := fun x k d e => by rw [gI_sI, if_neg (by omega)]; exact e
  by_cases c1 : chT tx n p = 99
  · rw [if_pos ((chI_e (d := 99) (D := 99) rfl (by decide) (ch_cs ho p)).mpr c1)]
    exact fin 1 [99, 97, 108, 109] 4 4 (by rw [c1]; rfl) (by rw [c1]; rfl) rfl (by decide) (by decide) (by decide) ⟨g 1 _ _ l4, by decide, g 1 _ _ l5, by decide, g 1 _ _ l6, by decide, g 1 _ _ l7, by decide, trivial⟩
  · rw [if_neg (fun q => c1 ((chI_e (d := 99) (D := 99) rfl (by decide) (ch_cs ho p)).mp q))]
    by_cases c2 : chT tx n p = 104
    · rw [if_pos ((chI_e (d := 104) (D := 104) rfl (by decide) (ch_cs ho p)).mpr c2)]
      exact fin 0 [104, 101, 97, 116] 0 4 (by rw [c2]; rfl) (by rw [c2]; rfl) rfl (by decide) (by decide) (by decide) ⟨g 0 _ _ l0, by decide, g 0 _ _ l1, by decide, g 0 _ _ l2, by decide, g 0 _ _ l3, by decide, trivial⟩
    · rw [if_neg (fun q => c2 ((chI_e (d := 104) (D := 104) rfl (by decide) (ch_cs ho p)).mp q))]
      exact fin 2 [115, 112, 97, 114, 107] 8 5 (by unfold wcT; rw [if_neg c2, if_neg c1]) (by unfold wdT; rw [if_neg c2, if_neg c1]) rfl (by decide) (by decide) (by decide) ⟨g 2 _ _ l8, by decide, g 2 _ _ l9, by decide, g 2 _ _ l10, by decide, g 2 _ _ l11, by decide, g 2 _ _ l12, by decide, trivial⟩
theorem clM {tx : Nat → Nat} {n p b c : Nat} {M : List Int32} {w : zM} (ho : TxOk tx n) (h : RG tx n w p b M) (hp : p ≤ n) (hc : c < 60) (hb : b ≤ 500) (hl : M.length ≤ p) : ((pCl tx n p).1 = true → ∃ w', f_X9_takesClause (nI c) w = some ((1 : Int32), w') ∧ RG tx n w' (pCl tx n p).2.1 b (M ++ tkCl (pCl tx n p).2.2) ∧ CLq w' c (pCl tx n p).2.2 (b + M.length) ∧ frP (PC b c) w w') ∧ ((pCl tx n p).1 = false → ∃ w', f_X9_takesClause (nI c) w = some ((0 : Int32), w') ∧ gI w' 0 15 = nI (pCl tx n p).2.1 ∧ frP (PC b c) w w') := by
  have o1 := ho.1
  obtain ⟨w1, e1, R1, V1, F1⟩ := headM ho h hp hc
  obtain ⟨k1, k2⟩ := pWd_ok (tx := tx) (wdT (chT tx n p)) p (wdT_lt _) hp
  unfold f_X9_takesClause
  rw [e1]
  unfold pCl
  by_cases c1 : (pWd tx n (wdT (chT tx n p)) p).1 = true
  · rw [if_pos c1, if_pos c1]
    generalize pWd tx n (wdT (chT tx n p)) p = wd at *
    generalize hwc : wcT (chT tx n p) = wc at *
    have hwl : wc ≤ 2 := by rw [← hwc]; exact wcT_le _
    unfold pC1
    by_cases c2 : chT tx n wd.2 = 32
    · have l2 := ch_lt (tx := tx) (n := n) (p := wd.2) (by omega)
      rw [if_pos c2, if_pos c2, zb_s, if_neg (show ¬ (1 : Int32) = 0 from by decide)]
      have F2 := frP_tr F1 (PC_15 (b := b) (c := c) (fr15 w1 (wd.2 + 1)))
      have R2 := RG_15 R1 (fr15 w1 (wd.2 + 1)) (RH_s R1.1)
      obtain ⟨w3, e3, R3, V3, F3⟩ := numM R2.1 ho (by omega)
      obtain ⟨j1, j2, j3⟩ := nuT_ok (tx := tx) (n := n) (p := wd.2 + 1) (by omega)
      have R3' := RG_15 R2 F3 R3
      have F3' := frP_tr F2 (PC_15 (b := b) (c := c) F3)
      have V3w : gI w3 10 c = nI wc := by
        rw [F3.1 10 c (by unfold P15; omega), gI_sI, if_neg (by omega)]
        exact V1
      rw [e3, zb_s]
      unfold pC2
      by_cases c3 : (nuT tx n (wd.2 + 1)).1 = true
      · obtain ⟨j4, j5⟩ := j3 c3
        rw [if_pos c3, c3, if_neg (show ¬ nI (b2n true) = (0 : Int32) from by decide), inB_n hc (by decide), zck_t, nI_cl (by omega), zlet_s, zck_t, V3 c3, gI_sI, if_neg (show ¬ (10 = 11 ∧ c = c) by omega), V3w]
        have R4 := RG_o (a := 11) (k := c) (x := nI (nuT tx n (wd.2 + 1)).2.2) R3' (by omega)
        have F4 : frP (PC b c) w (sI w3 11 c (nI (nuT tx n (wd.2 + 1)).2.2)) := frP_s F3' (Or.inr (Or.inl ⟨by decide, by decide, rfl⟩))
        by_cases c4 : wc = 2
        · rw [if_pos c4, if_pos (show nI wc = (2 : Int32) by rw [c4]; rfl)]
          refine ⟨fun _ => ⟨_, rfl, ?_, ⟨?_, ?_, fun q => absurd rfl q⟩, F4⟩, fun q => nope q rfl⟩
          · show RG tx n _ _ b (M ++ [])
            rw [List.append_nil]
            exact R4
          · rw [gI_sI, if_neg (by omega), V3w, c4]
          · rw [gI_sI, if_pos ⟨rfl, rfl⟩]
        · rw [if_neg c4, if_neg (show ¬ nI wc = (2 : Int32) from fun q => c4 ((nI_eq (b := 2) (by omega) (by decide)).mp q)), takesM (c := 32) (C := 32) rfl (by decide) R4.1 ho j2]
          unfold pC3
          by_cases c5 : chT tx n (nuT tx n (wd.2 + 1)).2.1 = 32
          · have l5 := ch_lt (tx := tx) (n := n) (p := (nuT tx n (wd.2 + 1)).2.1) (by omega)
            rw [if_pos c5, if_pos c5, zb_s, if_neg (show ¬ (1 : Int32) = 0 from by decide)]
            have R5 := RG_15 R4 (fr15 _ ((nuT tx n (wd.2 + 1)).2.1 + 1)) (RH_s R4.1)
            have F5 := frP_tr F4 (PC_15 (b := b) (c := c) (fr15 _ ((nuT tx n (wd.2 + 1)).2.1 + 1)))
            generalize hw5 : sI (sI w3 11 c (nI (nuT tx n (wd.2 + 1)).2.2)) 0 15 (nI ((nuT tx n (wd.2 + 1)).2.1 + 1)) = w5 at R5 F5 ⊢
            have V5 : gI w5 10 c = nI wc ∧ gI w5 11 c = nI (nuT tx n (wd.2 + 1)).2.2 := by
              rw [← hw5]
              refine ⟨?_, ?_⟩
              · rw [gI_sI, if_neg (by omega), gI_sI, if_neg (by omega)]
                exact V3w
              · rw [gI_sI, if_neg (by omega), gI_sI, if_pos ⟨rfl, rfl⟩]
            unfold f_X9_takesE
            obtain ⟨⟨a1, a2, a3⟩, h25, h14, h16⟩ := R5
            rw [zlet_s, zlet_s, inB_n hc (by decide), zck_t, nI_cl (by omega), gI_sI, if_neg (show ¬ (0 = 0 ∧ 25 = 27) by omega), gI_sI, if_neg (show ¬ (0 = 0 ∧ 25 = 26) by omega), h25, zlet_s]
            have R6 : RM tx n (sI (sI (sI w5 0 26 (0 : Int32)) 0 27 (0 : Int32)) 12 c (nI (b + M.length))) ((nuT tx n (wd.2 + 1)).2.1 + 1) [] 0 b M := by
              refine ⟨⟨?_, ?_, fun i hi => ?_⟩, ?_, ?_, trivial, ?_, AI_cg M b (fun k _ => ?_) h14⟩
              · rw [gI_sI, if_neg (by omega), gI_sI, if_neg (by omega), gI_sI, if_neg (by omega)]; exact a1
              · rw [gI_sI, if_neg (by omega), gI_sI, if_neg (by omega), gI_sI, if_neg (by omega)]; exact a2
              · rw [gI_sI, if_neg (by omega), gI_sI, if_neg (by omega), gI_sI, if_neg (by omega)]; exact a3 i hi
              · rw [gI_sI, if_neg (by omega), gI_sI, if_neg (by omega), gI_sI, if_pos ⟨rfl, rfl⟩]; rfl
              · rw [gI_sI, if_neg (by omega), gI_sI, if_pos ⟨rfl, rfl⟩]; rfl
              · rw [gI_sI, if_neg (by omega), gI_sI, if_neg (by omega), gI_sI, if_neg (by omega)]; exact h25
              · rw [gI_sI, if_neg (by omega), gI_sI, if_neg (by omega), gI_sI, if_neg (by omega)]
            have F6 : frP (PC b c) w5 (sI (sI (sI w5 0 26 (0 : Int32)) 0 27 (0 : Int32)) 12 c (nI (b + M.length))) := frP_s (frP_s (frP_s (frP_rf _ w5) (Or.inl ⟨rfl, by omega⟩)) (Or.inl ⟨rfl, by omega⟩)) (Or.inr (Or.inl ⟨by decide, by decide, rfl⟩))
            have V6 : gI (sI (sI (sI w5 0 26 (0 : Int32)) 0 27 (0 : Int32)) 12 c (nI (b + M.length))) 10 c = nI wc ∧ gI (sI (sI (sI w5 0 26 (0 : Int32)) 0 27 (0 : Int32)) 12 c (nI (b + M.length))) 11 c = nI (nuT tx n (wd.2 + 1)).2.2 ∧ gI (sI (sI (sI w5 0 26 (0 : Int32)) 0 27 (0 : Int32)) 12 c (nI (b + M.length))) 12 c = nI (b + M.length) ∧ ∀ k, gI (sI (sI (sI w5 0 26 (0 : Int32)) 0 27 (0 : Int32)) 12 c (nI (b + M.length))) 16 k = gI w5 16 k := by
              refine ⟨?_, ?_, ?_, fun k => ?_⟩
              · rw [gI_sI, if_neg (by omega), gI_sI, if_neg (by omega), gI_sI, if_neg (by omega)]; exact V5.1
              · rw [gI_sI, if_neg (by omega), gI_sI, if_neg (by omega), gI_sI, if_neg (by omega)]; exact V5.2
              · rw [gI_sI, if_pos ⟨rfl, rfl⟩]
              · rw [gI_sI, if_neg (by omega), gI_sI, if_neg (by omega), gI_sI, if_neg (by omega)]
            generalize sI (sI (sI w5 0 26 (0 : Int32)) 0 27 (0 : Int32)) 12 c (nI (b + M.length)) = w6 at R6 F6 V6 ⊢
            obtain ⟨m1, m2⟩ := eithM ho hb (okFa0 (tx := tx)) (fun p W M fn w a1 a2 a3 a4 a5 => faM ho hb hc 6 0 (by decide) (by decide) p W M fn w a1 a2 a3 a4 (by omega)) ((nuT tx n (wd.2 + 1)).2.1 + 1) [] M 400 w6 (by omega) (by omega) R6 (by show M.length + 0 ≤ _; omega) ⟨by decide, by decide, by decide⟩
            obtain ⟨r1, r2, r3⟩ := okEi (tx := tx) (n := n) okFa0 ((nuT tx n (wd.2 + 1)).2.1 + 1) (by omega)
            by_cases c6 : (pEi tx n (pFa tx n 6 0) ((nuT tx n (wd.2 + 1)).2.1 + 1)).1 = true
            · obtain ⟨r4, r5⟩ := r3 c6
              obtain ⟨fn2, w7, pa, mm, e7, f7, R7, hm, ⟨hpa, h38, h124⟩, F7⟩ := m1 c6
              have hml : mm.length + pa.length = (pEi tx n (pFa tx n 6 0) ((nuT tx n (wd.2 + 1)).2.1 + 1)).2.2.length := by
                have := congrArg List.length hm
                rw [List.length_append, List.length_map, List.length_map] at this
                exact this
              obtain ⟨fn2, rfl⟩ : ∃ g, fn2 = g + 1 := ⟨fn2 - 1, by omega⟩
              obtain ⟨w8, e8, R8, V8, F8⟩ := endM (c := c) (fn := fn2) ho R7 r2 h38 h124 hb (by rw [List.length_append, List.append_nil]; omega) ⟨by decide, by decide⟩ hpa hc
              rw [List.append_assoc, hm] at R8 V8
              rw [if_pos (show ([] : List Nat).length = 0 from rfl)] at e8
              rw [e7, e8, zb_s, if_neg (show ¬ (1 : Int32) = 0 from by decide), if_pos c6]
              have F8' := frP_tr F7 F8
              have u10 := F8'.1 10 c (by unfold PM; omega)
              have u11 := F8'.1 11 c (by unfold PM; omega)
              have u12 := F8'.1 12 c (by unfold PM; omega)
              refine ⟨fun _ => ⟨w8, rfl, ⟨R8.1, ?_, ?_, LTM_cg h16 (fun k => ?_)⟩, ⟨u10.trans V6.1, u11.trans V6.2.1, fun _ => ⟨u12.trans V6.2.2.1, ?_⟩⟩, frP_tr F5 (frP_tr F6 (PC_M F8'))⟩, fun q => nope q rfl⟩
              · unfold tkCl
                rw [if_neg c4]
                exact R8.2.2.2.2.1
              · unfold tkCl
                rw [if_neg c4]
                exact R8.2.2.2.2.2
              · rw [F8'.1 16 k (by unfold PM; omega), V6.2.2.2 k]
              · rw [V8, List.length_append, List.length_map, Nat.add_assoc]
            · have c6f : (pEi tx n (pFa tx n 6 0) ((nuT tx n (wd.2 + 1)).2.1 + 1)).1 = false := by simpa using c6
              obtain ⟨w7, e7, R7, F7⟩ := m2 c6f
              rw [e7, zb_s, if_pos (show (0 : Int32) = 0 from rfl), if_neg c6]
              exact ⟨fun q => nope q rfl, fun _ => ⟨w7, rfl, R7, frP_tr F5 (frP_tr F6 (PC_M F7))⟩⟩
          · rw [if_neg c5, if_neg c5, zb_s, if_pos (show (0 : Int32) = 0 from rfl)]
            exact ⟨fun q => nope q rfl, fun _ => ⟨_, rfl, R4.1.2.1, F4⟩⟩
      · have c3f : (nuT tx n (wd.2 + 1)).1 = false := by simpa using c3
        rw [nuT_fp c3] at R3
        rw [if_neg c3, c3f, if_pos (show nI (b2n false) = (0 : Int32) from by decide)]
        exact ⟨fun q => nope q rfl, fun _ => ⟨w3, rfl, R3.2.1, F3'⟩⟩
    · rw [if_neg c2, if_neg c2, zb_s, if_pos (show (0 : Int32) = 0 from rfl)]
      exact ⟨fun q => nope q rfl, fun _ => ⟨w1, rfl, R1.1.2.1, F1⟩⟩
  · rw [if_neg c1, if_neg c1, zb_s, if_pos (show (0 : Int32) = 0 from rfl)]
    exact ⟨fun q => nope q rfl, fun _ => ⟨w1, rfl, R1.1.2.1, F1⟩⟩
def tkQ : zQ → List Int32
  | [] => []
  | c :: Q => tkCl c ++ tkQ Q
theorem tkQ_app (c : zC) : ∀ Q : zQ, tkQ (Q ++ [c]) = tkQ Q ++ tkCl c := by
  intro Q
  induction Q with
  | nil => exact List.append_nil _
  | cons d Q ih =>
    show tkCl d ++ tkQ (Q ++ [c]) = tkCl d ++ tkQ Q ++ tkCl c
    rw [ih, List.append_assoc]
theorem tkQ_len : ∀ Q : zQ, (tkQ Q).length ≤ szQ Q := by
  intro Q
  induction Q with
  | nil => exact Nat.le_refl _
  | cons d Q ih =>
    show (tkCl d ++ tkQ Q).length ≤ szC d + szQ Q
    have := tkCl_len d
    rw [List.length_append]
    omega
/-- the clauses' heads from number j on, tokens from place a on -/
def LQ (w : zM) : zQ → Nat → Nat → Prop
  | [], _, _ => True
  | c :: Q, j, a => CLq w j c a ∧ LQ w Q (j + 1) (a + (tkCl c).length)
theorem CLq_cg {w w' : zM} {j a : Nat} {c : zC} (g : ∀ b, 10 ≤ b → b ≤ 13 → gI w' b j = gI w b j) (h : CLq w j c a) : CLq w' j c a := ⟨(g _ (by decide) (by decide)).trans h.1, (g _ (by decide) (by decide)).trans h.2.1, fun q => ⟨(g _ (by decide) (by decide)).trans (h.2.2 q).1, (g _ (by decide) (by decide)).trans (h.2.2 q).2⟩⟩
theorem LQ_cg {w w' : zM} : ∀ (Q : zQ) (j a : Nat), (∀ b k, 10 ≤ b → b ≤ 13 → j ≤ k → k < j + Q.length → gI w' b k = gI w b k) → LQ w Q j a → LQ w' Q j a := by
  intro Q
  induction Q with
  | nil => exact fun _ _ _ _ => trivial
  | cons c Q ih =>
    intro j a g h
    have g' : ∀ b k, 10 ≤ b → b ≤ 13 → j ≤ k → k < j + (Q.length + 1) → gI w' b k = gI w b k := g
    exact ⟨CLq_cg (fun b h1 h2 => g' b j h1 h2 (Nat.le_refl _) (by omega)) h.1, ih (j + 1) _ (fun b k h1 h2 h3 h4 => g' b k h1 h2 (by omega) (by omega)) h.2⟩
theorem LQ_app {w : zM} (c : zC) : ∀ (Q : zQ) (j a : Nat), LQ w Q j a → CLq w (j + Q.length) c (a + (tkQ Q).length) → LQ w (Q ++ [c]) j a := by
  intro Q
  induction Q with
  | nil => exact fun j a _ h => ⟨h, trivial⟩
  | cons d Q ih =>
    intro j a h g
    refine ⟨h.1, ih (j + 1) _ h.2 ?_⟩
    have g' : CLq w (j + (Q.length + 1)) c (a + (tkCl d ++ tkQ Q).length) := g
    rw [List.length_append] at g'
    rw [show j + 1 + Q.length = j + (Q.length + 1) by omega, show a + (tkCl d).length + (tkQ Q).length = a + ((tkCl d).length + (tkQ Q).length) by omega]
    exact g'
def PT (f a k : Nat) : Prop := (a = 0 ∧ (k = 15 ∨ k = 16 ∨ k = 25 ∨ k = 26 ∨ k = 27)) ∨ (10 ≤ a ∧ a ≤ 13 ∧ 10 * f ≤ k ∧ k < 10 * f + 10) ∨ (a = 14 ∧ 100 * f ≤ k) ∨ a = 15 ∨ (a = 9 ∧ k = f)
theorem PT_C {f i : Nat} {w w' : zM} (hi : i < 10) (h : frP (PC (100 * f) (10 * f + i)) w w') : frP (PT f) w w' := frP_mono h (fun a k q => by unfold PC at q; unfold PT; omega)
theorem PT_15 {f : Nat} {w w' : zM} (h : frP P15 w w') : frP (PT f) w w' := frP_mono h (fun a k q => by unfold P15 at q; unfold PT; omega)
theorem txLM {tx : Nat → Nat} {n f : Nat} (ho : TxOk tx n) (hf : f < 6) : ∀ (j i fn : Nat) (w : zM) (p : Nat) (Q : zQ), i + j = 10 → 0 < j → j < fn → RG tx n w p (100 * f) (tkQ Q) → LQ w Q (10 * f) (100 * f) → szQ Q ≤ p → Q.length = i → p ≤ n → ((pTx tx n j p Q).1 = true → ∃ w', f_X9_goesText_L15 (nI f) fn (nI i) w = some ((1 : Int32), w') ∧ LQ w' (pTx tx n j p Q).2.2 (10 * f) (100 * f) ∧ AI w' 14 (tkQ (pTx tx n j p Q).2.2) (100 * f) ∧ gI w' 9 f = nI (pTx tx n j p Q).2.2.length ∧ gI w' 0 15 = nI (pTx tx n j p Q).2.1 ∧ frP (PT f) w w') ∧ ((pTx tx n j p Q).1 = false → ∃ w', f_X9_goesText_L15 (nI f) fn (nI i) w = some ((0 : Int32), w') ∧ gI w' 0 15 = nI (pTx tx n j p Q).2.1 ∧ frP (PT f) w w') := by
  intro j
  induction j with
  | zero => intro i fn w p Q hi hj; omega
  | succ j ih =>
    intro i fn w p Q hi hj hfn h hLQ hs hQl hp
    obtain ⟨fn, rfl⟩ : ∃ g, fn = g + 1 := ⟨fn - 1, by omega⟩
    have o1 := ho.1
    have htk := tkQ_len Q
    obtain ⟨m1, m2⟩ := clM (c := 10 * f + i) ho h hp (by omega) (by omega) (by omega)
    obtain ⟨r1, r2, r3⟩ := okCl (tx := tx) hp
    have hidx : (10 : Int32) * nI f + nI i = nI (10 * f + i) := by rw [q10, pk_mul, nI_add]
    have hstep : ∀ F, f_X9_takesClause (nI (10 * f + i)) w = F → f_X9_goesText_L15 (nI f) (fn + 1) (nI i) w = zb F fun y3 u4 => (if y3 = (0 : Int32) then some ((0 : Int32), u4) else zck (inB (nI f) 6) <| zlet (sI u4 9 (nI f).toNatClampNeg (nI i + (1 : Int32))) fun u5 => (if (gI u5 0 15) = (gI u5 0 14) then some ((1 : Int32), u5) else (if (nI i + (1 : Int32)) = (10 : Int32) then some ((0 : Int32), u5) else zb (f_X9_takes (59 : Int32) u5) fun y6 u7 => (if y6 = (0 : Int32) then some ((0 : Int32), u7) else f_X9_goesText_L15 (nI f) fn (nI i + (1 : Int32)) u7)))) := by
      intro F hF
      show f_X9_goesText_L15_b _ _ _ _ = _
      unfold f_X9_goesText_L15_b
      rw [hidx, hF]
    unfold pTx
    by_cases c1 : (pCl tx n p).1 = true
    · obtain ⟨r4, r5⟩ := r3 c1
      obtain ⟨w2, e2, R2, V2, F2⟩ := m1 c1
      have e := hstep _ e2
      rw [zb_s, if_neg (by decide), inB_n hf (by decide), zck_t, nI_cl (by omega), nI_a1, zlet_s] at e
      have R3 := RG_o (a := 9) (k := f) (x := nI (i + 1)) R2 (by omega)
      have F3 : frP (PT f) w (sI w2 9 f (nI (i + 1))) := frP_s (PT_C (by omega) F2) (Or.inr (Or.inr (Or.inr (Or.inr ⟨rfl, rfl⟩))))
      have L3 : LQ (sI w2 9 f (nI (i + 1))) (Q ++ [(pCl tx n p).2.2]) (10 * f) (100 * f) := by
        refine LQ_app _ Q _ _ (LQ_cg Q _ _ (fun b k h1 h2 h3 h4 => ?_) hLQ) ?_
        · rw [gI_sI, if_neg (by omega), F2.1 b k (by unfold PC; omega)]
        · rw [hQl]
          exact CLq_cg (fun b h1 h2 => by rw [gI_sI, if_neg (by omega)]) V2
      have V3 : gI (sI w2 9 f (nI (i + 1))) 9 f = nI (Q ++ [(pCl tx n p).2.2]).length := by
        rw [gI_sI, if_pos ⟨rfl, rfl⟩, List.length_append, hQl]
        rfl
      rw [← tkQ_app] at R3
      rw [R3.1.2.1, R3.1.1] at e
      generalize sI w2 9 f (nI (i + 1)) = w3 at e R3 F3 L3 V3
      rw [if_pos c1]
      by_cases c2 : (pCl tx n p).2.1 = n
      · rw [if_pos (by rw [c2])] at e
        rw [if_pos c2]
        refine ⟨fun _ => ⟨w3, e, L3, R3.2.2.1, V3, ?_, F3⟩, fun q => nope q rfl⟩
        show gI w3 0 15 = nI n
        rw [← c2]
        exact R3.1.2.1
      · rw [if_neg (fun q => c2 ((nI_eq (by omega) (by omega)).mp q))] at e
        rw [if_neg c2]
        by_cases c3 : j = 0
        · obtain rfl : i = 9 := by omega
          rw [if_pos (show nI (9 + 1) = (10 : Int32) from rfl)] at e
          rw [if_pos c3]
          exact ⟨fun q => nope q rfl, fun _ => ⟨w3, e, R3.1.2.1, F3⟩⟩
        · rw [if_neg (show ¬ nI (i + 1) = (10 : Int32) from fun q => c3 (by have := (nI_eq (b := 10) (by omega) (by decide)).mp q; omega)), takesM (c := 59) (C := 59) rfl (by decide) R3.1 ho r2] at e
          rw [if_neg c3]
          by_cases c4 : chT tx n (pCl tx n p).2.1 = 59
          · have l := ch_lt (tx := tx) (n := n) (p := (pCl tx n p).2.1) (by omega)
            rw [if_pos c4, zb_s, if_neg (by decide)] at e
            rw [if_pos c4]
            obtain ⟨g1, g2⟩ := ih (i + 1) fn _ ((pCl tx n p).2.1 + 1) (Q ++ [(pCl tx n p).2.2]) (by omega) (by omega) (by omega) (RG_15 R3 (fr15 w3 _) (RH_s R3.1)) (LQ_cg _ _ _ (fun b k h1 h2 h3 h4 => by rw [gI_sI, if_neg (by omega)]) L3) (by rw [szQ_app]; omega) (by rw [List.length_append, hQl]; rfl) (by omega)
            refine ⟨fun q => ?_, fun q => ?_⟩
            · obtain ⟨w4, e4, L4, A4, V4, P4, F4⟩ := g1 q
              exact ⟨w4, e.trans e4, L4, A4, V4, P4, frP_tr F3 (frP_tr (PT_15 (fr15 w3 _)) F4)⟩
            · obtain ⟨w4, e4, P4, F4⟩ := g2 q
              exact ⟨w4, e.trans e4, P4, frP_tr F3 (frP_tr (PT_15 (fr15 w3 _)) F4)⟩
          · rw [if_neg c4, zb_s, if_pos rfl] at e
            rw [if_neg c4]
            exact ⟨fun q => nope q rfl, fun _ => ⟨w3, e, R3.1.2.1, F3⟩⟩
    · have c1f : (pCl tx n p).1 = false := by simpa using c1
      obtain ⟨w2, e2, R2, F2⟩ := m2 c1f
      have e := hstep _ e2
      rw [zb_s, if_pos rfl] at e
      rw [if_neg c1]
      exact ⟨fun q => nope q rfl, fun _ => ⟨w2, e, R2, PT_C (by omega) F2⟩⟩
