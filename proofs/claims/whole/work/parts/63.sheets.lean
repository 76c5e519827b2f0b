/-! ===== PURE: what is told by hand: seen, plan, book; looked, ends ===== -/
def frP (P : Nat → Nat → Prop) (u u' : zM) : Prop := (∀ a k, ¬ P a k → gI u' a k = gI u a k) ∧ (∀ a k, gJ u' a k = gJ u a k) ∧ ∀ a k, gO u' a k = gO u a k
theorem frP_rf (P : Nat → Nat → Prop) (u : zM) : frP P u u := ⟨fun _ _ _ => rfl, fun _ _ => rfl, fun _ _ => rfl⟩
theorem frP_s {P : Nat → Nat → Prop} {u u' : zM} {a k : Nat} {x : Int32} (h : frP P u u') (hp : P a k) : frP P u (sI u' a k x) := ⟨fun b j q => by rw [gI_sI, if_neg (fun e => q (by rw [e.1, e.2]; exact hp))]; exact h.1 b j q, h.2.1, h.2.2⟩
def SeeX (t : Nat) (u : zM) (S : zT) (z : Nat) : Prop := gI u t 3 = nI z ∧ ∀ i, i < z → gI u (t + 1) i = nI (S 0 i) ∧ gI u (t + 2) i = nI (S 1 i) ∧ gI u (t + 3) i = nI (S 2 i)
def SeeM (s a b c : Nat) (w : zM) (S : zT) (z : Nat) : Prop := gI w 0 s = nI z ∧ ∀ i, i < z → gI w a i = nI (S 0 i) ∧ gI w b i = nI (S 1 i) ∧ gI w c i = nI (S 2 i)
def SeeOk (N : Nat) (S : zT) (z : Nat) : Prop := z ≤ 5 ∧ ∀ i, i < z → S 0 i < N ∧ S 1 i ≤ 12 ∧ S 2 i ≤ 1
def PlX (t : Nat) (u : zM) (S : zT) (z : Nat) : Prop := gI u t 3 = nI z ∧ ∀ i, i < z → gI u (t + 1) i = nI (S 0 i) ∧ (S 0 i ≠ 0 → gI u (t + 2) i = nI (S 1 i))
def PlM (s a b : Nat) (w : zM) (S : zT) (z : Nat) : Prop := gI w 0 s = nI z ∧ ∀ i, i < z → gI w a i = nI (S 0 i) ∧ (S 0 i ≠ 0 → gI w b i = nI (S 1 i))
def PlOk (N M : Nat) (S : zT) (z : Nat) : Prop := z ≤ 10 ∧ ∀ i, i < z → S 0 i ≤ 3 ∧ (S 0 i = 1 ∨ S 0 i = 2 → S 1 i < N) ∧ (S 0 i = 3 → S 1 i < M)
def BkX (t : Nat) (u : zM) (S : zT) (z : Nat) : Prop := gI u t 3 = nI z ∧ ∀ i, i < z → gI u (t + 1) i = nI (S 0 i) ∧ gI u (t + 2) i = nI (S 1 i)
def BkM (s a b : Nat) (w : zM) (S : zT) (z : Nat) : Prop := gI w 0 s = nI z ∧ ∀ i, i < z → gI w a i = nI (S 0 i) ∧ gI w b i = nI (S 1 i)
def BkOk (N : Nat) (S : zT) (z : Nat) : Prop := z ≤ 8 ∧ ∀ i, i < z → S 0 i < N ∧ S 1 i ≤ 99
def shS (S : zT) (z a b c : Nat) : zT := fun r i => if i = z then (if r = 0 then a else if r = 1 then b else c) else S r i
theorem shS_0 (S : zT) (z a b c : Nat) : shS S z a b c 0 z = a := if_pos rfl
theorem shS_1 (S : zT) (z a b c : Nat) : shS S z a b c 1 z = b := if_pos rfl
theorem shS_2 (S : zT) (z a b c : Nat) : shS S z a b c 2 z = c := if_pos rfl
theorem shS_n (S : zT) {z i : Nat} (a b c r : Nat) (h : ¬ i = z) : shS S z a b c r i = S r i := if_neg h
theorem fullX {t n z : Nat} {u : zM} (h : gI u t 3 = nI z) (hz : z ≤ n) (hn : n < 100) : f_X3_isFull t n u = some (nI (if z = n then 1 else 0), u) := by
  unfold f_X3_isFull
  rw [h]
  by_cases c : z = n
  · rw [if_pos c, if_neg (show ¬ nI z < Int32.ofNat n from nI_nlt (by omega) (by omega))]
    rfl
  · rw [if_neg c, if_pos (show nI z < Int32.ofNat n from nI_lt (by omega) (by omega))]
    rfl
theorem addX {t n z : Nat} {u : zM} {p1 p2 p3 : Int32} (h : gI u t 3 = nI z) (hz : z < n) (hn : n < 100) : f_X3_add t n p1 p2 p3 u = some (nI (z + 1), sI (sI (sI (sI u (t + 1) z p1) (t + 2) z p2) (t + 3) z p3) t 3 (nI (z + 1))) := by
  unfold f_X3_add
  have g1 : gI (sI u (t + 1) z p1) t 3 = nI z := by rw [gI_sI, if_neg (by omega)]; exact h
  have g2 : gI (sI (sI u (t + 1) z p1) (t + 2) z p2) t 3 = nI z := by rw [gI_sI, if_neg (by omega)]; exact g1
  have g3 : gI (sI (sI (sI u (t + 1) z p1) (t + 2) z p2) (t + 3) z p3) t 3 = nI z := by rw [gI_sI, if_neg (by omega)]; exact g2
  have hc : (nI z).toNatClampNeg = z := nI_cl (by omega)
  have hi : inB (nI z) n = true := inB_n hz (by omega)
  rw [fullX h (by omega) hn, if_neg (show ¬ z = n by omega), zb_s, if_pos (by decide), h, hi, zck_t, hc, zlet_s, g1, hi, zck_t, hc, zlet_s, g2, hi, zck_t, hc, zlet_s, g3, zlet_s, nI_a1, gI_sI, if_pos ⟨rfl, rfl⟩]
theorem see_sim {k : Nat} {T : zT} {sqs : Nat → zQ} {uX w : zM} {S : zT} {z : Nat} (hc : Core k T sqs uX w) (hX : SeeX 13 uX S z) (hM : SeeM 38 23 24 25 w S z) (hS : SeeOk (T 0 0) S z) (p1 p2 p3 : Int32) (h3 : p3 = 0 ∨ p3 = 1) : ∃ r uX' w' S' z', f_X8_see p1 p2 p3 uX = some (r, uX') ∧ f_X9_see p1 p2 p3 w = some (r, w') ∧ SeeX 13 uX' S' z' ∧ SeeM 38 23 24 25 w' S' z' ∧ SeeOk (T 0 0) S' z' ∧ frP (fun a _ => 13 ≤ a ∧ a ≤ 16) uX uX' ∧ frP (fun a k => (23 ≤ a ∧ a ≤ 25) ∨ (a = 0 ∧ k = 38)) w w' := by
  obtain ⟨cX, cM, ho, hmn, hs, hqX, hqM⟩ := hc
  have hn := ho.1
  have hz5 := hS.1
  unfold f_X8_see f_X9_see
  by_cases hm1 : p1 = -1
  · rw [if_pos hm1, if_pos hm1]
    refine ⟨0, sI uX 13 3 0, sI w 0 38 0, S, 0, rfl, rfl, ⟨by rw [gI_sI, if_pos ⟨rfl, rfl⟩]; rfl, fun i hi => absurd hi (Nat.not_lt_zero i)⟩, ⟨by rw [gI_sI, if_pos ⟨rfl, rfl⟩]; rfl, fun i hi => absurd hi (Nat.not_lt_zero i)⟩, ⟨by omega, fun i hi => absurd hi (Nat.not_lt_zero i)⟩, frP_s (frP_rf _ _) (by omega), frP_s (frP_rf _ _) (by omega)⟩
  · rw [if_neg hm1, if_neg hm1]
    rcases nI_in_or (n := T 0 0) (by omega) p1 with ⟨p, hp, rfl⟩ | hp1
    · rw [hasX_t cX ho hp, isM_t cM ho hp, zb_s, zb_s, if_neg (by decide), if_neg (by decide)]
      rcases nI_in_or (n := 13) (by decide) p2 with ⟨n, hn13, rfl⟩ | hp2
      · rw [show f_X8_isWithin (nI n) 0 12 uX = some (1, uX) from wi_t (a := 0) (b := 12) (by omega) (by decide) _, show f_X9_in (nI n) 0 12 w = some (1, w) from in_t (a := 0) (b := 12) (by omega) (by decide) _, zb_s, zb_s, if1, if1, fullX hX.1 hz5 (by decide), zb_s, hM.1]
        by_cases c5 : z = 5
        · rw [if_pos c5, if_neg (by decide), if_pos (show nI z = (5 : Int32) by rw [c5]; rfl)]
          exact ⟨-4, uX, w, S, z, rfl, rfl, hX, hM, hS, frP_rf _ _, frP_rf _ _⟩
        · obtain ⟨b, hb, rfl⟩ : ∃ b : Nat, b ≤ 1 ∧ p3 = nI b := h3.elim (fun h => ⟨0, by omega, h⟩) (fun h => ⟨1, by omega, h⟩)
          have g1 : gI (sI w 23 z (nI p)) 0 38 = nI z := by rw [gI_sI, if_neg (by omega)]; exact hM.1
          have g2 : gI (sI (sI w 23 z (nI p)) 24 z (nI n)) 0 38 = nI z := by rw [gI_sI, if_neg (by omega)]; exact g1
          have g3 : gI (sI (sI (sI w 23 z (nI p)) 24 z (nI n)) 25 z (nI b)) 0 38 = nI z := by rw [gI_sI, if_neg (by omega)]; exact g2
          have hcl : (nI z).toNatClampNeg = z := nI_cl (by omega)
          have hi : inB (nI z) 5 = true := inB_n (by omega) (by decide)
          rw [if_neg c5, if_pos (by decide), if_neg (show ¬ nI z = (5 : Int32) from fun q => c5 ((nI_eq (b := 5) (by omega) (by decide)).mp q)), asN_n hb, zb_s, addX hX.1 (by omega) (by decide), zb_s, hi, zck_t, hcl, zlet_s, g1, hi, zck_t, hcl, zlet_s, g2, hi, zck_t, hcl, zlet_s, nar01 b hb, g3, zlet_s, nI_a1, gI_sI, if_pos ⟨rfl, rfl⟩]
          refine ⟨nI (z + 1), _, _, shS S z p n b, z + 1, rfl, rfl, ⟨by rw [gI_sI, if_pos ⟨rfl, rfl⟩], fun i hi => ?_⟩, ⟨by rw [gI_sI, if_pos ⟨rfl, rfl⟩], fun i hi => ?_⟩, ⟨by omega, fun i hi => ?_⟩, frP_s (frP_s (frP_s (frP_s (frP_rf _ _) (by omega)) (by omega)) (by omega)) (by omega), frP_s (frP_s (frP_s (frP_s (frP_rf _ _) (by omega)) (by omega)) (by omega)) (by omega)⟩
          · by_cases ci : i = z
            · subst ci
              refine ⟨?_, ?_, ?_⟩
              · rw [shS_0, gI_sI, if_neg (by omega), gI_sI, if_neg (by omega), gI_sI, if_neg (by omega), gI_sI, if_pos ⟨rfl, rfl⟩]
              · rw [shS_1, gI_sI, if_neg (by omega), gI_sI, if_neg (by omega), gI_sI, if_pos ⟨rfl, rfl⟩]
              · rw [shS_2, gI_sI, if_neg (by omega), gI_sI, if_pos ⟨rfl, rfl⟩]
            · obtain ⟨b1, b2, b3⟩ := hX.2 i (by omega)
              refine ⟨?_, ?_, ?_⟩ <;> rw [shS_n _ _ _ _ _ ci, gI_sI, if_neg (by omega), gI_sI, if_neg (by omega), gI_sI, if_neg (by omega), gI_sI, if_neg (by omega)] <;> assumption
          · by_cases ci : i = z
            · subst ci
              refine ⟨?_, ?_, ?_⟩
              · rw [shS_0, gI_sI, if_neg (by omega), gI_sI, if_neg (by omega), gI_sI, if_neg (by omega), gI_sI, if_pos ⟨rfl, rfl⟩]
              · rw [shS_1, gI_sI, if_neg (by omega), gI_sI, if_neg (by omega), gI_sI, if_pos ⟨rfl, rfl⟩]
              · rw [shS_2, gI_sI, if_neg (by omega), gI_sI, if_pos ⟨rfl, rfl⟩]
            · obtain ⟨b1, b2, b3⟩ := hM.2 i (by omega)
              refine ⟨?_, ?_, ?_⟩ <;> rw [shS_n _ _ _ _ _ ci, gI_sI, if_neg (by omega), gI_sI, if_neg (by omega), gI_sI, if_neg (by omega), gI_sI, if_neg (by omega)] <;> assumption
          · by_cases ci : i = z
            · subst ci
              refine ⟨?_, ?_, ?_⟩
              · rw [shS_0]
                exact hp
              · rw [shS_1]
                omega
              · rw [shS_2]
                exact hb
            · refine ⟨?_, ?_, ?_⟩ <;> rw [shS_n _ _ _ _ _ ci]
              · exact (hS.2 i (by omega)).1
              · exact (hS.2 i (by omega)).2.1
              · exact (hS.2 i (by omega)).2.2
      · rw [show f_X8_isWithin p2 0 12 uX = some (0, uX) from wi_f (n := 12) (by decide) hp2 _, show f_X9_in p2 0 12 w = some (0, w) from in_f (n := 12) (by decide) hp2 _, zb_s, zb_s, if0, if0]
        exact ⟨-2, uX, w, S, z, rfl, rfl, hX, hM, hS, frP_rf _ _, frP_rf _ _⟩
    · rw [hasX_f cX hp1, isM_f cM ho hp1, zb_s, zb_s, if_pos (by decide), if_pos (by decide)]
      exact ⟨-1, uX, w, S, z, rfl, rfl, hX, hM, hS, frP_rf _ _, frP_rf _ _⟩
theorem book_sim {k : Nat} {T : zT} {sqs : Nat → zQ} {uX w : zM} {S : zT} {z : Nat} (hc : Core k T sqs uX w) (hX : BkX 21 uX S z) (hM : BkM 43 28 29 w S z) (hS : BkOk (T 0 0) S z) (p1 p2 : Int32) : ∃ r uX' w' S' z', f_X8_book p1 p2 uX = some (r, uX') ∧ f_X9_book p1 p2 w = some (r, w') ∧ BkX 21 uX' S' z' ∧ BkM 43 28 29 w' S' z' ∧ BkOk (T 0 0) S' z' ∧ frP (fun a _ => 21 ≤ a ∧ a ≤ 24) uX uX' ∧ frP (fun a k => (28 ≤ a ∧ a ≤ 29) ∨ (a = 0 ∧ k = 43)) w w' := by
  obtain ⟨cX, cM, ho, hmn, hs, hqX, hqM⟩ := hc
  have hn := ho.1
  have hz5 := hS.1
  unfold f_X8_book f_X9_book f_X9_isHeat
  by_cases hm1 : p1 = -1
  · rw [if_pos hm1, if_pos hm1]
    refine ⟨0, sI uX 21 3 0, sI w 0 43 0, S, 0, rfl, rfl, ⟨by rw [gI_sI, if_pos ⟨rfl, rfl⟩]; rfl, fun i hi => absurd hi (Nat.not_lt_zero i)⟩, ⟨by rw [gI_sI, if_pos ⟨rfl, rfl⟩]; rfl, fun i hi => absurd hi (Nat.not_lt_zero i)⟩, ⟨by omega, fun i hi => absurd hi (Nat.not_lt_zero i)⟩, frP_s (frP_rf _ _) (by omega), frP_s (frP_rf _ _) (by omega)⟩
  · rw [if_neg hm1, if_neg hm1]
    rcases nI_in_or (n := T 0 0) (by omega) p1 with ⟨p, hp, rfl⟩ | hp1
    · rw [hasX_t cX ho hp, isM_t cM ho hp, zb_s, zb_s, if_neg (by decide), if_neg (by decide)]
      rcases nI_in_or (n := 100) (by decide) p2 with ⟨n, hn13, rfl⟩ | hp2
      · rw [show f_X8_isWithin (nI n) 0 99 uX = some (1, uX) from wi_t (a := 0) (b := 99) (by omega) (by decide) _, show f_X9_in (nI n) 0 99 w = some (1, w) from in_t (a := 0) (b := 99) (by omega) (by decide) _, zb_s, zb_s, if1, show z01 (1 : Int32) = true from rfl, zck_t, zb_s, if1, fullX hX.1 hz5 (by decide), zb_s, hM.1]
        by_cases c5 : z = 8
        · rw [if_pos c5, if_neg (by decide), if_pos (show nI z = (8 : Int32) by rw [c5]; rfl)]
          exact ⟨-4, uX, w, S, z, rfl, rfl, hX, hM, hS, frP_rf _ _, frP_rf _ _⟩
        · have g1 : gI (sI w 28 z (nI p)) 0 43 = nI z := by rw [gI_sI, if_neg (by omega)]; exact hM.1
          have g2 : gI (sI (sI w 28 z (nI p)) 29 z (nI n)) 0 43 = nI z := by rw [gI_sI, if_neg (by omega)]; exact g1
          have hcl : (nI z).toNatClampNeg = z := nI_cl (by omega)
          have hi : inB (nI z) 8 = true := inB_n (by omega) (by decide)
          rw [if_neg c5, if_pos (by decide), if_neg (show ¬ nI z = (8 : Int32) from fun q => c5 ((nI_eq (b := 8) (by omega) (by decide)).mp q)), addX hX.1 (by omega) (by decide), zb_s, hi, zck_t, hcl, zlet_s, g1, hi, zck_t, hcl, zlet_s, g2, zlet_s, nI_a1, gI_sI, if_pos ⟨rfl, rfl⟩]
          refine ⟨nI (z + 1), _, _, shS S z p n n, z + 1, rfl, rfl, ⟨by rw [gI_sI, if_pos ⟨rfl, rfl⟩], fun i hi => ?_⟩, ⟨by rw [gI_sI, if_pos ⟨rfl, rfl⟩], fun i hi => ?_⟩, ⟨by omega, fun i hi => ?_⟩, frP_s (frP_s (frP_s (frP_s (frP_rf _ _) (by omega)) (by omega)) (by omega)) (by omega), frP_s (frP_s (frP_s (frP_rf _ _) (by omega)) (by omega)) (by omega)⟩
          · by_cases ci : i = z
            · subst ci
              refine ⟨?_, ?_⟩
              · rw [shS_0, gI_sI, if_neg (by omega), gI_sI, if_neg (by omega), gI_sI, if_neg (by omega), gI_sI, if_pos ⟨rfl, rfl⟩]
              · rw [shS_1, gI_sI, if_neg (by omega), gI_sI, if_neg (by omega), gI_sI, if_pos ⟨rfl, rfl⟩]
            · obtain ⟨b1, b2⟩ := hX.2 i (by omega)
              refine ⟨?_, ?_⟩ <;> rw [shS_n _ _ _ _ _ ci, gI_sI, if_neg (by omega), gI_sI, if_neg (by omega), gI_sI, if_neg (by omega), gI_sI, if_neg (by omega)] <;> assumption
          · by_cases ci : i = z
            · subst ci
              refine ⟨?_, ?_⟩
              · rw [shS_0, gI_sI, if_neg (by omega), gI_sI, if_neg (by omega), gI_sI, if_pos ⟨rfl, rfl⟩]
              · rw [shS_1, gI_sI, if_neg (by omega), gI_sI, if_pos ⟨rfl, rfl⟩]
            · obtain ⟨b1, b2⟩ := hM.2 i (by omega)
              refine ⟨?_, ?_⟩ <;> rw [shS_n _ _ _ _ _ ci, gI_sI, if_neg (by omega), gI_sI, if_neg (by omega), gI_sI, if_neg (by omega)] <;> assumption
          · by_cases ci : i = z
            · subst ci
              refine ⟨?_, ?_⟩
              · rw [shS_0]
                exact hp
              · rw [shS_1]
                omega
            · refine ⟨?_, ?_⟩ <;> rw [shS_n _ _ _ _ _ ci]
              · exact (hS.2 i (by omega)).1
              · exact (hS.2 i (by omega)).2
      · rw [show f_X8_isWithin p2 0 99 uX = some (0, uX) from wi_f (n := 99) (by decide) hp2 _, show f_X9_in p2 0 99 w = some (0, w) from in_f (n := 99) (by decide) hp2 _, zb_s, zb_s, if0, show z01 (0 : Int32) = true from rfl, zck_t, zb_s, if0]
        exact ⟨-2, uX, w, S, z, rfl, rfl, hX, hM, hS, frP_rf _ _, frP_rf _ _⟩
    · rw [hasX_f cX hp1, isM_f cM ho hp1, zb_s, zb_s, if_pos (by decide), if_pos (by decide)]
      exact ⟨-1, uX, w, S, z, rfl, rfl, hX, hM, hS, frP_rf _ _, frP_rf _ _⟩
/-! plan -/
theorem plan_put {N M : Nat} {uX w : zM} {S : zT} {z a : Nat} {p2 : Int32} (hX : PlX 17 uX S z) (hM : PlM 42 26 27 w S z) (hS : PlOk N M S z) (ha : a ≤ 3) (h12 : a = 1 ∨ a = 2 → ∃ n, n < N ∧ p2 = nI n) (h3 : a = 3 → ∃ n, n < M ∧ p2 = nI n) : ∃ r uX' w' S' z', f_X8_plan_L80 (nI a) p2 uX = some (r, uX') ∧ f_X9_plan_L55 (nI a) p2 w = some (r, w') ∧ PlX 17 uX' S' z' ∧ PlM 42 26 27 w' S' z' ∧ PlOk N M S' z' ∧ frP (fun a _ => 17 ≤ a ∧ a ≤ 20) uX uX' ∧ frP (fun a k => (26 ≤ a ∧ a ≤ 27) ∨ (a = 0 ∧ k = 42)) w w' := by
  have hz5 := hS.1
  obtain ⟨n, hn⟩ : ∃ n, a ≠ 0 → p2 = nI n ∧ (a = 1 ∨ a = 2 → n < N) ∧ (a = 3 → n < M) := by
    by_cases c : a = 1 ∨ a = 2
    · obtain ⟨n, q1, q2⟩ := h12 c
      exact ⟨n, fun _ => ⟨q2, fun _ => q1, fun q => absurd q (by omega)⟩⟩
    · by_cases c3 : a = 3
      · obtain ⟨n, q1, q2⟩ := h3 c3
        exact ⟨n, fun _ => ⟨q2, fun q => absurd q (by omega), fun _ => q1⟩⟩
      · exact ⟨0, fun q => absurd q (by omega)⟩
  unfold f_X8_plan_L80 f_X9_plan_L55
  rw [fullX hX.1 hz5 (by decide), zb_s, hM.1]
  by_cases c5 : z = 10
  · rw [if_pos c5, if_neg (by decide), if_pos (show nI z = (10 : Int32) by rw [c5]; rfl)]
    exact ⟨-4, uX, w, S, z, rfl, rfl, hX, hM, hS, frP_rf _ _, frP_rf _ _⟩
  · have hcl : (nI z).toNatClampNeg = z := nI_cl (by omega)
    have hi : inB (nI z) 10 = true := inB_n (by omega) (by decide)
    have g1 : gI (sI w 26 z (nI a)) 0 42 = nI z := by rw [gI_sI, if_neg (by omega)]; exact hM.1
    have hM2 : ∀ x : Int32, f_X9_plan_L94 (nI a) p2 (nI z) x (sI w 26 z (nI a)) = some (nI (z + 1), sI (sI (sI w 26 z (nI a)) 27 z x) 0 42 (nI (z + 1))) := by
      intro x
      unfold f_X9_plan_L94
      rw [hi, zck_t, zlet_s, hcl, gI_sI, if_neg (by omega), g1, zlet_s, gI_sI, if_pos ⟨rfl, rfl⟩, nI_a1]
    have hpos : (if nI a ≤ (0 : Int32) then f_X9_plan_L94 (nI a) p2 (nI z) (0 : Int32) (sI w 26 z (nI a)) else f_X9_plan_L94 (nI a) p2 (nI z) p2 (sI w 26 z (nI a))) = some (nI (z + 1), sI (sI (sI w 26 z (nI a)) 27 z (if a = 0 then 0 else p2)) 0 42 (nI (z + 1))) := by
      by_cases c0 : a = 0
      · rw [if_pos c0, if_pos (show nI a ≤ (0 : Int32) by rw [c0]; decide), hM2]
      · rw [if_neg c0, if_neg (show ¬ nI a ≤ (0 : Int32) from nI_nle (by omega) (by omega)), hM2]
    rw [if_neg c5, if_pos (by decide), if_neg (show ¬ nI z = (10 : Int32) from fun q => c5 ((nI_eq (b := 10) (by omega) (by decide)).mp q)), addX hX.1 (by omega) (by decide), zb_s, hi, zck_t, hcl, zlet_s, g1, hpos]
    refine ⟨nI (z + 1), _, _, shS S z a n n, z + 1, rfl, rfl, ⟨by rw [gI_sI, if_pos ⟨rfl, rfl⟩], fun i hi => ?_⟩, ⟨by rw [gI_sI, if_pos ⟨rfl, rfl⟩], fun i hi => ?_⟩, ⟨by omega, fun i hi => ?_⟩, frP_s (frP_s (frP_s (frP_s (frP_rf _ _) (by omega)) (by omega)) (by omega)) (by omega), frP_s (frP_s (frP_s (frP_rf _ _) (by omega)) (by omega)) (by omega)⟩
    · by_cases ci : i = z
      · subst ci
        refine ⟨?_, fun q => ?_⟩
        · rw [shS_0, gI_sI, if_neg (by omega), gI_sI, if_neg (by omega), gI_sI, if_neg (by omega), gI_sI, if_pos ⟨rfl, rfl⟩]
        · rw [shS_0] at q
          rw [shS_1, gI_sI, if_neg (by omega), gI_sI, if_neg (by omega), gI_sI, if_pos ⟨rfl, rfl⟩]
          exact (hn q).1
      · obtain ⟨b1, b2⟩ := hX.2 i (by omega)
        refine ⟨?_, fun q => ?_⟩
        · rw [shS_n _ _ _ _ _ ci, gI_sI, if_neg (by omega), gI_sI, if_neg (by omega), gI_sI, if_neg (by omega), gI_sI, if_neg (by omega)]
          exact b1
        · rw [shS_n _ _ _ _ _ ci] at q
          rw [shS_n _ _ _ _ _ ci, gI_sI, if_neg (by omega), gI_sI, if_neg (by omega), gI_sI, if_neg (by omega), gI_sI, if_neg (by omega)]
          exact b2 q
    · by_cases ci : i = z
      · subst ci
        refine ⟨?_, fun q => ?_⟩
        · rw [shS_0, gI_sI, if_neg (by omega), gI_sI, if_neg (by omega), gI_sI, if_pos ⟨rfl, rfl⟩]
        · rw [shS_0] at q
          rw [shS_1, gI_sI, if_neg (by omega), gI_sI, if_pos ⟨rfl, rfl⟩, if_neg q]
          exact (hn q).1
      · obtain ⟨b1, b2⟩ := hM.2 i (by omega)
        refine ⟨?_, fun q => ?_⟩
        · rw [shS_n _ _ _ _ _ ci, gI_sI, if_neg (by omega), gI_sI, if_neg (by omega), gI_sI, if_neg (by omega)]
          exact b1
        · rw [shS_n _ _ _ _ _ ci] at q
          rw [shS_n _ _ _ _ _ ci, gI_sI, if_neg (by omega), gI_sI, if_neg (by omega), gI_sI, if_neg (by omega)]
          exact b2 q
    · by_cases ci : i = z
      · subst ci
        refine ⟨?_, fun q => ?_, fun q => ?_⟩
        · rw [shS_0]
          exact ha
        · rw [shS_0] at q
          rw [shS_1]
          exact (hn (by omega)).2.1 q
        · rw [shS_0] at q
          rw [shS_1]
          exact (hn (by omega)).2.2 q
      · rw [shS_n _ _ _ _ _ ci, shS_n _ _ _ _ _ ci]
        exact hS.2 i (by omega)
theorem plan_sim {k : Nat} {T : zT} {sqs : Nat → zQ} {uX w : zM} {S : zT} {z : Nat} (hc : Core k T sqs uX w) (hX : PlX 17 uX S z) (hM : PlM 42 26 27 w S z) (hS : PlOk (T 0 0) (T 0 1) S z) (p1 p2 : Int32) : ∃ r uX' w' S' z', f_X8_plan p1 p2 uX = some (r, uX') ∧ f_X9_plan p1 p2 w = some (r, w') ∧ PlX 17 uX' S' z' ∧ PlM 42 26 27 w' S' z' ∧ PlOk (T 0 0) (T 0 1) S' z' ∧ frP (fun a _ => 17 ≤ a ∧ a ≤ 20) uX uX' ∧ frP (fun a k => (26 ≤ a ∧ a ≤ 27) ∨ (a = 0 ∧ k = 42)) w w' := by
  obtain ⟨cX, cM, ho, hmn, hs, hqX, hqM⟩ := hc
  have hn := ho.1
  have hm := ho.2.1
  have non : ∀ {fx fm : zM → Option (Int32 × zM)}, fx uX = some (-1, uX) → fm w = some (-1, w) → ∃ r uX' w' S' z', fx uX = some (r, uX') ∧ fm w = some (r, w') ∧ PlX 17 uX' S' z' ∧ PlM 42 26 27 w' S' z' ∧ PlOk (T 0 0) (T 0 1) S' z' ∧ frP (fun a _ => 17 ≤ a ∧ a ≤ 20) uX uX' ∧ frP (fun a k => (26 ≤ a ∧ a ≤ 27) ∨ (a = 0 ∧ k = 42)) w w' := fun h1 h2 => ⟨-1, uX, w, S, z, h1, h2, hX, hM, hS, frP_rf _ _, frP_rf _ _⟩
  by_cases hm1 : p1 = -1
  · unfold f_X8_plan f_X9_plan
    rw [if_pos hm1, if_pos hm1]
    refine ⟨0, sI uX 17 3 0, sI w 0 42 0, S, 0, rfl, rfl, ⟨by rw [gI_sI, if_pos ⟨rfl, rfl⟩]; rfl, fun i hi => absurd hi (Nat.not_lt_zero i)⟩, ⟨by rw [gI_sI, if_pos ⟨rfl, rfl⟩]; rfl, fun i hi => absurd hi (Nat.not_lt_zero i)⟩, ⟨by omega, fun i hi => absurd hi (Nat.not_lt_zero i)⟩, frP_s (frP_rf _ _) (by omega), frP_s (frP_rf _ _) (by omega)⟩
  · rcases nI_in_or (n := 4) (by decide) p1 with ⟨a, ha, rfl⟩ | hp1
    · have h4 : a = 0 ∨ a = 1 ∨ a = 2 ∨ a = 3 := by omega
      rcases h4 with rfl | rfl | rfl | rfl
      · have h := plan_put (a := 0) (p2 := p2) hX hM hS (by decide) (fun q => absurd q (by decide)) (fun q => absurd q (by decide))
        obtain ⟨r, u', w', S', z', h1, h2, h3⟩ := h
        refine ⟨r, u', w', S', z', ?_, ?_, h3⟩
        · exact h1
        · exact h2
      · rcases nI_in_or (n := T 0 0) (by omega) p2 with ⟨n, hn2, rfl⟩ | hp2
        · obtain ⟨r, u', w', S', z', h1, h2, h3⟩ := plan_put (a := 1) (p2 := nI n) hX hM hS (by decide) (fun _ => ⟨n, hn2, rfl⟩) (fun q => absurd q (by decide))
          refine ⟨r, u', w', S', z', ?_, ?_, h3⟩
          · unfold f_X8_plan f_X8_plan_L31 f_X8_plan_L47 f_X8_plan_L62
            rw [if_neg (by decide), if_pos (by decide), if_neg (by decide), if_neg (by decide), if_neg (by decide), hasX_t cX ho hn2, zb_s, if_neg (by decide), if_neg (by decide)]
            exact h1
          · unfold f_X9_plan f_X9_plan_L40
            rw [if_neg (by decide), show f_X9_in (nI 1) 0 3 w = some (1, w) from in_t (a := 0) (b := 3) (by omega) (by decide) _, zb_s, if1, show f_X9_in (nI 1) 1 2 w = some (1, w) from in_t (a := 1) (b := 2) (by omega) (by decide) _, zb_s, if1, isM_t cM ho hn2, zb_s, if_neg (by decide), if_neg (by decide)]
            exact h2
        · refine non ?_ ?_
          · unfold f_X8_plan f_X8_plan_L31 f_X8_plan_L47 f_X8_plan_L62
            rw [if_neg (by decide), if_pos (by decide), if_neg (by decide), if_neg (by decide), if_neg (by decide), hasX_f cX hp2, zb_s, if_pos (by decide)]
          · unfold f_X9_plan f_X9_plan_L40
            rw [if_neg (by decide), show f_X9_in (nI 1) 0 3 w = some (1, w) from in_t (a := 0) (b := 3) (by omega) (by decide) _, zb_s, if1, show f_X9_in (nI 1) 1 2 w = some (1, w) from in_t (a := 1) (b := 2) (by omega) (by decide) _, zb_s, if1, isM_f cM ho hp2, zb_s, if_pos (by decide)]
      · rcases nI_in_or (n := T 0 0) (by omega) p2 with ⟨n, hn2, rfl⟩ | hp2
        · obtain ⟨r, u', w', S', z', h1, h2, h3⟩ := plan_put (a := 2) (p2 := nI n) hX hM hS (by decide) (fun _ => ⟨n, hn2, rfl⟩) (fun q => absurd q (by decide))
          refine ⟨r, u', w', S', z', ?_, ?_, h3⟩
          · unfold f_X8_plan f_X8_plan_L31 f_X8_plan_L47 f_X8_plan_L62
            rw [if_neg (by decide), if_neg (by decide), if_pos (by decide), if_neg (by decide), if_neg (by decide), if_neg (by decide), hasX_t cX ho hn2, zb_s, if_neg (by decide), if_neg (by decide)]
            exact h1
          · unfold f_X9_plan f_X9_plan_L40
            rw [if_neg (by decide), show f_X9_in (nI 2) 0 3 w = some (1, w) from in_t (a := 0) (b := 3) (by omega) (by decide) _, zb_s, if1, show f_X9_in (nI 2) 1 2 w = some (1, w) from in_t (a := 1) (b := 2) (by omega) (by decide) _, zb_s, if1, isM_t cM ho hn2, zb_s, if_neg (by decide), if_neg (by decide)]
            exact h2
        · refine non ?_ ?_
          · unfold f_X8_plan f_X8_plan_L31 f_X8_plan_L47 f_X8_plan_L62
            rw [if_neg (by decide), if_neg (by decide), if_pos (by decide), if_neg (by decide), if_neg (by decide), if_neg (by decide), hasX_f cX hp2, zb_s, if_pos (by decide)]
          · unfold f_X9_plan f_X9_plan_L40
            rw [if_neg (by decide), show f_X9_in (nI 2) 0 3 w = some (1, w) from in_t (a := 0) (b := 3) (by omega) (by decide) _, zb_s, if1, show f_X9_in (nI 2) 1 2 w = some (1, w) from in_t (a := 1) (b := 2) (by omega) (by decide) _, zb_s, if1, isM_f cM ho hp2, zb_s, if_pos (by decide)]
      · rcases nI_in_or (n := T 0 1) (by omega) p2 with ⟨n, hn2, rfl⟩ | hp2
        · obtain ⟨r, u', w', S', z', h1, h2, h3⟩ := plan_put (a := 3) (p2 := nI n) hX hM hS (by decide) (fun q => absurd q (by decide)) (fun _ => ⟨n, hn2, rfl⟩)
          refine ⟨r, u', w', S', z', ?_, ?_, h3⟩
          · unfold f_X8_plan f_X8_plan_L31 f_X8_plan_L47 f_X8_plan_L62
            rw [if_neg (by decide), if_neg (by decide), if_neg (by decide), if_neg (by decide), if_pos (by decide), if_pos (by decide), if_pos (by decide), if_pos (by decide), hasWX_t cX ho hn2, zb_s, if_neg (by decide)]
            exact h1
          · unfold f_X9_plan f_X9_plan_L40
            rw [if_neg (by decide), show f_X9_in (nI 3) 0 3 w = some (1, w) from in_t (a := 0) (b := 3) (by omega) (by decide) _, zb_s, if1, show f_X9_in (nI 3) 1 2 w = some (0, w) from by rw [f_in]; rfl, zb_s, if0, if_pos (by decide), isWM_t cM ho hn2, zb_s, if_neg (by decide)]
            exact h2
        · refine non ?_ ?_
          · unfold f_X8_plan f_X8_plan_L31 f_X8_plan_L47 f_X8_plan_L62
            rw [if_neg (by decide), if_neg (by decide), if_neg (by decide), if_neg (by decide), if_pos (by decide), if_pos (by decide), if_pos (by decide), if_pos (by decide), hasWX_f cX hp2, zb_s, if_pos (by decide)]
          · unfold f_X9_plan f_X9_plan_L40
            rw [if_neg (by decide), show f_X9_in (nI 3) 0 3 w = some (1, w) from in_t (a := 0) (b := 3) (by omega) (by decide) _, zb_s, if1, show f_X9_in (nI 3) 1 2 w = some (0, w) from by rw [f_in]; rfl, zb_s, if0, if_pos (by decide), isWM_f cM ho hp2, zb_s, if_pos (by decide)]
    · have n0 : ¬ p1 = (0 : Int32) := nlit 4 (by decide) hp1 0 (by decide)
      have n1 : ¬ p1 = (1 : Int32) := nlit 4 (by decide) hp1 1 (by decide)
      have n2 : ¬ p1 = (2 : Int32) := nlit 4 (by decide) hp1 2 (by decide)
      have n3 : ¬ p1 = (3 : Int32) := nlit 4 (by decide) hp1 3 (by decide)
      refine non ?_ ?_
      · unfold f_X8_plan f_X8_plan_L31
        rw [if_neg hm1, if_neg n1, if_neg n2, if_neg n0, if_pos (by decide), if_neg n3]
      · unfold f_X9_plan
        rw [if_neg hm1, show f_X9_in p1 0 3 w = some (0, w) from in_f (n := 3) (by decide) hp1 _, zb_s, if0]
theorem looked_ask {k : Nat} {T : zT} {sqs : Nat → zQ} {uX w : zM} {S : zT} {z : Nat} (hc : Core k T sqs uX w) (hX : BkX 21 uX S z) (hM : BkM 43 28 29 w S z) (hS : BkOk (T 0 0) S z) : Ask f_X8_looked f_X9_looked uX w := by
  obtain ⟨cX, cM, ho, hmn, hs, hqX, hqM⟩ := hc
  have hn := ho.1
  have hz := hS.1
  have hl : ∀ j i fx fm, i + j = z → j < fx → j < fm → ∃ r, f_X8_looked_L10 fx (nI i) uX = some (r, uX) ∧ f_X9_looked_L2 fm (nI i) w = some (r, w) := by
    intro j
    induction j with
    | zero =>
      intro i fx fm hi h1 h2
      obtain ⟨fx, rfl⟩ : ∃ g, fx = g + 1 := ⟨fx - 1, by omega⟩
      obtain ⟨fm, rfl⟩ : ∃ g, fm = g + 1 := ⟨fm - 1, by omega⟩
      refine ⟨-5, ?_, ?_⟩
      · show f_X8_looked_L10_b _ _ _ = _
        unfold f_X8_looked_L10_b
        rw [hX.1, if_pos (nI_le (by omega) (by omega))]
      · show f_X9_looked_L2_b _ _ _ = _
        unfold f_X9_looked_L2_b
        rw [hM.1, if_pos (nI_le (by omega) (by omega))]
    | succ j ih =>
      intro i fx fm hi h1 h2
      obtain ⟨fx, rfl⟩ : ∃ g, fx = g + 1 := ⟨fx - 1, by omega⟩
      obtain ⟨fm, rfl⟩ : ∃ g, fm = g + 1 := ⟨fm - 1, by omega⟩
      obtain ⟨x1, x2⟩ := hX.2 i (by omega)
      obtain ⟨m1, m2⟩ := hM.2 i (by omega)
      obtain ⟨s1, s2⟩ := hS.2 i (by omega)
      have e5 : gI uX 5 (S 0 i) = nI (T 3 (S 0 i)) := (cX.2.2.2.2.2.1 _ s1).2.2.1
      have e3 : gI w 3 (S 0 i) = nI (T 3 (S 0 i)) := (cM.2.2.2.2.2.1 _ s1).2.2
      have o3 := (ho.2.2.2.2.2.1 _ s1).2.2.1
      obtain ⟨r, r1, r2⟩ := ih (i + 1) fx fm (by omega) (by omega) (by omega)
      have hcl : (nI i).toNatClampNeg = i := nI_cl (by omega)
      have hin : inB (nI i) 8 = true := inB_n (by omega) (by decide)
      have hcs : (nI (S 0 i)).toNatClampNeg = S 0 i := nI_cl (by omega)
      have his : inB (nI (S 0 i)) 6 = true := inB_n (by omega) (by decide)
      have eX : f_X8_looked_L10 (fx + 1) (nI i) uX = if nI (T 3 (S 0 i)) = nI (S 1 i) then f_X8_looked_L10 fx (nI (i + 1)) uX else some (nI i, uX) := by
        show f_X8_looked_L10_b _ _ _ = _
        unfold f_X8_looked_L10_b
        rw [hX.1, if_neg (nI_ge (by omega) (by omega)), hin, zck_t, hcl, x1, zlx_s, hasX_t cX ho s1, zb_s, if_neg (by decide), his, zck_t, zck_t, hcs, e5, x2, nI_a1]
      have eM : f_X9_looked_L2 (fm + 1) (nI i) w = if nI (T 3 (S 0 i)) = nI (S 1 i) then f_X9_looked_L2 fm (nI (i + 1)) w else some (nI i, w) := by
        show f_X9_looked_L2_b _ _ _ = _
        unfold f_X9_looked_L2_b
        rw [hM.1, if_neg (nI_ge (by omega) (by omega)), hin, zck_t, hcl, m1, his, zck_t, zck_t, hcs, e3, m2, nI_a1]
      rw [eX, eM]
      by_cases c : nI (T 3 (S 0 i)) = nI (S 1 i)
      · rw [if_pos c, if_pos c]
        exact ⟨r, r1, r2⟩
      · rw [if_neg c, if_neg c]
        exact ⟨nI i, rfl, rfl⟩
  obtain ⟨r, r1, r2⟩ := hl z 0 400 400 (by omega) (by omega) (by omega)
  exact Ask_r r r1 r2
