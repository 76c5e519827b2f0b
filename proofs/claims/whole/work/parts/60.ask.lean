/-! ===== PURE: what is asked: of, told, piece, on ===== -/
def Core (k : Nat) (T : zT) (sqs : Nat → zQ) (uX w : zM) : Prop := VX 2 uX T ∧ VM 0 0 13 w T ∧ OkT k T ∧ T 0 3 ≤ 9999 ∧ OkS k sqs ∧ SqX k uX sqs ∧ SqM k w sqs
def afr (u u' : zM) : Prop := (∀ a k, a ≠ 12 → ¬ (49 ≤ a ∧ a ≤ 62) → gI u' a k = gI u a k) ∧ (∀ a k, gJ u' a k = gJ u a k) ∧ ∀ a k, ¬ (49 ≤ a ∧ a ≤ 62) → gO u' a k = gO u a k
theorem afr_rf (u : zM) : afr u u := ⟨fun _ _ _ _ => rfl, fun _ _ => rfl, fun _ _ _ => rfl⟩
theorem afr_tr {u v w : zM} (h : afr u v) (g : afr v w) : afr u w := ⟨fun a k p q => (g.1 a k p q).trans (h.1 a k p q), fun a k => (g.2.1 a k).trans (h.2.1 a k), fun a k q => (g.2.2 a k q).trans (h.2.2 a k q)⟩
theorem afr_x {u u' : zM} (h : xfr 51 u u') : afr u u' := ⟨fun a k _ q => h.1 a k (by omega), h.2.1, fun a k q => h.2.2 a k (by omega)⟩
theorem afr_c {u u' : zM} (h : cfr 12 u u') : afr u u' := ⟨fun a k q _ => h.1 a k q, h.2.1, fun a k _ => h.2.2 a k⟩
theorem afr_s (u : zM) {a j : Nat} {x : Int32} (ha : 49 ≤ a ∧ a ≤ 62) : afr u (sI u a j x) := ⟨fun b i _ q => by rw [gI_sI, if_neg (by omega)], fun _ _ => rfl, fun _ _ _ => rfl⟩
theorem VX_afr {u u' : zM} {T : zT} (h : VX 2 u T) (g : afr u u') : VX 2 u' T := VX_cg h (fun c i hc => g.1 _ _ (by omega) (by omega)) (g.2.2 _ _ (by omega))
theorem SqX_afr {k : Nat} {u u' : zM} {sqs : Nat → zQ} (h : SqX k u sqs) (g : afr u u') : SqX k u' sqs := SqX_cg h (fun a i ha => g.1 _ _ (by omega) (by omega))
theorem Core_ask {k : Nat} {T : zT} {sqs : Nat → zQ} {uX w uX' w' : zM} (h : Core k T sqs uX w) (g1 : afr uX uX') (g2 : rfr w w') : Core k T sqs uX' w' := by
  obtain ⟨h1, h2, h3, h4, h5, h6, h7⟩ := h
  exact ⟨VX_afr h1 g1, VM_rfr h2 h3 g2, h3, h4, h5, SqX_afr h6 g1, SqM_rfr g2 h7⟩
theorem rfr_p {w w' : zM} (h : pfr w w') : rfr w w' := ⟨fun a k _ _ q _ => h.1 a k (by omega), h.2.1, h.2.2⟩
/-- both answer the same and leave what stands -/
def Ask {α : Type} (fx fm : zM → Option (α × zM)) (uX w : zM) : Prop := ∃ r uX' w', fx uX = some (r, uX') ∧ fm w = some (r, w') ∧ afr uX uX' ∧ rfr w w'
theorem Ask_r {α : Type} {fx fm : zM → Option (α × zM)} {uX w : zM} (r : α) (h1 : fx uX = some (r, uX)) (h2 : fm w = some (r, w)) : Ask fx fm uX w := ⟨r, uX, w, h1, h2, afr_rf _, rfr_rf _⟩
theorem asN_n {x : Nat} (h : x ≤ 1) (u : zM) : f_X8_asNumber (nI x) u = some (nI x, u) := by
  have hc : x = 0 ∨ x = 1 := by omega
  rcases hc with rfl | rfl <;> rfl
theorem dn_le (T : zT) (i : Nat) : (if T 6 i ≤ T 8 i then 1 else 0) ≤ 1 := by split <;> omega
/-- an int is one of those told, or none of them -/
theorem nlit {p : Int32} (n : Nat) (hn : n < 2147483648) (h : p < 0 ∨ nI n ≤ p) (j : Nat) (hj : j < n) : ¬ p = nI j := by
  intro q
  subst q
  rcases h with h | h
  · exact nI_pos (by omega) h
  · exact nI_ge hj hn h
theorem of_ask {k : Nat} {T : zT} {sqs : Nat → zQ} {uX w : zM} (hc : Core k T sqs uX w) (p1 p2 : Int32) : Ask (f_X8_of p1 p2) (f_X9_of p1 p2) uX w := by
  obtain ⟨hX, hM, ho, hmn, hs, hqX, hqM⟩ := hc
  have hn := ho.1
  rcases nI_in_or (n := T 0 0) (by omega) p1 with ⟨i, hi, rfl⟩ | hp
  · have h1 := hasX_t hX ho hi
    have h2 := isM_t hM ho hi
    obtain ⟨x1, x2, x3, x4⟩ := hX.2.2.2.2.2.1 i hi
    obtain ⟨o1, o2, o3, o4⟩ := ho.2.2.2.2.2.1 i hi
    have y1 : gI w 1 i = nI (T 1 i) := (hM.2.2.2.2.2.1 i hi).1
    have y2 : gI w 2 i = nI (T 2 i) := (hM.2.2.2.2.2.1 i hi).2.1
    have y3 : gI w 3 i = nI (T 3 i) := (hM.2.2.2.2.2.1 i hi).2.2
    have y4 := hasM hM ho hi
    have hin : inB (nI i) 6 = true := inB_n (show i < 6 by omega) (by decide)
    have hcl : (nI i).toNatClampNeg = i := nI_cl (by omega)
    rcases nI_in_or (n := 6) (by decide) p2 with ⟨c, hcc, rfl⟩ | hp2
    · have h5 : c = 0 ∨ c = 1 ∨ c = 2 ∨ c = 3 ∨ c = 4 ∨ c = 5 := by omega
      rcases h5 with rfl | rfl | rfl | rfl | rfl | rfl
      · refine Ask_r (nI (T 1 i)) ?_ ?_
        · unfold f_X8_of
          rw [h1, zb_s, if_neg (by decide), if_pos (by decide), hin, zck_t, hcl, x1]
        · unfold f_X9_of
          rw [h2, zb_s, if_neg (by decide), if_pos (by decide), hin, zck_t, hcl, y1]
      · refine Ask_r (nI (T 2 i)) ?_ ?_
        · unfold f_X8_of
          rw [h1, zb_s, if_neg (by decide), if_neg (by decide), if_pos (by decide), hin, zck_t, hcl, x2]
        · unfold f_X9_of
          rw [h2, zb_s, if_neg (by decide), if_neg (by decide), if_pos (by decide), hin, zck_t, hcl, y2]
      · refine Ask_r (nI (T 3 i)) ?_ ?_
        · unfold f_X8_of
          rw [h1, zb_s, if_neg (by decide), if_neg (by decide), if_neg (by decide), if_pos (by decide), hin, zck_t, hcl, x3]
        · unfold f_X9_of
          rw [h2, zb_s, if_neg (by decide), if_neg (by decide), if_neg (by decide), if_pos (by decide), hin, zck_t, hcl, y3]
      · refine Ask_r (nI (T 4 i)) ?_ ?_
        · unfold f_X8_of
          rw [h1, zb_s, if_neg (by decide), if_neg (by decide), if_neg (by decide), if_neg (by decide), if_pos (by decide), hin, zck_t, hcl, x4, asN_n o4, zb_s]
        · unfold f_X9_of
          rw [h2, zb_s, if_neg (by decide), if_neg (by decide), if_neg (by decide), if_neg (by decide), if_pos (by decide), y4, zb_s]
          have hc : T 4 i = 0 ∨ T 4 i = 1 := by omega
          rcases hc with c | c <;> rw [c] <;> rfl
      · obtain ⟨u', r1, r2⟩ := riseX hX ho hs hqX (by decide) hi
        obtain ⟨w', s1, s2⟩ := riseM hM ho hs hqM hi
        refine ⟨riseT sqs T i, u', w', ?_, ?_, afr_c r1, rfr_p s1⟩
        · unfold f_X8_of
          rw [h1, zb_s, if_neg (by decide), if_neg (by decide), if_neg (by decide), if_neg (by decide), if_neg (by decide), if_pos (by decide), r2, zb_s]
        · unfold f_X9_of
          rw [h2, zb_s, if_neg (by decide), if_neg (by decide), if_neg (by decide), if_neg (by decide), if_neg (by decide), if_pos (by decide), s2, zb_s]
      · have b1 := besX hX ho hi (l := 50) (by decide)
        have b2 := besM hM ho hi (l := 50) (by decide)
        refine Ask_r (nI (besT T i 50)) ?_ ?_
        · unfold f_X8_of
          rw [h1, zb_s, if_neg (by decide), if_neg (by decide), if_neg (by decide), if_neg (by decide), if_neg (by decide), if_neg (by decide), if_pos (by decide), show (50 : Int32) = nI 50 from rfl, b1, zb_s]
        · unfold f_X9_of
          rw [h2, zb_s, if_neg (by decide), if_neg (by decide), if_neg (by decide), if_neg (by decide), if_neg (by decide), if_neg (by decide), if_pos (by decide), show (50 : Int32) = nI 50 from rfl, b2, zb_s]
    · have n0 : ¬ p2 = (0 : Int32) := nlit 6 (by decide) hp2 0 (by decide)
      have n1 : ¬ p2 = (1 : Int32) := nlit 6 (by decide) hp2 1 (by decide)
      have n2 : ¬ p2 = (2 : Int32) := nlit 6 (by decide) hp2 2 (by decide)
      have n3 : ¬ p2 = (3 : Int32) := nlit 6 (by decide) hp2 3 (by decide)
      have n4 : ¬ p2 = (4 : Int32) := nlit 6 (by decide) hp2 4 (by decide)
      have n5 : ¬ p2 = (5 : Int32) := nlit 6 (by decide) hp2 5 (by decide)
      refine Ask_r (-10001) ?_ ?_
      · unfold f_X8_of
        rw [h1, zb_s, if_neg (by decide), if_neg n0, if_neg n1, if_neg n2, if_neg n3, if_neg n4, if_neg n5]
      · unfold f_X9_of
        rw [h2, zb_s, if_neg (by decide), if_neg n0, if_neg n1, if_neg n2, if_neg n3, if_neg n4, if_neg n5]
  · refine Ask_r (-10001) ?_ ?_
    · unfold f_X8_of
      rw [hasX_f hX hp, zb_s, if_pos (by decide)]
    · unfold f_X9_of
      rw [isM_f hM ho hp, zb_s, if_pos (by decide)]
theorem orL {a : Nat} (h : a < 2147483648) (u : zM) : f_X8_orLacks (nI a - nI 1) u = some (mAn a, u) := by
  unfold f_X8_orLacks
  by_cases c : a = 0
  · subst c
    rfl
  · rw [pk_sub (show 1 ≤ a by omega), if_pos (nI_pos' (by omega)), mAn_s _ (by omega)]
theorem told_ask {k : Nat} {T : zT} {sqs : Nat → zQ} {uX w : zM} (hc : Core k T sqs uX w) (p1 : Int32) : Ask (f_X8_told p1) (f_X9_told p1) uX w := by
  obtain ⟨hX, hM, ho, hmn, hs, hqX, hqM⟩ := hc
  have hn := ho.1
  have hm := ho.2.1
  have ha := ho.2.2.1
  have hg := hotT_le T
  rcases nI_in_or (n := 6) (by decide) p1 with ⟨c, hcc, rfl⟩ | hp2
  · have h5 : c = 0 ∨ c = 1 ∨ c = 2 ∨ c = 3 ∨ c = 4 ∨ c = 5 := by omega
    unfold Ask f_X8_told f_X9_told
    rcases h5 with rfl | rfl | rfl | rfl | rfl | rfl
    · exact ⟨nI (T 0 3), uX, w, by rw [if_pos (by decide), hX.2.2.2.1], by rw [if_pos (by decide), show gI w 0 4 = nI (T 0 3) from hM.2.2.2.1], afr_rf _, rfr_rf _⟩
    · exact ⟨nI (spkT sqs T), uX, w, by rw [if_neg (by decide), if_pos (by decide), spkX hX ho hs hqX, zb_s], by rw [if_neg (by decide), if_pos (by decide), spkM hM ho hs hqM, zb_s], afr_rf _, rfr_rf _⟩
    · exact ⟨mAn (T 0 2), uX, w, by rw [if_neg (by decide), if_neg (by decide), if_pos (by decide), hX.2.2.1, orL (by omega), zb_s], by rw [if_neg (by decide), if_neg (by decide), if_pos (by decide), show gI w 0 3 = mAn (T 0 2) from hM.2.2.1], afr_rf _, rfr_rf _⟩
    · exact ⟨nI (dnT T), uX, w, by rw [if_neg (by decide), if_neg (by decide), if_neg (by decide), if_pos (by decide), dnX hX ho, zb_s], by rw [if_neg (by decide), if_neg (by decide), if_neg (by decide), if_pos (by decide), dnM hM ho, zb_s], afr_rf _, rfr_rf _⟩
    · exact ⟨mAn (hotT T), uX, w, by rw [if_neg (by decide), if_neg (by decide), if_neg (by decide), if_neg (by decide), if_pos (by decide), hotX hX ho, zb_s, orL (by omega), zb_s], by rw [if_neg (by decide), if_neg (by decide), if_neg (by decide), if_neg (by decide), if_pos (by decide), hotM hM ho, zb_s], afr_rf _, rfr_rf _⟩
    · exact ⟨nI (sumT T), uX, w, by rw [if_neg (by decide), if_neg (by decide), if_neg (by decide), if_neg (by decide), if_neg (by decide), if_pos (by decide), sumX hX ho, zb_s], by rw [if_neg (by decide), if_neg (by decide), if_neg (by decide), if_neg (by decide), if_neg (by decide), if_pos (by decide), sumM hM ho, zb_s], afr_rf _, rfr_rf _⟩
  · have n0 : ¬ p1 = (0 : Int32) := nlit 6 (by decide) hp2 0 (by decide)
    have n1 : ¬ p1 = (1 : Int32) := nlit 6 (by decide) hp2 1 (by decide)
    have n2 : ¬ p1 = (2 : Int32) := nlit 6 (by decide) hp2 2 (by decide)
    have n3 : ¬ p1 = (3 : Int32) := nlit 6 (by decide) hp2 3 (by decide)
    have n4 : ¬ p1 = (4 : Int32) := nlit 6 (by decide) hp2 4 (by decide)
    have n5 : ¬ p1 = (5 : Int32) := nlit 6 (by decide) hp2 5 (by decide)
    refine Ask_r (-1) ?_ ?_
    · unfold f_X8_told
      rw [if_neg n0, if_neg n1, if_neg n2, if_neg n3, if_neg n4, if_neg n5]
    · unfold f_X9_told
      rw [if_neg n0, if_neg n1, if_neg n2, if_neg n3, if_neg n4, if_neg n5]
/-- the minutes behind which a work is done -/
def rdT (sqs : Nat → zQ) (p : Nat) : Nat → Nat → zT → Int32
  | 0, _, _ => -5
  | j + 1, i, T => if T 6 p ≤ T 8 p then nI i else rdT sqs p j (i + 1) (stepT sqs T)
theorem rdX {k p : Nat} {sqs : Nat → zQ} (hs : OkS k sqs) : ∀ (j i fn : Nat) (u : zM) (T : zT), i + j = 61 → j < fn → VX 51 u T → OkT k T → p < T 0 1 → SqX k u sqs → T 0 3 + j ≤ 20000 → ∃ u', f_X1_minutesUntilDone_L21 (nI p) fn (nI i) u = some (rdT sqs p j i T, u') ∧ xfr 51 u u' := by
  intro j
  induction j with
  | zero =>
    intro i fn u T hi hf h ho hp hq hm
    obtain ⟨fn, rfl⟩ : ∃ g, fn = g + 1 := ⟨fn - 1, by omega⟩
    obtain rfl : i = 61 := by omega
    exact ⟨u, rfl, xfr_rf 51 u⟩
  | succ j ih =>
    intro i fn u T hi hf h ho hp hq hm
    obtain ⟨fn, rfl⟩ : ∃ g, fn = g + 1 := ⟨fn - 1, by omega⟩
    show ∃ u', f_X1_minutesUntilDone_L21_b _ _ _ _ = some ((if T 6 p ≤ T 8 p then nI i else rdT sqs p j (i + 1) (stepT sqs T)), u') ∧ _
    unfold f_X1_minutesUntilDone_L21_b
    rw [if_neg (show ¬ (60 : Int32) < nI i from nI_nlt (a := 60) (by omega) (by decide)), isDX h ho hp]
    by_cases c : T 6 p ≤ T 8 p
    · rw [if_pos c, if_pos c, zb_s, if_neg (by decide)]
      exact ⟨u, rfl, xfr_rf 51 u⟩
    · obtain ⟨u1, r1, r2, r3⟩ := minX h ho hs hq (by decide)
      obtain ⟨u', s1, s2⟩ := ih (i + 1) fn u1 (stepT sqs T) (by omega) (by omega) r2 (OkT_step ho (by omega)) hp (SqX_cg hq (fun a x hx => r3.1 _ _ (by omega))) (by show T 0 3 + 1 + j ≤ 20000; omega)
      rw [if_neg c, if_neg c, zb_s, if_pos (by decide), r1, zb_s, nI_a1]
      exact ⟨u', s1, xfr_tr r3 s2⟩
theorem rdM {k p : Nat} {sqs : Nat → zQ} (hs : OkS k sqs) {w0 : zM} : ∀ (j i fn : Nat) (w : zM) (T : zT), i + j = 61 → j < fn → VM 0 0 13 w T → OkT k T → p < T 0 1 → SqM k w sqs → T 0 3 + j ≤ 20000 → SV w0 w → ∃ w', f_X9_ready_L11 (nI p) fn (nI i) w = some (rdT sqs p j i T, w') ∧ rfr w0 w' := by
  intro j
  induction j with
  | zero =>
    intro i fn w T hi hf h ho hp hq hm hv
    obtain ⟨fn, rfl⟩ : ∃ g, fn = g + 1 := ⟨fn - 1, by omega⟩
    obtain rfl : i = 61 := by omega
    obtain ⟨w', r1, r2⟩ := backM hv
    refine ⟨w', ?_, r2⟩
    show f_X9_ready_L11_b _ _ _ _ = _
    unfold f_X9_ready_L11_b f_X9_ready_L35
    rw [if_pos (by decide), r1, zb_s, if_pos (by decide)]
    rfl
  | succ j ih =>
    intro i fn w T hi hf h ho hp hq hm hv
    obtain ⟨fn, rfl⟩ : ∃ g, fn = g + 1 := ⟨fn - 1, by omega⟩
    have hge : ¬ (61 : Int32) ≤ nI i := nI_ge (b := 61) (by omega) (by decide)
    show ∃ w', f_X9_ready_L11_b _ _ _ _ = some ((if T 6 p ≤ T 8 p then nI i else rdT sqs p j (i + 1) (stepT sqs T)), w') ∧ _
    unfold f_X9_ready_L11_b
    rw [if_neg hge, isDM h ho hp]
    by_cases c : T 6 p ≤ T 8 p
    · obtain ⟨w', r1, r2⟩ := backM hv
      rw [if_pos c, if_pos c, zb_s, if_neg (by decide)]
      unfold f_X9_ready_L35
      rw [r1, zb_s, if_neg hge]
      exact ⟨w', rfl, r2⟩
    · obtain ⟨w1, r1, r2, r3⟩ := minM h ho hs hq
      obtain ⟨w', s1, s2⟩ := ih (i + 1) fn w1 (stepT sqs T) (by omega) (by omega) r2 (OkT_step ho (by omega)) hp (SqM_mfr r3 hq) (by show T 0 3 + 1 + j ≤ 20000; omega) (SV_mfr hv r3)
      rw [if_neg c, if_neg c, zb_s, if_pos (by decide), r1, zb_s, nI_a1]
      exact ⟨w', s1, s2⟩
theorem OkT_anv {k a : Nat} {T : zT} (h : OkT k T) (ha : a ≤ T 0 1) : OkT k (tS T 0 2 a) := by
  obtain ⟨a1, a2, a3, a4, a5, a6, a7, a8⟩ := h
  exact ⟨a1, a2, ha, a4, a5, a6, a7, a8⟩
theorem VM_sv {w w1 : zM} {T : zT} (h : VM 0 0 13 w T) (g : ∀ a k, a ≠ 19 → a ≠ 20 → ¬ (a = 0 ∧ 31 ≤ k ∧ k ≤ 33) → gI w1 a k = gI w a k) : VM 0 0 13 w1 T := VM_cg h (fun x _ => g _ _ (by omega) (by omega) (by omega)) (g _ _ (by omega) (by omega) (by omega)) (fun c x h1 h2 => g _ _ (by omega) (by omega) (by omega))
theorem SqM_sv {k : Nat} {w w1 : zM} {sqs : Nat → zQ} (h : SqM k w sqs) (g : ∀ a k, a ≠ 19 → a ≠ 20 → ¬ (a = 0 ∧ 31 ≤ k ∧ k ≤ 33) → gI w1 a k = gI w a k) : SqM k w1 sqs := SqM_cg (fun a x h1 h2 => g _ _ (by omega) (by omega) (by omega)) h
theorem piece_ask {k : Nat} {T : zT} {sqs : Nat → zQ} {uX w : zM} (hc : Core k T sqs uX w) (p1 p2 : Int32) : Ask (f_X8_piece p1 p2) (f_X9_piece p1 p2) uX w := by
  obtain ⟨hX, hM, ho, hmn, hs, hqX, hqM⟩ := hc
  have hn := ho.2.1
  rcases nI_in_or (n := T 0 1) (by omega) p1 with ⟨i, hi, rfl⟩ | hp
  · have h1 := hasWX_t hX ho hi
    have h2 := isWM_t hM ho hi
    obtain ⟨x1, x2, x3⟩ := hX.2.2.2.2.2.2.2 i hi
    have y1 : gI w 5 i = nI (T 6 i) := (hM.2.2.2.2.2.2.2.1 i hi).1
    have y2 : gI w 6 i = nI (T 7 i) := (hM.2.2.2.2.2.2.2.1 i hi).2.1
    have y3 : gI w 7 i = nI (T 8 i) := (hM.2.2.2.2.2.2.2.1 i hi).2.2
    have hin : inB (nI i) 4 = true := inB_n (show i < 4 by omega) (by decide)
    have hcl : (nI i).toNatClampNeg = i := nI_cl (by omega)
    rcases nI_in_or (n := 5) (by decide) p2 with ⟨c, hcc, rfl⟩ | hp2
    · have h5 : c = 0 ∨ c = 1 ∨ c = 2 ∨ c = 3 ∨ c = 4 := by omega
      rcases h5 with rfl | rfl | rfl | rfl | rfl
      · refine Ask_r (nI (T 6 i)) ?_ ?_
        · unfold f_X8_piece
          rw [h1, zb_s, if_neg (by decide), if_pos (by decide), hin, zck_t, hcl, x1]
        · unfold f_X9_piece
          rw [h2, zb_s, if_neg (by decide), if_pos (by decide), hin, zck_t, hcl, y1]
      · refine Ask_r (nI (T 7 i)) ?_ ?_
        · unfold f_X8_piece
          rw [h1, zb_s, if_neg (by decide), if_neg (by decide), if_pos (by decide), hin, zck_t, hcl, x2]
        · unfold f_X9_piece
          rw [h2, zb_s, if_neg (by decide), if_neg (by decide), if_pos (by decide), hin, zck_t, hcl, y2]
      · refine Ask_r (nI (T 8 i)) ?_ ?_
        · unfold f_X8_piece
          rw [h1, zb_s, if_neg (by decide), if_neg (by decide), if_neg (by decide), if_pos (by decide), hin, zck_t, hcl, x3]
        · unfold f_X9_piece
          rw [h2, zb_s, if_neg (by decide), if_neg (by decide), if_neg (by decide), if_pos (by decide), hin, zck_t, hcl, y3]
      · refine Ask_r (nI (if T 6 i ≤ T 8 i then 1 else 0)) ?_ ?_
        · unfold f_X8_piece
          rw [h1, zb_s, if_neg (by decide), if_neg (by decide), if_neg (by decide), if_neg (by decide), if_pos (by decide), isDX hX ho hi, zb_s, asN_n (dn_le T i), zb_s]
        · unfold f_X9_piece
          rw [h2, zb_s, if_neg (by decide), if_neg (by decide), if_neg (by decide), if_neg (by decide), if_pos (by decide), isDM hM ho hi, zb_s]
          by_cases c : T 6 i ≤ T 8 i
          · rw [if_pos c]
            rfl
          · rw [if_neg c]
            rfl
      · obtain ⟨u1, a1, a2, a3⟩ := becX (t := 51) (by decide) hX ho hs.1
        have hV1 := VX_anv (a := i + 1) a2
        have hq1 : SqX k (sI u1 51 10 (nI (i + 1) - nI 1)) sqs := SqX_afr hqX (afr_tr (afr_x a3) (afr_s u1 (by decide)))
        have ho1 : OkT k (tS T 0 2 (i + 1)) := OkT_anv ho hi
        obtain ⟨u2, b1, b2⟩ := rdX hs 61 0 400 _ _ (by decide) (by decide) hV1 ho1 hi hq1 (by show T 0 3 + 61 ≤ 20000; omega)
        obtain ⟨w1, c1, c2, c3⟩ := saveM w
        have hVM1 := VM_anv (a := i + 1) (VM_sv hM c3)
        have hqM1 : SqM k (sI w1 0 3 (mAn (i + 1))) sqs := SqM_cg (fun a x h1 h2 => by rw [gI_sI, if_neg (by omega)]) (SqM_sv hqM c3)
        obtain ⟨w2, d1, d2⟩ := rdM hs 61 0 400 _ _ (by decide) (by decide) hVM1 ho1 hi hqM1 (by show T 0 3 + 61 ≤ 20000; omega) (SV_put c2 (by omega))
        refine ⟨rdT sqs i 61 0 (tS T 0 2 (i + 1)), u2, w2, ?_, ?_, afr_tr (afr_tr (afr_x a3) (afr_s u1 (by decide))) (afr_x b2), d2⟩
        · unfold f_X8_piece f_X1_minutesUntilDone
          rw [h1, zb_s, if_neg (by decide), if_neg (by decide), if_neg (by decide), if_neg (by decide), if_neg (by decide), if_pos (by decide), a1, zb_s, zlet_s]
          rw [show nI (i + 1) - nI 1 = nI i from nI_pred i] at b1
          rw [show (0 : Int32) = nI 0 from rfl, b1, zb_s]
        · unfold f_X9_piece f_X9_ready
          rw [h2, zb_s, if_neg (by decide), if_neg (by decide), if_neg (by decide), if_neg (by decide), if_neg (by decide), if_pos (by decide), c1, zb_s, zlet_s]
          rw [show mAn (i + 1) = nI i from mAn_s _ (Nat.succ_pos i)] at d1
          rw [show (0 : Int32) = nI 0 from rfl, d1, zb_s]
    · have n0 : ¬ p2 = (0 : Int32) := nlit 5 (by decide) hp2 0 (by decide)
      have n1 : ¬ p2 = (1 : Int32) := nlit 5 (by decide) hp2 1 (by decide)
      have n2 : ¬ p2 = (2 : Int32) := nlit 5 (by decide) hp2 2 (by decide)
      have n3 : ¬ p2 = (3 : Int32) := nlit 5 (by decide) hp2 3 (by decide)
      have n4 : ¬ p2 = (4 : Int32) := nlit 5 (by decide) hp2 4 (by decide)
      refine Ask_r (-1) ?_ ?_
      · unfold f_X8_piece
        rw [h1, zb_s, if_neg (by decide), if_neg n0, if_neg n1, if_neg n2, if_neg n3, if_neg n4]
      · unfold f_X9_piece
        rw [h2, zb_s, if_neg (by decide), if_neg n0, if_neg n1, if_neg n2, if_neg n3, if_neg n4]
  · refine Ask_r (-1) ?_ ?_
    · unfold f_X8_piece
      rw [hasWX_f hX hp, zb_s, if_pos (by decide)]
    · unfold f_X9_piece
      rw [isWM_f hM ho hp, zb_s, if_pos (by decide)]
