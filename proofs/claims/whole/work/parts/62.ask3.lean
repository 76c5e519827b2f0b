/-! ===== PURE: odds, talk ===== -/
def XC (k : Nat) (T : zT) (sqs : Nat → zQ) (u : zM) : Prop := VX 2 u T ∧ OkT k T ∧ T 0 3 ≤ 9999 ∧ OkS k sqs ∧ SqX k u sqs
def MC (k : Nat) (T : zT) (sqs : Nat → zQ) (w : zM) : Prop := VM 0 0 13 w T ∧ OkT k T ∧ T 0 3 ≤ 9999 ∧ OkS k sqs ∧ SqM k w sqs
theorem Core_X {k : Nat} {T : zT} {sqs : Nat → zQ} {uX w : zM} (h : Core k T sqs uX w) : XC k T sqs uX := ⟨h.1, h.2.2.1, h.2.2.2.1, h.2.2.2.2.1, h.2.2.2.2.2.1⟩
theorem Core_M {k : Nat} {T : zT} {sqs : Nat → zQ} {uX w : zM} (h : Core k T sqs uX w) : MC k T sqs w := ⟨h.2.1, h.2.2.1, h.2.2.2.1, h.2.2.2.2.1, h.2.2.2.2.2.2⟩
theorem XC_afr {k : Nat} {T : zT} {sqs : Nat → zQ} {u u' : zM} (h : XC k T sqs u) (g : afr u u') : XC k T sqs u' := ⟨VX_afr h.1 g, h.2.1, h.2.2.1, h.2.2.2.1, SqX_afr h.2.2.2.2 g⟩
theorem MC_rfr {k : Nat} {T : zT} {sqs : Nat → zQ} {w w' : zM} (h : MC k T sqs w) (g : rfr w w') : MC k T sqs w' := ⟨VM_rfr h.1 h.2.1 g, h.2.1, h.2.2.1, h.2.2.2.1, SqM_rfr g h.2.2.2.2⟩
def wrN (a x : Nat) : Nat := if a + x < 99 then a + x else 99
theorem wrN_le (a x : Nat) : wrN a x ≤ 99 := by unfold wrN; split <;> omega
def warmT (T : zT) (p x : Nat) : zT := tS (tS T 0 2 0) 3 p (wrN (T 3 p) x)
theorem OkT_put3 {k p x : Nat} {T : zT} (h : OkT k T) (hx : x ≤ 99) : OkT k (tS T 3 p x) := by
  obtain ⟨a1, a2, a3, a4, a5, a6, a7, a8⟩ := h
  refine ⟨a1, a2, a3, a4, a5, fun i hi => ?_, a7, a8⟩
  obtain ⟨b1, b2, b3, b4⟩ := a6 i hi
  refine ⟨b1, b2, ?_, b4⟩
  rw [tS_ap]
  split
  · exact hx
  · exact b3
theorem OkT_put2 {k p x : Nat} {T : zT} (h : OkT k T) (hx : x ≤ 9) : OkT k (tS T 2 p x) := by
  obtain ⟨a1, a2, a3, a4, a5, a6, a7, a8⟩ := h
  refine ⟨a1, a2, a3, a4, a5, fun i hi => ?_, a7, a8⟩
  obtain ⟨b1, b2, b3, b4⟩ := a6 i hi
  refine ⟨b1, ?_, b3, b4⟩
  rw [tS_ap]
  split
  · exact hx
  · exact b2
theorem OkT_warm {k p x : Nat} {T : zT} (h : OkT k T) : OkT k (warmT T p x) := OkT_put3 (OkT_anv h (Nat.zero_le _)) (wrN_le _ _)
theorem wrN_eq {a x : Nat} (ha : a ≤ 99) (hx : x ≤ 99) : (if nI a + nI x < (99 : Int32) then nI a + nI x else (99 : Int32)) = nI (wrN a x) := by
  rw [nI_add]
  unfold wrN
  by_cases c : a + x < 99
  · rw [if_pos c, if_pos (show nI (a + x) < (99 : Int32) from nI_lt (b := 99) c (by decide))]
  · rw [if_neg c, if_neg (show ¬ nI (a + x) < (99 : Int32) from nI_nlt (b := 99) (by omega) (by omega))]
    rfl
theorem warmX {k p x : Nat} {T : zT} {sqs : Nat → zQ} {u : zM} (h : XC k T sqs u) (hp : p < T 0 0) (hx : x ≤ 99) : ∃ u', f_X1_warm (nI p) (nI x) u = some ((), u') ∧ VX 51 u' (warmT T p x) ∧ xfr 51 u u' := by
  obtain ⟨hX, ho, hmn, hs, hq⟩ := h
  have hn := ho.1
  obtain ⟨u1, a1, a2, a3⟩ := becX (t := 51) (by decide) hX ho hs.1
  have hV := VX_anv (a := 0) a2
  have e3 : gI (sI u1 51 10 (nI 0 - nI 1)) 54 p = nI (T 3 p) := (hV.2.2.2.2.2.1 p hp).2.2.1
  have o3 := (ho.2.2.2.2.2.1 p hp).2.2.1
  refine ⟨sI (sI u1 51 10 (nI 0 - nI 1)) 54 p (nI (wrN (T 3 p) x)), ?_, VX_put (c := 3) hV (by decide) (by decide), xfr_tr a3 ⟨fun a j q => ?_, fun _ _ => rfl, fun _ _ _ => rfl⟩⟩
  · unfold f_X1_warm
    rw [a1, zb_s, zlet_s, show (-1 : Int32) = nI 0 - nI 1 from by decide, inB_n (show p < 6 by omega) (by decide), zck_t, zck_t, zlet_s, nI_cl (n := p) (by omega), e3, wrN_eq o3 hx]
  · rw [gI_sI, if_neg (by omega), gI_sI, if_neg (by omega)]
theorem warmM {k p x : Nat} {T : zT} {sqs : Nat → zQ} {w : zM} (h : MC k T sqs w) (hp : p < T 0 0) (hx : x ≤ 99) : ∃ w1, f_X9_save w = some ((), w1) ∧ f_X9_least (gI (sI w1 0 3 (-5 : Int32)) 3 p + nI x) (99 : Int32) (sI w1 0 3 (-5 : Int32)) = some (nI (wrN (T 3 p) x), sI w1 0 3 (-5 : Int32)) ∧ VM 0 0 13 (sI (sI w1 0 3 (-5 : Int32)) 3 p (nI (wrN (T 3 p) x))) (warmT T p x) ∧ SV w (sI (sI w1 0 3 (-5 : Int32)) 3 p (nI (wrN (T 3 p) x))) ∧ SqM k (sI (sI w1 0 3 (-5 : Int32)) 3 p (nI (wrN (T 3 p) x))) sqs := by
  obtain ⟨hM, ho, hmn, hs, hq⟩ := h
  obtain ⟨w1, c1, c2, c3⟩ := saveM w
  have hV : VM 0 0 13 (sI w1 0 3 (-5 : Int32)) (tS T 0 2 0) := VM_anv (a := 0) (VM_sv hM c3)
  have e3 : gI (sI w1 0 3 (-5 : Int32)) 3 p = nI (T 3 p) := (hV.2.2.2.2.2.1 p hp).2.2
  have o3 := (ho.2.2.2.2.2.1 p hp).2.2.1
  refine ⟨w1, c1, ?_, VM_put1 (c := 3) hV (by decide) (by decide), SV_put (SV_put c2 (by omega)) (by omega), SqM_cg (fun a j h1 h2 => ?_) (SqM_sv hq c3)⟩
  · rw [e3, nI_add]
    unfold f_X9_least wrN
    by_cases c : T 3 p + x < 99
    · rw [if_neg (show ¬ (99 : Int32) ≤ nI (T 3 p + x) from nI_ge (b := 99) c (by decide)), if_pos c]
    · rw [if_pos (show (99 : Int32) ≤ nI (T 3 p + x) from nI_le (a := 99) (by omega) (by omega)), if_neg c]
      rfl
  · rw [gI_sI, if_neg (by omega), gI_sI, if_neg (by omega)]
def hoT (T : zT) (p : Nat) : Nat := if 50 ≤ T 3 p then 1 else 0
theorem hoT_le (T : zT) (p : Nat) : hoT T p ≤ 1 := by unfold hoT; split <;> omega
theorem isHX {t k p : Nat} {u : zM} {T : zT} (h : VX t u T) (ho : OkT k T) (hp : p < T 0 0) : f_X6_isHot t (nI p) u = some (nI (hoT T p), u) := by
  have hn := ho.1
  have e3 := (h.2.2.2.2.2.1 p hp).2.2.1
  have o3 := (ho.2.2.2.2.2.1 p hp).2.2.1
  unfold f_X6_isHot hoT
  rw [hasX_t h ho hp, zb_s, if_neg (by decide), inB_n (show p < 6 by omega) (by decide), zck_t, nI_cl (n := p) (by omega), e3]
  by_cases c : 50 ≤ T 3 p
  · rw [if_neg (show ¬ nI (T 3 p) < (50 : Int32) from nI_nlt (b := 50) c (by omega)), if_pos c]
    rfl
  · rw [if_pos (show nI (T 3 p) < (50 : Int32) from nI_lt (b := 50) (by omega) (by decide)), if_neg c]
    rfl
theorem hoM {k p : Nat} {w : zM} {T : zT} (h : VM 0 0 13 w T) (ho : OkT k T) (hp : p < T 0 0) {γ : Type} (a b : γ) : (if gI w 3 p < (50 : Int32) then a else b) = if hoT T p = 0 then a else b := by
  have e3 : gI w 3 p = nI (T 3 p) := (h.2.2.2.2.2.1 p hp).2.2
  have o3 := (ho.2.2.2.2.2.1 p hp).2.2.1
  unfold hoT
  rw [e3]
  by_cases c : 50 ≤ T 3 p
  · rw [if_neg (show ¬ nI (T 3 p) < (50 : Int32) from nI_nlt (b := 50) c (by omega)), if_pos c]
    rfl
  · rw [if_pos (show nI (T 3 p) < (50 : Int32) from nI_lt (b := 50) (by omega) (by decide)), if_neg c]
    rfl
def ctN (sqs : Nat → zQ) (T : zT) (p n i c : Nat) : Nat := if T 4 i = 0 then c + hoT (goT sqs n (warmT T i 20)) p else c
def ctL (sqs : Nat → zQ) (T : zT) (p n : Nat) : Nat → Nat → Nat → Nat
  | 0, _, c => c
  | j + 1, i, c => ctL sqs T p n j (i + 1) (ctN sqs T p n i c)
def heN (T : zT) (i c : Nat) : Nat := if T 4 i = 0 then c + 1 else c
def heL (T : zT) : Nat → Nat → Nat → Nat
  | 0, _, c => c
  | j + 1, i, c => heL T j (i + 1) (heN T i c)
theorem ct_le (sqs : Nat → zQ) (T : zT) (p n : Nat) : ∀ j i c, ctL sqs T p n j i c ≤ c + j := by
  intro j
  induction j with
  | zero => intro i c; exact Nat.le_refl _
  | succ j ih =>
    intro i c
    have h1 := ih (i + 1) (ctN sqs T p n i c)
    have h2 := hoT_le (goT sqs n (warmT T i 20)) p
    have h3 : ctN sqs T p n i c ≤ c + 1 := by unfold ctN; split <;> omega
    show ctL sqs T p n j (i + 1) (ctN sqs T p n i c) ≤ _
    omega
theorem he_le (T : zT) : ∀ j i c, heL T j i c ≤ c + j := by
  intro j
  induction j with
  | zero => intro i c; exact Nat.le_refl _
  | succ j ih =>
    intro i c
    have h1 := ih (i + 1) (heN T i c)
    have h3 : heN T i c ≤ c + 1 := by unfold heN; split <;> omega
    show heL T j (i + 1) (heN T i c) ≤ _
    omega
theorem goT_n (sqs : Nat → zQ) (n : Nat) (T : zT) : goT sqs n T 0 0 = T 0 0 := goT_same sqs n T 0 0 (by decide) (by decide) (by decide)
theorem ctX {k p n : Nat} {T : zT} {sqs : Nat → zQ} (hp : p < T 0 0) (hn20 : n ≤ 20) : ∀ (j i c fn : Nat) (u : zM), i + j = T 0 0 → j < fn → XC k T sqs u → ∃ u', f_X1_countHot_L5 (nI p) (nI n) fn (nI c) (nI i) u = some (nI (ctL sqs T p n j i c), u') ∧ afr u u' := by
  intro j
  induction j with
  | zero =>
    intro i c fn u hi hf h
    obtain ⟨hX, ho, hmn, hs, hq⟩ := h
    have hn := ho.1
    obtain ⟨fn, rfl⟩ : ∃ g, fn = g + 1 := ⟨fn - 1, by omega⟩
    refine ⟨u, ?_, afr_rf u⟩
    show f_X1_countHot_L5_b _ _ _ _ _ _ = _
    unfold f_X1_countHot_L5_b
    rw [hX.1, if_pos (nI_le (by omega) (by omega))]
    rfl
  | succ j ih =>
    intro i c fn u hi hf h
    have hh := h
    obtain ⟨hX, ho, hmn, hs, hq⟩ := h
    have hn := ho.1
    obtain ⟨fn, rfl⟩ : ∃ g, fn = g + 1 := ⟨fn - 1, by omega⟩
    have e4 : gI u 6 i = nI (T 4 i) := (hX.2.2.2.2.2.1 i (by omega)).2.2.2
    have o4 := (ho.2.2.2.2.2.1 i (by omega)).2.2.2
    show ∃ u', f_X1_countHot_L5_b _ _ _ _ _ _ = some (nI (ctL sqs T p n j (i + 1) (ctN sqs T p n i c)), u') ∧ _
    unfold f_X1_countHot_L5_b
    rw [hX.1, if_neg (nI_ge (by omega) (by omega)), inB_n (show i < 6 by omega) (by decide), zck_t, nI_cl (n := i) (by omega), e4]
    by_cases c4 : T 4 i = 0
    · obtain ⟨u1, a1, a2, a3⟩ := warmX hh (p := i) (x := 20) (by omega) (by decide)
      have hok := OkT_warm (p := i) (x := 20) ho
      obtain ⟨u2, b1, b2, b3⟩ := goX hs (by decide) (n := n) (by omega) a2 hok (SqX_afr hq (afr_x a3)) (by show T 0 3 + n ≤ 20000; omega)
      have hf2 : afr u u2 := afr_x (xfr_tr a3 b3)
      have hok2 : OkT k (goT sqs n (warmT T i 20)) := OkT_go n _ hok (by show T 0 3 + n ≤ 20000; omega)
      have hhot := isHX b2 hok2 (p := p) (by rw [goT_n]; exact hp)
      obtain ⟨u', d1, d2⟩ := ih (i + 1) (ctN sqs T p n i c) fn u2 (by omega) (by omega) (XC_afr hh hf2)
      refine ⟨u', ?_, afr_tr hf2 d2⟩
      have e : ctN sqs T p n i c = c + hoT (goT sqs n (warmT T i 20)) p := if_pos c4
      rw [e] at d1 ⊢
      rw [if_pos (show nI (T 4 i) = (0 : Int32) by rw [c4]; rfl), show (20 : Int32) = nI 20 from rfl, a1, zb_s, b1, zb_s, hhot, zb_s, asN_n (hoT_le _ _), zb_s, zlx_s, nI_add, nI_a1]
      exact d1
    · obtain ⟨u', d1, d2⟩ := ih (i + 1) (ctN sqs T p n i c) fn u (by omega) (by omega) hh
      refine ⟨u', ?_, d2⟩
      have e : ctN sqs T p n i c = c := if_neg c4
      rw [e] at d1 ⊢
      rw [if_neg (show ¬ nI (T 4 i) = (0 : Int32) from nI_ne0 (by omega) (by omega)), nI_a1]
      exact d1
theorem heX {k t : Nat} {T : zT} {u : zM} (hX : VX t u T) (ho : OkT k T) : f_X6_countHere t u = some (nI (heL T (T 0 0) 0 0), u) := by
  have hn := ho.1
  have hl : ∀ j i c fn, i + j = T 0 0 → j < fn → f_X6_countHere_L4 t fn (nI c) (nI i) u = some (nI (heL T j i c), u) := by
    intro j
    induction j with
    | zero =>
      intro i c fn hi hf
      obtain ⟨fn, rfl⟩ : ∃ g, fn = g + 1 := ⟨fn - 1, by omega⟩
      show f_X6_countHere_L4_b _ _ _ _ _ = _
      unfold f_X6_countHere_L4_b
      rw [hX.1, if_pos (nI_le (by omega) (by omega))]
      rfl
    | succ j ih =>
      intro i c fn hi hf
      obtain ⟨fn, rfl⟩ : ∃ g, fn = g + 1 := ⟨fn - 1, by omega⟩
      have e4 := (hX.2.2.2.2.2.1 i (by omega)).2.2.2
      have o4 := (ho.2.2.2.2.2.1 i (by omega)).2.2.2
      show f_X6_countHere_L4_b _ _ _ _ _ = some (nI (heL T j (i + 1) (heN T i c)), u)
      unfold f_X6_countHere_L4_b
      rw [hX.1, if_neg (nI_ge (by omega) (by omega)), inB_n (show i < 6 by omega) (by decide), zck_t, nI_cl (n := i) (by omega), e4, nI_a1, nI_a1, ← ih (i + 1) (heN T i c) fn (by omega) (by omega)]
      by_cases c4 : T 4 i = 0
      · rw [if_pos (show nI (T 4 i) = (0 : Int32) by rw [c4]; rfl), show heN T i c = c + 1 from if_pos c4]
      · rw [if_neg (show ¬ nI (T 4 i) = (0 : Int32) from nI_ne0 (by omega) (by omega)), show heN T i c = c from if_neg c4]
  exact hl (T 0 0) 0 0 400 (by omega) (by omega)
theorem ihM {k p i n : Nat} {T : zT} {sqs : Nat → zQ} {w : zM} (h : MC k T sqs w) (hp : p < T 0 0) (hi : i < T 0 0) (hn20 : n ≤ 20) : ∃ w', f_X9_isHotIf (nI p) (nI i) (nI n) w = some (nI (hoT (goT sqs n (warmT T i 20)) p), w') ∧ rfr w w' := by
  obtain ⟨w1, a1, a2, a3, a4, a5⟩ := warmM h hi (x := 20) (by decide)
  obtain ⟨hM, ho, hmn, hs, hq⟩ := h
  have hn := ho.1
  have hok := OkT_warm (p := i) (x := 20) ho
  have hok2 : OkT k (goT sqs n (warmT T i 20)) := OkT_go n _ hok (by show T 0 3 + n ≤ 20000; omega)
  obtain ⟨w2, b1, b2, b3⟩ := goM hs (n := n) (by omega) a3 hok a5 (by show T 0 3 + n ≤ 20000; omega)
  obtain ⟨w3, d1, d2⟩ := backM (SV_mfr a4 b3)
  refine ⟨w3, ?_, d2⟩
  unfold f_X9_isHotIf
  rw [a1, zb_s, zlet_s, inB_n (show i < 6 by omega) (by decide), zck_t, nI_cl (n := i) (by omega), show (20 : Int32) = nI 20 from rfl, a2, zb_s, zck_t, zlet_s, b1, zb_s, inB_n (show p < 6 by omega) (by decide), zck_t, nI_cl (n := p) (by omega), hoM b2 hok2 (by rw [goT_n]; exact hp), d1, zb_s, zb_s]
  have hc := hoT_le (goT sqs n (warmT T i 20)) p
  have hc2 : hoT (goT sqs n (warmT T i 20)) p = 0 ∨ hoT (goT sqs n (warmT T i 20)) p = 1 := by omega
  rcases hc2 with c | c <;> rw [c] <;> rfl
theorem odM {k p n : Nat} {p3 : Int32} {T : zT} {sqs : Nat → zQ} (hp : p < T 0 0) (hn20 : n ≤ 20) : ∀ (j i c d fn : Nat) (w : zM), i + j = T 0 0 → j < fn → MC k T sqs w → ∃ w', f_X9_odds_L42 (nI p) (nI n) p3 fn (nI c) (nI d) (nI i) w = (if nI (heL T j i d) = (0 : Int32) then some ((-9223372036854775808 : Int64), w') else zb (f_X9_lowest (nI (ctL sqs T p n j i c)) (nI (heL T j i d)) p3 w') fun y7 u8 => some (y7, u8)) ∧ rfr w w' := by
  intro j
  induction j with
  | zero =>
    intro i c d fn w hi hf h
    obtain ⟨hM, ho, hmn, hs, hq⟩ := h
    have hn := ho.1
    obtain ⟨fn, rfl⟩ : ∃ g, fn = g + 1 := ⟨fn - 1, by omega⟩
    refine ⟨w, ?_, rfr_rf w⟩
    show f_X9_odds_L42_b _ _ _ _ _ _ _ _ = _
    unfold f_X9_odds_L42_b
    rw [show gI w 0 0 = nI (T 0 0) from hM.1, if_pos (nI_le (by omega) (by omega))]
    rfl
  | succ j ih =>
    intro i c d fn w hi hf h
    have hh := h
    obtain ⟨hM, ho, hmn, hs, hq⟩ := h
    have hn := ho.1
    obtain ⟨fn, rfl⟩ : ∃ g, fn = g + 1 := ⟨fn - 1, by omega⟩
    have o4 := (ho.2.2.2.2.2.1 i (by omega)).2.2.2
    show ∃ w', f_X9_odds_L42_b _ _ _ _ _ _ _ _ = (if nI (heL T j (i + 1) (heN T i d)) = (0 : Int32) then some ((-9223372036854775808 : Int64), w') else zb (f_X9_lowest (nI (ctL sqs T p n j (i + 1) (ctN sqs T p n i c))) (nI (heL T j (i + 1) (heN T i d))) p3 w') fun y7 u8 => some (y7, u8)) ∧ _
    unfold f_X9_odds_L42_b
    rw [show gI w 0 0 = nI (T 0 0) from hM.1, if_neg (nI_ge (by omega) (by omega)), hasM hM ho (by omega), zb_s]
    by_cases c4 : T 4 i = 0
    · obtain ⟨w1, a1, a2⟩ := ihM hh hp (i := i) (by omega) hn20
      obtain ⟨w', d1, d2⟩ := ih (i + 1) (ctN sqs T p n i c) (heN T i d) fn w1 (by omega) (by omega) (MC_rfr hh a2)
      refine ⟨w', ?_, rfr_tr a2 d2⟩
      rw [← d1, if_pos (show nI (T 4 i) = (0 : Int32) by rw [c4]; rfl), a1, zb_s, show heN T i d = d + 1 from if_pos c4, show ctN sqs T p n i c = c + hoT (goT sqs n (warmT T i 20)) p from if_pos c4, nI_a1, nI_a1]
      have hc := hoT_le (goT sqs n (warmT T i 20)) p
      have hc2 : hoT (goT sqs n (warmT T i 20)) p = 0 ∨ hoT (goT sqs n (warmT T i 20)) p = 1 := by omega
      rcases hc2 with c | c
      · rw [c, if_pos (by decide), zlx_s, Int32.add_zero]
        rfl
      · rw [c, if_neg (by decide), zlx_s, nI_a1]
    · obtain ⟨w', d1, d2⟩ := ih (i + 1) (ctN sqs T p n i c) (heN T i d) fn w (by omega) (by omega) hh
      refine ⟨w', ?_, d2⟩
      rw [← d1, if_neg (show ¬ nI (T 4 i) = (0 : Int32) from nI_ne0 (by omega) (by omega)), show heN T i d = d from if_neg c4, show ctN sqs T p n i c = c from if_neg c4, nI_a1]
theorem odds_ask {k : Nat} {T : zT} {sqs : Nat → zQ} {uX w : zM} (hc : Core k T sqs uX w) (p1 p2 p3 : Int32) : Ask (f_X8_odds p1 p2 p3) (f_X9_odds p1 p2 p3) uX w := by
  have hxc := Core_X hc
  have hmc := Core_M hc
  obtain ⟨hX, hM, ho, hmn, hs, hqX, hqM⟩ := hc
  have hn := ho.1
  unfold Ask f_X8_odds f_X9_odds
  rcases nI_in_or (n := T 0 0) (by omega) p1 with ⟨p, hp, rfl⟩ | hp1
  · rw [hasX_t hX ho hp, isM_t hM ho hp, zb_s, zb_s, if_neg (by decide), if_neg (by decide)]
    rcases nI_in_or (n := 21) (by decide) p2 with ⟨n, hn21, rfl⟩ | hp2
    · rw [show f_X8_isWithin (nI n) 0 20 uX = some (1, uX) from wi_t (a := 0) (b := 20) (by omega) (by decide) _, show f_X9_in (nI n) 0 20 w = some (1, w) from in_t (a := 0) (b := 20) (by omega) (by decide) _, zb_s, zb_s, if1, if1]
      obtain ⟨u', a1, a2⟩ := ctX (k := k) hp (n := n) (by omega) (T 0 0) 0 0 400 uX (by omega) (by omega) hxc
      have hX' := (XC_afr hxc a2).1
      have hhe := heX hX' ho
      have l1 := ct_le sqs T p n (T 0 0) 0 0
      have l2 := he_le T (T 0 0) 0 0
      have eX : f_X1_countHot (nI p) (nI n) uX = some (nI (ctL sqs T p n (T 0 0) 0 0), u') := a1
      rw [eX, zb_s, hhe, zb_s]
      rcases nI_in_or (n := 2) (by decide) p3 with ⟨c, hc2, rfl⟩ | hp3
      · rw [show f_X9_in (nI c) 0 1 w = some (1, w) from in_t (a := 0) (b := 1) (by omega) (by decide) _, zb_s, if1]
        obtain ⟨w', b1, b2⟩ := odM (k := k) (p3 := nI c) hp (n := n) (by omega) (T 0 0) 0 0 0 400 w (by omega) (by omega) hmc
        by_cases hz : heL T (T 0 0) 0 0 = 0
        · rw [hz] at b1 ⊢
          rw [if_pos (by decide)] at b1
          exact ⟨-9223372036854775808, u', w', by rw [ltX_f _ _ _ _ (Or.inl (by decide)), zb_s], b1, a2, b2⟩
        · rw [if_neg (show ¬ nI (heL T (T 0 0) 0 0) = (0 : Int32) from nI_ne0 (by omega) (by omega)), ltM (by omega) (by omega) (by omega) (by omega), zb_s] at b1
          rw [ltX (by omega) (by omega) (by omega) (by omega), zb_s]
          exact ⟨_, u', w', rfl, b1, a2, b2⟩
      · rw [show f_X9_in p3 0 1 w = some (0, w) from in_f (n := 1) (by decide) hp3 _, zb_s, if0, ltX_f _ _ _ _ (Or.inr hp3), zb_s]
        exact ⟨-9223372036854775808, u', w, rfl, rfl, a2, rfr_rf w⟩
    · rw [show f_X8_isWithin p2 0 20 uX = some (0, uX) from wi_f (n := 20) (by decide) hp2 _, show f_X9_in p2 0 20 w = some (0, w) from in_f (n := 20) (by decide) hp2 _, zb_s, zb_s, if0, if0]
      exact ⟨-9223372036854775808, uX, w, rfl, rfl, afr_rf _, rfr_rf _⟩
  · rw [hasX_f hX hp1, isM_f hM ho hp1, zb_s, zb_s, if_pos (by decide), if_pos (by decide)]
    exact ⟨-9223372036854775808, uX, w, rfl, rfl, afr_rf _, rfr_rf _⟩
/-! talk -/
theorem hotL_pos {T : zT} : ∀ j i b, (0 < b ∨ ∃ x, i ≤ x ∧ x < i + j ∧ T 4 x = 0) → 0 < hotL T j i b := by
  intro j
  induction j with
  | zero =>
    intro i b h
    rcases h with h | ⟨x, h1, h2, h3⟩
    · exact h
    · omega
  | succ j ih =>
    intro i b h
    refine ih (i + 1) (hotN T i b) ?_
    unfold hotN
    rcases h with h | ⟨x, h1, h2, h3⟩
    · left
      split <;> omega
    · by_cases c : x = i
      · left
        subst c
        split
        · omega
        · rename_i hn
          have : b ≠ 0 := fun q => hn ⟨h3, Or.inl q⟩
          omega
      · exact Or.inr ⟨x, by omega, by omega, h3⟩
theorem hotT_pos {T : zT} {x : Nat} (hx : x < T 0 0) (h : T 4 x = 0) : 0 < hotT T := hotL_pos _ 0 0 (Or.inr ⟨x, by omega, by omega, h⟩)
def tkV (sqs : Nat → zQ) (T : zT) (x i : Nat) : Nat := goT sqs 3 (warmT T i x) 3 (hotT (goT sqs 3 (warmT T i x)) - 1)
theorem tkV_lt {k x i : Nat} {T : zT} {sqs : Nat → zQ} (ho : OkT k T) (hmn : T 0 3 ≤ 9999) (hi : i < T 0 0) (h4 : T 4 i = 0) : OkT k (goT sqs 3 (warmT T i x)) ∧ 0 < hotT (goT sqs 3 (warmT T i x)) ∧ hotT (goT sqs 3 (warmT T i x)) ≤ T 0 0 ∧ tkV sqs T x i ≤ 99 := by
  have hok : OkT k (goT sqs 3 (warmT T i x)) := OkT_go 3 _ (OkT_warm ho) (by show T 0 3 + 3 ≤ 20000; omega)
  have h0 : goT sqs 3 (warmT T i x) 0 0 = T 0 0 := goT_n sqs 3 _
  have h4' : goT sqs 3 (warmT T i x) 4 i = 0 := (goT_same sqs 3 _ 4 i (by decide) (by decide) (by omega)).trans h4
  have hp := hotT_pos (T := goT sqs 3 (warmT T i x)) (x := i) (by rw [h0]; exact hi) h4'
  have hle := hotT_le (goT sqs 3 (warmT T i x))
  rw [h0] at hle
  exact ⟨hok, hp, hle, (hok.2.2.2.2.2.1 _ (by rw [h0]; omega)).2.2.1⟩
theorem tkX1 {k x i : Nat} {T : zT} {sqs : Nat → zQ} {u : zM} (h : XC k T sqs u) (hx : x ≤ 99) (hi : i < T 0 0) (h4 : T 4 i = 0) : ∃ u', f_X1_hottestByTalk (nI i) (nI x) u = some (nI (tkV sqs T x i), u') ∧ afr u u' := by
  have hh := h
  obtain ⟨hX, ho, hmn, hs, hq⟩ := h
  have hn := ho.1
  obtain ⟨v1, v2, v3, v4⟩ := tkV_lt (x := x) (sqs := sqs) ho hmn hi h4
  obtain ⟨u1, a1, a2, a3⟩ := warmX hh hi hx
  obtain ⟨u2, b1, b2, b3⟩ := goX hs (by decide) (n := 3) (by omega) a2 (OkT_warm ho) (SqX_afr hq (afr_x a3)) (by show T 0 3 + 3 ≤ 20000; omega)
  have h0 : goT sqs 3 (warmT T i x) 0 0 = T 0 0 := goT_n sqs 3 _
  have e3 : gI u2 54 (hotT (goT sqs 3 (warmT T i x)) - 1) = nI (tkV sqs T x i) := (b2.2.2.2.2.2.1 _ (by rw [h0]; omega)).2.2.1
  refine ⟨u2, ?_, afr_x (xfr_tr a3 b3)⟩
  unfold f_X1_hottestByTalk
  rw [a1, zb_s, show (3 : Int32) = nI 3 from rfl, b1, zb_s, hotX b2 v1, zb_s, pk_sub v2, if_pos (nI_pos' (by omega)), inB_n (show hotT (goT sqs 3 (warmT T i x)) - 1 < 6 by omega) (by decide), zck_t, nI_cl (n := hotT (goT sqs 3 (warmT T i x)) - 1) (by omega), e3]
theorem tkM1 {k x i : Nat} {T : zT} {sqs : Nat → zQ} {w : zM} (h : MC k T sqs w) (hx : x ≤ 99) (hi : i < T 0 0) (h4 : T 4 i = 0) : ∃ w', f_X9_hottestIf (nI i) (nI x) w = some (nI (tkV sqs T x i), w') ∧ rfr w w' := by
  obtain ⟨w1, a1, a2, a3, a4, a5⟩ := warmM h hi hx
  obtain ⟨hM, ho, hmn, hs, hq⟩ := h
  have hn := ho.1
  obtain ⟨v1, v2, v3, v4⟩ := tkV_lt (x := x) (sqs := sqs) ho hmn hi h4
  obtain ⟨w2, b1, b2, b3⟩ := goM hs (n := 3) (by omega) a3 (OkT_warm ho) a5 (by show T 0 3 + 3 ≤ 20000; omega)
  obtain ⟨w3, d1, d2⟩ := backM (SV_mfr a4 b3)
  have h0 : goT sqs 3 (warmT T i x) 0 0 = T 0 0 := goT_n sqs 3 _
  have e3 : gI w2 3 (hotT (goT sqs 3 (warmT T i x)) - 1) = nI (tkV sqs T x i) := (b2.2.2.2.2.2.1 _ (by rw [h0]; omega)).2.2
  refine ⟨w3, ?_, d2⟩
  unfold f_X9_hottestIf
  rw [a1, zb_s, zlet_s, inB_n (show i < 6 by omega) (by decide), zck_t, nI_cl (n := i) (by omega), a2, zb_s, zck_t, zlet_s, show (3 : Int32) = nI 3 from rfl, b1, zb_s, hotM b2 v1, zb_s, mAn_s _ v2, inB_n (show hotT (goT sqs 3 (warmT T i x)) - 1 < 6 by omega) (by decide), zck_t, nI_cl (n := hotT (goT sqs 3 (warmT T i x)) - 1) (by omega), e3, zlx_s, d1, zb_s]
def tkB (sqs : Nat → zQ) (T : zT) (x i b m : Nat) : Nat := if T 4 i = 0 ∧ m < tkV sqs T x i + 1 then i + 1 else b
def tkC (sqs : Nat → zQ) (T : zT) (x i m : Nat) : Nat := if T 4 i = 0 ∧ m < tkV sqs T x i + 1 then tkV sqs T x i + 1 else m
def tkL (sqs : Nat → zQ) (T : zT) (x : Nat) : Nat → Nat → Nat → Nat → Nat × Nat
  | 0, _, b, m => (b, m)
  | j + 1, i, b, m => tkL sqs T x j (i + 1) (tkB sqs T x i b m) (tkC sqs T x i m)
theorem tkL_ok {x : Nat} {sqs : Nat → zQ} {T : zT} : ∀ j i b m, i + j = T 0 0 → ((b = 0 ∧ m = 0) ∨ (0 < b ∧ b ≤ i ∧ T 4 (b - 1) = 0 ∧ m = tkV sqs T x (b - 1) + 1)) → (((tkL sqs T x j i b m).1 = 0 ∧ (tkL sqs T x j i b m).2 = 0) ∨ (0 < (tkL sqs T x j i b m).1 ∧ (tkL sqs T x j i b m).1 ≤ T 0 0 ∧ T 4 ((tkL sqs T x j i b m).1 - 1) = 0 ∧ (tkL sqs T x j i b m).2 = tkV sqs T x ((tkL sqs T x j i b m).1 - 1) + 1)) := by
  intro j
  induction j with
  | zero =>
    intro i b m hi h
    rcases h with h | ⟨h1, h2, h3, h4⟩
    · exact Or.inl h
    · exact Or.inr ⟨h1, by show b ≤ _; omega, h3, h4⟩
  | succ j ih =>
    intro i b m hi h
    refine ih (i + 1) (tkB sqs T x i b m) (tkC sqs T x i m) (by omega) ?_
    unfold tkB tkC
    by_cases c : T 4 i = 0 ∧ m < tkV sqs T x i + 1
    · rw [if_pos c, if_pos c]
      exact Or.inr ⟨by omega, by omega, c.1, rfl⟩
    · rw [if_neg c, if_neg c]
      rcases h with h | ⟨h1, h2, h3, h4⟩
      · exact Or.inl h
      · exact Or.inr ⟨h1, by omega, h3, h4⟩
theorem tkLX {k x : Nat} {T : zT} {sqs : Nat → zQ} (hx : x ≤ 99) : ∀ (j i b m fn : Nat) (u : zM), i + j = T 0 0 → j < fn → m ≤ 100 → XC k T sqs u → ∃ u', f_X1_whomToTalkTo_L7 (nI x) fn (nI b - nI 1) (nI m - nI 1) (nI i) u = some (nI (tkL sqs T x j i b m).1 - nI 1, u') ∧ afr u u' := by
  intro j
  induction j with
  | zero =>
    intro i b m fn u hi hf hm h
    obtain ⟨hX, ho, hmn, hs, hq⟩ := h
    have hn := ho.1
    obtain ⟨fn, rfl⟩ : ∃ g, fn = g + 1 := ⟨fn - 1, by omega⟩
    refine ⟨u, ?_, afr_rf u⟩
    show f_X1_whomToTalkTo_L7_b _ _ _ _ _ _ = _
    unfold f_X1_whomToTalkTo_L7_b
    rw [hX.1, if_pos (nI_le (by omega) (by omega))]
    rfl
  | succ j ih =>
    intro i b m fn u hi hf hm h
    have hh := h
    obtain ⟨hX, ho, hmn, hs, hq⟩ := h
    have hn := ho.1
    obtain ⟨fn, rfl⟩ : ∃ g, fn = g + 1 := ⟨fn - 1, by omega⟩
    have e4 : gI u 6 i = nI (T 4 i) := (hX.2.2.2.2.2.1 i (by omega)).2.2.2
    have o4 := (ho.2.2.2.2.2.1 i (by omega)).2.2.2
    show ∃ u', f_X1_whomToTalkTo_L7_b _ _ _ _ _ _ = some (nI (tkL sqs T x j (i + 1) (tkB sqs T x i b m) (tkC sqs T x i m)).1 - nI 1, u') ∧ _
    unfold f_X1_whomToTalkTo_L7_b
    rw [hX.1, if_neg (nI_ge (by omega) (by omega)), inB_n (show i < 6 by omega) (by decide), zck_t, nI_cl (n := i) (by omega), e4]
    by_cases c4 : T 4 i = 0
    · obtain ⟨u1, a1, a2⟩ := tkX1 hh hx (i := i) (by omega) c4
      have hv := (tkV_lt (x := x) (sqs := sqs) ho hmn (i := i) (by omega) c4).2.2.2
      rw [if_pos (show nI (T 4 i) = (0 : Int32) by rw [c4]; rfl), a1, zb_s]
      by_cases cm : m < tkV sqs T x i + 1
      · have eB : tkB sqs T x i b m = i + 1 := if_pos ⟨c4, cm⟩
        have eC : tkC sqs T x i m = tkV sqs T x i + 1 := if_pos ⟨c4, cm⟩
        obtain ⟨u', d1, d2⟩ := ih (i + 1) (tkB sqs T x i b m) (tkC sqs T x i m) fn u1 (by omega) (by omega) (by rw [eC]; omega) (XC_afr hh a2)
        refine ⟨u', ?_, afr_tr a2 d2⟩
        rw [← d1, eB, eC, show nI (i + 1) - nI 1 = nI i from nI_pred i, show nI (tkV sqs T x i + 1) - nI 1 = nI (tkV sqs T x i) from nI_pred _, nI_a1, if_neg]
        by_cases cz : m = 0
        · subst cz
          exact of_eq_false (mle_f (a := 1) (by omega) (by decide) (by omega))
        · rw [pk_sub (by omega)]
          exact nI_ge (by omega) (by omega)
      · have eB : tkB sqs T x i b m = b := if_neg (fun q => cm q.2)
        have eC : tkC sqs T x i m = m := if_neg (fun q => cm q.2)
        obtain ⟨u', d1, d2⟩ := ih (i + 1) (tkB sqs T x i b m) (tkC sqs T x i m) fn u1 (by omega) (by omega) (by rw [eC]; omega) (XC_afr hh a2)
        refine ⟨u', ?_, afr_tr a2 d2⟩
        rw [← d1, eB, eC, nI_a1, if_pos]
        rw [pk_sub (by omega)]
        exact nI_le (by omega) (by omega)
    · have eB : tkB sqs T x i b m = b := if_neg (fun q => c4 q.1)
      have eC : tkC sqs T x i m = m := if_neg (fun q => c4 q.1)
      obtain ⟨u', d1, d2⟩ := ih (i + 1) (tkB sqs T x i b m) (tkC sqs T x i m) fn u (by omega) (by omega) (by rw [eC]; omega) hh
      refine ⟨u', ?_, d2⟩
      rw [← d1, eB, eC, nI_a1, if_neg (show ¬ nI (T 4 i) = (0 : Int32) from nI_ne0 (by omega) (by omega))]
theorem tkLM {k x : Nat} {p2 : Int32} {T : zT} {sqs : Nat → zQ} (hx : x ≤ 99) : ∀ (j i b m fn : Nat) (w : zM), i + j = T 0 0 → j < fn → m ≤ 100 → MC k T sqs w → ∃ w', f_X9_talk_L33 (nI x) p2 fn (mAn b) (mAn m) (nI i) w = (if p2 = (0 : Int32) then some (mAn (tkL sqs T x j i b m).1, w') else some (mAn (tkL sqs T x j i b m).2, w')) ∧ rfr w w' := by
  intro j
  induction j with
  | zero =>
    intro i b m fn w hi hf hm h
    obtain ⟨hM, ho, hmn, hs, hq⟩ := h
    have hn := ho.1
    obtain ⟨fn, rfl⟩ : ∃ g, fn = g + 1 := ⟨fn - 1, by omega⟩
    refine ⟨w, ?_, rfr_rf w⟩
    show f_X9_talk_L33_b _ _ _ _ _ _ _ = _
    unfold f_X9_talk_L33_b
    rw [show gI w 0 0 = nI (T 0 0) from hM.1, if_pos (nI_le (by omega) (by omega))]
    rfl
  | succ j ih =>
    intro i b m fn w hi hf hm h
    have hh := h
    obtain ⟨hM, ho, hmn, hs, hq⟩ := h
    have hn := ho.1
    obtain ⟨fn, rfl⟩ : ∃ g, fn = g + 1 := ⟨fn - 1, by omega⟩
    have o4 := (ho.2.2.2.2.2.1 i (by omega)).2.2.2
    show ∃ w', f_X9_talk_L33_b _ _ _ _ _ _ _ = (if p2 = (0 : Int32) then some (mAn (tkL sqs T x j (i + 1) (tkB sqs T x i b m) (tkC sqs T x i m)).1, w') else some (mAn (tkL sqs T x j (i + 1) (tkB sqs T x i b m) (tkC sqs T x i m)).2, w')) ∧ _
    unfold f_X9_talk_L33_b
    rw [show gI w 0 0 = nI (T 0 0) from hM.1, if_neg (nI_ge (by omega) (by omega)), hasM hM ho (by omega), zb_s]
    by_cases c4 : T 4 i = 0
    · obtain ⟨w1, a1, a2⟩ := tkM1 hh hx (i := i) (by omega) c4
      have hv := (tkV_lt (x := x) (sqs := sqs) ho hmn (i := i) (by omega) c4).2.2.2
      rw [if_pos (show nI (T 4 i) = (0 : Int32) by rw [c4]; rfl), a1, zb_s]
      by_cases cm : m < tkV sqs T x i + 1
      · have eB : tkB sqs T x i b m = i + 1 := if_pos ⟨c4, cm⟩
        have eC : tkC sqs T x i m = tkV sqs T x i + 1 := if_pos ⟨c4, cm⟩
        obtain ⟨w', d1, d2⟩ := ih (i + 1) (tkB sqs T x i b m) (tkC sqs T x i m) fn w1 (by omega) (by omega) (by rw [eC]; omega) (MC_rfr hh a2)
        refine ⟨w', ?_, rfr_tr a2 d2⟩
        rw [← d1, eB, eC, show mAn (i + 1) = nI i from mAn_s _ (by omega), show mAn (tkV sqs T x i + 1) = nI (tkV sqs T x i) from mAn_s _ (by omega), nI_a1, if_pos]
        by_cases cz : m = 0
        · subst cz
          exact of_eq_true (mlt_t (a := 5) (by omega) (by decide) (by omega))
        · rw [mAn_s _ (by omega)]
          exact nI_lt (by omega) (by omega)
      · have eB : tkB sqs T x i b m = b := if_neg (fun q => cm q.2)
        have eC : tkC sqs T x i m = m := if_neg (fun q => cm q.2)
        obtain ⟨w', d1, d2⟩ := ih (i + 1) (tkB sqs T x i b m) (tkC sqs T x i m) fn w1 (by omega) (by omega) (by rw [eC]; omega) (MC_rfr hh a2)
        refine ⟨w', ?_, rfr_tr a2 d2⟩
        rw [← d1, eB, eC, nI_a1, if_neg]
        rw [mAn_s _ (by omega)]
        exact nI_nlt (by omega) (by omega)
    · have eB : tkB sqs T x i b m = b := if_neg (fun q => c4 q.1)
      have eC : tkC sqs T x i m = m := if_neg (fun q => c4 q.1)
      obtain ⟨w', d1, d2⟩ := ih (i + 1) (tkB sqs T x i b m) (tkC sqs T x i m) fn w (by omega) (by omega) (by rw [eC]; omega) hh
      refine ⟨w', ?_, d2⟩
      rw [← d1, eB, eC, nI_a1, if_neg (show ¬ nI (T 4 i) = (0 : Int32) from nI_ne0 (by omega) (by omega))]
theorem talk_ask {k : Nat} {T : zT} {sqs : Nat → zQ} {uX w : zM} (hc : Core k T sqs uX w) (p1 p2 : Int32) : Ask (f_X8_talk p1 p2) (f_X9_talk p1 p2) uX w := by
  have hxc := Core_X hc
  have hmc := Core_M hc
  obtain ⟨hX, hM, ho, hmn, hs, hqX, hqM⟩ := hc
  have hn := ho.1
  unfold Ask f_X8_talk f_X9_talk f_X9_isHeat
  rcases nI_in_or (n := 2) (by decide) p2 with ⟨c, hc2, rfl⟩ | hp2
  · rw [show f_X8_isWithin (nI c) 0 1 uX = some (1, uX) from wi_t (a := 0) (b := 1) (by omega) (by decide) _, show f_X9_in (nI c) 0 1 w = some (1, w) from in_t (a := 0) (b := 1) (by omega) (by decide) _, zb_s, zb_s, if1, if1]
    rcases nI_in_or (n := 100) (by decide) p1 with ⟨x, hx, rfl⟩ | hp1
    · rw [show f_X8_isWithin (nI x) 0 99 uX = some (1, uX) from wi_t (a := 0) (b := 99) (by omega) (by decide) _, show f_X9_in (nI x) 0 99 w = some (1, w) from in_t (a := 0) (b := 99) (by omega) (by decide) _, zb_s, zb_s, if1, show z01 (1 : Int32) = true from rfl, zck_t, zb_s, if1]
      obtain ⟨u1, a1, a2⟩ := tkLX (k := k) (sqs := sqs) (x := x) (by omega) (T 0 0) 0 0 0 400 uX (by omega) (by omega) (by decide) hxc
      obtain ⟨w1, b1, b2⟩ := tkLM (k := k) (sqs := sqs) (x := x) (p2 := nI c) (by omega) (T 0 0) 0 0 0 400 w (by omega) (by omega) (by decide) hmc
      have hk := tkL_ok (x := x) (sqs := sqs) (T := T) (T 0 0) 0 0 0 (by omega) (Or.inl ⟨rfl, rfl⟩)
      have eX : f_X1_whomToTalkTo (nI x) uX = some (nI (tkL sqs T x (T 0 0) 0 0 0).1 - nI 1, u1) := a1
      have eM : f_X9_talk_L33 (nI x) (nI c) 400 (-5 : Int32) (-5 : Int32) (0 : Int32) w = (if nI c = (0 : Int32) then some (mAn (tkL sqs T x (T 0 0) 0 0 0).1, w1) else some (mAn (tkL sqs T x (T 0 0) 0 0 0).2, w1)) := b1
      rw [eX, zb_s, eM]
      generalize tkL sqs T x (T 0 0) 0 0 0 = B at hk
      rcases hk with ⟨h1, h2⟩ | ⟨h1, h2, h3, h4⟩
      · rw [h1, h2, if_neg (by decide)]
        refine ⟨mAn 0, u1, w1, rfl, ?_, a2, b2⟩
        split <;> rfl
      · rw [pk_sub h1, if_pos (nI_pos' (by omega)), mAn_s _ h1]
        have hcc : c = 0 ∨ c = 1 := by omega
        rcases hcc with rfl | rfl
        · rw [if_pos (by decide), if_pos (by decide)]
          exact ⟨_, u1, w1, rfl, rfl, a2, b2⟩
        · obtain ⟨u2, d1, d2⟩ := tkX1 (XC_afr hxc a2) (x := x) (by omega) (i := B.1 - 1) (by omega) h3
          rw [if_neg (by decide), if_neg (by decide), d1, zb_s, h4]
          exact ⟨_, u2, w1, rfl, by rw [show mAn (tkV sqs T x (B.1 - 1) + 1) = nI (tkV sqs T x (B.1 - 1)) from mAn_s _ (by omega)], afr_tr a2 d2, b2⟩
    · rw [show f_X8_isWithin p1 0 99 uX = some (0, uX) from wi_f (n := 99) (by decide) hp1 _, show f_X9_in p1 0 99 w = some (0, w) from in_f (n := 99) (by decide) hp1 _, zb_s, zb_s, if0, show z01 (0 : Int32) = true from rfl, zck_t, zb_s, if0]
      exact ⟨-2, uX, w, rfl, rfl, afr_rf _, rfr_rf _⟩
  · rw [show f_X8_isWithin p2 0 1 uX = some (0, uX) from wi_f (n := 1) (by decide) hp2 _, show f_X9_in p2 0 1 w = some (0, w) from in_f (n := 1) (by decide) hp2 _, zb_s, zb_s, if0, if0]
    exact ⟨-1, uX, w, rfl, rfl, afr_rf _, rfr_rf _⟩
