/-! ===== PURE: the reference reads E with its pile, as the one reading ===== -/
def tpW (W : List Nat) : Nat := W.headD 0
theorem dropN_t {W : List Nat} (h : tpW W ≠ 33) : dropN W = W := by
  cases W with
  | nil => rfl
  | cons c W => exact if_neg h
theorem cntN_t {W : List Nat} (h : tpW W ≠ 33) : cntN W = 0 := by
  cases W with
  | nil => rfl
  | cons c W => exact if_neg h
theorem stD_38 {W : List Nat} (h : tpW W ≠ 38) : stD 38 W = W := by
  cases W with
  | nil => rfl
  | cons c W =>
    have h : c ≠ 38 := h
    exact if_neg (by omega)
theorem stE_38 {W : List Nat} (h : tpW W ≠ 38) : stE 38 W = [] := by
  cases W with
  | nil => rfl
  | cons c W =>
    have h : c ≠ 38 := h
    exact if_neg (by omega)
/-- what stands above and may be settled -/
def PAo (pa : List Nat) : Prop := ∀ c ∈ pa, c = 38 ∨ c = 124
theorem stD_124 {W : List Nat} (h : tpW W ≠ 38) (h2 : tpW W ≠ 124) : ∀ pa : List Nat, PAo pa → stD 124 (pa ++ W) = W := by
  intro pa
  induction pa with
  | nil =>
    intro _
    cases W with
    | nil => rfl
    | cons c W =>
      have h : c ≠ 38 := h
      have h2 : c ≠ 124 := h2
      exact if_neg (by omega)
  | cons c pa ih =>
    intro hp
    have hc := hp c List.mem_cons_self
    show stD 124 (c :: (pa ++ W)) = W
    unfold stD
    rw [if_pos (by omega)]
    exact ih (fun x hx => hp x (List.mem_cons_of_mem _ hx))
theorem stE_124 {W : List Nat} (h : tpW W ≠ 38) (h2 : tpW W ≠ 124) : ∀ pa : List Nat, PAo pa → stE 124 (pa ++ W) = pa.map ngC := by
  intro pa
  induction pa with
  | nil =>
    intro _
    cases W with
    | nil => rfl
    | cons c W =>
      have h : c ≠ 38 := h
      have h2 : c ≠ 124 := h2
      exact if_neg (by omega)
  | cons c pa ih =>
    intro hp
    have hc := hp c List.mem_cons_self
    show stE 124 (c :: (pa ++ W)) = ngC c :: pa.map ngC
    unfold stE
    rw [if_pos (by omega), ih (fun x hx => hp x (List.mem_cons_of_mem _ hx))]
theorem stD_p {W : List Nat} (h : tpW W ≠ 38) {pa : List Nat} (hp : pa = [] ∨ pa = [38]) : stD 38 (pa ++ W) = W := by
  rcases hp with rfl | rfl
  · exact stD_38 h
  · show stD 38 (38 :: W) = W
    unfold stD
    rw [if_pos (Or.inl rfl)]
    exact stD_38 h
theorem stE_p {W : List Nat} (h : tpW W ≠ 38) {pa : List Nat} (hp : pa = [] ∨ pa = [38]) : stE 38 (pa ++ W) = pa.map ngC := by
  rcases hp with rfl | rfl
  · exact stE_38 h
  · show stE 38 (38 :: W) = _
    unfold stE
    rw [if_pos (Or.inl rfl), stE_38 h]
    rfl
def OM (tx : Nat → Nat) (n b c fn : Nat) (w : zM) (W : List Nat) (o : Nat) (M : List Int32) (r : zR) : Prop := (r.1 = true → ∃ fn' w', f_X9_takesE_L22 (nI c) fn (1 : Int32) w = f_X9_takesE_L22 (nI c) fn' (0 : Int32) w' ∧ n + 2 ≤ r.2.1 + fn' ∧ RM tx n w' r.2.1 (dropN W) (o - cntN W) b (M ++ (r.2.2.map tkM ++ List.replicate (cntN W) (ngC 33))) ∧ frP (PM b c) w w') ∧ (r.1 = false → ∃ w', f_X9_takesE_L22 (nI c) fn (1 : Int32) w = some ((0 : Int32), w') ∧ gI w' 0 15 = nI r.2.1 ∧ frP (PM b c) w w')
def OB (tx : Nat → Nat) (n b c fn : Nat) (x : Int32) (P : List Nat → Prop) (w : zM) (W : List Nat) (o : Nat) (M : List Int32) (r : zR) : Prop := (r.1 = true → ∃ fn' w' pa mm, f_X9_takesE_L22 (nI c) fn x w = f_X9_takesE_L22 (nI c) fn' (0 : Int32) w' ∧ n + 2 ≤ r.2.1 + fn' ∧ RM tx n w' r.2.1 (pa ++ W) o b (M ++ mm) ∧ mm ++ pa.map ngC = r.2.2.map tkM ∧ P pa ∧ frP (PM b c) w w') ∧ (r.1 = false → ∃ w', f_X9_takesE_L22 (nI c) fn x w = some ((0 : Int32), w') ∧ gI w' 0 15 = nI r.2.1 ∧ frP (PM b c) w w')
/-- a joining sign, where none is wanted: what may be settled is, the sign waits -/
theorem joinM {tx : Nat → Nat} {n p o b c fn s : Nat} {V W : List Nat} {M : List Int32} {w : zM} (ho : TxOk tx n) (hs : s = 38 ∨ s = 124) (h : RM tx n w p V o b M) (hp : p ≤ n) (hc : chT tx n p = s) (hb : b ≤ 500) (hl : M.length + V.length ≤ p) (hW : stD s V = W) (hWl : W.length ≤ V.length) : ∃ w', f_X9_takesE_L22 (nI c) (fn + 1) (0 : Int32) w = f_X9_takesE_L22 (nI c) fn (1 : Int32) w' ∧ RM tx n w' (p + 1) (s :: W) o b (M ++ stE s V) ∧ frP (PM b c) w w' := by
  have o1 := ho.1
  obtain ⟨w1, e1, R1, F1⟩ := settM (c := c) hs V 400 o M w h (by omega) (by omega) (by omega)
  have e1' : f_X9_settle (nI s) w = some ((), w1) := e1
  rw [hW] at R1
  have R2 := RM_p (p' := p + 1) (RM_push (c := s) (by omega) R1)
  refine ⟨_, ?_, R2, frP_tr F1 (frP_s (frP_s (frP_s (frP_rf _ w1) (Or.inr (Or.inr (Or.inr rfl)))) (Or.inl ⟨rfl, by omega⟩)) (Or.inl ⟨rfl, by omega⟩))⟩
  show f_X9_takesE_L22_b _ _ _ _ = _
  unfold f_X9_takesE_L22_b
  rw [nextM h.1 ho hp, zb_s, if_pos rfl, hc, chI_n (show s < 128 by omega)]
  have h122 : f_X9_takesE_L122 (nI c) (f_X9_takesE_L22 (nI c) fn) (nI s) w = f_X9_takesE_L22 (nI c) fn (1 : Int32) (sI (sI (sI w1 15 W.length (nI s)) 0 26 (nI (W.length + 1))) 0 15 (nI (p + 1))) := by
    unfold f_X9_takesE_L122
    rw [e1', zb_s, R1.2.1, inB_n (show W.length < 101 by omega) (by decide), zck_t, nI_cl (by omega), zlet_s, gI_sI, if_neg (by omega), R1.2.1, nI_a1, zlet_s, gI_sI, if_neg (by omega), gI_sI, if_neg (by omega), R1.1.2.1, nI_a1, zlet_s]
  rcases hs with rfl | rfl
  · rw [if_pos (show nI 38 = (38 : Int32) from rfl)]
    exact h122
  · rw [if_neg (show ¬ nI 124 = (38 : Int32) from by decide), if_pos (show nI 124 = (124 : Int32) from rfl)]
    exact h122
theorem bothLM {tx : Nat → Nat} {n o b c B : Nat} {W : List Nat} {M : List Int32} {rf : Nat → zR} (ho : TxOk tx n) (hb : b ≤ 500) (hr : ∀ p, p ≤ n → okR n p B (rf p)) (hW : tpW W ≠ 33 ∧ tpW W ≠ 38) (hF : ∀ (p : Nat) (W : List Nat) (M : List Int32) (fn : Nat) (w : zM), p ≤ n → n + 2 ≤ p + fn → RM tx n w p W o b M → M.length + W.length ≤ p → cntN W = 0 → OM tx n b c fn w W o M (rf p)) : ∀ (j p : Nat) (ks : List zK) (fn : Nat) (w : zM) (pa : List Nat) (mm : List Int32), 100 ≤ p + j → p ≤ n → n + 2 ≤ p + fn → RM tx n w p (pa ++ W) o b (M ++ mm) → mm ++ pa.map ngC = ks.map tkM → (pa = [] ∨ pa = [38]) → M.length + ks.length + W.length ≤ p → OB tx n b c fn (0 : Int32) (fun pa => (pa = [] ∨ pa = [38]) ∧ chT tx n (pSeL tx n 38 2 rf j p ks).2.1 ≠ 38) w W o M (pSeL tx n 38 2 rf j p ks) := by
  intro j
  induction j with
  | zero =>
    intro p ks fn w pa mm hj hp hf h hm hpa hl
    have o1 := ho.1
    refine ⟨fun _ => ⟨fn, w, pa, mm, rfl, hf, h, hm, ⟨hpa, ?_⟩, frP_rf _ _⟩, fun q => nope q rfl⟩
    show chT tx n p ≠ 38
    rw [ch_out (by omega)]
    decide
  | succ j ih =>
    intro p ks fn w pa mm hj hp hf h hm hpa hl
    have o1 := ho.1
    have hml : mm.length + pa.length = ks.length := by
      have := congrArg List.length hm
      rw [List.length_append, List.length_map, List.length_map] at this
      exact this
    unfold pSeL
    by_cases c1 : chT tx n p = 38
    · have l1 := ch_lt (tx := tx) (n := n) (p := p) (by omega)
      obtain ⟨fn, rfl⟩ : ∃ g, fn = g + 1 := ⟨fn - 1, by omega⟩
      obtain ⟨w1, e1, R1, F1⟩ := joinM (c := c) (fn := fn) ho (Or.inl rfl) h hp c1 hb (by rw [List.length_append, List.length_append]; omega) (stD_p hW.2 hpa) (by rw [List.length_append]; omega)
      rw [stE_p hW.2 hpa, List.append_assoc, hm] at R1
      obtain ⟨m1, m2⟩ := hF (p + 1) (38 :: W) (M ++ ks.map tkM) fn w1 (by omega) (by omega) R1 (by rw [List.length_append, List.length_map]; show M.length + ks.length + (W.length + 1) ≤ p + 1; omega) (if_neg (by decide))
      obtain ⟨r1, r2, r3⟩ := hr (p + 1) (by omega)
      rw [if_pos c1]
      by_cases c2 : (rf (p + 1)).1 = true
      · obtain ⟨r4, r5⟩ := r3 c2
        obtain ⟨fn', w2, e2, f2, R2, F2⟩ := m1 c2
        rw [if_pos c2]
        have hcn : cntN (38 :: W) = 0 := if_neg (by decide)
        have hdn : dropN (38 :: W) = 38 :: W := if_neg (by decide)
        rw [hcn, hdn, Nat.sub_zero, List.replicate_zero, List.append_nil, List.append_assoc] at R2
        have hm2 : (ks.map tkM ++ (rf (p + 1)).2.2.map tkM) ++ [38].map ngC = (ks ++ ((rf (p + 1)).2.2 ++ [(2, 0, 0, 0)])).map tkM := by
          rw [List.map_append, List.map_append, List.append_assoc]
          rfl
        obtain ⟨g1, g2⟩ := ih (rf (p + 1)).2.1 (ks ++ ((rf (p + 1)).2.2 ++ [(2, 0, 0, 0)])) fn' w2 [38] _ (by omega) r2 f2 R2 hm2 (Or.inr rfl) (by rw [List.length_append, List.length_append]; show M.length + (ks.length + ((rf (p + 1)).2.2.length + 1)) + W.length ≤ _; omega)
        refine ⟨fun q => ?_, fun q => ?_⟩
        · obtain ⟨fn'', w3, pa', mm', e3, f3, R3, hm3, hP, F3⟩ := g1 q
          exact ⟨fn'', w3, pa', mm', e1.trans (e2.trans e3), f3, R3, hm3, hP, frP_tr F1 (frP_tr F2 F3)⟩
        · obtain ⟨w3, e3, R3, F3⟩ := g2 q
          exact ⟨w3, e1.trans (e2.trans e3), R3, frP_tr F1 (frP_tr F2 F3)⟩
      · have c2f : (rf (p + 1)).1 = false := by simpa using c2
        obtain ⟨w2, e2, R2, F2⟩ := m2 c2f
        rw [if_neg c2]
        exact ⟨fun q => nope q rfl, fun _ => ⟨w2, e1.trans e2, R2, frP_tr F1 F2⟩⟩
    · rw [if_neg c1]
      exact ⟨fun _ => ⟨fn, w, pa, mm, rfl, hf, h, hm, ⟨hpa, c1⟩, frP_rf _ _⟩, fun q => nope q rfl⟩
theorem bothM {tx : Nat → Nat} {n o b c B : Nat} {rf : Nat → zR} (ho : TxOk tx n) (hb : b ≤ 500) (hr : ∀ p, p ≤ n → okR n p B (rf p)) (hF : ∀ (p : Nat) (W : List Nat) (M : List Int32) (fn : Nat) (w : zM), p ≤ n → n + 2 ≤ p + fn → RM tx n w p W o b M → M.length + W.length ≤ p → cntN W = 0 → OM tx n b c fn w W o M (rf p)) (p : Nat) (W : List Nat) (M : List Int32) (fn : Nat) (w : zM) (hp : p ≤ n) (hf : n + 2 ≤ p + fn) (h : RM tx n w p W o b M) (hl : M.length + W.length ≤ p) (hW : tpW W ≠ 33 ∧ tpW W ≠ 38) : OB tx n b c fn (1 : Int32) (fun pa => (pa = [] ∨ pa = [38]) ∧ chT tx n (pBo tx n rf p).2.1 ≠ 38) w W o M (pBo tx n rf p) := by
  have hc0 := cntN_t hW.1
  have hd0 := dropN_t hW.1
  obtain ⟨m1, m2⟩ := hF p W M fn w hp hf h hl hc0
  obtain ⟨r1, r2, r3⟩ := hr p hp
  unfold pBo pSe
  by_cases c2 : (rf p).1 = true
  · obtain ⟨r4, r5⟩ := r3 c2
    obtain ⟨fn', w2, e2, f2, R2, F2⟩ := m1 c2
    rw [hc0, hd0, Nat.sub_zero, List.replicate_zero, List.append_nil] at R2
    rw [if_pos c2]
    obtain ⟨g1, g2⟩ := bothLM ho hb hr hW hF 100 (rf p).2.1 (rf p).2.2 fn' w2 [] _ (by omega) r2 f2 R2 (List.append_nil _) (Or.inl rfl) (by omega)
    refine ⟨fun q => ?_, fun q => ?_⟩
    · obtain ⟨fn'', w3, pa', mm', e3, f3, R3, hm3, hP, F3⟩ := g1 q
      exact ⟨fn'', w3, pa', mm', e2.trans e3, f3, R3, hm3, hP, frP_tr F2 F3⟩
    · obtain ⟨w3, e3, R3, F3⟩ := g2 q
      exact ⟨w3, e2.trans e3, R3, frP_tr F2 F3⟩
  · have c2f : (rf p).1 = false := by simpa using c2
    obtain ⟨w2, e2, R2, F2⟩ := m2 c2f
    rw [if_neg c2]
    exact ⟨fun q => nope q rfl, fun _ => ⟨w2, e2, R2, F2⟩⟩
theorem eithLM {tx : Nat → Nat} {n o b c B : Nat} {W : List Nat} {M : List Int32} {rf : Nat → zR} (ho : TxOk tx n) (hb : b ≤ 500) (hr : ∀ p, p ≤ n → okR n p B (rf p)) (hW : tpW W ≠ 38 ∧ tpW W ≠ 124) (hF : ∀ (p : Nat) (W : List Nat) (M : List Int32) (fn : Nat) (w : zM), p ≤ n → n + 2 ≤ p + fn → RM tx n w p W o b M → M.length + W.length ≤ p → (tpW W ≠ 33 ∧ tpW W ≠ 38) → OB tx n b c fn (1 : Int32) (fun pa => (pa = [] ∨ pa = [38]) ∧ chT tx n (rf p).2.1 ≠ 38) w W o M (rf p)) : ∀ (j p : Nat) (ks : List zK) (fn : Nat) (w : zM) (pa : List Nat) (mm : List Int32), 100 ≤ p + j → p ≤ n → n + 2 ≤ p + fn → RM tx n w p (pa ++ W) o b (M ++ mm) → mm ++ pa.map ngC = ks.map tkM → PAo pa → chT tx n p ≠ 38 → M.length + ks.length + W.length ≤ p → OB tx n b c fn (0 : Int32) (fun pa => PAo pa ∧ chT tx n (pSeL tx n 124 3 rf j p ks).2.1 ≠ 38 ∧ chT tx n (pSeL tx n 124 3 rf j p ks).2.1 ≠ 124) w W o M (pSeL tx n 124 3 rf j p ks) := by
  intro j
  induction j with
  | zero =>
    intro p ks fn w pa mm hj hp hf h hm hpa h38 hl
    have o1 := ho.1
    refine ⟨fun _ => ⟨fn, w, pa, mm, rfl, hf, h, hm, ⟨hpa, h38, ?_⟩, frP_rf _ _⟩, fun q => nope q rfl⟩
    show chT tx n p ≠ 124
    rw [ch_out (by omega)]
    decide
  | succ j ih =>
    intro p ks fn w pa mm hj hp hf h hm hpa h38 hl
    have o1 := ho.1
    have hml : mm.length + pa.length = ks.length := by
      have := congrArg List.length hm
      rw [List.length_append, List.length_map, List.length_map] at this
      exact this
    unfold pSeL
    by_cases c1 : chT tx n p = 124
    · have l1 := ch_lt (tx := tx) (n := n) (p := p) (by omega)
      obtain ⟨fn, rfl⟩ : ∃ g, fn = g + 1 := ⟨fn - 1, by omega⟩
      obtain ⟨w1, e1, R1, F1⟩ := joinM (c := c) (fn := fn) ho (Or.inr rfl) h hp c1 hb (by rw [List.length_append, List.length_append]; omega) (stD_124 hW.1 hW.2 pa hpa) (by rw [List.length_append]; omega)
      rw [stE_124 hW.1 hW.2 pa hpa, List.append_assoc, hm] at R1
      obtain ⟨m1, m2⟩ := hF (p + 1) (124 :: W) (M ++ ks.map tkM) fn w1 (by omega) (by omega) R1 (by rw [List.length_append, List.length_map]; show M.length + ks.length + (W.length + 1) ≤ p + 1; omega) ⟨by show 124 ≠ 33; decide, by show 124 ≠ 38; decide⟩
      obtain ⟨r1, r2, r3⟩ := hr (p + 1) (by omega)
      rw [if_pos c1]
      by_cases c2 : (rf (p + 1)).1 = true
      · obtain ⟨r4, r5⟩ := r3 c2
        obtain ⟨fn', w2, pa2, mm2, e2, f2, R2, hm2, ⟨hp2, hp3⟩, F2⟩ := m1 c2
        rw [if_pos c2]
        rw [List.append_assoc] at R2
        have R2' : RM tx n w2 (rf (p + 1)).2.1 ((pa2 ++ [124]) ++ W) o b (M ++ (ks.map tkM ++ mm2)) := by
          rw [List.append_assoc]
          exact R2
        have hm3 : (ks.map tkM ++ mm2) ++ (pa2 ++ [124]).map ngC = (ks ++ ((rf (p + 1)).2.2 ++ [(3, 0, 0, 0)])).map tkM := by
          rw [List.map_append, List.map_append, List.map_append, ← hm2, List.append_assoc, List.append_assoc]
          rfl
        have hpa2 : PAo (pa2 ++ [124]) := by
          intro x hx
          rcases List.mem_append.mp hx with hx | hx
          · rcases hp2 with rfl | rfl
            · cases hx
            · exact Or.inl (List.mem_singleton.mp hx)
          · exact Or.inr (List.mem_singleton.mp hx)
        obtain ⟨g1, g2⟩ := ih (rf (p + 1)).2.1 (ks ++ ((rf (p + 1)).2.2 ++ [(3, 0, 0, 0)])) fn' w2 (pa2 ++ [124]) _ (by omega) r2 f2 R2' hm3 hpa2 hp3 (by rw [List.length_append, List.length_append]; show M.length + (ks.length + ((rf (p + 1)).2.2.length + 1)) + W.length ≤ _; omega)
        refine ⟨fun q => ?_, fun q => ?_⟩
        · obtain ⟨fn'', w3, pa', mm', e3, f3, R3, hm3, hP, F3⟩ := g1 q
          exact ⟨fn'', w3, pa', mm', e1.trans (e2.trans e3), f3, R3, hm3, hP, frP_tr F1 (frP_tr F2 F3)⟩
        · obtain ⟨w3, e3, R3, F3⟩ := g2 q
          exact ⟨w3, e1.trans (e2.trans e3), R3, frP_tr F1 (frP_tr F2 F3)⟩
      · have c2f : (rf (p + 1)).1 = false := by simpa using c2
        obtain ⟨w2, e2, R2, F2⟩ := m2 c2f
        rw [if_neg c2]
        exact ⟨fun q => nope q rfl, fun _ => ⟨w2, e1.trans e2, R2, frP_tr F1 F2⟩⟩
    · rw [if_neg c1]
      exact ⟨fun _ => ⟨fn, w, pa, mm, rfl, hf, h, hm, ⟨hpa, h38, c1⟩, frP_rf _ _⟩, fun q => nope q rfl⟩
theorem eithM {tx : Nat → Nat} {n o b c B : Nat} {rf : Nat → zR} (ho : TxOk tx n) (hb : b ≤ 500) (hr : ∀ p, p ≤ n → okR n p B (rf p)) (hF : ∀ (p : Nat) (W : List Nat) (M : List Int32) (fn : Nat) (w : zM), p ≤ n → n + 2 ≤ p + fn → RM tx n w p W o b M → M.length + W.length ≤ p → cntN W = 0 → OM tx n b c fn w W o M (rf p)) (p : Nat) (W : List Nat) (M : List Int32) (fn : Nat) (w : zM) (hp : p ≤ n) (hf : n + 2 ≤ p + fn) (h : RM tx n w p W o b M) (hl : M.length + W.length ≤ p) (hW : tpW W ≠ 33 ∧ tpW W ≠ 38 ∧ tpW W ≠ 124) : OB tx n b c fn (1 : Int32) (fun pa => PAo pa ∧ chT tx n (pEi tx n rf p).2.1 ≠ 38 ∧ chT tx n (pEi tx n rf p).2.1 ≠ 124) w W o M (pEi tx n rf p) := by
  have hrB : ∀ p, p ≤ n → okR n p (B + 1) (pBo tx n rf p) := fun p hp => okSe (by decide) (Or.inl rfl) hr p hp
  have hFB : ∀ (p : Nat) (W : List Nat) (M : List Int32) (fn : Nat) (w : zM), p ≤ n → n + 2 ≤ p + fn → RM tx n w p W o b M → M.length + W.length ≤ p → (tpW W ≠ 33 ∧ tpW W ≠ 38) → OB tx n b c fn (1 : Int32) (fun pa => (pa = [] ∨ pa = [38]) ∧ chT tx n (pBo tx n rf p).2.1 ≠ 38) w W o M (pBo tx n rf p) := fun p W M fn w a1 a2 a3 a4 a5 => bothM ho hb hr hF p W M fn w a1 a2 a3 a4 a5
  obtain ⟨m1, m2⟩ := hFB p W M fn w hp hf h hl ⟨hW.1, hW.2.1⟩
  obtain ⟨r1, r2, r3⟩ := hrB p hp
  unfold pEi pSe
  by_cases c2 : (pBo tx n rf p).1 = true
  · obtain ⟨r4, r5⟩ := r3 c2
    obtain ⟨fn', w2, pa2, mm2, e2, f2, R2, hm2, ⟨hp2, hp3⟩, F2⟩ := m1 c2
    have hpa2 : PAo pa2 := by
      intro x hx
      rcases hp2 with rfl | rfl
      · cases hx
      · exact Or.inl (List.mem_singleton.mp hx)
    rw [if_pos c2]
    obtain ⟨g1, g2⟩ := eithLM ho hb hrB ⟨hW.2.1, hW.2.2⟩ hFB 100 (pBo tx n rf p).2.1 (pBo tx n rf p).2.2 fn' w2 pa2 mm2 (by omega) r2 f2 R2 hm2 hpa2 hp3 (by omega)
    refine ⟨fun q => ?_, fun q => ?_⟩
    · obtain ⟨fn'', w3, pa', mm', e3, f3, R3, hm3, hP, F3⟩ := g1 q
      exact ⟨fn'', w3, pa', mm', e2.trans e3, f3, R3, hm3, hP, frP_tr F2 F3⟩
    · obtain ⟨w3, e3, R3, F3⟩ := g2 q
      exact ⟨w3, e2.trans e3, R3, frP_tr F2 F3⟩
  · have c2f : (pBo tx n rf p).1 = false := by simpa using c2
    obtain ⟨w2, e2, R2, F2⟩ := m2 c2f
    rw [if_neg c2]
    exact ⟨fun q => nope q rfl, fun _ => ⟨w2, e2, R2, F2⟩⟩
/-- an opening sign where one is wanted -/
theorem openM {tx : Nat → Nat} {n p o b c fn s : Nat} {W : List Nat} {M : List Int32} {w : zM} (ho : TxOk tx n) (hs : s = 33 ∨ s = 40) (h : RM tx n w p W o b M) (hp : p ≤ n) (hc : chT tx n p = s) (hl : W.length ≤ p) (ho4 : o < 4) : ∃ w', f_X9_takesE_L22 (nI c) (fn + 1) (1 : Int32) w = f_X9_takesE_L22 (nI c) fn (1 : Int32) w' ∧ RM tx n w' (p + 1) (s :: W) (o + 1) b M ∧ frP (PM b c) w w' := by
  have o1 := ho.1
  have R1 := RM_27 (o' := o + 1) h
  have R2 := RM_p (p' := p + 1) (RM_push (c := s) (by omega) R1)
  refine ⟨_, ?_, R2, frP_s (frP_s (frP_s (frp27 b c w _) (Or.inr (Or.inr (Or.inr rfl)))) (Or.inl ⟨rfl, by omega⟩)) (Or.inl ⟨rfl, by omega⟩)⟩
  show f_X9_takesE_L22_b _ _ _ _ = _
  unfold f_X9_takesE_L22_b
  rw [nextM h.1 ho hp, zb_s, if_neg (show ¬ (1 : Int32) = 0 from by decide), hc, chI_n (show s < 128 by omega)]
  have h43 : f_X9_takesE_L43 (nI c) (f_X9_takesE_L22 (nI c) fn) (1 : Int32) (nI s) w = f_X9_takesE_L22 (nI c) fn (1 : Int32) (sI (sI (sI (sI w 0 27 (nI (o + 1))) 15 W.length (nI s)) 0 26 (nI (W.length + 1))) 0 15 (nI (p + 1))) := by
    unfold f_X9_takesE_L43
    rw [h.2.2.1, if_neg (show ¬ nI o = (4 : Int32) from fun q => by have := (nI_eq (b := 4) (by omega) (by decide)).mp q; omega), nI_a1, zlet_s, R1.2.1, inB_n (show W.length < 101 by omega) (by decide), zck_t, nI_cl (by omega), zlet_s, gI_sI, if_neg (by omega), R1.2.1, nI_a1, zlet_s, gI_sI, if_neg (by omega), gI_sI, if_neg (by omega), R1.1.2.1, nI_a1, zlet_s]
  rcases hs with rfl | rfl
  · rw [if_pos (show nI 33 = (33 : Int32) from rfl)]
    exact h43
  · rw [if_neg (show ¬ nI 40 = (33 : Int32) from by decide), if_pos (show nI 40 = (40 : Int32) from rfl)]
    exact h43
/-- where E ends: all is settled -/
theorem endM {tx : Nat → Nat} {n p o b c fn : Nat} {pa W : List Nat} {M : List Int32} {w : zM} (ho : TxOk tx n) (h : RM tx n w p (pa ++ W) o b M) (hp : p ≤ n) (h38 : chT tx n p ≠ 38) (h124 : chT tx n p ≠ 124) (hb : b ≤ 500) (hl : M.length + (pa ++ W).length ≤ p) (hW : tpW W ≠ 38 ∧ tpW W ≠ 124) (hpa : PAo pa) (hc : c < 60) : ∃ w', f_X9_takesE_L22 (nI c) (fn + 1) (0 : Int32) w = (if W.length = 0 then some ((1 : Int32), w') else if chT tx n p = 41 then zlet (sI w' 0 26 ((gI w' 0 26) - (1 : Int32))) fun u14 => zlet (sI u14 0 27 ((gI u14 0 27) - (1 : Int32))) fun u15 => zlet (sI u15 0 15 ((gI u15 0 15) + (1 : Int32))) fun u16 => zb (f_X9_whole u16) fun _ u18 => f_X9_takesE_L22 (nI c) fn (0 : Int32) u18 else some ((0 : Int32), w')) ∧ RM tx n w' p W o b (M ++ pa.map ngC) ∧ gI w' 13 c = nI (b + (M ++ pa.map ngC).length) ∧ frP (PM b c) w w' := by
  have o1 := ho.1
  obtain ⟨w1, e1, R1, F1⟩ := settM (c := c) (Or.inr rfl) (pa ++ W) 400 o M w h (by omega) (by omega) (by omega)
  have e1' : f_X9_settle (124 : Int32) w = some ((), w1) := e1
  rw [stD_124 hW.1 hW.2 pa hpa, stE_124 hW.1 hW.2 pa hpa] at R1
  refine ⟨sI w1 13 c (nI (b + (M ++ pa.map ngC).length)), ?_, RM_13 R1, by rw [gI_sI, if_pos ⟨rfl, rfl⟩], frP_tr F1 (frP_s (frP_rf _ w1) (Or.inr (Or.inl ⟨rfl, rfl⟩)))⟩
  show f_X9_takesE_L22_b _ _ _ _ = _
  unfold f_X9_takesE_L22_b
  have hlW : W.length ≤ p := by
    rw [List.length_append] at hl
    omega
  have k26 : gI (sI w1 13 c (nI (b + (M ++ pa.map ngC).length))) 0 26 = nI W.length := by
    rw [gI_sI, if_neg (by omega)]
    exact R1.2.1
  rw [nextM h.1 ho hp, zb_s, if_pos rfl, if_neg (fun q => h38 ((chI_e (d := 38) (D := 38) rfl (by decide) (ch_cs ho p)).mp q)), if_neg (fun q => h124 ((chI_e (d := 124) (D := 124) rfl (by decide) (ch_cs ho p)).mp q)), e1', zb_s, inB_n hc (by decide), zck_t, nI_cl (by omega), R1.2.2.2.2.1, zlet_s, k26]
  by_cases z : W.length = 0
  · rw [if_pos z, if_pos (show nI W.length = (0 : Int32) by rw [z]; rfl)]
  · rw [if_neg z, if_neg (show ¬ nI W.length = (0 : Int32) from fun q => z ((nI_eq (b := 0) (by omega) (by decide)).mp q))]
    by_cases z2 : chT tx n p = 41
    · rw [if_pos z2, if_pos ((chI_e (d := 41) (D := 41) rfl (by decide) (ch_cs ho p)).mpr z2)]
    · rw [if_neg z2, if_neg (fun q => z2 ((chI_e (d := 41) (D := 41) rfl (by decide) (ch_cs ho p)).mp q))]
theorem faM {tx : Nat → Nat} {n b c : Nat} (ht : TxOk tx n) (hb : b ≤ 500) (hc : c < 60) : ∀ (g o : Nat), o ≤ 4 → 5 ≤ g + o → ∀ (p : Nat) (W : List Nat) (M : List Int32) (fn : Nat) (w : zM), p ≤ n → n + 2 ≤ p + fn → RM tx n w p W o b M → M.length + W.length ≤ p → cntN W ≤ o → OM tx n b c fn w W o M (pFa tx n g o p) := by
  intro g
  induction g with
  | zero => intro o h1 h2; omega
  | succ g ih =>
    intro o h1 h2 p W M fn w hp hf h hl hN
    have o1 := ht.1
    obtain ⟨fn, rfl⟩ : ∃ g, fn = g + 1 := ⟨fn - 1, by omega⟩
    unfold pFa
    by_cases c1 : chT tx n p = 33 ∨ chT tx n p = 40
    · have l1 := ch_lt (tx := tx) (n := n) (p := p) (by omega)
      rw [if_pos c1]
      by_cases c2 : o < 4
      · rw [if_pos c2]
        have hr : ∀ p, p ≤ n → okR n p (2 * (4 - (o + 1)) + 1) (pFa tx n g (o + 1) p) := fun p hp => okFa g (o + 1) p (by omega) (by omega) hp
        by_cases c3 : chT tx n p = 40
        · rw [if_pos c3]
          obtain ⟨w1, e1, R1, F1⟩ := openM (c := c) (fn := fn) ht (Or.inr rfl) h hp c3 (by omega) c2
          obtain ⟨m1, m2⟩ := eithM ht hb hr (fun p W M fn w a1 a2 a3 a4 a5 => ih (o + 1) (by omega) (by omega) p W M fn w a1 a2 a3 a4 (by omega)) (p + 1) (40 :: W) M fn w1 (by omega) (by omega) R1 (by show M.length + (W.length + 1) ≤ p + 1; omega) ⟨by show 40 ≠ 33; decide, by show 40 ≠ 38; decide, by show 40 ≠ 124; decide⟩
          obtain ⟨r1, r2, r3⟩ := okEi hr (p + 1) (by omega)
          unfold pClo
          by_cases c4 : (pEi tx n (pFa tx n g (o + 1)) (p + 1)).1 = true
          · obtain ⟨r4, r5⟩ := r3 c4
            obtain ⟨fn2, w2, pa, mm, e2, f2, R2, hm, ⟨hpa, h38, h124⟩, F2⟩ := m1 c4
            have hml : mm.length + pa.length = (pEi tx n (pFa tx n g (o + 1)) (p + 1)).2.2.length := by
              have := congrArg List.length hm
              rw [List.length_append, List.length_map, List.length_map] at this
              exact this
            obtain ⟨fn2, rfl⟩ : ∃ g, fn2 = g + 1 := ⟨fn2 - 1, by omega⟩
            obtain ⟨w3, e3, R3, -, F3⟩ := endM (c := c) (fn := fn2) ht R2 r2 h38 h124 hb (by rw [List.length_append, List.length_append]; show M.length + mm.length + (pa.length + (W.length + 1)) ≤ _; omega) ⟨by show 40 ≠ 38; decide, by show 40 ≠ 124; decide⟩ hpa hc
            rw [List.append_assoc, hm] at R3
            rw [if_neg (show ¬ (40 :: W).length = 0 from Nat.succ_ne_zero _)] at e3
            rw [if_pos c4]
            by_cases c5 : chT tx n (pEi tx n (pFa tx n g (o + 1)) (p + 1)).2.1 = 41
            · have l5 := ch_lt (tx := tx) (n := n) (p := (pEi tx n (pFa tx n g (o + 1)) (p + 1)).2.1) (by omega)
              have hcw := cntN_le W
              rw [if_pos c5] at e3
              rw [R3.2.1, show nI (List.length (40 :: W)) - (1 : Int32) = nI W.length from nI_m1 (a := W.length + 1) (by omega), zlet_s, gI_sI, if_neg (by omega), R3.2.2.1, nI_m1 (by omega), Nat.add_sub_cancel, zlet_s, gI_sI, if_neg (by omega), gI_sI, if_neg (by omega), R3.1.2.1, nI_a1, zlet_s] at e3
              have R4 := RM_p (p' := (pEi tx n (pFa tx n g (o + 1)) (p + 1)).2.1 + 1) (RM_27 (o' := o) (RM_pop R3))
              obtain ⟨w5, e5, R5, F5⟩ := wholeM (c := c) W 400 o _ _ R4 hN (by omega) (by rw [List.length_append, List.length_map]; omega) (by omega) (by omega)
              have e5' : f_X9_whole _ = some ((), w5) := e5
              rw [e5', zb_s] at e3
              rw [if_pos c5]
              refine ⟨fun _ => ⟨fn2, w5, e1.trans (e2.trans e3), by show n + 2 ≤ (pEi tx n (pFa tx n g (o + 1)) (p + 1)).2.1 + 1 + fn2; omega, ?_, frP_tr F1 (frP_tr F2 (frP_tr F3 (frP_tr (frp26 b c w3 _) (frP_tr (frp27 b c _ _) (frP_tr (PM_15 (fr15 _ _)) F5)))))⟩, fun q => nope q rfl⟩
              rw [List.append_assoc] at R5
              exact R5
            · rw [if_neg c5] at e3
              rw [if_neg c5]
              exact ⟨fun q => nope q rfl, fun _ => ⟨w3, e1.trans (e2.trans e3), R3.1.2.1, frP_tr F1 (frP_tr F2 F3)⟩⟩
          · have c4f : (pEi tx n (pFa tx n g (o + 1)) (p + 1)).1 = false := by simpa using c4
            obtain ⟨w2, e2, R2, F2⟩ := m2 c4f
            rw [if_neg c4]
            exact ⟨fun q => nope q rfl, fun _ => ⟨w2, e1.trans e2, R2, frP_tr F1 F2⟩⟩
        · have c33 : chT tx n p = 33 := by omega
          rw [if_neg c3]
          obtain ⟨w1, e1, R1, F1⟩ := openM (c := c) (fn := fn) ht (Or.inl rfl) h hp c33 (by omega) c2
          have hcn : cntN (33 :: W) = cntN W + 1 := if_pos rfl
          have hdn : dropN (33 :: W) = dropN W := if_pos rfl
          obtain ⟨m1, m2⟩ := ih (o + 1) (by omega) (by omega) (p + 1) (33 :: W) M fn w1 (by omega) (by omega) R1 (by show M.length + (W.length + 1) ≤ p + 1; omega) (by omega)
          unfold pNot
          by_cases c4 : (pFa tx n g (o + 1) (p + 1)).1 = true
          · obtain ⟨fn2, w2, e2, f2, R2, F2⟩ := m1 c4
            rw [hcn, hdn, show o + 1 - (cntN W + 1) = o - cntN W by omega, List.replicate_succ] at R2
            rw [if_pos c4]
            refine ⟨fun _ => ⟨fn2, w2, e1.trans e2, f2, ?_, frP_tr F1 F2⟩, fun q => nope q rfl⟩
            show RM tx n w2 _ _ _ _ (M ++ (((pFa tx n g (o + 1) (p + 1)).2.2 ++ [(1, 0, 0, 0)]).map tkM ++ List.replicate (cntN W) (ngC 33)))
            rw [List.map_append, List.append_assoc]
            exact R2
          · have c4f : (pFa tx n g (o + 1) (p + 1)).1 = false := by simpa using c4
            obtain ⟨w2, e2, R2, F2⟩ := m2 c4f
            rw [if_neg c4]
            exact ⟨fun q => nope q rfl, fun _ => ⟨w2, e1.trans e2, R2, frP_tr F1 F2⟩⟩
      · rw [if_neg c2]
        refine ⟨fun q => nope q rfl, fun _ => ⟨w, ?_, h.1.2.1, frP_rf _ _⟩⟩
        have h4 : o = 4 := by omega
        show f_X9_takesE_L22_b _ _ _ _ = _
        unfold f_X9_takesE_L22_b
        have h43 : f_X9_takesE_L43 (nI c) (f_X9_takesE_L22 (nI c) fn) (1 : Int32) (chI (chT tx n p)) w = some ((0 : Int32), w) := by
          unfold f_X9_takesE_L43
          rw [h.2.2.1, h4, if_pos (show nI 4 = (4 : Int32) from rfl)]
        rw [nextM h.1 ht hp, zb_s, if_neg (show ¬ (1 : Int32) = 0 from by decide)]
        by_cases c5 : chT tx n p = 33
        · rw [if_pos ((chI_e (d := 33) (D := 33) rfl (by decide) (ch_cs ht p)).mpr c5)]
          exact h43
        · rw [if_neg (fun q => c5 ((chI_e (d := 33) (D := 33) rfl (by decide) (ch_cs ht p)).mp q)), if_pos ((chI_e (d := 40) (D := 40) rfl (by decide) (ch_cs ht p)).mpr (by omega))]
          exact h43
    · rw [if_neg c1]
      obtain ⟨m1, m2⟩ := testM (c := c) ht h hp hb hl hN (by omega)
      have hstep : ∀ F, f_X9_takesTest w = F → f_X9_takesE_L22 (nI c) (fn + 1) (1 : Int32) w = zb F fun y23 u24 => (if y23 = (0 : Int32) then some ((0 : Int32), u24) else f_X9_takesE_L22 (nI c) fn (0 : Int32) u24) := by
        intro F hF
        show f_X9_takesE_L22_b _ _ _ _ = _
        unfold f_X9_takesE_L22_b
        rw [nextM h.1 ht hp, zb_s, if_neg (show ¬ (1 : Int32) = 0 from by decide), if_neg (fun q => c1 (Or.inl ((chI_e (d := 33) (D := 33) rfl (by decide) (ch_cs ht p)).mp q))), if_neg (fun q => c1 (Or.inr ((chI_e (d := 40) (D := 40) rfl (by decide) (ch_cs ht p)).mp q))), hF]
      refine ⟨fun q => ?_, fun q => ?_⟩
      · obtain ⟨w2, e2, R2, F2⟩ := m1 q
        have e := hstep _ e2
        rw [zb_s, if_neg (by decide)] at e
        obtain ⟨k1, k2, k3⟩ := okTe (tx := tx) hp
        have := (k3 q).1
        have hk : p + 1 ≤ (pTe tx n p).2.1 := by
          unfold pTe at q ⊢
          by_cases z1 : ltT (chT tx n p) = 6
          · rw [if_pos z1] at q
            exact nope q rfl
          · rw [if_neg z1] at q ⊢
            by_cases z2 : 60 ≤ chT tx n (p + 1) ∧ chT tx n (p + 1) ≤ 62
            · rw [if_pos z2] at q ⊢
              have l2 := ch_lt (tx := tx) (n := n) (p := p + 1) (by omega)
              have := (nuT_ok (tx := tx) (n := n) (p := p + 2) (by omega)).1
              by_cases z3 : (nuT tx n (p + 2)).1 = true
              · rw [if_pos z3]
                show p + 1 ≤ (nuT tx n (p + 2)).2.1
                omega
              · rw [if_neg z3]
                show p + 1 ≤ p + 2
                omega
            · rw [if_neg z2]
              exact Nat.le_refl _
        exact ⟨fn, w2, e, by omega, R2, F2⟩
      · obtain ⟨w2, e2, R2, F2⟩ := m2 q
        have e := hstep _ e2
        rw [zb_s, if_pos rfl] at e
        exact ⟨w2, e, R2, F2⟩
