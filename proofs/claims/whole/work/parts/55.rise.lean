/-! ===== PURE: squares of both, sum, spark, rise ===== -/
def OkS (k : Nat) (sqs : Nat → zQ) : Prop := k ≤ 6 ∧ sqs 0 = [] ∧ ∀ q, q ≤ k → OkQ (sqs q)
def SqX (k : Nat) (u : zM) (sqs : Nat → zQ) : Prop := ∀ q, 1 ≤ q → q ≤ k → SX u (75 + 3 * q) (sqs q)
def SqM (k : Nat) (w : zM) (sqs : Nat → zQ) : Prop := ∀ q, 1 ≤ q → q ≤ k → SM w (q - 1) (sqs q)
theorem SqM_pfr {k : Nat} {w w' : zM} {sqs : Nat → zQ} (g : pfr w w') (h : SqM k w sqs) : SqM k w' sqs := fun q h1 h2 => SM_pfr g (h q h1 h2)
theorem isQ_ok : ∀ q, q ≤ 6 → 1 ≤ q → isQ (75 + 3 * q) = true := by decide
def spkT (sqs : Nat → zQ) (T : zT) : Nat := sparkQ (sqs (T 0 4)) 80
theorem spkT_le {sqs : Nat → zQ} {T : zT} {k : Nat} (hs : OkS k sqs) (ho : OkT k T) : spkT sqs T ≤ 99 := sparkQ_le _ _ (by omega) (hs.2.2 _ ho.2.2.2.2.1).2.2
theorem spkX {t k : Nat} {u : zM} {T : zT} {sqs : Nat → zQ} (h : VX t u T) (ho : OkT k T) (hs : OkS k sqs) (hq : SqX k u sqs) : f_X6_spark t u = some (nI (spkT sqs T), u) := by
  have e := h.2.2.2.2.1
  have hk := ho.2.2.2.2.1
  unfold f_X6_spark spkT
  rw [e]
  by_cases c : T 0 4 = 0
  · rw [if_pos c, zmo_n, c, hs.2.1]
    rfl
  · have hi := isQ_ok (T 0 4) (by have := hs.1; omega) (by omega)
    rw [if_neg c, zmo_s, hi, zck_t, zmo_s, hi, zck_t, (hq _ (by omega) hk).1]
theorem bgM {w : zM} {T : zT} {k : Nat} (h : VM 0 0 13 w T) (ho : OkT k T) (hk : k ≤ 6) : f_X9_begin w = some (nI (10 * (T 0 4 - 1)), w) := by
  have e : gI w 0 13 = nI (T 0 4) - nI 1 := h.2.2.2.2.1
  have h4 := ho.2.2.2.2.1
  unfold f_X9_begin
  rw [e]
  by_cases c : T 0 4 = 0
  · rw [c]
    rfl
  · simp (disch := omega) only [↓zb_s, ↓zck_t, ↓zlet_s, ↓zlx_s, ↓zly_s, ↓zmo_n, ↓zmo_s, ↓reduceIte, nle_t, nle_f, nlt_t, nlt_f, neq_t, neq_f, mlt_t, mle_t, mlt_f, mle_f, meq_f, meq_f2, mmeq_t, mmeq_f, inB_n, nI_cl, nI_add, pk_mul, pk_sub, pk_div, zrem_n, q0, q1, q2, q3, q4, q5, q6, q7, q8, q9, q10, q12, q20, q24, q40, q50, q60, q61, q80, q99, q100, q9999]
theorem bhM {w : zM} {T : zT} {k : Nat} {sqs : Nat → zQ} (h : VM 0 0 13 w T) (ho : OkT k T) (hs : OkS k sqs) (hq : SqM k w sqs) : f_X9_behind w = some (nI (10 * (T 0 4 - 1) + (sqs (T 0 4)).length), w) := by
  have e : gI w 0 13 = nI (T 0 4) - nI 1 := h.2.2.2.2.1
  have h4 := ho.2.2.2.2.1
  have hk := hs.1
  unfold f_X9_behind
  rw [e]
  by_cases c : T 0 4 = 0
  · rw [c, hs.2.1]
    rfl
  · have e9 := (hq _ (by omega) h4).1
    simp (disch := omega) only [↓zb_s, ↓zck_t, ↓zlet_s, ↓zlx_s, ↓zly_s, ↓zmo_n, ↓zmo_s, ↓reduceIte, nle_t, nle_f, nlt_t, nlt_f, neq_t, neq_f, mlt_t, mle_t, mlt_f, mle_f, meq_f, meq_f2, mmeq_t, mmeq_f, inB_n, nI_cl, nI_add, pk_mul, pk_sub, pk_div, zrem_n, q0, q1, q2, q3, q4, q5, q6, q7, q8, q9, q10, q12, q20, q24, q40, q50, q60, q61, q80, q99, q100, q9999, e9]
theorem spkM {w : zM} {T : zT} {k : Nat} {sqs : Nat → zQ} (h : VM 0 0 13 w T) (ho : OkT k T) (hs : OkS k sqs) (hq : SqM k w sqs) : f_X9_spark w = some (nI (spkT sqs T), w) := by
  have hb := bhM h ho hs hq
  have hQ := hs.2.2 _ ho.2.2.2.2.1
  have h4 := ho.2.2.2.2.1
  have hk := hs.1
  have hl : ∀ (Q : zQ) (j fn n : Nat), LM w Q j → j + Q.length = 10 * (T 0 4 - 1) + (sqs (T 0 4)).length → Q.length < fn → (∀ c ∈ Q, OkC c) → f_X9_spark_L8 fn (nI n) (nI j) w = some (nI (sparkQ Q n), w) := by
    intro Q
    induction Q with
    | nil =>
      intro j fn n _ hj hf _
      have hj : j + 0 = _ := hj
      obtain ⟨fn, rfl⟩ : ∃ g, fn = g + 1 := ⟨fn - 1, by omega⟩
      show f_X9_spark_L8_b _ _ _ _ = _
      have hl := hQ.1
      unfold f_X9_spark_L8_b
      rw [hb, zb_s, if_pos (nI_le (by omega) (by omega))]
      rfl
    | cons c Q ih =>
      intro j fn n hL hj hf hO
      have hj : j + (Q.length + 1) = _ := hj
      have hf : Q.length + 1 < fn := hf
      obtain ⟨o1, o2, -⟩ := hO c List.mem_cons_self
      obtain ⟨l1, l2, -, l4⟩ := hL
      obtain ⟨fn, rfl⟩ : ∃ g, fn = g + 1 := ⟨fn - 1, by omega⟩
      show f_X9_spark_L8_b _ _ _ _ = some (nI (sparkQ Q (if c.1 = 2 then c.2.1 else n)), w)
      have hl := hQ.1
      unfold f_X9_spark_L8_b
      by_cases c2 : c.1 = 2
      · rw [if_pos c2, ← ih (j + 1) fn c.2.1 l4 (by omega) (by omega) (fun c' h' => hO c' (List.mem_cons_of_mem _ h'))]
        simp (disch := omega) only [↓zb_s, ↓zck_t, ↓zlet_s, ↓zlx_s, ↓zly_s, ↓zmo_n, ↓zmo_s, ↓reduceIte, nle_t, nle_f, nlt_t, nlt_f, neq_t, neq_f, mlt_t, mle_t, mlt_f, mle_f, meq_f, meq_f2, mmeq_t, mmeq_f, inB_n, nI_cl, nI_add, pk_mul, pk_sub, pk_div, zrem_n, q0, q1, q2, q3, q4, q5, q6, q7, q8, q9, q10, q12, q20, q24, q40, q50, q60, q61, q80, q99, q100, q9999, hb, l1, l2]
      · rw [if_neg c2, ← ih (j + 1) fn n l4 (by omega) (by omega) (fun c' h' => hO c' (List.mem_cons_of_mem _ h'))]
        simp (disch := omega) only [↓zb_s, ↓zck_t, ↓zlet_s, ↓zlx_s, ↓zly_s, ↓zmo_n, ↓zmo_s, ↓reduceIte, nle_t, nle_f, nlt_t, nlt_f, neq_t, neq_f, mlt_t, mle_t, mlt_f, mle_f, meq_f, meq_f2, mmeq_t, mmeq_f, inB_n, nI_cl, nI_add, pk_mul, pk_sub, pk_div, zrem_n, q0, q1, q2, q3, q4, q5, q6, q7, q8, q9, q10, q12, q20, q24, q40, q50, q60, q61, q80, q99, q100, q9999, hb, l1, l2]
  unfold f_X9_spark
  rw [bgM h ho hk, zb_s]
  by_cases c : T 0 4 = 0
  · have e0 : sqs (T 0 4) = [] := by rw [c, hs.2.1]
    refine (hl [] _ 400 80 trivial (by rw [e0]) (by decide) (fun c h => by cases h)).trans ?_
    unfold spkT
    rw [e0]
  · exact hl (sqs (T 0 4)) _ 400 80 (hq _ (by omega) h4).2 rfl (by have := hQ.1; omega) hQ.2.2
theorem szQ_mem : ∀ (Q : zQ) (c : zC), c ∈ Q → c.1 ≠ 2 → c.2.2.length ≤ szQ Q := by
  intro Q
  induction Q with
  | nil => intro c h _; cases h
  | cons d Q ih =>
    intro c h h2
    show _ ≤ (if d.1 = 2 then 0 else d.2.2.length + 1) + szQ Q
    rcases List.mem_cons.mp h with rfl | h
    · rw [if_neg h2]
      omega
    · have := ih c h h2
      omega
theorem sumSM {w : zM} {T : zT} {k p : Nat} {sqs : Nat → zQ} (h : VM 0 0 13 w T) (ho : OkT k T) (hs : OkS k sqs) (hq : SqM k w sqs) (hp : p < T 0 0) : ∃ w', pfr w w' ∧ f_X9_sum (nI p) w = some (sumQ (facT T p) (sqs (T 0 4)) 0, w') := by
  have hQ := hs.2.2 _ ho.2.2.2.2.1
  have h4 := ho.2.2.2.2.1
  have hk := hs.1
  have hl : ∀ (Q : zQ) (j fn : Nat) (x : Int32) (w : zM), VM 0 0 13 w T → SqM k w sqs → LM w Q j → j + Q.length = 10 * (T 0 4 - 1) + (sqs (T 0 4)).length → Q.length < fn → (∀ c ∈ Q, OkC c) → (∀ c ∈ Q, c.1 ≠ 2 → c.2.2.length ≤ 100) → ∃ w', pfr w w' ∧ f_X9_sum_L7 (nI p) fn x (nI j) w = some (sumQ (facT T p) Q x, w') := by
    intro Q
    induction Q with
    | nil =>
      intro j fn x w hV hqw _ hj hf _ _
      have hj : j + 0 = _ := hj
      have hb := bhM hV ho hs hqw
      obtain ⟨fn, rfl⟩ : ∃ g, fn = g + 1 := ⟨fn - 1, by omega⟩
      have hl := hQ.1
      refine ⟨w, pfr_rf w, ?_⟩
      show f_X9_sum_L7_b _ _ _ _ _ = _
      unfold f_X9_sum_L7_b
      rw [hb, zb_s, if_pos (nI_le (by omega) (by omega))]
      rfl
    | cons c Q ih =>
      intro j fn x w hV hqw hL hj hf hO hz
      have hj : j + (Q.length + 1) = _ := hj
      have hf : Q.length + 1 < fn := hf
      have hb := bhM hV ho hs hqw
      obtain ⟨o1, o2, o3⟩ := hO c List.mem_cons_self
      have hO2 : ∀ c' ∈ Q, OkC c' := fun c' h' => hO c' (List.mem_cons_of_mem _ h')
      have hz2 : ∀ c' ∈ Q, c'.1 ≠ 2 → c'.2.2.length ≤ 100 := fun c' h' => hz c' (List.mem_cons_of_mem _ h')
      obtain ⟨l1, l2, l3, l4⟩ := hL
      obtain ⟨fn, rfl⟩ : ∃ g, fn = g + 1 := ⟨fn - 1, by omega⟩
      have hl := hQ.1
      have hj60 : j < 60 := by omega
      show ∃ w', pfr w w' ∧ f_X9_sum_L7_b _ _ _ _ _ = some (sumQ (facT T p) Q (if c.1 = 2 then x else if (evK (facT T p) c.2.2 []).headD false = true then x + sgnC c else x), w')
      unfold f_X9_sum_L7_b
      rw [hb, zb_s, if_neg (nI_ge (by omega) (by omega)), inB_n hj60 (by decide), zck_t, nI_cl (n := j) (by omega), l1]
      by_cases c2 : c.1 = 2
      · rw [if_pos c2, if_pos (show (1 : Int32) < nI c.1 by rw [c2]; decide), nI_a1]
        exact ih (j + 1) fn x w hV hqw l4 (by omega) (by omega) hO2 hz2
      · rw [if_neg c2, if_neg (show ¬ (1 : Int32) < nI c.1 from nI_nlt (a := 1) (b := c.1) (by omega) (by decide))]
        obtain ⟨a, a1, a2, a3, a4⟩ := l3 c2
        obtain ⟨w1, g1, g2⟩ := holdsM ho hp hj60 hV (o3 c2) (hz c List.mem_cons_self c2) a1 a2 a3 a4
        have hV1 := VM_pfr hV g1
        have hq1 := SqM_pfr g1 hqw
        have hL1 := LM_pfr g1 _ _ l4
        have m1 : gI w1 10 j = nI c.1 := (g1.1 _ _ (by omega)).trans l1
        have m2 : gI w1 11 j = nI c.2.1 := (g1.1 _ _ (by omega)).trans l2
        rw [g2, zb_s]
        cases hbb : (evK (facT T p) c.2.2 []).headD false with
        | false =>
          rw [if_pos (show nI (b2n false) = (0 : Int32) by decide), if_neg (by decide), nI_a1]
          obtain ⟨w', g3, g4⟩ := ih (j + 1) fn x w1 hV1 hq1 hL1 (by omega) (by omega) hO2 hz2
          exact ⟨w', pfr_tr g1 g3, g4⟩
        | true =>
          rw [if_neg (show ¬ nI (b2n true) = (0 : Int32) by decide), if_pos rfl, zck_t, m1, zck_t, m2, zlx_s, zck_t, zlx_s, nI_a1]
          obtain ⟨w', g3, g4⟩ := ih (j + 1) fn (x + sgnC c) w1 hV1 hq1 hL1 (by omega) (by omega) hO2 hz2
          refine ⟨w', pfr_tr g1 g3, ?_⟩
          rw [← g4]
          unfold sgnC
          by_cases c0 : c.1 = 0
          · rw [if_pos (show nI c.1 = (0 : Int32) by rw [c0]; rfl), if_pos c0]
          · rw [if_neg (show ¬ nI c.1 = (0 : Int32) from nI_ne0 (by omega) (by omega)), if_neg c0]
  unfold f_X9_sum
  rw [bgM h ho hk, zb_s]
  by_cases c : T 0 4 = 0
  · have e0 : sqs (T 0 4) = [] := by rw [c, hs.2.1]
    obtain ⟨w', g1, g2⟩ := hl [] _ 400 0 w h hq trivial (by rw [e0]) (by decide) (fun c h => by cases h) (fun c h => by cases h)
    refine ⟨w', g1, g2.trans ?_⟩
    rw [e0]
  · have hz := hQ.2.1
    exact hl (sqs (T 0 4)) _ 400 0 w h hq (hq _ (by omega) h4).2 rfl (by have := hQ.1; omega) hQ.2.2 (fun c' h' h2 => Nat.le_trans (szQ_mem _ c' h' h2) hz)
/-- the rise of one -/
def riseT (sqs : Nat → zQ) (T : zT) (p : Nat) : Int32 :=
  if T 1 p = 1 then (if 50 ≤ T 3 p then sumQ (facT T p) (sqs (T 0 4)) 0 - nI 3 else sumQ (facT T p) (sqs (T 0 4)) 0)
  else if T 1 p = 2 then (if T 0 3 % 3 = 0 then sumQ (facT T p) (sqs (T 0 4)) 0 + nI 5 else sumQ (facT T p) (sqs (T 0 4)) 0)
  else if T 1 p = 3 then sumQ (facT T p) (sqs (T 0 4)) 0 / nI 2
  else if T 1 p = 4 then (if 50 ≤ T 3 p then sumQ (facT T p) (sqs (T 0 4)) 0 - nI 3 else sumQ (facT T p) (sqs (T 0 4)) 0) + nI (T 2 p)
  else if T 1 p = 5 then (if T 0 3 % 3 = 0 then sumQ (facT T p) (sqs (T 0 4)) 0 + nI 5 else sumQ (facT T p) (sqs (T 0 4)) 0) + nI 2 * nI (besT T p 50)
  else if T 1 p = 6 then sumQ (facT T p) (sqs (T 0 4)) 0 / nI 2 + nI (T 5 (4 * p + T 0 3 % 4))
  else sumQ (facT T p) (sqs (T 0 4)) 0
theorem riseM {w : zM} {T : zT} {k p : Nat} {sqs : Nat → zQ} (h : VM 0 0 13 w T) (ho : OkT k T) (hs : OkS k sqs) (hq : SqM k w sqs) (hp : p < T 0 0) : ∃ w', pfr w w' ∧ f_X9_rise (nI p) w = some (riseT sqs T p, w') := by
  obtain ⟨w', g1, g2⟩ := sumSM h ho hs hq hp
  refine ⟨w', g1, ?_⟩
  have hV := VM_pfr h g1
  have hn := ho.1
  have hm := ho.2.2.2.1
  have e1 : gI w' 1 p = nI (T 1 p) := (hV.2.2.2.2.2.1 p hp).1
  have e2 : gI w' 2 p = nI (T 2 p) := (hV.2.2.2.2.2.1 p hp).2.1
  have e3 : gI w' 3 p = nI (T 3 p) := (hV.2.2.2.2.2.1 p hp).2.2
  have e4 : gI w' 0 4 = nI (T 0 3) := hV.2.2.2.1
  have hm4 : T 0 3 % 4 < 4 := Nat.mod_lt _ (by decide)
  have e5 : gI w' 4 (4 * p + T 0 3 % 4) = nI (T 5 (4 * p + T 0 3 % 4)) := hV.2.2.2.2.2.2.1 _ (by omega)
  obtain ⟨o1, o2, o3, -⟩ := ho.2.2.2.2.2.1 p hp
  have hb := besM hV ho hp (l := 50) (by omega)
  have hin : inB (nI p) 6 = true := inB_n (show p < 6 by omega) (by decide)
  have hcl : (nI p).toNatClampNeg = p := nI_cl (by omega)
  have hz4 : zrem (nI (T 0 3)) (4 : Int32) = nI (T 0 3 % 4) := zrem_n (d := 4) (by omega) (by decide) (by decide)
  have hz3 : zrem (nI (T 0 3)) (3 : Int32) = nI (T 0 3 % 3) := zrem_n (d := 3) (by omega) (by decide) (by decide)
  have hm3 : T 0 3 % 3 < 3 := Nat.mod_lt _ (by decide)
  have h41 : ∀ x2 x3 s0 : Int32, f_X9_rise_L41 (nI p) x2 x3 s0 w' = some (if T 1 p = 1 then x3 else if T 1 p = 2 then s0 else if T 1 p = 3 then x2 / nI 2 else if T 1 p = 4 then x3 + nI (T 2 p) else if T 1 p = 5 then s0 + nI 2 * nI (besT T p 50) else if T 1 p = 6 then x2 / nI 2 + nI (T 5 (4 * p + T 0 3 % 4)) else x2, w') := by
    intro x2 x3 s0
    unfold f_X9_rise_L41
    rw [hin, zck_t, hcl, e1, zlx_s, e4, hz4, zck_t, mul4c, inB_n (show 4 * p + T 0 3 % 4 < 24 by omega) (by decide), zck_t, nI_cl (n := 4 * p + T 0 3 % 4) (by omega), e5, e2, show (50 : Int32) = nI 50 from rfl, hb]
    have hc : T 1 p = 0 ∨ T 1 p = 1 ∨ T 1 p = 2 ∨ T 1 p = 3 ∨ T 1 p = 4 ∨ T 1 p = 5 ∨ T 1 p = 6 := by omega
    rcases hc with c | c | c | c | c | c | c <;> rw [c] <;> rfl
  unfold f_X9_rise riseT
  rw [g2, zb_s, hin, zck_t, hcl, e3]
  generalize sumQ (facT T p) (sqs (T 0 4)) 0 = S
  have h24 : ∀ s0 : Int32, f_X9_rise_L24 (nI p) S s0 w' = f_X9_rise_L41 (nI p) S s0 (if T 0 3 % 3 = 0 then S + nI 5 else S) w' := by
    intro s0
    unfold f_X9_rise_L24
    rw [e4, hz3]
    by_cases c : T 0 3 % 3 = 0
    · rw [if_pos (show nI (T 0 3 % 3) = (0 : Int32) by rw [c]; rfl), if_pos c]
      rfl
    · rw [if_neg (show ¬ nI (T 0 3 % 3) = (0 : Int32) from nI_ne0 (by omega) (by omega)), if_neg c]
  rw [h24, h24, h41, h41]
  by_cases c : 50 ≤ T 3 p
  · rw [if_neg (show ¬ nI (T 3 p) < (50 : Int32) from nI_nlt (b := 50) c (by omega)), if_pos c]
    rfl
  · rw [if_pos (show nI (T 3 p) < (50 : Int32) from nI_lt (b := 50) (by omega) (by decide)), if_neg c]
/-- nothing but a cell of the class has changed -/
def cfr (b : Nat) (u u' : zM) : Prop := (∀ a k, a ≠ b → gI u' a k = gI u a k) ∧ (∀ a k, gJ u' a k = gJ u a k) ∧ ∀ a k, gO u' a k = gO u a k
theorem TX_cg {u u' : zM} {a : Nat} (g : ∀ k, gI u' a k = gI u a k) : ∀ (ks : List zK) (i : Nat), TX u a ks i → TX u' a ks i := by
  intro ks
  induction ks with
  | nil => intro i _; exact trivial
  | cons k ks ih => intro i h; exact ⟨(g _).trans h.1, ih _ h.2⟩
theorem LX_cg {u u' : zM} {t : Nat} (g1 : ∀ k, gI u' (t + 1) k = gI u (t + 1) k) (g2 : ∀ k, gI u' (t + 2) k = gI u (t + 2) k) : ∀ (Q : zQ) (i e : Nat), LX u t Q i e → LX u' t Q i e := by
  intro Q
  induction Q with
  | nil => intro i e _; exact trivial
  | cons c Q ih =>
    intro i e h
    have h : (if c.1 = 2 then LX u t Q i e else TX u (t + 1) c.2.2 i ∧ gI u (t + 1) (i + c.2.2.length) = -nI 4 ∧ gI u (t + 2) e = sgnC c ∧ LX u t Q (i + c.2.2.length + 1) (e + 1)) := h
    show (if c.1 = 2 then LX u' t Q i e else TX u' (t + 1) c.2.2 i ∧ gI u' (t + 1) (i + c.2.2.length) = -nI 4 ∧ gI u' (t + 2) e = sgnC c ∧ LX u' t Q (i + c.2.2.length + 1) (e + 1))
    by_cases c2 : c.1 = 2
    · rw [if_pos c2] at h ⊢
      exact ih _ _ h
    · rw [if_neg c2] at h ⊢
      exact ⟨TX_cg g1 _ _ h.1, (g1 _).trans h.2.1, (g2 _).trans h.2.2.1, ih _ _ h.2.2.2⟩
theorem SX_cg {u u' : zM} {t : Nat} {Q : zQ} (h : SX u t Q) (g0 : ∀ k, gI u' t k = gI u t k) (g1 : ∀ k, gI u' (t + 1) k = gI u (t + 1) k) (g2 : ∀ k, gI u' (t + 2) k = gI u (t + 2) k) : SX u' t Q := ⟨(g0 _).trans h.1, (g0 _).trans h.2.1, (g0 _).trans h.2.2.1, LX_cg g1 g2 _ _ _ h.2.2.2⟩
theorem SqX_cg {k : Nat} {u u' : zM} {sqs : Nat → zQ} (h : SqX k u sqs) (g : ∀ a i, 78 ≤ a → gI u' a i = gI u a i) : SqX k u' sqs := fun q h1 h2 => SX_cg (h q h1 h2) (fun i => g _ i (by omega)) (fun i => g _ i (by omega)) (fun i => g _ i (by omega))
theorem setLX {t k p : Nat} {u : zM} {T : zT} (h : VX t u T) (ho : OkT k T) (hp : p < T 0 0) : ∃ u', f_X6_setLetters t (nI p) (nI (besT T p 50)) u = some ((), u') ∧ cfr (t + 10) u u' ∧ ∀ f, f < 6 → gI u' (t + 10) f = nI (facT T p f) := by
  have hn := ho.1
  have hm := ho.2.2.2.1
  obtain ⟨e1, e2, e3, -⟩ := h.2.2.2.2.2.1 p hp
  have e4 := h.2.2.2.1
  obtain ⟨o1, o2, o3, -⟩ := ho.2.2.2.2.2.1 p hp
  refine ⟨sI (sI (sI (sI (sI (sI u (t + 10) 0 (nI p)) (t + 10) 1 (nI (T 1 p))) (t + 10) 2 (nI (T 2 p))) (t + 10) 3 (nI (T 3 p / 10))) (t + 10) 4 (nI (besT T p 50))) (t + 10) 5 (nI (T 0 3 % 10)), ?_, ⟨fun a j ha => ?_, fun _ _ => rfl, fun _ _ => rfl⟩, fun f hf => ?_⟩
  · have n1 : ∀ x, (t + 1 = t + 10 ∧ x) = False := fun x => eq_false (by omega)
    have n2 : ∀ x, (t + 2 = t + 10 ∧ x) = False := fun x => eq_false (by omega)
    have n3 : ∀ x, (t + 3 = t + 10 ∧ x) = False := fun x => eq_false (by omega)
    have n0 : ∀ x, (t = t + 10 ∧ x) = False := fun x => eq_false (by omega)
    unfold f_X6_setLetters
    simp (disch := omega) only [↓zb_s, ↓zck_t, ↓zlet_s, ↓zlx_s, ↓zly_s, ↓zmo_n, ↓zmo_s, ↓reduceIte, nle_t, nle_f, nlt_t, nlt_f, neq_t, neq_f, mlt_t, mle_t, mlt_f, mle_f, meq_f, meq_f2, mmeq_t, mmeq_f, inB_n, nI_cl, nI_add, pk_mul, pk_sub, pk_div, zrem_n, q0, q1, q2, q3, q4, q5, q6, q7, q8, q9, q10, q12, q20, q24, q40, q50, q60, q61, q80, q99, q100, q9999, gI_sI, gI_sO, gI_sJ, gO_sI, gO_sO, gO_sJ, gI_cpI, gO_cpI, e1, e2, e3, e4, n1, n2, n3, n0, if_false, q11]
  · repeat rw [gI_sI, if_neg (by omega)]
  · have hc : f = 0 ∨ f = 1 ∨ f = 2 ∨ f = 3 ∨ f = 4 ∨ f = 5 := by omega
    rcases hc with rfl | rfl | rfl | rfl | rfl | rfl <;> simp [gI_sI, facT]
theorem riseX {t k p : Nat} {u : zM} {T : zT} {sqs : Nat → zQ} (h : VX t u T) (ho : OkT k T) (hs : OkS k sqs) (hq : SqX k u sqs) (ht : t + 10 < 78) (hp : p < T 0 0) : ∃ u', cfr (t + 10) u u' ∧ f_X6_riseOf t (nI p) u = some (riseT sqs T p, u') := by
  obtain ⟨u', g1, g2, g3⟩ := setLX h ho hp
  refine ⟨u', g2, ?_⟩
  have hV : VX t u' T := VX_cg h (fun c j hc => g2.1 _ _ (by omega)) (g2.2.2 _ _)
  have hq' : SqX k u' sqs := SqX_cg hq (fun a i ha => g2.1 _ _ (by omega))
  have hn := ho.1
  have hm := ho.2.2.2.1
  obtain ⟨e1, e2, e3, -⟩ := hV.2.2.2.2.2.1 p hp
  have e4 := hV.2.2.2.1
  have hm4 : T 0 3 % 4 < 4 := Nat.mod_lt _ (by decide)
  have e5 := hV.2.2.2.2.2.2.1 (4 * p + T 0 3 % 4) (by omega)
  obtain ⟨o1, o2, o3, -⟩ := ho.2.2.2.2.2.1 p hp
  have hb := besX h ho hp (l := 50) (by omega)
  have hin : inB (nI p) 6 = true := inB_n (show p < 6 by omega) (by decide)
  have hcl : (nI p).toNatClampNeg = p := nI_cl (by omega)
  have hz4 : zrem (nI (T 0 3)) (4 : Int32) = nI (T 0 3 % 4) := zrem_n (d := 4) (by omega) (by decide) (by decide)
  have hz3 : zrem (nI (T 0 3)) (3 : Int32) = nI (T 0 3 % 3) := zrem_n (d := 3) (by omega) (by decide) (by decide)
  have hm3 : T 0 3 % 3 < 3 := Nat.mod_lt _ (by decide)
  have h73 : ∀ x3 x4 s0 : Int32, f_X6_riseOf_L73 t (nI p) (nI (besT T p 50)) x3 x4 s0 u' = some (if T 1 p = 1 then s0 else if T 1 p = 2 then x4 else if T 1 p = 3 then x3 / nI 2 else if T 1 p = 4 then s0 + nI (T 2 p) else if T 1 p = 5 then x4 + nI 2 * nI (besT T p 50) else if T 1 p = 6 then x3 / nI 2 + nI (T 5 (4 * p + T 0 3 % 4)) else x3, u') := by
    intro x3 x4 s0
    unfold f_X6_riseOf_L73
    rw [hin, zck_t, hcl, e1, zlx_s, e4, hz4, zck_t, mulc4, inB_n (show 4 * p + T 0 3 % 4 < 24 by omega) (by decide), zck_t, nI_cl (n := 4 * p + T 0 3 % 4) (by omega), e5, e2]
    have hc : T 1 p = 0 ∨ T 1 p = 1 ∨ T 1 p = 2 ∨ T 1 p = 3 ∨ T 1 p = 4 ∨ T 1 p = 5 ∨ T 1 p = 6 := by omega
    rcases hc with c | c | c | c | c | c | c <;> rw [c] <;> rfl
  have h36 : f_X6_riseOf_L36 t (nI p) (nI (besT T p 50)) (sumQ (facT T p) (sqs (T 0 4)) 0) u' = some (riseT sqs T p, u') := by
    unfold f_X6_riseOf_L36 riseT
    generalize sumQ (facT T p) (sqs (T 0 4)) 0 = S
    have h53 : ∀ s0 : Int32, f_X6_riseOf_L53 t (nI p) (nI (besT T p 50)) S s0 u' = f_X6_riseOf_L73 t (nI p) (nI (besT T p 50)) S s0 (if 50 ≤ T 3 p then S - nI 3 else S) u' := by
      intro s0
      unfold f_X6_riseOf_L53
      rw [hin, zck_t, hcl, e3]
      by_cases c : 50 ≤ T 3 p
      · rw [if_neg (show ¬ nI (T 3 p) < (50 : Int32) from nI_nlt (b := 50) c (by omega)), if_pos c]
        rfl
      · rw [if_pos (show nI (T 3 p) < (50 : Int32) from nI_lt (b := 50) (by omega) (by decide)), if_neg c]
    rw [h53, h53, h73, h73, e4, hz3]
    by_cases c : T 0 3 % 3 = 0
    · rw [if_pos (show nI (T 0 3 % 3) = (0 : Int32) by rw [c]; rfl), if_pos c]
      rfl
    · rw [if_neg (show ¬ nI (T 0 3 % 3) = (0 : Int32) from nI_ne0 (by omega) (by omega)), if_neg c]
  unfold f_X6_riseOf
  rw [show (50 : Int32) = nI 50 from rfl, hb, zb_s, g1, zb_s, hV.2.2.2.2.1]
  have hk := ho.2.2.2.2.1
  by_cases c : T 0 4 = 0
  · rw [if_pos c, zmo_n]
    rw [c, hs.2.1] at h36
    exact h36
  · have hi := isQ_ok (T 0 4) (by have := hs.1; omega) (by omega)
    have hsum := sumSX (o := t + 10) (F := facT T p) (hq' _ (by omega) hk) (hs.2.2 _ hk) (fun f hf => ⟨g3 f hf, facT_lt ho hp⟩)
    rw [if_neg c, zmo_s, hi, zck_t, zmo_s, hi, zck_t, hsum, zb_s]
    exact h36
