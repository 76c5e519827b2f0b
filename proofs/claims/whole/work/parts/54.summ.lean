/-! ===== PURE: the reference's sum of a square ===== -/
def pfr (w w' : zM) : Prop := (∀ a k, a ≠ 17 → gI w' a k = gI w a k) ∧ (∀ a k, gJ w' a k = gJ w a k) ∧ ∀ a k, gO w' a k = gO w a k
theorem pfr_rf (w : zM) : pfr w w := ⟨fun _ _ _ => rfl, fun _ _ => rfl, fun _ _ => rfl⟩
theorem pfr_tr {u v w : zM} (h : pfr u v) (g : pfr v w) : pfr u w := ⟨fun a k q => (g.1 a k q).trans (h.1 a k q), fun a k => (g.2.1 a k).trans (h.2.1 a k), fun a k => (g.2.2 a k).trans (h.2.2 a k)⟩
theorem pfr_s (w : zM) (j : Nat) (x : Int32) : pfr w (sI w 17 j x) := ⟨fun a k q => by rw [gI_sI, if_neg (fun h => q h.1)], fun _ _ => rfl, fun _ _ => rfl⟩
theorem VM_pfr {w w' : zM} {T : zT} (h : VM 0 0 13 w T) (g : pfr w w') : VM 0 0 13 w' T := VM_cg h (fun k _ => g.1 _ _ (by omega)) (g.1 _ _ (by omega)) (fun c k h1 h2 => g.1 _ _ (by omega))
def PL (w : zM) : List Bool → Prop
  | [] => True
  | b :: st => gI w 17 st.length = nI (b2n b) ∧ PL w st
theorem PL_up {w : zM} {x : Int32} : ∀ (st : List Bool) (j : Nat), st.length ≤ j → PL w st → PL (sI w 17 j x) st := by
  intro st
  induction st with
  | nil => intro j _ _; exact trivial
  | cons b st ih =>
    intro j hj h
    have hj : st.length + 1 ≤ j := hj
    exact ⟨by rw [gI_sI, if_neg (by omega)]; exact h.1, ih j (by omega) h.2⟩
theorem PL_put {w : zM} (st : List Bool) (b : Bool) (h : PL w st) : PL (sI w 17 st.length (nI (b2n b))) (b :: st) := ⟨by rw [gI_sI, if_pos ⟨rfl, rfl⟩], PL_up st _ (Nat.le_refl _) h⟩
theorem TM_pfr {w w' : zM} (g : pfr w w') : ∀ (ks : List zK) (i : Nat), TM w ks i → TM w' ks i := by
  intro ks
  induction ks with
  | nil => intro i _; exact trivial
  | cons k ks ih => intro i h; exact ⟨(g.1 _ _ (by omega)).trans h.1, ih _ h.2⟩
def facT (T : zT) (p f : Nat) : Nat := if f = 0 then p else if f = 1 then T 1 p else if f = 2 then T 2 p else if f = 3 then T 3 p / 10 else if f = 4 then besT T p 50 else T 0 3 % 10
theorem facT_lt {T : zT} {k p f : Nat} (ho : OkT k T) (hp : p < T 0 0) : facT T p f < 2147483648 := by
  obtain ⟨o1, o2, o3, -⟩ := ho.2.2.2.2.2.1 p hp
  have h0 := ho.1
  have hb := besT_le T p 50
  unfold facT
  repeat' split
  all_goals omega
theorem factM {w : zM} {T : zT} {k p f : Nat} (h : VM 0 0 13 w T) (ho : OkT k T) (hp : p < T 0 0) (hf : f < 6) : f_X9_factOf (nI f) (nI p) w = some (nI (facT T p f), w) := by
  have hn := ho.1
  have hm := ho.2.2.2.1
  have e1 : gI w 1 p = nI (T 1 p) := (h.2.2.2.2.2.1 p hp).1
  have e2 : gI w 2 p = nI (T 2 p) := (h.2.2.2.2.2.1 p hp).2.1
  have e3 : gI w 3 p = nI (T 3 p) := (h.2.2.2.2.2.1 p hp).2.2
  have e4 : gI w 0 4 = nI (T 0 3) := h.2.2.2.1
  obtain ⟨o1, o2, o3, -⟩ := ho.2.2.2.2.2.1 p hp
  have hb := besM h ho hp (l := 50) (by omega)
  have hc : f = 0 ∨ f = 1 ∨ f = 2 ∨ f = 3 ∨ f = 4 ∨ f = 5 := by omega
  unfold f_X9_factOf
  rcases hc with rfl | rfl | rfl | rfl | rfl | rfl
  · simp (disch := omega) only [↓zb_s, ↓zck_t, ↓zlet_s, ↓zlx_s, ↓zly_s, ↓zmo_n, ↓zmo_s, ↓reduceIte, nle_t, nle_f, nlt_t, nlt_f, neq_t, neq_f, mlt_t, mle_t, mlt_f, mle_f, meq_f, meq_f2, mmeq_t, mmeq_f, inB_n, nI_cl, nI_add, pk_mul, pk_sub, pk_div, zrem_n, q0, q1, q2, q3, q4, q5, q6, q7, q8, q9, q10, q12, q20, q24, q40, q50, q60, q61, q80, q99, q100, q9999]
    rfl
  · simp (disch := omega) only [↓zb_s, ↓zck_t, ↓zlet_s, ↓zlx_s, ↓zly_s, ↓zmo_n, ↓zmo_s, ↓reduceIte, nle_t, nle_f, nlt_t, nlt_f, neq_t, neq_f, mlt_t, mle_t, mlt_f, mle_f, meq_f, meq_f2, mmeq_t, mmeq_f, inB_n, nI_cl, nI_add, pk_mul, pk_sub, pk_div, zrem_n, q0, q1, q2, q3, q4, q5, q6, q7, q8, q9, q10, q12, q20, q24, q40, q50, q60, q61, q80, q99, q100, q9999, e1]
    rfl
  · simp (disch := omega) only [↓zb_s, ↓zck_t, ↓zlet_s, ↓zlx_s, ↓zly_s, ↓zmo_n, ↓zmo_s, ↓reduceIte, nle_t, nle_f, nlt_t, nlt_f, neq_t, neq_f, mlt_t, mle_t, mlt_f, mle_f, meq_f, meq_f2, mmeq_t, mmeq_f, inB_n, nI_cl, nI_add, pk_mul, pk_sub, pk_div, zrem_n, q0, q1, q2, q3, q4, q5, q6, q7, q8, q9, q10, q12, q20, q24, q40, q50, q60, q61, q80, q99, q100, q9999, e2]
    rfl
  · simp (disch := omega) only [↓zb_s, ↓zck_t, ↓zlet_s, ↓zlx_s, ↓zly_s, ↓zmo_n, ↓zmo_s, ↓reduceIte, nle_t, nle_f, nlt_t, nlt_f, neq_t, neq_f, mlt_t, mle_t, mlt_f, mle_f, meq_f, meq_f2, mmeq_t, mmeq_f, inB_n, nI_cl, nI_add, pk_mul, pk_sub, pk_div, zrem_n, q0, q1, q2, q3, q4, q5, q6, q7, q8, q9, q10, q12, q20, q24, q40, q50, q60, q61, q80, q99, q100, q9999, e3]
    rfl
  · simp (disch := omega) only [↓zb_s, ↓zck_t, ↓zlet_s, ↓zlx_s, ↓zly_s, ↓zmo_n, ↓zmo_s, ↓reduceIte, nle_t, nle_f, nlt_t, nlt_f, neq_t, neq_f, mlt_t, mle_t, mlt_f, mle_f, meq_f, meq_f2, mmeq_t, mmeq_f, inB_n, nI_cl, nI_add, pk_mul, pk_sub, pk_div, zrem_n, q0, q1, q2, q3, q4, q5, q6, q7, q8, q9, q10, q12, q20, q24, q40, q50, q60, q61, q80, q99, q100, q9999, hb]
    rfl
  · simp (disch := omega) only [↓zb_s, ↓zck_t, ↓zlet_s, ↓zlx_s, ↓zly_s, ↓zmo_n, ↓zmo_s, ↓reduceIte, nle_t, nle_f, nlt_t, nlt_f, neq_t, neq_f, mlt_t, mle_t, mlt_f, mle_f, meq_f, meq_f2, mmeq_t, mmeq_f, inB_n, nI_cl, nI_add, pk_mul, pk_sub, pk_div, zrem_n, q0, q1, q2, q3, q4, q5, q6, q7, q8, q9, q10, q12, q20, q24, q40, q50, q60, q61, q80, q99, q100, q9999, e4]
    rfl
theorem nar0 : vp_nar .boolean (0 : Int32) = nI 0 := by decide
theorem nar1 : vp_nar .boolean (1 : Int32) = nI 1 := by decide
theorem tokM {T : zT} {kk p c b : Nat} (ho : OkT kk T) (hp : p < T 0 0) (hc : c < 60) (hb : b ≤ 600) : ∀ (ks : List zK) (i fn e : Nat) (st : List Bool) (w : zM), VM 0 0 13 w T → gI w 13 c = nI b → TM w ks i → PL w st → vK ks st.length e → st.length ≤ 20 → i + ks.length ≤ b → ∃ w', pfr w w' ∧ PL w' (evK (facT T p) ks st) ∧ f_X9_holds_L10 (nI c) (nI p) (fn + ks.length) (nI st.length) (nI i) w = f_X9_holds_L10 (nI c) (nI p) fn (nI e) (nI (i + ks.length)) w' := by
  intro ks
  induction ks with
  | nil =>
    intro i fn e st w _ _ _ hP hv _ _
    have hv : st.length = e := hv
    exact ⟨w, pfr_rf w, hP, by rw [hv]; rfl⟩
  | cons k ks ih =>
    intro i fn e st w hV hto hT hP hv hst hi
    obtain ⟨hT1, hT2⟩ := hT
    obtain ⟨hk, hv⟩ := hv
    have hi2 : i + (ks.length + 1) ≤ b := hi
    have e1 : i + (k :: ks).length = i + 1 + ks.length := by
      show i + (ks.length + 1) = _
      omega
    rw [e1]
    have hk1 := hk
    obtain ⟨k0, k1, k2, k3⟩ := hk1
    have hstep : ∀ (w1 : zM) (d : Nat), pfr w w1 → PL w1 (stpB (facT T p) st k) → d = (stpB (facT T p) st k).length → d ≤ 20 → vK ks d e → ∃ w', pfr w w' ∧ PL w' (evK (facT T p) (k :: ks) st) ∧ f_X9_holds_L10 (nI c) (nI p) (fn + ks.length) (nI d) (nI i + 1) w1 = f_X9_holds_L10 (nI c) (nI p) fn (nI e) (nI (i + 1 + ks.length)) w' := by
      intro w1 d hf hP1 hd hl hv2
      subst hd
      obtain ⟨w', g1, g2, g3⟩ := ih (i + 1) fn e (stpB (facT T p) st k) w1 (VM_pfr hV hf) ((hf.1 _ _ (by omega)).trans hto) (TM_pfr hf ks _ hT2) hP1 hv2 hl (by omega)
      exact ⟨w', pfr_tr hf g1, g2, by rw [nI_a1]; exact g3⟩
    show ∃ w', pfr w w' ∧ PL w' (evK (facT T p) (k :: ks) st) ∧ f_X9_holds_L10_b (nI c) (nI p) (f_X9_holds_L10 (nI c) (nI p) (fn + ks.length)) (nI st.length) (nI i) w = _
    unfold f_X9_holds_L10_b
    rw [inB_n hc (by decide), zck_t, nI_cl (n := c) (by omega), hto, if_neg (nI_ge (by omega) (by omega)), inB_n (show i < 600 by omega) (by decide), zck_t, nI_cl (n := i) (by omega), hT1, zlx_s]
    by_cases c0 : k.1 = 0
    · rw [if_pos c0] at hv
      have ht : tkM k = nI (1000 * k.2.1 + 100 * k.2.2.1 + k.2.2.2) := if_pos c0
      have hs : stpB (facT T p) st k = tstB k.2.2.1 (facT T p k.2.1) k.2.2.2 :: st := if_pos c0
      have hd1 : nI (1000 * k.2.1 + 100 * k.2.2.1 + k.2.2.2) / (1000 : Int32) = nI k.2.1 := by
        rw [show (1000 : Int32) = nI 1000 from rfl, pk_div (by omega) (by decide) (by decide)]
        congr 1
        omega
      have hd2 : zrem (nI (1000 * k.2.1 + 100 * k.2.2.1 + k.2.2.2) / (100 : Int32)) (10 : Int32) = nI k.2.2.1 := by
        rw [show (100 : Int32) = nI 100 from rfl, pk_div (by omega) (by decide) (by decide), show (10 : Int32) = nI 10 from rfl, zrem_n (by omega) (by decide) (by decide)]
        congr 1
        omega
      have hd3 : zrem (nI (1000 * k.2.1 + 100 * k.2.2.1 + k.2.2.2)) (100 : Int32) = nI k.2.2.2 := by
        rw [show (100 : Int32) = nI 100 from rfl, zrem_n (by omega) (by decide) (by decide)]
        congr 1
        omega
      have hx := facT_lt (f := k.2.1) ho hp
      have hrest : ∀ bb : Bool, bb = tstB k.2.2.1 (facT T p k.2.1) k.2.2.2 → ∃ w', pfr w w' ∧ PL w' (evK (facT T p) (k :: ks) st) ∧ (zck (inB (nI st.length) 100) <| zlet (sI w 17 (nI st.length).toNatClampNeg (nI (b2n bb))) fun u16 => f_X9_holds_L10 (nI c) (nI p) (fn + ks.length) (nI st.length + 1) (nI i + 1) u16) = f_X9_holds_L10 (nI c) (nI p) fn (nI e) (nI (i + 1 + ks.length)) w' := by
        intro bb hbb
        rw [inB_n (show st.length < 100 by omega) (by decide), zck_t, zlet_s, nI_cl (n := st.length) (by omega), nI_a1 st.length]
        refine hstep _ _ (pfr_s _ _ _) ?_ ?_ (by omega) hv.2
        · rw [hs, ← hbb]
          exact PL_put st bb hP
        · rw [hs]
          rfl
      rw [ht, if_neg (show ¬ nI (1000 * k.2.1 + 100 * k.2.2.1 + k.2.2.2) = (-33 : Int32) from of_eq_false (meq_f (a := 33) (by omega) (by decide) (by omega))), if_pos (nI_pos' (by omega)), hd1, factM hV ho hp k1, zb_s, zlx_s, hd2, hd3, nar0, nar1]
      unfold tstB at hrest
      by_cases s0 : k.2.2.1 = 0
      · rw [if_pos s0] at hrest
        rw [if_pos (show nI k.2.2.1 = (0 : Int32) by rw [s0]; rfl)]
        by_cases cc : facT T p k.2.1 < k.2.2.2
        · rw [if_neg (nI_ge cc (by omega))]
          exact hrest true (decide_eq_true cc).symm
        · rw [if_pos (nI_le (by omega) (by omega))]
          exact hrest false (decide_eq_false cc).symm
      · rw [if_neg s0] at hrest
        rw [if_neg (show ¬ nI k.2.2.1 = (0 : Int32) from nI_ne0 (by omega) (by omega))]
        by_cases s1 : k.2.2.1 = 1
        · rw [if_pos s1] at hrest
          rw [if_pos (show nI k.2.2.1 = (1 : Int32) by rw [s1]; rfl)]
          by_cases cc : facT T p k.2.1 = k.2.2.2
          · rw [if_pos (by rw [cc])]
            exact hrest true (decide_eq_true cc).symm
          · rw [if_neg (fun q => cc ((nI_eq hx (by omega)).mp q))]
            exact hrest false (decide_eq_false cc).symm
        · rw [if_neg s1] at hrest
          rw [if_neg (show ¬ nI k.2.2.1 = (1 : Int32) from fun q => s1 ((nI_eq (b := 1) (by omega) (by omega)).mp q))]
          by_cases cc : k.2.2.2 < facT T p k.2.1
          · rw [if_neg (nI_ge cc (by omega))]
            exact hrest true (decide_eq_true cc).symm
          · rw [if_pos (nI_le (by omega) (by omega))]
            exact hrest false (decide_eq_false cc).symm
    · rw [if_neg c0] at hv
      by_cases c1 : k.1 = 1
      · rw [if_pos c1] at hv
        have ht : tkM k = (-33 : Int32) := by
          unfold tkM
          rw [if_neg c0, if_pos c1]
          rfl
        have hs : stpB (facT T p) st k = (!st.headD false) :: st.tail := by
          unfold stpB
          rw [if_neg c0, if_pos c1]
        rw [ht, if_pos rfl]
        cases st with
        | nil => exact absurd hv.1 (by decide)
        | cons a st =>
          have hst2 : st.length + 1 ≤ 20 := hst
          obtain ⟨hP1, hP2⟩ := hP
          have hm1 : nI (a :: st).length - 1 = nI st.length := nI_pred st.length
          have hin : inB (nI st.length) 100 = true := inB_n (show st.length < 100 by omega) (by decide)
          have hcl : (nI st.length).toNatClampNeg = st.length := nI_cl (by omega)
          rw [hm1, hin, zck_t, hcl, hP1, zck_t, zlet_s, nar0, nar1]
          cases a with
          | true =>
            rw [if_neg (show ¬ nI (b2n true) = (0 : Int32) by decide), zck_t, zlet_s]
            refine hstep _ _ (pfr_s _ _ _) ?_ ?_ (by omega) hv.2
            · rw [hs]
              exact PL_put st false hP2
            · rw [hs]
              rfl
          | false =>
            rw [if_pos (show nI (b2n false) = (0 : Int32) by decide)]
            refine hstep _ _ (pfr_s _ _ _) ?_ ?_ (by omega) hv.2
            · rw [hs]
              exact PL_put st true hP2
            · rw [hs]
              rfl
      · rw [if_neg c1] at hv
        cases st with
        | nil => exact absurd hv.1 (by decide)
        | cons a st =>
          cases st with
          | nil => exact absurd hv.1 (show ¬ 2 ≤ 1 by decide)
          | cons bb st =>
            have hst2 : st.length + 1 + 1 ≤ 20 := hst
            obtain ⟨hP1, hP2, hP3⟩ := hP
            have hP1 : gI w 17 (st.length + 1) = nI (b2n a) := hP1
            have hm1 : nI (a :: bb :: st).length + (-1 : Int32) = nI (st.length + 1) := pk_m1 (st.length + 1)
            have hm2 : nI (st.length + 1) - 1 = nI st.length := nI_pred st.length
            have hin : inB (nI st.length) 100 = true := inB_n (show st.length < 100 by omega) (by decide)
            have hin1 : inB (nI (st.length + 1)) 100 = true := inB_n (show st.length + 1 < 100 by omega) (by decide)
            have hcl : (nI st.length).toNatClampNeg = st.length := nI_cl (by omega)
            have hcl1 : (nI (st.length + 1)).toNatClampNeg = st.length + 1 := nI_cl (by omega)
            have hres : ∀ r : Bool, stpB (facT T p) (a :: bb :: st) k = r :: st → ∃ w', pfr w w' ∧ PL w' (evK (facT T p) (k :: ks) (a :: bb :: st)) ∧ f_X9_holds_L10 (nI c) (nI p) (fn + ks.length) (nI (st.length + 1)) (nI i + 1) (sI w 17 st.length (nI (b2n r))) = f_X9_holds_L10 (nI c) (nI p) fn (nI e) (nI (i + 1 + ks.length)) w' := by
              intro r hs
              refine hstep _ _ (pfr_s _ _ _) ?_ ?_ (by omega) hv.2
              · rw [hs]
                exact PL_put st r hP3
              · rw [hs]
                rfl
            have bt : ¬ nI (b2n true) = (0 : Int32) := by decide
            have bf : nI (b2n false) = (0 : Int32) := by decide
            rw [hm1, hm2, hin, hin1, hcl, hcl1, hP1, hP2, nar0, nar1]
            by_cases c2 : k.1 = 2
            · have ht : tkM k = (-38 : Int32) := by
                unfold tkM
                rw [if_neg c0, if_neg c1, if_pos c2]
                rfl
              have hs : stpB (facT T p) (a :: bb :: st) k = (bb && a) :: st := by
                unfold stpB
                rw [if_neg c0, if_neg c1, if_pos c2]
                rfl
              rw [ht, if_neg (by decide), if_neg (by decide), if_pos rfl]
              cases bb with
              | false =>
                rw [if_pos bf]
                exact hres false hs
              | true =>
                rw [if_neg bt]
                cases a with
                | false =>
                  rw [if_pos bf]
                  exact hres false hs
                | true =>
                  rw [if_neg bt]
                  exact hres true hs
            · have ht : tkM k = (-124 : Int32) := by
                unfold tkM
                rw [if_neg c0, if_neg c1, if_neg c2]
                rfl
              have hs : stpB (facT T p) (a :: bb :: st) k = (bb || a) :: st := by
                unfold stpB
                rw [if_neg c0, if_neg c1, if_neg c2]
                rfl
              rw [ht, if_neg (by decide), if_neg (by decide), if_neg (by decide)]
              cases bb with
              | true =>
                rw [if_neg bt]
                exact hres true hs
              | false =>
                rw [if_pos bf]
                cases a with
                | false =>
                  rw [if_pos bf]
                  exact hres false hs
                | true =>
                  rw [if_neg bt]
                  exact hres true hs
/-- the reference's clauses from number j on -/
def LM (w : zM) : zQ → Nat → Prop
  | [], _ => True
  | c :: Q, j => gI w 10 j = nI c.1 ∧ gI w 11 j = nI c.2.1 ∧ (c.1 ≠ 2 → ∃ a, a + c.2.2.length ≤ 600 ∧ gI w 12 j = nI a ∧ gI w 13 j = nI (a + c.2.2.length) ∧ TM w c.2.2 a) ∧ LM w Q (j + 1)
theorem LM_pfr {w w' : zM} (g : pfr w w') : ∀ (Q : zQ) (j : Nat), LM w Q j → LM w' Q j := by
  intro Q
  induction Q with
  | nil => intro j _; exact trivial
  | cons c Q ih =>
    intro j h
    obtain ⟨h1, h2, h3, h4⟩ := h
    refine ⟨(g.1 _ _ (by omega)).trans h1, (g.1 _ _ (by omega)).trans h2, fun q => ?_, ih _ h4⟩
    obtain ⟨a, a1, a2, a3, a4⟩ := h3 q
    exact ⟨a, a1, (g.1 _ _ (by omega)).trans a2, (g.1 _ _ (by omega)).trans a3, TM_pfr g _ _ a4⟩
/-- a square of the reference -/
def SM (w : zM) (q : Nat) (Q : zQ) : Prop := gI w 9 q = nI Q.length ∧ LM w Q (10 * q)
theorem SM_pfr {w w' : zM} (g : pfr w w') {q : Nat} {Q : zQ} (h : SM w q Q) : SM w' q Q := ⟨(g.1 _ _ (by omega)).trans h.1, LM_pfr g _ _ h.2⟩
theorem holdsM {T : zT} {kk p c : Nat} {w : zM} {ks : List zK} (ho : OkT kk T) (hp : p < T 0 0) (hc : c < 60) (hV : VM 0 0 13 w T) (hv : vK ks 0 1) (hl : ks.length ≤ 100) {a : Nat} (ha : a + ks.length ≤ 600) (h12 : gI w 12 c = nI a) (h13 : gI w 13 c = nI (a + ks.length)) (hT : TM w ks a) : ∃ w', pfr w w' ∧ f_X9_holds (nI c) (nI p) w = some (nI (b2n ((evK (facT T p) ks []).headD false)), w') := by
  obtain ⟨w', g1, g2, g3⟩ := tokM ho hp hc ha ks a (400 - ks.length) 1 [] w hV h13 hT trivial hv (by decide) (Nat.le_refl _)
  refine ⟨w', g1, ?_⟩
  unfold f_X9_holds
  rw [inB_n hc (by decide), zck_t, nI_cl (n := c) (by omega), h12, zlx_s]
  have e4 : 400 - ks.length + ks.length = 400 := by omega
  rw [e4] at g3
  refine g3.trans ?_
  obtain ⟨f, hf⟩ : ∃ f, 400 - ks.length = f + 1 := ⟨399 - ks.length, by omega⟩
  rw [hf]
  show f_X9_holds_L10_b (nI c) (nI p) (f_X9_holds_L10 (nI c) (nI p) f) (nI 1) (nI (a + ks.length)) w' = _
  obtain ⟨b, hb⟩ : ∃ b, evK (facT T p) ks [] = [b] := List.length_eq_one_iff.mp (evK_len (F := facT T p) ks [] 1 hv)
  rw [hb] at g2 ⊢
  have hP : gI w' 17 0 = nI (b2n b) := g2.1
  unfold f_X9_holds_L10_b
  rw [inB_n hc (by decide), zck_t, nI_cl (n := c) (by omega), g1.1 13 c (by omega), h13, if_pos (nI_le (Nat.le_refl _) (by omega)), show inB (0 : Int32) 100 = true from by decide, zck_t, show (0 : Int32).toNatClampNeg = 0 from rfl, hP, show z01 (nI (b2n b)) = true from by cases b <;> decide, zck_t]
  rfl
