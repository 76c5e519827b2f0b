/-! ===== PURE: the class's sum of a square ===== -/
def szQ : zQ → Nat
  | [] => 0
  | c :: Q => (if c.1 = 2 then 0 else c.2.2.length + 1) + szQ Q
def hcQ : zQ → Nat
  | [] => 0
  | c :: Q => (if c.1 = 2 then 0 else 1) + hcQ Q
def sgnC (c : zC) : Int32 := if c.1 = 0 then nI c.2.1 else -nI c.2.1
def LX (u : zM) (t : Nat) : zQ → Nat → Nat → Prop
  | [], _, _ => True
  | c :: Q, i, e => if c.1 = 2 then LX u t Q i e else TX u (t + 1) c.2.2 i ∧ gI u (t + 1) (i + c.2.2.length) = -nI 4 ∧ gI u (t + 2) e = sgnC c ∧ LX u t Q (i + c.2.2.length + 1) (e + 1)
def OkC (c : zC) : Prop := c.1 ≤ 2 ∧ c.2.1 ≤ 99 ∧ (c.1 ≠ 2 → vK c.2.2 0 1)
def OkQ (Q : zQ) : Prop := Q.length ≤ 10 ∧ szQ Q ≤ 100 ∧ ∀ c ∈ Q, OkC c
def sparkQ : zQ → Nat → Nat
  | [], n => n
  | c :: Q, n => sparkQ Q (if c.1 = 2 then c.2.1 else n)
def sumQ (F : Nat → Nat) : zQ → Int32 → Int32
  | [], x => x
  | c :: Q, x => sumQ F Q (if c.1 = 2 then x else if (evK F c.2.2 []).headD false = true then x + sgnC c else x)
def SX (u : zM) (t : Nat) (Q : zQ) : Prop := gI u t 0 = nI (sparkQ Q 80) ∧ gI u t 2 = nI (szQ Q) ∧ gI u t 4 = nI (hcQ Q) ∧ LX u t Q 0 0
theorem hcQ_le : ∀ Q : zQ, hcQ Q ≤ Q.length := by
  intro Q
  induction Q with
  | nil => exact Nat.le_refl _
  | cons c Q ih =>
    show (if c.1 = 2 then 0 else 1) + hcQ Q ≤ Q.length + 1
    split <;> omega
theorem sparkQ_le : ∀ (Q : zQ) (n : Nat), n ≤ 99 → (∀ c ∈ Q, OkC c) → sparkQ Q n ≤ 99 := by
  intro Q
  induction Q with
  | nil => intro n h _; exact h
  | cons c Q ih =>
    intro n h hc
    refine ih _ ?_ (fun c' h' => hc c' (List.mem_cons_of_mem _ h'))
    split
    · exact (hc c (List.mem_cons_self)).2.1
    · exact h
theorem evK_len {F : Nat → Nat} : ∀ (ks : List zK) (st : List Bool) (e : Nat), vK ks st.length e → (evK F ks st).length = e := by
  intro ks
  induction ks with
  | nil => intro st e h; exact h
  | cons k ks ih =>
    intro st e h
    refine ih (stpB F st k) e ?_
    have h2 := h.2
    unfold stpB
    by_cases c0 : k.1 = 0
    · rw [if_pos c0] at h2 ⊢
      exact h2.2
    · rw [if_neg c0] at h2 ⊢
      by_cases c1 : k.1 = 1
      · rw [if_pos c1] at h2 ⊢
        have : ((!st.headD false) :: st.tail).length = st.length := by
          rw [List.length_cons, List.length_tail]
          omega
        rw [this]
        exact h2.2
      · rw [if_neg c1] at h2 ⊢
        by_cases c2 : k.1 = 2
        · rw [if_pos c2]
          have : ((st.tail.headD false && st.headD false) :: st.tail.tail).length = st.length - 1 := by
            rw [List.length_cons, List.length_tail, List.length_tail]
            omega
          rw [this]
          exact h2.2
        · rw [if_neg c2]
          have : ((st.tail.headD false || st.headD false) :: st.tail.tail).length = st.length - 1 := by
            rw [List.length_cons, List.length_tail, List.length_tail]
            omega
          rw [this]
          exact h2.2
theorem tkX_t {k : zK} (h0 : k.1 = 0) : tkX k = nI (32 * k.2.2.2 + 8 * k.2.2.1 + k.2.1) := if_pos h0
theorem tstX {k : zK} (hk : OkK k) (h0 : k.1 = 0) {x : Nat} (hx : x < 2147483648) (u : zM) : f_X4_test (tkX k) (nI x) u = some (nI (b2n (tstB k.2.2.1 x k.2.2.2)), u) := by
  obtain ⟨-, h1, h2, h3⟩ := hk
  unfold f_X4_test
  rw [tkX_t h0, pk_shrN (by omega) _ 5 (by decide), pk_shrN (by omega) _ 3 (by decide), pk_andN (by omega) 2 (by decide), show (32 * k.2.2.2 + 8 * k.2.2.1 + k.2.1) / 2 ^ 5 = k.2.2.2 by omega, show (32 * k.2.2.2 + 8 * k.2.2.1 + k.2.1) / 2 ^ 3 % 2 ^ 2 = k.2.2.1 by omega, zlx_s, zlx_s]
  unfold tstB
  by_cases c0 : k.2.2.1 = 0
  · rw [c0, if_pos (show nI 0 = (0 : Int32) from rfl), if_pos rfl]
    by_cases c : x < k.2.2.2
    · rw [if_neg (nI_ge c (by omega)), decide_eq_true c]
      rfl
    · rw [if_pos (nI_le (by omega) (by omega)), decide_eq_false c]
      rfl
  · rw [if_neg (show ¬ nI k.2.2.1 = (0 : Int32) from nI_ne0 (by omega) (by omega)), if_neg c0]
    by_cases c1 : k.2.2.1 = 1
    · rw [c1, if_pos (show nI 1 = (1 : Int32) from rfl), if_pos rfl]
      by_cases c : x = k.2.2.2
      · rw [if_pos (by rw [c]), decide_eq_true c]
        rfl
      · rw [if_neg (fun q => c ((nI_eq hx (by omega)).mp q)), decide_eq_false c]
        rfl
    · rw [if_neg (show ¬ nI k.2.2.1 = (1 : Int32) from fun q => c1 ((nI_eq (b := 1) (by omega) (by omega)).mp q)), if_neg c1]
      by_cases c : k.2.2.2 < x
      · rw [if_neg (nI_ge c (by omega)), decide_eq_true c]
        rfl
      · rw [if_pos (nI_le (by omega) (by omega)), decide_eq_false c]
        rfl
theorem b2n_and (b a : Bool) : (if b2n b = 1 ∧ b2n a = 1 then 1 else 0) = b2n (b && a) := by cases b <;> cases a <;> rfl
theorem b2n_or (b a : Bool) : (if b2n b = 1 ∨ b2n a = 1 then 1 else 0) = b2n (b || a) := by cases b <;> cases a <;> rfl
theorem b2n_not (b : Bool) : 1 - b2n b = b2n (!b) := by cases b <;> rfl
theorem tokX {u : zM} {t o cnt : Nat} {F : Nat → Nat} {x3 : Int32} (hcnt : gI u t 2 = nI cnt) (hc1 : cnt ≤ 100) (hL : ∀ f, f < 6 → gI u o f = nI (F f) ∧ F f < 2147483648) : ∀ (ks : List zK) (i fn e : Nat) (st : List Bool) (x2 : Int32), TX u (t + 1) ks i → vK ks st.length e → st.length ≤ 20 → i + ks.length ≤ cnt → f_X4_sum_L10 t o (fn + ks.length) x2 x3 (nI (enc st)) (nI i) u = f_X4_sum_L10 t o fn x2 x3 (nI (enc (evK F ks st))) (nI (i + ks.length)) u := by
  intro ks
  induction ks with
  | nil => intro i fn e st x2 _ _ _ _; rfl
  | cons k ks ih =>
    intro i fn e st x2 hT hv hst hi
    obtain ⟨hT1, hT2⟩ := hT
    obtain ⟨hk, hv⟩ := hv
    have hi2 : i + (ks.length + 1) ≤ cnt := hi
    have e1 : i + (k :: ks).length = i + 1 + ks.length := by
      show i + (ks.length + 1) = _
      omega
    rw [e1]
    have hk1 := hk
    obtain ⟨k0, k1, k2, k3⟩ := hk1
    show f_X4_sum_L10_b t o (f_X4_sum_L10 t o (fn + ks.length)) x2 x3 (nI (enc st)) (nI i) u = _
    have hstep : ∀ y : Int32, y = nI (enc (stpB F st k)) → (stpB F st k).length ≤ 20 → vK ks (stpB F st k).length e → f_X4_sum_L10 t o (fn + ks.length) x2 x3 y (nI i + 1) u = f_X4_sum_L10 t o fn x2 x3 (nI (enc (evK F (k :: ks) st))) (nI (i + 1 + ks.length)) u := by
      intro y hy hl hv2
      rw [hy, nI_a1]
      exact ih (i + 1) fn e (stpB F st k) x2 hT2 hv2 hl (by omega)
    unfold f_X4_sum_L10_b
    rw [hcnt, if_neg (nI_ge (by omega) (by omega)), inB_n (show i < 100 by omega) (by decide), zck_t, nI_cl (n := i) (by omega), hT1, zlx_s, zlx_s]
    by_cases c0 : k.1 = 0
    · rw [if_pos c0] at hv
      have ht := tkX_t c0
      have h7 : (tkX k &&& (7 : Int32)) = nI k.2.1 := by
        rw [ht, pk_andN (by omega) 3 (by decide)]
        congr 1
        omega
      rw [if_neg (by rw [ht]; exact nI_pos (by omega)), h7, inB_n (show k.2.1 < 8 by omega) (by decide), zck_t, nI_cl (n := k.2.1) (by omega), (hL k.2.1 k1).1, tstX hk c0 (hL k.2.1 k1).2, zb_s, zlx_s]
      have hs : stpB F st k = tstB k.2.2.1 (F k.2.1) k.2.2.2 :: st := if_pos c0
      refine hstep _ ?_ ?_ ?_
      · rw [pile_push (enc_sm hst) (b2n_le _), hs]
        rfl
      · rw [hs]
        exact hv.1
      · rw [hs]
        exact hv.2
    · have ht : tkX k = -nI k.1 := if_neg c0
      rw [if_neg c0] at hv
      rw [if_pos (by rw [ht]; exact of_eq_true (mlt_t (by omega) (by omega) (by decide)))]
      by_cases c1 : k.1 = 1
      · rw [if_pos c1] at hv
        have hs : stpB F st k = (!st.headD false) :: st.tail := by
          unfold stpB
          rw [if_neg c0, if_pos c1]
        cases st with
        | nil => exact absurd hv.1 (by decide)
        | cons a st =>
          rw [if_pos (show tkX k = (-1 : Int32) by rw [ht, c1]; rfl), zlx_s]
          have hst2 : st.length + 1 ≤ 20 := hst
          refine hstep _ ?_ ?_ ?_
          · rw [hs]
            show (nI (b2n a + 2 * enc st) ^^^ 1) = nI (b2n (!a) + 2 * enc st)
            rw [pile_not (enc_sm (by omega)) (b2n_le _), b2n_not]
          · rw [hs]
            exact hst2
          · rw [hs]
            exact hv.2
      · rw [if_neg c1] at hv
        rw [if_neg (show ¬ tkX k = (-1 : Int32) by rw [ht]; exact of_eq_false (mmeq_f (b := 1) c1 (by omega) (by decide)))]
        cases st with
        | nil => exact absurd hv.1 (by decide)
        | cons a st =>
          cases st with
          | nil => exact absurd hv.1 (show ¬ 2 ≤ 1 by decide)
          | cons b st =>
            have hst2 : st.length + 1 + 1 ≤ 20 := hst
            have hes : enc st < 1048577 := enc_sm (by omega)
            have heb : enc (b :: st) < 1048577 := enc_sm (by show st.length + 1 ≤ 20; omega)
            have etop : (nI (enc (a :: b :: st)) &&& (1 : Int32)) = nI (b2n a) := pile_top heb (b2n_le a)
            have eshr : (nI (enc (a :: b :: st)) >>> ((1 : Int32) &&& 31)) = nI (b2n b + 2 * enc st) := pile_shr heb (b2n_le a)
            rw [etop, eshr]
            by_cases c2 : k.1 = 2
            · have hs : stpB F (a :: b :: st) k = (b && a) :: st := by
                unfold stpB
                rw [if_neg c0, if_neg c1, if_pos c2]
                rfl
              rw [if_pos (show tkX k = (-2 : Int32) by rw [ht, c2]; rfl), zlx_s]
              refine hstep _ ?_ ?_ ?_
              · rw [hs, pile_and hes (b2n_le _) (b2n_le _), b2n_and]
                rfl
              · rw [hs]
                show st.length + 1 ≤ 20
                omega
              · rw [hs]
                exact hv.2
            · have hs : stpB F (a :: b :: st) k = (b || a) :: st := by
                unfold stpB
                rw [if_neg c0, if_neg c1, if_neg c2]
                rfl
              rw [if_neg (show ¬ tkX k = (-2 : Int32) by rw [ht]; exact of_eq_false (mmeq_f (b := 2) c2 (by omega) (by decide))), if_pos (show tkX k = (-3 : Int32) by rw [ht, show k.1 = 3 by omega]; rfl), zlx_s]
              refine hstep _ ?_ ?_ ?_
              · rw [hs, pile_or hes (b2n_le _) (b2n_le _), b2n_or]
                rfl
              · rw [hs]
                show st.length + 1 ≤ 20
                omega
              · rw [hs]
                exact hv.2
theorem sumQX {u : zM} {t o cnt hc : Nat} {F : Nat → Nat} (hcnt : gI u t 2 = nI cnt) (hc1 : cnt ≤ 100) (hhc : gI u t 4 = nI hc) (hc2 : hc ≤ 10) (hL : ∀ f, f < 6 → gI u o f = nI (F f) ∧ F f < 2147483648) : ∀ (Q : zQ) (i e fn : Nat) (x : Int32), LX u t Q i e → (∀ c ∈ Q, OkC c) → i + szQ Q = cnt → e + hcQ Q = hc → szQ Q < fn → f_X4_sum_L10 t o fn x (nI e) (nI 0) (nI i) u = some (sumQ F Q x, u) := by
  intro Q
  induction Q with
  | nil =>
    intro i e fn x _ _ hi he hf
    obtain ⟨fn, rfl⟩ : ∃ g, fn = g + 1 := ⟨fn - 1, by omega⟩
    have hi : i + 0 = cnt := hi
    show f_X4_sum_L10_b t o (f_X4_sum_L10 t o fn) x (nI e) (nI 0) (nI i) u = _
    unfold f_X4_sum_L10_b
    rw [hcnt, if_pos (nI_le (by omega) (by omega))]
    rfl
  | cons c Q ih =>
    intro i e fn x hX hO hi he hf
    obtain ⟨o1, o2, o3⟩ := hO c List.mem_cons_self
    have hO2 : ∀ c' ∈ Q, OkC c' := fun c' h' => hO c' (List.mem_cons_of_mem _ h')
    by_cases c2 : c.1 = 2
    · have e1 : szQ (c :: Q) = szQ Q := by
        show (if c.1 = 2 then 0 else c.2.2.length + 1) + szQ Q = _
        rw [if_pos c2, Nat.zero_add]
      have e2 : hcQ (c :: Q) = hcQ Q := by
        show (if c.1 = 2 then 0 else 1) + hcQ Q = _
        rw [if_pos c2, Nat.zero_add]
      have e3 : LX u t Q i e := by
        have h : (if c.1 = 2 then LX u t Q i e else _) := hX
        rw [if_pos c2] at h
        exact h
      have e4 : sumQ F (c :: Q) x = sumQ F Q x := by
        show sumQ F Q (if c.1 = 2 then x else _) = _
        rw [if_pos c2]
      rw [e4]
      exact ih i e fn x e3 hO2 (by omega) (by omega) (by omega)
    · have e1 : szQ (c :: Q) = c.2.2.length + 1 + szQ Q := by
        show (if c.1 = 2 then 0 else c.2.2.length + 1) + szQ Q = _
        rw [if_neg c2]
      have e2 : hcQ (c :: Q) = 1 + hcQ Q := by
        show (if c.1 = 2 then 0 else 1) + hcQ Q = _
        rw [if_neg c2]
      obtain ⟨x1, x2, x3, x4⟩ : TX u (t + 1) c.2.2 i ∧ gI u (t + 1) (i + c.2.2.length) = -nI 4 ∧ gI u (t + 2) e = sgnC c ∧ LX u t Q (i + c.2.2.length + 1) (e + 1) := by
        have h : (if c.1 = 2 then _ else TX u (t + 1) c.2.2 i ∧ gI u (t + 1) (i + c.2.2.length) = -nI 4 ∧ gI u (t + 2) e = sgnC c ∧ LX u t Q (i + c.2.2.length + 1) (e + 1)) := hX
        rw [if_neg c2] at h
        exact h
      have e4 : sumQ F (c :: Q) x = sumQ F Q (if (evK F c.2.2 []).headD false = true then x + sgnC c else x) := by
        show sumQ F Q (if c.1 = 2 then x else _) = _
        rw [if_neg c2]
      have hv := o3 c2
      obtain ⟨g, rfl⟩ : ∃ g, fn = (g + 1) + c.2.2.length := ⟨fn - 1 - c.2.2.length, by omega⟩
      rw [e4]
      have ht := tokX (x3 := nI e) hcnt hc1 hL c.2.2 i (g + 1) 1 [] x x1 hv (by decide) (by omega)
      rw [show enc [] = 0 from rfl] at ht
      rw [ht]
      have hlen := evK_len (F := F) c.2.2 [] 1 hv
      obtain ⟨b, hb⟩ : ∃ b, evK F c.2.2 [] = [b] := List.length_eq_one_iff.mp hlen
      rw [hb]
      show f_X4_sum_L10_b t o (f_X4_sum_L10 t o g) x (nI e) (nI (b2n b + 2 * 0)) (nI (i + c.2.2.length)) u = _
      unfold f_X4_sum_L10_b
      rw [hcnt, if_neg (nI_ge (by omega) (by omega)), inB_n (show i + c.2.2.length < 100 by omega) (by decide), zck_t, nI_cl (n := i + c.2.2.length) (by omega), x2, zlx_s, zlx_s, if_pos (by decide), if_neg (by decide), if_neg (by decide), if_neg (by decide), hhc, if_neg (nI_ge (by omega) (by omega)), pile_top (by decide) (b2n_le b), nI_a1, nI_a1, inB_n (show e < 10 by omega) (by decide), zck_t, nI_cl (n := e) (by omega), x3, zlx_s, zlx_s]
      show (if nI (b2n b) = (1 : Int32) then _ else _) = some (sumQ F Q (if b = true then x + sgnC c else x), u)
      cases b with
      | true =>
        rw [if_pos (by decide), if_pos rfl]
        exact ih (i + c.2.2.length + 1) (e + 1) g _ x4 hO2 (by omega) (by omega) (by omega)
      | false =>
        rw [if_neg (by decide), if_neg (by decide), Int32.add_zero]
        exact ih (i + c.2.2.length + 1) (e + 1) g _ x4 hO2 (by omega) (by omega) (by omega)
theorem sumSX {u : zM} {t o : Nat} {F : Nat → Nat} {Q : zQ} (h : SX u t Q) (hQ : OkQ Q) (hL : ∀ f, f < 6 → gI u o f = nI (F f) ∧ F f < 2147483648) : f_X4_sum t o u = some (sumQ F Q 0, u) := by
  have h1 := hcQ_le Q
  exact sumQX h.2.1 hQ.2.1 h.2.2.1 (by have := hQ.1; omega) hL Q 0 0 400 0 h.2.2.2 hQ.2.2 (by omega) (by omega) (by have := hQ.2.1; omega)
