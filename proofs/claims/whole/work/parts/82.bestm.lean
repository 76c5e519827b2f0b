/-! ===== PURE: the best row, the reference's side; the door best ===== -/
def layR (m : Nat) : Nat → Nat → Nat → List Nat → Option (List Nat)
  | 0, _, _, acc => some acc
  | k + 1, x, used, acc => if used.testBit (x % m) = true then none else layR m k (x / m) (aset used (x % m)) (x % m :: acc)
def layF (m x : Nat) : Option (List Nat) := layR m m x 0 []
def rowB (m : Nat) (r : List Nat) : Bool := (List.range m).all (fun i => decide (r.getD i 0 < m) && (List.range m).all (fun j => !(decide (r.getD i 0 = r.getD j 0)) || decide (i = j)))
theorem rowB_t {m : Nat} {r : List Nat} (h : rowB m r = true) : rowOk m r := by
  have g : ∀ i, i < m → (decide (r.getD i 0 < m) && (List.range m).all (fun j => !(decide (r.getD i 0 = r.getD j 0)) || decide (i = j))) = true := fun i hi => List.all_eq_true.mp h i (List.mem_range.mpr hi)
  refine ⟨fun i hi => of_decide_eq_true ((Bool.and_eq_true _ _).mp (g i hi)).1, fun i hi j hj e => ?_⟩
  have h2 := List.all_eq_true.mp ((Bool.and_eq_true _ _).mp (g i hi)).2 j (List.mem_range.mpr hj)
  rw [decide_eq_true e] at h2
  exact of_decide_eq_true h2
def layO (m x : Nat) : Bool := match layF m x with
  | none => true
  | some r => rowB m r
theorem lay_okB : ∀ m, m ≤ 4 → ∀ x, x < m ^ m → layO m x = true := by decide +kernel
theorem lay_ok {m x : Nat} {r : List Nat} (hm : m ≤ 4) (hx : x < m ^ m) (h : layF m x = some r) : rowOk m r := by
  have g := lay_okB m hm x hx
  unfold layO at g
  rw [h] at g
  exact rowB_t g
theorem lay_all : ∀ m, m ≤ 4 → (List.range' 0 (m ^ m)).filterMap (layF m) = prm m := by decide +kernel
theorem pow_lt : ∀ m, m ≤ 4 → m ^ m < 300 := by decide
def fxL (V : List Nat → Nat) (m : Nat) : Nat → Nat → Nat × List Nat → Nat × List Nat
  | 0, _, s => s
  | j + 1, x, s => fxL V m j (x + 1) (match layF m x with
    | none => s
    | some r => fA V s r)
theorem fxL_list (V : List Nat → Nat) (m : Nat) : ∀ j x s, fxL V m j x s = ((List.range' x j).filterMap (layF m)).foldl (fA V) s := by
  intro j
  induction j with
  | zero => exact fun x s => rfl
  | succ j ih =>
    intro x s
    show fxL V m j (x + 1) _ = ((x :: List.range' (x + 1) j).filterMap (layF m)).foldl (fA V) s
    rw [ih, List.filterMap_cons]
    cases layF m x with
    | none => rfl
    | some r => rfl
theorem fo_list (V : List Nat → Nat) (m : Nat) : ∀ k, k ≤ (prm m).length → fo V m k = ((prm m).take k).foldl (fA V) (0, []) := by
  intro k
  induction k with
  | zero => exact fun _ => rfl
  | succ k ih =>
    intro h
    show fA V (fo V m k) ((prm m).getD k []) = _
    rw [ih (by omega), List.take_succ, List.foldl_append]
    have e : (prm m)[k]? = some ((prm m).getD k []) := by
      rw [List.getD_eq_getElem?_getD, List.getElem?_eq_getElem (show k < (prm m).length by omega)]
      rfl
    rw [e]
    rfl
theorem fx_fo (V : List Nat → Nat) {m : Nat} (hm : m ≤ 4) : fxL V m (m ^ m) 0 (0, []) = fo V m (roF m) := by
  rw [fxL_list, lay_all m hm, fo_list V m (roF m) (Nat.le_of_eq (prm_len m hm).symm), ← prm_len m hm, List.take_length]
def p21 (a _k : Nat) : Prop := a = 21
def LW (w : zM) (m : Nat) (r : List Nat) : Prop := ∀ i, i < m → gI w 21 i = nI (r.getD i 0)
theorem layM {m : Nat} {p1 : Int32} (hm : m ≤ 4) : ∀ (k x used : Nat) (acc : List Nat) (fn : Nat) (w : zM), k < fn → k ≤ m → x < 1000 → used < 64 → gI w 0 2 = nI m → (∀ i, k ≤ i → i < m → gI w 21 i = nI (acc.getD (i - k) 0)) → (∀ r, layR m k x used acc = some r → ∃ w', f_X9_layLine_L12 p1 fn (nI x) (nI used) (nI k - nI 1) w = some ((1 : Int32), w') ∧ LW w' m r ∧ frP p21 w w') ∧ (layR m k x used acc = none → ∃ w', f_X9_layLine_L12 p1 fn (nI x) (nI used) (nI k - nI 1) w = some ((0 : Int32), w') ∧ frP p21 w w') := by
  intro k
  induction k with
  | zero =>
    intro x used acc fn w hf hk hx hu h0 hacc
    obtain ⟨fn, rfl⟩ : ∃ g, fn = g + 1 := ⟨fn - 1, by omega⟩
    refine ⟨fun r hr => ⟨w, rfl, fun i hi => ?_, frP_rf _ _⟩, fun hr => by cases hr⟩
    have hr : acc = r := Option.some.inj hr
    rw [← hr]
    exact hacc i (Nat.zero_le _) hi
  | succ k ih =>
    intro x used acc fn w hf hk hx hu h0 hacc
    obtain ⟨fn, rfl⟩ : ∃ g, fn = g + 1 := ⟨fn - 1, by omega⟩
    have hml : x % m < m := Nat.mod_lt _ (by omega)
    have hm0 : ¬ nI m = (0 : Int32) := fun q => by
      have := (nI_eq (b := 0) (by omega) (by decide)).mp q
      omega
    have hdl : x / m < 1000 := Nat.lt_of_le_of_lt (Nat.div_le_self _ _) hx
    have hstep : f_X9_layLine_L12 p1 (fn + 1) (nI x) (nI used) (nI (k + 1) - nI 1) w = if used.testBit (x % m) = true then some ((0 : Int32), sI w 21 k (nI (x % m))) else f_X9_layLine_L12 p1 fn (nI (x / m)) (nI (aset used (x % m))) (nI k - nI 1) (sI w 21 k (nI (x % m))) := by
      show f_X9_layLine_L12_b _ _ _ _ _ _ = _
      unfold f_X9_layLine_L12_b
      have g2 : gI (sI w 21 k (nI (x % m))) 0 2 = nI m := by rw [gI_sI, if_neg (by omega)]; exact h0
      rw [pk_sub (by omega), Nat.add_sub_cancel, if_neg (nI_pos (by omega)), h0, if_neg hm0, inB_n (show k < 4 by omega) (by decide), zck_t, nI_cl (by omega), zrem_n (by omega) (by omega) (by omega), zlet_s, g2, if_neg hm0, pk_div (by omega) (by omega) (by omega), zlx_s, zck_t, gI_sI, if_pos ⟨rfl, rfl⟩, has_bit hu (by omega), zb_s]
      unfold abit
      by_cases c : used.testBit (x % m) = true
      · rw [if_pos c, if_pos c, if_neg (by decide)]
      · rw [if_neg c, if_neg c, if_pos rfl, zck_t, gI_sI, if_pos ⟨rfl, rfl⟩, (ab_set used hu (x % m) (by omega)).1, zlx_s, nI_dn]
    rw [hstep]
    unfold layR
    by_cases c : used.testBit (x % m) = true
    · rw [if_pos c, if_pos c]
      exact ⟨fun r hr => (by cases hr), fun _ => ⟨_, rfl, frP_s (frP_rf _ w) rfl⟩⟩
    · rw [if_neg c, if_neg c]
      have hacc' : ∀ i, k ≤ i → i < m → gI (sI w 21 k (nI (x % m))) 21 i = nI ((x % m :: acc).getD (i - k) 0) := by
        intro i h1 h2
        rw [gI_sI]
        by_cases e : i = k
        · rw [if_pos ⟨rfl, e⟩, e, Nat.sub_self]
          rfl
        · rw [if_neg (by omega), hacc i (by omega) h2, show i - k = (i - (k + 1)) + 1 by omega]
          rfl
      obtain ⟨g1, g2⟩ := ih (x / m) (aset used (x % m)) (x % m :: acc) fn (sI w 21 k (nI (x % m))) (by omega) (by omega) hdl (aset_lt _ hu _ (by omega)) (by rw [gI_sI, if_neg (by omega)]; exact h0) hacc'
      refine ⟨fun r hr => ?_, fun hr => ?_⟩
      · obtain ⟨w', e, L, F⟩ := g1 r hr
        exact ⟨w', e, L, frP_tr (frP_s (frP_rf _ w) rfl) F⟩
      · obtain ⟨w', e, F⟩ := g2 hr
        exact ⟨w', e, frP_tr (frP_s (frP_rf _ w) rfl) F⟩
theorem layLM {m x : Nat} {w : zM} (hm : m ≤ 4) (hx : x < 1000) (h0 : gI w 0 2 = nI m) : (∀ r, layF m x = some r → ∃ w', f_X9_layLine (nI x) w = some ((1 : Int32), w') ∧ LW w' m r ∧ frP p21 w w') ∧ (layF m x = none → ∃ w', f_X9_layLine (nI x) w = some ((0 : Int32), w') ∧ frP p21 w w') := by
  unfold f_X9_layLine
  rw [zlx_s, h0]
  exact layM hm m x 0 [] 400 w (by omega) (Nat.le_refl _) hx (by decide) h0 (fun i h1 h2 => by omega)
theorem backF {w2 w3 : zM} (h : f_X9_putBack w2 = some ((), w3)) : ∀ a k, a ≠ 3 → a ≠ 7 → ¬ (a = 0 ∧ (k = 1 ∨ k = 3 ∨ k = 4)) → gI w3 a k = gI w2 a k := by
  obtain ⟨u2, e1, e2, e3, e4, e5, e6, e7⟩ := cp_loop (fun _ _ _ => none) 19 3 6 f_X9_putBack_L26 (fun u => f_X9_putBack_L52 400 (0 : Int32) u) (by decide) (fun fn i u hi => by
    show f_X9_putBack_L26_b _ _ _ = _
    unfold f_X9_putBack_L26_b
    rw [if_neg (show ¬ (6 : Int32) ≤ nI i from nI_ge (b := 6) hi (by decide)), inB_n hi (by decide), zck_t, zck_t, zlet_s, nI_cl (n := i) (by omega), nI_a1]) (fun fn u => by
    show f_X9_putBack_L26_b _ _ _ = _
    rfl) 6 0 400 (sI (sI (sI w2 0 1 (gI w2 0 31)) 0 3 (gI w2 0 32)) 0 4 (gI w2 0 33)) (by decide) (by decide)
  obtain ⟨u3, d1, d2, d3, d4, d5, d6, d7⟩ := cp_loop (fun _ _ _ => none) 20 7 4 f_X9_putBack_L52 (fun u => some ((), u)) (by decide) (fun fn i u hi => by
    show f_X9_putBack_L52_b _ _ _ = _
    unfold f_X9_putBack_L52_b
    rw [if_neg (show ¬ (4 : Int32) ≤ nI i from nI_ge (b := 4) hi (by decide)), inB_n hi (by decide), zck_t, zck_t, zlet_s, nI_cl (n := i) (by omega), nI_a1]) (fun fn u => by
    show f_X9_putBack_L52_b _ _ _ = _
    rfl) 4 0 400 u2 (by decide) (by decide)
  have e : f_X9_putBack w2 = some ((), u3) := by
    unfold f_X9_putBack
    rw [zlet_s, zlet_s, zlet_s]
    exact e1.trans d1
  have e' : u3 = w3 := congrArg Prod.snd (Option.some.inj (e.symm.trans h))
  intro a k h1 h2 h3
  rw [← e', d2 a k h2, e2 a k h1, gI_sI, if_neg (by omega), gI_sI, if_neg (by omega), gI_sI, if_neg (by omega)]
theorem gdLM {k m n t was : Nat} {T1 : zT} {w : zM} {k11 : Int32 → Int32 → zM → Option (Int32 × zM)} (h : VM 0 0 13 w T1) (ho : OkT k T1) (hm : T1 0 1 = m) (hw : was < 64) (ht : t < 1000) : ∀ j w0 G fn, w0 + j = m → j < fn → G < 64 → f_X9_doneInTime_L37 (nI n) k11 fn (nI G) (nI t) (nI was) (nI w0) w = k11 (nI (gdL T1 was t j w0 G)) (nI (t + 1)) w ∧ gdL T1 was t j w0 G < 64 := by
  have hm4 := ho.2.1
  have e2 : gI w 0 2 = nI m := by rw [← hm]; exact h.2.1
  intro j
  induction j with
  | zero =>
    intro w0 G fn hw0 hf hG
    obtain ⟨fn, rfl⟩ : ∃ g, fn = g + 1 := ⟨fn - 1, by omega⟩
    refine ⟨?_, hG⟩
    show f_X9_doneInTime_L37_b _ _ _ _ _ _ _ _ = _
    unfold f_X9_doneInTime_L37_b
    rw [e2, if_pos (nI_le (by omega) (by omega)), nI_a1]
    rfl
  | succ j ih =>
    intro w0 G fn hw0 hf hG
    obtain ⟨fn, rfl⟩ : ∃ g, fn = g + 1 := ⟨fn - 1, by omega⟩
    have hdue : gI w 6 w0 = nI (T1 7 w0) := (h.2.2.2.2.2.2.2.1 w0 (by omega)).2.1
    have hdl := (ho.2.2.2.2.2.2.2 w0 (by omega)).2.2.1
    have hz : nI G ||| (0 : Int32) = nI G := Int32.or_zero
    show f_X9_doneInTime_L37_b _ _ _ _ _ _ _ _ = k11 (nI (gdL T1 was t j (w0 + 1) _)) _ _ ∧ gdL T1 was t j (w0 + 1) _ < 64
    unfold f_X9_doneInTime_L37_b
    rw [e2, if_neg (nI_ge (by omega) (by omega)), isDM h ho (by omega), zb_s]
    by_cases c1 : T1 6 w0 ≤ T1 8 w0
    · rw [if_pos c1, if_neg (show ¬ nI 1 = (0 : Int32) from by decide), has_bit hw (by omega), zb_s]
      unfold abit
      by_cases c2 : was.testBit w0 = true
      · rw [if_pos c2, if_neg (show ¬ (1 : Int32) = 0 from by decide), hz, zlx_s, nI_a1, if_neg (show ¬ (T1 6 w0 ≤ T1 8 w0 ∧ was.testBit w0 = false ∧ t ≤ T1 7 w0) from fun q => by rw [c2] at q; exact nope q.2.1 rfl)]
        exact ih (w0 + 1) G fn (by omega) (by omega) hG
      · have c2f : was.testBit w0 = false := by simpa using c2
        rw [if_neg c2, if_pos (show (0 : Int32) = 0 from rfl), inB_n (show w0 < 4 by omega) (by decide), zck_t, nI_cl (by omega), hdue]
        by_cases c3 : t ≤ T1 7 w0
        · rw [if_neg (show ¬ nI (T1 7 w0) < nI t from nI_nlt c3 (by omega)), (ab_set G hG w0 (by omega)).1, zlx_s, nI_a1, if_pos ⟨c1, c2f, c3⟩]
          exact ih (w0 + 1) (aset G w0) fn (by omega) (by omega) (aset_lt G hG w0 (by omega))
        · rw [if_pos (show nI (T1 7 w0) < nI t from nI_lt (by omega) (by omega)), hz, zlx_s, nI_a1, if_neg (fun q => c3 q.2.2)]
          exact ih (w0 + 1) G fn (by omega) (by omega) hG
    · rw [if_neg c1, if_pos (show nI 0 = (0 : Int32) from rfl), hz, zlx_s, nI_a1, if_neg (fun q => c1 q.1)]
      exact ih (w0 + 1) G fn (by omega) (by omega) hG
theorem folM {k m : Nat} {T : zT} {r : List Nat} {w : zM} (h : VM 0 0 13 w T) (ho : OkT k T) (hm : T 0 1 = m) (hr : rowOk m r) (hL : LW w m r) : ∀ j p fn, m ≤ p + j → p ≤ m → j < fn → f_X9_firstOfLine_L2 fn (nI p) w = some (mAn (if fuL T r m j p < m then r.getD (fuL T r m j p) 0 + 1 else 0), w) := by
  have hm4 := ho.2.1
  have e2 : gI w 0 2 = nI m := by rw [← hm]; exact h.2.1
  intro j
  induction j with
  | zero =>
    intro p fn hp hpm hf
    obtain ⟨fn, rfl⟩ : ∃ g, fn = g + 1 := ⟨fn - 1, by omega⟩
    show f_X9_firstOfLine_L2_b _ _ _ = some (mAn (if p < m then r.getD p 0 + 1 else 0), w)
    unfold f_X9_firstOfLine_L2_b
    rw [e2, if_pos (nI_le (by omega) (by omega)), if_neg (by omega)]
    rfl
  | succ j ih =>
    intro p fn hp hpm hf
    obtain ⟨fn, rfl⟩ : ∃ g, fn = g + 1 := ⟨fn - 1, by omega⟩
    show f_X9_firstOfLine_L2_b _ _ _ = _
    unfold f_X9_firstOfLine_L2_b fuL
    rw [e2]
    by_cases c : p < m
    · have hx := hr.1 p c
      rw [if_pos c, if_neg (nI_ge c (by omega)), inB_n (show p < 4 by omega) (by decide), zck_t, nI_cl (by omega), hL p c, isDM h ho (by omega), zb_s]
      by_cases d : T 6 (r.getD p 0) ≤ T 8 (r.getD p 0)
      · rw [if_pos d, if_pos d, if_neg (show ¬ nI 1 = (0 : Int32) from by decide), nI_a1]
        exact ih (p + 1) fn (by omega) (by omega) (by omega)
      · rw [if_neg d, if_neg d, if_pos (show nI 0 = (0 : Int32) from rfl), zck_t, if_pos c, hL p c, show mAn (r.getD p 0 + 1) = nI (r.getD p 0) from mAn_s _ (Nat.succ_pos _)]
    · rw [if_neg c, if_neg c, if_pos (nI_le (by omega) (by omega))]
      rfl
theorem cntM {m n G : Nat} {w : zM} (hm : m ≤ 4) (e2 : gI w 0 2 = nI m) (hG : G < 64) : ∀ j w0 fn, w0 + j = m → j < fn → f_X9_doneInTime_L109 (nI n) fn (nI G) (nI (popC w0 G)) (nI w0) w = some (nI (popC m G), w) := by
  intro j
  induction j with
  | zero =>
    intro w0 fn h hf
    obtain ⟨fn, rfl⟩ : ∃ g, fn = g + 1 := ⟨fn - 1, by omega⟩
    obtain rfl : w0 = m := by omega
    show f_X9_doneInTime_L109_b _ _ _ _ _ _ = _
    unfold f_X9_doneInTime_L109_b
    rw [e2, if_pos (nI_le (Nat.le_refl _) (by omega))]
  | succ j ih =>
    intro w0 fn h hf
    obtain ⟨fn, rfl⟩ : ∃ g, fn = g + 1 := ⟨fn - 1, by omega⟩
    have hn := ih (w0 + 1) fn (by omega) (by omega)
    show f_X9_doneInTime_L109_b _ _ _ _ _ _ = _
    unfold f_X9_doneInTime_L109_b
    rw [e2, if_neg (nI_ge (by omega) (by omega)), has_bit hG (by omega), zb_s]
    unfold abit
    by_cases c : G.testBit w0 = true
    · rw [if_pos c, if_neg (by decide), zlx_s, nI_a1, nI_a1]
      rw [show popC (w0 + 1) G = popC w0 G + 1 from by show popC w0 G + (if G.testBit w0 = true then 1 else 0) = _; rw [if_pos c]] at hn
      exact hn
    · rw [if_neg c, if_pos rfl, zlx_s, nI_a1, show nI (popC w0 G) + (0 : Int32) = nI (popC w0 G + 0) from nI_add _ 0]
      rw [show popC (w0 + 1) G = popC w0 G + 0 by rw [popC, if_neg c]] at hn
      exact hn
theorem rfLM {k m n : Nat} {sqs : Nat → zQ} {r : List Nat} {w0 : zM} (hs : OkS k sqs) (hr : rowOk m r) (hn : n ≤ 40) : ∀ (j t G fn : Nat) (w : zM) (T : zT), t + j = n + 1 → 0 < t → j < fn → VM 0 0 13 w T → OkT k T → SqM k w sqs → SV w0 w → T 0 3 + j ≤ 20000 → T 0 1 = m → LW w m r → G < 64 → ∃ w', f_X9_doneInTime_L11 (nI n) fn (nI G) (nI t) w = some (nI (popC m (rfL sqs r m j t T G)), w') ∧ rfr w0 w' ∧ (∀ a i, 21 ≤ a → a ≤ 22 → gI w' a i = gI w a i) := by
  intro j
  induction j with
  | zero =>
    intro t G fn w T ht ht0 hf h ho hq hv h3 hm hL hG
    obtain ⟨fn, rfl⟩ : ∃ g, fn = g + 1 := ⟨fn - 1, by omega⟩
    have hm4 := ho.2.1
    obtain ⟨w3, e3, R3⟩ := backM hv
    have B3 := backF e3
    show ∃ w', f_X9_doneInTime_L11_b _ _ _ _ _ = _ ∧ _
    unfold f_X9_doneInTime_L11_b
    rw [if_pos (show nI n < nI t from nI_lt (by omega) (by omega)), e3, zb_s]
    have e2 : gI w3 0 2 = nI m := by
      rw [B3 0 2 (by decide) (by decide) (by omega), ← hm]
      exact h.2.1
    exact ⟨w3, cntM (by omega) e2 hG m 0 400 (by omega) (by omega), R3, fun a i h1 h2 => B3 a i (by omega) (by omega) (by omega)⟩
  | succ j ih =>
    intro t G fn w T ht ht0 hf h ho hq hv h3 hm hL hG
    obtain ⟨fn, rfl⟩ : ∃ g, fn = g + 1 := ⟨fn - 1, by omega⟩
    have hm4 := ho.2.1
    have hfo : f_X9_firstOfLine w = some (mAn (anT T r m), w) := folM h ho hm hr hL 5 0 400 (by omega) (by omega) (by decide)
    have ha : anT T r m ≤ T 0 1 := by
      unfold anT
      split
      · rename_i c
        have := hr.1 _ c
        omega
      · omega
    show ∃ w', f_X9_doneInTime_L11_b _ _ _ _ _ = _ ∧ _
    unfold f_X9_doneInTime_L11_b rfL
    rw [if_neg (show ¬ nI n < nI t from nI_nlt (by omega) (by omega)), dnM h ho, zb_s, hfo, zb_s, zlet_s]
    have h1 := VM_anv (a := anT T r m) h
    have ho1 := OkT_anv ho ha
    have hq1 : SqM k (sI w 0 3 (mAn (anT T r m))) sqs := SqM_cg (fun a i h1 h2 => by rw [gI_sI, if_neg (by omega)]) hq
    obtain ⟨w2, e2, V2, F2⟩ := minM h1 ho1 hs hq1
    have ho2 : OkT k (stepT sqs (tS T 0 2 (anT T r m))) := OkT_step ho1 (by show T 0 3 < 20000; omega)
    have hm2 : stepT sqs (tS T 0 2 (anT T r m)) 0 1 = m := by rw [st01]; exact hm
    have h32 : stepT sqs (tS T 0 2 (anT T r m)) 0 3 = T 0 3 + 1 := rfl
    have S2 : SV w0 w2 := SV_mfr (SV_put hv (Or.inr ⟨rfl, by omega⟩)) F2
    have g2 : ∀ a i, 21 ≤ a → a ≤ 22 → gI w2 a i = gI w a i := fun a i h1 h2 => by
      rw [F2.1 a i (by omega) (by omega) (by omega) (by omega) (by omega), gI_sI, if_neg (by omega)]
    have L2 : LW w2 m r := fun i hi => (g2 21 i (by decide) (by decide)).trans (hL i hi)
    rw [e2, zb_s]
    generalize stepT sqs (tS T 0 2 (anT T r m)) = T1 at *
    obtain ⟨d1, d2⟩ := gdLM (n := n) (k11 := f_X9_doneInTime_L11 (nI n) fn) (t := t) V2 ho2 hm2 (dnT_lt ho) (by omega) m 0 G 400 (by omega) (by omega) hG
    rw [show (0 : Int32) = nI 0 from rfl, d1]
    obtain ⟨w', e', R', g'⟩ := ih (t + 1) _ fn w2 T1 (by omega) (by omega) (by omega) V2 ho2 (SqM_mfr F2 hq1) S2 (by omega) hm2 L2 d2
    exact ⟨w', e', R', fun a i h1 h2 => (g' a i h1 h2).trans (g2 a i h1 h2)⟩
theorem dtM {k m n : Nat} {T : zT} {sqs : Nat → zQ} {r : List Nat} {w : zM} (h : MC k T sqs w) (hm : T 0 1 = m) (hr : rowOk m r) (hL : LW w m r) (hn : n ≤ 40) : ∃ w', f_X9_doneInTime (nI n) w = some (nI (vaT sqs T m n r), w') ∧ rfr w w' ∧ (∀ a i, 21 ≤ a → a ≤ 22 → gI w' a i = gI w a i) := by
  obtain ⟨hM, ho, hmn, hs, hq⟩ := h
  have hm4 := ho.2.1
  obtain ⟨w1, e1, S1, f1⟩ := saveM w
  have M1 := VM_sv hM f1
  obtain ⟨w', e2, R2, g2⟩ := rfLM (k := k) hs hr hn n 1 (dnT T) 400 w1 T (by omega) (by decide) (by omega) M1 ho (SqM_sv hq f1) S1 (by omega) hm (fun i hi => (f1 21 i (by omega) (by omega) (by omega)).trans (hL i hi)) (dnT_lt ho)
  refine ⟨w', ?_, R2, fun a i h1 h2 => (g2 a i h1 h2).trans (f1 a i (by omega) (by omega) (by omega))⟩
  unfold f_X9_doneInTime
  rw [e1, zb_s, dnM M1 ho, zb_s, ← vat_rf (by omega) hr hm]
  exact e2
/-- the best line so far as the reference holds it -/
def BM (w : zM) (m : Nat) (r : List Nat) : Prop := ∀ i, i < m → gI w 22 i = nI (r.getD i 0)
theorem cpB101 (p1 p2 x3 x4 x5 : Int32) (k59 : Int32 → Int32 → Int32 → zM → Option (Int32 × zM)) (w : zM) : f_X9_best_L101 p1 p2 k59 400 x3 x4 x5 (0 : Int32) w = k59 x3 x4 (x5 + (1 : Int32)) (sI (sI (sI (sI w 22 0 (gI w 21 0)) 22 1 (gI w 21 1)) 22 2 (gI w 21 2)) 22 3 (gI w 21 3)) := rfl
theorem bestLM {k m n : Nat} {p2 : Int32} {T : zT} {sqs : Nat → zQ} (hm : T 0 1 = m) (hn : n ≤ 40) : ∀ (j x fn : Nat) (s : Nat × List Nat) (w : zM), x + j = m ^ m → j < fn → MC k T sqs w → (0 < s.1 → BM w m s.2) → s.1 ≤ m + 1 → ∃ w', f_X9_best_L59 (nI n) p2 fn (nI (m ^ m)) (nI s.1 - nI 1) (nI x) w = (if (0 : Int32) ≤ p2 then (if (gI w' 0 2) ≤ p2 then some ((-5 : Int32), w') else zck (inB p2 4) <| some ((gI w' 22 p2.toNatClampNeg), w')) else some (nI (fxL (vaT sqs T m n) m j x s).1 - nI 1, w')) ∧ (0 < (fxL (vaT sqs T m n) m j x s).1 → BM w' m (fxL (vaT sqs T m n) m j x s).2) ∧ rfr w w' := by
  intro j
  induction j with
  | zero =>
    intro x fn s w hx hf h hB hs1
    obtain ⟨fn, rfl⟩ : ∃ g, fn = g + 1 := ⟨fn - 1, by omega⟩
    have hm4 : m ≤ 4 := by have := h.2.1.2.1; omega
    have hpw := pow_lt m hm4
    refine ⟨w, ?_, hB, rfr_rf _⟩
    show f_X9_best_L59_b _ _ _ _ _ _ _ = _
    unfold f_X9_best_L59_b
    rw [if_pos (nI_le (by omega) (by omega))]
    rfl
  | succ j ih =>
    intro x fn s w hx hf h hB hs1
    obtain ⟨fn, rfl⟩ : ∃ g, fn = g + 1 := ⟨fn - 1, by omega⟩
    have hm4 : m ≤ 4 := by have := h.2.1.2.1; omega
    have hpw := pow_lt m hm4
    have h02 : gI w 0 2 = nI m := by rw [← hm]; exact h.1.2.1
    obtain ⟨g1, g2⟩ := layLM (x := x) hm4 (by omega) h02
    show ∃ w', f_X9_best_L59_b _ _ _ _ _ _ _ = _ ∧ _
    unfold f_X9_best_L59_b fxL
    rw [if_neg (nI_ge (show x < m ^ m by omega) (by omega))]
    have r21 : ∀ {w1 : zM}, frP p21 w w1 → rfr w w1 := fun F => ⟨fun a i _ _ q _ => F.1 a i (by unfold p21; omega), F.2.1, F.2.2⟩
    cases hl : layF m x with
    | none =>
      obtain ⟨w1, e1, F1⟩ := g2 hl
      rw [e1, zb_s, if_pos rfl, nI_a1]
      have R1 := r21 F1
      obtain ⟨w', e', B', R'⟩ := ih (x + 1) fn s w1 (by omega) (by omega) (MC_rfr h R1) (fun q i hi => (F1.1 22 i (by unfold p21; omega)).trans (hB q i hi)) hs1
      exact ⟨w', e', B', rfr_tr R1 R'⟩
    | some r =>
      obtain ⟨w1, e1, L1, F1⟩ := g1 r hl
      have hr := lay_ok hm4 (show x < m ^ m by omega) hl
      have R1 := r21 F1
      obtain ⟨w2, e2, R2, k2⟩ := dtM (MC_rfr h R1) hm hr L1 hn
      have R12 := rfr_tr R1 R2
      have hv := va_le (sqs := sqs) (T := T) (n := n) hm4 hr hm
      rw [e1, zb_s, if_neg (by decide), e2, zb_s]
      dsimp only
      by_cases c : s.1 < vaT sqs T m n r + 1
      · have hf : fA (vaT sqs T m n) s r = (vaT sqs T m n r + 1, r) := if_pos c
        rw [hf, if_pos (show nI s.1 - nI 1 < nI (vaT sqs T m n r) from by
          by_cases z : s.1 = 0
          · rw [z, show nI 0 - nI 1 = -nI 1 from rfl]
            exact (mlt_t (a := 1) (b := vaT sqs T m n r) (by omega) (by decide) (by omega)).mpr trivial
          · rw [pk_sub (by omega)]
            exact nI_lt (by omega) (by omega)), cpB101, nI_a1, show nI (vaT sqs T m n r) = nI (vaT sqs T m n r + 1) - nI 1 from by rw [pk_sub (by omega), Nat.add_sub_cancel]]
        have R3 : rfr w (sI (sI (sI (sI w2 22 0 (gI w2 21 0)) 22 1 (gI w2 21 1)) 22 2 (gI w2 21 2)) 22 3 (gI w2 21 3)) := rfr_tr R12 ⟨fun a i _ _ q _ => by rw [gI_sI, if_neg (by omega), gI_sI, if_neg (by omega), gI_sI, if_neg (by omega), gI_sI, if_neg (by omega)], fun _ _ => rfl, fun _ _ => rfl⟩
        obtain ⟨w', e', B', R'⟩ := ih (x + 1) fn (vaT sqs T m n r + 1, r) _ (by omega) (by omega) (MC_rfr h R3) (fun q i hi => by
          have l2 : gI w2 21 i = nI (r.getD i 0) := (k2 21 i (by decide) (by decide)).trans (L1 i hi)
          have hi4 : i = 0 ∨ i = 1 ∨ i = 2 ∨ i = 3 := by omega
          rw [← l2]
          rcases hi4 with rfl | rfl | rfl | rfl <;> rfl) (by show vaT sqs T m n r + 1 ≤ m + 1; omega)
        exact ⟨w', e', B', rfr_tr R3 R'⟩
      · have hf : fA (vaT sqs T m n) s r = s := if_neg c
        rw [hf, if_neg (show ¬ nI s.1 - nI 1 < nI (vaT sqs T m n r) from by
          rw [pk_sub (by omega)]
          exact nI_nlt (by omega) (by omega)), nI_a1]
        obtain ⟨w', e', B', R'⟩ := ih (x + 1) fn s w2 (by omega) (by omega) (MC_rfr h R12) (fun q i hi => ((k2 22 i (by decide) (by decide)).trans (F1.1 22 i (by unfold p21; omega))).trans (hB q i hi)) hs1
        exact ⟨w', e', B', rfr_tr R12 R'⟩
theorem powM {m n : Nat} {p2 : Int32} {w : zM} (hm : m ≤ 4) (h0 : gI w 0 2 = nI m) : ∀ j i fn, i + j = m → j < fn → f_X9_best_L31 (nI n) p2 fn (nI (m ^ i)) (nI i) w = f_X9_best_L59 (nI n) p2 400 (nI (m ^ m)) (-1 : Int32) (0 : Int32) w := by
  intro j
  induction j with
  | zero =>
    intro i fn hi hf
    obtain ⟨fn, rfl⟩ : ∃ g, fn = g + 1 := ⟨fn - 1, by omega⟩
    obtain rfl : i = m := by omega
    show f_X9_best_L31_b _ _ _ _ _ _ = _
    unfold f_X9_best_L31_b
    rw [h0, if_pos (nI_le (Nat.le_refl _) (by omega))]
  | succ j ih =>
    intro i fn hi hf
    obtain ⟨fn, rfl⟩ : ∃ g, fn = g + 1 := ⟨fn - 1, by omega⟩
    show f_X9_best_L31_b _ _ _ _ _ _ = _
    unfold f_X9_best_L31_b
    rw [h0, if_neg (nI_ge (by omega) (by omega)), pk_mul, ← Nat.pow_succ, zlx_s, nI_a1]
    exact ih (i + 1) fn (by omega) (by omega)
theorem fo_pos {V : List Nat → Nat} {m : Nat} : ∀ x, 0 < x → 0 < (fo V m x).1 := by
  intro x
  induction x with
  | zero => intro h; omega
  | succ x ih =>
    intro _
    show 0 < (fA V (fo V m x) ((prm m).getD x [])).1
    unfold fA
    split
    · exact Nat.succ_pos _
    · rename_i c
      omega
theorem best_ask {k : Nat} {T : zT} {sqs : Nat → zQ} {uX w : zM} (hc : Core k T sqs uX w) (p1 p2 : Int32) : Ask (f_X8_best p1 p2) (f_X9_best p1 p2) uX w := by
  have hXC := Core_X hc
  have hMC := Core_M hc
  have ho := hc.2.2.1
  have hm4 := ho.2.1
  have hro := roF_pos (T 0 1) hm4
  have h02 : gI w 0 2 = nI (T 0 1) := hc.2.1.2.1
  have wi : ∀ (q : Int32) (a b : Int32) (u : zM), f_X8_isWithin q a b u = some (b2i (decide (a ≤ q ∧ q ≤ b)), u) := fun q a b u => f_within q a b u
  have mi : ∀ (q : Int32) (a b : Int32) (u : zM), f_X9_in q a b u = some (b2i (decide (a ≤ q ∧ q ≤ b)), u) := fun q a b u => f_in q a b u
  unfold Ask f_X8_best f_X9_best
  rw [wi, zb_s, mi, zb_s]
  by_cases c1 : (-1 : Int32) ≤ p2 ∧ p2 ≤ 3
  · rw [decide_eq_true c1, show b2i true = 1 from rfl, if1, if1, wi, zb_s, mi, zb_s]
    rcases nI_in_or (n := 41) (by decide) p1 with ⟨n, hn, rfl⟩ | hp
    · rw [show decide ((0 : Int32) ≤ nI n ∧ nI n ≤ 40) = true from decide_eq_true ⟨nI_pos' (by omega), nI_le (b := 40) (by omega) (by decide)⟩, show b2i true = 1 from rfl, if1, if1]
      have hal : (0 : Nat) < roF (T 0 1) → 0 % roF (T 0 1 - reT sqs T (T 0 1) n ((prm (T 0 1)).getD 0 [])) = 0 := fun _ => Nat.zero_mod _
      obtain ⟨u', e1, B1, G1⟩ := bestX (k := k) (sqs := sqs) (T := T) rfl (show n ≤ 40 by omega) (roF (T 0 1)) 0 0 0 400 uX (by omega) (by omega) (Nat.le_refl _) hXC rfl (fun q => absurd q (Nat.lt_irrefl _)) hal
      obtain ⟨w', e2, B2, R2⟩ := bestLM (k := k) (p2 := p2) (sqs := sqs) (T := T) rfl (show n ≤ 40 by omega) ((T 0 1) ^ (T 0 1)) 0 400 (0, []) w (by omega) (by have := pow_lt (T 0 1) hm4; omega) hMC (fun q => absurd q (Nat.lt_irrefl _)) (Nat.zero_le _)
      rw [fx_fo _ hm4] at e2 B2
      have hpos := fo_pos (V := vaT sqs T (T 0 1) n) (m := T 0 1) (roF (T 0 1)) hro.1
      have hble : (fo (vaT sqs T (T 0 1) n) (T 0 1) (roF (T 0 1))).1 ≤ T 0 1 + 1 := fo_le _ (fun y hy => va_le hm4 (prm_ok _ hm4 y hy) rfl)
      have B1 := B1 hpos
      have B2 := B2 hpos
      have e1' : f_X1_findBestRow (nI n) uX = some (nI (fo (vaT sqs T (T 0 1) n) (T 0 1) (roF (T 0 1))).1 - nI 1, u') := by
        unfold f_X1_findBestRow
        rw [hXC.1.2.1, if_neg (show ¬ (4 : Int32) < nI (T 0 1) from nI_nlt (a := 4) hm4 (by decide)), zlx_s]
        exact e1
      have e2' : f_X9_best_L31 (nI n) p2 400 (1 : Int32) (0 : Int32) w = _ := (powM hm4 h02 (T 0 1) 0 400 (by omega) (by omega)).trans e2
      rw [e1', zb_s, e2']
      have X1 : VX 2 u' T := (XC_b hXC G1.1 G1.2.2).1
      have M2 := (MC_rfr hMC R2).1
      have g26 : gI u' 2 6 = nI (T 0 1) := X1.2.1
      have g02 : gI w' 0 2 = nI (T 0 1) := M2.2.1
      have fa : afr uX u' := ⟨fun a i _ q => G1.1 a i q, G1.2.1, fun a i q => G1.2.2 a i q⟩
      generalize fo (vaT sqs T (T 0 1) n) (T 0 1) (roF (T 0 1)) = F at *
      by_cases c2 : p2 = (-1 : Int32)
      · rw [if_pos c2, c2, if_neg (show ¬ (0 : Int32) ≤ -1 from by decide)]
        exact ⟨_, u', w', rfl, rfl, fa, R2⟩
      · rw [if_neg c2]
        have c3 : ¬ p2 < 0 := by
          intro q
          have h1 := c1.1
          rw [Int32.lt_iff_toInt_lt] at q
          rw [Int32.le_iff_toInt_le] at h1
          have z0 : (0 : Int32).toInt = 0 := by decide
          have z1 : (-1 : Int32).toInt = -1 := by decide
          exact c2 (Int32.toInt_inj.mp (by omega))
        obtain ⟨i, hi, rfl⟩ := nI_of c3
        rw [if_pos (nI_pos' hi), g26, g02]
        by_cases c4 : T 0 1 ≤ i
        · rw [if_pos (nI_le c4 hi), if_pos (nI_le c4 hi)]
          exact ⟨_, u', w', rfl, rfl, fa, R2⟩
        · rw [if_neg (nI_ge (by omega) (by omega)), if_neg (nI_ge (by omega) (by omega)), inB_n (show i < 4 by omega) (by decide), zck_t, zck_t, nI_cl (by omega), B1 i (by omega), B2 i (by omega)]
          exact ⟨_, u', w', rfl, rfl, fa, R2⟩
    · have hz : decide ((0 : Int32) ≤ p1 ∧ p1 ≤ 40) = false := decide_eq_false (out_le (n := 40) (by decide) hp)
      rw [hz, show b2i false = 0 from rfl, if0, if0]
      exact ⟨_, uX, w, rfl, rfl, afr_rf _, rfr_rf _⟩
  · rw [decide_eq_false c1, show b2i false = 0 from rfl, if0, if0]
    exact ⟨_, uX, w, rfl, rfl, afr_rf _, rfr_rf _⟩
