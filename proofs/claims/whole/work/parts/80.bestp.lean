/-! ===== PURE: rows of works: which are done in time, once for both sides ===== -/
def popC : Nat → Nat → Nat
  | 0, _ => 0
  | m + 1, G => popC m G + (if G.testBit m = true then 1 else 0)
theorem popC_le (G : Nat) : ∀ m, popC m G ≤ m := by
  intro m
  induction m with
  | zero => exact Nat.le_refl _
  | succ m ih =>
    unfold popC
    split <;> omega
theorem aset_bit (A i j : Nat) : (aset A i).testBit j = (A.testBit j || decide (i = j)) := by
  unfold aset
  rw [Nat.testBit_or, Nat.testBit_two_pow]
theorem popC_out {G x : Nat} : ∀ m, m ≤ x → popC m (aset G x) = popC m G := by
  intro m
  induction m with
  | zero => exact fun _ => rfl
  | succ m ih =>
    intro h
    unfold popC
    rw [ih (by omega), aset_bit, show decide (x = m) = false from decide_eq_false (by omega), Bool.or_false]
theorem popC_in {G x : Nat} (hG : G.testBit x = false) : ∀ m, x < m → popC m (aset G x) = popC m G + 1 := by
  intro m
  induction m with
  | zero => exact fun h => absurd h (Nat.not_lt_zero _)
  | succ m ih =>
    intro h
    unfold popC
    by_cases c : x = m
    · subst c
      rw [popC_out x (Nat.le_refl _), aset_bit, show decide (x = x) = true from decide_eq_true rfl, Bool.or_true, hG, if_pos rfl, if_neg (by decide)]
    · rw [ih (by omega), aset_bit, show decide (x = m) = false from decide_eq_false c, Bool.or_false]
      omega
theorem dn_bitL {T : zT} : ∀ j i b w, i + j = T 0 1 → (dnL T j i b).testBit w = (b.testBit w || (decide (i ≤ w ∧ w < T 0 1) && decide (T 6 w ≤ T 8 w))) := by
  intro j
  induction j with
  | zero =>
    intro i b w h
    show b.testBit w = _
    rw [show decide (i ≤ w ∧ w < T 0 1) = false from decide_eq_false (by omega), Bool.false_and, Bool.or_false]
  | succ j ih =>
    intro i b w h
    show (dnL T j (i + 1) (if T 6 i ≤ T 8 i then aset b i else b)).testBit w = _
    rw [ih (i + 1) _ w (by omega)]
    by_cases c : w = i
    · subst c
      rw [show decide (w + 1 ≤ w ∧ w < T 0 1) = false from decide_eq_false (by omega), show decide (w ≤ w ∧ w < T 0 1) = true from decide_eq_true (by omega), Bool.false_and, Bool.or_false, Bool.true_and]
      by_cases d : T 6 w ≤ T 8 w
      · rw [if_pos d, aset_bit, decide_eq_true rfl, decide_eq_true d]
      · rw [if_neg d, decide_eq_false d, Bool.or_false]
    · have e : (if T 6 i ≤ T 8 i then aset b i else b).testBit w = b.testBit w := by
        by_cases d : T 6 i ≤ T 8 i
        · rw [if_pos d, aset_bit, show decide (i = w) = false from decide_eq_false (by omega), Bool.or_false]
        · rw [if_neg d]
      rw [e]
      congr 2
      exact decide_eq_decide.mpr ⟨fun h => by omega, fun h => by omega⟩
theorem dn_bit {T : zT} (w : Nat) : (dnT T).testBit w = (decide (w < T 0 1) && decide (T 6 w ≤ T 8 w)) := by
  unfold dnT
  rw [dn_bitL (T 0 1) 0 0 w (by omega), Nat.zero_testBit, Bool.false_or]
  congr 1
  exact decide_eq_decide.mpr ⟨fun h => by omega, fun h => by omega⟩
theorem popC_hi {G m : Nat} (h : ∀ w, m ≤ w → G.testBit w = false) : ∀ j, popC (m + j) G = popC m G := by
  intro j
  induction j with
  | zero => rfl
  | succ j ih =>
    show popC (m + j) G + (if G.testBit (m + j) = true then 1 else 0) = popC m G
    rw [ih, h (m + j) (by omega), if_neg (by decide)]
    rfl
theorem popC_dn {T : zT} (hm : T 0 1 ≤ 6) : popC 6 (dnT T) = popC (T 0 1) (dnT T) := by
  have := popC_hi (G := dnT T) (m := T 0 1) (fun w hw => by rw [dn_bit, show decide (w < T 0 1) = false from decide_eq_false (by omega), Bool.false_and]) (6 - T 0 1)
  rw [show T 0 1 + (6 - T 0 1) = 6 by omega] at this
  exact this
/-- a row of all works -/
def rowOk (m : Nat) (r : List Nat) : Prop := (∀ i, i < m → r.getD i 0 < m) ∧ ∀ i, i < m → ∀ j, j < m → r.getD i 0 = r.getD j 0 → i = j
/-- the first place from p on whose work is not done -/
def fuL (T : zT) (r : List Nat) (m : Nat) : Nat → Nat → Nat
  | 0, p => p
  | j + 1, p => if p < m then (if T 6 (r.getD p 0) ≤ T 8 (r.getD p 0) then fuL T r m j (p + 1) else p) else p
def FU (T : zT) (r : List Nat) (m p : Nat) : Prop := p ≤ m ∧ (∀ i, i < p → T 6 (r.getD i 0) ≤ T 8 (r.getD i 0)) ∧ (p < m → ¬ T 6 (r.getD p 0) ≤ T 8 (r.getD p 0))
theorem FU_eq {T : zT} {r : List Nat} {m p q : Nat} (h : FU T r m p) (g : FU T r m q) : p = q := by
  obtain ⟨h1, h2, h3⟩ := h
  obtain ⟨g1, g2, g3⟩ := g
  by_cases c : p < q
  · exact absurd (g2 p c) (h3 (by omega))
  · by_cases d : q < p
    · exact absurd (h2 q d) (g3 (by omega))
    · omega
theorem fuL_FU {T : zT} {r : List Nat} {m : Nat} : ∀ j p, p ≤ m → m ≤ p + j → (∀ i, i < p → T 6 (r.getD i 0) ≤ T 8 (r.getD i 0)) → FU T r m (fuL T r m j p) := by
  intro j
  induction j with
  | zero => exact fun p h1 h2 h3 => ⟨h1, h3, fun q => absurd q (by show ¬ p < m; omega)⟩
  | succ j ih =>
    intro p h1 h2 h3
    unfold fuL
    by_cases c : p < m
    · rw [if_pos c]
      by_cases d : T 6 (r.getD p 0) ≤ T 8 (r.getD p 0)
      · rw [if_pos d]
        refine ih (p + 1) (by omega) (by omega) (fun i hi => ?_)
        by_cases e : i = p
        · rw [e]; exact d
        · exact h3 i (by omega)
      · rw [if_neg d]
        exact ⟨h1, h3, fun _ => d⟩
    · rw [if_neg c]
      exact ⟨h1, h3, fun q => absurd q c⟩
theorem fuL_ge {T : zT} {r : List Nat} {m : Nat} : ∀ j p, p ≤ fuL T r m j p := by
  intro j
  induction j with
  | zero => exact fun p => Nat.le_refl _
  | succ j ih =>
    intro p
    unfold fuL
    split
    · split
      · exact Nat.le_trans (Nat.le_succ p) (ih (p + 1))
      · exact Nat.le_refl _
    · exact Nat.le_refl _
theorem fuL_pre {T : zT} {r s : List Nat} {m : Nat} : ∀ j p, (∀ i, i ≤ fuL T r m j p → i < m → s.getD i 0 = r.getD i 0) → fuL T s m j p = fuL T r m j p := by
  intro j
  induction j with
  | zero => exact fun p _ => rfl
  | succ j ih =>
    intro p h
    have hge := fuL_ge (T := T) (r := r) (m := m) (j + 1) p
    unfold fuL at h ⊢
    by_cases c : p < m
    · rw [if_pos c] at h ⊢
      rw [if_pos c]
      have hp : s.getD p 0 = r.getD p 0 := by
        refine h p ?_ c
        split
        · exact Nat.le_trans (Nat.le_succ p) (fuL_ge j (p + 1))
        · exact Nat.le_refl _
      rw [hp]
      by_cases d : T 6 (r.getD p 0) ≤ T 8 (r.getD p 0)
      · rw [if_pos d] at h ⊢
        rw [if_pos d]
        exact ih (p + 1) h
      · rw [if_neg d, if_neg d]
    · rw [if_neg c, if_neg c]
/-- the class's way: minutes of a row, from a place on; how many are done in time, the place reached -/
def cdL (sqs : Nat → zQ) (r : List Nat) (m : Nat) : Nat → Nat → zT → Nat → Nat → Nat × Nat
  | 0, _, _, p, d => (d, p)
  | j + 1, t, T, p, d => if m ≤ p then (d, p) else if stepT sqs (tS T 0 2 (r.getD p 0 + 1)) 6 (r.getD p 0) ≤ stepT sqs (tS T 0 2 (r.getD p 0 + 1)) 8 (r.getD p 0) then cdL sqs r m j (t + 1) (stepT sqs (tS T 0 2 (r.getD p 0 + 1))) (fuL (stepT sqs (tS T 0 2 (r.getD p 0 + 1))) r m 5 (p + 1)) (d + (if t ≤ stepT sqs (tS T 0 2 (r.getD p 0 + 1)) 7 (r.getD p 0) then 1 else 0)) else cdL sqs r m j (t + 1) (stepT sqs (tS T 0 2 (r.getD p 0 + 1))) p d
/-- the reference's way: which are done in time, as bits -/
def gdL (T1 : zT) (was t : Nat) : Nat → Nat → Nat → Nat
  | 0, _, G => G
  | j + 1, w, G => gdL T1 was t j (w + 1) (if T1 6 w ≤ T1 8 w ∧ was.testBit w = false ∧ t ≤ T1 7 w then aset G w else G)
def anT (T : zT) (r : List Nat) (m : Nat) : Nat := if fuL T r m 5 0 < m then r.getD (fuL T r m 5 0) 0 + 1 else 0
def rfL (sqs : Nat → zQ) (r : List Nat) (m : Nat) : Nat → Nat → zT → Nat → Nat
  | 0, _, _, G => G
  | j + 1, t, T, G => rfL sqs r m j (t + 1) (stepT sqs (tS T 0 2 (anT T r m))) (gdL (stepT sqs (tS T 0 2 (anT T r m))) (dnT T) t m 0 G)
theorem gd_none {T1 : zT} {was t : Nat} : ∀ j w G, (∀ x, w ≤ x → x < w + j → ¬ (T1 6 x ≤ T1 8 x ∧ was.testBit x = false ∧ t ≤ T1 7 x)) → gdL T1 was t j w G = G := by
  intro j
  induction j with
  | zero => exact fun w G _ => rfl
  | succ j ih =>
    intro w G h
    unfold gdL
    rw [if_neg (h w (Nat.le_refl _) (by omega))]
    exact ih (w + 1) G (fun x h1 h2 => h x (by omega) (by omega))
theorem gd_one {T1 : zT} {was t x : Nat} (hx : T1 6 x ≤ T1 8 x ∧ was.testBit x = false ∧ t ≤ T1 7 x) : ∀ j w G, w ≤ x → x < w + j → (∀ y, w ≤ y → y < w + j → y ≠ x → ¬ (T1 6 y ≤ T1 8 y ∧ was.testBit y = false ∧ t ≤ T1 7 y)) → gdL T1 was t j w G = aset G x := by
  intro j
  induction j with
  | zero => intro w G h1 h2; omega
  | succ j ih =>
    intro w G h1 h2 h
    unfold gdL
    by_cases c : w = x
    · subst c
      rw [if_pos hx]
      exact gd_none j (w + 1) _ (fun y h3 h4 => h y (by omega) (by omega) (by omega))
    · rw [if_neg (h w (Nat.le_refl _) (by omega) c)]
      exact ih (w + 1) G (by omega) (by omega) (fun y h3 h4 => h y (by omega) (by omega))
theorem st6 (sqs : Nat → zQ) (T : zT) (a w : Nat) : stepT sqs (tS T 0 2 a) 6 w = T 6 w := by
  show (if (6 : Nat) = 3 then _ else if (6 : Nat) = 8 then _ else if (6 : Nat) = 0 ∧ w = 3 then _ else tS T 0 2 a 6 w) = _
  rw [if_neg (by decide), if_neg (by decide), if_neg (by omega), tS_ap, if_neg (by omega)]
theorem st7 (sqs : Nat → zQ) (T : zT) (a w : Nat) : stepT sqs (tS T 0 2 a) 7 w = T 7 w := by
  show (if (7 : Nat) = 3 then _ else if (7 : Nat) = 8 then _ else if (7 : Nat) = 0 ∧ w = 3 then _ else tS T 0 2 a 7 w) = _
  rw [if_neg (by decide), if_neg (by decide), if_neg (by omega), tS_ap, if_neg (by omega)]
theorem st01 (sqs : Nat → zQ) (T : zT) (a : Nat) : stepT sqs (tS T 0 2 a) 0 1 = T 0 1 := by
  show (if (0 : Nat) = 3 then _ else if (0 : Nat) = 8 then _ else if (0 : Nat) = 0 ∧ 1 = 3 then _ else tS T 0 2 a 0 1) = _
  rw [if_neg (by decide), if_neg (by decide), if_neg (by omega), tS_ap, if_neg (by omega)]
theorem st8 (sqs : Nat → zQ) (T : zT) (a w : Nat) (h : w + 1 ≠ a) : stepT sqs (tS T 0 2 a) 8 w = T 8 w := by
  show (if (8 : Nat) = 3 then _ else if (8 : Nat) = 8 then skT (tS T 0 2 a) w else _) = _
  rw [if_neg (by decide), if_pos rfl]
  unfold skT
  have e : tS T 0 2 a 0 2 = a := by rw [tS_ap, if_pos ⟨rfl, rfl⟩]
  rw [e, if_neg (by omega), tS_ap, if_neg (by omega)]
theorem rf_cd {sqs : Nat → zQ} {r : List Nat} {m : Nat} (hm4 : m ≤ 5) (hr : rowOk m r) : ∀ j t T G d p, T 0 1 = m → FU T r m p → (∀ w, G.testBit w = true → w < m ∧ T 6 w ≤ T 8 w) → popC m G = d → popC m (rfL sqs r m j t T G) = (cdL sqs r m j t T p d).1 := by
  intro j
  induction j with
  | zero => exact fun t T G d p _ _ _ h => h
  | succ j ih =>
    intro t T G d p hm hF hG hd
    have hp0 : fuL T r m 5 0 = p := FU_eq (fuL_FU 5 0 (Nat.zero_le _) (by omega) (fun i hi => absurd hi (Nat.not_lt_zero _))) hF
    unfold rfL cdL
    by_cases c : m ≤ p
    · have ha : anT T r m = 0 := by
        unfold anT
        rw [hp0, if_neg (by omega)]
      have hpm : p = m := by have := hF.1; omega
      have same : ∀ w, w < m → (stepT sqs (tS T 0 2 0) 6 w ≤ stepT sqs (tS T 0 2 0) 8 w ↔ T 6 w ≤ T 8 w) := by
        intro w hw
        rw [st6, st8 _ _ _ _ (by omega)]
      rw [if_pos c, ha]
      have hg : gdL (stepT sqs (tS T 0 2 0)) (dnT T) t m 0 G = G := by
        refine gd_none m 0 G (fun x h1 h2 h3 => ?_)
        have h4 := (same x (by omega)).mp h3.1
        have h5 := h3.2.1
        rw [dn_bit, decide_eq_true (show x < T 0 1 by omega), decide_eq_true h4] at h5
        exact absurd h5 (by decide)
      rw [hg]
      have hF1 : FU (stepT sqs (tS T 0 2 0)) r m p := ⟨hF.1, fun i hi => (same _ (hr.1 i (by omega))).mpr (hF.2.1 i hi), fun q => absurd q (by omega)⟩
      rw [ih (t + 1) _ G d p (by rw [st01]; exact hm) hF1 (fun w hw => ⟨(hG w hw).1, (same w (hG w hw).1).mpr (hG w hw).2⟩) hd]
      cases j with
      | zero => rfl
      | succ j =>
        unfold cdL
        rw [if_pos c]
    · have hpm : p < m := by omega
      have ha : anT T r m = r.getD p 0 + 1 := by
        unfold anT
        rw [hp0, if_pos hpm]
      rw [if_neg c, ha]
      have hxm := hr.1 p hpm
      have hxu := hF.2.2 hpm
      generalize hx : r.getD p 0 = x at *
      have same : ∀ w, w ≠ x → (stepT sqs (tS T 0 2 (x + 1)) 6 w ≤ stepT sqs (tS T 0 2 (x + 1)) 8 w ↔ T 6 w ≤ T 8 w) := by
        intro w hw
        rw [st6, st8 _ _ _ _ (by omega)]
      have hne : ∀ i, i < m → i ≠ p → r.getD i 0 ≠ x := fun i hi hn q => hn (hr.2 i hi p hpm (by rw [q, hx]))
      have hwas : (dnT T).testBit x = false := by rw [dn_bit, decide_eq_false hxu, Bool.and_false]
      have hGx : G.testBit x = false := by
        cases hb : G.testBit x with
        | false => rfl
        | true => exact absurd (hG x hb).2 hxu
      have hoth : ∀ y, y < m → y ≠ x → ¬ (stepT sqs (tS T 0 2 (x + 1)) 6 y ≤ stepT sqs (tS T 0 2 (x + 1)) 8 y ∧ (dnT T).testBit y = false ∧ t ≤ stepT sqs (tS T 0 2 (x + 1)) 7 y) := by
        intro y hy hn h3
        have h4 := (same y hn).mp h3.1
        have h5 := h3.2.1
        rw [dn_bit, decide_eq_true (show y < T 0 1 by omega), decide_eq_true h4] at h5
        exact absurd h5 (by decide)
      have hm1 : stepT sqs (tS T 0 2 (x + 1)) 0 1 = m := by rw [st01]; exact hm
      have hd1 : ∀ i, i < p → stepT sqs (tS T 0 2 (x + 1)) 6 (r.getD i 0) ≤ stepT sqs (tS T 0 2 (x + 1)) 8 (r.getD i 0) := fun i hi => (same _ (hne i (by omega) (by omega))).mpr (hF.2.1 i hi)
      have hG1 : ∀ w, G.testBit w = true → w < m ∧ stepT sqs (tS T 0 2 (x + 1)) 6 w ≤ stepT sqs (tS T 0 2 (x + 1)) 8 w := by
        intro w hw
        refine ⟨(hG w hw).1, (same w (fun q => ?_)).mpr (hG w hw).2⟩
        rw [q, hGx] at hw
        exact absurd hw (by decide)
      generalize stepT sqs (tS T 0 2 (x + 1)) = T1 at *
      by_cases e : T1 6 x ≤ T1 8 x
      · rw [if_pos e]
        have hF1 : FU T1 r m (fuL T1 r m 5 (p + 1)) := by
          refine fuL_FU 5 (p + 1) (by omega) (by omega) (fun i hi => ?_)
          by_cases z : i = p
          · rw [z, hx]; exact e
          · exact hd1 i (by omega)
        by_cases f : t ≤ T1 7 x
        · rw [if_pos f, gd_one ⟨e, hwas, f⟩ m 0 G (Nat.zero_le _) (by omega) (fun y h1 h2 h3 => hoth y (by omega) h3)]
          refine ih (t + 1) T1 (aset G x) (d + 1) _ hm1 hF1 (fun w hw => ?_) ?_
          · rw [aset_bit] at hw
            by_cases z : x = w
            · rw [← z]; exact ⟨hxm, e⟩
            · rw [decide_eq_false z, Bool.or_false] at hw
              exact hG1 w hw
          · rw [popC_in hGx m hxm, hd]
        · rw [if_neg f, gd_none m 0 G (fun y h1 h2 h3 => by
            by_cases z : y = x
            · rw [z] at h3
              exact f h3.2.2
            · exact hoth y (by omega) z h3)]
          exact ih (t + 1) T1 G d _ hm1 hF1 hG1 hd
      · rw [if_neg e, gd_none m 0 G (fun y h1 h2 h3 => by
          by_cases z : y = x
          · rw [z] at h3
            exact e h3.1
          · exact hoth y (by omega) z h3)]
        refine ih (t + 1) T1 G d p hm1 ⟨hF.1, hd1, fun _ => ?_⟩ hG1 hd
        rw [hx]
        exact e
theorem cd_ge {sqs : Nat → zQ} {r : List Nat} {m : Nat} : ∀ j t T p d, p ≤ (cdL sqs r m j t T p d).2 := by
  intro j
  induction j with
  | zero => exact fun t T p d => Nat.le_refl _
  | succ j ih =>
    intro t T p d
    unfold cdL
    split
    · exact Nat.le_refl _
    · split
      · exact Nat.le_trans (Nat.le_trans (Nat.le_succ p) (fuL_ge 5 (p + 1))) (ih _ _ _ _)
      · exact ih _ _ _ _
theorem cd_pre {sqs : Nat → zQ} {r s : List Nat} {m : Nat} : ∀ j t T p d, (∀ i, i ≤ (cdL sqs r m j t T p d).2 → i < m → s.getD i 0 = r.getD i 0) → cdL sqs s m j t T p d = cdL sqs r m j t T p d := by
  intro j
  induction j with
  | zero => exact fun t T p d _ => rfl
  | succ j ih =>
    intro t T p d h
    by_cases c : m ≤ p
    · unfold cdL
      rw [if_pos c, if_pos c]
    · have hp : s.getD p 0 = r.getD p 0 := h p (cd_ge (j + 1) t T p d) (by omega)
      unfold cdL at h ⊢
      rw [if_neg c] at h ⊢
      rw [if_neg c, hp]
      generalize stepT sqs (tS T 0 2 (r.getD p 0 + 1)) = T1 at *
      by_cases e : T1 6 (r.getD p 0) ≤ T1 8 (r.getD p 0)
      · rw [if_pos e] at h ⊢
        rw [if_pos e]
        have hf : fuL T1 s m 5 (p + 1) = fuL T1 r m 5 (p + 1) := fuL_pre 5 (p + 1) (fun i hi hm => h i (Nat.le_trans hi (cd_ge j _ _ _ _)) hm)
        rw [hf]
        exact ih _ _ _ _ h
      · rw [if_neg e] at h ⊢
        rw [if_neg e]
        exact ih _ _ _ _ h
/-- how many are done in time by a row; how many of its first works its minutes depended on -/
def vaT (sqs : Nat → zQ) (T : zT) (m n : Nat) (r : List Nat) : Nat := (cdL sqs r m n 1 T (fuL T r m 5 0) (popC m (dnT T))).1
def reT (sqs : Nat → zQ) (T : zT) (m n : Nat) (r : List Nat) : Nat := (fun p => if m < p + 1 then m else p + 1) (cdL sqs r m n 1 T (fuL T r m 5 0) (popC m (dnT T))).2
theorem vat_rf {sqs : Nat → zQ} {T : zT} {m n : Nat} {r : List Nat} (hm4 : m ≤ 4) (hr : rowOk m r) (hm : T 0 1 = m) : popC m (rfL sqs r m n 1 T (dnT T)) = vaT sqs T m n r := rf_cd (by omega) hr n 1 T (dnT T) _ _ hm (fuL_FU 5 0 (Nat.zero_le _) (by omega) (fun i hi => absurd hi (Nat.not_lt_zero _))) (fun w hw => by
  rw [dn_bit] at hw
  have h1 := (Bool.and_eq_true _ _).mp hw
  exact ⟨by have := of_decide_eq_true h1.1; omega, of_decide_eq_true h1.2⟩) rfl
theorem va_le {sqs : Nat → zQ} {T : zT} {m n : Nat} {r : List Nat} (hm4 : m ≤ 4) (hr : rowOk m r) (hm : T 0 1 = m) : vaT sqs T m n r ≤ m := by
  rw [← vat_rf hm4 hr hm]
  exact popC_le _ _
theorem va_pre {sqs : Nat → zQ} {T : zT} {m n : Nat} {r s : List Nat} (h : ∀ i, i < reT sqs T m n r → s.getD i 0 = r.getD i 0) : vaT sqs T m n s = vaT sqs T m n r ∧ reT sqs T m n s = reT sqs T m n r := by
  have hp : ∀ i, i ≤ (cdL sqs r m n 1 T (fuL T r m 5 0) (popC m (dnT T))).2 → i < m → s.getD i 0 = r.getD i 0 := by
    intro i h1 h2
    refine h i ?_
    unfold reT
    dsimp only
    split <;> omega
  have hf : fuL T s m 5 0 = fuL T r m 5 0 := fuL_pre 5 0 (fun i hi hm => hp i (Nat.le_trans hi (cd_ge n _ _ _ _)) hm)
  have hc := cd_pre n 1 T (fuL T r m 5 0) (popC m (dnT T)) hp
  unfold vaT reT
  rw [hf, hc]
  exact ⟨rfl, rfl⟩
theorem re_le (sqs : Nat → zQ) (T : zT) (m n : Nat) (r : List Nat) : reT sqs T m n r ≤ m := by
  unfold reT
  dsimp only
  split <;> omega
/-- all rows, the first as rows of numbers first -/
def prmT : List (List (List Nat)) := [[[]], [[0]], [[0, 1], [1, 0]], [[0, 1, 2], [0, 2, 1], [1, 0, 2], [1, 2, 0], [2, 0, 1], [2, 1, 0]], [[0, 1, 2, 3], [0, 1, 3, 2], [0, 2, 1, 3], [0, 2, 3, 1], [0, 3, 1, 2], [0, 3, 2, 1], [1, 0, 2, 3], [1, 0, 3, 2], [1, 2, 0, 3], [1, 2, 3, 0], [1, 3, 0, 2], [1, 3, 2, 0], [2, 0, 1, 3], [2, 0, 3, 1], [2, 1, 0, 3], [2, 1, 3, 0], [2, 3, 0, 1], [2, 3, 1, 0], [3, 0, 1, 2], [3, 0, 2, 1], [3, 1, 0, 2], [3, 1, 2, 0], [3, 2, 0, 1], [3, 2, 1, 0]]]
def prm (m : Nat) : List (List Nat) := prmT.getD m []
def roF (m : Nat) : Nat := [1, 1, 2, 6, 24].getD m 0
def fA (V : List Nat → Nat) (s : Nat × List Nat) (r : List Nat) : Nat × List Nat := if s.1 < V r + 1 then (V r + 1, r) else s
theorem prm_len : ∀ m, m ≤ 4 → (prm m).length = roF m := by decide
theorem prm_ok : ∀ m, m ≤ 4 → ∀ x, x < roF m → (∀ i, i < m → ((prm m).getD x []).getD i 0 < m) ∧ ∀ i, i < m → ∀ j, j < m → ((prm m).getD x []).getD i 0 = ((prm m).getD x []).getD j 0 → i = j := by decide +kernel
def samB (m a b n : Nat) : Bool := (List.range n).all (fun i => decide (((prm m).getD a []).getD i 0 = ((prm m).getD b []).getD i 0))
theorem samB_t {m a b n : Nat} (h : samB m a b n = true) : ∀ i, i < n → ((prm m).getD a []).getD i 0 = ((prm m).getD b []).getD i 0 := fun i hi => of_decide_eq_true (List.all_eq_true.mp h i (List.mem_range.mpr hi))
def blkB (m r x : Nat) : Bool := decide (x + roF (m - r) ≤ roF m) && (List.range (roF (m - r))).all (fun y => samB m (x + y) x r)
def nxtB (m r x q : Nat) : Bool := decide ((x + roF (m - r)) % roF (m - q) = 0) || (decide (q < r) && samB m x (x + roF (m - r)) q)
theorem prm_blkB : ∀ m, m ≤ 4 → ∀ r, r ≤ m → ∀ x, x < roF m → x % roF (m - r) = 0 → blkB m r x = true := by decide +kernel
def nxtC (m r x q : Nat) : Bool := !(decide (x % roF (m - r) = 0)) || (!(decide (x + roF (m - r) < roF m)) || nxtB m r x q)
theorem prm_nxtC : ∀ m, m ≤ 4 → ∀ r, r ≤ m → ∀ x, x < roF m → ∀ q, q ≤ m → nxtC m r x q = true := by decide +kernel
theorem prm_nxtB (m : Nat) (hm : m ≤ 4) (r : Nat) (hr : r ≤ m) (x : Nat) (hx : x < roF m) (ha : x % roF (m - r) = 0) (hl : x + roF (m - r) < roF m) (q : Nat) (hq : q ≤ m) : nxtB m r x q = true := by
  have h := prm_nxtC m hm r hr x hx q hq
  unfold nxtC at h
  rw [decide_eq_true ha, decide_eq_true hl] at h
  exact h
theorem prm_blk (m : Nat) (hm : m ≤ 4) (r : Nat) (hr : r ≤ m) (x : Nat) (hx : x < roF m) (ha : x % roF (m - r) = 0) : x + roF (m - r) ≤ roF m ∧ ∀ y, y < roF (m - r) → ∀ i, i < r → ((prm m).getD (x + y) []).getD i 0 = ((prm m).getD x []).getD i 0 := by
  have h := (Bool.and_eq_true _ _).mp (prm_blkB m hm r hr x hx ha)
  exact ⟨of_decide_eq_true h.1, fun y hy => samB_t (List.all_eq_true.mp h.2 y (List.mem_range.mpr hy))⟩
theorem prm_nxt (m : Nat) (hm : m ≤ 4) (r : Nat) (hr : r ≤ m) (x : Nat) (hx : x < roF m) (ha : x % roF (m - r) = 0) (hl : x + roF (m - r) < roF m) (q : Nat) (hq : q ≤ m) : (x + roF (m - r)) % roF (m - q) = 0 ∨ (q < r ∧ ∀ i, i < q → ((prm m).getD x []).getD i 0 = ((prm m).getD (x + roF (m - r)) []).getD i 0) := by
  rcases (Bool.or_eq_true _ _).mp (prm_nxtB m hm r hr x hx ha hl q hq) with h | h
  · exact Or.inl (of_decide_eq_true h)
  · have h := (Bool.and_eq_true _ _).mp h
    exact Or.inr ⟨of_decide_eq_true h.1, samB_t h.2⟩
theorem roF_pos : ∀ m, m ≤ 4 → 0 < roF m ∧ roF m ≤ 24 := by decide
