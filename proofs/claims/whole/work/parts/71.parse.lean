/-! ===== PURE: how a text is read, once for both sides ===== -/
theorem nope {P : Prop} {b c : Bool} (h : b = c) (hn : (b == c) = false) : P := by
  subst h
  cases b <;> cases hn
abbrev zR : Type := Bool × Nat × List zK
/-- the sign at a place; 200: the text has ended -/
def chT (tx : Nat → Nat) (n p : Nat) : Nat := if p < n then tx p else 200
def TxOk (tx : Nat → Nat) (n : Nat) : Prop := n ≤ 100 ∧ ∀ i, i < n → tx i < 128
def dgP (c : Nat) : Prop := 48 ≤ c ∧ c ≤ 57
def nuT (tx : Nat → Nat) (n p : Nat) : Bool × Nat × Nat := if 48 ≤ chT tx n p ∧ chT tx n p ≤ 57 then (if 48 ≤ chT tx n (p + 1) ∧ chT tx n (p + 1) ≤ 57 then (true, p + 2, 10 * (chT tx n p - 48) + (chT tx n (p + 1) - 48)) else (true, p + 1, chT tx n p - 48)) else (false, p, 0)
def ltT (c : Nat) : Nat := if c = 112 then 0 else if c = 107 then 1 else if c = 118 then 2 else if c = 104 then 3 else if c = 110 then 4 else if c = 109 then 5 else 6
def pTe (tx : Nat → Nat) (n p : Nat) : zR := if ltT (chT tx n p) = 6 then (false, p, []) else if 60 ≤ chT tx n (p + 1) ∧ chT tx n (p + 1) ≤ 62 then (if (nuT tx n (p + 2)).1 = true then (true, (nuT tx n (p + 2)).2.1, [(0, ltT (chT tx n p), chT tx n (p + 1) - 60, (nuT tx n (p + 2)).2.2)]) else (false, p + 2, [])) else (false, p + 1, [])
def pSeL (tx : Nat → Nat) (n s q : Nat) (rf : Nat → zR) : Nat → Nat → List zK → zR
  | 0, p, ks => (true, p, ks)
  | j + 1, p, ks => if chT tx n p = s then (if (rf (p + 1)).1 = true then pSeL tx n s q rf j (rf (p + 1)).2.1 (ks ++ ((rf (p + 1)).2.2 ++ [(q, 0, 0, 0)])) else (false, (rf (p + 1)).2.1, [])) else (true, p, ks)
def pSe (tx : Nat → Nat) (n s q : Nat) (rf : Nat → zR) (p : Nat) : zR := if (rf p).1 = true then pSeL tx n s q rf 100 (rf p).2.1 (rf p).2.2 else (false, (rf p).2.1, [])
def pBo (tx : Nat → Nat) (n : Nat) (rf : Nat → zR) (p : Nat) : zR := pSe tx n 38 2 rf p
def pEi (tx : Nat → Nat) (n : Nat) (rf : Nat → zR) (p : Nat) : zR := pSe tx n 124 3 (pBo tx n rf) p
def pClo (tx : Nat → Nat) (n : Nat) (r : zR) : zR := if r.1 = true then (if chT tx n r.2.1 = 41 then (true, r.2.1 + 1, r.2.2) else (false, r.2.1, [])) else (false, r.2.1, [])
def pNot (r : zR) : zR := if r.1 = true then (true, r.2.1, r.2.2 ++ [(1, 0, 0, 0)]) else (false, r.2.1, [])
def pFa (tx : Nat → Nat) (n : Nat) : Nat → Nat → Nat → zR
  | 0, _, p => (false, p, [])
  | g + 1, o, p => if chT tx n p = 33 ∨ chT tx n p = 40 then (if o < 4 then (if chT tx n p = 40 then pClo tx n (pEi tx n (pFa tx n g (o + 1)) (p + 1)) else pNot (pFa tx n g (o + 1) (p + 1))) else (false, p, [])) else pTe tx n p
/-- what every reading keeps: places, how many tokens, how high they pile -/
def okR (n p B : Nat) (r : zR) : Prop := p ≤ r.2.1 ∧ r.2.1 ≤ n ∧ (r.1 = true → p + r.2.2.length ≤ r.2.1 ∧ ∀ d, d + B ≤ 20 → vK r.2.2 d (d + 1))
theorem vK_q {q : Nat} (hq : q = 2 ∨ q = 3) (d : Nat) : vK [(q, 0, 0, 0)] (d + 1 + 1) (d + 1) := by
  unfold vK
  rcases hq with rfl | rfl
  · refine ⟨⟨by decide, by decide, by decide, by decide⟩, ?_⟩
    rw [if_neg (by decide), if_neg (by decide)]
    exact ⟨by omega, rfl⟩
  · refine ⟨⟨by decide, by decide, by decide, by decide⟩, ?_⟩
    rw [if_neg (by decide), if_neg (by decide)]
    exact ⟨by omega, rfl⟩
theorem vK_n (d : Nat) : vK [(1, 0, 0, 0)] (d + 1) (d + 1) := by
  unfold vK
  refine ⟨⟨by decide, by decide, by decide, by decide⟩, ?_⟩
  rw [if_neg (by decide), if_pos (by decide)]
  exact ⟨by omega, rfl⟩
theorem ch_lt {tx : Nat → Nat} {n p : Nat} (h : chT tx n p ≠ 200) : p < n := by
  unfold chT at h
  by_cases c : p < n
  · exact c
  · rw [if_neg c] at h
    exact absurd rfl h
theorem ltT_lt {c : Nat} (h : ltT c ≠ 6) : c ≠ 200 ∧ ltT c < 6 := by
  unfold ltT at h ⊢
  refine ⟨fun q => h (by rw [q]; rfl), ?_⟩
  split
  · omega
  · split
    · omega
    · split
      · omega
      · split
        · omega
        · split
          · omega
          · split
            · omega
            · rename_i h1 h2 h3 h4 h5 h6
              rw [if_neg h1, if_neg h2, if_neg h3, if_neg h4, if_neg h5, if_neg h6] at h
              exact absurd rfl h
theorem nuT_t {tx : Nat → Nat} {n p : Nat} (h : 48 ≤ chT tx n p ∧ chT tx n p ≤ 57) (h2 : 48 ≤ chT tx n (p + 1) ∧ chT tx n (p + 1) ≤ 57) : nuT tx n p = (true, p + 2, 10 * (chT tx n p - 48) + (chT tx n (p + 1) - 48)) := by
  unfold nuT
  rw [if_pos h, if_pos h2]
theorem nuT_1 {tx : Nat → Nat} {n p : Nat} (h : 48 ≤ chT tx n p ∧ chT tx n p ≤ 57) (h2 : ¬ (48 ≤ chT tx n (p + 1) ∧ chT tx n (p + 1) ≤ 57)) : nuT tx n p = (true, p + 1, chT tx n p - 48) := by
  unfold nuT
  rw [if_pos h, if_neg h2]
theorem nuT_f {tx : Nat → Nat} {n p : Nat} (h : ¬ (48 ≤ chT tx n p ∧ chT tx n p ≤ 57)) : nuT tx n p = (false, p, 0) := by
  unfold nuT
  rw [if_neg h]
theorem nuT_ok {tx : Nat → Nat} {n p : Nat} (hp : p ≤ n) : p ≤ (nuT tx n p).2.1 ∧ (nuT tx n p).2.1 ≤ n ∧ ((nuT tx n p).1 = true → p < (nuT tx n p).2.1 ∧ (nuT tx n p).2.2 < 100) := by
  by_cases h1 : 48 ≤ chT tx n p ∧ chT tx n p ≤ 57
  · have l1 := ch_lt (tx := tx) (n := n) (p := p) (by omega)
    by_cases h2 : 48 ≤ chT tx n (p + 1) ∧ chT tx n (p + 1) ≤ 57
    · have l2 := ch_lt (tx := tx) (n := n) (p := p + 1) (by omega)
      rw [nuT_t h1 h2]
      exact ⟨by show p ≤ p + 2; omega, by show p + 2 ≤ n; omega, fun _ => ⟨by show p < p + 2; omega, by show 10 * (chT tx n p - 48) + (chT tx n (p + 1) - 48) < 100; omega⟩⟩
    · rw [nuT_1 h1 h2]
      exact ⟨by show p ≤ p + 1; omega, by show p + 1 ≤ n; omega, fun _ => ⟨by show p < p + 1; omega, by show chT tx n p - 48 < 100; omega⟩⟩
  · rw [nuT_f h1]
    exact ⟨Nat.le_refl _, hp, fun q => nope q rfl⟩
theorem okTe {tx : Nat → Nat} {n p : Nat} (hp : p ≤ n) : okR n p 1 (pTe tx n p) := by
  unfold pTe
  by_cases h1 : ltT (chT tx n p) = 6
  · rw [if_pos h1]
    exact ⟨Nat.le_refl _, hp, fun q => nope q rfl⟩
  · obtain ⟨g1, g2⟩ := ltT_lt h1
    have l1 := ch_lt g1
    rw [if_neg h1]
    by_cases h2 : 60 ≤ chT tx n (p + 1) ∧ chT tx n (p + 1) ≤ 62
    · have l2 := ch_lt (tx := tx) (n := n) (p := p + 1) (by omega)
      rw [if_pos h2]
      obtain ⟨n1, n2, n3⟩ := nuT_ok (tx := tx) (n := n) (p := p + 2) (by omega)
      by_cases h3 : (nuT tx n (p + 2)).1 = true
      · rw [if_pos h3]
        obtain ⟨n4, n5⟩ := n3 h3
        refine ⟨by show p ≤ (nuT tx n (p + 2)).2.1; omega, n2, fun _ => ⟨by show p + 1 ≤ (nuT tx n (p + 2)).2.1; omega, fun d hd => ⟨⟨Nat.zero_le _, g2, by show chT tx n (p + 1) - 60 < 3; omega, n5⟩, ?_⟩⟩⟩
        rw [if_pos rfl]
        exact ⟨by omega, rfl⟩
      · rw [if_neg h3]
        exact ⟨by show p ≤ p + 2; omega, by show p + 2 ≤ n; omega, fun q => nope q rfl⟩
    · rw [if_neg h2]
      exact ⟨by show p ≤ p + 1; omega, by show p + 1 ≤ n; omega, fun q => nope q rfl⟩
theorem okSeL {tx : Nat → Nat} {n s q B : Nat} {rf : Nat → zR} (hs : s < 200) (hq : q = 2 ∨ q = 3) (hr : ∀ p, p ≤ n → okR n p B (rf p)) (p0 : Nat) : ∀ (j p : Nat) (ks : List zK), p ≤ n → p0 + ks.length ≤ p → (∀ d, d + (B + 1) ≤ 20 → vK ks d (d + 1)) → okR n p0 (B + 1) (pSeL tx n s q rf j p ks) := by
  intro j
  induction j with
  | zero => exact fun p ks h1 h2 h3 => ⟨by show p0 ≤ p; omega, h1, fun _ => ⟨h2, h3⟩⟩
  | succ j ih =>
    intro p ks h1 h2 h3
    unfold pSeL
    by_cases c1 : chT tx n p = s
    · rw [if_pos c1]
      have l1 := ch_lt (tx := tx) (n := n) (p := p) (by omega)
      obtain ⟨r1, r2, r3⟩ := hr (p + 1) (by omega)
      by_cases c2 : (rf (p + 1)).1 = true
      · rw [if_pos c2]
        obtain ⟨r4, r5⟩ := r3 c2
        refine ih _ _ r2 ?_ ?_
        · rw [List.length_append, List.length_append]
          show p0 + (ks.length + ((rf (p + 1)).2.2.length + 1)) ≤ _
          omega
        · intro d hd
          refine vK_app _ _ d (d + 1) _ (h3 d hd) (vK_app _ _ (d + 1) (d + 1 + 1) _ (r5 (d + 1) (by omega)) ?_)
          exact vK_q hq d
      · rw [if_neg c2]
        exact ⟨by show p0 ≤ (rf (p + 1)).2.1; omega, r2, fun q => nope q rfl⟩
    · rw [if_neg c1]
      exact ⟨by show p0 ≤ p; omega, h1, fun _ => ⟨h2, h3⟩⟩
theorem okSe {tx : Nat → Nat} {n s q B : Nat} {rf : Nat → zR} (hs : s < 200) (hq : q = 2 ∨ q = 3) (hr : ∀ p, p ≤ n → okR n p B (rf p)) (p : Nat) (hp : p ≤ n) : okR n p (B + 1) (pSe tx n s q rf p) := by
  obtain ⟨r1, r2, r3⟩ := hr p hp
  unfold pSe
  by_cases c : (rf p).1 = true
  · rw [if_pos c]
    obtain ⟨r4, r5⟩ := r3 c
    exact okSeL hs hq hr p 100 _ _ r2 r4 (fun d hd => r5 d (by omega))
  · rw [if_neg c]
    exact ⟨r1, r2, fun q => nope q rfl⟩
theorem okEi {tx : Nat → Nat} {n B : Nat} {rf : Nat → zR} (hr : ∀ p, p ≤ n → okR n p B (rf p)) (p : Nat) (hp : p ≤ n) : okR n p (B + 2) (pEi tx n rf p) := okSe (by decide) (Or.inr rfl) (fun p hp => okSe (by decide) (Or.inl rfl) hr p hp) p hp
theorem okFa {tx : Nat → Nat} {n : Nat} : ∀ (g o p : Nat), o ≤ 4 → 5 ≤ g + o → p ≤ n → okR n p (2 * (4 - o) + 1) (pFa tx n g o p) := by
  intro g
  induction g with
  | zero => intro o p h1 h2; omega
  | succ g ih =>
    intro o p h1 h2 hp
    unfold pFa
    by_cases c1 : chT tx n p = 33 ∨ chT tx n p = 40
    · rw [if_pos c1]
      have l1 := ch_lt (tx := tx) (n := n) (p := p) (by omega)
      by_cases c2 : o < 4
      · rw [if_pos c2]
        have hr : ∀ p, p ≤ n → okR n p (2 * (4 - (o + 1)) + 1) (pFa tx n g (o + 1) p) := fun p hp => ih (o + 1) p (by omega) (by omega) hp
        by_cases c3 : chT tx n p = 40
        · rw [if_pos c3]
          obtain ⟨r1, r2, r3⟩ := okEi hr (p + 1) (by omega)
          unfold pClo
          by_cases c4 : (pEi tx n (pFa tx n g (o + 1)) (p + 1)).1 = true
          · rw [if_pos c4]
            obtain ⟨r4, r5⟩ := r3 c4
            by_cases c5 : chT tx n (pEi tx n (pFa tx n g (o + 1)) (p + 1)).2.1 = 41
            · rw [if_pos c5]
              have l2 := ch_lt (tx := tx) (n := n) (p := (pEi tx n (pFa tx n g (o + 1)) (p + 1)).2.1) (by omega)
              refine ⟨by show p ≤ (pEi tx n (pFa tx n g (o + 1)) (p + 1)).2.1 + 1; omega, by show (pEi tx n (pFa tx n g (o + 1)) (p + 1)).2.1 + 1 ≤ n; omega, fun _ => ⟨by show p + (pEi tx n (pFa tx n g (o + 1)) (p + 1)).2.2.length ≤ (pEi tx n (pFa tx n g (o + 1)) (p + 1)).2.1 + 1; omega, fun d hd => r5 d (by omega)⟩⟩
            · rw [if_neg c5]
              exact ⟨by show p ≤ (pEi tx n (pFa tx n g (o + 1)) (p + 1)).2.1; omega, r2, fun q => nope q rfl⟩
          · rw [if_neg c4]
            exact ⟨by show p ≤ (pEi tx n (pFa tx n g (o + 1)) (p + 1)).2.1; omega, r2, fun q => nope q rfl⟩
        · rw [if_neg c3]
          obtain ⟨r1, r2, r3⟩ := hr (p + 1) (by omega)
          unfold pNot
          by_cases c4 : (pFa tx n g (o + 1) (p + 1)).1 = true
          · rw [if_pos c4]
            obtain ⟨r4, r5⟩ := r3 c4
            refine ⟨by show p ≤ (pFa tx n g (o + 1) (p + 1)).2.1; omega, r2, fun _ => ⟨?_, fun d hd => ?_⟩⟩
            · rw [List.length_append]
              show p + ((pFa tx n g (o + 1) (p + 1)).2.2.length + 1) ≤ (pFa tx n g (o + 1) (p + 1)).2.1
              omega
            · exact vK_app _ _ d (d + 1) _ (r5 d (by omega)) (vK_n d)
          · rw [if_neg c4]
            exact ⟨by show p ≤ (pFa tx n g (o + 1) (p + 1)).2.1; omega, r2, fun q => nope q rfl⟩
      · rw [if_neg c2]
        exact ⟨Nat.le_refl _, hp, fun q => nope q rfl⟩
    · rw [if_neg c1]
      obtain ⟨r1, r2, r3⟩ := okTe (tx := tx) hp
      exact ⟨r1, r2, fun q => ⟨(r3 q).1, fun d hd => (r3 q).2 d (by omega)⟩⟩
