/-! ===== PURE: words, clauses, texts; the class's side ===== -/
def pWd (tx : Nat → Nat) (n : Nat) : List Nat → Nat → Bool × Nat
  | [], p => (true, p)
  | c :: cs, p => if chT tx n p = c then pWd tx n cs (p + 1) else (false, p)
abbrev zLc : Type := Bool × Nat × zC
def zC0 : zC := (0, 0, [])
def wdT (c : Nat) : List Nat := if c = 104 then [104, 101, 97, 116] else if c = 99 then [99, 97, 108, 109] else [115, 112, 97, 114, 107]
def wcT (c : Nat) : Nat := if c = 104 then 0 else if c = 99 then 1 else 2
def pC3 (tx : Nat → Nat) (n wc v p : Nat) : zLc := if chT tx n p = 32 then (if (pEi tx n (pFa tx n 6 0) (p + 1)).1 = true then (true, (pEi tx n (pFa tx n 6 0) (p + 1)).2.1, wc, v, (pEi tx n (pFa tx n 6 0) (p + 1)).2.2) else (false, (pEi tx n (pFa tx n 6 0) (p + 1)).2.1, zC0)) else (false, p, zC0)
def pC2 (tx : Nat → Nat) (n wc p : Nat) : zLc := if (nuT tx n p).1 = true then (if wc = 2 then (true, (nuT tx n p).2.1, 2, (nuT tx n p).2.2, []) else pC3 tx n wc (nuT tx n p).2.2 (nuT tx n p).2.1) else (false, p, zC0)
def pC1 (tx : Nat → Nat) (n wc p : Nat) : zLc := if chT tx n p = 32 then pC2 tx n wc (p + 1) else (false, p, zC0)
def pCl (tx : Nat → Nat) (n p : Nat) : zLc := if (pWd tx n (wdT (chT tx n p)) p).1 = true then pC1 tx n (wcT (chT tx n p)) (pWd tx n (wdT (chT tx n p)) p).2 else (false, (pWd tx n (wdT (chT tx n p)) p).2, zC0)
def pTx (tx : Nat → Nat) (n : Nat) : Nat → Nat → zQ → Bool × Nat × zQ
  | 0, p, Q => (false, p, Q)
  | j + 1, p, Q => if (pCl tx n p).1 = true then (if (pCl tx n p).2.1 = n then (true, n, Q ++ [(pCl tx n p).2.2]) else if j = 0 then (false, (pCl tx n p).2.1, Q ++ [(pCl tx n p).2.2]) else if chT tx n (pCl tx n p).2.1 = 59 then pTx tx n j ((pCl tx n p).2.1 + 1) (Q ++ [(pCl tx n p).2.2]) else (false, (pCl tx n p).2.1, Q ++ [(pCl tx n p).2.2])) else (false, (pCl tx n p).2.1, Q)
theorem nuT_fp {tx : Nat → Nat} {n p : Nat} (h : ¬ (nuT tx n p).1 = true) : (nuT tx n p).2.1 = p := by
  by_cases z : 48 ≤ chT tx n p ∧ chT tx n p ≤ 57
  · by_cases z2 : 48 ≤ chT tx n (p + 1) ∧ chT tx n (p + 1) ≤ 57
    · rw [nuT_t z z2] at h
      exact absurd rfl h
    · rw [nuT_1 z z2] at h
      exact absurd rfl h
  · rw [nuT_f z]
theorem pWd_ok {tx : Nat → Nat} {n : Nat} : ∀ (cs : List Nat) (p : Nat), (∀ c ∈ cs, c < 128) → p ≤ n → p ≤ (pWd tx n cs p).2 ∧ (pWd tx n cs p).2 ≤ n := by
  intro cs
  induction cs with
  | nil => exact fun p _ hp => ⟨Nat.le_refl _, hp⟩
  | cons c cs ih =>
    intro p hc hp
    unfold pWd
    by_cases e : chT tx n p = c
    · have hc' := hc c List.mem_cons_self
      have l := ch_lt (tx := tx) (n := n) (p := p) (by omega)
      obtain ⟨g1, g2⟩ := ih (p + 1) (fun x hx => hc x (List.mem_cons_of_mem _ hx)) (by omega)
      rw [if_pos e]
      exact ⟨by omega, g2⟩
    · rw [if_neg e]
      exact ⟨Nat.le_refl _, hp⟩
theorem wdT_lt (x : Nat) : ∀ c ∈ wdT x, c < 128 := by
  unfold wdT
  split
  · decide
  · split <;> decide
theorem wcT_le (x : Nat) : wcT x ≤ 2 := by
  unfold wcT
  split
  · omega
  · split <;> omega
def szC (c : zC) : Nat := if c.1 = 2 then 0 else c.2.2.length + 1
def okL (n p : Nat) (r : zLc) : Prop := p ≤ r.2.1 ∧ r.2.1 ≤ n ∧ (r.1 = true → OkC r.2.2 ∧ p + szC r.2.2 ≤ r.2.1)
theorem okFa0 {tx : Nat → Nat} {n : Nat} : ∀ p, p ≤ n → okR n p 9 (pFa tx n 6 0 p) := fun p hp => okFa 6 0 p (by decide) (by decide) hp
theorem okC3 {tx : Nat → Nat} {n wc v p : Nat} (hw : wc ≤ 1) (hv : v < 100) (hp : p ≤ n) : okL n p (pC3 tx n wc v p) := by
  unfold pC3
  by_cases c1 : chT tx n p = 32
  · have l := ch_lt (tx := tx) (n := n) (p := p) (by omega)
    rw [if_pos c1]
    obtain ⟨r1, r2, r3⟩ := okEi (tx := tx) (n := n) okFa0 (p + 1) (by omega)
    by_cases c2 : (pEi tx n (pFa tx n 6 0) (p + 1)).1 = true
    · rw [if_pos c2]
      obtain ⟨r4, r5⟩ := r3 c2
      refine ⟨by show p ≤ (pEi tx n (pFa tx n 6 0) (p + 1)).2.1; omega, r2, fun _ => ⟨⟨by show wc ≤ 2; omega, by show v ≤ 99; omega, fun _ => r5 0 (by decide)⟩, ?_⟩⟩
      unfold szC
      rw [if_neg (show ¬ wc = 2 by omega)]
      show p + ((pEi tx n (pFa tx n 6 0) (p + 1)).2.2.length + 1) ≤ (pEi tx n (pFa tx n 6 0) (p + 1)).2.1
      omega
    · rw [if_neg c2]
      exact ⟨by show p ≤ (pEi tx n (pFa tx n 6 0) (p + 1)).2.1; omega, r2, fun q => nope q rfl⟩
  · rw [if_neg c1]
    exact ⟨Nat.le_refl _, hp, fun q => nope q rfl⟩
theorem okC2 {tx : Nat → Nat} {n wc p : Nat} (hw : wc ≤ 2) (hp : p ≤ n) : okL n p (pC2 tx n wc p) := by
  obtain ⟨k1, k2, k3⟩ := nuT_ok (tx := tx) hp
  unfold pC2
  by_cases c1 : (nuT tx n p).1 = true
  · obtain ⟨k4, k5⟩ := k3 c1
    rw [if_pos c1]
    by_cases c2 : wc = 2
    · rw [if_pos c2]
      refine ⟨k1, k2, fun _ => ⟨⟨Nat.le_refl _, by show (nuT tx n p).2.2 ≤ 99; omega, fun q => absurd rfl q⟩, ?_⟩⟩
      exact k1
    · rw [if_neg c2]
      obtain ⟨r1, r2, r3⟩ := okC3 (tx := tx) (n := n) (wc := wc) (v := (nuT tx n p).2.2) (p := (nuT tx n p).2.1) (by omega) k5 k2
      exact ⟨by omega, r2, fun q => ⟨(r3 q).1, by have := (r3 q).2; omega⟩⟩
  · rw [if_neg c1]
    exact ⟨Nat.le_refl _, hp, fun q => nope q rfl⟩
theorem okC1 {tx : Nat → Nat} {n wc p : Nat} (hw : wc ≤ 2) (hp : p ≤ n) : okL n p (pC1 tx n wc p) := by
  unfold pC1
  by_cases c1 : chT tx n p = 32
  · have l := ch_lt (tx := tx) (n := n) (p := p) (by omega)
    obtain ⟨r1, r2, r3⟩ := okC2 (tx := tx) hw (show p + 1 ≤ n by omega)
    rw [if_pos c1]
    exact ⟨by omega, r2, fun q => ⟨(r3 q).1, by have := (r3 q).2; omega⟩⟩
  · rw [if_neg c1]
    exact ⟨Nat.le_refl _, hp, fun q => nope q rfl⟩
theorem okCl {tx : Nat → Nat} {n p : Nat} (hp : p ≤ n) : okL n p (pCl tx n p) := by
  obtain ⟨k1, k2⟩ := pWd_ok (tx := tx) (wdT (chT tx n p)) p (wdT_lt _) hp
  unfold pCl
  by_cases c1 : (pWd tx n (wdT (chT tx n p)) p).1 = true
  · rw [if_pos c1]
    obtain ⟨r1, r2, r3⟩ := okC1 (tx := tx) (wcT_le (chT tx n p)) k2
    exact ⟨by omega, r2, fun q => ⟨(r3 q).1, by have := (r3 q).2; omega⟩⟩
  · rw [if_neg c1]
    exact ⟨k1, k2, fun q => nope q rfl⟩
/-- the class's string o is these signs from place i on, m in all -/
def CH (o m : Nat) : List Nat → Nat → Prop
  | [], i => i = m
  | c :: cs, i => i < m ∧ c < 128 ∧ (∀ u : zM, f_J0_charAt_5068e o (nI i) u = some (nI c, u)) ∧ CH o m cs (i + 1)
theorem wordL {tx : Nat → Nat} {n t o m : Nat} (ho : TxOk tx n) (hm : m < 100) (hlen : ∀ u : zM, f_J0_length_8abf5 o u = some (nI m, u)) : ∀ (cs : List Nat) (i fn : Nat) (u : zM) (p : Nat), CH o m cs i → cs.length < fn → RX tx n t u p → p ≤ n → ∃ u', f_X2_takesWord_L2 o fn (nI i) u = some (nI (b2n (pWd tx n cs p).1), u') ∧ RX tx n t u' (pWd tx n cs p).2 ∧ frP P1 u u' := by
  intro cs
  induction cs with
  | nil =>
    intro i fn u p hc hf h hp
    obtain ⟨fn, rfl⟩ : ∃ g, fn = g + 1 := ⟨fn - 1, by omega⟩
    refine ⟨u, ?_, h, frP_rf _ _⟩
    show f_X2_takesWord_L2_b _ _ _ _ = _
    unfold f_X2_takesWord_L2_b
    have hc : i = m := hc
    rw [hlen, zb_s, hc, if_pos (nI_le (Nat.le_refl _) (by omega))]
    rfl
  | cons c cs ih =>
    intro i fn u p hc hf h hp
    obtain ⟨fn, rfl⟩ : ∃ g, fn = g + 1 := ⟨fn - 1, by omega⟩
    obtain ⟨c1, c2, c3, c4⟩ := hc
    have hf : cs.length + 1 < fn + 1 := hf
    show ∃ u', f_X2_takesWord_L2_b _ _ _ _ = _ ∧ _
    unfold f_X2_takesWord_L2_b pWd
    rw [hlen, zb_s, if_neg (nI_ge c1 (by omega)), c3, zb_s, takesX rfl c2 h ho hp]
    by_cases e : chT tx n p = c
    · have l := ch_lt (tx := tx) (n := n) (p := p) (by omega)
      rw [if_pos e, if_pos e, zb_s, if_neg (by decide), nI_a1]
      obtain ⟨u', e1, e2, e3⟩ := ih (i + 1) fn _ (p + 1) c4 (by omega) (RX_s h) (by omega)
      exact ⟨u', e1, e2, frP_tr (fr1 u _) e3⟩
    · rw [if_neg e, if_neg e, zb_s, if_pos rfl]
      exact ⟨u, rfl, h, frP_rf _ _⟩
theorem zskW : zskL 1010 = 4 ∧ zskL 1013 = 4 ∧ zskL 1014 = 5 := by decide +kernel
theorem lenW {o k : Nat} (hk : zskL o = k) (u : zM) : f_J0_length_8abf5 o u = some (nI k, u) := by
  unfold f_J0_length_8abf5
  rw [hk, show f_J0_coder_7d493 o u = some ((0 : Int32), u) from rfl, zb_s, show ((0 : Int32) &&& 31) = 0 from by decide, show Int32.ofNat k >>> (0 : Int32) = nI k from Int32.shiftRight_zero]
theorem chW {o k i c : Nat} (hk : zskL o = k) (hk1 : k < 100) (hi : i < k) (hc : ((zskB o (nI i)) &&& (255 : Int32)) = nI c) (hc1 : c < 128) (hz : zcB (nI c) = true) (u : zM) : f_J0_charAt_5068e o (nI i) u = some (nI c, u) := by
  unfold f_J0_charAt_5068e
  rw [show f_J0_isLatin1_aae02 o u = some ((1 : Int32), u) from rfl, zb_s, if_neg (by decide)]
  unfold f_J1_charAt_3b067 f_J0_checkIndex_df160 f_J3_checkIndex_8e157
  rw [if_neg (nI_pos (by omega)), hk, if_pos (show nI i < Int32.ofNat k from nI_lt hi (by omega)), zb_s, zb_s, inB_n hi (by omega), zck_t, hc, chr_id c hc1, hz, zck_t, zb_s, hz, zck_t]
theorem zcBs : ∀ c, c < 128 → zcB (nI c) = true := by decide +kernel
theorem zskV : ((zskB 1010 (nI 0)) &&& (255 : Int32)) = nI 104 ∧ ((zskB 1010 (nI 1)) &&& (255 : Int32)) = nI 101 ∧ ((zskB 1010 (nI 2)) &&& (255 : Int32)) = nI 97 ∧ ((zskB 1010 (nI 3)) &&& (255 : Int32)) = nI 116 ∧ ((zskB 1013 (nI 0)) &&& (255 : Int32)) = nI 99 ∧ ((zskB 1013 (nI 1)) &&& (255 : Int32)) = nI 97 ∧ ((zskB 1013 (nI 2)) &&& (255 : Int32)) = nI 108 ∧ ((zskB 1013 (nI 3)) &&& (255 : Int32)) = nI 109 ∧ ((zskB 1014 (nI 0)) &&& (255 : Int32)) = nI 115 ∧ ((zskB 1014 (nI 1)) &&& (255 : Int32)) = nI 112 ∧ ((zskB 1014 (nI 2)) &&& (255 : Int32)) = nI 97 ∧ ((zskB 1014 (nI 3)) &&& (255 : Int32)) = nI 114 ∧ ((zskB 1014 (nI 4)) &&& (255 : Int32)) = nI 107 := by decide +kernel
theorem wordX {tx : Nat → Nat} {n t p : Nat} {u : zM} (h : RX tx n t u p) (ho : TxOk tx n) (hp : p ≤ n) {o m : Nat} {cs : List Nat} (hw : CH o m cs 0) (hm : m < 100) (hk : zskL o = m) (hl : cs.length < 400) : ∃ u', f_X2_takesWord o u = some (nI (b2n (pWd tx n cs p).1), u') ∧ RX tx n t u' (pWd tx n cs p).2 ∧ frP P1 u u' := wordL ho hm (fun u => lenW hk u) cs 0 400 u p hw hl h hp
theorem CHh : CH 1010 4 [104, 101, 97, 116] 0 := by
  obtain ⟨k1, k2, k3⟩ := zskW
  obtain ⟨v1, v2, v3, v4, v5, v6, v7, v8, v9, v10, v11, v12, v13⟩ := zskV
  exact ⟨by decide, by decide, fun u => chW k1 (by decide) (by decide) v1 (by decide) (zcBs _ (by decide)) u, by decide, by decide, fun u => chW k1 (by decide) (by decide) v2 (by decide) (zcBs _ (by decide)) u, by decide, by decide, fun u => chW k1 (by decide) (by decide) v3 (by decide) (zcBs _ (by decide)) u, by decide, by decide, fun u => chW k1 (by decide) (by decide) v4 (by decide) (zcBs _ (by decide)) u, rfl⟩
theorem CHc : CH 1013 4 [99, 97, 108, 109] 0 := by
  obtain ⟨k1, k2, k3⟩ := zskW
  obtain ⟨v1, v2, v3, v4, v5, v6, v7, v8, v9, v10, v11, v12, v13⟩ := zskV
  exact ⟨by decide, by decide, fun u => chW k2 (by decide) (by decide) v5 (by decide) (zcBs _ (by decide)) u, by decide, by decide, fun u => chW k2 (by decide) (by decide) v6 (by decide) (zcBs _ (by decide)) u, by decide, by decide, fun u => chW k2 (by decide) (by decide) v7 (by decide) (zcBs _ (by decide)) u, by decide, by decide, fun u => chW k2 (by decide) (by decide) v8 (by decide) (zcBs _ (by decide)) u, rfl⟩
theorem CHs : CH 1014 5 [115, 112, 97, 114, 107] 0 := by
  obtain ⟨k1, k2, k3⟩ := zskW
  obtain ⟨v1, v2, v3, v4, v5, v6, v7, v8, v9, v10, v11, v12, v13⟩ := zskV
  exact ⟨by decide, by decide, fun u => chW k3 (by decide) (by decide) v9 (by decide) (zcBs _ (by decide)) u, by decide, by decide, fun u => chW k3 (by decide) (by decide) v10 (by decide) (zcBs _ (by decide)) u, by decide, by decide, fun u => chW k3 (by decide) (by decide) v11 (by decide) (zcBs _ (by decide)) u, by decide, by decide, fun u => chW k3 (by decide) (by decide) v12 (by decide) (zcBs _ (by decide)) u, by decide, by decide, fun u => chW k3 (by decide) (by decide) v13 (by decide) (zcBs _ (by decide)) u, rfl⟩
def stC (c : zC) : List Int32 := if c.1 = 2 then [] else c.2.2.map tkX ++ [-nI 4]
def htC (c : zC) : List Int32 := if c.1 = 2 then [] else [sgnC c]
def PQ (t a k : Nat) : Prop := (a = 63 ∧ k = 1) ∨ a = t ∨ a = t + 1 ∨ a = t + 2
/-- the square that the class is making: its spark, its steps, its heats -/
def QX (t : Nat) (u : zM) (sp : Nat) (L H : List Int32) : Prop := gI u t 0 = nI sp ∧ ST t u L ∧ gI u t 4 = nI H.length ∧ AI u (t + 2) H 0
theorem PQ_X {t : Nat} {u u' : zM} (h : frP (PX t) u u') : frP (PQ t) u u' := frP_mono h (fun a k q => by unfold PX at q; unfold PQ; omega)
theorem PQ_1 {t : Nat} {u u' : zM} (h : frP P1 u u') : frP (PQ t) u u' := PQ_X (PX_1 h)
theorem QX_1 {t sp : Nat} {u u' : zM} {L H : List Int32} (ht : 78 ≤ t) (h : QX t u sp L H) (g : frP P1 u u') : QX t u' sp L H := ⟨(g.1 t 0 (by unfold P1; omega)).trans h.1, ST_fr ht h.2.1 g, (g.1 t 4 (by unfold P1; omega)).trans h.2.2.1, AI_cg H 0 (fun k _ => g.1 (t + 2) k (by unfold P1; omega)) h.2.2.2⟩
theorem QX_X {t sp : Nat} {u u' : zM} {L L' H : List Int32} (h : QX t u sp L H) (g : frP (PX t) u u') (hs : ST t u' L') (ht : 78 ≤ t) : QX t u' sp L' H := ⟨(g.1 t 0 (by unfold PX; omega)).trans h.1, hs, (g.1 t 4 (by unfold PX; omega)).trans h.2.2.1, AI_cg H 0 (fun k _ => g.1 (t + 2) k (by unfold PX; omega)) h.2.2.2⟩
def OL (tx : Nat → Nat) (n t : Nat) (F : Option (Int32 × zM)) (u : zM) (sp : Nat) (L H : List Int32) (r : zLc) : Prop := ∃ u', F = some (nI (b2n r.1), u') ∧ RX tx n t u' r.2.1 ∧ (r.1 = true → QX t u' (if r.2.2.1 = 2 then r.2.2.2.1 else sp) (L ++ stC r.2.2) (H ++ htC r.2.2)) ∧ frP (PQ t) u u'
theorem heatX {tx : Nat → Nat} {n t p wc sp : Nat} {u : zM} {L H : List Int32} {s : Int32} (ht : 78 ≤ t) (hq : isQ t = true) (ho : TxOk tx n) (h : RX tx n t u p) (hp : p ≤ n) (hQ : QX t u sp L H) (hl : L.length ≤ p) (hh : H.length < 10) (hw : wc ≤ 1) (hsg : ∀ v, s * nI v = if wc = 0 then nI v else -nI v) : OL tx n t (f_X2_readsHeat s u) u sp L H (pC1 tx n wc p) := by
  unfold f_X2_readsHeat pC1
  rw [takesX (c := 32) (C := 32) rfl (by decide) h ho hp]
  by_cases c1 : chT tx n p = 32
  · have l1 := ch_lt (tx := tx) (n := n) (p := p) (by omega)
    have o1 := ho.1
    have hr := RX_s (p' := p + 1) h
    rw [if_pos c1, if_pos c1, zb_s, if_neg (by decide)]
    obtain ⟨u2, e2, R2, F2⟩ := numX hr ho (by omega)
    obtain ⟨k1, k2, k3⟩ := nuT_ok (tx := tx) (n := n) (p := p + 1) (by omega)
    have hF2 := frP_tr (fr1 u (p + 1)) F2
    rw [e2, zb_s]
    unfold pC2
    by_cases c2 : (nuT tx n (p + 1)).1 = true
    · obtain ⟨k4, k5⟩ := k3 c2
      rw [if_pos c2, if_pos c2, if_neg (nI_pos (by omega)), if_neg (show ¬ wc = 2 by omega), takesX (c := 32) (C := 32) rfl (by decide) R2 ho k2]
      unfold pC3
      by_cases c3 : chT tx n (nuT tx n (p + 1)).2.1 = 32
      · have l3 := ch_lt (tx := tx) (n := n) (p := (nuT tx n (p + 1)).2.1) (by omega)
        rw [if_pos c3, if_pos c3, zb_s, if_neg (by decide)]
        have hF3 := frP_tr hF2 (fr1 u2 ((nuT tx n (p + 1)).2.1 + 1))
        have Q3 := QX_1 ht hQ hF3
        obtain ⟨u4, e4, R4, S4, F4⟩ := eiX ht hq ho okFa0 (fun u L p a b c d => faX ht hq ho 6 0 (by decide) (by decide) u L p a b c d) _ L ((nuT tx n (p + 1)).2.1 + 1) (RX_s R2) Q3.2.1 (by omega) (by omega)
        obtain ⟨r1, r2, r3⟩ := okEi (tx := tx) (n := n) okFa0 ((nuT tx n (p + 1)).2.1 + 1) (by omega)
        rw [show (0 : Int32) = nI 0 from rfl, e4, zb_s]
        by_cases c4 : (pEi tx n (pFa tx n 6 0) ((nuT tx n (p + 1)).2.1 + 1)).1 = true
        · obtain ⟨r4, r5⟩ := r3 c4
          rw [if_pos c4, c4, if_neg (by decide), R4.2.2.1, zmo_s, hq, zck_t, hsg]
          have Q4 := QX_X Q3 F4 (S4 c4) ht
          obtain ⟨q1, q2, q3, q4⟩ := Q4
          generalize hX : (if wc = 0 then nI (nuT tx n (p + 1)).2.2 else -nI (nuT tx n (p + 1)).2.2) = X
          unfold f_X4_addClause
          rw [q3, if_neg (show ¬ (10 : Int32) ≤ nI H.length from nI_ge (b := 10) hh (by decide)), inB_n hh (by decide), zck_t, nI_cl (by omega), zlet_s, gI_sI, if_neg (by omega), q3, zlet_s, nI_a1]
          have F5 : frP (PQ t) u4 (sI (sI u4 (t + 2) H.length X) t 4 (nI (H.length + 1))) := frP_s (frP_s (frP_rf _ u4) (Or.inr (Or.inr (Or.inr rfl)))) (Or.inr (Or.inl rfl))
          have S5 : ST t (sI (sI u4 (t + 2) H.length X) t 4 (nI (H.length + 1))) (L ++ (pEi tx n (pFa tx n 6 0) ((nuT tx n (p + 1)).2.1 + 1)).2.2.map tkX) := ⟨by rw [gI_sI, if_neg (by omega), gI_sI, if_neg (by omega)]; exact q2.1, AI_cg _ 0 (fun k _ => by rw [gI_sI, if_neg (by omega), gI_sI, if_neg (by omega)]) q2.2⟩
          obtain ⟨u6, e6, S6, F6⟩ := stepAX (-4 : Int32) S5 (by rw [List.length_append, List.length_map]; omega)
          have R6 : RX tx n t u6 (pEi tx n (pFa tx n 6 0) ((nuT tx n (p + 1)).2.1 + 1)).2.1 := RX_fr (u := sI (sI u4 (t + 2) H.length X) t 4 (nI (H.length + 1))) ht ⟨by rw [gI_sI, if_neg (by omega), gI_sI, if_neg (by omega)]; exact R4.1, by rw [gI_sI, if_neg (by omega), gI_sI, if_neg (by omega)]; exact R4.2.1, R4.2.2.1, fun i hi => by rw [gI_sI, if_neg (by omega), gI_sI, if_neg (by omega)]; exact R4.2.2.2 i hi⟩ F6
          rw [e6]
          refine ⟨u6, rfl, R6, fun _ => ⟨?_, ?_, ?_, ?_⟩, frP_tr (PQ_1 hF3) (frP_tr (PQ_X F4) (frP_tr F5 (PQ_X (PX_S F6))))⟩
          · rw [if_neg (show ¬ wc = 2 by omega), F6.1 t 0 (by unfold PS; omega), gI_sI, if_neg (by omega), gI_sI, if_neg (by omega)]
            exact q1
          · unfold stC
            rw [if_neg (show ¬ wc = 2 by omega), ← List.append_assoc]
            exact S6
          · unfold htC
            rw [if_neg (show ¬ wc = 2 by omega), F6.1 t 4 (by unfold PS; omega), gI_sI, if_pos ⟨rfl, rfl⟩, List.length_append]
            rfl
          · unfold htC
            rw [if_neg (show ¬ wc = 2 by omega)]
            refine AI_app H _ 0 (AI_cg H 0 (fun k hk => ?_) q4) ⟨?_, trivial⟩
            · rw [F6.1 (t + 2) k (by unfold PS; omega), gI_sI, if_neg (by omega), gI_sI, if_neg (by omega)]
            · rw [F6.1 (t + 2) _ (by unfold PS; omega), gI_sI, if_neg (by omega), gI_sI, if_pos ⟨rfl, by omega⟩, ← hX]
              rfl
        · have c4f : (pEi tx n (pFa tx n 6 0) ((nuT tx n (p + 1)).2.1 + 1)).1 = false := by simpa using c4
          rw [if_neg c4, c4f, if_pos (by decide)]
          exact ⟨u4, rfl, R4, fun q => nope q rfl, frP_tr (PQ_1 hF3) (PQ_X F4)⟩
      · rw [if_neg c3, if_neg c3, zb_s, if_pos rfl]
        exact ⟨u2, rfl, R2, fun q => nope q rfl, PQ_1 hF2⟩
    · rw [nuT_fp c2] at R2
      rw [if_neg c2, if_neg c2, if_pos (by decide)]
      exact ⟨u2, rfl, R2, fun q => nope q rfl, PQ_1 hF2⟩
  · rw [if_neg c1, if_neg c1, zb_s, if_pos rfl]
    exact ⟨u, rfl, h, fun q => nope q rfl, frP_rf _ _⟩
