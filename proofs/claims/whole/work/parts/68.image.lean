/-! ===== PURE: the image, and all as it ===== -/
abbrev zP : Type := Nat × Nat × Bool
def cpF (b : Bool) (x : Int32) : Int32 := if b = true then vp_nar .boolean x else x
def cpStep : List zP → Nat → zM → zM
  | [], _, u => u
  | p :: ps, i, u => cpStep ps i (sI u p.2.1 i (cpF p.2.2 (gI u p.1 i)))
/-- no array is read and written, none written twice -/
def cpOk : List zP → Bool
  | [] => true
  | p :: ps => ps.all (fun q => q.2.1 != p.2.1 && q.1 != p.2.1 && p.1 != q.2.1) && (p.1 != p.2.1) && cpOk ps
theorem cpStep_get (i : Nat) : ∀ (ps : List zP) (u : zM), cpOk ps = true → (∀ p ∈ ps, gI (cpStep ps i u) p.2.1 i = cpF p.2.2 (gI u p.1 i)) ∧ (∀ a x, (x ≠ i ∨ ∀ p ∈ ps, a ≠ p.2.1) → gI (cpStep ps i u) a x = gI u a x) ∧ (∀ a x, gJ (cpStep ps i u) a x = gJ u a x) ∧ ∀ a x, gO (cpStep ps i u) a x = gO u a x := by
  intro ps
  induction ps with
  | nil => intro u _; exact ⟨fun p h => (by cases h), fun _ _ _ => rfl, fun _ _ => rfl, fun _ _ => rfl⟩
  | cons p ps ih =>
    intro u hok
    have hok : (ps.all (fun q => q.2.1 != p.2.1 && q.1 != p.2.1 && p.1 != q.2.1) && (p.1 != p.2.1) && cpOk ps) = true := hok
    rw [Bool.and_eq_true, Bool.and_eq_true, List.all_eq_true] at hok
    obtain ⟨⟨h1, h2⟩, h3⟩ := hok
    obtain ⟨r1, r2, r3, r4⟩ := ih (sI u p.2.1 i (cpF p.2.2 (gI u p.1 i))) h3
    have hq : ∀ q ∈ ps, q.2.1 ≠ p.2.1 ∧ q.1 ≠ p.2.1 ∧ p.1 ≠ q.2.1 := fun q hm => by
      have := h1 q hm
      rw [Bool.and_eq_true, Bool.and_eq_true, bne_iff_ne, bne_iff_ne, bne_iff_ne] at this
      exact ⟨this.1.1, this.1.2, this.2⟩
    refine ⟨fun q hm => ?_, fun a x hax => ?_, fun a x => r3 a x, fun a x => r4 a x⟩
    · rcases List.mem_cons.mp hm with rfl | hm
      · show gI (cpStep ps i (sI u q.2.1 i (cpF q.2.2 (gI u q.1 i)))) q.2.1 i = _
        rw [r2 q.2.1 i (Or.inr (fun q' hm' => fun e => (hq q' hm').1 e.symm)), gI_sI, if_pos ⟨rfl, rfl⟩]
      · show gI (cpStep ps i (sI u p.2.1 i (cpF p.2.2 (gI u p.1 i)))) q.2.1 i = _
        rw [r1 q hm, gI_sI, if_neg (fun e => (hq q hm).2.1 e.1)]
    · show gI (cpStep ps i (sI u p.2.1 i (cpF p.2.2 (gI u p.1 i)))) a x = _
      rw [r2 a x (hax.imp id (fun h q' hm' => h q' (List.mem_cons_of_mem _ hm'))), gI_sI, if_neg]
      intro e
      rcases hax with h | h
      · exact h e.2
      · exact h p List.mem_cons_self e.1
theorem cpN (ps : List zP) (n : Nat) (L : Nat → Int32 → zM → Option (Int32 × zM)) (R : zM → Option (Int32 × zM)) (hok : cpOk ps = true) (hsd : ∀ p ∈ ps, ∀ q ∈ ps, p.1 ≠ q.2.1) (hL : ∀ fn i u, i < n → L (fn + 1) (nI i) u = L fn (nI (i + 1)) (cpStep ps i u)) (hE : ∀ fn u, L (fn + 1) (nI n) u = R u) (hn : n < 400) (u : zM) : ∃ u', L 400 (0 : Int32) u = R u' ∧ (∀ p ∈ ps, ∀ x, x < n → gI u' p.2.1 x = cpF p.2.2 (gI u p.1 x)) ∧ (∀ a x, (∀ p ∈ ps, a ≠ p.2.1) → gI u' a x = gI u a x) ∧ (∀ a x, gJ u' a x = gJ u a x) ∧ ∀ a x, gO u' a x = gO u a x := by
  have hl : ∀ j i fn (u : zM), i + j = n → j < fn → ∃ u', L fn (nI i) u = R u' ∧ (∀ p ∈ ps, ∀ x, x < i → gI u' p.2.1 x = gI u p.2.1 x) ∧ (∀ p ∈ ps, ∀ x, i ≤ x → x < n → gI u' p.2.1 x = cpF p.2.2 (gI u p.1 x)) ∧ (∀ a x, (∀ p ∈ ps, a ≠ p.2.1) → gI u' a x = gI u a x) ∧ (∀ a x, gJ u' a x = gJ u a x) ∧ ∀ a x, gO u' a x = gO u a x := by
    intro j
    induction j with
    | zero =>
      intro i fn u hi hf
      obtain ⟨fn, rfl⟩ : ∃ g, fn = g + 1 := ⟨fn - 1, by omega⟩
      obtain rfl : i = n := by omega
      exact ⟨u, hE fn u, fun _ _ _ _ => rfl, fun p hp x h1 h2 => absurd h2 (by omega), fun _ _ _ => rfl, fun _ _ => rfl, fun _ _ => rfl⟩
    | succ j ih =>
      intro i fn u hi hf
      obtain ⟨fn, rfl⟩ : ∃ g, fn = g + 1 := ⟨fn - 1, by omega⟩
      obtain ⟨c1, c2, c3, c4⟩ := cpStep_get i ps u hok
      obtain ⟨u', r1, r2, r3, r4, r5, r6⟩ := ih (i + 1) fn (cpStep ps i u) (by omega) (by omega)
      refine ⟨u', (hL fn i u (by omega)).trans r1, fun p hp x hx => ?_, fun p hp x h1 h2 => ?_, fun a x ha => ?_, fun a x => (r5 a x).trans (c3 a x), fun a x => (r6 a x).trans (c4 a x)⟩
      · rw [r2 p hp x (by omega), c2 _ x (Or.inl (by omega))]
      · by_cases cx : x = i
        · subst cx
          rw [r2 p hp x (by omega), c1 p hp]
        · rw [r3 p hp x (by omega) h2, c2 p.1 x (Or.inl cx)]
      · rw [r4 a x ha, c2 a x (Or.inr ha)]
  obtain ⟨u', r1, r2, r3, r4, r5, r6⟩ := hl n 0 400 u (by omega) hn
  exact ⟨u', r1, fun p hp x hx => r3 p hp x (Nat.zero_le _) hx, r4, r5, r6⟩
theorem VM_cp {k o s h o' s' h' : Nat} {w w' : zM} {T : zT} (hv : VM o s h w T) (ho : OkT k T) (g0 : ∀ j, j ≤ 4 → gI w' 0 (s' + j) = gI w 0 (s + j)) (gh : gI w' 0 h' = gI w 0 h) (g1 : ∀ c i, 1 ≤ c → c ≤ 3 → i < 6 → gI w' (o' + c) i = gI w (o + c) i) (g4 : ∀ i, i < 24 → gI w' (o' + 4) i = gI w (o + 4) i) (g5 : ∀ c i, 5 ≤ c → c ≤ 7 → i < 4 → gI w' (o' + c) i = gI w (o + c) i) : VM o' s' h' w' T := by
  obtain ⟨a1, a2, a3, a4, a5, a6, a7, a8, A, hA, a9, a10⟩ := hv
  have hn := ho.1
  have hm := ho.2.1
  refine ⟨(g0 0 (by omega)).trans a1, (g0 2 (by omega)).trans a2, (g0 3 (by omega)).trans a3, (g0 4 (by omega)).trans a4, gh.trans a5, fun i hi => ?_, fun j hj => (g4 j (by omega)).trans (a7 j hj), fun i hi => ?_, A, hA, (g0 1 (by omega)).trans a9, a10⟩
  · obtain ⟨b1, b2, b3⟩ := a6 i hi
    exact ⟨(g1 1 i (by omega) (by omega) (by omega)).trans b1, (g1 2 i (by omega) (by omega) (by omega)).trans b2, (g1 3 i (by omega) (by omega) (by omega)).trans b3⟩
  · obtain ⟨b1, b2, b3⟩ := a8 i hi
    exact ⟨(g5 5 i (by omega) (by omega) (by omega)).trans b1, (g5 6 i (by omega) (by omega) (by omega)).trans b2, (g5 7 i (by omega) (by omega) (by omega)).trans b3⟩
def BunX (t : Nat) (u : zM) (T S1 : zT) (z1 : Nat) (S2 : zT) (z2 : Nat) (S3 : zT) (z3 : Nat) : Prop := VX (t + 1) u T ∧ SeeX (t + 12) u S1 z1 ∧ PlX (t + 16) u S2 z2 ∧ BkX (t + 20) u S3 z3
def BunO (k : Nat) (T S1 : zT) (z1 : Nat) (S2 : zT) (z2 : Nat) (S3 : zT) (z3 : Nat) : Prop := OkT k T ∧ T 0 3 ≤ 9999 ∧ SeeOk (T 0 0) S1 z1 ∧ PlOk (T 0 0) (T 0 1) S2 z2 ∧ BkOk (T 0 0) S3 z3
def BunC (w : zM) (T S1 : zT) (z1 : Nat) (S2 : zT) (z2 : Nat) (S3 : zT) (z3 : Nat) : Prop := VM 0 0 13 w T ∧ SeeM 38 23 24 25 w S1 z1 ∧ PlM 42 26 27 w S2 z2 ∧ BkM 43 28 29 w S3 z3
def BunI (w : zM) (T S1 : zT) (z1 : Nat) (S2 : zT) (z2 : Nat) (S3 : zT) (z3 : Nat) : Prop := VM 29 50 49 w T ∧ SeeM 55 37 38 43 w S1 z1 ∧ PlM 56 39 40 w S2 z2 ∧ BkM 57 41 42 w S3 z3
theorem shBec {t o n z : Nat} {u : zM} (hd : o + 3 < t ∨ t + 3 < o) (h : gI u o 3 = nI z) (hz : z ≤ n) (hn : n ≤ 10) : ∃ u', f_X3_become t n o u = some ((), u') ∧ gI u' t 3 = nI z ∧ (∀ c i, 1 ≤ c → c ≤ 3 → i < z → gI u' (t + c) i = gI u (o + c) i) ∧ (∀ a i, (a < t ∨ t + 4 ≤ a) → gI u' a i = gI u a i) ∧ (∀ a i, gJ u' a i = gJ u a i) ∧ ∀ a i, gO u' a i = gO u a i := by
  have hl : ∀ j i fn (u : zM), i + j = z → j < fn → gI u t 3 = nI z → ∃ u', f_X3_become_L10 t n o fn (nI i) u = some ((), u') ∧ gI u' t 3 = nI z ∧ (∀ c x, 1 ≤ c → c ≤ 3 → x < i → gI u' (t + c) x = gI u (t + c) x) ∧ (∀ c x, 1 ≤ c → c ≤ 3 → i ≤ x → x < z → gI u' (t + c) x = gI u (o + c) x) ∧ (∀ a x, (a < t ∨ t + 4 ≤ a) → gI u' a x = gI u a x) ∧ (∀ a x, gJ u' a x = gJ u a x) ∧ ∀ a x, gO u' a x = gO u a x := by
    intro j
    induction j with
    | zero =>
      intro i fn u hi hf ht
      obtain ⟨fn, rfl⟩ : ∃ g, fn = g + 1 := ⟨fn - 1, by omega⟩
      refine ⟨u, ?_, ht, fun _ _ _ _ _ => rfl, fun c x _ _ h1 h2 => absurd h2 (by omega), fun _ _ _ => rfl, fun _ _ => rfl, fun _ _ => rfl⟩
      show f_X3_become_L10_b _ _ _ _ _ _ = _
      unfold f_X3_become_L10_b
      rw [ht, if_pos (nI_le (by omega) (by omega))]
    | succ j ih =>
      intro i fn u hi hf ht
      obtain ⟨fn, rfl⟩ : ∃ g, fn = g + 1 := ⟨fn - 1, by omega⟩
      have hcl : (nI i).toNatClampNeg = i := nI_cl (by omega)
      have hin : inB (nI i) n = true := inB_n (by omega) (by omega)
      obtain ⟨u', r1, r2, r3, r4, r5, r6, r7⟩ := ih (i + 1) fn (sI (sI (sI u (t + 1) i (gI u (o + 1) i)) (t + 2) i (gI (sI u (t + 1) i (gI u (o + 1) i)) (o + 2) i)) (t + 3) i (gI (sI (sI u (t + 1) i (gI u (o + 1) i)) (t + 2) i (gI (sI u (t + 1) i (gI u (o + 1) i)) (o + 2) i)) (o + 3) i)) (by omega) (by omega) (by rw [gI_sI, if_neg (by omega), gI_sI, if_neg (by omega), gI_sI, if_neg (by omega)]; exact ht)
      refine ⟨u', ?_, r2, fun c x h1 h2 h3 => ?_, fun c x h1 h2 h3 h4 => ?_, fun a x q => ?_, r6, r7⟩
      · show f_X3_become_L10_b _ _ _ _ _ _ = _
        unfold f_X3_become_L10_b
        rw [ht, if_neg (nI_ge (by omega) (by omega)), if_neg (show ¬ Int32.ofNat n ≤ nI i from nI_ge (by omega) (by omega)), hin, zck_t, zck_t, zlet_s, zck_t, zck_t, zlet_s, zck_t, zck_t, zlet_s, hcl, nI_a1]
        exact r1
      · rw [r3 c x h1 h2 (by omega), gI_sI, if_neg (by omega), gI_sI, if_neg (by omega), gI_sI, if_neg (by omega)]
      · by_cases cx : x = i
        · subst cx
          have hc : c = 1 ∨ c = 2 ∨ c = 3 := by omega
          rcases hc with rfl | rfl | rfl
          · rw [r3 _ x h1 h2 (by omega), gI_sI, if_neg (by omega), gI_sI, if_neg (by omega), gI_sI, if_pos ⟨rfl, rfl⟩]
          · rw [r3 _ x h1 h2 (by omega), gI_sI, if_neg (by omega), gI_sI, if_pos ⟨rfl, rfl⟩, gI_sI, if_neg (by omega)]
          · rw [r3 _ x h1 h2 (by omega), gI_sI, if_pos ⟨rfl, rfl⟩, gI_sI, if_neg (by omega), gI_sI, if_neg (by omega)]
        · rw [r4 c x h1 h2 (by omega) h4, gI_sI, if_neg (by omega), gI_sI, if_neg (by omega), gI_sI, if_neg (by omega)]
      · rw [r5 a x q, gI_sI, if_neg (by omega), gI_sI, if_neg (by omega), gI_sI, if_neg (by omega)]
  obtain ⟨u', r1, r2, r3, r4, r5, r6, r7⟩ := hl z 0 400 (sI u t 3 (gI u o 3)) (by omega) (by omega) (by rw [gI_sI, if_pos ⟨rfl, rfl⟩]; exact h)
  refine ⟨u', ?_, r2, fun c i h1 h2 h3 => ?_, fun a i q => ?_, r6, r7⟩
  · unfold f_X3_become
    rw [zlet_s]
    exact r1
  · rw [r4 c i h1 h2 (Nat.zero_le _) h3, gI_sI, if_neg (by omega)]
  · rw [r5 a i q, gI_sI, if_neg (by omega)]
theorem becW {t o k z1 z2 z3 : Nat} {u : zM} {T S1 S2 S3 : zT} (hd : o + 23 < t ∨ t + 23 < o) (h : BunX o u T S1 z1 S2 z2 S3 z3) (ho : BunO k T S1 z1 S2 z2 S3 z3) (hk : k ≤ 6) : ∃ u', f_X7_become t o u = some ((), u') ∧ BunX t u' T S1 z1 S2 z2 S3 z3 ∧ (∀ a i, (a < t + 1 ∨ t + 24 ≤ a) → gI u' a i = gI u a i) ∧ (∀ a i, gJ u' a i = gJ u a i) ∧ ∀ a i, (a < t + 1 ∨ t + 24 ≤ a) → gO u' a i = gO u a i := by
  obtain ⟨h1, h2, h3, h4⟩ := h
  obtain ⟨o1, o2, o3, o4, o5⟩ := ho
  obtain ⟨u1, a1, a2, a3⟩ := becX (t := t + 1) (o := o + 1) (by omega) h1 o1 hk
  obtain ⟨u2, b1, b2, b3, b4, b5, b6⟩ := shBec (t := t + 12) (o := o + 12) (n := 5) (z := z1) (u := u1) (by omega) ((a3.1 _ _ (by omega)).trans h2.1) o3.1 (by omega)
  obtain ⟨u3, c1, c2, c3, c4, c5, c6⟩ := shBec (t := t + 16) (o := o + 16) (n := 10) (z := z2) (u := u2) (by omega) ((b4 _ _ (by omega)).trans ((a3.1 _ _ (by omega)).trans h3.1)) o4.1 (by omega)
  obtain ⟨u4, d1, d2, d3, d4, d5, d6⟩ := shBec (t := t + 20) (o := o + 20) (n := 8) (z := z3) (u := u3) (by omega) ((c4 _ _ (by omega)).trans ((b4 _ _ (by omega)).trans ((a3.1 _ _ (by omega)).trans h4.1))) o5.1 (by omega)
  have e2 : ∀ a i, (a < t + 1 ∨ t + 24 ≤ a) → gI u4 a i = gI u a i := fun a i q => (d4 a i (by omega)).trans ((c4 a i (by omega)).trans ((b4 a i (by omega)).trans (a3.1 a i (by omega))))
  refine ⟨u4, ?_, ⟨?_, ⟨?_, fun i hi => ?_⟩, ⟨?_, fun i hi => ?_⟩, ⟨d2, fun i hi => ?_⟩⟩, e2, fun a i => (d5 a i).trans ((c5 a i).trans ((b5 a i).trans (a3.2.1 a i))), fun a i q => (d6 a i).trans ((c6 a i).trans ((b6 a i).trans (a3.2.2 a i (by omega))))⟩
  · unfold f_X7_become
    rw [a1, zb_s, b1, zb_s, c1, zb_s, d1, zb_s]
  · refine VX_cg a2 (fun c i hc => ?_) ?_
    · rw [d4 _ _ (by omega), c4 _ _ (by omega), b4 _ _ (by omega)]
    · rw [d6, c6, b6]
  · rw [d4 _ _ (by omega), c4 _ _ (by omega)]
    exact b2
  · obtain ⟨s1, s2, s3⟩ := h2.2 i hi
    refine ⟨?_, ?_, ?_⟩
    · rw [d4 _ _ (by omega), c4 _ _ (by omega), b3 1 i (by omega) (by omega) hi, a3.1 _ _ (by omega)]; exact s1
    · rw [d4 _ _ (by omega), c4 _ _ (by omega), b3 2 i (by omega) (by omega) hi, a3.1 _ _ (by omega)]; exact s2
    · rw [d4 _ _ (by omega), c4 _ _ (by omega), b3 3 i (by omega) (by omega) hi, a3.1 _ _ (by omega)]; exact s3
  · rw [d4 _ _ (by omega)]
    exact c2
  · obtain ⟨s1, s2⟩ := h3.2 i hi
    refine ⟨?_, fun q => ?_⟩
    · rw [d4 _ _ (by omega), c3 1 i (by omega) (by omega) hi, b4 _ _ (by omega), a3.1 _ _ (by omega)]; exact s1
    · rw [d4 _ _ (by omega), c3 2 i (by omega) (by omega) hi, b4 _ _ (by omega), a3.1 _ _ (by omega)]; exact s2 q
  · obtain ⟨s1, s2⟩ := h4.2 i hi
    refine ⟨?_, ?_⟩
    · rw [d3 1 i (by omega) (by omega) hi, c4 _ _ (by omega), b4 _ _ (by omega), a3.1 _ _ (by omega)]; exact s1
    · rw [d3 2 i (by omega) (by omega) hi, c4 _ _ (by omega), b4 _ _ (by omega), a3.1 _ _ (by omega)]; exact s2
theorem image_cp0 (u : zM) : ∃ u', f_X9_image_L79 400 (0 : Int32) u = (fun u => f_X9_image_L129 400 (0 : Int32) u) u' ∧ (∀ p ∈ ([(1, 30, false), (2, 31, false), (3, 32, false)] : List zP), ∀ x, x < 6 → gI u' p.2.1 x = cpF p.2.2 (gI u p.1 x)) ∧ (∀ a x, (∀ p ∈ ([(1, 30, false), (2, 31, false), (3, 32, false)] : List zP), a ≠ p.2.1) → gI u' a x = gI u a x) ∧ (∀ a x, gJ u' a x = gJ u a x) ∧ ∀ a x, gO u' a x = gO u a x :=
  cpN [(1, 30, false), (2, 31, false), (3, 32, false)] 6 f_X9_image_L79 (fun u => f_X9_image_L129 400 (0 : Int32) u) (by decide) (by decide) (fun fn i u hi => by
    show f_X9_image_L79_b _ _ _ = _
    unfold f_X9_image_L79_b
    rw [if_neg (show ¬ (6 : Int32) ≤ nI i from nI_ge (b := 6) hi (by decide)), inB_n hi (by decide), zck_t, zck_t, zlet_s, zck_t, zck_t, zlet_s, zck_t, zck_t, zlet_s, nI_cl (n := i) (by omega), nI_a1]
    rfl) (fun fn u => by
    show f_X9_image_L79_b _ _ _ = _
    rfl) (by decide) u
theorem image_cp1 (u : zM) : ∃ u', f_X9_image_L129 400 (0 : Int32) u = (fun u => f_X9_image_L155 400 (0 : Int32) u) u' ∧ (∀ p ∈ ([(4, 33, false)] : List zP), ∀ x, x < 24 → gI u' p.2.1 x = cpF p.2.2 (gI u p.1 x)) ∧ (∀ a x, (∀ p ∈ ([(4, 33, false)] : List zP), a ≠ p.2.1) → gI u' a x = gI u a x) ∧ (∀ a x, gJ u' a x = gJ u a x) ∧ ∀ a x, gO u' a x = gO u a x :=
  cpN [(4, 33, false)] 24 f_X9_image_L129 (fun u => f_X9_image_L155 400 (0 : Int32) u) (by decide) (by decide) (fun fn i u hi => by
    show f_X9_image_L129_b _ _ _ = _
    unfold f_X9_image_L129_b
    rw [if_neg (show ¬ (24 : Int32) ≤ nI i from nI_ge (b := 24) hi (by decide)), inB_n hi (by decide), zck_t, zck_t, zlet_s, nI_cl (n := i) (by omega), nI_a1]
    rfl) (fun fn u => by
    show f_X9_image_L129_b _ _ _ = _
    rfl) (by decide) u
theorem image_cp2 (u : zM) : ∃ u', f_X9_image_L155 400 (0 : Int32) u = (fun u => f_X9_image_L204 400 (0 : Int32) u) u' ∧ (∀ p ∈ ([(5, 34, false), (6, 35, false), (7, 36, false)] : List zP), ∀ x, x < 4 → gI u' p.2.1 x = cpF p.2.2 (gI u p.1 x)) ∧ (∀ a x, (∀ p ∈ ([(5, 34, false), (6, 35, false), (7, 36, false)] : List zP), a ≠ p.2.1) → gI u' a x = gI u a x) ∧ (∀ a x, gJ u' a x = gJ u a x) ∧ ∀ a x, gO u' a x = gO u a x :=
  cpN [(5, 34, false), (6, 35, false), (7, 36, false)] 4 f_X9_image_L155 (fun u => f_X9_image_L204 400 (0 : Int32) u) (by decide) (by decide) (fun fn i u hi => by
    show f_X9_image_L155_b _ _ _ = _
    unfold f_X9_image_L155_b
    rw [if_neg (show ¬ (4 : Int32) ≤ nI i from nI_ge (b := 4) hi (by decide)), inB_n hi (by decide), zck_t, zck_t, zlet_s, zck_t, zck_t, zlet_s, zck_t, zck_t, zlet_s, nI_cl (n := i) (by omega), nI_a1]
    rfl) (fun fn u => by
    show f_X9_image_L155_b _ _ _ = _
    rfl) (by decide) u
theorem image_cp3 (u : zM) : ∃ u', f_X9_image_L204 400 (0 : Int32) u = (fun u => f_X9_image_L253 400 (0 : Int32) u) u' ∧ (∀ p ∈ ([(23, 37, false), (24, 38, false), (25, 43, true)] : List zP), ∀ x, x < 5 → gI u' p.2.1 x = cpF p.2.2 (gI u p.1 x)) ∧ (∀ a x, (∀ p ∈ ([(23, 37, false), (24, 38, false), (25, 43, true)] : List zP), a ≠ p.2.1) → gI u' a x = gI u a x) ∧ (∀ a x, gJ u' a x = gJ u a x) ∧ ∀ a x, gO u' a x = gO u a x :=
  cpN [(23, 37, false), (24, 38, false), (25, 43, true)] 5 f_X9_image_L204 (fun u => f_X9_image_L253 400 (0 : Int32) u) (by decide) (by decide) (fun fn i u hi => by
    show f_X9_image_L204_b _ _ _ = _
    unfold f_X9_image_L204_b
    rw [if_neg (show ¬ (5 : Int32) ≤ nI i from nI_ge (b := 5) hi (by decide)), inB_n hi (by decide), zck_t, zck_t, zlet_s, zck_t, zck_t, zlet_s, zck_t, zck_t, zlet_s, nI_cl (n := i) (by omega), nI_a1]
    rfl) (fun fn u => by
    show f_X9_image_L204_b _ _ _ = _
    rfl) (by decide) u
theorem image_cp4 (u : zM) : ∃ u', f_X9_image_L253 400 (0 : Int32) u = (fun u => f_X9_image_L291 400 (0 : Int32) u) u' ∧ (∀ p ∈ ([(26, 39, false), (27, 40, false)] : List zP), ∀ x, x < 10 → gI u' p.2.1 x = cpF p.2.2 (gI u p.1 x)) ∧ (∀ a x, (∀ p ∈ ([(26, 39, false), (27, 40, false)] : List zP), a ≠ p.2.1) → gI u' a x = gI u a x) ∧ (∀ a x, gJ u' a x = gJ u a x) ∧ ∀ a x, gO u' a x = gO u a x :=
  cpN [(26, 39, false), (27, 40, false)] 10 f_X9_image_L253 (fun u => f_X9_image_L291 400 (0 : Int32) u) (by decide) (by decide) (fun fn i u hi => by
    show f_X9_image_L253_b _ _ _ = _
    unfold f_X9_image_L253_b
    rw [if_neg (show ¬ (10 : Int32) ≤ nI i from nI_ge (b := 10) hi (by decide)), inB_n hi (by decide), zck_t, zck_t, zlet_s, zck_t, zck_t, zlet_s, nI_cl (n := i) (by omega), nI_a1]
    rfl) (fun fn u => by
    show f_X9_image_L253_b _ _ _ = _
    rfl) (by decide) u
theorem image_cp5 (u : zM) : ∃ u', f_X9_image_L291 400 (0 : Int32) u = (fun u => some (gI u 0 0, u)) u' ∧ (∀ p ∈ ([(28, 41, false), (29, 42, false)] : List zP), ∀ x, x < 8 → gI u' p.2.1 x = cpF p.2.2 (gI u p.1 x)) ∧ (∀ a x, (∀ p ∈ ([(28, 41, false), (29, 42, false)] : List zP), a ≠ p.2.1) → gI u' a x = gI u a x) ∧ (∀ a x, gJ u' a x = gJ u a x) ∧ ∀ a x, gO u' a x = gO u a x :=
  cpN [(28, 41, false), (29, 42, false)] 8 f_X9_image_L291 (fun u => some (gI u 0 0, u)) (by decide) (by decide) (fun fn i u hi => by
    show f_X9_image_L291_b _ _ _ = _
    unfold f_X9_image_L291_b
    rw [if_neg (show ¬ (8 : Int32) ≤ nI i from nI_ge (b := 8) hi (by decide)), inB_n hi (by decide), zck_t, zck_t, zlet_s, zck_t, zck_t, zlet_s, nI_cl (n := i) (by omega), nI_a1]
    rfl) (fun fn u => by
    show f_X9_image_L291_b _ _ _ = _
    rfl) (by decide) u
theorem undo_cp0 (u : zM) : ∃ u', f_X9_undo_L84 400 (0 : Int32) u = (fun u => f_X9_undo_L134 400 (0 : Int32) u) u' ∧ (∀ p ∈ ([(30, 1, false), (31, 2, false), (32, 3, false)] : List zP), ∀ x, x < 6 → gI u' p.2.1 x = cpF p.2.2 (gI u p.1 x)) ∧ (∀ a x, (∀ p ∈ ([(30, 1, false), (31, 2, false), (32, 3, false)] : List zP), a ≠ p.2.1) → gI u' a x = gI u a x) ∧ (∀ a x, gJ u' a x = gJ u a x) ∧ ∀ a x, gO u' a x = gO u a x :=
  cpN [(30, 1, false), (31, 2, false), (32, 3, false)] 6 f_X9_undo_L84 (fun u => f_X9_undo_L134 400 (0 : Int32) u) (by decide) (by decide) (fun fn i u hi => by
    show f_X9_undo_L84_b _ _ _ = _
    unfold f_X9_undo_L84_b
    rw [if_neg (show ¬ (6 : Int32) ≤ nI i from nI_ge (b := 6) hi (by decide)), inB_n hi (by decide), zck_t, zck_t, zlet_s, zck_t, zck_t, zlet_s, zck_t, zck_t, zlet_s, nI_cl (n := i) (by omega), nI_a1]
    rfl) (fun fn u => by
    show f_X9_undo_L84_b _ _ _ = _
    rfl) (by decide) u
theorem undo_cp1 (u : zM) : ∃ u', f_X9_undo_L134 400 (0 : Int32) u = (fun u => f_X9_undo_L160 400 (0 : Int32) u) u' ∧ (∀ p ∈ ([(33, 4, false)] : List zP), ∀ x, x < 24 → gI u' p.2.1 x = cpF p.2.2 (gI u p.1 x)) ∧ (∀ a x, (∀ p ∈ ([(33, 4, false)] : List zP), a ≠ p.2.1) → gI u' a x = gI u a x) ∧ (∀ a x, gJ u' a x = gJ u a x) ∧ ∀ a x, gO u' a x = gO u a x :=
  cpN [(33, 4, false)] 24 f_X9_undo_L134 (fun u => f_X9_undo_L160 400 (0 : Int32) u) (by decide) (by decide) (fun fn i u hi => by
    show f_X9_undo_L134_b _ _ _ = _
    unfold f_X9_undo_L134_b
    rw [if_neg (show ¬ (24 : Int32) ≤ nI i from nI_ge (b := 24) hi (by decide)), inB_n hi (by decide), zck_t, zck_t, zlet_s, nI_cl (n := i) (by omega), nI_a1]
    rfl) (fun fn u => by
    show f_X9_undo_L134_b _ _ _ = _
    rfl) (by decide) u
theorem undo_cp2 (u : zM) : ∃ u', f_X9_undo_L160 400 (0 : Int32) u = (fun u => f_X9_undo_L209 400 (0 : Int32) u) u' ∧ (∀ p ∈ ([(34, 5, false), (35, 6, false), (36, 7, false)] : List zP), ∀ x, x < 4 → gI u' p.2.1 x = cpF p.2.2 (gI u p.1 x)) ∧ (∀ a x, (∀ p ∈ ([(34, 5, false), (35, 6, false), (36, 7, false)] : List zP), a ≠ p.2.1) → gI u' a x = gI u a x) ∧ (∀ a x, gJ u' a x = gJ u a x) ∧ ∀ a x, gO u' a x = gO u a x :=
  cpN [(34, 5, false), (35, 6, false), (36, 7, false)] 4 f_X9_undo_L160 (fun u => f_X9_undo_L209 400 (0 : Int32) u) (by decide) (by decide) (fun fn i u hi => by
    show f_X9_undo_L160_b _ _ _ = _
    unfold f_X9_undo_L160_b
    rw [if_neg (show ¬ (4 : Int32) ≤ nI i from nI_ge (b := 4) hi (by decide)), inB_n hi (by decide), zck_t, zck_t, zlet_s, zck_t, zck_t, zlet_s, zck_t, zck_t, zlet_s, nI_cl (n := i) (by omega), nI_a1]
    rfl) (fun fn u => by
    show f_X9_undo_L160_b _ _ _ = _
    rfl) (by decide) u
theorem undo_cp3 (u : zM) : ∃ u', f_X9_undo_L209 400 (0 : Int32) u = (fun u => f_X9_undo_L258 400 (0 : Int32) u) u' ∧ (∀ p ∈ ([(37, 23, false), (38, 24, false), (43, 25, true)] : List zP), ∀ x, x < 5 → gI u' p.2.1 x = cpF p.2.2 (gI u p.1 x)) ∧ (∀ a x, (∀ p ∈ ([(37, 23, false), (38, 24, false), (43, 25, true)] : List zP), a ≠ p.2.1) → gI u' a x = gI u a x) ∧ (∀ a x, gJ u' a x = gJ u a x) ∧ ∀ a x, gO u' a x = gO u a x :=
  cpN [(37, 23, false), (38, 24, false), (43, 25, true)] 5 f_X9_undo_L209 (fun u => f_X9_undo_L258 400 (0 : Int32) u) (by decide) (by decide) (fun fn i u hi => by
    show f_X9_undo_L209_b _ _ _ = _
    unfold f_X9_undo_L209_b
    rw [if_neg (show ¬ (5 : Int32) ≤ nI i from nI_ge (b := 5) hi (by decide)), inB_n hi (by decide), zck_t, zck_t, zlet_s, zck_t, zck_t, zlet_s, zck_t, zck_t, zlet_s, nI_cl (n := i) (by omega), nI_a1]
    rfl) (fun fn u => by
    show f_X9_undo_L209_b _ _ _ = _
    rfl) (by decide) u
theorem undo_cp4 (u : zM) : ∃ u', f_X9_undo_L258 400 (0 : Int32) u = (fun u => f_X9_undo_L296 400 (0 : Int32) u) u' ∧ (∀ p ∈ ([(39, 26, false), (40, 27, false)] : List zP), ∀ x, x < 10 → gI u' p.2.1 x = cpF p.2.2 (gI u p.1 x)) ∧ (∀ a x, (∀ p ∈ ([(39, 26, false), (40, 27, false)] : List zP), a ≠ p.2.1) → gI u' a x = gI u a x) ∧ (∀ a x, gJ u' a x = gJ u a x) ∧ ∀ a x, gO u' a x = gO u a x :=
  cpN [(39, 26, false), (40, 27, false)] 10 f_X9_undo_L258 (fun u => f_X9_undo_L296 400 (0 : Int32) u) (by decide) (by decide) (fun fn i u hi => by
    show f_X9_undo_L258_b _ _ _ = _
    unfold f_X9_undo_L258_b
    rw [if_neg (show ¬ (10 : Int32) ≤ nI i from nI_ge (b := 10) hi (by decide)), inB_n hi (by decide), zck_t, zck_t, zlet_s, zck_t, zck_t, zlet_s, nI_cl (n := i) (by omega), nI_a1]
    rfl) (fun fn u => by
    show f_X9_undo_L258_b _ _ _ = _
    rfl) (by decide) u
theorem undo_cp5 (u : zM) : ∃ u', f_X9_undo_L296 400 (0 : Int32) u = (fun u => some (gI u 0 0, u)) u' ∧ (∀ p ∈ ([(41, 28, false), (42, 29, false)] : List zP), ∀ x, x < 8 → gI u' p.2.1 x = cpF p.2.2 (gI u p.1 x)) ∧ (∀ a x, (∀ p ∈ ([(41, 28, false), (42, 29, false)] : List zP), a ≠ p.2.1) → gI u' a x = gI u a x) ∧ (∀ a x, gJ u' a x = gJ u a x) ∧ ∀ a x, gO u' a x = gO u a x :=
  cpN [(41, 28, false), (42, 29, false)] 8 f_X9_undo_L296 (fun u => some (gI u 0 0, u)) (by decide) (by decide) (fun fn i u hi => by
    show f_X9_undo_L296_b _ _ _ = _
    unfold f_X9_undo_L296_b
    rw [if_neg (show ¬ (8 : Int32) ≤ nI i from nI_ge (b := 8) hi (by decide)), inB_n hi (by decide), zck_t, zck_t, zlet_s, zck_t, zck_t, zlet_s, nI_cl (n := i) (by omega), nI_a1]
    rfl) (fun fn u => by
    show f_X9_undo_L296_b _ _ _ = _
    rfl) (by decide) u
theorem image_all (u : zM) : ∃ u', f_X9_image_L79 400 (0 : Int32) u = some (gI u' 0 0, u') ∧ (∀ x, x < 6 → gI u' 30 x = gI u 1 x) ∧ (∀ x, x < 6 → gI u' 31 x = gI u 2 x) ∧ (∀ x, x < 6 → gI u' 32 x = gI u 3 x) ∧ (∀ x, x < 24 → gI u' 33 x = gI u 4 x) ∧ (∀ x, x < 4 → gI u' 34 x = gI u 5 x) ∧ (∀ x, x < 4 → gI u' 35 x = gI u 6 x) ∧ (∀ x, x < 4 → gI u' 36 x = gI u 7 x) ∧ (∀ x, x < 5 → gI u' 37 x = gI u 23 x) ∧ (∀ x, x < 5 → gI u' 38 x = gI u 24 x) ∧ (∀ x, x < 5 → gI u' 43 x = vp_nar .boolean (gI u 25 x)) ∧ (∀ x, x < 10 → gI u' 39 x = gI u 26 x) ∧ (∀ x, x < 10 → gI u' 40 x = gI u 27 x) ∧ (∀ x, x < 8 → gI u' 41 x = gI u 28 x) ∧ (∀ x, x < 8 → gI u' 42 x = gI u 29 x) ∧ (∀ a x, a ≠ 30 → a ≠ 31 → a ≠ 32 → a ≠ 33 → a ≠ 34 → a ≠ 35 → a ≠ 36 → a ≠ 37 → a ≠ 38 → a ≠ 43 → a ≠ 39 → a ≠ 40 → a ≠ 41 → a ≠ 42 → gI u' a x = gI u a x) ∧ (∀ a x, gJ u' a x = gJ u a x) ∧ ∀ a x, gO u' a x = gO u a x := by
  obtain ⟨u0, e0, g0, f0, j0, o0⟩ := image_cp0 u
  obtain ⟨u1, e1, g1, f1, j1, o1⟩ := image_cp1 u0
  obtain ⟨u2, e2, g2, f2, j2, o2⟩ := image_cp2 u1
  obtain ⟨u3, e3, g3, f3, j3, o3⟩ := image_cp3 u2
  obtain ⟨u4, e4, g4, f4, j4, o4⟩ := image_cp4 u3
  obtain ⟨u5, e5, g5, f5, j5, o5⟩ := image_cp5 u4
  have k0 : ∀ a x, a ≠ 30 → a ≠ 31 → a ≠ 32 → gI u0 a x = gI u a x := fun a x h0 h1 h2 => f0 a x (fun p hp => by
    simp only [List.mem_cons, List.not_mem_nil, or_false] at hp
    rcases hp with rfl | rfl | rfl
    all_goals assumption)
  have k1 : ∀ a x, a ≠ 33 → gI u1 a x = gI u0 a x := fun a x h0 => f1 a x (fun p hp => by
    simp only [List.mem_cons, List.not_mem_nil, or_false] at hp
    rcases hp with rfl
    all_goals assumption)
  have k2 : ∀ a x, a ≠ 34 → a ≠ 35 → a ≠ 36 → gI u2 a x = gI u1 a x := fun a x h0 h1 h2 => f2 a x (fun p hp => by
    simp only [List.mem_cons, List.not_mem_nil, or_false] at hp
    rcases hp with rfl | rfl | rfl
    all_goals assumption)
  have k3 : ∀ a x, a ≠ 37 → a ≠ 38 → a ≠ 43 → gI u3 a x = gI u2 a x := fun a x h0 h1 h2 => f3 a x (fun p hp => by
    simp only [List.mem_cons, List.not_mem_nil, or_false] at hp
    rcases hp with rfl | rfl | rfl
    all_goals assumption)
  have k4 : ∀ a x, a ≠ 39 → a ≠ 40 → gI u4 a x = gI u3 a x := fun a x h0 h1 => f4 a x (fun p hp => by
    simp only [List.mem_cons, List.not_mem_nil, or_false] at hp
    rcases hp with rfl | rfl
    all_goals assumption)
  have k5 : ∀ a x, a ≠ 41 → a ≠ 42 → gI u5 a x = gI u4 a x := fun a x h0 h1 => f5 a x (fun p hp => by
    simp only [List.mem_cons, List.not_mem_nil, or_false] at hp
    rcases hp with rfl | rfl
    all_goals assumption)
  refine ⟨u5, e0.trans (e1.trans (e2.trans (e3.trans (e4.trans e5)))), fun x hx => ?_, fun x hx => ?_, fun x hx => ?_, fun x hx => ?_, fun x hx => ?_, fun x hx => ?_, fun x hx => ?_, fun x hx => ?_, fun x hx => ?_, fun x hx => ?_, fun x hx => ?_, fun x hx => ?_, fun x hx => ?_, fun x hx => ?_, fun a x q0 q1 q2 q3 q4 q5 q6 q7 q8 q9 q10 q11 q12 q13 => ?_, fun a x => ?_, fun a x => ?_⟩
  · rw [k5 30 x (by decide) (by decide), k4 30 x (by decide) (by decide), k3 30 x (by decide) (by decide) (by decide), k2 30 x (by decide) (by decide) (by decide), k1 30 x (by decide)]
    refine (g0 (1, 30, false) (by decide) x hx).trans ?_
    show gI u 1 x = _
    rfl
  · rw [k5 31 x (by decide) (by decide), k4 31 x (by decide) (by decide), k3 31 x (by decide) (by decide) (by decide), k2 31 x (by decide) (by decide) (by decide), k1 31 x (by decide)]
    refine (g0 (2, 31, false) (by decide) x hx).trans ?_
    show gI u 2 x = _
    rfl
  · rw [k5 32 x (by decide) (by decide), k4 32 x (by decide) (by decide), k3 32 x (by decide) (by decide) (by decide), k2 32 x (by decide) (by decide) (by decide), k1 32 x (by decide)]
    refine (g0 (3, 32, false) (by decide) x hx).trans ?_
    show gI u 3 x = _
    rfl
  · rw [k5 33 x (by decide) (by decide), k4 33 x (by decide) (by decide), k3 33 x (by decide) (by decide) (by decide), k2 33 x (by decide) (by decide) (by decide)]
    refine (g1 (4, 33, false) (by decide) x hx).trans ?_
    show gI u0 4 x = _
    rw [k0 4 x (by decide) (by decide) (by decide)]
  · rw [k5 34 x (by decide) (by decide), k4 34 x (by decide) (by decide), k3 34 x (by decide) (by decide) (by decide)]
    refine (g2 (5, 34, false) (by decide) x hx).trans ?_
    show gI u1 5 x = _
    rw [k1 5 x (by decide), k0 5 x (by decide) (by decide) (by decide)]
  · rw [k5 35 x (by decide) (by decide), k4 35 x (by decide) (by decide), k3 35 x (by decide) (by decide) (by decide)]
    refine (g2 (6, 35, false) (by decide) x hx).trans ?_
    show gI u1 6 x = _
    rw [k1 6 x (by decide), k0 6 x (by decide) (by decide) (by decide)]
  · rw [k5 36 x (by decide) (by decide), k4 36 x (by decide) (by decide), k3 36 x (by decide) (by decide) (by decide)]
    refine (g2 (7, 36, false) (by decide) x hx).trans ?_
    show gI u1 7 x = _
    rw [k1 7 x (by decide), k0 7 x (by decide) (by decide) (by decide)]
  · rw [k5 37 x (by decide) (by decide), k4 37 x (by decide) (by decide)]
    refine (g3 (23, 37, false) (by decide) x hx).trans ?_
    show gI u2 23 x = _
    rw [k2 23 x (by decide) (by decide) (by decide), k1 23 x (by decide), k0 23 x (by decide) (by decide) (by decide)]
  · rw [k5 38 x (by decide) (by decide), k4 38 x (by decide) (by decide)]
    refine (g3 (24, 38, false) (by decide) x hx).trans ?_
    show gI u2 24 x = _
    rw [k2 24 x (by decide) (by decide) (by decide), k1 24 x (by decide), k0 24 x (by decide) (by decide) (by decide)]
  · rw [k5 43 x (by decide) (by decide), k4 43 x (by decide) (by decide)]
    refine (g3 (25, 43, true) (by decide) x hx).trans ?_
    show vp_nar .boolean (gI u2 25 x) = _
    rw [k2 25 x (by decide) (by decide) (by decide), k1 25 x (by decide), k0 25 x (by decide) (by decide) (by decide)]
  · rw [k5 39 x (by decide) (by decide)]
    refine (g4 (26, 39, false) (by decide) x hx).trans ?_
    show gI u3 26 x = _
    rw [k3 26 x (by decide) (by decide) (by decide), k2 26 x (by decide) (by decide) (by decide), k1 26 x (by decide), k0 26 x (by decide) (by decide) (by decide)]
  · rw [k5 40 x (by decide) (by decide)]
    refine (g4 (27, 40, false) (by decide) x hx).trans ?_
    show gI u3 27 x = _
    rw [k3 27 x (by decide) (by decide) (by decide), k2 27 x (by decide) (by decide) (by decide), k1 27 x (by decide), k0 27 x (by decide) (by decide) (by decide)]
  · refine (g5 (28, 41, false) (by decide) x hx).trans ?_
    show gI u4 28 x = _
    rw [k4 28 x (by decide) (by decide), k3 28 x (by decide) (by decide) (by decide), k2 28 x (by decide) (by decide) (by decide), k1 28 x (by decide), k0 28 x (by decide) (by decide) (by decide)]
  · refine (g5 (29, 42, false) (by decide) x hx).trans ?_
    show gI u4 29 x = _
    rw [k4 29 x (by decide) (by decide), k3 29 x (by decide) (by decide) (by decide), k2 29 x (by decide) (by decide) (by decide), k1 29 x (by decide), k0 29 x (by decide) (by decide) (by decide)]
  · rw [k5 a x q12 q13, k4 a x q10 q11, k3 a x q7 q8 q9, k2 a x q4 q5 q6, k1 a x q3, k0 a x q0 q1 q2]
  · rw [j5, j4, j3, j2, j1, j0]
  · rw [o5, o4, o3, o2, o1, o0]
theorem undo_all (u : zM) : ∃ u', f_X9_undo_L84 400 (0 : Int32) u = some (gI u' 0 0, u') ∧ (∀ x, x < 6 → gI u' 1 x = gI u 30 x) ∧ (∀ x, x < 6 → gI u' 2 x = gI u 31 x) ∧ (∀ x, x < 6 → gI u' 3 x = gI u 32 x) ∧ (∀ x, x < 24 → gI u' 4 x = gI u 33 x) ∧ (∀ x, x < 4 → gI u' 5 x = gI u 34 x) ∧ (∀ x, x < 4 → gI u' 6 x = gI u 35 x) ∧ (∀ x, x < 4 → gI u' 7 x = gI u 36 x) ∧ (∀ x, x < 5 → gI u' 23 x = gI u 37 x) ∧ (∀ x, x < 5 → gI u' 24 x = gI u 38 x) ∧ (∀ x, x < 5 → gI u' 25 x = vp_nar .boolean (gI u 43 x)) ∧ (∀ x, x < 10 → gI u' 26 x = gI u 39 x) ∧ (∀ x, x < 10 → gI u' 27 x = gI u 40 x) ∧ (∀ x, x < 8 → gI u' 28 x = gI u 41 x) ∧ (∀ x, x < 8 → gI u' 29 x = gI u 42 x) ∧ (∀ a x, a ≠ 1 → a ≠ 2 → a ≠ 3 → a ≠ 4 → a ≠ 5 → a ≠ 6 → a ≠ 7 → a ≠ 23 → a ≠ 24 → a ≠ 25 → a ≠ 26 → a ≠ 27 → a ≠ 28 → a ≠ 29 → gI u' a x = gI u a x) ∧ (∀ a x, gJ u' a x = gJ u a x) ∧ ∀ a x, gO u' a x = gO u a x := by
  obtain ⟨u0, e0, g0, f0, j0, o0⟩ := undo_cp0 u
  obtain ⟨u1, e1, g1, f1, j1, o1⟩ := undo_cp1 u0
  obtain ⟨u2, e2, g2, f2, j2, o2⟩ := undo_cp2 u1
  obtain ⟨u3, e3, g3, f3, j3, o3⟩ := undo_cp3 u2
  obtain ⟨u4, e4, g4, f4, j4, o4⟩ := undo_cp4 u3
  obtain ⟨u5, e5, g5, f5, j5, o5⟩ := undo_cp5 u4
  have k0 : ∀ a x, a ≠ 1 → a ≠ 2 → a ≠ 3 → gI u0 a x = gI u a x := fun a x h0 h1 h2 => f0 a x (fun p hp => by
    simp only [List.mem_cons, List.not_mem_nil, or_false] at hp
    rcases hp with rfl | rfl | rfl
    all_goals assumption)
  have k1 : ∀ a x, a ≠ 4 → gI u1 a x = gI u0 a x := fun a x h0 => f1 a x (fun p hp => by
    simp only [List.mem_cons, List.not_mem_nil, or_false] at hp
    rcases hp with rfl
    all_goals assumption)
  have k2 : ∀ a x, a ≠ 5 → a ≠ 6 → a ≠ 7 → gI u2 a x = gI u1 a x := fun a x h0 h1 h2 => f2 a x (fun p hp => by
    simp only [List.mem_cons, List.not_mem_nil, or_false] at hp
    rcases hp with rfl | rfl | rfl
    all_goals assumption)
  have k3 : ∀ a x, a ≠ 23 → a ≠ 24 → a ≠ 25 → gI u3 a x = gI u2 a x := fun a x h0 h1 h2 => f3 a x (fun p hp => by
    simp only [List.mem_cons, List.not_mem_nil, or_false] at hp
    rcases hp with rfl | rfl | rfl
    all_goals assumption)
  have k4 : ∀ a x, a ≠ 26 → a ≠ 27 → gI u4 a x = gI u3 a x := fun a x h0 h1 => f4 a x (fun p hp => by
    simp only [List.mem_cons, List.not_mem_nil, or_false] at hp
    rcases hp with rfl | rfl
    all_goals assumption)
  have k5 : ∀ a x, a ≠ 28 → a ≠ 29 → gI u5 a x = gI u4 a x := fun a x h0 h1 => f5 a x (fun p hp => by
    simp only [List.mem_cons, List.not_mem_nil, or_false] at hp
    rcases hp with rfl | rfl
    all_goals assumption)
  refine ⟨u5, e0.trans (e1.trans (e2.trans (e3.trans (e4.trans e5)))), fun x hx => ?_, fun x hx => ?_, fun x hx => ?_, fun x hx => ?_, fun x hx => ?_, fun x hx => ?_, fun x hx => ?_, fun x hx => ?_, fun x hx => ?_, fun x hx => ?_, fun x hx => ?_, fun x hx => ?_, fun x hx => ?_, fun x hx => ?_, fun a x q0 q1 q2 q3 q4 q5 q6 q7 q8 q9 q10 q11 q12 q13 => ?_, fun a x => ?_, fun a x => ?_⟩
  · rw [k5 1 x (by decide) (by decide), k4 1 x (by decide) (by decide), k3 1 x (by decide) (by decide) (by decide), k2 1 x (by decide) (by decide) (by decide), k1 1 x (by decide)]
    refine (g0 (30, 1, false) (by decide) x hx).trans ?_
    show gI u 30 x = _
    rfl
  · rw [k5 2 x (by decide) (by decide), k4 2 x (by decide) (by decide), k3 2 x (by decide) (by decide) (by decide), k2 2 x (by decide) (by decide) (by decide), k1 2 x (by decide)]
    refine (g0 (31, 2, false) (by decide) x hx).trans ?_
    show gI u 31 x = _
    rfl
  · rw [k5 3 x (by decide) (by decide), k4 3 x (by decide) (by decide), k3 3 x (by decide) (by decide) (by decide), k2 3 x (by decide) (by decide) (by decide), k1 3 x (by decide)]
    refine (g0 (32, 3, false) (by decide) x hx).trans ?_
    show gI u 32 x = _
    rfl
  · rw [k5 4 x (by decide) (by decide), k4 4 x (by decide) (by decide), k3 4 x (by decide) (by decide) (by decide), k2 4 x (by decide) (by decide) (by decide)]
    refine (g1 (33, 4, false) (by decide) x hx).trans ?_
    show gI u0 33 x = _
    rw [k0 33 x (by decide) (by decide) (by decide)]
  · rw [k5 5 x (by decide) (by decide), k4 5 x (by decide) (by decide), k3 5 x (by decide) (by decide) (by decide)]
    refine (g2 (34, 5, false) (by decide) x hx).trans ?_
    show gI u1 34 x = _
    rw [k1 34 x (by decide), k0 34 x (by decide) (by decide) (by decide)]
  · rw [k5 6 x (by decide) (by decide), k4 6 x (by decide) (by decide), k3 6 x (by decide) (by decide) (by decide)]
    refine (g2 (35, 6, false) (by decide) x hx).trans ?_
    show gI u1 35 x = _
    rw [k1 35 x (by decide), k0 35 x (by decide) (by decide) (by decide)]
  · rw [k5 7 x (by decide) (by decide), k4 7 x (by decide) (by decide), k3 7 x (by decide) (by decide) (by decide)]
    refine (g2 (36, 7, false) (by decide) x hx).trans ?_
    show gI u1 36 x = _
    rw [k1 36 x (by decide), k0 36 x (by decide) (by decide) (by decide)]
  · rw [k5 23 x (by decide) (by decide), k4 23 x (by decide) (by decide)]
    refine (g3 (37, 23, false) (by decide) x hx).trans ?_
    show gI u2 37 x = _
    rw [k2 37 x (by decide) (by decide) (by decide), k1 37 x (by decide), k0 37 x (by decide) (by decide) (by decide)]
  · rw [k5 24 x (by decide) (by decide), k4 24 x (by decide) (by decide)]
    refine (g3 (38, 24, false) (by decide) x hx).trans ?_
    show gI u2 38 x = _
    rw [k2 38 x (by decide) (by decide) (by decide), k1 38 x (by decide), k0 38 x (by decide) (by decide) (by decide)]
  · rw [k5 25 x (by decide) (by decide), k4 25 x (by decide) (by decide)]
    refine (g3 (43, 25, true) (by decide) x hx).trans ?_
    show vp_nar .boolean (gI u2 43 x) = _
    rw [k2 43 x (by decide) (by decide) (by decide), k1 43 x (by decide), k0 43 x (by decide) (by decide) (by decide)]
  · rw [k5 26 x (by decide) (by decide)]
    refine (g4 (39, 26, false) (by decide) x hx).trans ?_
    show gI u3 39 x = _
    rw [k3 39 x (by decide) (by decide) (by decide), k2 39 x (by decide) (by decide) (by decide), k1 39 x (by decide), k0 39 x (by decide) (by decide) (by decide)]
  · rw [k5 27 x (by decide) (by decide)]
    refine (g4 (40, 27, false) (by decide) x hx).trans ?_
    show gI u3 40 x = _
    rw [k3 40 x (by decide) (by decide) (by decide), k2 40 x (by decide) (by decide) (by decide), k1 40 x (by decide), k0 40 x (by decide) (by decide) (by decide)]
  · refine (g5 (41, 28, false) (by decide) x hx).trans ?_
    show gI u4 41 x = _
    rw [k4 41 x (by decide) (by decide), k3 41 x (by decide) (by decide) (by decide), k2 41 x (by decide) (by decide) (by decide), k1 41 x (by decide), k0 41 x (by decide) (by decide) (by decide)]
  · refine (g5 (42, 29, false) (by decide) x hx).trans ?_
    show gI u4 42 x = _
    rw [k4 42 x (by decide) (by decide), k3 42 x (by decide) (by decide) (by decide), k2 42 x (by decide) (by decide) (by decide), k1 42 x (by decide), k0 42 x (by decide) (by decide) (by decide)]
  · rw [k5 a x q12 q13, k4 a x q10 q11, k3 a x q7 q8 q9, k2 a x q4 q5 q6, k1 a x q3, k0 a x q0 q1 q2]
  · rw [j5, j4, j3, j2, j1, j0]
  · rw [o5, o4, o3, o2, o1, o0]
