/-! ===== PURE: on, mean, odds, talk ===== -/
theorem behX {k n : Nat} {T : zT} {sqs : Nat → zQ} {uX w : zM} (hc : Core k T sqs uX w) (hn : n ≤ 60) : ∃ u', f_X1_behind (nI n) uX = some (51, u') ∧ VX 51 u' (goT sqs n T) ∧ xfr 51 uX u' := by
  obtain ⟨hX, hM, ho, hmn, hs, hqX, hqM⟩ := hc
  obtain ⟨u1, a1, a2, a3⟩ := becX (t := 51) (by decide) hX ho hs.1
  obtain ⟨u2, b1, b2, b3⟩ := goX hs (by decide) (n := n) (by omega) a2 ho (SqX_afr hqX (afr_x a3)) (by omega)
  refine ⟨u2, ?_, b2, xfr_tr a3 b3⟩
  unfold f_X1_behind
  rw [a1, zb_s, b1, zb_s]
theorem behM {k n : Nat} {T : zT} {sqs : Nat → zQ} {uX w : zM} (hc : Core k T sqs uX w) (hn : n ≤ 60) : ∃ w1 w2, f_X9_save w = some ((), w1) ∧ f_X9_goMinutes (nI n) w1 = some ((), w2) ∧ VM 0 0 13 w2 (goT sqs n T) ∧ SV w w2 := by
  obtain ⟨hX, hM, ho, hmn, hs, hqX, hqM⟩ := hc
  obtain ⟨w1, c1, c2, c3⟩ := saveM w
  obtain ⟨w2, d1, d2, d3⟩ := goM hs (n := n) (by omega) (VM_sv hM c3) ho (SqM_sv hqM c3) (by omega)
  exact ⟨w1, w2, c1, d1, d2, SV_mfr c2 d3⟩
theorem Core_go {k n : Nat} {T : zT} {sqs : Nat → zQ} {uX w : zM} (hc : Core k T sqs uX w) (hn : n ≤ 60) : OkT k (goT sqs n T) := OkT_go n T hc.2.2.1 (by have := hc.2.2.2.1; omega)
theorem sub_off {p : Int32} {c j : Nat} (h : p - nI c = nI j) : p = nI (j + c) := by
  rw [← nI_add, ← h, Int32.sub_add_cancel]
theorem in_off {p : Int32} {c n : Nat} (hc : c + n + 1 < 2147483648) (h : nI (c + 1) ≤ p ∧ p ≤ nI (c + n)) : ∃ j, j < n ∧ p = nI (j + (c + 1)) := by
  obtain ⟨h1, h2⟩ := h
  have h0 : ¬ p < 0 := fun q => by
    rw [Int32.lt_iff_toInt_lt] at q
    rw [Int32.le_iff_toInt_le, nI_toInt (by omega)] at h1
    have e0 : (0 : Int32).toInt = 0 := by decide
    omega
  obtain ⟨x, hx, rfl⟩ := nI_of h0
  have h3 := (nI_leI hx (by omega)).mp h2
  have h4 : c + 1 ≤ x := (nI_leI (by omega) hx).mp h1
  exact ⟨x - (c + 1), by omega, by rw [Nat.sub_add_cancel h4]⟩
theorem on_ask {k : Nat} {T : zT} {sqs : Nat → zQ} {uX w : zM} (hc : Core k T sqs uX w) (p1 p2 : Int32) : Ask (f_X8_on p1 p2) (f_X9_on p1 p2) uX w := by
  have hcc := hc
  obtain ⟨hX, hM, ho, hmn, hs, hqX, hqM⟩ := hc
  have hn := ho.1
  have hm := ho.2.1
  have e0 : gI w 0 0 = nI (T 0 0) := hM.1
  have e2 : gI w 0 2 = nI (T 0 1) := hM.2.1
  -- what both do once the number is known
  have fin : ∀ (x3 x4 : Int32) (f : zT → Nat), (∀ n, n ≤ 60 → ∀ u', VX 51 u' (goT sqs n T) → OkT k (goT sqs n T) → (if x3 = (0 : Int32) then (if x4 = (0 : Int32) then zb (f_X6_doneBits 51 u') fun y10 u11 => some (y10, u11) else zck (inB (p2 - (20 : Int32)) 4) <| some ((gI u' (51 + 8) (p2 - (20 : Int32)).toNatClampNeg), u')) else zck (inB (p2 - (10 : Int32)) 6) <| some ((gI u' (51 + 3) (p2 - (10 : Int32)).toNatClampNeg), u')) = some (nI (f (goT sqs n T)), u')) → (∀ n, n ≤ 60 → ∀ w', VM 0 0 13 w' (goT sqs n T) → OkT k (goT sqs n T) → (if p2 = (0 : Int32) then zb (f_X9_doneSet w') fun y15 u16 => zb (f_X9_putBack u16) fun _ u18 => some (y15, u18) else (if (20 : Int32) ≤ p2 then zck (inB (p2 - (20 : Int32)) 4) <| zlx (gI w' 7 (p2 - (20 : Int32)).toNatClampNeg) fun v8 => zb (f_X9_putBack w') fun _ u10 => some (v8, u10) else zck (inB (p2 - (10 : Int32)) 6) <| zlx (gI w' 3 (p2 - (10 : Int32)).toNatClampNeg) fun v12 => zb (f_X9_putBack w') fun _ u14 => some (v12, u14))) = zb (f_X9_putBack w') fun _ u18 => some (nI (f (goT sqs n T)), u18)) → Ask (f_X8_on_L40 p1 p2 x3 x4) (f_X9_on_L40 p1 p2) uX w := by
    intro x3 x4 f h1 h2
    rcases nI_in_or (n := 61) (by decide) p1 with ⟨n, hn6, rfl⟩ | hp
    · obtain ⟨u', b1, b2, b3⟩ := behX hcc (n := n) (by omega)
      obtain ⟨w1, w2, d1, d2, d3, d4⟩ := behM hcc (n := n) (by omega)
      obtain ⟨w3, g1, g2⟩ := backM d4
      have hog := Core_go hcc (n := n) (by omega)
      refine ⟨nI (f (goT sqs n T)), u', w3, ?_, ?_, afr_x b3, g2⟩
      · unfold f_X8_on_L40
        rw [show f_X8_isWithin (nI n) 0 60 uX = some (1, uX) from wi_t (a := 0) (b := 60) (by omega) (by decide) _, zb_s, if1, b1, zb_s, show isT 51 = true from rfl, zck_t]
        exact h1 n (by omega) u' b2 hog
      · unfold f_X9_on_L40 f_X9_isMinutes
        rw [show f_X9_in (nI n) 0 60 w = some (1, w) from in_t (a := 0) (b := 60) (by omega) (by decide) _, zb_s, show z01 (1 : Int32) = true from rfl, zck_t, zb_s, if1, d1, zb_s, d2, zb_s, h2 n (by omega) w2 d3 hog, g1, zb_s]
    · refine Ask_r (-2) ?_ ?_
      · unfold f_X8_on_L40
        rw [show f_X8_isWithin p1 0 60 uX = some (0, uX) from wi_f (n := 60) (by decide) hp _, zb_s, if0]
      · unfold f_X9_on_L40 f_X9_isMinutes
        rw [show f_X9_in p1 0 60 w = some (0, w) from in_f (n := 60) (by decide) hp _, zb_s, show z01 (0 : Int32) = true from rfl, zck_t, zb_s, if0]
  have hgo0 : ∀ n c i, c ≠ 3 → c ≠ 8 → ¬ (c = 0 ∧ i = 3) → goT sqs n T c i = T c i := fun n c i => goT_same sqs n T c i
  rcases nI_in_or (n := T 0 0) (by omega) (p2 - (10 : Int32)) with ⟨j, hj, hpj⟩ | hno
  · have hp2 : p2 = nI (j + 10) := sub_off hpj
    have hw : f_X6_hasWork 2 (p2 - 20) uX = some (nI 0, uX) := hasWX_f hX (Or.inl (by
      rw [hp2]
      have hj6 : j < 6 := by omega
      exact (by decide : ∀ j, j < 6 → (nI (j + 10) - 20 : Int32) < 0) j hj6))
    have a := fin (nI 1) (nI 0) (fun S => S 3 j) (fun n hn u' hv hk => by
      have hj' : j < goT sqs n T 0 0 := by rw [hgo0 n 0 0 (by decide) (by decide) (by decide)]; exact hj
      rw [if_neg (by decide), hpj, inB_n (show j < 6 by omega) (by decide), zck_t, nI_cl (n := j) (by omega), (hv.2.2.2.2.2.1 j hj').2.2.1]) (fun n hn w' hv hk => by
      have hj' : j < goT sqs n T 0 0 := by rw [hgo0 n 0 0 (by decide) (by decide) (by decide)]; exact hj
      have e3 : gI w' 3 j = nI (goT sqs n T 3 j) := (hv.2.2.2.2.2.1 j hj').2.2
      rw [if_neg (show ¬ p2 = (0 : Int32) by rw [hp2]; exact nI_ne0 (by omega) (by omega)), if_neg (show ¬ (20 : Int32) ≤ p2 by rw [hp2]; exact nI_ge (b := 20) (by omega) (by decide)), hpj, inB_n (show j < 6 by omega) (by decide), zck_t, nI_cl (n := j) (by omega), e3, zlx_s])
    have hz : ¬ p2 = (0 : Int32) := by rw [hp2]; exact nI_ne0 (by omega) (by omega)
    obtain ⟨r, u', w', r1, r2, r3, r4⟩ := a
    refine ⟨r, u', w', ?_, ?_, r3, r4⟩
    · unfold f_X8_on
      rw [hpj, hasX_t hX ho hj, zb_s, hw, zb_s, if_neg hz, if_neg (by decide)]
      exact r1
    · unfold f_X9_on
      rw [if_neg hz, e0, show (9 : Int32) = nI 9 from rfl, nI_add, hp2, show (10 : Int32) = nI 10 from rfl, in_t (by omega) (by omega), zb_s, if1, ← hp2]
      exact r2
  · have hin1 : f_X9_in p2 10 (nI (9 + T 0 0)) w = some (0, w) := by
      rw [f_in, decide_eq_false]
      · rfl
      · intro q
        obtain ⟨j, hj, hpj⟩ := in_off (c := 9) (n := T 0 0) (by omega) q
        have : p2 - (10 : Int32) = nI j := by rw [hpj, show (10 : Int32) = nI 10 from rfl, pk_sub (by omega), Nat.add_sub_cancel]
        rw [this] at hno
        rcases hno with h | h
        · exact nI_pos (by omega) h
        · exact nI_ge hj (by omega) h
    have hnX := hasX_f hX hno
    rcases nI_in_or (n := T 0 1) (by omega) (p2 - (20 : Int32)) with ⟨j, hj, hpj⟩ | hnw
    · have hp2 : p2 = nI (j + 20) := sub_off hpj
      have a := fin (nI 0) (nI 1) (fun S => S 8 j) (fun n hn u' hv hk => by
        have hj' : j < goT sqs n T 0 1 := by rw [hgo0 n 0 1 (by decide) (by decide) (by decide)]; exact hj
        rw [if_pos (by decide), if_neg (by decide), hpj, inB_n (show j < 4 by omega) (by decide), zck_t, nI_cl (n := j) (by omega), (hv.2.2.2.2.2.2.2 j hj').2.2]) (fun n hn w' hv hk => by
        have hj' : j < goT sqs n T 0 1 := by rw [hgo0 n 0 1 (by decide) (by decide) (by decide)]; exact hj
        have e7 : gI w' 7 j = nI (goT sqs n T 8 j) := (hv.2.2.2.2.2.2.2.1 j hj').2.2
        rw [if_neg (show ¬ p2 = (0 : Int32) by rw [hp2]; exact nI_ne0 (by omega) (by omega)), if_pos (show (20 : Int32) ≤ p2 by rw [hp2]; exact nI_le (a := 20) (by omega) (by omega)), hpj, inB_n (show j < 4 by omega) (by decide), zck_t, nI_cl (n := j) (by omega), e7, zlx_s])
      have hz : ¬ p2 = (0 : Int32) := by rw [hp2]; exact nI_ne0 (by omega) (by omega)
      obtain ⟨r, u', w', r1, r2, r3, r4⟩ := a
      refine ⟨r, u', w', ?_, ?_, r3, r4⟩
      · unfold f_X8_on
        rw [hnX, zb_s, hpj, hasWX_t hX ho hj, zb_s, if_neg hz, if_pos (by decide), if_neg (by decide)]
        exact r1
      · unfold f_X9_on
        rw [if_neg hz, e0, show (9 : Int32) = nI 9 from rfl, nI_add, hin1, zb_s, if0, e2, show (19 : Int32) = nI 19 from rfl, nI_add, hp2, show (20 : Int32) = nI 20 from rfl, in_t (by omega) (by omega), zb_s, if1, ← hp2]
        exact r2
    · have hin2 : f_X9_in p2 20 (nI (19 + T 0 1)) w = some (0, w) := by
        rw [f_in, decide_eq_false]
        · rfl
        · intro q
          obtain ⟨j, hj, hpj⟩ := in_off (c := 19) (n := T 0 1) (by omega) q
          have : p2 - (20 : Int32) = nI j := by rw [hpj, show (20 : Int32) = nI 20 from rfl, pk_sub (by omega), Nat.add_sub_cancel]
          rw [this] at hnw
          rcases hnw with h | h
          · exact nI_pos (by omega) h
          · exact nI_ge hj (by omega) h
      have hwX := hasWX_f hX hnw
      by_cases hz : p2 = (0 : Int32)
      · have a := fin (nI 0) (nI 0) dnT (fun n hn u' hv hk => by
          rw [if_pos (by decide), if_pos (by decide), dnX hv hk, zb_s]) (fun n hn w' hv hk => by
          rw [if_pos hz, dnM hv hk, zb_s])
        obtain ⟨r, u', w', r1, r2, r3, r4⟩ := a
        refine ⟨r, u', w', ?_, ?_, r3, r4⟩
        · unfold f_X8_on
          rw [hnX, zb_s, hwX, zb_s, if_pos hz]
          exact r1
        · unfold f_X9_on
          rw [if_pos hz]
          exact r2
      · refine Ask_r (-1) ?_ ?_
        · unfold f_X8_on
          rw [hnX, zb_s, hwX, zb_s, if_neg hz, if_pos (by decide), if_pos (by decide)]
        · unfold f_X9_on
          rw [if_neg hz, e0, show (9 : Int32) = nI 9 from rfl, nI_add, hin1, zb_s, if0, e2, show (19 : Int32) = nI 19 from rfl, nI_add, hin2, zb_s, if0]
/-! lowest terms -/
theorem ltX {a b part : Nat} (ha : a < 1000) (hb0 : 0 < b) (hb : b ≤ 6) (hp : part ≤ 1) (u : zM) : f_X8_lowestTerms (nI a) (nI b) (nI part) u = some ((nI ((if part = 0 then a else b) / Nat.gcd a b)).toInt64, u) := by
  have hg0 : 0 < Nat.gcd a b := Nat.gcd_pos_of_pos_right a hb0
  have hgb : Nat.gcd a b ≤ b := Nat.le_of_dvd hb0 (Nat.gcd_dvd_right a b)
  have h43 : f_X8_lowestTerms_L43 (nI a) (nI b) (nI part) (nI (Nat.gcd a b)) u = some ((nI ((if part = 0 then a else b) / Nat.gcd a b)).toInt64, u) := by
    unfold f_X8_lowestTerms_L43
    have hn : ¬ nI (Nat.gcd a b) = (0 : Int32) := nI_ne0 hg0 (by omega)
    have hc : part = 0 ∨ part = 1 := by omega
    rcases hc with rfl | rfl
    · rw [if_pos (by decide), if_neg hn, pk_div (by omega) hg0 (by omega), if_pos rfl]
    · rw [if_neg (by decide), if_neg hn, pk_div (by omega) hg0 (by omega), if_neg (by decide)]
  have hl : ∀ c fn, Nat.gcd a b ≤ c → c ≤ b → c < fn → f_X8_lowestTerms_L20 (nI a) (nI b) (nI part) fn (nI c) u = f_X8_lowestTerms_L43 (nI a) (nI b) (nI part) (nI (Nat.gcd a b)) u := by
    intro c
    induction c with
    | zero => intro fn h1 _ _; omega
    | succ c ih =>
      intro fn h1 h2 hf
      obtain ⟨fn, rfl⟩ : ∃ g, fn = g + 1 := ⟨fn - 1, by omega⟩
      show f_X8_lowestTerms_L20_b _ _ _ _ _ _ = _
      unfold f_X8_lowestTerms_L20_b
      by_cases c1 : c + 1 ≤ 1
      · rw [if_pos (show nI (c + 1) ≤ (1 : Int32) from nI_le (b := 1) c1 (by decide)), show Nat.gcd a b = c + 1 by omega]
      · have hz1 : zrem (nI a) (nI (c + 1)) = nI (a % (c + 1)) := zrem_n (by omega) (by omega) (by omega)
        have hz2 : zrem (nI b) (nI (c + 1)) = nI (b % (c + 1)) := zrem_n (by omega) (by omega) (by omega)
        have hm1 : a % (c + 1) < c + 1 := Nat.mod_lt _ (by omega)
        have hm2 : b % (c + 1) < c + 1 := Nat.mod_lt _ (by omega)
        have hn : ¬ nI (c + 1) = (0 : Int32) := nI_ne0 (by omega) (by omega)
        rw [if_neg (show ¬ nI (c + 1) ≤ (1 : Int32) from nI_ge (b := c + 1) (a := 1) (by omega) (by omega)), if_neg hn, hz1, hz2, pk_m1]
        by_cases d1 : a % (c + 1) = 0
        · rw [if_pos (show nI (a % (c + 1)) = (0 : Int32) by rw [d1]; rfl), if_neg hn]
          by_cases d2 : b % (c + 1) = 0
          · rw [if_pos (show nI (b % (c + 1)) = (0 : Int32) by rw [d2]; rfl)]
            have hd : c + 1 ∣ Nat.gcd a b := Nat.dvd_gcd (Nat.dvd_of_mod_eq_zero d1) (Nat.dvd_of_mod_eq_zero d2)
            have := Nat.le_of_dvd hg0 hd
            rw [show Nat.gcd a b = c + 1 by omega]
          · have hne : Nat.gcd a b ≠ c + 1 := fun q => d2 (Nat.mod_eq_zero_of_dvd (q ▸ Nat.gcd_dvd_right a b))
            rw [if_neg (show ¬ nI (b % (c + 1)) = (0 : Int32) from nI_ne0 (by omega) (by omega))]
            exact ih fn (by omega) (by omega) (by omega)
        · have hne : Nat.gcd a b ≠ c + 1 := fun q => d1 (Nat.mod_eq_zero_of_dvd (q ▸ Nat.gcd_dvd_left a b))
          rw [if_neg (show ¬ nI (a % (c + 1)) = (0 : Int32) from nI_ne0 (by omega) (by omega))]
          exact ih fn (by omega) (by omega) (by omega)
  unfold f_X8_lowestTerms
  rw [if_neg (show ¬ nI b < (1 : Int32) from nI_nlt (b := 1) hb0 (by omega)), show f_X8_isWithin (nI part) 0 1 u = some (1, u) from wi_t (a := 0) (b := 1) (by omega) (by decide) _, zb_s, if1, hl b 400 hgb (Nat.le_refl b) (by omega), h43]
theorem ltX_f (a b : Int32) (part : Int32) (u : zM) (h : b < 1 ∨ (part < 0 ∨ nI 2 ≤ part)) : f_X8_lowestTerms a b part u = some ((-9223372036854775808 : Int64), u) := by
  unfold f_X8_lowestTerms
  by_cases c : b < 1
  · rw [if_pos c]
  · rcases h with h | h
    · exact absurd h c
    · rw [if_neg c, show f_X8_isWithin part 0 1 u = some (0, u) from wi_f (n := 1) (by decide) h _, zb_s, if0]
theorem ltM {a b part : Nat} (ha : a < 1000) (hb0 : 0 < b) (hb : b ≤ 6) (hp : part ≤ 1) (u : zM) : f_X9_lowest (nI a) (nI b) (nI part) u = some ((nI ((if part = 0 then a else b) / Nat.gcd a b)).toInt64, u) := by
  have hg0 : 0 < Nat.gcd a b := Nat.gcd_pos_of_pos_right a hb0
  have hgb : Nat.gcd a b ≤ b := Nat.le_of_dvd hb0 (Nat.gcd_dvd_right a b)
  have hl : ∀ y, ∀ x fn, x < 1000 → y < 1000 → y < fn → f_X9_divisor_L5 (nI a) (nI b) fn (nI x) (nI y) u = some (nI (Nat.gcd x y), u) := by
    intro y
    induction y using Nat.strongRecOn with
    | _ y ih =>
      intro x fn hx hy hf
      obtain ⟨fn, rfl⟩ : ∃ g, fn = g + 1 := ⟨fn - 1, by omega⟩
      show f_X9_divisor_L5_b _ _ _ _ _ _ = _
      unfold f_X9_divisor_L5_b
      by_cases c : y = 0
      · subst c
        rw [if_pos (by decide), Nat.gcd_zero_right]
      · have hn : ¬ nI y = (0 : Int32) := nI_ne0 (by omega) (by omega)
        have hm := Nat.mod_lt x (show 0 < y by omega)
        rw [if_neg hn, if_neg hn, zrem_n (by omega) (by omega) (by omega), zlx_s, ih (x % y) hm y fn (by omega) (by omega) (by omega), Nat.gcd_comm x y, Nat.gcd_rec y x, Nat.gcd_comm]
  unfold f_X9_lowest f_X9_divisor
  rw [hl b a 400 ha (by omega) (by omega), zb_s]
  have hn : ¬ nI (Nat.gcd a b) = (0 : Int32) := nI_ne0 hg0 (by omega)
  have hc : part = 0 ∨ part = 1 := by omega
  rcases hc with rfl | rfl
  · rw [if_pos (by decide), if_neg hn, pk_div (by omega) hg0 (by omega), if_pos rfl]
  · rw [if_neg (by decide), if_neg hn, pk_div (by omega) hg0 (by omega), if_neg (by decide)]
theorem mean_ask {k : Nat} {T : zT} {sqs : Nat → zQ} {uX w : zM} (hc : Core k T sqs uX w) (p1 p2 : Int32) : Ask (f_X8_mean p1 p2) (f_X9_mean p1 p2) uX w := by
  have hcc := hc
  obtain ⟨hX, hM, ho, hmn, hs, hqX, hqM⟩ := hc
  have hn := ho.1
  rcases nI_in_or (n := 61) (by decide) p1 with ⟨n, hn6, rfl⟩ | hp
  · obtain ⟨u', b1, b2, b3⟩ := behX hcc (n := n) (by omega)
    have hog := Core_go hcc (n := n) (by omega)
    have hle := sumT_le hog
    have eX : gI u' 2 0 = nI (T 0 0) := (b3.1 _ _ (by omega)).trans hX.1
    have hw := wi_t (j := n) (a := 0) (b := 60) (by omega) (by decide) uX
    have hiw := in_t (j := n) (a := 0) (b := 60) (by omega) (by decide) w
    rcases nI_in_or (n := 2) (by decide) p2 with ⟨c, hcc2, rfl⟩ | hp2
    · by_cases hz : T 0 0 = 0
      · refine ⟨-9223372036854775808, u', w, ?_, ?_, afr_x b3, rfr_rf w⟩
        · unfold f_X8_mean
          rw [show f_X8_isWithin (nI n) 0 60 uX = some (1, uX) from hw, zb_s, if1, b1, zb_s, show isT 51 = true from rfl, zck_t, sumX b2 hog, zb_s, eX, ltX_f _ _ _ _ (Or.inl (by rw [hz]; decide)), zb_s]
        · unfold f_X9_mean f_X9_isMinutes
          rw [show f_X9_in (nI n) 0 60 w = some (1, w) from hiw, zb_s, show z01 (1 : Int32) = true from rfl, zck_t, zb_s, if1, show f_X9_in (nI c) 0 1 w = some (1, w) from in_t (a := 0) (b := 1) (by omega) (by decide) _, zb_s, if1, show gI w 0 0 = nI (T 0 0) from hM.1, hz, if_pos (by decide)]
      · obtain ⟨w1, w2, d1, d2, d3, d4⟩ := behM hcc (n := n) (by omega)
        obtain ⟨w3, g1, g2⟩ := backM d4
        have eM : gI w3 0 0 = nI (T 0 0) := (g2.1 _ _ (by omega) (by omega) (by omega) (by omega)).trans hM.1
        refine ⟨(nI ((if c = 0 then sumT (goT sqs n T) else T 0 0) / Nat.gcd (sumT (goT sqs n T)) (T 0 0))).toInt64, u', w3, ?_, ?_, afr_x b3, g2⟩
        · unfold f_X8_mean
          rw [show f_X8_isWithin (nI n) 0 60 uX = some (1, uX) from hw, zb_s, if1, b1, zb_s, show isT 51 = true from rfl, zck_t, sumX b2 hog, zb_s, eX, ltX (by omega) (by omega) hn (by omega), zb_s]
        · unfold f_X9_mean f_X9_isMinutes
          rw [show f_X9_in (nI n) 0 60 w = some (1, w) from hiw, zb_s, show z01 (1 : Int32) = true from rfl, zck_t, zb_s, if1, show f_X9_in (nI c) 0 1 w = some (1, w) from in_t (a := 0) (b := 1) (by omega) (by decide) _, zb_s, if1, show gI w 0 0 = nI (T 0 0) from hM.1, if_neg (show ¬ nI (T 0 0) = (0 : Int32) from nI_ne0 (by omega) (by omega)), d1, zb_s, d2, zb_s, sumM d3 hog, zb_s, g1, zb_s, eM, ltM (by omega) (by omega) hn (by omega), zb_s]
    · refine ⟨-9223372036854775808, u', w, ?_, ?_, afr_x b3, rfr_rf w⟩
      · unfold f_X8_mean
        rw [show f_X8_isWithin (nI n) 0 60 uX = some (1, uX) from hw, zb_s, if1, b1, zb_s, show isT 51 = true from rfl, zck_t, sumX b2 hog, zb_s, eX, ltX_f _ _ _ _ (Or.inr hp2), zb_s]
      · unfold f_X9_mean f_X9_isMinutes
        rw [show f_X9_in (nI n) 0 60 w = some (1, w) from hiw, zb_s, show z01 (1 : Int32) = true from rfl, zck_t, zb_s, if1, show f_X9_in p2 0 1 w = some (0, w) from in_f (n := 1) (by decide) hp2 _, zb_s, if0]
  · refine Ask_r (-9223372036854775808) ?_ ?_
    · unfold f_X8_mean
      rw [show f_X8_isWithin p1 0 60 uX = some (0, uX) from wi_f (n := 60) (by decide) hp _, zb_s, if0]
    · unfold f_X9_mean f_X9_isMinutes
      rw [show f_X9_in p1 0 60 w = some (0, w) from in_f (n := 60) (by decide) hp _, zb_s, show z01 (0 : Int32) = true from rfl, zck_t, zb_s, if0]
