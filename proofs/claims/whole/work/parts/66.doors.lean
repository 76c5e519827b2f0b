/-! ===== PURE: the doors that change the town ===== -/
def dfr (w w' : zM) : Prop := (∀ a i, 8 ≤ a → ¬ (17 ≤ a ∧ a ≤ 22) → gI w' a i = gI w a i) ∧ (∀ i, 5 ≤ i → gI w' 0 i = gI w 0 i) ∧ (∀ a i, gJ w' a i = gJ w a i) ∧ ∀ a i, gO w' a i = gO w a i
theorem dfr_rf (w : zM) : dfr w w := ⟨fun _ _ _ _ => rfl, fun _ _ => rfl, fun _ _ => rfl, fun _ _ => rfl⟩
theorem dfr_s {w w' : zM} {b j : Nat} {x : Int32} (h : dfr w w') (hb : (b = 0 ∧ j ≤ 4) ∨ (1 ≤ b ∧ b ≤ 7)) : dfr w (sI w' b j x) := ⟨fun a i h1 h2 => by rw [gI_sI, if_neg (by omega)]; exact h.1 a i h1 h2, fun i hi => by rw [gI_sI, if_neg (by omega)]; exact h.2.1 i hi, h.2.2.1, h.2.2.2⟩
theorem dfr_m {w w' : zM} (h : mfr w w') : dfr w w' := ⟨fun a i h1 h2 => h.1 a i (by omega) (by omega) (by omega) (by omega) (by omega), fun i hi => h.1 0 i (by omega) (by omega) (by omega) (by omega) (by omega), h.2.1, h.2.2⟩
theorem xfr_s {t : Nat} {u u' : zM} {b j : Nat} {x : Int32} (h : xfr t u u') (hb : t ≤ b ∧ b < t + 11) : xfr t u (sI u' b j x) := ⟨fun a i q => by rw [gI_sI, if_neg (by omega)]; exact h.1 a i q, h.2.1, h.2.2⟩
theorem VM_putG {c' c p x : Nat} {w : zM} {T : zT} (h : VM 0 0 13 w T) (hcc : (c' = c ∧ 1 ≤ c ∧ c ≤ 3) ∨ (c = c' + 1 ∧ 4 ≤ c' ∧ c' ≤ 7)) : VM 0 0 13 (sI w c' p (nI x)) (tS T c p x) := by
  obtain ⟨a1, a2, a3, a4, a5, a6, a7, a8, A, hA, a9, a10⟩ := h
  have key : ∀ b' b i, ((b' = b ∧ 1 ≤ b ∧ b ≤ 3) ∨ (b = b' + 1 ∧ 4 ≤ b' ∧ b' ≤ 7)) → gI w (0 + b') i = nI (T b i) → gI (sI w c' p (nI x)) (0 + b') i = nI (tS T c p x b i) := by
    intro b' b i hb hh
    rw [gI_sI, tS_ap]
    by_cases q : b = c ∧ i = p
    · rw [if_pos (show 0 + b' = c' ∧ i = p by omega), if_pos q]
    · rw [if_neg (show ¬ (0 + b' = c' ∧ i = p) by omega), if_neg q]
      exact hh
  have k0 : ∀ i, tS T c p x 0 i = T 0 i := fun i => by rw [tS_ap, if_neg (by omega)]
  have k4 : ∀ i, tS T c p x 4 i = T 4 i := fun i => by rw [tS_ap, if_neg (by omega)]
  have kt : ∀ i, gI (sI w c' p (nI x)) 0 i = gI w 0 i := fun i => by rw [gI_sI, if_neg (by omega)]
  unfold VM
  rw [k0, k0, k0, k0, k0, kt, kt, kt, kt, kt, kt]
  refine ⟨a1, a2, a3, a4, a5, fun i hi => ?_, fun j hj => key 4 5 j (by omega) (a7 j hj), fun i hi => ?_, A, hA, a9, fun i hi => ?_⟩
  · obtain ⟨b1, b2, b3⟩ := a6 i hi
    exact ⟨key 1 1 i (by omega) b1, key 2 2 i (by omega) b2, key 3 3 i (by omega) b3⟩
  · obtain ⟨b1, b2, b3⟩ := a8 i hi
    exact ⟨key 5 6 i (by omega) b1, key 6 7 i (by omega) b2, key 7 8 i (by omega) b3⟩
  · rw [k4]
    exact a10 i hi
/-- both answer the same, and the town goes from T to another -/
def Door (k : Nat) (T : zT) (sqs : Nat → zQ) (fx fm : zM → Option (Int32 × zM)) (uX w : zM) : Prop := ∃ r uX' w' T', fx uX = some (r, uX') ∧ fm w = some (r, w') ∧ Core k T' sqs uX' w' ∧ T 0 0 ≤ T' 0 0 ∧ T 0 1 ≤ T' 0 1 ∧ xfr 2 uX uX' ∧ dfr w w'
theorem Door_0 {k : Nat} {T : zT} {sqs : Nat → zQ} {fx fm : zM → Option (Int32 × zM)} {uX w : zM} (hc : Core k T sqs uX w) (r : Int32) (h1 : fx uX = some (r, uX)) (h2 : fm w = some (r, w)) : Door k T sqs fx fm uX w := ⟨r, uX, w, T, h1, h2, hc, Nat.le_refl _, Nat.le_refl _, xfr_rf _ _, dfr_rf _⟩
theorem SqX_x {k : Nat} {u u' : zM} {sqs : Nat → zQ} (h : SqX k u sqs) (g : xfr 2 u u') : SqX k u' sqs := SqX_cg h (fun a i ha => g.1 _ _ (by omega))
theorem SqM_d {k : Nat} {w w' : zM} {sqs : Nat → zQ} (h : SqM k w sqs) (g : dfr w w') : SqM k w' sqs := SqM_cg (fun a i h1 h2 => g.1 _ _ (by omega) (by omega)) h
theorem heat_door {k : Nat} {T : zT} {sqs : Nat → zQ} {uX w : zM} (hc : Core k T sqs uX w) (p1 p2 : Int32) : Door k T sqs (f_X8_heat p1 p2) (f_X9_heat p1 p2) uX w := by
  have hcc := hc
  obtain ⟨cX, cM, ho, hmn, hs, hqX, hqM⟩ := hc
  have hn := ho.1
  rcases nI_in_or (n := T 0 0) (by omega) p1 with ⟨i, hi, rfl⟩ | hp
  · rcases nI_in_or (n := 100) (by decide) p2 with ⟨x, hx, rfl⟩ | hp2
    · have e5 : gI uX 5 i = nI (T 3 i) := (cX.2.2.2.2.2.1 i hi).2.2.1
      have e3 : gI w 3 i = nI (T 3 i) := (cM.2.2.2.2.2.1 i hi).2.2
      have hx1 : xfr 2 uX (sI uX 5 i (nI x)) := xfr_s (xfr_rf _ _) (by omega)
      have hd1 : dfr w (sI w 3 i (nI x)) := dfr_s (dfr_rf _) (by omega)
      refine ⟨nI (T 3 i), sI uX 5 i (nI x), sI w 3 i (nI x), tS T 3 i x, ?_, ?_, ⟨VX_put (c := 3) cX (by decide) (by decide), VM_put1 cM (by decide) (by decide), OkT_put3 ho (by omega), hmn, hs, SqX_x hqX hx1, SqM_d hqM hd1⟩, Nat.le_refl _, Nat.le_refl _, hx1, hd1⟩
      · unfold f_X8_heat
        rw [hasX_t cX ho hi, zb_s, if_neg (by decide), show f_X8_isWithin (nI x) 0 99 uX = some (1, uX) from wi_t (a := 0) (b := 99) (by omega) (by decide) _, zb_s, if1, inB_n (show i < 6 by omega) (by decide), zck_t, nI_cl (n := i) (by omega), e5, zlx_s, zck_t, zlet_s]
      · unfold f_X9_heat f_X9_isHeat
        rw [isM_t cM ho hi, zb_s, if_neg (by decide), show f_X9_in (nI x) 0 99 w = some (1, w) from in_t (a := 0) (b := 99) (by omega) (by decide) _, zb_s, show z01 (1 : Int32) = true from rfl, zck_t, zb_s, if1, inB_n (show i < 6 by omega) (by decide), zck_t, nI_cl (n := i) (by omega), e3, zlx_s, zck_t, zlet_s]
    · refine Door_0 hcc (-2) ?_ ?_
      · unfold f_X8_heat
        rw [hasX_t cX ho hi, zb_s, if_neg (by decide), show f_X8_isWithin p2 0 99 uX = some (0, uX) from wi_f (n := 99) (by decide) hp2 _, zb_s, if0]
      · unfold f_X9_heat f_X9_isHeat
        rw [isM_t cM ho hi, zb_s, if_neg (by decide), show f_X9_in p2 0 99 w = some (0, w) from in_f (n := 99) (by decide) hp2 _, zb_s, show z01 (0 : Int32) = true from rfl, zck_t, zb_s, if0]
  · refine Door_0 hcc (-1) ?_ ?_
    · unfold f_X8_heat
      rw [hasX_f cX hp, zb_s, if_pos (by decide)]
    · unfold f_X9_heat
      rw [isM_f cM ho hp, zb_s, if_pos (by decide)]
theorem away_door {k : Nat} {T : zT} {sqs : Nat → zQ} {uX w : zM} (hc : Core k T sqs uX w) (p1 p2 : Int32) (h2 : p2 = 0 ∨ p2 = 1) : Door k T sqs (f_X8_away p1 p2) (f_X9_away p1 p2) uX w := by
  have hcc := hc
  obtain ⟨cX, cM, ho, hmn, hs, hqX, hqM⟩ := hc
  have hn := ho.1
  rcases nI_in_or (n := T 0 0) (by omega) p1 with ⟨i, hi, rfl⟩ | hp
  · obtain ⟨b, hb, rfl⟩ : ∃ b : Nat, b ≤ 1 ∧ p2 = nI b := h2.elim (fun h => ⟨0, by omega, h⟩) (fun h => ⟨1, by omega, h⟩)
    have e6 : gI uX 6 i = nI (T 4 i) := (cX.2.2.2.2.2.1 i hi).2.2.2
    have o4 := (ho.2.2.2.2.2.1 i hi).2.2.2
    obtain ⟨x, g1, g2⟩ := goesM cM ho hi hb
    have hx1 : xfr 2 uX (sI uX 6 i (nI b)) := xfr_s (xfr_rf _ _) (by omega)
    have hd1 : dfr w (sI w 0 1 x) := dfr_s (dfr_rf _) (by omega)
    refine ⟨nI (T 4 i), sI uX 6 i (nI b), sI w 0 1 x, tS T 4 i b, ?_, ?_, ⟨VX_put (c := 4) cX (by decide) (by decide), g2, OkT_put4 ho hb, hmn, hs, SqX_x hqX hx1, SqM_d hqM hd1⟩, Nat.le_refl _, Nat.le_refl _, hx1, hd1⟩
    · unfold f_X8_away
      rw [hasX_t cX ho hi, zb_s, if_neg (by decide), inB_n (show i < 6 by omega) (by decide), zck_t, nI_cl (n := i) (by omega), e6, asN_n o4, zb_s, zck_t, zlet_s, nar01 b hb]
    · unfold f_X9_away
      rw [isM_t cM ho hi, zb_s, if_neg (by decide), hasM cM ho hi, zb_s, g1, zb_s, zb_s]
      have hc : T 4 i = 0 ∨ T 4 i = 1 := by omega
      rcases hc with c | c <;> rw [c] <;> rfl
  · refine Door_0 hcc (-1) ?_ ?_
    · unfold f_X8_away
      rw [hasX_f cX hp, zb_s, if_pos (by decide)]
    · unfold f_X9_away
      rw [isM_f cM ho hp, zb_s, if_pos (by decide)]
theorem anvil_door {k : Nat} {T : zT} {sqs : Nat → zQ} {uX w : zM} (hc : Core k T sqs uX w) (p1 : Int32) : Door k T sqs (f_X8_anvil p1) (f_X9_anvil p1) uX w := by
  have hcc := hc
  obtain ⟨cX, cM, ho, hmn, hs, hqX, hqM⟩ := hc
  have hm := ho.2.1
  have ha := ho.2.2.1
  have fin : ∀ a, a ≤ T 0 1 → p1 = nI a - nI 1 → ∃ uX' w' T', f_X8_anvil_L18 p1 uX = some (mAn (T 0 2), uX') ∧ f_X9_anvil_L15 p1 w = some (mAn (T 0 2), w') ∧ Core k T' sqs uX' w' ∧ T 0 0 ≤ T' 0 0 ∧ T 0 1 ≤ T' 0 1 ∧ xfr 2 uX uX' ∧ dfr w w' := by
    intro a hle hp
    have hx1 : xfr 2 uX (sI uX 2 10 (nI a - nI 1)) := xfr_s (xfr_rf _ _) (by omega)
    have hd1 : dfr w (sI w 0 3 (mAn a)) := dfr_s (dfr_rf _) (by omega)
    refine ⟨sI uX 2 10 (nI a - nI 1), sI w 0 3 (mAn a), tS T 0 2 a, ?_, ?_, ⟨VX_anv cX, VM_anv cM, OkT_anv ho hle, hmn, hs, SqX_x hqX hx1, SqM_d hqM hd1⟩, Nat.le_refl _, Nat.le_refl _, hx1, hd1⟩
    · unfold f_X8_anvil_L18
      rw [cX.2.2.1, orL (by omega), zb_s, zlet_s, hp]
    · unfold f_X9_anvil_L15
      rw [show gI w 0 3 = mAn (T 0 2) from cM.2.2.1, zlx_s, hp]
      by_cases c : a = 0
      · subst c
        rfl
      · rw [pk_sub (show 1 ≤ a by omega), if_pos (nI_pos' (by omega)), zlet_s, mAn_s a (by omega)]
  by_cases h1 : p1 = -1
  · obtain ⟨uX', w', T', q1, q2, q3⟩ := fin 0 (Nat.zero_le _) (by rw [h1]; decide)
    refine ⟨mAn (T 0 2), uX', w', T', ?_, ?_, q3⟩
    · unfold f_X8_anvil
      rw [if_pos h1]
      exact q1
    · unfold f_X9_anvil
      rw [if_pos h1]
      exact q2
  · rcases nI_in_or (n := T 0 1) (by omega) p1 with ⟨i, hi, rfl⟩ | hp
    · obtain ⟨uX', w', T', q1, q2, q3⟩ := fin (i + 1) hi (nI_pred i).symm
      refine ⟨mAn (T 0 2), uX', w', T', ?_, ?_, q3⟩
      · unfold f_X8_anvil
        rw [if_neg h1, hasWX_t cX ho hi, zb_s, if_neg (by decide)]
        exact q1
      · unfold f_X9_anvil
        rw [if_neg h1, isWM_t cM ho hi, zb_s, if_neg (by decide)]
        exact q2
    · refine Door_0 hcc (-1) ?_ ?_
      · unfold f_X8_anvil
        rw [if_neg h1, hasWX_f cX hp, zb_s, if_pos (by decide)]
      · unfold f_X9_anvil
        rw [if_neg h1, isWM_f cM ho hp, zb_s, if_pos (by decide)]
theorem OkT_put5 {k p x : Nat} {T : zT} (h : OkT k T) (hx : x ≤ 9) : OkT k (tS T 5 p x) := by
  obtain ⟨a1, a2, a3, a4, a5, a6, a7, a8⟩ := h
  refine ⟨a1, a2, a3, a4, a5, a6, fun j hj => ?_, a8⟩
  rw [tS_ap]
  split
  · exact hx
  · exact a7 j hj
theorem row_door {k : Nat} {T : zT} {sqs : Nat → zQ} {uX w : zM} (hc : Core k T sqs uX w) (p1 p2 p3 : Int32) : Door k T sqs (f_X8_row p1 p2 p3) (f_X9_row p1 p2 p3) uX w := by
  have hcc := hc
  obtain ⟨cX, cM, ho, hmn, hs, hqX, hqM⟩ := hc
  have hn := ho.1
  rcases nI_in_or (n := T 0 0) (by omega) p1 with ⟨i, hi, rfl⟩ | hp
  · have e1 : gI uX 3 i = nI (T 1 i) := (cX.2.2.2.2.2.1 i hi).1
    have e1' : gI w 1 i = nI (T 1 i) := (cM.2.2.2.2.2.1 i hi).1
    have hin : inB (nI i) 6 = true := inB_n (by omega) (by decide)
    have hcl : (nI i).toNatClampNeg = i := nI_cl (by omega)
    rcases nI_in_or (n := 4) (by decide) p2 with ⟨c, hc4, rfl⟩ | hp2
    · have e5 : gI uX 7 (4 * i + c) = nI (T 5 (4 * i + c)) := cX.2.2.2.2.2.2.1 _ (by omega)
      have e5' : gI w 4 (4 * i + c) = nI (T 5 (4 * i + c)) := cM.2.2.2.2.2.2.1 _ (by omega)
      have hin4 : inB (nI (4 * i + c)) 24 = true := inB_n (by omega) (by decide)
      have hcl4 : (nI (4 * i + c)).toNatClampNeg = 4 * i + c := nI_cl (by omega)
      rcases nI_in_or (n := 10) (by decide) p3 with ⟨g, hg, rfl⟩ | hp3
      · by_cases h6 : nI (T 1 i) = (6 : Int32)
        · have hx1 : xfr 2 uX (sI uX 7 (4 * i + c) (nI g)) := xfr_s (xfr_rf _ _) (by omega)
          have hd1 : dfr w (sI w 4 (4 * i + c) (nI g)) := dfr_s (dfr_rf _) (by omega)
          refine ⟨nI (T 5 (4 * i + c)), sI uX 7 (4 * i + c) (nI g), sI w 4 (4 * i + c) (nI g), tS T 5 (4 * i + c) g, ?_, ?_, ⟨VX_put (c := 5) cX (by decide) (by decide), VM_putG cM (by omega), OkT_put5 ho (by omega), hmn, hs, SqX_x hqX hx1, SqM_d hqM hd1⟩, Nat.le_refl _, Nat.le_refl _, hx1, hd1⟩
          · unfold f_X8_row
            rw [hasX_t cX ho hi, zb_s, if_neg (by decide), show f_X8_isWithin (nI c) 0 3 uX = some (1, uX) from wi_t (a := 0) (b := 3) (by omega) (by decide) _, zb_s, if1, show f_X8_isWithin (nI g) 0 9 uX = some (1, uX) from wi_t (a := 0) (b := 9) (by omega) (by decide) _, zb_s, if1, hin, zck_t, hcl, e1, if_pos h6, mulc4, zlx_s, hin4, zck_t, hcl4, e5, zlx_s, zck_t, zlet_s]
          · unfold f_X9_row
            rw [isM_t cM ho hi, zb_s, if_neg (by decide), show f_X9_in (nI c) 0 3 w = some (1, w) from in_t (a := 0) (b := 3) (by omega) (by decide) _, zb_s, if1, show f_X9_in (nI g) 0 9 w = some (1, w) from in_t (a := 0) (b := 9) (by omega) (by decide) _, zb_s, if1, hin, zck_t, hcl, e1', if_pos h6, mul4c, hin4, zck_t, hcl4, e5', zlx_s, zck_t, zlet_s]
        · refine Door_0 hcc (-3) ?_ ?_
          · unfold f_X8_row
            rw [hasX_t cX ho hi, zb_s, if_neg (by decide), show f_X8_isWithin (nI c) 0 3 uX = some (1, uX) from wi_t (a := 0) (b := 3) (by omega) (by decide) _, zb_s, if1, show f_X8_isWithin (nI g) 0 9 uX = some (1, uX) from wi_t (a := 0) (b := 9) (by omega) (by decide) _, zb_s, if1, hin, zck_t, hcl, e1, if_neg h6]
          · unfold f_X9_row
            rw [isM_t cM ho hi, zb_s, if_neg (by decide), show f_X9_in (nI c) 0 3 w = some (1, w) from in_t (a := 0) (b := 3) (by omega) (by decide) _, zb_s, if1, show f_X9_in (nI g) 0 9 w = some (1, w) from in_t (a := 0) (b := 9) (by omega) (by decide) _, zb_s, if1, hin, zck_t, hcl, e1', if_neg h6]
      · refine Door_0 hcc (-2) ?_ ?_
        · unfold f_X8_row
          rw [hasX_t cX ho hi, zb_s, if_neg (by decide), show f_X8_isWithin (nI c) 0 3 uX = some (1, uX) from wi_t (a := 0) (b := 3) (by omega) (by decide) _, zb_s, if1, show f_X8_isWithin p3 0 9 uX = some (0, uX) from wi_f (n := 9) (by decide) hp3 _, zb_s, if0]
        · unfold f_X9_row
          rw [isM_t cM ho hi, zb_s, if_neg (by decide), show f_X9_in (nI c) 0 3 w = some (1, w) from in_t (a := 0) (b := 3) (by omega) (by decide) _, zb_s, if1, show f_X9_in p3 0 9 w = some (0, w) from in_f (n := 9) (by decide) hp3 _, zb_s, if0]
    · refine Door_0 hcc (-1) ?_ ?_
      · unfold f_X8_row
        rw [hasX_t cX ho hi, zb_s, if_neg (by decide), show f_X8_isWithin p2 0 3 uX = some (0, uX) from wi_f (n := 3) (by decide) hp2 _, zb_s, if0]
      · unfold f_X9_row
        rw [isM_t cM ho hi, zb_s, if_neg (by decide), show f_X9_in p2 0 3 w = some (0, w) from in_f (n := 3) (by decide) hp2 _, zb_s, if0]
  · refine Door_0 hcc (-1) ?_ ?_
    · unfold f_X8_row
      rw [hasX_f cX hp, zb_s, if_pos (by decide)]
    · unfold f_X9_row
      rw [isM_f cM ho hp, zb_s, if_pos (by decide)]
theorem pass_door {k : Nat} {T : zT} {sqs : Nat → zQ} {uX w : zM} (hc : Core k T sqs uX w) (p1 : Int32) : Door k T sqs (f_X8_pass p1) (f_X9_pass p1) uX w := by
  have hcc := hc
  obtain ⟨cX, cM, ho, hmn, hs, hqX, hqM⟩ := hc
  have e11 : gI uX 2 11 = nI (T 0 3) := cX.2.2.2.1
  have e4 : gI w 0 4 = nI (T 0 3) := cM.2.2.2.1
  rcases nI_in_or (n := 61) (by decide) p1 with ⟨n, hn, rfl⟩ | hp
  · by_cases h9 : T 0 3 + n ≤ 9999
    · obtain ⟨u', a1, a2, a3⟩ := goX hs (by decide) (n := n) (by omega) cX ho hqX (by omega)
      obtain ⟨w', b1, b2, b3⟩ := goM hs (n := n) (by omega) cM ho hqM (by omega)
      have em := goT_min sqs n T
      have e11' : gI u' 2 11 = nI (T 0 3 + n) := by rw [a2.2.2.2.1, em]
      have e4' : gI w' 0 4 = nI (T 0 3 + n) := by rw [show gI w' 0 4 = nI (goT sqs n T 0 3) from b2.2.2.2.1, em]
      refine ⟨nI (T 0 3 + n), u', w', goT sqs n T, ?_, ?_, ⟨a2, b2, OkT_go n T ho (by omega), by rw [em]; exact h9, hs, SqX_x hqX a3, SqM_mfr b3 hqM⟩, Nat.le_of_eq (goT_n sqs n T).symm, Nat.le_of_eq (goT_same sqs n T 0 1 (by decide) (by decide) (by decide)).symm, a3, dfr_m b3⟩
      · unfold f_X8_pass
        rw [show f_X8_isWithin (nI n) 0 60 uX = some (1, uX) from wi_t (a := 0) (b := 60) (by omega) (by decide) _, zb_s, if1, e11, nI_add, if_pos (show nI (T 0 3 + n) ≤ (9999 : Int32) from nI_le (b := 9999) h9 (by decide)), a1, zb_s, e11']
      · unfold f_X9_pass f_X9_isMinutes
        rw [show f_X9_in (nI n) 0 60 w = some (1, w) from in_t (a := 0) (b := 60) (by omega) (by decide) _, zb_s, show z01 (1 : Int32) = true from rfl, zck_t, zb_s, if1, e4, nI_add, if_pos (show nI (T 0 3 + n) ≤ (9999 : Int32) from nI_le (b := 9999) h9 (by decide)), b1, zb_s, e4']
    · refine Door_0 hcc (-3) ?_ ?_
      · unfold f_X8_pass
        rw [show f_X8_isWithin (nI n) 0 60 uX = some (1, uX) from wi_t (a := 0) (b := 60) (by omega) (by decide) _, zb_s, if1, e11, nI_add, if_neg (show ¬ nI (T 0 3 + n) ≤ (9999 : Int32) from nI_ge (a := 9999) (by omega) (by omega))]
      · unfold f_X9_pass f_X9_isMinutes
        rw [show f_X9_in (nI n) 0 60 w = some (1, w) from in_t (a := 0) (b := 60) (by omega) (by decide) _, zb_s, show z01 (1 : Int32) = true from rfl, zck_t, zb_s, if1, e4, nI_add, if_neg (show ¬ nI (T 0 3 + n) ≤ (9999 : Int32) from nI_ge (a := 9999) (by omega) (by omega))]
  · refine Door_0 hcc (-2) ?_ ?_
    · unfold f_X8_pass
      rw [show f_X8_isWithin p1 0 60 uX = some (0, uX) from wi_f (n := 60) (by decide) hp _, zb_s, if0]
    · unfold f_X9_pass f_X9_isMinutes
      rw [show f_X9_in p1 0 60 w = some (0, w) from in_f (n := 60) (by decide) hp _, zb_s, show z01 (0 : Int32) = true from rfl, zck_t, zb_s, if0]
/-! one more work, one more person -/
theorem VX_grow1 {t m : Nat} {u : zM} {T : zT} (h : VX t u T) (hm : T 0 1 = m) (e6 : gI u (t + 6) m = nI (T 6 m)) (e7 : gI u (t + 7) m = nI (T 7 m)) (e8 : gI u (t + 8) m = nI (T 8 m)) : VX t (sI u t 6 (nI (m + 1))) (tS T 0 1 (m + 1)) := by
  obtain ⟨a1, a2, a3, a4, a5, a6, a7, a8⟩ := h
  have ko : ∀ c i, 1 ≤ c → gI (sI u t 6 (nI (m + 1))) (t + c) i = gI u (t + c) i := fun c i hc => by rw [gI_sI, if_neg (by omega)]
  have kt : ∀ i, i ≠ 6 → gI (sI u t 6 (nI (m + 1))) t i = gI u t i := fun i hi => by rw [gI_sI, if_neg (by omega)]
  refine ⟨(kt _ (by decide)).trans a1, ?_, (kt _ (by decide)).trans a3, (kt _ (by decide)).trans a4, a5, fun i hi => ?_, fun j hj => (ko 5 j (by omega)).trans (a7 j hj), fun i hi => ?_⟩
  · rw [gI_sI, if_pos ⟨rfl, rfl⟩]
    rfl
  · obtain ⟨b1, b2, b3, b4⟩ := a6 i hi
    exact ⟨(ko 1 i (by omega)).trans b1, (ko 2 i (by omega)).trans b2, (ko 3 i (by omega)).trans b3, (ko 4 i (by omega)).trans b4⟩
  · have hi : i < m + 1 := hi
    by_cases c : i = m
    · subst c
      exact ⟨(ko 6 i (by omega)).trans e6, (ko 7 i (by omega)).trans e7, (ko 8 i (by omega)).trans e8⟩
    · obtain ⟨b1, b2, b3⟩ := a8 i (by omega)
      exact ⟨(ko 6 i (by omega)).trans b1, (ko 7 i (by omega)).trans b2, (ko 8 i (by omega)).trans b3⟩
theorem VM_grow1 {m : Nat} {w : zM} {T : zT} (h : VM 0 0 13 w T) (hm : T 0 1 = m) (e6 : gI w 5 m = nI (T 6 m)) (e7 : gI w 6 m = nI (T 7 m)) (e8 : gI w 7 m = nI (T 8 m)) : VM 0 0 13 (sI w 0 2 (nI (m + 1))) (tS T 0 1 (m + 1)) := by
  obtain ⟨a1, a2, a3, a4, a5, a6, a7, a8, A, hA, a9, a10⟩ := h
  have ko : ∀ c i, 1 ≤ c → gI (sI w 0 2 (nI (m + 1))) (0 + c) i = gI w (0 + c) i := fun c i hc => by rw [gI_sI, if_neg (by omega)]
  have kt : ∀ i, i ≠ 2 → gI (sI w 0 2 (nI (m + 1))) 0 i = gI w 0 i := fun i hi => by rw [gI_sI, if_neg (by omega)]
  refine ⟨(kt _ (by decide)).trans a1, ?_, (kt _ (by decide)).trans a3, (kt _ (by decide)).trans a4, (kt _ (by decide)).trans a5, fun i hi => ?_, fun j hj => (ko 4 j (by omega)).trans (a7 j hj), fun i hi => ?_, A, hA, (kt _ (by decide)).trans a9, a10⟩
  · rw [gI_sI, if_pos ⟨rfl, rfl⟩]
    rfl
  · obtain ⟨b1, b2, b3⟩ := a6 i hi
    exact ⟨(ko 1 i (by omega)).trans b1, (ko 2 i (by omega)).trans b2, (ko 3 i (by omega)).trans b3⟩
  · have hi : i < m + 1 := hi
    by_cases c : i = m
    · subst c
      exact ⟨(ko 5 i (by omega)).trans ((congrArg (fun q => gI w q i) (Nat.zero_add 5)).trans e6), (ko 6 i (by omega)).trans ((congrArg (fun q => gI w q i) (Nat.zero_add 6)).trans e7), (ko 7 i (by omega)).trans ((congrArg (fun q => gI w q i) (Nat.zero_add 7)).trans e8)⟩
    · obtain ⟨b1, b2, b3⟩ := a8 i (by omega)
      exact ⟨(ko 5 i (by omega)).trans b1, (ko 6 i (by omega)).trans b2, (ko 7 i (by omega)).trans b3⟩
theorem work_door {k : Nat} {T : zT} {sqs : Nat → zQ} {uX w : zM} (hc : Core k T sqs uX w) (p1 p2 : Int32) : Door k T sqs (f_X8_work p1 p2) (f_X9_work p1 p2) uX w := by
  have hcc := hc
  obtain ⟨cX, cM, ho, hmn, hs, hqX, hqM⟩ := hc
  have hm4 := ho.2.1
  have ha2 := ho.2.2.1
  have e1 : gI uX 2 6 = nI (T 0 1) := cX.2.1
  have e2 : gI w 0 2 = nI (T 0 1) := cM.2.1
  unfold Door f_X8_work f_X9_work
  rw [f_within, f_in, zb_s, zb_s]
  by_cases hp : ∃ j : Nat, 1 ≤ j ∧ j ≤ 999 ∧ p1 = nI j
  · obtain ⟨j, j1, j2, rfl⟩ := hp
    rw [decide_eq_true (show (1 : Int32) ≤ nI j ∧ nI j ≤ 999 from ⟨nI_le (a := 1) j1 (by omega), nI_le (b := 999) j2 (by decide)⟩), show b2i true = 1 from rfl, if1, if1]
    rcases nI_in_or (n := 61) (by decide) p2 with ⟨d, hd, rfl⟩ | ho2
    · rw [show f_X8_isWithin (nI d) 0 60 uX = some (1, uX) from wi_t (a := 0) (b := 60) (by omega) (by decide) _, show f_X9_in (nI d) 0 60 w = some (1, w) from in_t (a := 0) (b := 60) (by omega) (by decide) _, zb_s, zb_s, if1, if1, e1, e2]
      by_cases h4 : T 0 1 = 4
      · rw [if_neg (show ¬ nI (T 0 1) < (4 : Int32) by rw [h4]; decide), if_pos (show nI (T 0 1) = (4 : Int32) by rw [h4]; rfl)]
        exact ⟨-4, uX, w, T, rfl, rfl, hcc, Nat.le_refl _, Nat.le_refl _, xfr_rf _ _, dfr_rf _⟩
      · rw [if_pos (show nI (T 0 1) < (4 : Int32) from nI_lt (b := 4) (by omega) (by decide)), if_neg (show ¬ nI (T 0 1) = (4 : Int32) from fun q => h4 ((nI_eq (b := 4) (by omega) (by decide)).mp q))]
        have hb : inB (nI (T 0 1)) 4 = true := inB_n (show T 0 1 < 4 by omega) (by decide)
        have hcl : (nI (T 0 1)).toNatClampNeg = T 0 1 := nI_cl (by omega)
        generalize hm : T 0 1 = m at *
        have V1 : VX 2 (sI (sI (sI uX 8 m (nI j)) 9 m (nI d)) 10 m (nI 0)) (tS (tS (tS T 6 m j) 7 m d) 8 m 0) := VX_put (c := 8) (VX_put (c := 7) (VX_put (c := 6) cX (by decide) (by decide)) (by decide) (by decide)) (by decide) (by decide)
        have M1 : VM 0 0 13 (sI (sI (sI w 5 m (nI j)) 6 m (nI d)) 7 m (nI 0)) (tS (tS (tS T 6 m j) 7 m d) 8 m 0) := VM_putG (c' := 7) (VM_putG (c' := 6) (VM_putG (c' := 5) cM (by omega)) (by omega)) (by omega)
        have f6 : tS (tS (tS T 6 m j) 7 m d) 8 m 0 6 m = j := by rw [tS_ap, if_neg (by omega), tS_ap, if_neg (by omega), tS_ap, if_pos ⟨rfl, rfl⟩]
        have f7 : tS (tS (tS T 6 m j) 7 m d) 8 m 0 7 m = d := by rw [tS_ap, if_neg (by omega), tS_ap, if_pos ⟨rfl, rfl⟩]
        have f8 : tS (tS (tS T 6 m j) 7 m d) 8 m 0 8 m = 0 := by rw [tS_ap, if_pos ⟨rfl, rfl⟩]
        have f0 : tS (tS (tS T 6 m j) 7 m d) 8 m 0 0 1 = m := by
          rw [tS_ap, if_neg (by omega), tS_ap, if_neg (by omega), tS_ap, if_neg (by omega)]
          exact hm
        have V2 := VX_grow1 V1 f0 (by rw [f6, gI_sI, if_neg (by omega), gI_sI, if_neg (by omega), gI_sI, if_pos ⟨rfl, rfl⟩]) (by rw [f7, gI_sI, if_neg (by omega), gI_sI, if_pos ⟨rfl, rfl⟩]) (by rw [f8, gI_sI, if_pos ⟨rfl, rfl⟩])
        have M2 := VM_grow1 M1 f0 (by rw [f6, gI_sI, if_neg (by omega), gI_sI, if_neg (by omega), gI_sI, if_pos ⟨rfl, rfl⟩]) (by rw [f7, gI_sI, if_neg (by omega), gI_sI, if_pos ⟨rfl, rfl⟩]) (by rw [f8, gI_sI, if_pos ⟨rfl, rfl⟩])
        have O2 : OkT k (tS (tS (tS (tS T 6 m j) 7 m d) 8 m 0) 0 1 (m + 1)) := by
          obtain ⟨a1, a2, a3, a4, a5, a6, a7, a8⟩ := ho
          refine ⟨a1, by show m + 1 ≤ 4; omega, by show T 0 2 ≤ m + 1; omega, a4, a5, a6, a7, fun i hi => ?_⟩
          have hi : i < m + 1 := hi
          have g6 : tS (tS (tS (tS T 6 m j) 7 m d) 8 m 0) 0 1 (m + 1) 6 i = if i = m then j else T 6 i := by
            rw [tS_ap, if_neg (by omega), tS_ap, if_neg (by omega), tS_ap, if_neg (by omega), tS_ap]
            by_cases c : i = m
            · rw [if_pos ⟨rfl, c⟩, if_pos c]
            · rw [if_neg (fun q => c q.2), if_neg c]
          have g7 : tS (tS (tS (tS T 6 m j) 7 m d) 8 m 0) 0 1 (m + 1) 7 i = if i = m then d else T 7 i := by
            rw [tS_ap, if_neg (by omega), tS_ap, if_neg (by omega), tS_ap]
            by_cases c : i = m
            · rw [if_pos ⟨rfl, c⟩, if_pos c]
            · rw [if_neg (fun q => c q.2), if_neg c, tS_ap, if_neg (by omega)]
          have g8 : tS (tS (tS (tS T 6 m j) 7 m d) 8 m 0) 0 1 (m + 1) 8 i = if i = m then 0 else T 8 i := by
            rw [tS_ap, if_neg (by omega), tS_ap]
            by_cases c : i = m
            · rw [if_pos ⟨rfl, c⟩, if_pos c]
            · rw [if_neg (fun q => c q.2), if_neg c, tS_ap, if_neg (by omega), tS_ap, if_neg (by omega)]
          rw [g6, g7, g8]
          by_cases c : i = m
          · rw [if_pos c, if_pos c, if_pos c]
            omega
          · rw [if_neg c, if_neg c, if_neg c]
            exact a8 i (by omega)
        have hx1 : xfr 2 uX (sI (sI (sI (sI uX 8 m (nI j)) 9 m (nI d)) 10 m (nI 0)) 2 6 (nI (m + 1))) := xfr_s (xfr_s (xfr_s (xfr_s (xfr_rf _ _) (by omega)) (by omega)) (by omega)) (by omega)
        have hd1 : dfr w (sI (sI (sI (sI w 5 m (nI j)) 6 m (nI d)) 7 m (nI 0)) 0 2 (nI (m + 1))) := dfr_s (dfr_s (dfr_s (dfr_s (dfr_rf _) (by omega)) (by omega)) (by omega)) (by omega)
        refine ⟨nI m, _, _, _, ?_, ?_, ⟨V2, M2, O2, hmn, hs, SqX_x hqX hx1, SqM_d hqM hd1⟩, Nat.le_refl _, ?_, hx1, hd1⟩
        · unfold f_X6_addWork
          rw [e1, zlx_s, hb, zck_t, zlet_s, zck_t, zlet_s, zck_t, zlet_s, hcl, zlet_s, zb_s, gI_sI, if_neg (by omega), gI_sI, if_neg (by omega), gI_sI, if_neg (by omega), e1, nI_a1]
          rfl
        · have g1 : gI (sI w 5 m (nI j)) 0 2 = nI m := by
            rw [gI_sI, if_neg (by omega)]
            exact e2
          have g2 : gI (sI (sI w 5 m (nI j)) 6 m (nI d)) 0 2 = nI m := by
            rw [gI_sI, if_neg (by omega)]
            exact g1
          have g3 : gI (sI (sI (sI w 5 m (nI j)) 6 m (nI d)) 7 m 0) 0 2 = nI m := by
            rw [gI_sI, if_neg (by omega)]
            exact g2
          have g4 : gI (sI (sI (sI (sI w 5 m (nI j)) 6 m (nI d)) 7 m 0) 0 2 (nI m + 1)) 0 2 = nI m + 1 := by
            rw [gI_sI, if_pos ⟨rfl, rfl⟩]
          rw [hb, zck_t, zlet_s, hcl, g1, hb, zck_t, zlet_s, hcl, g2, hb, zck_t, zlet_s, hcl, g3, zlet_s, g4, nI_a1, nI_pred]
          rfl
        · show m ≤ m + 1
          omega
    · rw [show f_X8_isWithin p2 0 60 uX = some (0, uX) from wi_f (n := 60) (by decide) ho2 _, show f_X9_in p2 0 60 w = some (0, w) from in_f (n := 60) (by decide) ho2 _]
      exact ⟨-2, uX, w, T, rfl, rfl, hcc, Nat.le_refl _, Nat.le_refl _, xfr_rf _ _, dfr_rf _⟩
  · rw [decide_eq_false (show ¬ ((1 : Int32) ≤ p1 ∧ p1 ≤ 999) from in1_f (n := 999) (by decide) hp), show b2i false = 0 from rfl, if0, if0]
    exact ⟨-2, uX, w, T, rfl, rfl, hcc, Nat.le_refl _, Nat.le_refl _, xfr_rf _ _, dfr_rf _⟩
