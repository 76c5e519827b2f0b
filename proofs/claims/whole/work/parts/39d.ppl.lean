/-! ===== PURE: the people of the town now ===== -/
def RPer (uX w : zM) (i : Nat) : Prop := (∃ K : Nat, K < 7 ∧ gI uX 3 i = nI K ∧ gI w 1 i = nI K) ∧ (∃ V : Nat, V ≤ 9 ∧ gI uX 4 i = nI V ∧ gI w 2 i = nI V) ∧ (∃ h : Nat, h ≤ 99 ∧ gI uX 5 i = nI h ∧ gI w 3 i = nI h) ∧ ∀ c, c < 4 → ∃ g : Nat, g ≤ 9 ∧ gI uX 7 (4 * i + c) = nI g ∧ gI w 4 (4 * i + c) = nI g
def RPpl (uX w : zM) : Prop := ∃ n : Nat, n ≤ 6 ∧ gI uX 2 0 = nI n ∧ gI w 0 0 = nI n ∧ ∀ i, i < n → RPer uX w i
theorem has1_t {u : zM} {n i : Nat} (h : gI u 2 0 = nI n) (hn : n ≤ 6) (hi : i < n) : f_X6_hasOne 2 (nI i) u = some (1, u) := by
  unfold f_X6_hasOne
  rw [if_neg (nI_pos (by omega)), h, if_neg (nI_ge hi (by omega))]
theorem has1_f {u : zM} {n : Nat} {p : Int32} (h : gI u 2 0 = nI n) (hp : p < 0 ∨ nI n ≤ p) : f_X6_hasOne 2 p u = some (0, u) := by
  unfold f_X6_hasOne
  by_cases h0 : p < 0
  · rw [if_pos h0]
  · rw [if_neg h0, h, if_pos (hp.elim (fun q => absurd q h0) id)]
theorem is1_t {u : zM} {n i : Nat} (h : gI u 0 0 = nI n) (hn : n ≤ 6) (hi : i < n) : f_X9_isOne (nI i) u = some (1, u) := by
  unfold f_X9_isOne
  rw [h, la_t (by omega) hi]
  rfl
theorem is1_f {u : zM} {n : Nat} {p : Int32} (h : gI u 0 0 = nI n) (hn : n ≤ 6) (hp : p < 0 ∨ nI n ≤ p) : f_X9_isOne p u = some (0, u) := by
  unfold f_X9_isOne
  rw [h, la_f (by omega) hp]
  rfl
/-- cells outside the people's: nothing that RPpl speaks of has changed -/
theorem RPpl_cg {uX w uX' w' : zM} (h1 : gI uX' 2 0 = gI uX 2 0) (h2 : gI w' 0 0 = gI w 0 0) (h3 : ∀ a i, 3 ≤ a → a ≤ 7 → gI uX' a i = gI uX a i) (h4 : ∀ a i, 1 ≤ a → a ≤ 4 → gI w' a i = gI w a i) (h : RPpl uX w) : RPpl uX' w' := by
  obtain ⟨n, hn, e1, e2, hp⟩ := h
  refine ⟨n, hn, h1.trans e1, h2.trans e2, fun i hi => ?_⟩
  obtain ⟨⟨K, q1, q2, q3⟩, ⟨V, v1, v2, v3⟩, ⟨t, t1, t2, t3⟩, hr⟩ := hp i hi
  refine ⟨⟨K, q1, (h3 3 i (by omega) (by omega)).trans q2, (h4 1 i (by omega) (by omega)).trans q3⟩, ⟨V, v1, (h3 4 i (by omega) (by omega)).trans v2, (h4 2 i (by omega) (by omega)).trans v3⟩, ⟨t, t1, (h3 5 i (by omega) (by omega)).trans t2, (h4 3 i (by omega) (by omega)).trans t3⟩, fun c hc => ?_⟩
  obtain ⟨g, g1, g2, g3⟩ := hr c hc
  exact ⟨g, g1, (h3 7 _ (by omega) (by omega)).trans g2, (h4 4 _ (by omega) (by omega)).trans g3⟩
theorem ppl_same {uX w : zM} (h : RPpl uX w) (p : Int32) : hasSame p (sI uX 66 0 0) (sI w 0 72 0) := by
  obtain ⟨n, hn, e1, e2, hp⟩ := RPpl_cg (uX' := sI uX 66 0 0) (w' := sI w 0 72 0) (by rw [gI_sI, if_neg (by omega)]) (by rw [gI_sI, if_neg (by omega)]) (fun a i q1 q2 => by rw [gI_sI, if_neg (by omega)]) (fun a i q1 q2 => by rw [gI_sI, if_neg (by omega)]) h
  rcases nI_in_or (n := n) (by omega) p with ⟨i, hi, rfl⟩ | ho
  · obtain ⟨⟨K, q1, q2, q3⟩, ⟨V, v1, v2, v3⟩, _⟩ := hp i hi
    exact Or.inr ⟨has1_t e1 hn hi, is1_t e2 hn hi, i, K, by omega, q1, rfl, q2, q3, v3.trans v2.symm⟩
  · exact Or.inl ⟨has1_f e1 ho, is1_f e2 hn ho⟩
theorem heat_sim {uX w : zM} (h : RPpl uX w) (p1 p2 : Int32) : ∃ r uX' w', f_X8_heat p1 p2 uX = some (r, uX') ∧ f_X9_heat p1 p2 w = some (r, w') ∧ RPpl uX' w' ∧ ((uX' = uX ∧ w' = w) ∨ ∃ i x, i < 6 ∧ uX' = sI uX 5 i x ∧ w' = sI w 3 i x) := by
  obtain ⟨n, hn, e1, e2, hp⟩ := id h
  unfold f_X8_heat f_X9_heat
  rcases nI_in_or (n := n) (by omega) p1 with ⟨i, hi, rfl⟩ | ho
  · rw [has1_t e1 hn hi, is1_t e2 hn hi, zb_s, zb_s, if1, if1]
    unfold f_X9_isHeat
    rcases nI_in_or (n := 100) (by decide) p2 with ⟨t, ht, rfl⟩ | ho2
    · rw [show f_X8_isWithin (nI t) 0 99 uX = some (1, uX) from wi_t (a := 0) (b := 99) (by omega) (by decide) _, show f_X9_in (nI t) 0 99 w = some (1, w) from in_t (a := 0) (b := 99) (by omega) (by decide) _]
      obtain ⟨q, v, ⟨s, s1, s2, s3⟩, hr⟩ := hp i hi
      refine ⟨nI s, sI uX 5 i (nI t), sI w 3 i (nI t), ?_, ?_, ⟨n, hn, ?_, ?_, fun k hk => ?_⟩, Or.inr ⟨i, nI t, by omega, rfl, rfl⟩⟩
      · rw [zb_s, if1, inB_n (show i < 6 by omega) (by decide), zck_t, nI_cl (n := i) (by omega), zlx_s, zck_t, zlet_s, s2]
      · show (zb (some ((1 : Int32), w)) fun y3 u4 => _) = _
        rw [zb_s, if1, inB_n (show i < 6 by omega) (by decide), zck_t, nI_cl (n := i) (by omega), zlx_s, zck_t, zlet_s, s3]
      · rw [gI_sI, if_neg (by omega)]
        exact e1
      · rw [gI_sI, if_neg (by omega)]
        exact e2
      · obtain ⟨⟨K, q1, q2, q3⟩, ⟨V, v1, v2, v3⟩, ⟨y, y1, y2, y3⟩, hr⟩ := hp k hk
        refine ⟨⟨K, q1, ?_, ?_⟩, ⟨V, v1, ?_, ?_⟩, ?_, fun c hc => ?_⟩
        · rw [gI_sI, if_neg (by omega)]
          exact q2
        · rw [gI_sI, if_neg (by omega)]
          exact q3
        · rw [gI_sI, if_neg (by omega)]
          exact v2
        · rw [gI_sI, if_neg (by omega)]
          exact v3
        · by_cases hki : k = i
          · exact ⟨t, by omega, by rw [gI_sI, if_pos ⟨rfl, hki⟩], by rw [gI_sI, if_pos ⟨rfl, hki⟩]⟩
          · exact ⟨y, y1, by rw [gI_sI, if_neg (by omega)]; exact y2, by rw [gI_sI, if_neg (by omega)]; exact y3⟩
        · obtain ⟨g, g1, g2, g3⟩ := hr c hc
          exact ⟨g, g1, by rw [gI_sI, if_neg (by omega)]; exact g2, by rw [gI_sI, if_neg (by omega)]; exact g3⟩
    · rw [show f_X8_isWithin p2 0 99 uX = some (0, uX) from wi_f (n := 99) (by decide) ho2 _, show f_X9_in p2 0 99 w = some (0, w) from in_f (n := 99) (by decide) ho2 _]
      exact ⟨-2, uX, w, rfl, rfl, h, Or.inl ⟨rfl, rfl⟩⟩
  · rw [has1_f e1 ho, is1_f e2 hn ho]
    exact ⟨-1, uX, w, rfl, rfl, h, Or.inl ⟨rfl, rfl⟩⟩
theorem init_ppl : RPpl uX0 uM0 := ⟨0, by omega, by decide +kernel, by decide +kernel, fun i hi => absurd hi (Nat.not_lt_zero i)⟩
