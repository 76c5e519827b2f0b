/-! ===== PURE: the act's door ===== -/
/-- the person is there in both, of the same kind and number, or in neither -/
def hasSame (p : Int32) (uX w : zM) : Prop := (f_X6_hasOne 2 p uX = some (0, uX) ∧ f_X9_isOne p w = some (0, w)) ∨ (f_X6_hasOne 2 p uX = some (1, uX) ∧ f_X9_isOne p w = some (1, w) ∧ ∃ a K : Nat, a < 6 ∧ K < 7 ∧ p = nI a ∧ gI uX 3 a = nI K ∧ gI w 1 a = nI K ∧ gI w 2 a = gI uX 4 a)
theorem RAct_z (uX w : zM) : RActN 0 (sI uX 66 0 0) (sI w 0 72 0) := ⟨by rw [gI_sI, if_pos ⟨rfl, rfl⟩]; rfl, by rw [gI_sI, if_pos ⟨rfl, rfl⟩]; rfl, fun i hi => absurd hi (Nat.not_lt_zero i)⟩
/-- what an act leaves as it was, in the class -/
def axX (u u' : zM) : Prop := (∀ a k, a ≠ 66 → a ≠ 67 → gI u' a k = gI u a k) ∧ (∀ a k, gJ u' a k = gJ u a k) ∧ ∀ a k, gO u' a k = gO u a k
theorem act_sim {uX w : zM} (p1 p2 p3 : Int32) (hO : hasSame p1 (sI uX 66 0 0) (sI w 0 72 0)) : ∃ r uX' w', f_X8_act p1 p2 p3 uX = some (r, uX') ∧ f_X9_act p1 p2 p3 w = some (r, w') ∧ RAct uX' w' ∧ axX uX uX' ∧ acM w w' := by
  have z1 : axX uX (sI uX 66 0 0) := ⟨fun a k p q => by rw [gI_sI, if_neg (by omega)], fun _ _ => rfl, fun _ _ => rfl⟩
  have z2 : acM w (sI w 0 72 0) := ⟨fun a k p q => by rw [gI_sI, if_neg (by omega)], fun _ _ => rfl, fun _ _ => rfl⟩
  unfold f_X8_act f_X9_act
  rw [zlet_s, zlet_s]
  rcases hO with ⟨o1, o2⟩ | ⟨o1, o2, a, K, ha, hK, rfl, k1, k2, k3⟩
  · rw [o1, o2, zb_s, zb_s, if0, if0]
    exact ⟨0, _, _, rfl, rfl, ⟨0, by omega, RAct_z uX w⟩, z1, z2⟩
  · rw [o1, o2, zb_s, zb_s, if1, if1]
    rcases nI_in_or (n := 3) (by decide) p2 with ⟨j, hj, rfl⟩ | ho
    · rw [show f_X8_isWithin (nI j) 0 2 (sI uX 66 0 0) = some (1, sI uX 66 0 0) from wi_t (a := 0) (b := 2) (by omega) (by decide) _, show f_X9_in (nI j) 0 2 (sI w 0 72 0) = some (1, sI w 0 72 0) from in_t (a := 0) (b := 2) (by omega) (by decide) _, zb_s, zb_s, if1, if1]
      have hv : AcX a K (gI uX 4 a) (sI (sI (sI (sI uX 66 0 0) 66 2 (nI a)) 66 3 (nI K)) 66 4 (gI uX 4 a)) (sI w 0 72 0) := by
        refine ⟨?_, ?_, ?_, k2, k3.trans ?_⟩
        · rw [gI_sI, if_neg (by omega), gI_sI, if_neg (by omega), gI_sI, if_pos ⟨rfl, rfl⟩]
        · rw [gI_sI, if_neg (by omega), gI_sI, if_pos ⟨rfl, rfl⟩]
        · rw [gI_sI, if_pos ⟨rfl, rfl⟩]
        · rw [gI_sI, if_neg (by omega)]
      have hn : RActN 0 (sI (sI (sI (sI uX 66 0 0) 66 2 (nI a)) 66 3 (nI K)) 66 4 (gI uX 4 a)) (sI w 0 72 0) := by
        refine ⟨?_, (RAct_z uX w).2.1, fun i hi => absurd hi (Nat.not_lt_zero i)⟩
        rw [gI_sI, if_neg (by omega), gI_sI, if_neg (by omega), gI_sI, if_neg (by omega)]
        exact (RAct_z uX w).1
      have hst : f_X0_start (nI a) (nI j) p3 (sI uX 66 0 0) = f_X0_run 10 (nI K) (nI j) p3 0 (sI (sI (sI (sI uX 66 0 0) 66 2 (nI a)) 66 3 (nI K)) 66 4 (gI uX 4 a)) := by
        unfold f_X0_start
        rw [zlet_s, inB_n ha (by decide), zck_t, nI_cl (n := a) (by omega), zlet_s, zck_t, zlet_s, zb_eta]
        have q1 : gI (sI (sI uX 66 0 0) 66 2 (nI a)) 3 a = nI K := by
          rw [gI_sI, if_neg (by omega)]
          exact k1
        rw [q1]
        have q2 : gI (sI (sI (sI uX 66 0 0) 66 2 (nI a)) 66 3 (nI K)) 4 a = gI uX 4 a := by
          rw [gI_sI, if_neg (by omega), gI_sI, if_neg (by omega), gI_sI, if_neg (by omega)]
        rw [q2, hv.2.1]
      have fin : ∀ {fm : zM → Option (Int32 × zM)}, AcS 12 a K (gI uX 4 a) (f_X0_run 10 (nI K) (nI j) p3 0) fm → ∃ r uX' w', f_X0_start (nI a) (nI j) p3 (sI uX 66 0 0) = some (r, uX') ∧ fm (sI w 0 72 0) = some (r, w') ∧ RAct uX' w' ∧ axX uX uX' ∧ acM w w' := by
        intro fm hs
        obtain ⟨r, n', u', w', e1, e2, hl, hr, f1, g1⟩ := hs 0 _ _ (by omega) hn hv
        refine ⟨r, u', w', hst.trans e1, e2, ⟨n', by omega, hr⟩, ⟨fun b k p q => ?_, fun b k => (f1.2.1 b k).trans rfl, fun b k => (f1.2.2 b k).trans rfl⟩, acM_tr z2 g1⟩
        rw [f1.1 b k (by omega) q, gI_sI, if_neg (by omega), gI_sI, if_neg (by omega), gI_sI, if_neg (by omega), gI_sI, if_neg (by omega)]
      rw [zb_eta]
      have h : j = 0 ∨ j = 1 ∨ j = 2 := by omega
      rcases h with rfl | rfl | rfl
      · rw [if_pos (show nI 0 = (0 : Int32) from rfl), zb_eta]
        exact fin (AcS_le (c := 2) (by omega) (ac_GA (f := 8) (e := 0) ha hK (by omega)))
      · rw [if_neg (show ¬ nI 1 = (0 : Int32) by decide), if_pos (show nI 1 = (1 : Int32) from rfl), zb_eta]
        exact fin (AcS_le (c := 5) (by omega) (ac_RA (f := 5) (e := 0) ha hK (by omega)))
      · rw [if_neg (show ¬ nI 2 = (0 : Int32) by decide), if_neg (show ¬ nI 2 = (1 : Int32) by decide), zb_eta]
        exact fin (ac_TA (f := 3) (e := 0) ha hK (by omega))
    · rw [show f_X8_isWithin p2 0 2 (sI uX 66 0 0) = some (0, sI uX 66 0 0) from wi_f (n := 2) (by decide) ho _, show f_X9_in p2 0 2 (sI w 0 72 0) = some (0, sI w 0 72 0) from in_f (n := 2) (by decide) ho _, zb_s, zb_s, if0, if0]
      exact ⟨0, _, _, rfl, rfl, ⟨0, by omega, RAct_z uX w⟩, z1, z2⟩
