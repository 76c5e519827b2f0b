/-! ===== PURE: one more person ===== -/
theorem VX_grow0 {t n : Nat} {u : zM} {T : zT} (h : VX t u T) (hm : T 0 0 = n) (e1 : gI u (t + 1) n = nI (T 1 n)) (e2 : gI u (t + 2) n = nI (T 2 n)) (e3 : gI u (t + 3) n = nI (T 3 n)) (e4 : gI u (t + 4) n = nI (T 4 n)) (e5 : ∀ c, c < 4 → gI u (t + 5) (4 * n + c) = nI (T 5 (4 * n + c))) : VX t (sI u t 0 (nI (n + 1))) (tS T 0 0 (n + 1)) := by
  obtain ⟨a1, a2, a3, a4, a5, a6, a7, a8⟩ := h
  have ko : ∀ c i, 1 ≤ c → gI (sI u t 0 (nI (n + 1))) (t + c) i = gI u (t + c) i := fun c i hc => by rw [gI_sI, if_neg (by omega)]
  have kt : ∀ i, i ≠ 0 → gI (sI u t 0 (nI (n + 1))) t i = gI u t i := fun i hi => by rw [gI_sI, if_neg (by omega)]
  refine ⟨?_, (kt _ (by decide)).trans a2, (kt _ (by decide)).trans a3, (kt _ (by decide)).trans a4, a5, fun i hi => ?_, fun j hj => ?_, fun i hi => ?_⟩
  · rw [gI_sI, if_pos ⟨rfl, rfl⟩]
    rfl
  · have hi : i < n + 1 := hi
    by_cases c : i = n
    · subst c
      exact ⟨(ko 1 i (by omega)).trans e1, (ko 2 i (by omega)).trans e2, (ko 3 i (by omega)).trans e3, (ko 4 i (by omega)).trans e4⟩
    · obtain ⟨b1, b2, b3, b4⟩ := a6 i (by omega)
      exact ⟨(ko 1 i (by omega)).trans b1, (ko 2 i (by omega)).trans b2, (ko 3 i (by omega)).trans b3, (ko 4 i (by omega)).trans b4⟩
  · have hj : j < 4 * (n + 1) := hj
    refine (ko 5 j (by omega)).trans ?_
    show gI u (t + 5) j = nI (T 5 j)
    by_cases c : j < 4 * n
    · exact a7 j (by omega)
    · have h := e5 (j - 4 * n) (by omega)
      rw [show 4 * n + (j - 4 * n) = j by omega] at h
      exact h
  · obtain ⟨b1, b2, b3⟩ := a8 i hi
    exact ⟨(ko 6 i (by omega)).trans b1, (ko 7 i (by omega)).trans b2, (ko 8 i (by omega)).trans b3⟩
theorem VM_grow0 {n A : Nat} {w : zM} {T : zT} (h : VM 0 0 13 w T) (hm : T 0 0 = n) (e1 : gI w 1 n = nI (T 1 n)) (e2 : gI w 2 n = nI (T 2 n)) (e3 : gI w 3 n = nI (T 3 n)) (e5 : ∀ c, c < 4 → gI w 4 (4 * n + c) = nI (T 5 (4 * n + c))) (hA : A < 64) (eA : gI w 0 1 = nI A) (e4 : ∀ i, i < n + 1 → abit A i = nI (T 4 i)) : VM 0 0 13 (sI w 0 0 (nI (n + 1))) (tS T 0 0 (n + 1)) := by
  obtain ⟨a1, a2, a3, a4, a5, a6, a7, a8, -⟩ := h
  have ko : ∀ c i, 1 ≤ c → gI (sI w 0 0 (nI (n + 1))) (0 + c) i = gI w (0 + c) i := fun c i hc => by rw [gI_sI, if_neg (by omega)]
  have kt : ∀ i, i ≠ 0 → gI (sI w 0 0 (nI (n + 1))) 0 i = gI w 0 i := fun i hi => by rw [gI_sI, if_neg (by omega)]
  refine ⟨?_, (kt _ (by decide)).trans a2, (kt _ (by decide)).trans a3, (kt _ (by decide)).trans a4, (kt _ (by decide)).trans a5, fun i hi => ?_, fun j hj => ?_, fun i hi => ?_, A, hA, (kt _ (by decide)).trans eA, e4⟩
  · rw [gI_sI, if_pos ⟨rfl, rfl⟩]
    rfl
  · have hi : i < n + 1 := hi
    by_cases c : i = n
    · subst c
      exact ⟨(ko 1 i (by omega)).trans ((congrArg (fun q => gI w q i) (Nat.zero_add 1)).trans e1), (ko 2 i (by omega)).trans ((congrArg (fun q => gI w q i) (Nat.zero_add 2)).trans e2), (ko 3 i (by omega)).trans ((congrArg (fun q => gI w q i) (Nat.zero_add 3)).trans e3)⟩
    · obtain ⟨b1, b2, b3⟩ := a6 i (by omega)
      exact ⟨(ko 1 i (by omega)).trans b1, (ko 2 i (by omega)).trans b2, (ko 3 i (by omega)).trans b3⟩
  · have hj : j < 4 * (n + 1) := hj
    refine (ko 4 j (by omega)).trans ?_
    show gI w (0 + 4) j = nI (T 5 j)
    by_cases c : j < 4 * n
    · exact a7 j (by omega)
    · have h := e5 (j - 4 * n) (by omega)
      rw [show 4 * n + (j - 4 * n) = j by omega] at h
      exact h
  · obtain ⟨b1, b2, b3⟩ := a8 i hi
    exact ⟨(ko 5 i (by omega)).trans b1, (ko 6 i (by omega)).trans b2, (ko 7 i (by omega)).trans b3⟩
theorem oneX {n : Nat} {p1 p2 p3 : Int32} (hn : n < 6) (u : zM) : f_X6_addOne_L41 2 p1 p2 p3 400 (nI n) (0 : Int32) u = some (nI n, sI (sI (sI (sI (sI u 7 (4 * n + 0) (nI 0)) 7 (4 * n + 1) (nI 0)) 7 (4 * n + 2) (nI 0)) 7 (4 * n + 3) (nI 0)) 2 0 (gI (sI (sI (sI (sI u 7 (4 * n + 0) (nI 0)) 7 (4 * n + 1) (nI 0)) 7 (4 * n + 2) (nI 0)) 7 (4 * n + 3) (nI 0)) 2 0 + 1)) := by
  have st : ∀ c fn (v : zM), c < 4 → f_X6_addOne_L41 2 p1 p2 p3 (fn + 1) (nI n) (nI c) v = f_X6_addOne_L41 2 p1 p2 p3 fn (nI n) (nI (c + 1)) (sI v 7 (4 * n + c) (nI 0)) := by
    intro c fn v hc
    show f_X6_addOne_L41_b _ _ _ _ _ _ _ _ = _
    unfold f_X6_addOne_L41_b
    rw [if_neg (show ¬ (4 : Int32) ≤ nI c from nI_ge (b := 4) hc (by decide)), mulc4, inB_n (show 4 * n + c < 24 by omega) (by decide), zck_t, zlet_s, nI_cl (n := 4 * n + c) (by omega), nI_a1]
    rfl
  exact (st 0 399 u (by decide)).trans ((st 1 398 _ (by decide)).trans ((st 2 397 _ (by decide)).trans ((st 3 396 _ (by decide)).trans rfl)))
theorem oneM {n : Nat} {p1 p2 p3 : Int32} (hn : n < 6) (u : zM) (h0 : gI u 0 0 = nI n) : f_X9_one_L97 p1 p2 p3 400 (0 : Int32) u = some (nI n, sI (sI (sI (sI (sI u 4 (4 * n + 0) (nI 0)) 4 (4 * n + 1) (nI 0)) 4 (4 * n + 2) (nI 0)) 4 (4 * n + 3) (nI 0)) 0 0 (nI (n + 1))) := by
  have st : ∀ c fn (v : zM), c < 4 → gI v 0 0 = nI n → f_X9_one_L97 p1 p2 p3 (fn + 1) (nI c) v = f_X9_one_L97 p1 p2 p3 fn (nI (c + 1)) (sI v 4 (4 * n + c) (nI 0)) := by
    intro c fn v hc hv
    show f_X9_one_L97_b _ _ _ _ _ _ = _
    unfold f_X9_one_L97_b
    rw [if_neg (show ¬ (4 : Int32) ≤ nI c from nI_ge (b := 4) hc (by decide)), hv, mul4c, inB_n (show 4 * n + c < 24 by omega) (by decide), zck_t, zlet_s, nI_cl (n := 4 * n + c) (by omega), nI_a1]
    rfl
  have z : ∀ (v : zM) c, gI v 0 0 = nI n → gI (sI v 4 (4 * n + c) (nI 0)) 0 0 = nI n := fun v c hv => by rw [gI_sI, if_neg (by omega)]; exact hv
  have fin : ∀ fn (v : zM), gI v 0 0 = nI n → f_X9_one_L97 p1 p2 p3 (fn + 1) (nI 4) v = some (nI n, sI v 0 0 (nI (n + 1))) := by
    intro fn v hv
    show f_X9_one_L97_b _ _ _ _ _ _ = _
    unfold f_X9_one_L97_b
    rw [if_pos (show (4 : Int32) ≤ nI 4 by decide), hv, zlet_s, gI_sI, if_pos ⟨rfl, rfl⟩, nI_a1, nI_pred]
  exact (st 0 399 u (by decide) h0).trans ((st 1 398 _ (by decide) (z _ _ h0)).trans ((st 2 397 _ (by decide) (z _ _ (z _ _ h0))).trans ((st 3 396 _ (by decide) (z _ _ (z _ _ (z _ _ h0)))).trans (fin 395 _ (z _ _ (z _ _ (z _ _ (z _ _ h0))))))))
/-- the state with one more person -/
def tOne (T : zT) (n K V h : Nat) : zT := tS (tS (tS (tS (tS (tS (tS (tS (tS T 1 n K) 2 n V) 3 n h) 4 n 0) 5 (4 * n + 0) 0) 5 (4 * n + 1) 0) 5 (4 * n + 2) 0) 5 (4 * n + 3) 0) 0 0 (n + 1)
theorem one_door {k : Nat} {T : zT} {sqs : Nat → zQ} {uX w : zM} (hc : Core k T sqs uX w) (p1 p2 p3 : Int32) : Door k T sqs (f_X8_one p1 p2 p3) (f_X9_one p1 p2 p3) uX w := by
  have hcc := hc
  obtain ⟨cX, cM, ho, hmn, hs, hqX, hqM⟩ := hc
  have hn6 := ho.1
  have e1 : gI uX 2 0 = nI (T 0 0) := cX.1
  have e2 : gI w 0 0 = nI (T 0 0) := cM.1
  unfold Door f_X8_one f_X9_one f_X9_isHeat
  rcases nI_in_or (n := 7) (by decide) p1 with ⟨K, hK, rfl⟩ | hp1
  · rw [show f_X8_isWithin (nI K) 0 6 uX = some (1, uX) from wi_t (a := 0) (b := 6) (by omega) (by decide) _, show f_X9_in (nI K) 0 6 w = some (1, w) from in_t (a := 0) (b := 6) (by omega) (by decide) _, zb_s, zb_s, if1, if1]
    rcases nI_in_or (n := 10) (by decide) p2 with ⟨V, hV, rfl⟩ | hp2
    · rw [show f_X8_isWithin (nI V) 0 9 uX = some (1, uX) from wi_t (a := 0) (b := 9) (by omega) (by decide) _, show f_X9_in (nI V) 0 9 w = some (1, w) from in_t (a := 0) (b := 9) (by omega) (by decide) _, zb_s, zb_s, if1, if1]
      rcases nI_in_or (n := 100) (by decide) p3 with ⟨h, hh, rfl⟩ | hp3
      · rw [show f_X8_isWithin (nI h) 0 99 uX = some (1, uX) from wi_t (a := 0) (b := 99) (by omega) (by decide) _, show f_X9_in (nI h) 0 99 w = some (1, w) from in_t (a := 0) (b := 99) (by omega) (by decide) _, zb_s, zb_s, if1, show z01 (1 : Int32) = true from rfl, zck_t, zb_s, if1, e1, e2]
        by_cases h6 : T 0 0 = 6
        · rw [if_neg (show ¬ nI (T 0 0) < (6 : Int32) by rw [h6]; decide), if_pos (show nI (T 0 0) = (6 : Int32) by rw [h6]; rfl)]
          exact ⟨-4, uX, w, T, rfl, rfl, hcc, Nat.le_refl _, Nat.le_refl _, xfr_rf _ _, dfr_rf _⟩
        · rw [if_pos (show nI (T 0 0) < (6 : Int32) from nI_lt (b := 6) (by omega) (by decide)), if_neg (show ¬ nI (T 0 0) = (6 : Int32) from fun q => h6 ((nI_eq (b := 6) (by omega) (by decide)).mp q))]
          obtain ⟨A, hA, eA, eA2⟩ := cM.2.2.2.2.2.2.2.2
          have eA : gI w 0 1 = nI A := eA
          have hlt : T 0 0 < 6 := by omega
          have ho2 := ho
          generalize hm : T 0 0 = n at *
          obtain ⟨c1, c2⟩ := ab_clr A hA n hlt
          have hb : inB (nI n) 6 = true := inB_n hlt (by decide)
          have hcl : (nI n).toNatClampNeg = n := nI_cl (by omega)
          -- the class
          have V1 := VX_put (c := 5) (p := 4 * n + 3) (x := 0) (VX_put (c := 5) (p := 4 * n + 2) (x := 0) (VX_put (c := 5) (p := 4 * n + 1) (x := 0) (VX_put (c := 5) (p := 4 * n + 0) (x := 0) (VX_put (c := 4) (p := n) (x := 0) (VX_put (c := 3) (p := n) (x := h) (VX_put (c := 2) (p := n) (x := V) (VX_put (c := 1) (p := n) (x := K) cX (by decide) (by decide)) (by decide) (by decide)) (by decide) (by decide)) (by decide) (by decide)) (by decide) (by decide)) (by decide) (by decide)) (by decide) (by decide)) (by decide) (by decide)
          have s5 : ∀ c, c < 4 → tS (tS (tS (tS (tS (tS (tS (tS T 1 n K) 2 n V) 3 n h) 4 n 0) 5 (4 * n + 0) 0) 5 (4 * n + 1) 0) 5 (4 * n + 2) 0) 5 (4 * n + 3) 0 5 (4 * n + c) = 0 := by
            intro c hc
            have hc4 : c = 0 ∨ c = 1 ∨ c = 2 ∨ c = 3 := by omega
            rcases hc4 with rfl | rfl | rfl | rfl <;> simp [tS_ap]
          have s0 : tS (tS (tS (tS (tS (tS (tS (tS T 1 n K) 2 n V) 3 n h) 4 n 0) 5 (4 * n + 0) 0) 5 (4 * n + 1) 0) 5 (4 * n + 2) 0) 5 (4 * n + 3) 0 0 0 = n := hm
          have s1 : tS (tS (tS (tS (tS (tS (tS (tS T 1 n K) 2 n V) 3 n h) 4 n 0) 5 (4 * n + 0) 0) 5 (4 * n + 1) 0) 5 (4 * n + 2) 0) 5 (4 * n + 3) 0 1 n = K := by simp [tS_ap]
          have s2 : tS (tS (tS (tS (tS (tS (tS (tS T 1 n K) 2 n V) 3 n h) 4 n 0) 5 (4 * n + 0) 0) 5 (4 * n + 1) 0) 5 (4 * n + 2) 0) 5 (4 * n + 3) 0 2 n = V := by simp [tS_ap]
          have s3 : tS (tS (tS (tS (tS (tS (tS (tS T 1 n K) 2 n V) 3 n h) 4 n 0) 5 (4 * n + 0) 0) 5 (4 * n + 1) 0) 5 (4 * n + 2) 0) 5 (4 * n + 3) 0 3 n = h := by simp [tS_ap]
          have s4 : tS (tS (tS (tS (tS (tS (tS (tS T 1 n K) 2 n V) 3 n h) 4 n 0) 5 (4 * n + 0) 0) 5 (4 * n + 1) 0) 5 (4 * n + 2) 0) 5 (4 * n + 3) 0 4 n = 0 := by simp [tS_ap]
          have V2 := VX_grow0 V1 s0 (by rw [s1]; simp [gI_sI]) (by rw [s2]; simp [gI_sI]) (by rw [s3]; simp [gI_sI]) (by rw [s4]; simp [gI_sI]) (fun c hc => by
            rw [s5 c hc]
            have hc4 : c = 0 ∨ c = 1 ∨ c = 2 ∨ c = 3 := by omega
            rcases hc4 with rfl | rfl | rfl | rfl <;> simp [gI_sI])
          -- the reference
          have Mc : VM 0 0 13 (sI (sI (sI (sI w 1 n (nI K)) 2 n (nI V)) 3 n (nI h)) 0 1 (nI (aclr A n))) (tS (tS (tS (tS T 1 n K) 2 n V) 3 n h) 4 n 0) := by
            have M0 := VM_putG (c' := 3) (c := 3) (p := n) (x := h) (VM_putG (c' := 2) (c := 2) (p := n) (x := V) (VM_putG (c' := 1) (c := 1) (p := n) (x := K) cM (by omega)) (by omega)) (by omega)
            obtain ⟨a1, a2, a3, a4, a5, a6, a7, a8, -⟩ := M0
            have kp : ∀ c' i, 1 ≤ c' → gI (sI (sI (sI (sI w 1 n (nI K)) 2 n (nI V)) 3 n (nI h)) 0 1 (nI (aclr A n))) (0 + c') i = gI (sI (sI (sI w 1 n (nI K)) 2 n (nI V)) 3 n (nI h)) (0 + c') i := fun c' i hc => by rw [gI_sI, if_neg (by omega)]
            have kt : ∀ i, i ≠ 1 → gI (sI (sI (sI (sI w 1 n (nI K)) 2 n (nI V)) 3 n (nI h)) 0 1 (nI (aclr A n))) 0 i = gI (sI (sI (sI w 1 n (nI K)) 2 n (nI V)) 3 n (nI h)) 0 i := fun i hc => by rw [gI_sI, if_neg (by omega)]
            refine ⟨(kt _ (by decide)).trans a1, (kt _ (by decide)).trans a2, (kt _ (by decide)).trans a3, (kt _ (by decide)).trans a4, (kt _ (by decide)).trans a5, fun i hi => ?_, fun j hj => (kp 4 j (by omega)).trans (a7 j hj), fun i hi => ?_, aclr A n, c2, by rw [gI_sI, if_pos ⟨rfl, rfl⟩], fun i hi => ?_⟩
            · obtain ⟨b1, b2, b3⟩ := a6 i hi
              exact ⟨(kp 1 i (by omega)).trans b1, (kp 2 i (by omega)).trans b2, (kp 3 i (by omega)).trans b3⟩
            · obtain ⟨b1, b2, b3⟩ := a8 i hi
              exact ⟨(kp 5 i (by omega)).trans b1, (kp 6 i (by omega)).trans b2, (kp 7 i (by omega)).trans b3⟩
            · have hi : i < T 0 0 := hi
              rw [hm] at hi
              rw [ab_clr_get A hA n hlt i (by omega), if_neg (by omega), eA2 i hi, tS_ap, if_neg (by omega), tS_ap, if_neg (by omega), tS_ap, if_neg (by omega), tS_ap, if_neg (by omega)]
          have M1 := VM_putG (c' := 4) (c := 5) (p := 4 * n + 3) (x := 0) (VM_putG (c' := 4) (c := 5) (p := 4 * n + 2) (x := 0) (VM_putG (c' := 4) (c := 5) (p := 4 * n + 1) (x := 0) (VM_putG (c' := 4) (c := 5) (p := 4 * n + 0) (x := 0) Mc (by omega)) (by omega)) (by omega)) (by omega)
          have M2 := VM_grow0 (A := aclr A n) M1 s0 (by rw [s1]; simp [gI_sI]) (by rw [s2]; simp [gI_sI]) (by rw [s3]; simp [gI_sI]) (fun c hc => by
            rw [s5 c hc]
            have hc4 : c = 0 ∨ c = 1 ∨ c = 2 ∨ c = 3 := by omega
            rcases hc4 with rfl | rfl | rfl | rfl <;> simp [gI_sI]) c2 (by simp [gI_sI]) (fun i hi => by
            rw [ab_clr_get A hA n hlt i (by omega)]
            by_cases ci : i = n
            · rw [if_pos ci, ci, s4]
              rfl
            · rw [if_neg ci, eA2 i (by omega)]
              simp [tS_ap, ci])
          have O2 : OkT k (tOne T n K V h) := by
            obtain ⟨a1, a2, a3, a4, a5, a6, a7, a8⟩ := ho2
            refine ⟨by show n + 1 ≤ 6; omega, a2, a3, a4, a5, fun i hi => ?_, fun j hj => ?_, a8⟩
            · have hi : i < n + 1 := hi
              by_cases ci : i = n
              · subst ci
                refine ⟨?_, ?_, ?_, ?_⟩
                · show tS (tS (tS (tS (tS (tS (tS (tS T 1 i K) 2 i V) 3 i h) 4 i 0) 5 (4 * i + 0) 0) 5 (4 * i + 1) 0) 5 (4 * i + 2) 0) 5 (4 * i + 3) 0 1 i < 7
                  rw [s1]
                  exact hK
                · show tS (tS (tS (tS (tS (tS (tS (tS T 1 i K) 2 i V) 3 i h) 4 i 0) 5 (4 * i + 0) 0) 5 (4 * i + 1) 0) 5 (4 * i + 2) 0) 5 (4 * i + 3) 0 2 i ≤ 9
                  rw [s2]
                  omega
                · show tS (tS (tS (tS (tS (tS (tS (tS T 1 i K) 2 i V) 3 i h) 4 i 0) 5 (4 * i + 0) 0) 5 (4 * i + 1) 0) 5 (4 * i + 2) 0) 5 (4 * i + 3) 0 3 i ≤ 99
                  rw [s3]
                  omega
                · show tS (tS (tS (tS (tS (tS (tS (tS T 1 i K) 2 i V) 3 i h) 4 i 0) 5 (4 * i + 0) 0) 5 (4 * i + 1) 0) 5 (4 * i + 2) 0) 5 (4 * i + 3) 0 4 i ≤ 1
                  rw [s4]
                  omega
              · have hold : ∀ c, c ≤ 4 → 1 ≤ c → tOne T n K V h c i = T c i := by
                  intro c hc hc1
                  unfold tOne
                  rw [tS_ap, if_neg (by omega), tS_ap, if_neg (by omega), tS_ap, if_neg (by omega), tS_ap, if_neg (by omega), tS_ap, if_neg (by omega), tS_ap, if_neg (by omega), tS_ap, if_neg (by omega), tS_ap, if_neg (by omega), tS_ap, if_neg (by omega)]
                rw [hold 1 (by omega) (by omega), hold 2 (by omega) (by omega), hold 3 (by omega) (by omega), hold 4 (by omega) (by omega)]
                exact a6 i (by omega)
            · have hj : j < 4 * (n + 1) := hj
              unfold tOne
              rw [tS_ap, if_neg (by omega), tS_ap]
              split
              · omega
              · rw [tS_ap]
                split
                · omega
                · rw [tS_ap]
                  split
                  · omega
                  · rw [tS_ap]
                    split
                    · omega
                    · rw [tS_ap, if_neg (by omega), tS_ap, if_neg (by omega), tS_ap, if_neg (by omega), tS_ap, if_neg (by omega)]
                      exact a7 j (by omega)
          have hx1 : xfr 2 uX (sI (sI (sI (sI (sI (sI (sI (sI (sI uX 3 n (nI K)) 4 n (nI V)) 5 n (nI h)) 6 n (nI 0)) 7 (4 * n + 0) (nI 0)) 7 (4 * n + 1) (nI 0)) 7 (4 * n + 2) (nI 0)) 7 (4 * n + 3) (nI 0)) 2 0 (nI (n + 1))) := xfr_s (xfr_s (xfr_s (xfr_s (xfr_s (xfr_s (xfr_s (xfr_s (xfr_s (xfr_rf _ _) (by omega)) (by omega)) (by omega)) (by omega)) (by omega)) (by omega)) (by omega)) (by omega)) (by omega)
          have hd1 : dfr w (sI (sI (sI (sI (sI (sI (sI (sI (sI w 1 n (nI K)) 2 n (nI V)) 3 n (nI h)) 0 1 (nI (aclr A n))) 4 (4 * n + 0) (nI 0)) 4 (4 * n + 1) (nI 0)) 4 (4 * n + 2) (nI 0)) 4 (4 * n + 3) (nI 0)) 0 0 (nI (n + 1))) := dfr_s (dfr_s (dfr_s (dfr_s (dfr_s (dfr_s (dfr_s (dfr_s (dfr_s (dfr_rf _) (by omega)) (by omega)) (by omega)) (by omega)) (by omega)) (by omega)) (by omega)) (by omega)) (by omega)
          refine ⟨nI n, _, _, tOne T n K V h, ?_, ?_, ⟨V2, M2, O2, hmn, hs, SqX_x hqX hx1, SqM_d hqM hd1⟩, ?_, Nat.le_refl _, hx1, hd1⟩
          · unfold f_X6_addOne
            rw [e1, zlx_s, hb, zck_t, zlet_s, zck_t, zlet_s, zck_t, zlet_s, zck_t, zlet_s, hcl, nar0, oneX hlt, zb_s]
            have g0 : gI (sI (sI (sI (sI (sI (sI (sI (sI uX 3 n (nI K)) 4 n (nI V)) 5 n (nI h)) 6 n (nI 0)) 7 (4 * n + 0) (nI 0)) 7 (4 * n + 1) (nI 0)) 7 (4 * n + 2) (nI 0)) 7 (4 * n + 3) (nI 0)) 2 0 = nI n := by
              rw [gI_sI, if_neg (by omega), gI_sI, if_neg (by omega), gI_sI, if_neg (by omega), gI_sI, if_neg (by omega), gI_sI, if_neg (by omega), gI_sI, if_neg (by omega), gI_sI, if_neg (by omega), gI_sI, if_neg (by omega)]
              exact e1
            show some (nI n, sI (sI (sI (sI (sI (sI (sI (sI (sI uX 3 n (nI K)) 4 n (nI V)) 5 n (nI h)) 6 n (nI 0)) 7 (4 * n + 0) (nI 0)) 7 (4 * n + 1) (nI 0)) 7 (4 * n + 2) (nI 0)) 7 (4 * n + 3) (nI 0)) 2 0 (gI (sI (sI (sI (sI (sI (sI (sI (sI uX 3 n (nI K)) 4 n (nI V)) 5 n (nI h)) 6 n (nI 0)) 7 (4 * n + 0) (nI 0)) 7 (4 * n + 1) (nI 0)) 7 (4 * n + 2) (nI 0)) 7 (4 * n + 3) (nI 0)) 2 0 + 1)) = _
            rw [g0, nI_a1]
          · have g1 : gI (sI w 1 n (nI K)) 0 0 = nI n := by
              rw [gI_sI, if_neg (by omega)]
              exact e2
            have g2 : gI (sI (sI w 1 n (nI K)) 2 n (nI V)) 0 0 = nI n := by
              rw [gI_sI, if_neg (by omega)]
              exact g1
            have g3 : gI (sI (sI (sI w 1 n (nI K)) 2 n (nI V)) 3 n (nI h)) 0 0 = nI n := by
              rw [gI_sI, if_neg (by omega)]
              exact g2
            have g4 : gI (sI (sI (sI w 1 n (nI K)) 2 n (nI V)) 3 n (nI h)) 0 1 = nI A := by
              rw [gI_sI, if_neg (by omega), gI_sI, if_neg (by omega), gI_sI, if_neg (by omega)]
              exact eA
            have g5 : gI (sI (sI (sI (sI w 1 n (nI K)) 2 n (nI V)) 3 n (nI h)) 0 1 (nI (aclr A n))) 0 0 = nI n := by
              rw [gI_sI, if_neg (by omega)]
              exact g3
            rw [hb, zck_t, zlet_s, hcl, g1, hb, zck_t, zlet_s, hcl, g2, hb, zck_t, zlet_s, hcl, g3, g4, c1, zlet_s, oneM hlt _ g5]
          · show n ≤ n + 1
            omega
      · rw [show f_X8_isWithin p3 0 99 uX = some (0, uX) from wi_f (n := 99) (by decide) hp3 _, show f_X9_in p3 0 99 w = some (0, w) from in_f (n := 99) (by decide) hp3 _]
        exact ⟨-2, uX, w, T, rfl, rfl, hcc, Nat.le_refl _, Nat.le_refl _, xfr_rf _ _, dfr_rf _⟩
    · rw [show f_X8_isWithin p2 0 9 uX = some (0, uX) from wi_f (n := 9) (by decide) hp2 _, show f_X9_in p2 0 9 w = some (0, w) from in_f (n := 9) (by decide) hp2 _]
      exact ⟨-2, uX, w, T, rfl, rfl, hcc, Nat.le_refl _, Nat.le_refl _, xfr_rf _ _, dfr_rf _⟩
  · rw [show f_X8_isWithin p1 0 6 uX = some (0, uX) from wi_f (n := 6) (by decide) hp1 _, show f_X9_in p1 0 6 w = some (0, w) from in_f (n := 6) (by decide) hp1 _]
    exact ⟨-1, uX, w, T, rfl, rfl, hcc, Nat.le_refl _, Nat.le_refl _, xfr_rf _ _, dfr_rf _⟩
