/-! ===== PURE: the acts in lockstep ===== -/
theorem zb_eta {β : Type} (o : Option (β × zM)) : (zb o fun y u => some (y, u)) = o := by
  rcases o with _ | ⟨y, u⟩ <;> rfl
def AcX (a K : Nat) (V : Int32) (uX w : zM) : Prop := gI uX 66 2 = nI a ∧ gI uX 66 3 = nI K ∧ gI uX 66 4 = V ∧ gI w 1 a = nI K ∧ gI w 2 a = V
theorem AcX_fr {a K : Nat} {V : Int32} {uX w uX' w' : zM} (h : AcX a K V uX w) (f : acX uX uX') (g : acM w w') : AcX a K V uX' w' := ⟨(f.1 66 2 (by omega) (by omega)).trans h.1, (f.1 66 3 (by omega) (by omega)).trans h.2.1, (f.1 66 4 (by omega) (by omega)).trans h.2.2.1, (g.1 1 a (by omega) (by omega)).trans h.2.2.2.1, (g.1 2 a (by omega) (by omega)).trans h.2.2.2.2⟩
def AcS (c a K : Nat) (V : Int32) (fx fm : zM → Option (Int32 × zM)) : Prop := ∀ n uX w, n + c ≤ 1000 → RActN n uX w → AcX a K V uX w → ∃ r n' uX' w', fx uX = some (r, uX') ∧ fm w = some (r, w') ∧ n' ≤ n + c ∧ RActN n' uX' w' ∧ acX uX uX' ∧ acM w w'
section
variable {c c' a K : Nat} {V : Int32} {fx fm gx gm : zM → Option (Int32 × zM)}
theorem AcS_le (hc : c ≤ c') (h : AcS c a K V fx fm) : AcS c' a K V fx fm := by
  intro n uX w hn hr hx
  obtain ⟨r, n1, u1, w1, e1, e2, hl, hr1, f1, g1⟩ := h n uX w (by omega) hr hx
  exact ⟨r, n1, u1, w1, e1, e2, by omega, hr1, f1, g1⟩
theorem AcS_of (hx : ∀ uX w, AcX a K V uX w → fx uX = gx uX) (hm : ∀ uX w, AcX a K V uX w → fm w = gm w) (h : AcS c a K V gx gm) : AcS c a K V fx fm := by
  intro n uX w hn hr hc
  rw [hx uX w hc, hm uX w hc]
  exact h n uX w hn hr hc
theorem AcS_0 (h : ∀ uX w, AcX a K V uX w → ∃ r, fx uX = some (r, uX) ∧ fm w = some (r, w)) : AcS 0 a K V fx fm := by
  intro n uX w hn hr hx
  obtain ⟨r, e1, e2⟩ := h uX w hx
  exact ⟨r, n, uX, w, e1, e2, Nat.le_refl _, hr, acX_rf _, acM_rf _⟩
theorem AcS_bind {kx km : Int32 → zM → Option (Int32 × zM)} (h : AcS c a K V fx fm) (k : ∀ y, AcS c' a K V (kx y) (km y)) : AcS (c + c') a K V (fun u => zb (fx u) fun y v => kx y v) (fun u => zb (fm u) fun y v => km y v) := by
  intro n uX w hn hr hx
  obtain ⟨r, n1, u1, w1, e1, e2, hl, hr1, f1, g1⟩ := h n uX w (by omega) hr hx
  obtain ⟨r2, n2, u2, w2, d1, d2, hl2, hr2, f2, g2⟩ := k r n1 u1 w1 (by omega) hr1 (AcX_fr hx f1 g1)
  refine ⟨r2, n2, u2, w2, ?_, ?_, by omega, hr2, acX_tr f1 f2, acM_tr g1 g2⟩
  · show zb (fx uX) _ = _
    rw [e1]
    exact d1
  · show zb (fm w) _ = _
    rw [e2]
    exact d2
theorem AcS_note (b : Int32) (h : AcS c a K V fx fm) : AcS (c + 1) a K V (fun u => zb (f_X0_note b u) fun _ v => fx v) (fun u => zb (f_X9_body b u) fun _ v => fm v) := by
  intro n uX w hn hr hx
  obtain ⟨u1, w1, e1, e2, hr1, f1, g1⟩ := note_sim (n := n) (by omega) hr b
  obtain ⟨r2, n2, u2, w2, d1, d2, hl2, hr2, f2, g2⟩ := h (n + 1) u1 w1 (by omega) hr1 (AcX_fr hx f1 g1)
  refine ⟨r2, n2, u2, w2, ?_, ?_, by omega, hr2, acX_tr f1 f2, acM_tr g1 g2⟩
  · show zb (f_X0_note b uX) _ = _
    rw [e1]
    exact d1
  · show zb (f_X9_body b w) _ = _
    rw [e2]
    exact d2
end
theorem e20 {e : Nat} (h : e < 20) : nI e < 20 := nI_lt (b := 20) h (by decide)
section
variable {a K : Nat} {V : Int32}
theorem ac_G1 {m x : Int32} {e f : Nat} (hb : ∀ u, f_X0_bodyOf m 0 u = some (10, u)) (he : e < 20) : AcS 1 a K V (f_X0_run (f + 1) m 0 x (nI e)) (f_X9_oneGlows (nI a) x) :=
  AcS_of (fun uX w h => ru_10 uX hb (e20 he)) (fun uX w h => rfl) (AcS_note 10 (AcS_0 fun uX w h => ⟨x + nI a, by rw [h.1], rfl⟩))
theorem gA {x : Int32} {w uX : zM} (ha : a < 6) (h : AcX a K V uX w) : f_X9_glowsAct (nI a) x w = (if nI K = (2 : Int32) then f_X9_glowsAct_L40 (nI a) x w else if nI K = (3 : Int32) then zb (f_X9_oneGlows (nI a) x w) fun y9 u10 => some (y9, u10) else if nI K = (4 : Int32) then zb (f_X9_body (50 : Int32) w) fun _ u13 => zb (f_X9_oneGlows (nI a) x u13) fun y14 u15 => some ((-y14), u15) else if nI K = (5 : Int32) then f_X9_glowsAct_L40 (nI a) x w else if nI K = (6 : Int32) then zb (f_X9_body (71 : Int32) w) fun _ u19 => zb (f_X9_oneGlows (nI a) x u19) fun y20 u21 => zck (inB (nI a) 6) <| some ((y20 ^^^ (gI u21 2 (nI a).toNatClampNeg)), u21) else zb (f_X9_oneGlows (nI a) x w) fun y23 u24 => some (y23, u24)) := by
  unfold f_X9_glowsAct
  rw [inB_n ha (by decide), zck_t, zlx_s, nI_cl (by omega), h.2.2.2.1]
theorem ac_GA {x : Int32} {e f : Nat} (ha : a < 6) (hK : K < 7) (he : e + 1 < 20) : AcS 2 a K V (f_X0_run (f + 2) (nI K) 0 x (nI e)) (f_X9_glowsAct (nI a) x) := by
  have hE : nI e + 1 = nI (e + 1) := nI_a1 e
  have h : K = 0 ∨ K = 1 ∨ K = 2 ∨ K = 3 ∨ K = 4 ∨ K = 5 ∨ K = 6 := by omega
  rcases h with rfl | rfl | rfl | rfl | rfl | rfl | rfl
  · exact AcS_le (c := 1) (by omega) (AcS_of (fun _ _ _ => rfl) (fun uX w h => (gA ha h).trans (zb_eta _)) (ac_G1 bo_00 (by omega)))
  · exact AcS_le (c := 1) (by omega) (AcS_of (fun _ _ _ => rfl) (fun uX w h => (gA ha h).trans (zb_eta _)) (ac_G1 bo_10 (by omega)))
  · exact AcS_of (fun uX w h => (ru_30 uX bo_20 (e20 (by omega))).trans (by rw [hE])) (fun uX w h => gA ha h) (AcS_note 30 (AcS_bind (c' := 0) (ac_G1 (f := f) bo_00 he) fun y => AcS_0 fun _ _ _ => ⟨y, rfl, rfl⟩))
  · exact AcS_le (c := 1) (by omega) (AcS_of (fun _ _ _ => rfl) (fun uX w h => (gA ha h).trans (zb_eta _)) (ac_G1 bo_30 (by omega)))
  · exact AcS_of (fun uX w h => (ru_50 uX bo_40 (e20 (by omega))).trans (by rw [hE])) (fun uX w h => gA ha h) (AcS_note 50 (AcS_bind (c' := 0) (ac_G1 (f := f) bo_10 he) fun y => AcS_0 fun _ _ _ => ⟨-y, rfl, rfl⟩))
  · exact AcS_of (fun uX w h => (ru_30 uX bo_50 (e20 (by omega))).trans (by rw [hE])) (fun uX w h => gA ha h) (AcS_note 30 (AcS_bind (c' := 0) (ac_G1 (f := f) bo_00 he) fun y => AcS_0 fun _ _ _ => ⟨y, rfl, rfl⟩))
  · exact AcS_of (fun uX w h => (ru_71 uX bo_60 (e20 (by omega))).trans (by rw [hE])) (fun uX w h => gA ha h) (AcS_note 71 (AcS_bind (c' := 0) (ac_G1 (f := f) bo_30 he) fun y => AcS_0 fun _ _ h => ⟨y ^^^ V, by rw [h.2.2.1], by rw [inB_n ha (by decide), zck_t, nI_cl (by omega), h.2.2.2.2]⟩))
end
