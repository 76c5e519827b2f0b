/-! ===== PURE: the acts in lockstep, rings and tells ===== -/
section
variable {a K : Nat} {V : Int32}
theorem ac_R1 {m x : Int32} {e f : Nat} (ha : a < 6) (hK : K < 7) (hb : ∀ u, f_X0_bodyOf m 1 u = some (11, u)) (he : e + 2 < 20) : AcS 3 a K V (f_X0_run (f + 3) m 1 x (nI e)) (f_X9_oneRings (nI a) x) :=
  AcS_of (fun uX w h => ru_11 uX hb (e20 (by omega))) (fun uX w h => rfl) (AcS_note 11 (AcS_bind (c := 2) (c' := 0) (AcS_of (gx := f_X0_run (f + 2) (nI K) 0 x (nI (e + 1))) (fun uX w h => by rw [h.2.1, nI_a1]) (fun _ _ _ => rfl) (ac_GA ha hK (by omega))) fun y => AcS_0 fun _ _ h => ⟨y - V, by rw [h.2.2.1], by rw [inB_n ha (by decide), zck_t, nI_cl (by omega), h.2.2.2.2]⟩))
theorem ac_B1 {m x : Int32} {e f : Nat} (ha : a < 6) (hK : K < 7) (hb : ∀ u, f_X0_bodyOf m 1 u = some (20, u)) (he : e + 3 < 20) : AcS 4 a K V (f_X0_run (f + 4) m 1 x (nI e)) (f_X9_bankerRings (nI a) x) :=
  AcS_of (fun uX w h => (ru_20 uX hb (e20 (by omega))).trans (by rw [nI_a1])) (fun uX w h => rfl) (AcS_note 20 (AcS_bind (c' := 0) (ac_R1 (f := f) ha hK bo_01 (by omega)) fun y => AcS_0 fun _ _ _ => ⟨y ^^^ 6, rfl, rfl⟩))
theorem rA {x : Int32} {w uX : zM} (ha : a < 6) (h : AcX a K V uX w) : f_X9_ringsAct (nI a) x w = (if nI K = (1 : Int32) then zb (f_X9_bankerRings (nI a) x w) fun y4 u5 => some (y4, u5) else if nI K = (4 : Int32) then zb (f_X9_body (51 : Int32) w) fun _ u8 => zb (f_X9_bankerRings (nI a) (x + (1 : Int32)) u8) fun y9 u10 => some (y9, u10) else if nI K = (6 : Int32) then zb (f_X9_body (70 : Int32) w) fun _ u13 => zb (f_X9_oneRings (nI a) x u13) fun y14 u15 => zb (f_X9_oneGlows (nI a) (2 : Int32) u15) fun y16 u17 => some ((y14 + y16), u17) else zb (f_X9_oneRings (nI a) x w) fun y18 u19 => some (y18, u19)) := by
  unfold f_X9_ringsAct
  rw [inB_n ha (by decide), zck_t, zlx_s, nI_cl (by omega), h.2.2.2.1]
theorem ac_RA {x : Int32} {e f : Nat} (ha : a < 6) (hK : K < 7) (he : e + 4 < 20) : AcS 5 a K V (f_X0_run (f + 5) (nI K) 1 x (nI e)) (f_X9_ringsAct (nI a) x) := by
  have hE : nI e + 1 = nI (e + 1) := nI_a1 e
  have hQ : ∀ {m : Int32}, (∀ u, f_X0_bodyOf m 1 u = some (11, u)) → AcS 5 a K V (f_X0_run (f + 5) m 1 x (nI e)) (f_X9_oneRings (nI a) x) := fun hb => AcS_le (c := 3) (by omega) (ac_R1 (f := f + 2) ha hK hb (by omega))
  have h : K = 0 ∨ K = 1 ∨ K = 2 ∨ K = 3 ∨ K = 4 ∨ K = 5 ∨ K = 6 := by omega
  rcases h with rfl | rfl | rfl | rfl | rfl | rfl | rfl
  · exact AcS_of (fun _ _ _ => rfl) (fun uX w h => (rA ha h).trans (zb_eta _)) (hQ bo_01)
  · exact AcS_of (fun _ _ _ => rfl) (fun uX w h => (rA ha h).trans (zb_eta _)) (AcS_le (c := 4) (by omega) (ac_B1 (f := f + 1) ha hK bo_11 (by omega)))
  · exact AcS_of (fun _ _ _ => rfl) (fun uX w h => (rA ha h).trans (zb_eta _)) (hQ bo_21)
  · exact AcS_of (fun _ _ _ => rfl) (fun uX w h => (rA ha h).trans (zb_eta _)) (hQ bo_31)
  · exact AcS_of (fun uX w h => (ru_51 uX bo_41 (e20 (by omega))).trans (by rw [hE])) (fun uX w h => rA ha h) (AcS_note 51 (AcS_bind (c' := 0) (ac_B1 (f := f) ha hK bo_11 (by omega)) fun y => AcS_0 fun _ _ _ => ⟨y, rfl, rfl⟩))
  · exact AcS_of (fun _ _ _ => rfl) (fun uX w h => (rA ha h).trans (zb_eta _)) (hQ bo_51)
  · exact AcS_of (fun uX w h => (ru_70 uX bo_61 (e20 (by omega))).trans (by rw [hE])) (fun uX w h => rA ha h) (AcS_note 70 (AcS_bind (c := 3) (c' := 1) (ac_R1 (f := f + 1) ha hK bo_31 (by omega)) fun y => AcS_bind (c := 1) (c' := 0) (ac_G1 (f := f + 3) bo_30 (by omega)) fun y2 => AcS_0 fun _ _ _ => ⟨y + y2, rfl, rfl⟩))
theorem ac_T1 {m x : Int32} {e f : Nat} (ha : a < 6) (hK : K < 7) (hb : ∀ u, f_X0_bodyOf m 2 u = some (12, u)) (he : e + 5 < 20) : AcS 6 a K V (f_X0_run (f + 6) m 2 x (nI e)) (f_X9_oneTells (nI a) x) :=
  AcS_of (fun uX w h => ru_12 uX hb (e20 (by omega))) (fun uX w h => rfl) (AcS_note 12 (AcS_bind (c := 5) (c' := 0) (AcS_of (gx := f_X0_run (f + 5) (nI K) 1 x (nI (e + 1))) (fun uX w h => by rw [h.2.1, nI_a1]) (fun _ _ _ => rfl) (ac_RA ha hK (by omega))) fun y => AcS_0 fun _ _ h => ⟨y * 2, rfl, rfl⟩))
theorem tA {x : Int32} {w uX : zM} (ha : a < 6) (h : AcX a K V uX w) : f_X9_tellsAct (nI a) x w = (if nI K = (3 : Int32) then f_X9_tellsAct_L36 (nI a) x w else if nI K = (4 : Int32) then zb (f_X9_oneTells (nI a) x w) fun y11 u12 => some (y11, u12) else if nI K = (5 : Int32) then zb (f_X9_body (60 : Int32) w) fun _ u15 => zb (f_X9_oneTells (nI a) (x - nI a) u15) fun y16 u17 => some (y16, u17) else if nI K = (6 : Int32) then f_X9_tellsAct_L36 (nI a) x w else zb (f_X9_oneTells (nI a) x w) fun y19 u20 => some (y19, u20)) := by
  unfold f_X9_tellsAct
  rw [inB_n ha (by decide), zck_t, zlx_s, nI_cl (by omega), h.2.2.2.1]
theorem ac_40 {m x : Int32} {e f : Nat} (ha : a < 6) (hK : K < 7) (hb : ∀ u, f_X0_bodyOf m 2 u = some (40, u)) (he : e + 6 < 20) : AcS 12 a K V (f_X0_run (f + 7) m 2 x (nI e)) (f_X9_tellsAct_L36 (nI a) x) :=
  AcS_of (fun uX w h => (ru_40 uX hb (e20 (by omega))).trans (by rw [nI_a1])) (fun uX w h => rfl) (AcS_note 40 (AcS_bind (c := 6) (c' := 5) (ac_T1 (f := f) ha hK bo_02 (by omega)) fun y => AcS_bind (c := 5) (c' := 0) (AcS_of (gx := f_X0_run (f + 6) (nI K) 1 1 (nI (e + 1))) (fun uX w h => by rw [h.2.1]) (fun _ _ _ => rfl) (ac_RA (f := f + 1) ha hK (by omega))) fun y2 => AcS_0 fun _ _ _ => ⟨y + y2, rfl, rfl⟩))
theorem ac_TA {x : Int32} {e f : Nat} (ha : a < 6) (hK : K < 7) (he : e + 6 < 20) : AcS 12 a K V (f_X0_run (f + 7) (nI K) 2 x (nI e)) (f_X9_tellsAct (nI a) x) := by
  have hE : nI e + 1 = nI (e + 1) := nI_a1 e
  have hQ : ∀ {m : Int32}, (∀ u, f_X0_bodyOf m 2 u = some (12, u)) → AcS 12 a K V (f_X0_run (f + 7) m 2 x (nI e)) (f_X9_oneTells (nI a) x) := fun hb => AcS_le (c := 6) (by omega) (ac_T1 (f := f + 1) ha hK hb (by omega))
  have h : K = 0 ∨ K = 1 ∨ K = 2 ∨ K = 3 ∨ K = 4 ∨ K = 5 ∨ K = 6 := by omega
  rcases h with rfl | rfl | rfl | rfl | rfl | rfl | rfl
  · exact AcS_of (fun _ _ _ => rfl) (fun uX w h => (tA ha h).trans (zb_eta _)) (hQ bo_02)
  · exact AcS_of (fun _ _ _ => rfl) (fun uX w h => (tA ha h).trans (zb_eta _)) (hQ bo_12)
  · exact AcS_of (fun _ _ _ => rfl) (fun uX w h => (tA ha h).trans (zb_eta _)) (hQ bo_22)
  · exact AcS_of (fun _ _ _ => rfl) (fun uX w h => tA ha h) (ac_40 ha hK bo_32 he)
  · exact AcS_of (fun _ _ _ => rfl) (fun uX w h => (tA ha h).trans (zb_eta _)) (hQ bo_42)
  · exact AcS_le (c := 7) (by omega) (AcS_of (fun uX w h => ru_60 uX bo_52 (e20 (by omega))) (fun uX w h => tA ha h) (AcS_note 60 (AcS_bind (c := 6) (c' := 0) (AcS_of (gx := f_X0_run (f + 6) 2 2 (x - nI a) (nI (e + 1))) (fun uX w h => by rw [h.1, hE]) (fun _ _ _ => rfl) (ac_T1 (f := f) ha hK bo_22 (by omega))) fun y => AcS_0 fun _ _ _ => ⟨y, rfl, rfl⟩)))
  · exact AcS_of (fun _ _ _ => rfl) (fun uX w h => tA ha h) (ac_40 ha hK bo_62 he)
end
