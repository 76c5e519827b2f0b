/-! ===== PURE: the image's two doors ===== -/
theorem image_all2 {k z1 z2 z3 : Nat} {T S1 S2 S3 : zT} (w : zM) (h : BunC w T S1 z1 S2 z2 S3 z3) (ho : BunO k T S1 z1 S2 z2 S3 z3) : ∃ w', f_X9_image w = some (nI (T 0 0), w') ∧ BunI w' T S1 z1 S2 z2 S3 z3 ∧ gI w' 0 48 = nI 1 ∧ frP (fun a i => (30 ≤ a ∧ a ≤ 43) ∨ (a = 0 ∧ 48 ≤ i ∧ i ≤ 57)) w w' := by
  obtain ⟨h1, h2, h3, h4⟩ := h
  obtain ⟨o1, o2, o3, o4, o5⟩ := ho
  obtain ⟨w', e, g30, g31, g32, g33, g34, g35, g36, g37, g38, g43, g39, g40, g41, g42, fr, fJ, fO⟩ := image_all (sI (sI (sI (sI (sI (sI (sI (sI (sI (sI w 0 48 1) 0 49 (gI w 0 13)) 0 50 (gI w 0 0)) 0 51 (gI w 0 1)) 0 52 (gI w 0 2)) 0 53 (gI w 0 3)) 0 54 (gI w 0 4)) 0 55 (gI w 0 38)) 0 56 (gI w 0 42)) 0 57 (gI w 0 43))
  have f0 : ∀ x, gI w' 0 x = gI (sI (sI (sI (sI (sI (sI (sI (sI (sI (sI w 0 48 1) 0 49 (gI w 0 13)) 0 50 (gI w 0 0)) 0 51 (gI w 0 1)) 0 52 (gI w 0 2)) 0 53 (gI w 0 3)) 0 54 (gI w 0 4)) 0 55 (gI w 0 38)) 0 56 (gI w 0 42)) 0 57 (gI w 0 43)) 0 x := fun x => fr 0 x (by decide) (by decide) (by decide) (by decide) (by decide) (by decide) (by decide) (by decide) (by decide) (by decide) (by decide) (by decide) (by decide) (by decide)
  have fa : ∀ a x, a ≠ 0 → gI (sI (sI (sI (sI (sI (sI (sI (sI (sI (sI w 0 48 1) 0 49 (gI w 0 13)) 0 50 (gI w 0 0)) 0 51 (gI w 0 1)) 0 52 (gI w 0 2)) 0 53 (gI w 0 3)) 0 54 (gI w 0 4)) 0 55 (gI w 0 38)) 0 56 (gI w 0 42)) 0 57 (gI w 0 43)) a x = gI w a x := by
    intro a x ha
    repeat rw [gI_sI, if_neg (by omega)]
  have s48 : gI w' 0 48 = nI 1 := by rw [f0]; simp [gI_sI]; rfl
  have s49 : gI w' 0 49 = gI w 0 13 := by rw [f0]; simp [gI_sI]
  have s50 : gI w' 0 50 = gI w 0 0 := by rw [f0]; simp [gI_sI]
  have s51 : gI w' 0 51 = gI w 0 1 := by rw [f0]; simp [gI_sI]
  have s52 : gI w' 0 52 = gI w 0 2 := by rw [f0]; simp [gI_sI]
  have s53 : gI w' 0 53 = gI w 0 3 := by rw [f0]; simp [gI_sI]
  have s54 : gI w' 0 54 = gI w 0 4 := by rw [f0]; simp [gI_sI]
  have s55 : gI w' 0 55 = gI w 0 38 := by rw [f0]; simp [gI_sI]
  have s56 : gI w' 0 56 = gI w 0 42 := by rw [f0]; simp [gI_sI]
  have s57 : gI w' 0 57 = gI w 0 43 := by rw [f0]; simp [gI_sI]
  have s0 : gI w' 0 0 = gI w 0 0 := by rw [f0]; simp [gI_sI]
  have hz1 := o3.1
  have hz2 := o4.1
  have hz3 := o5.1
  refine ⟨w', ?_, ⟨VM_cp h1 o1 (fun j hj => ?_) s49 (fun c i hc1 hc2 hi => ?_) (fun i hi => (g33 i hi).trans (fa _ _ (by decide))) (fun c i hc1 hc2 hi => ?_), ⟨s55.trans h2.1, fun i hi => ?_⟩, ⟨s56.trans h3.1, fun i hi => ?_⟩, ⟨s57.trans h4.1, fun i hi => ?_⟩⟩, s48, ⟨fun a x q => ?_, fJ, fO⟩⟩
  · unfold f_X9_image
    rw [zlet_s, zlet_s, zlet_s, zlet_s, zlet_s, zlet_s, zlet_s, zlet_s, zlet_s, zlet_s]
    have r : gI w' 0 0 = nI (T 0 0) := s0.trans h1.1
    rw [← r, ← e]
    simp [gI_sI]
  · have hc : j = 0 ∨ j = 1 ∨ j = 2 ∨ j = 3 ∨ j = 4 := by omega
    rcases hc with rfl | rfl | rfl | rfl | rfl
    · exact s50
    · exact s51
    · exact s52
    · exact s53
    · exact s54
  · have hc : c = 1 ∨ c = 2 ∨ c = 3 := by omega
    rcases hc with rfl | rfl | rfl
    · exact (g30 i hi).trans (fa _ _ (by decide))
    · exact (g31 i hi).trans (fa _ _ (by decide))
    · exact (g32 i hi).trans (fa _ _ (by decide))
  · have hc : c = 5 ∨ c = 6 ∨ c = 7 := by omega
    rcases hc with rfl | rfl | rfl
    · exact (g34 i hi).trans (fa _ _ (by decide))
    · exact (g35 i hi).trans (fa _ _ (by decide))
    · exact (g36 i hi).trans (fa _ _ (by decide))
  · obtain ⟨b1, b2, b3⟩ := h2.2 i hi
    have b4 := (o3.2 i hi).2.2
    exact ⟨(g37 i (by omega)).trans ((fa _ _ (by decide)).trans b1), (g38 i (by omega)).trans ((fa _ _ (by decide)).trans b2), by rw [g43 i (by omega), fa _ _ (by decide), b3, nar01 _ b4]⟩
  · obtain ⟨b1, b2⟩ := h3.2 i hi
    exact ⟨(g39 i (by omega)).trans ((fa _ _ (by decide)).trans b1), fun q => (g40 i (by omega)).trans ((fa _ _ (by decide)).trans (b2 q))⟩
  · obtain ⟨b1, b2⟩ := h4.2 i hi
    exact ⟨(g41 i (by omega)).trans ((fa _ _ (by decide)).trans b1), (g42 i (by omega)).trans ((fa _ _ (by decide)).trans b2)⟩
  · by_cases ha : a = 0
    · subst ha
      rw [f0]
      repeat rw [gI_sI, if_neg (by omega)]
    · rw [fr a x (by omega) (by omega) (by omega) (by omega) (by omega) (by omega) (by omega) (by omega) (by omega) (by omega) (by omega) (by omega) (by omega) (by omega), fa a x ha]
theorem undo_all2 {k z1 z2 z3 : Nat} {T S1 S2 S3 : zT} (w : zM) (h48 : gI w 0 48 = nI 1) (h : BunI w T S1 z1 S2 z2 S3 z3) (ho : BunO k T S1 z1 S2 z2 S3 z3) : ∃ w', f_X9_undo w = some (nI (T 0 0), w') ∧ BunC w' T S1 z1 S2 z2 S3 z3 ∧ frP (fun a i => (1 ≤ a ∧ a ≤ 7) ∨ (23 ≤ a ∧ a ≤ 29) ∨ (a = 0 ∧ (i ≤ 4 ∨ i = 13 ∨ i = 38 ∨ i = 42 ∨ i = 43))) w w' := by
  obtain ⟨h1, h2, h3, h4⟩ := h
  obtain ⟨o1, o2, o3, o4, o5⟩ := ho
  obtain ⟨w', e, g1, g2, g3, g4, g5, g6, g7, g23, g24, g25, g26, g27, g28, g29, fr, fJ, fO⟩ := undo_all (sI (sI (sI (sI (sI (sI (sI (sI (sI w 0 13 (gI w 0 49)) 0 0 (gI w 0 50)) 0 1 (gI w 0 51)) 0 2 (gI w 0 52)) 0 3 (gI w 0 53)) 0 4 (gI w 0 54)) 0 38 (gI w 0 55)) 0 42 (gI w 0 56)) 0 43 (gI w 0 57))
  have f0 : ∀ x, gI w' 0 x = gI (sI (sI (sI (sI (sI (sI (sI (sI (sI w 0 13 (gI w 0 49)) 0 0 (gI w 0 50)) 0 1 (gI w 0 51)) 0 2 (gI w 0 52)) 0 3 (gI w 0 53)) 0 4 (gI w 0 54)) 0 38 (gI w 0 55)) 0 42 (gI w 0 56)) 0 43 (gI w 0 57)) 0 x := fun x => fr 0 x (by decide) (by decide) (by decide) (by decide) (by decide) (by decide) (by decide) (by decide) (by decide) (by decide) (by decide) (by decide) (by decide) (by decide)
  have fa : ∀ a x, a ≠ 0 → gI (sI (sI (sI (sI (sI (sI (sI (sI (sI w 0 13 (gI w 0 49)) 0 0 (gI w 0 50)) 0 1 (gI w 0 51)) 0 2 (gI w 0 52)) 0 3 (gI w 0 53)) 0 4 (gI w 0 54)) 0 38 (gI w 0 55)) 0 42 (gI w 0 56)) 0 43 (gI w 0 57)) a x = gI w a x := by
    intro a x ha
    repeat rw [gI_sI, if_neg (by omega)]
  have s13 : gI w' 0 13 = gI w 0 49 := by rw [f0]; simp [gI_sI]
  have s0 : gI w' 0 0 = gI w 0 50 := by rw [f0]; simp [gI_sI]
  have s1 : gI w' 0 1 = gI w 0 51 := by rw [f0]; simp [gI_sI]
  have s2 : gI w' 0 2 = gI w 0 52 := by rw [f0]; simp [gI_sI]
  have s3 : gI w' 0 3 = gI w 0 53 := by rw [f0]; simp [gI_sI]
  have s4 : gI w' 0 4 = gI w 0 54 := by rw [f0]; simp [gI_sI]
  have s38 : gI w' 0 38 = gI w 0 55 := by rw [f0]; simp [gI_sI]
  have s42 : gI w' 0 42 = gI w 0 56 := by rw [f0]; simp [gI_sI]
  have s43 : gI w' 0 43 = gI w 0 57 := by rw [f0]; simp [gI_sI]
  have hz1 := o3.1
  have hz2 := o4.1
  have hz3 := o5.1
  refine ⟨w', ?_, ⟨VM_cp h1 o1 (fun j hj => ?_) s13 (fun c i hc1 hc2 hi => ?_) (fun i hi => (g4 i hi).trans (fa _ _ (by decide))) (fun c i hc1 hc2 hi => ?_), ⟨s38.trans h2.1, fun i hi => ?_⟩, ⟨s42.trans h3.1, fun i hi => ?_⟩, ⟨s43.trans h4.1, fun i hi => ?_⟩⟩, ⟨fun a x q => ?_, fJ, fO⟩⟩
  · unfold f_X9_undo
    rw [h48, if_neg (by decide), zlet_s, zlet_s, zlet_s, zlet_s, zlet_s, zlet_s, zlet_s, zlet_s, zlet_s]
    have r : gI w' 0 0 = nI (T 0 0) := s0.trans h1.1
    rw [← r, ← e]
    simp [gI_sI]
  · have hc : j = 0 ∨ j = 1 ∨ j = 2 ∨ j = 3 ∨ j = 4 := by omega
    rcases hc with rfl | rfl | rfl | rfl | rfl
    · exact s0
    · exact s1
    · exact s2
    · exact s3
    · exact s4
  · have hc : c = 1 ∨ c = 2 ∨ c = 3 := by omega
    rcases hc with rfl | rfl | rfl
    · exact (g1 i hi).trans (fa _ _ (by decide))
    · exact (g2 i hi).trans (fa _ _ (by decide))
    · exact (g3 i hi).trans (fa _ _ (by decide))
  · have hc : c = 5 ∨ c = 6 ∨ c = 7 := by omega
    rcases hc with rfl | rfl | rfl
    · exact (g5 i hi).trans (fa _ _ (by decide))
    · exact (g6 i hi).trans (fa _ _ (by decide))
    · exact (g7 i hi).trans (fa _ _ (by decide))
  · obtain ⟨b1, b2, b3⟩ := h2.2 i hi
    have b4 := (o3.2 i hi).2.2
    exact ⟨(g23 i (by omega)).trans ((fa _ _ (by decide)).trans b1), (g24 i (by omega)).trans ((fa _ _ (by decide)).trans b2), by rw [g25 i (by omega), fa _ _ (by decide), b3, nar01 _ b4]⟩
  · obtain ⟨b1, b2⟩ := h3.2 i hi
    exact ⟨(g26 i (by omega)).trans ((fa _ _ (by decide)).trans b1), fun q => (g27 i (by omega)).trans ((fa _ _ (by decide)).trans (b2 q))⟩
  · obtain ⟨b1, b2⟩ := h4.2 i hi
    exact ⟨(g28 i (by omega)).trans ((fa _ _ (by decide)).trans b1), (g29 i (by omega)).trans ((fa _ _ (by decide)).trans b2)⟩
  · by_cases ha : a = 0
    · subst ha
      rw [f0]
      repeat rw [gI_sI, if_neg (by omega)]
    · rw [fr a x (by omega) (by omega) (by omega) (by omega) (by omega) (by omega) (by omega) (by omega) (by omega) (by omega) (by omega) (by omega) (by omega) (by omega), fa a x ha]
