/-! ===== PURE: one run of the acts, by its body ===== -/
theorem ru_10 {m al x d : Int32} {f : Nat} (u : zM) (hb : ∀ u, f_X0_bodyOf m al u = some (10, u)) (hd : d < 20) : f_X0_run (f + 1) m al x d u = zb (f_X0_note 10 u) fun _ u4 => some (x + gI u4 66 2, u4) := by
  show f_X0_run_b _ _ _ _ _ _ = _
  unfold f_X0_run_b
  rw [hb, zb_s, if_neg (show ¬ (10 : Int32) = 0 by decide), if_pos hd]
  rfl
theorem ru_11 {m al x d : Int32} {f : Nat} (u : zM) (hb : ∀ u, f_X0_bodyOf m al u = some (11, u)) (hd : d < 20) : f_X0_run (f + 1) m al x d u = zb (f_X0_note 11 u) fun _ u4 => zb (f_X0_run f (gI u4 66 3) 0 x (d + 1) u4) fun y v => some (y - gI v 66 4, v) := by
  show f_X0_run_b _ _ _ _ _ _ = _
  unfold f_X0_run_b
  rw [hb, zb_s, if_neg (show ¬ (11 : Int32) = 0 by decide), if_pos hd]
  rfl
theorem ru_12 {m al x d : Int32} {f : Nat} (u : zM) (hb : ∀ u, f_X0_bodyOf m al u = some (12, u)) (hd : d < 20) : f_X0_run (f + 1) m al x d u = zb (f_X0_note 12 u) fun _ u4 => zb (f_X0_run f (gI u4 66 3) 1 x (d + 1) u4) fun y v => some (y * 2, v) := by
  show f_X0_run_b _ _ _ _ _ _ = _
  unfold f_X0_run_b
  rw [hb, zb_s, if_neg (show ¬ (12 : Int32) = 0 by decide), if_pos hd]
  rfl
theorem ru_20 {m al x d : Int32} {f : Nat} (u : zM) (hb : ∀ u, f_X0_bodyOf m al u = some (20, u)) (hd : d < 20) : f_X0_run (f + 1) m al x d u = zb (f_X0_note 20 u) fun _ u4 => zb (f_X0_run f 0 1 x (d + 1) u4) fun y v => some (y ^^^ 6, v) := by
  show f_X0_run_b _ _ _ _ _ _ = _
  unfold f_X0_run_b
  rw [hb, zb_s, if_neg (show ¬ (20 : Int32) = 0 by decide), if_pos hd]
  rfl
theorem ru_30 {m al x d : Int32} {f : Nat} (u : zM) (hb : ∀ u, f_X0_bodyOf m al u = some (30, u)) (hd : d < 20) : f_X0_run (f + 1) m al x d u = zb (f_X0_note 30 u) fun _ u4 => zb (f_X0_run f 0 0 (x * 3) (d + 1) u4) fun y v => some (y, v) := by
  show f_X0_run_b _ _ _ _ _ _ = _
  unfold f_X0_run_b
  rw [hb, zb_s, if_neg (show ¬ (30 : Int32) = 0 by decide), if_pos hd]
  rfl
theorem ru_40 {m al x d : Int32} {f : Nat} (u : zM) (hb : ∀ u, f_X0_bodyOf m al u = some (40, u)) (hd : d < 20) : f_X0_run (f + 1) m al x d u = zb (f_X0_note 40 u) fun _ u4 => zb (f_X0_run f 0 2 x (d + 1) u4) fun y v => zb (f_X0_run f (gI v 66 3) 1 1 (d + 1) v) fun y2 v2 => some (y + y2, v2) := by
  show f_X0_run_b _ _ _ _ _ _ = _
  unfold f_X0_run_b
  rw [hb, zb_s, if_neg (show ¬ (40 : Int32) = 0 by decide), if_pos hd]
  rfl
theorem ru_50 {m al x d : Int32} {f : Nat} (u : zM) (hb : ∀ u, f_X0_bodyOf m al u = some (50, u)) (hd : d < 20) : f_X0_run (f + 1) m al x d u = zb (f_X0_note 50 u) fun _ u4 => zb (f_X0_run f 1 0 x (d + 1) u4) fun y v => some (-y, v) := by
  show f_X0_run_b _ _ _ _ _ _ = _
  unfold f_X0_run_b
  rw [hb, zb_s, if_neg (show ¬ (50 : Int32) = 0 by decide), if_pos hd]
  rfl
theorem ru_51 {m al x d : Int32} {f : Nat} (u : zM) (hb : ∀ u, f_X0_bodyOf m al u = some (51, u)) (hd : d < 20) : f_X0_run (f + 1) m al x d u = zb (f_X0_note 51 u) fun _ u4 => zb (f_X0_run f 1 1 (x + 1) (d + 1) u4) fun y v => some (y, v) := by
  show f_X0_run_b _ _ _ _ _ _ = _
  unfold f_X0_run_b
  rw [hb, zb_s, if_neg (show ¬ (51 : Int32) = 0 by decide), if_pos hd]
  rfl
theorem ru_60 {m al x d : Int32} {f : Nat} (u : zM) (hb : ∀ u, f_X0_bodyOf m al u = some (60, u)) (hd : d < 20) : f_X0_run (f + 1) m al x d u = zb (f_X0_note 60 u) fun _ u4 => zb (f_X0_run f 2 2 (x - gI u4 66 2) (d + 1) u4) fun y v => some (y, v) := by
  show f_X0_run_b _ _ _ _ _ _ = _
  unfold f_X0_run_b
  rw [hb, zb_s, if_neg (show ¬ (60 : Int32) = 0 by decide), if_pos hd]
  rfl
theorem ru_70 {m al x d : Int32} {f : Nat} (u : zM) (hb : ∀ u, f_X0_bodyOf m al u = some (70, u)) (hd : d < 20) : f_X0_run (f + 1) m al x d u = zb (f_X0_note 70 u) fun _ u4 => zb (f_X0_run f 3 1 x (d + 1) u4) fun y v => zb (f_X0_run f 3 0 2 (d + 1) v) fun y2 v2 => some (y + y2, v2) := by
  show f_X0_run_b _ _ _ _ _ _ = _
  unfold f_X0_run_b
  rw [hb, zb_s, if_neg (show ¬ (70 : Int32) = 0 by decide), if_pos hd]
  rfl
theorem ru_71 {m al x d : Int32} {f : Nat} (u : zM) (hb : ∀ u, f_X0_bodyOf m al u = some (71, u)) (hd : d < 20) : f_X0_run (f + 1) m al x d u = zb (f_X0_note 71 u) fun _ u4 => zb (f_X0_run f 3 0 x (d + 1) u4) fun y v => some (y ^^^ gI v 66 4, v) := by
  show f_X0_run_b _ _ _ _ _ _ = _
  unfold f_X0_run_b
  rw [hb, zb_s, if_neg (show ¬ (71 : Int32) = 0 by decide), if_pos hd]
  rfl
theorem bo_00 (u : zM) : f_X0_bodyOf 0 0 u = some (10, u) := rfl
theorem bo_01 (u : zM) : f_X0_bodyOf 0 1 u = some (11, u) := rfl
theorem bo_02 (u : zM) : f_X0_bodyOf 0 2 u = some (12, u) := rfl
theorem bo_10 (u : zM) : f_X0_bodyOf 1 0 u = some (10, u) := rfl
theorem bo_11 (u : zM) : f_X0_bodyOf 1 1 u = some (20, u) := rfl
theorem bo_12 (u : zM) : f_X0_bodyOf 1 2 u = some (12, u) := rfl
theorem bo_20 (u : zM) : f_X0_bodyOf 2 0 u = some (30, u) := rfl
theorem bo_21 (u : zM) : f_X0_bodyOf 2 1 u = some (11, u) := rfl
theorem bo_22 (u : zM) : f_X0_bodyOf 2 2 u = some (12, u) := rfl
theorem bo_30 (u : zM) : f_X0_bodyOf 3 0 u = some (10, u) := rfl
theorem bo_31 (u : zM) : f_X0_bodyOf 3 1 u = some (11, u) := rfl
theorem bo_32 (u : zM) : f_X0_bodyOf 3 2 u = some (40, u) := rfl
theorem bo_40 (u : zM) : f_X0_bodyOf 4 0 u = some (50, u) := rfl
theorem bo_41 (u : zM) : f_X0_bodyOf 4 1 u = some (51, u) := rfl
theorem bo_42 (u : zM) : f_X0_bodyOf 4 2 u = some (12, u) := rfl
theorem bo_50 (u : zM) : f_X0_bodyOf 5 0 u = some (30, u) := rfl
theorem bo_51 (u : zM) : f_X0_bodyOf 5 1 u = some (11, u) := rfl
theorem bo_52 (u : zM) : f_X0_bodyOf 5 2 u = some (60, u) := rfl
theorem bo_60 (u : zM) : f_X0_bodyOf 6 0 u = some (71, u) := rfl
theorem bo_61 (u : zM) : f_X0_bodyOf 6 1 u = some (70, u) := rfl
theorem bo_62 (u : zM) : f_X0_bodyOf 6 2 u = some (40, u) := rfl
