/-! ===== the cells of the class and of the reference ===== -/
def SHX : List zS := [.inl (8, [(1 + 0) + 3, (25 + 0) + 3, 0, (2 + 0) + 3, (49 + 0) + 3, (63 + 0) + 3, (65 + 0) + 3, 0, (66 + 0) + 3, (68 + 0) + 3]),
  .inl (7, [(1 + 1) + 3, (1 + 12) + 3, (1 + 16) + 3, (1 + 20) + 3]),
  .inl (6, [0, (2 + 1) + 3, (2 + 2) + 3, (2 + 3) + 3, (2 + 4) + 3, (2 + 5) + 3, 0, (2 + 6) + 3, (2 + 7) + 3, (2 + 8) + 3, 0, 0, 2, (2 + 9) + 3, (2 + 10) + 3]),
  .inr (0, 6, 0, 0),
  .inr (0, 6, 0, 0),
  .inr (0, 6, 0, 0),
  .inr (1, 6, 0, 0),
  .inr (0, 24, 0, 0),
  .inr (0, 4, 0, 0),
  .inr (0, 4, 0, 0),
  .inr (0, 4, 0, 0),
  .inr (0, 6, 0, 0),
  .inr (0, 8, 0, 0),
  .inl (3, [(13 + 1) + 3, (13 + 2) + 3, (13 + 3) + 3, 0]),
  .inr (0, 5, 0, 0),
  .inr (0, 5, 0, 0),
  .inr (0, 5, 0, 0),
  .inl (3, [(17 + 1) + 3, (17 + 2) + 3, (17 + 3) + 3, 0]),
  .inr (0, 10, 0, 0),
  .inr (0, 10, 0, 0),
  .inr (0, 10, 0, 0),
  .inl (3, [(21 + 1) + 3, (21 + 2) + 3, (21 + 3) + 3, 0]),
  .inr (0, 8, 0, 0),
  .inr (0, 8, 0, 0),
  .inr (0, 8, 0, 0),
  .inl (7, [(25 + 1) + 3, (25 + 12) + 3, (25 + 16) + 3, (25 + 20) + 3]),
  .inl (6, [0, (26 + 1) + 3, (26 + 2) + 3, (26 + 3) + 3, (26 + 4) + 3, (26 + 5) + 3, 0, (26 + 6) + 3, (26 + 7) + 3, (26 + 8) + 3, 0, 0, 2, (26 + 9) + 3, (26 + 10) + 3]),
  .inr (0, 6, 0, 0),
  .inr (0, 6, 0, 0),
  .inr (0, 6, 0, 0),
  .inr (1, 6, 0, 0),
  .inr (0, 24, 0, 0),
  .inr (0, 4, 0, 0),
  .inr (0, 4, 0, 0),
  .inr (0, 4, 0, 0),
  .inr (0, 6, 0, 0),
  .inr (0, 8, 0, 0),
  .inl (3, [(37 + 1) + 3, (37 + 2) + 3, (37 + 3) + 3, 0]),
  .inr (0, 5, 0, 0),
  .inr (0, 5, 0, 0),
  .inr (0, 5, 0, 0),
  .inl (3, [(41 + 1) + 3, (41 + 2) + 3, (41 + 3) + 3, 0]),
  .inr (0, 10, 0, 0),
  .inr (0, 10, 0, 0),
  .inr (0, 10, 0, 0),
  .inl (3, [(45 + 1) + 3, (45 + 2) + 3, (45 + 3) + 3, 0]),
  .inr (0, 8, 0, 0),
  .inr (0, 8, 0, 0),
  .inr (0, 8, 0, 0),
  .inl (1, [(50 + 0) + 3, (2 + 0) + 3, (13 + 0) + 3, (51 + 0) + 3, (62 + 0) + 3, 0]),
  .inr (0, 4, 0, 0),
  .inl (6, [0, (51 + 1) + 3, (51 + 2) + 3, (51 + 3) + 3, (51 + 4) + 3, (51 + 5) + 3, 0, (51 + 6) + 3, (51 + 7) + 3, (51 + 8) + 3, 0, 0, 2, (51 + 9) + 3, (51 + 10) + 3]),
  .inr (0, 6, 0, 0),
  .inr (0, 6, 0, 0),
  .inr (0, 6, 0, 0),
  .inr (1, 6, 0, 0),
  .inr (0, 24, 0, 0),
  .inr (0, 4, 0, 0),
  .inr (0, 4, 0, 0),
  .inr (0, 4, 0, 0),
  .inr (0, 6, 0, 0),
  .inr (0, 8, 0, 0),
  .inr (0, 4, 0, 0),
  .inl (2, [0, 0, (64 + 0) + 3, 2]),
  .inr (2, 100, 0, 0),
  .inr (4, 6, 78, 3),
  .inl (0, [0, (67 + 0) + 3, 0, 0, 0]),
  .inr (0, 20, 0, 0),
  .inl (5, [(69 + 0) + 3, (70 + 0) + 3, (71 + 0) + 3]),
  .inr (0, 6, 0, 0),
  .inr (0, 6, 0, 0),
  .inr (5, 6, 72, 1),
  .inr (3, 60, 0, 0),
  .inr (3, 60, 0, 0),
  .inr (3, 60, 0, 0),
  .inr (3, 60, 0, 0),
  .inr (3, 60, 0, 0),
  .inr (3, 60, 0, 0),
  .inl (4, [0, (78 + 1) + 3, 0, (78 + 2) + 3, 0]),
  .inr (0, 100, 0, 0),
  .inr (0, 10, 0, 0),
  .inl (4, [0, (81 + 1) + 3, 0, (81 + 2) + 3, 0]),
  .inr (0, 100, 0, 0),
  .inr (0, 10, 0, 0),
  .inl (4, [0, (84 + 1) + 3, 0, (84 + 2) + 3, 0]),
  .inr (0, 100, 0, 0),
  .inr (0, 10, 0, 0),
  .inl (4, [0, (87 + 1) + 3, 0, (87 + 2) + 3, 0]),
  .inr (0, 100, 0, 0),
  .inr (0, 10, 0, 0),
  .inl (4, [0, (90 + 1) + 3, 0, (90 + 2) + 3, 0]),
  .inr (0, 100, 0, 0),
  .inr (0, 10, 0, 0),
  .inl (4, [0, (93 + 1) + 3, 0, (93 + 2) + 3, 0]),
  .inr (0, 100, 0, 0),
  .inr (0, 10, 0, 0)]
def SHM : List zS := [.inl (9, [0, 0, 0, 0, 0, (1 + 0) + 3, (2 + 0) + 3, (3 + 0) + 3, (4 + 0) + 3, (5 + 0) + 3, (6 + 0) + 3, (7 + 0) + 3, 0, 0, 0, 0, 0, (8 + 0) + 3, (9 + 0) + 3, (10 + 0) + 3, (11 + 0) + 3, (12 + 0) + 3, (13 + 0) + 3, (14 + 0) + 3, (15 + 0) + 3, 0, 0, 0, (16 + 0) + 3, (17 + 0) + 3, (18 + 0) + 3, 0, 0, 0, (19 + 0) + 3, (20 + 0) + 3, (21 + 0) + 3, (22 + 0) + 3, 0, (23 + 0) + 3, (24 + 0) + 3, (25 + 0) + 3, 0, 0, (26 + 0) + 3, (27 + 0) + 3, (28 + 0) + 3, (29 + 0) + 3, 0, 0, 0, 0, 0, 0, 0, 0, 0, 0, (30 + 0) + 3, (31 + 0) + 3, (32 + 0) + 3, (33 + 0) + 3, (34 + 0) + 3, (35 + 0) + 3, (36 + 0) + 3, (37 + 0) + 3, (38 + 0) + 3, (39 + 0) + 3, (40 + 0) + 3, (41 + 0) + 3, (42 + 0) + 3, (43 + 0) + 3, 0, (44 + 0) + 3, (45 + 0) + 3, (46 + 0) + 3, (47 + 0) + 3, (48 + 0) + 3]),
  .inr (0, 6, 0, 0),
  .inr (0, 6, 0, 0),
  .inr (0, 6, 0, 0),
  .inr (0, 24, 0, 0),
  .inr (0, 4, 0, 0),
  .inr (0, 4, 0, 0),
  .inr (0, 4, 0, 0),
  .inr (0, 100, 0, 0),
  .inr (0, 6, 0, 0),
  .inr (0, 60, 0, 0),
  .inr (0, 60, 0, 0),
  .inr (0, 60, 0, 0),
  .inr (0, 60, 0, 0),
  .inr (0, 600, 0, 0),
  .inr (0, 101, 0, 0),
  .inr (0, 13, 0, 0),
  .inr (1, 100, 0, 0),
  .inr (0, 6, 0, 0),
  .inr (0, 6, 0, 0),
  .inr (0, 4, 0, 0),
  .inr (0, 4, 0, 0),
  .inr (0, 4, 0, 0),
  .inr (0, 5, 0, 0),
  .inr (0, 5, 0, 0),
  .inr (1, 5, 0, 0),
  .inr (0, 10, 0, 0),
  .inr (0, 10, 0, 0),
  .inr (0, 8, 0, 0),
  .inr (0, 8, 0, 0),
  .inr (0, 6, 0, 0),
  .inr (0, 6, 0, 0),
  .inr (0, 6, 0, 0),
  .inr (0, 24, 0, 0),
  .inr (0, 4, 0, 0),
  .inr (0, 4, 0, 0),
  .inr (0, 4, 0, 0),
  .inr (0, 5, 0, 0),
  .inr (0, 5, 0, 0),
  .inr (0, 10, 0, 0),
  .inr (0, 10, 0, 0),
  .inr (0, 8, 0, 0),
  .inr (0, 8, 0, 0),
  .inr (1, 5, 0, 0),
  .inr (0, 20, 0, 0),
  .inr (0, 6, 0, 0),
  .inr (0, 6, 0, 0),
  .inr (3, 360, 0, 0),
  .inr (3, 60, 0, 0)]
/-- a Town, a Sheet of n rows, a Square, a Whole begin there -/
def zTn (t : Nat) : Prop := SHX[t]? = some (.inl (6, [0, (t + 1) + 3, (t + 2) + 3, (t + 3) + 3, (t + 4) + 3, (t + 5) + 3, 0, (t + 6) + 3, (t + 7) + 3, (t + 8) + 3, 0, 0, 2, (t + 9) + 3, (t + 10) + 3])) ∧ SHX[t + 1]? = some (.inr (0, 6, 0, 0)) ∧ SHX[t + 2]? = some (.inr (0, 6, 0, 0)) ∧ SHX[t + 3]? = some (.inr (0, 6, 0, 0)) ∧ SHX[t + 4]? = some (.inr (1, 6, 0, 0)) ∧ SHX[t + 5]? = some (.inr (0, 24, 0, 0)) ∧ SHX[t + 6]? = some (.inr (0, 4, 0, 0)) ∧ SHX[t + 7]? = some (.inr (0, 4, 0, 0)) ∧ SHX[t + 8]? = some (.inr (0, 4, 0, 0)) ∧ SHX[t + 9]? = some (.inr (0, 6, 0, 0)) ∧ SHX[t + 10]? = some (.inr (0, 8, 0, 0))
def zSn (s n : Nat) : Prop := SHX[s]? = some (.inl (3, [(s + 1) + 3, (s + 2) + 3, (s + 3) + 3, 0])) ∧ SHX[s + 1]? = some (.inr (0, n, 0, 0)) ∧ SHX[s + 2]? = some (.inr (0, n, 0, 0)) ∧ SHX[s + 3]? = some (.inr (0, n, 0, 0))
def zSq (q : Nat) : Prop := SHX[q]? = some (.inl (4, [0, (q + 1) + 3, 0, (q + 2) + 3, 0])) ∧ SHX[q + 1]? = some (.inr (0, 100, 0, 0)) ∧ SHX[q + 2]? = some (.inr (0, 10, 0, 0))
def zWh (w : Nat) : Prop := SHX[w]? = some (.inl (7, [(w + 1) + 3, (w + 12) + 3, (w + 16) + 3, (w + 20) + 3])) ∧ zTn (w + 1) ∧ zSn (w + 12) 5 ∧ zSn (w + 16) 10 ∧ zSn (w + 20) 8
theorem zTn_2 : zTn 2 := ⟨rfl, rfl, rfl, rfl, rfl, rfl, rfl, rfl, rfl, rfl, rfl⟩
theorem zTn_26 : zTn 26 := ⟨rfl, rfl, rfl, rfl, rfl, rfl, rfl, rfl, rfl, rfl, rfl⟩
theorem zTn_51 : zTn 51 := ⟨rfl, rfl, rfl, rfl, rfl, rfl, rfl, rfl, rfl, rfl, rfl⟩
theorem zSn_13 : zSn 13 5 := ⟨rfl, rfl, rfl, rfl⟩
theorem zSn_17 : zSn 17 10 := ⟨rfl, rfl, rfl, rfl⟩
theorem zSn_21 : zSn 21 8 := ⟨rfl, rfl, rfl, rfl⟩
theorem zSn_37 : zSn 37 5 := ⟨rfl, rfl, rfl, rfl⟩
theorem zSn_41 : zSn 41 10 := ⟨rfl, rfl, rfl, rfl⟩
theorem zSn_45 : zSn 45 8 := ⟨rfl, rfl, rfl, rfl⟩
theorem zSq_78 : zSq 78 := ⟨rfl, rfl, rfl⟩
theorem zSq_81 : zSq 81 := ⟨rfl, rfl, rfl⟩
theorem zSq_84 : zSq 84 := ⟨rfl, rfl, rfl⟩
theorem zSq_87 : zSq 87 := ⟨rfl, rfl, rfl⟩
theorem zSq_90 : zSq 90 := ⟨rfl, rfl, rfl⟩
theorem zSq_93 : zSq 93 := ⟨rfl, rfl, rfl⟩
theorem zWh_1 : zWh 1 := ⟨rfl, zTn_2, zSn_13, zSn_17, zSn_21⟩
theorem zWh_25 : zWh 25 := ⟨rfl, zTn_26, zSn_37, zSn_41, zSn_45⟩
def isT (t : Nat) : Bool := t == 2 || t == 26 || t == 51
theorem isT_sh {t : Nat} (h : isT t = true) : zTn t := by
  unfold isT at h
  rw [Bool.or_eq_true, Bool.or_eq_true, beq_iff_eq, beq_iff_eq, beq_iff_eq] at h
  rcases h with (h | h) | h <;> subst h
  · exact zTn_2
  · exact zTn_26
  · exact zTn_51
def isQ (q : Nat) : Bool := q == 78 || q == 81 || q == 84 || q == 87 || q == 90 || q == 93
theorem isQ_sh {q : Nat} (h : isQ q = true) : zSq q := by
  unfold isQ at h
  simp only [Bool.or_eq_true, beq_iff_eq] at h
  rcases h with ((((h | h) | h) | h) | h) | h <;> subst h
  · exact zSq_78
  · exact zSq_81
  · exact zSq_84
  · exact zSq_87
  · exact zSq_90
  · exact zSq_93
theorem inB_lt {i : Int32} {n : Nat} (h : inB i n = true) : i.toNatClampNeg < n := Nat.not_le.mp fun q => inB_in h (Or.inr q)
theorem zSq_at {i : Int32} (h : inB i 6 = true) : zSq (78 + 3 * i.toNatClampNeg) := by
  have h1 := inB_lt h
  generalize i.toNatClampNeg = k at h1 ⊢
  match k, h1 with
  | 0, _ => exact zSq_78
  | 1, _ => exact zSq_81
  | 2, _ => exact zSq_84
  | 3, _ => exact zSq_87
  | 4, _ => exact zSq_90
  | 5, _ => exact zSq_93
theorem zIt_at {i : Int32} (h : inB i 6 = true) : SHX[72 + 1 * i.toNatClampNeg]? = some (.inr (3, 60, 0, 0)) := by
  have h1 := inB_lt h
  generalize i.toNatClampNeg = k at h1 ⊢
  match k, h1 with
  | 0, _ => rfl
  | 1, _ => rfl
  | 2, _ => rfl
  | 3, _ => rfl
  | 4, _ => rfl
  | 5, _ => rfl
theorem shX_0 : SHX[0]? = some (.inl (8, [(1 + 0) + 3, (25 + 0) + 3, 0, (2 + 0) + 3, (49 + 0) + 3, (63 + 0) + 3, (65 + 0) + 3, 0, (66 + 0) + 3, (68 + 0) + 3])) := rfl
theorem shX_49 : SHX[49]? = some (.inl (1, [(50 + 0) + 3, (2 + 0) + 3, (13 + 0) + 3, (51 + 0) + 3, (62 + 0) + 3, 0])) := rfl
theorem shX_50 : SHX[50]? = some (.inr (0, 4, 0, 0)) := rfl
theorem shX_62 : SHX[62]? = some (.inr (0, 4, 0, 0)) := rfl
theorem shX_63 : SHX[63]? = some (.inl (2, [0, 0, (64 + 0) + 3, 2])) := rfl
theorem shX_64 : SHX[64]? = some (.inr (2, 100, 0, 0)) := rfl
theorem shX_65 : SHX[65]? = some (.inr (4, 6, 78, 3)) := rfl
theorem shX_66 : SHX[66]? = some (.inl (0, [0, (67 + 0) + 3, 0, 0, 0])) := rfl
theorem shX_67 : SHX[67]? = some (.inr (0, 20, 0, 0)) := rfl
theorem shX_68 : SHX[68]? = some (.inl (5, [(69 + 0) + 3, (70 + 0) + 3, (71 + 0) + 3])) := rfl
theorem shX_69 : SHX[69]? = some (.inr (0, 6, 0, 0)) := rfl
theorem shX_70 : SHX[70]? = some (.inr (0, 6, 0, 0)) := rfl
theorem shX_71 : SHX[71]? = some (.inr (5, 6, 72, 1)) := rfl
theorem shM_0 : SHM[0]? = some (.inl (9, [0, 0, 0, 0, 0, (1 + 0) + 3, (2 + 0) + 3, (3 + 0) + 3, (4 + 0) + 3, (5 + 0) + 3, (6 + 0) + 3, (7 + 0) + 3, 0, 0, 0, 0, 0, (8 + 0) + 3, (9 + 0) + 3, (10 + 0) + 3, (11 + 0) + 3, (12 + 0) + 3, (13 + 0) + 3, (14 + 0) + 3, (15 + 0) + 3, 0, 0, 0, (16 + 0) + 3, (17 + 0) + 3, (18 + 0) + 3, 0, 0, 0, (19 + 0) + 3, (20 + 0) + 3, (21 + 0) + 3, (22 + 0) + 3, 0, (23 + 0) + 3, (24 + 0) + 3, (25 + 0) + 3, 0, 0, (26 + 0) + 3, (27 + 0) + 3, (28 + 0) + 3, (29 + 0) + 3, 0, 0, 0, 0, 0, 0, 0, 0, 0, 0, (30 + 0) + 3, (31 + 0) + 3, (32 + 0) + 3, (33 + 0) + 3, (34 + 0) + 3, (35 + 0) + 3, (36 + 0) + 3, (37 + 0) + 3, (38 + 0) + 3, (39 + 0) + 3, (40 + 0) + 3, (41 + 0) + 3, (42 + 0) + 3, (43 + 0) + 3, 0, (44 + 0) + 3, (45 + 0) + 3, (46 + 0) + 3, (47 + 0) + 3, (48 + 0) + 3])) := rfl
theorem shM_1 : SHM[1]? = some (.inr (0, 6, 0, 0)) := rfl
theorem shM_2 : SHM[2]? = some (.inr (0, 6, 0, 0)) := rfl
theorem shM_3 : SHM[3]? = some (.inr (0, 6, 0, 0)) := rfl
theorem shM_4 : SHM[4]? = some (.inr (0, 24, 0, 0)) := rfl
theorem shM_5 : SHM[5]? = some (.inr (0, 4, 0, 0)) := rfl
theorem shM_6 : SHM[6]? = some (.inr (0, 4, 0, 0)) := rfl
theorem shM_7 : SHM[7]? = some (.inr (0, 4, 0, 0)) := rfl
theorem shM_8 : SHM[8]? = some (.inr (0, 100, 0, 0)) := rfl
theorem shM_9 : SHM[9]? = some (.inr (0, 6, 0, 0)) := rfl
theorem shM_10 : SHM[10]? = some (.inr (0, 60, 0, 0)) := rfl
theorem shM_11 : SHM[11]? = some (.inr (0, 60, 0, 0)) := rfl
theorem shM_12 : SHM[12]? = some (.inr (0, 60, 0, 0)) := rfl
theorem shM_13 : SHM[13]? = some (.inr (0, 60, 0, 0)) := rfl
theorem shM_14 : SHM[14]? = some (.inr (0, 600, 0, 0)) := rfl
theorem shM_15 : SHM[15]? = some (.inr (0, 101, 0, 0)) := rfl
theorem shM_16 : SHM[16]? = some (.inr (0, 13, 0, 0)) := rfl
theorem shM_17 : SHM[17]? = some (.inr (1, 100, 0, 0)) := rfl
theorem shM_18 : SHM[18]? = some (.inr (0, 6, 0, 0)) := rfl
theorem shM_19 : SHM[19]? = some (.inr (0, 6, 0, 0)) := rfl
theorem shM_20 : SHM[20]? = some (.inr (0, 4, 0, 0)) := rfl
theorem shM_21 : SHM[21]? = some (.inr (0, 4, 0, 0)) := rfl
theorem shM_22 : SHM[22]? = some (.inr (0, 4, 0, 0)) := rfl
theorem shM_23 : SHM[23]? = some (.inr (0, 5, 0, 0)) := rfl
theorem shM_24 : SHM[24]? = some (.inr (0, 5, 0, 0)) := rfl
theorem shM_25 : SHM[25]? = some (.inr (1, 5, 0, 0)) := rfl
theorem shM_26 : SHM[26]? = some (.inr (0, 10, 0, 0)) := rfl
theorem shM_27 : SHM[27]? = some (.inr (0, 10, 0, 0)) := rfl
theorem shM_28 : SHM[28]? = some (.inr (0, 8, 0, 0)) := rfl
theorem shM_29 : SHM[29]? = some (.inr (0, 8, 0, 0)) := rfl
theorem shM_30 : SHM[30]? = some (.inr (0, 6, 0, 0)) := rfl
theorem shM_31 : SHM[31]? = some (.inr (0, 6, 0, 0)) := rfl
theorem shM_32 : SHM[32]? = some (.inr (0, 6, 0, 0)) := rfl
theorem shM_33 : SHM[33]? = some (.inr (0, 24, 0, 0)) := rfl
theorem shM_34 : SHM[34]? = some (.inr (0, 4, 0, 0)) := rfl
theorem shM_35 : SHM[35]? = some (.inr (0, 4, 0, 0)) := rfl
theorem shM_36 : SHM[36]? = some (.inr (0, 4, 0, 0)) := rfl
theorem shM_37 : SHM[37]? = some (.inr (0, 5, 0, 0)) := rfl
theorem shM_38 : SHM[38]? = some (.inr (0, 5, 0, 0)) := rfl
theorem shM_39 : SHM[39]? = some (.inr (0, 10, 0, 0)) := rfl
theorem shM_40 : SHM[40]? = some (.inr (0, 10, 0, 0)) := rfl
theorem shM_41 : SHM[41]? = some (.inr (0, 8, 0, 0)) := rfl
theorem shM_42 : SHM[42]? = some (.inr (0, 8, 0, 0)) := rfl
theorem shM_43 : SHM[43]? = some (.inr (1, 5, 0, 0)) := rfl
theorem shM_44 : SHM[44]? = some (.inr (0, 20, 0, 0)) := rfl
theorem shM_45 : SHM[45]? = some (.inr (0, 6, 0, 0)) := rfl
theorem shM_46 : SHM[46]? = some (.inr (0, 6, 0, 0)) := rfl
theorem shM_47 : SHM[47]? = some (.inr (3, 360, 0, 0)) := rfl
theorem shM_48 : SHM[48]? = some (.inr (3, 60, 0, 0)) := rfl
