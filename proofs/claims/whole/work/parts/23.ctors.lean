def SGX : List zS := [.inl (8, [2, 2, 0, 2, 2, 2, 2, 0, 2, 2]),
  .inl (7, [2, 2, 2, 2]),
  .inl (6, [0, 2, 2, 2, 2, 2, 0, 2, 2, 2, 0, 0, 2, 2, 2]),
  .inr (0, 6, 0, 0),
  .inr (0, 6, 0, 0),
  .inr (0, 6, 0, 0),
  .inr (1, 6, 0, 0),
  .inr (0, 24, 0, 0),
  .inr (0, 4, 0, 0),
  .inr (0, 4, 0, 0),
  .inr (0, 4, 0, 0),
  .inr (0, 6, 0, 0),
  .inr (0, 8, 0, 0),
  .inl (3, [2, 2, 2, 0]),
  .inr (0, 5, 0, 0),
  .inr (0, 5, 0, 0),
  .inr (0, 5, 0, 0),
  .inl (3, [2, 2, 2, 0]),
  .inr (0, 10, 0, 0),
  .inr (0, 10, 0, 0),
  .inr (0, 10, 0, 0),
  .inl (3, [2, 2, 2, 0]),
  .inr (0, 8, 0, 0),
  .inr (0, 8, 0, 0),
  .inr (0, 8, 0, 0),
  .inl (7, [2, 2, 2, 2]),
  .inl (6, [0, 2, 2, 2, 2, 2, 0, 2, 2, 2, 0, 0, 2, 2, 2]),
  .inr (0, 6, 0, 0),
  .inr (0, 6, 0, 0),
  .inr (0, 6, 0, 0),
  .inr (1, 6, 0, 0),
  .inr (0, 24, 0, 0),
  .inr (0, 4, 0, 0),
  .inr (0, 4, 0, 0),
  .inr (0, 4, 0, 0),
  .inr (0, 6, 0, 0),
  .inr (0, 8, 0, 0),
  .inl (3, [2, 2, 2, 0]),
  .inr (0, 5, 0, 0),
  .inr (0, 5, 0, 0),
  .inr (0, 5, 0, 0),
  .inl (3, [2, 2, 2, 0]),
  .inr (0, 10, 0, 0),
  .inr (0, 10, 0, 0),
  .inr (0, 10, 0, 0),
  .inl (3, [2, 2, 2, 0]),
  .inr (0, 8, 0, 0),
  .inr (0, 8, 0, 0),
  .inr (0, 8, 0, 0),
  .inl (1, [2, 2, 2, 2, 2, 0]),
  .inr (0, 4, 0, 0),
  .inl (6, [0, 2, 2, 2, 2, 2, 0, 2, 2, 2, 0, 0, 2, 2, 2]),
  .inr (0, 6, 0, 0),
  .inr (0, 6, 0, 0),
  .inr (0, 6, 0, 0),
  .inr (1, 6, 0, 0),
  .inr (0, 24, 0, 0),
  .inr (0, 4, 0, 0),
  .inr (0, 4, 0, 0),
  .inr (0, 4, 0, 0),
  .inr (0, 6, 0, 0),
  .inr (0, 8, 0, 0),
  .inr (0, 4, 0, 0),
  .inl (2, [0, 0, 2, 2]),
  .inr (2, 100, 0, 0),
  .inr (6, 6, 0, 0),
  .inl (0, [0, 2, 0, 0, 0]),
  .inr (0, 20, 0, 0),
  .inl (5, [2, 2, 2]),
  .inr (0, 6, 0, 0),
  .inr (0, 6, 0, 0),
  .inr (7, 6, 0, 0),
  .inr (3, 60, 0, 0),
  .inr (3, 60, 0, 0),
  .inr (3, 60, 0, 0),
  .inr (3, 60, 0, 0),
  .inr (3, 60, 0, 0),
  .inr (3, 60, 0, 0),
  .inl (4, [0, 2, 0, 2, 0]),
  .inr (0, 100, 0, 0),
  .inr (0, 10, 0, 0),
  .inl (4, [0, 2, 0, 2, 0]),
  .inr (0, 100, 0, 0),
  .inr (0, 10, 0, 0),
  .inl (4, [0, 2, 0, 2, 0]),
  .inr (0, 100, 0, 0),
  .inr (0, 10, 0, 0),
  .inl (4, [0, 2, 0, 2, 0]),
  .inr (0, 100, 0, 0),
  .inr (0, 10, 0, 0),
  .inl (4, [0, 2, 0, 2, 0]),
  .inr (0, 100, 0, 0),
  .inr (0, 10, 0, 0),
  .inl (4, [0, 2, 0, 2, 0]),
  .inr (0, 100, 0, 0),
  .inr (0, 10, 0, 0)]
def SGM : List zS := [.inl (9, [0, 0, 0, 0, 0, 2, 2, 2, 2, 2, 2, 2, 0, 0, 0, 0, 0, 2, 2, 2, 2, 2, 2, 2, 2, 0, 0, 0, 2, 2, 2, 0, 0, 0, 2, 2, 2, 2, 0, 2, 2, 2, 0, 0, 2, 2, 2, 2, 0, 0, 0, 0, 0, 0, 0, 0, 0, 0, 2, 2, 2, 2, 2, 2, 2, 2, 2, 2, 2, 2, 2, 2, 0, 2, 2, 2, 2, 2]),
  .inr (0, 6, 0, 0),
  .inr (0, 6, 0, 0),
  .inr (0, 6, 0, 0),
  .inr (0, 24, 0, 0),
  .inr (0, 4, 0, 0),
  .inr (0, 4, 0, 0),
  .inr (0, 4, 0, 0),
  .inr (0, 100, 0, 0),
  .inr (0, 6, 0, 0),
  .inr (0, 60, 0, 0),
  .inr (0, 60, 0, 0),
  .inr (0, 60, 0, 0),
  .inr (0, 60, 0, 0),
  .inr (0, 600, 0, 0),
  .inr (0, 101, 0, 0),
  .inr (0, 13, 0, 0),
  .inr (1, 100, 0, 0),
  .inr (0, 6, 0, 0),
  .inr (0, 6, 0, 0),
  .inr (0, 4, 0, 0),
  .inr (0, 4, 0, 0),
  .inr (0, 4, 0, 0),
  .inr (0, 5, 0, 0),
  .inr (0, 5, 0, 0),
  .inr (1, 5, 0, 0),
  .inr (0, 10, 0, 0),
  .inr (0, 10, 0, 0),
  .inr (0, 8, 0, 0),
  .inr (0, 8, 0, 0),
  .inr (0, 6, 0, 0),
  .inr (0, 6, 0, 0),
  .inr (0, 6, 0, 0),
  .inr (0, 24, 0, 0),
  .inr (0, 4, 0, 0),
  .inr (0, 4, 0, 0),
  .inr (0, 4, 0, 0),
  .inr (0, 5, 0, 0),
  .inr (0, 5, 0, 0),
  .inr (0, 10, 0, 0),
  .inr (0, 10, 0, 0),
  .inr (0, 8, 0, 0),
  .inr (0, 8, 0, 0),
  .inr (1, 5, 0, 0),
  .inr (0, 20, 0, 0),
  .inr (0, 6, 0, 0),
  .inr (0, 6, 0, 0),
  .inr (3, 360, 0, 0),
  .inr (3, 60, 0, 0)]
def zNewB (S : zS) : Bool := match S with
  | .inl o => o.2.all (fun kd => kd == 0 || kd == 2)
  | .inr r => r.1 == 0 || r.1 == 1 || r.1 == 2 || r.1 == 3 || r.1 == 6 || r.1 == 7
theorem zNewB_new {S : zS} (h : zNewB S = true) : zNew S := by
  cases S with
  | inl o =>
    intro kd hk
    have := List.all_eq_true.mp h kd hk
    simpa using this
  | inr r =>
    have h : (r.1 == 0 || r.1 == 1 || r.1 == 2 || r.1 == 3 || r.1 == 6 || r.1 == 7) = true := h
    simp only [Bool.or_eq_true, beq_iff_eq] at h
    show r.1 = 0 ∨ r.1 = 1 ∨ r.1 = 2 ∨ r.1 = 3 ∨ r.1 = 6 ∨ r.1 = 7
    omega
theorem SGX_new : ∀ S ∈ SGX, zNew S := fun S hS => zNewB_new (List.all_eq_true.mp (show SGX.all zNewB = true by decide +kernel) S hS)
theorem SGM_new : ∀ S ∈ SGM, zNew S := fun S hS => zNewB_new (List.all_eq_true.mp (show SGM.all zNewB = true by decide +kernel) S hS)
def gTn (t : Nat) : Prop := SGX[t]? = some (.inl (6, [0, 2, 2, 2, 2, 2, 0, 2, 2, 2, 0, 0, 2, 2, 2])) ∧ SGX[t + 1]? = some (.inr (0, 6, 0, 0)) ∧ SGX[t + 2]? = some (.inr (0, 6, 0, 0)) ∧ SGX[t + 3]? = some (.inr (0, 6, 0, 0)) ∧ SGX[t + 4]? = some (.inr (1, 6, 0, 0)) ∧ SGX[t + 5]? = some (.inr (0, 24, 0, 0)) ∧ SGX[t + 6]? = some (.inr (0, 4, 0, 0)) ∧ SGX[t + 7]? = some (.inr (0, 4, 0, 0)) ∧ SGX[t + 8]? = some (.inr (0, 4, 0, 0)) ∧ SGX[t + 9]? = some (.inr (0, 6, 0, 0)) ∧ SGX[t + 10]? = some (.inr (0, 8, 0, 0)) ∧ t + 11 ≤ SGX.length
def gSn (t n : Nat) : Prop := SGX[t]? = some (.inl (3, [2, 2, 2, 0])) ∧ SGX[t + 1]? = some (.inr (0, n, 0, 0)) ∧ SGX[t + 2]? = some (.inr (0, n, 0, 0)) ∧ SGX[t + 3]? = some (.inr (0, n, 0, 0)) ∧ t + 4 ≤ SGX.length
def gSq (t : Nat) : Prop := SGX[t]? = some (.inl (4, [0, 2, 0, 2, 0])) ∧ SGX[t + 1]? = some (.inr (0, 100, 0, 0)) ∧ SGX[t + 2]? = some (.inr (0, 10, 0, 0)) ∧ t + 3 ≤ SGX.length
def gWh (t : Nat) : Prop := SGX[t]? = some (.inl (7, [2, 2, 2, 2])) ∧ gTn (t + 1) ∧ gSn (t + 12) 5 ∧ gSn (t + 16) 10 ∧ gSn (t + 20) 8
theorem gTn_2 : gTn 2 := ⟨rfl, rfl, rfl, rfl, rfl, rfl, rfl, rfl, rfl, rfl, rfl, by decide⟩
theorem gTn_26 : gTn 26 := ⟨rfl, rfl, rfl, rfl, rfl, rfl, rfl, rfl, rfl, rfl, rfl, by decide⟩
theorem gTn_51 : gTn 51 := ⟨rfl, rfl, rfl, rfl, rfl, rfl, rfl, rfl, rfl, rfl, rfl, by decide⟩
theorem gSn_13 : gSn 13 5 := ⟨rfl, rfl, rfl, rfl, by decide⟩
theorem gSn_17 : gSn 17 10 := ⟨rfl, rfl, rfl, rfl, by decide⟩
theorem gSn_21 : gSn 21 8 := ⟨rfl, rfl, rfl, rfl, by decide⟩
theorem gSn_37 : gSn 37 5 := ⟨rfl, rfl, rfl, rfl, by decide⟩
theorem gSn_41 : gSn 41 10 := ⟨rfl, rfl, rfl, rfl, by decide⟩
theorem gSn_45 : gSn 45 8 := ⟨rfl, rfl, rfl, rfl, by decide⟩
theorem gSq_78 : gSq 78 := ⟨rfl, rfl, rfl, by decide⟩
theorem gSq_81 : gSq 81 := ⟨rfl, rfl, rfl, by decide⟩
theorem gSq_84 : gSq 84 := ⟨rfl, rfl, rfl, by decide⟩
theorem gSq_87 : gSq 87 := ⟨rfl, rfl, rfl, by decide⟩
theorem gSq_90 : gSq 90 := ⟨rfl, rfl, rfl, by decide⟩
theorem gSq_93 : gSq 93 := ⟨rfl, rfl, rfl, by decide⟩
theorem gWh_1 : gWh 1 := ⟨rfl, gTn_2, gSn_13, gSn_17, gSn_21⟩
theorem gWh_25 : gWh 25 := ⟨rfl, gTn_26, gSn_37, gSn_41, gSn_45⟩
theorem sgX_0 : SGX[0]? = some (.inl (8, [2, 2, 0, 2, 2, 2, 2, 0, 2, 2])) := rfl
theorem sgX_49 : SGX[49]? = some (.inl (1, [2, 2, 2, 2, 2, 0])) := rfl
theorem sgX_50 : SGX[50]? = some (.inr (0, 4, 0, 0)) := rfl
theorem sgX_62 : SGX[62]? = some (.inr (0, 4, 0, 0)) := rfl
theorem sgX_63 : SGX[63]? = some (.inl (2, [0, 0, 2, 2])) := rfl
theorem sgX_64 : SGX[64]? = some (.inr (2, 100, 0, 0)) := rfl
theorem sgX_65 : SGX[65]? = some (.inr (6, 6, 0, 0)) := rfl
theorem sgX_66 : SGX[66]? = some (.inl (0, [0, 2, 0, 0, 0])) := rfl
theorem sgX_67 : SGX[67]? = some (.inr (0, 20, 0, 0)) := rfl
theorem sgX_68 : SGX[68]? = some (.inl (5, [2, 2, 2])) := rfl
theorem sgX_69 : SGX[69]? = some (.inr (0, 6, 0, 0)) := rfl
theorem sgX_70 : SGX[70]? = some (.inr (0, 6, 0, 0)) := rfl
theorem sgX_71 : SGX[71]? = some (.inr (7, 6, 0, 0)) := rfl
theorem sgX_it : ∀ j, j < 6 → SGX[71 + 1 + j]? = some (.inr (3, 60, 0, 0)) := fun j hj => match j, hj with
  | 0, _ => rfl
  | 1, _ => rfl
  | 2, _ => rfl
  | 3, _ => rfl
  | 4, _ => rfl
  | 5, _ => rfl
theorem sgM_0 : SGM[0]? = some (.inl (9, [0, 0, 0, 0, 0, 2, 2, 2, 2, 2, 2, 2, 0, 0, 0, 0, 0, 2, 2, 2, 2, 2, 2, 2, 2, 0, 0, 0, 2, 2, 2, 0, 0, 0, 2, 2, 2, 2, 0, 2, 2, 2, 0, 0, 2, 2, 2, 2, 0, 0, 0, 0, 0, 0, 0, 0, 0, 0, 2, 2, 2, 2, 2, 2, 2, 2, 2, 2, 2, 2, 2, 2, 0, 2, 2, 2, 2, 2])) := rfl
theorem sgM_1 : SGM[1]? = some (.inr (0, 6, 0, 0)) := rfl
theorem sgM_2 : SGM[2]? = some (.inr (0, 6, 0, 0)) := rfl
theorem sgM_3 : SGM[3]? = some (.inr (0, 6, 0, 0)) := rfl
theorem sgM_4 : SGM[4]? = some (.inr (0, 24, 0, 0)) := rfl
theorem sgM_5 : SGM[5]? = some (.inr (0, 4, 0, 0)) := rfl
theorem sgM_6 : SGM[6]? = some (.inr (0, 4, 0, 0)) := rfl
theorem sgM_7 : SGM[7]? = some (.inr (0, 4, 0, 0)) := rfl
theorem sgM_8 : SGM[8]? = some (.inr (0, 100, 0, 0)) := rfl
theorem sgM_9 : SGM[9]? = some (.inr (0, 6, 0, 0)) := rfl
theorem sgM_10 : SGM[10]? = some (.inr (0, 60, 0, 0)) := rfl
theorem sgM_11 : SGM[11]? = some (.inr (0, 60, 0, 0)) := rfl
theorem sgM_12 : SGM[12]? = some (.inr (0, 60, 0, 0)) := rfl
theorem sgM_13 : SGM[13]? = some (.inr (0, 60, 0, 0)) := rfl
theorem sgM_14 : SGM[14]? = some (.inr (0, 600, 0, 0)) := rfl
theorem sgM_15 : SGM[15]? = some (.inr (0, 101, 0, 0)) := rfl
theorem sgM_16 : SGM[16]? = some (.inr (0, 13, 0, 0)) := rfl
theorem sgM_17 : SGM[17]? = some (.inr (1, 100, 0, 0)) := rfl
theorem sgM_18 : SGM[18]? = some (.inr (0, 6, 0, 0)) := rfl
theorem sgM_19 : SGM[19]? = some (.inr (0, 6, 0, 0)) := rfl
theorem sgM_20 : SGM[20]? = some (.inr (0, 4, 0, 0)) := rfl
theorem sgM_21 : SGM[21]? = some (.inr (0, 4, 0, 0)) := rfl
theorem sgM_22 : SGM[22]? = some (.inr (0, 4, 0, 0)) := rfl
theorem sgM_23 : SGM[23]? = some (.inr (0, 5, 0, 0)) := rfl
theorem sgM_24 : SGM[24]? = some (.inr (0, 5, 0, 0)) := rfl
theorem sgM_25 : SGM[25]? = some (.inr (1, 5, 0, 0)) := rfl
theorem sgM_26 : SGM[26]? = some (.inr (0, 10, 0, 0)) := rfl
theorem sgM_27 : SGM[27]? = some (.inr (0, 10, 0, 0)) := rfl
theorem sgM_28 : SGM[28]? = some (.inr (0, 8, 0, 0)) := rfl
theorem sgM_29 : SGM[29]? = some (.inr (0, 8, 0, 0)) := rfl
theorem sgM_30 : SGM[30]? = some (.inr (0, 6, 0, 0)) := rfl
theorem sgM_31 : SGM[31]? = some (.inr (0, 6, 0, 0)) := rfl
theorem sgM_32 : SGM[32]? = some (.inr (0, 6, 0, 0)) := rfl
theorem sgM_33 : SGM[33]? = some (.inr (0, 24, 0, 0)) := rfl
theorem sgM_34 : SGM[34]? = some (.inr (0, 4, 0, 0)) := rfl
theorem sgM_35 : SGM[35]? = some (.inr (0, 4, 0, 0)) := rfl
theorem sgM_36 : SGM[36]? = some (.inr (0, 4, 0, 0)) := rfl
theorem sgM_37 : SGM[37]? = some (.inr (0, 5, 0, 0)) := rfl
theorem sgM_38 : SGM[38]? = some (.inr (0, 5, 0, 0)) := rfl
theorem sgM_39 : SGM[39]? = some (.inr (0, 10, 0, 0)) := rfl
theorem sgM_40 : SGM[40]? = some (.inr (0, 10, 0, 0)) := rfl
theorem sgM_41 : SGM[41]? = some (.inr (0, 8, 0, 0)) := rfl
theorem sgM_42 : SGM[42]? = some (.inr (0, 8, 0, 0)) := rfl
theorem sgM_43 : SGM[43]? = some (.inr (1, 5, 0, 0)) := rfl
theorem sgM_44 : SGM[44]? = some (.inr (0, 20, 0, 0)) := rfl
theorem sgM_45 : SGM[45]? = some (.inr (0, 6, 0, 0)) := rfl
theorem sgM_46 : SGM[46]? = some (.inr (0, 6, 0, 0)) := rfl
theorem sgM_47 : SGM[47]? = some (.inr (3, 360, 0, 0)) := rfl
theorem sgM_48 : SGM[48]? = some (.inr (3, 60, 0, 0)) := rfl
def z0 : zM := (fun _ _ => 0, fun _ _ => 0, fun _ _ => none)
def uSn (t : Nat) (u : zM) : zM := (sO (sO (sO u t 0 (some (t + 1))) t 1 (some (t + 2))) t 2 (some (t + 3)))
set_option maxRecDepth 20000 in
theorem nX3_init {t n : Nat} (hT : gSn t n) (nn : Int32) (hn1 : ¬ nn < 0) (hn2 : nn.toNatClampNeg = n) (hn3 : n * componentBytes .int ≤ 536870912) (u : zM) (d : Nat) (hd : 2 ≤ d) : zMetN SGX yX3_init cX3_init 2 d (0 + 1 + 1 + 1) (0 + n + n + n) [.ref t, .int nn] (t + 1) u (t + 4) (uSn t u) := by
  refine zMetN_of SGX_new (by have := hT.2.2.2.2; omega) (by decide +kernel) (fun as => Nat.le_of_ble_eq_true rfl) (by omega) (fun p l e s m args below meth c as0 dA D C => ?_) rfl
  have C : zCn p s m args meth c dA D SGX d 2 RX3 cX3_init := C
  show GoN p l e s m args below meth c dA D SGX as0 (t + 1) d (0 + 1 + 1 + 1) (0 + n + n + n) 2 (t + 4) (uSn t u) 0 [(0, .ref t), (1, .int nn)] [] (t + 1) u 0 0
  refine N_aload_n C 0 dX3_init_0 rfl rfl ?_
  refine N_objInit C wo3 wOi1 wOi2 (Nat.le_of_ble_eq_true rfl) dX3_init_1 ?_
  refine N_aload_n C 0 dX3_init_4 rfl rfl ?_
  refine N_iload_n C 1 dX3_init_5 rfl rfl ?_
  refine N_newaI (n' := n) C hT.2.1 wa_int hn1 hn2 hn3 (by omega) (by omega) dX3_init_6 ?_
  refine N_putOF (ty := .array .int) C 0 hT.1 (by omega) rfl rfl (by decide) wf3_7 rfl rfl (by decide +kernel) (fun _ => rfl) (fun _ => rfl) dX3_init_8 ?_
  refine N_aload_n C 0 dX3_init_11 rfl rfl ?_
  refine N_iload_n C 1 dX3_init_12 rfl rfl ?_
  refine N_newaI (n' := n) C hT.2.2.1 wa_int hn1 hn2 hn3 (by omega) (by omega) dX3_init_13 ?_
  refine N_putOF (ty := .array .int) C 1 hT.1 (by omega) rfl rfl (by decide) wf3_13 rfl rfl (by decide +kernel) (fun _ => rfl) (fun _ => rfl) dX3_init_15 ?_
  refine N_aload_n C 0 dX3_init_18 rfl rfl ?_
  refine N_iload_n C 1 dX3_init_19 rfl rfl ?_
  refine N_newaI (n' := n) C hT.2.2.2.1 wa_int hn1 hn2 hn3 (by omega) (by omega) dX3_init_20 ?_
  refine N_putOF (ty := .array .int) C 2 hT.1 (by omega) rfl rfl (by decide) wf3_16 rfl rfl (by decide +kernel) (fun _ => rfl) (fun _ => rfl) dX3_init_22 ?_
  exact N_ret C dX3_init_25
def uSq (t : Nat) (u : zM) : zM := (sO (sO (sI u t 0 (80 : Int32)) t 1 (some (t + 1))) t 3 (some (t + 2)))
set_option maxRecDepth 20000 in
theorem nX4_init {t : Nat} (hT : gSq t) (u : zM) (d : Nat) (hd : 2 ≤ d) : zMetN SGX yX4_init cX4_init 1 d (0 + 1 + 1) (0 + 100 + 10) [.ref t] (t + 1) u (t + 3) (uSq t u) := by
  refine zMetN_of SGX_new (by have := hT.2.2.2; omega) (by decide +kernel) (fun as => Nat.le_of_ble_eq_true rfl) (by omega) (fun p l e s m args below meth c as0 dA D C => ?_) rfl
  have C : zCn p s m args meth c dA D SGX d 1 RX4 cX4_init := C
  show GoN p l e s m args below meth c dA D SGX as0 (t + 1) d (0 + 1 + 1) (0 + 100 + 10) 1 (t + 3) (uSq t u) 0 [(0, .ref t)] [] (t + 1) u 0 0
  refine N_aload_n C 0 dX4_init_0 rfl rfl ?_
  refine N_objInit C wo4 wOi1 wOi2 (Nat.le_of_ble_eq_true rfl) dX4_init_1 ?_
  refine N_aload_n C 0 dX4_init_4 rfl rfl ?_
  refine N_bipush (v := 80) C dX4_init_5 (by decide) ?_
  refine N_putI (ty := .int) C 0 hT.1 (by omega) rfl rfl (by decide) wf4_9 rfl (by decide +kernel) rfl rfl dX4_init_7 ?_
  refine N_aload_n C 0 dX4_init_10 rfl rfl ?_
  refine N_bipush (v := 100) C dX4_init_11 (by decide) ?_
  refine N_newaI (n' := 100) C hT.2.1 wa_int (by decide) (by decide) (by decide) (by omega) (by omega) dX4_init_13 ?_
  refine N_putOF (ty := .array .int) C 1 hT.1 (by omega) rfl rfl (by decide) wf4_15 rfl rfl (by decide +kernel) (fun _ => rfl) (fun _ => rfl) dX4_init_15 ?_
  refine N_aload_n C 0 dX4_init_18 rfl rfl ?_
  refine N_bipush (v := 10) C dX4_init_19 (by decide) ?_
  refine N_newaI (n' := 10) C hT.2.2.1 wa_int (by decide) (by decide) (by decide) (by omega) (by omega) dX4_init_21 ?_
  refine N_putOF (ty := .array .int) C 3 hT.1 (by omega) rfl rfl (by decide) wf4_19 rfl rfl (by decide +kernel) (fun _ => rfl) (fun _ => rfl) dX4_init_23 ?_
  exact N_ret C dX4_init_26
def uTn (t : Nat) (u : zM) : zM := (sO (sO (sI (sO (sO (sO (sO (sO (sO (sO (sO u t 1 (some (t + 1))) t 2 (some (t + 2))) t 3 (some (t + 3))) t 4 (some (t + 4))) t 5 (some (t + 5))) t 7 (some (t + 6))) t 8 (some (t + 7))) t 9 (some (t + 8))) t 10 (-1 : Int32)) t 13 (some (t + 9))) t 14 (some (t + 10)))
set_option maxRecDepth 20000 in
theorem nX6_init {t : Nat} (hT : gTn t) (u : zM) (d : Nat) (hd : 2 ≤ d) : zMetN SGX yX6_init cX6_init 1 d (0 + 1 + 1 + 1 + 1 + 1 + 1 + 1 + 1 + 1 + 1) (0 + 6 + 6 + 6 + 6 + 24 + 4 + 4 + 4 + 6 + 8) [.ref t] (t + 1) u (t + 11) (uTn t u) := by
  refine zMetN_of SGX_new (by have := hT.2.2.2.2.2.2.2.2.2.2.2; omega) (by decide +kernel) (fun as => Nat.le_of_ble_eq_true rfl) (by omega) (fun p l e s m args below meth c as0 dA D C => ?_) rfl
  have C : zCn p s m args meth c dA D SGX d 1 RX6 cX6_init := C
  show GoN p l e s m args below meth c dA D SGX as0 (t + 1) d (0 + 1 + 1 + 1 + 1 + 1 + 1 + 1 + 1 + 1 + 1) (0 + 6 + 6 + 6 + 6 + 24 + 4 + 4 + 4 + 6 + 8) 1 (t + 11) (uTn t u) 0 [(0, .ref t)] [] (t + 1) u 0 0
  refine N_aload_n C 0 dX6_init_0 rfl rfl ?_
  refine N_objInit C wo6 wOi1 wOi2 (Nat.le_of_ble_eq_true rfl) dX6_init_1 ?_
  refine N_aload_n C 0 dX6_init_4 rfl rfl ?_
  refine N_bipush (v := 6) C dX6_init_5 (by decide) ?_
  refine N_newaI (n' := 6) C hT.2.1 wa_int (by decide) (by decide) (by decide) (by omega) (by omega) dX6_init_7 ?_
  refine N_putOF (ty := .array .int) C 1 hT.1 (by omega) rfl rfl (by decide) wf6_9 rfl rfl (by decide +kernel) (fun _ => rfl) (fun _ => rfl) dX6_init_9 ?_
  refine N_aload_n C 0 dX6_init_12 rfl rfl ?_
  refine N_bipush (v := 6) C dX6_init_13 (by decide) ?_
  refine N_newaI (n' := 6) C hT.2.2.1 wa_int (by decide) (by decide) (by decide) (by omega) (by omega) dX6_init_15 ?_
  refine N_putOF (ty := .array .int) C 2 hT.1 (by omega) rfl rfl (by decide) wf6_15 rfl rfl (by decide +kernel) (fun _ => rfl) (fun _ => rfl) dX6_init_17 ?_
  refine N_aload_n C 0 dX6_init_20 rfl rfl ?_
  refine N_bipush (v := 6) C dX6_init_21 (by decide) ?_
  refine N_newaI (n' := 6) C hT.2.2.2.1 wa_int (by decide) (by decide) (by decide) (by omega) (by omega) dX6_init_23 ?_
  refine N_putOF (ty := .array .int) C 3 hT.1 (by omega) rfl rfl (by decide) wf6_18 rfl rfl (by decide +kernel) (fun _ => rfl) (fun _ => rfl) dX6_init_25 ?_
  refine N_aload_n C 0 dX6_init_28 rfl rfl ?_
  refine N_bipush (v := 6) C dX6_init_29 (by decide) ?_
  refine N_newaZ (n' := 6) C hT.2.2.2.2.1 wa_boolean (by decide) (by decide) (by decide) (by omega) (by omega) dX6_init_31 ?_
  refine N_putOF (ty := .array .boolean) C 4 hT.1 (by omega) rfl rfl (by decide) wf6_21 rfl rfl (by decide +kernel) (fun _ => rfl) (fun _ => rfl) dX6_init_33 ?_
  refine N_aload_n C 0 dX6_init_36 rfl rfl ?_
  refine N_bipush (v := 24) C dX6_init_37 (by decide) ?_
  refine N_newaI (n' := 24) C hT.2.2.2.2.2.1 wa_int (by decide) (by decide) (by decide) (by omega) (by omega) dX6_init_39 ?_
  refine N_putOF (ty := .array .int) C 5 hT.1 (by omega) rfl rfl (by decide) wf6_25 rfl rfl (by decide +kernel) (fun _ => rfl) (fun _ => rfl) dX6_init_41 ?_
  refine N_aload_n C 0 dX6_init_44 rfl rfl ?_
  refine N_iconst (v := 4) C dX6_init_45 (by decide) ?_
  refine N_newaI (n' := 4) C hT.2.2.2.2.2.2.1 wa_int (by decide) (by decide) (by decide) (by omega) (by omega) dX6_init_46 ?_
  refine N_putOF (ty := .array .int) C 7 hT.1 (by omega) rfl rfl (by decide) wf6_28 rfl rfl (by decide +kernel) (fun _ => rfl) (fun _ => rfl) dX6_init_48 ?_
  refine N_aload_n C 0 dX6_init_51 rfl rfl ?_
  refine N_iconst (v := 4) C dX6_init_52 (by decide) ?_
  refine N_newaI (n' := 4) C hT.2.2.2.2.2.2.2.1 wa_int (by decide) (by decide) (by decide) (by omega) (by omega) dX6_init_53 ?_
  refine N_putOF (ty := .array .int) C 8 hT.1 (by omega) rfl rfl (by decide) wf6_31 rfl rfl (by decide +kernel) (fun _ => rfl) (fun _ => rfl) dX6_init_55 ?_
  refine N_aload_n C 0 dX6_init_58 rfl rfl ?_
  refine N_iconst (v := 4) C dX6_init_59 (by decide) ?_
  refine N_newaI (n' := 4) C hT.2.2.2.2.2.2.2.2.1 wa_int (by decide) (by decide) (by decide) (by omega) (by omega) dX6_init_60 ?_
  refine N_putOF (ty := .array .int) C 9 hT.1 (by omega) rfl rfl (by decide) wf6_34 rfl rfl (by decide +kernel) (fun _ => rfl) (fun _ => rfl) dX6_init_62 ?_
  refine N_aload_n C 0 dX6_init_65 rfl rfl ?_
  refine N_iconst (v := -1) C dX6_init_66 (by decide) ?_
  refine N_putI (ty := .int) C 10 hT.1 (by omega) rfl rfl (by decide) wf6_37 rfl (by decide +kernel) rfl rfl dX6_init_67 ?_
  refine N_aload_n C 0 dX6_init_70 rfl rfl ?_
  refine N_bipush (v := 6) C dX6_init_71 (by decide) ?_
  refine N_newaI (n' := 6) C hT.2.2.2.2.2.2.2.2.2.1 wa_int (by decide) (by decide) (by decide) (by omega) (by omega) dX6_init_73 ?_
  refine N_putOF (ty := .array .int) C 13 hT.1 (by omega) rfl rfl (by decide) wf6_41 rfl rfl (by decide +kernel) (fun _ => rfl) (fun _ => rfl) dX6_init_75 ?_
  refine N_aload_n C 0 dX6_init_78 rfl rfl ?_
  refine N_bipush (v := 8) C dX6_init_79 (by decide) ?_
  refine N_newaI (n' := 8) C hT.2.2.2.2.2.2.2.2.2.2.1 wa_int (by decide) (by decide) (by decide) (by omega) (by omega) dX6_init_81 ?_
  refine N_putOF (ty := .array .int) C 14 hT.1 (by omega) rfl rfl (by decide) wf6_46 rfl rfl (by decide +kernel) (fun _ => rfl) (fun _ => rfl) dX6_init_83 ?_
  exact N_ret C dX6_init_86
def uWh (t : Nat) (u : zM) : zM := (sO (uSn (t + 20) (sO (uSn (t + 16) (sO (uSn (t + 12) (sO (uTn (t + 1) u) t 0 (some (t + 1)))) t 1 (some (t + 12)))) t 2 (some (t + 16)))) t 3 (some (t + 20)))
set_option maxRecDepth 20000 in
theorem nX7_init {t : Nat} (hT : gWh t) (u : zM) (d : Nat) (hd : 3 ≤ d) : zMetN SGX yX7_init cX7_init 1 d (0 + 1 + (0 + 1 + 1 + 1 + 1 + 1 + 1 + 1 + 1 + 1 + 1) + 1 + (0 + 1 + 1 + 1) + 1 + (0 + 1 + 1 + 1) + 1 + (0 + 1 + 1 + 1)) (0 + 15 + (0 + 6 + 6 + 6 + 6 + 24 + 4 + 4 + 4 + 6 + 8) + 4 + (0 + 5 + 5 + 5) + 4 + (0 + 10 + 10 + 10) + 4 + (0 + 8 + 8 + 8)) [.ref t] (t + 1) u (t + 24) (uWh t u) := by
  refine zMetN_of SGX_new (by have := hT.2.2.2.2.2.2.2.2; omega) (by decide +kernel) (fun as => Nat.le_of_ble_eq_true rfl) (by omega) (fun p l e s m args below meth c as0 dA D C => ?_) rfl
  have C : zCn p s m args meth c dA D SGX d 1 RX7 cX7_init := C
  show GoN p l e s m args below meth c dA D SGX as0 (t + 1) d (0 + 1 + (0 + 1 + 1 + 1 + 1 + 1 + 1 + 1 + 1 + 1 + 1) + 1 + (0 + 1 + 1 + 1) + 1 + (0 + 1 + 1 + 1) + 1 + (0 + 1 + 1 + 1)) (0 + 15 + (0 + 6 + 6 + 6 + 6 + 24 + 4 + 4 + 4 + 6 + 8) + 4 + (0 + 5 + 5 + 5) + 4 + (0 + 10 + 10 + 10) + 4 + (0 + 8 + 8 + 8)) 1 (t + 24) (uWh t u) 0 [(0, .ref t)] [] (t + 1) u 0 0
  refine N_aload_n C 0 dX7_init_0 rfl rfl ?_
  refine N_objInit C wo7 wOi1 wOi2 (Nat.le_of_ble_eq_true rfl) dX7_init_1 ?_
  refine N_aload_n C 0 dX7_init_4 rfl rfl ?_
  refine N_new C tyX6 tyX6_ok hT.2.1.1 rfl wl7_9 wx6 wy6 (by decide +kernel) (by omega) (by omega) dX7_init_5 ?_
  refine N_dup C dX7_init_8 rfl ?_
  refine N_callN C (d2 := d - 1) (mc2 := 0 + 1 + 1 + 1 + 1 + 1 + 1 + 1 + 1 + 1 + 1) (ms2 := 0 + 6 + 6 + 6 + 6 + 24 + 4 + 4 + 4 + 6 + 8) (As := []) (k2 := t + 1 + 11) (nX6_init (t := t + 1) hT.2.1 _ (d - 1) (by omega)) (by omega) (by omega) (by have := hT.2.1.2.2.2.2.2.2.2.2.2.2.2; have := hT.2.2.1.2.2.2.2; have := hT.2.2.2.1.2.2.2.2; have := hT.2.2.2.2.2.2.2.2; omega) rfl wn7_11 wiX6_init (by omega) (by omega) (Nat.le_of_ble_eq_true rfl) dX7_init_9 ?_
  refine N_putOF (ty := .object "StruckWhile$Town") C 0 hT.1 (by omega) rfl rfl (by decide) wf7_12 rfl rfl (by decide +kernel) (fun _ => rfl) (fun _ => rfl) dX7_init_12 ?_
  refine N_aload_n C 0 dX7_init_15 rfl rfl ?_
  refine N_new C tyX3 tyX3_ok hT.2.2.1.1 rfl wl7_18 wx3 wy3 (by decide +kernel) (by omega) (by omega) dX7_init_16 ?_
  refine N_dup C dX7_init_19 rfl ?_
  refine N_iconst (v := 5) C dX7_init_20 (by decide) ?_
  refine N_call C (d2 := d - 1) (mc2 := 0 + 1 + 1 + 1) (ms2 := 0 + 5 + 5 + 5) (As := [.int ((5 : Int32))]) (k2 := t + 12 + 4) (nX3_init (t := t + 12) (n := 5) hT.2.2.1 5 (by decide) (by decide) (by decide) _ (d - 1) (by omega)) (by omega) (by omega) (by have := hT.2.1.2.2.2.2.2.2.2.2.2.2.2; have := hT.2.2.1.2.2.2.2; have := hT.2.2.2.1.2.2.2.2; have := hT.2.2.2.2.2.2.2.2; omega) rfl wm7_20 wiX3_init (by omega) (by omega) (Nat.le_of_ble_eq_true rfl) dX7_init_21 ?_
  refine N_putOF (ty := .object "StruckWhile$Sheet") C 1 hT.1 (by omega) rfl rfl (by decide) wf7_23 rfl rfl (by decide +kernel) (fun _ => rfl) (fun _ => rfl) dX7_init_24 ?_
  refine N_aload_n C 0 dX7_init_27 rfl rfl ?_
  refine N_new C tyX3 tyX3_ok hT.2.2.2.1.1 rfl wl7_18 wx3 wy3 (by decide +kernel) (by omega) (by omega) dX7_init_28 ?_
  refine N_dup C dX7_init_31 rfl ?_
  refine N_bipush (v := 10) C dX7_init_32 (by decide) ?_
  refine N_call C (d2 := d - 1) (mc2 := 0 + 1 + 1 + 1) (ms2 := 0 + 10 + 10 + 10) (As := [.int ((10 : Int32))]) (k2 := t + 16 + 4) (nX3_init (t := t + 16) (n := 10) hT.2.2.2.1 10 (by decide) (by decide) (by decide) _ (d - 1) (by omega)) (by omega) (by omega) (by have := hT.2.1.2.2.2.2.2.2.2.2.2.2.2; have := hT.2.2.1.2.2.2.2; have := hT.2.2.2.1.2.2.2.2; have := hT.2.2.2.2.2.2.2.2; omega) rfl wm7_20 wiX3_init (by omega) (by omega) (Nat.le_of_ble_eq_true rfl) dX7_init_34 ?_
  refine N_putOF (ty := .object "StruckWhile$Sheet") C 2 hT.1 (by omega) rfl rfl (by decide) wf7_27 rfl rfl (by decide +kernel) (fun _ => rfl) (fun _ => rfl) dX7_init_37 ?_
  refine N_aload_n C 0 dX7_init_40 rfl rfl ?_
  refine N_new C tyX3 tyX3_ok hT.2.2.2.2.1 rfl wl7_18 wx3 wy3 (by decide +kernel) (by omega) (by omega) dX7_init_41 ?_
  refine N_dup C dX7_init_44 rfl ?_
  refine N_bipush (v := 8) C dX7_init_45 (by decide) ?_
  refine N_call C (d2 := d - 1) (mc2 := 0 + 1 + 1 + 1) (ms2 := 0 + 8 + 8 + 8) (As := [.int ((8 : Int32))]) (k2 := t + 20 + 4) (nX3_init (t := t + 20) (n := 8) hT.2.2.2.2 8 (by decide) (by decide) (by decide) _ (d - 1) (by omega)) (by omega) (by omega) (by have := hT.2.1.2.2.2.2.2.2.2.2.2.2.2; have := hT.2.2.1.2.2.2.2; have := hT.2.2.2.1.2.2.2.2; have := hT.2.2.2.2.2.2.2.2; omega) rfl wm7_20 wiX3_init (by omega) (by omega) (Nat.le_of_ble_eq_true rfl) dX7_init_47 ?_
  refine N_putOF (ty := .object "StruckWhile$Sheet") C 3 hT.1 (by omega) rfl rfl (by decide) wf7_30 rfl rfl (by decide +kernel) (fun _ => rfl) (fun _ => rfl) dX7_init_50 ?_
  exact N_ret C dX7_init_53
def uX1_init (u : zM) : zM := (sO (sO (sO (sO (uTn 51 (sO u 49 0 (some 50))) 49 3 (some 51)) 49 4 (some 62)) 49 1 (some 2)) 49 2 (some 13))
set_option maxRecDepth 20000 in
theorem nX1_init  (u : zM) (d : Nat) (hd : 3 ≤ d) : zMetN SGX yX1_init cX1_init 3 d (0 + 1 + 1 + (0 + 1 + 1 + 1 + 1 + 1 + 1 + 1 + 1 + 1 + 1) + 1) (0 + 4 + 15 + (0 + 6 + 6 + 6 + 6 + 24 + 4 + 4 + 4 + 6 + 8) + 4) [.ref 49, .ref 2, .ref 13] (50) u (63) (uX1_init u) := by
  refine zMetN_of SGX_new (by decide) (by decide +kernel) (fun as => Nat.le_of_ble_eq_true rfl) (by omega) (fun p l e s m args below meth c as0 dA D C => ?_) rfl
  have C : zCn p s m args meth c dA D SGX d 3 RX1 cX1_init := C
  show GoN p l e s m args below meth c dA D SGX as0 (50) d (0 + 1 + 1 + (0 + 1 + 1 + 1 + 1 + 1 + 1 + 1 + 1 + 1 + 1) + 1) (0 + 4 + 15 + (0 + 6 + 6 + 6 + 6 + 24 + 4 + 4 + 4 + 6 + 8) + 4) 3 (63) (uX1_init u) 0 [(0, .ref 49), (1, .ref 2), (2, .ref 13)] [] (50) u 0 0
  refine N_aload_n C 0 dX1_init_0 rfl rfl ?_
  refine N_objInit C wo1 wOi1 wOi2 (Nat.le_of_ble_eq_true rfl) dX1_init_1 ?_
  refine N_aload_n C 0 dX1_init_4 rfl rfl ?_
  refine N_iconst (v := 4) C dX1_init_5 (by decide) ?_
  refine N_newaI (n' := 4) C sgX_50 wa_int (by decide) (by decide) (by decide) (by omega) (by omega) dX1_init_6 ?_
  refine N_putOF (ty := .array .int) C 0 sgX_49 (by omega) rfl rfl (by decide) wf1_9 rfl rfl (by decide +kernel) (fun _ => rfl) (fun _ => rfl) dX1_init_8 ?_
  refine N_aload_n C 0 dX1_init_11 rfl rfl ?_
  refine N_new C tyX6 tyX6_ok gTn_51.1 rfl wl1_15 wx6 wy6 (by decide +kernel) (by omega) (by omega) dX1_init_12 ?_
  refine N_dup C dX1_init_15 rfl ?_
  refine N_callN C (d2 := d - 1) (mc2 := 0 + 1 + 1 + 1 + 1 + 1 + 1 + 1 + 1 + 1 + 1) (ms2 := 0 + 6 + 6 + 6 + 6 + 24 + 4 + 4 + 4 + 6 + 8) (As := []) (k2 := 62) (nX6_init (t := 51) gTn_51 _ (d - 1) (by omega)) (by omega) (by omega) (by decide) rfl wn1_17 wiX6_init (by omega) (by omega) (Nat.le_of_ble_eq_true rfl) dX1_init_16 ?_
  refine N_putOF (ty := .object "StruckWhile$Town") C 3 sgX_49 (by omega) rfl rfl (by decide) wf1_18 rfl rfl (by decide +kernel) (fun _ => rfl) (fun _ => rfl) dX1_init_19 ?_
  refine N_aload_n C 0 dX1_init_22 rfl rfl ?_
  refine N_iconst (v := 4) C dX1_init_23 (by decide) ?_
  refine N_newaI (n' := 4) C sgX_62 wa_int (by decide) (by decide) (by decide) (by omega) (by omega) dX1_init_24 ?_
  refine N_putOF (ty := .array .int) C 4 sgX_49 (by omega) rfl rfl (by decide) wf1_22 rfl rfl (by decide +kernel) (fun _ => rfl) (fun _ => rfl) dX1_init_26 ?_
  refine N_aload_n C 0 dX1_init_29 rfl rfl ?_
  refine N_aload_n C 1 dX1_init_30 rfl rfl ?_
  refine N_putOF (ty := .object "StruckWhile$Town") C 1 sgX_49 (by omega) rfl rfl (by decide) wf1_25 rfl rfl (by decide +kernel) (fun _ => rfl) (fun _ => rfl) dX1_init_31 ?_
  refine N_aload_n C 0 dX1_init_34 rfl rfl ?_
  refine N_aload_n C 2 dX1_init_35 rfl rfl ?_
  refine N_putOF (ty := .object "StruckWhile$Sheet") C 2 sgX_49 (by omega) rfl rfl (by decide) wf1_28 rfl rfl (by decide +kernel) (fun _ => rfl) (fun _ => rfl) dX1_init_36 ?_
  exact N_ret C dX1_init_39
def uX2_init (u : zM) : zM := (sO u 63 2 (some 64))
set_option maxRecDepth 20000 in
theorem nX2_init  (u : zM) (d : Nat) (hd : 2 ≤ d) : zMetN SGX yX2_init cX2_init 1 d (0 + 1) (0 + 100) [.ref 63] (64) u (65) (uX2_init u) := by
  refine zMetN_of SGX_new (by decide) (by decide +kernel) (fun as => Nat.le_of_ble_eq_true rfl) (by omega) (fun p l e s m args below meth c as0 dA D C => ?_) rfl
  have C : zCn p s m args meth c dA D SGX d 1 RX2 cX2_init := C
  show GoN p l e s m args below meth c dA D SGX as0 (64) d (0 + 1) (0 + 100) 1 (65) (uX2_init u) 0 [(0, .ref 63)] [] (64) u 0 0
  refine N_aload_n C 0 dX2_init_0 rfl rfl ?_
  refine N_objInit C wo2 wOi1 wOi2 (Nat.le_of_ble_eq_true rfl) dX2_init_1 ?_
  refine N_aload_n C 0 dX2_init_4 rfl rfl ?_
  refine N_bipush (v := 100) C dX2_init_5 (by decide) ?_
  refine N_newaB (n' := 100) C sgX_64 wa_byte (by decide) (by decide) (by decide) (by omega) (by omega) dX2_init_7 ?_
  refine N_putOF (ty := .array .byte) C 2 sgX_63 (by omega) rfl rfl (by decide) wf2_9 rfl rfl (by decide +kernel) (fun _ => rfl) (fun _ => rfl) dX2_init_9 ?_
  exact N_ret C dX2_init_12
def uX0_init (u : zM) : zM := (sO u 66 1 (some 67))
set_option maxRecDepth 20000 in
theorem nX0_init  (u : zM) (d : Nat) (hd : 2 ≤ d) : zMetN SGX yX0_init cX0_init 1 d (0 + 1) (0 + 20) [.ref 66] (67) u (68) (uX0_init u) := by
  refine zMetN_of SGX_new (by decide) (by decide +kernel) (fun as => Nat.le_of_ble_eq_true rfl) (by omega) (fun p l e s m args below meth c as0 dA D C => ?_) rfl
  have C : zCn p s m args meth c dA D SGX d 1 RX0 cX0_init := C
  show GoN p l e s m args below meth c dA D SGX as0 (67) d (0 + 1) (0 + 20) 1 (68) (uX0_init u) 0 [(0, .ref 66)] [] (67) u 0 0
  refine N_aload_n C 0 dX0_init_0 rfl rfl ?_
  refine N_objInit C wo0 wOi1 wOi2 (Nat.le_of_ble_eq_true rfl) dX0_init_1 ?_
  refine N_aload_n C 0 dX0_init_4 rfl rfl ?_
  refine N_bipush (v := 20) C dX0_init_5 (by decide) ?_
  refine N_newaI (n' := 20) C sgX_67 wa_int (by decide) (by decide) (by decide) (by omega) (by omega) dX0_init_7 ?_
  refine N_putOF (ty := .array .int) C 1 sgX_66 (by omega) rfl rfl (by decide) wf0_9 rfl rfl (by decide +kernel) (fun _ => rfl) (fun _ => rfl) dX0_init_9 ?_
  exact N_ret C dX0_init_12
def uX5_init (u : zM) : zM := (sI (sI (sI (sI (sI (sI (sO (zOuter (sO (sO u 68 0 (some 69)) 68 1 (some 70)) 71) 68 2 (some 71)) 69 ((0 : Int32)).toNatClampNeg (-1 : Int32)) 69 ((1 : Int32)).toNatClampNeg (-1 : Int32)) 69 ((2 : Int32)).toNatClampNeg (-1 : Int32)) 69 ((3 : Int32)).toNatClampNeg (-1 : Int32)) 69 ((4 : Int32)).toNatClampNeg (-1 : Int32)) 69 ((5 : Int32)).toNatClampNeg (-1 : Int32))
set_option maxRecDepth 20000 in
theorem nX5_init  (u : zM) (d : Nat) (hd : 2 ≤ d) : zMetN SGX yX5_init cX5_init 2 d (0 + 1 + 1 + 1 + 6) (0 + 6 + 6 + 6 + (6 * 60)) [.ref 68] (69) u (78) (uX5_init u) := by
  refine zMetN_of SGX_new (by decide) (by decide +kernel) (fun as => Nat.le_of_ble_eq_true rfl) (by omega) (fun p l e s m args below meth c as0 dA D C => ?_) rfl
  have C : zCn p s m args meth c dA D SGX d 2 RX5 cX5_init := C
  show GoN p l e s m args below meth c dA D SGX as0 (69) d (0 + 1 + 1 + 1 + 6) (0 + 6 + 6 + 6 + (6 * 60)) 2 (78) (uX5_init u) 0 [(0, .ref 68)] [] (69) u 0 0
  refine N_aload_n C 0 dX5_init_0 rfl rfl ?_
  refine N_objInit C wo5 wOi1 wOi2 (Nat.le_of_ble_eq_true rfl) dX5_init_1 ?_
  refine N_aload_n C 0 dX5_init_4 rfl rfl ?_
  refine N_bipush (v := 6) C dX5_init_5 (by decide) ?_
  refine N_newaI (n' := 6) C sgX_69 wa_int (by decide) (by decide) (by decide) (by omega) (by omega) dX5_init_7 ?_
  refine N_putOF (ty := .array .int) C 0 sgX_68 (by omega) rfl rfl (by decide) wf5_9 rfl rfl (by decide +kernel) (fun _ => rfl) (fun _ => rfl) dX5_init_9 ?_
  refine N_aload_n C 0 dX5_init_12 rfl rfl ?_
  refine N_bipush (v := 6) C dX5_init_13 (by decide) ?_
  refine N_newaI (n' := 6) C sgX_70 wa_int (by decide) (by decide) (by decide) (by omega) (by omega) dX5_init_15 ?_
  refine N_putOF (ty := .array .int) C 1 sgX_68 (by omega) rfl rfl (by decide) wf5_15 rfl rfl (by decide +kernel) (fun _ => rfl) (fun _ => rfl) dX5_init_17 ?_
  refine N_aload_n C 0 dX5_init_20 rfl rfl ?_
  refine N_bipush (v := 6) C dX5_init_21 (by decide) ?_
  refine N_bipush (v := 60) C dX5_init_23 (by decide) ?_
  refine N_multi C sgX_71 sgX_it wl5_18 wa_long (by omega) (by omega) dX5_init_25 ?_
  refine N_putOF (ty := .array (.array .long)) C 2 sgX_68 (by omega) rfl rfl (by decide) wf5_20 rfl rfl (by decide +kernel) (fun _ => rfl) (fun _ => rfl) dX5_init_29 ?_
  refine N_iconst (v := 0) C dX5_init_32 (by decide) ?_
  refine N_istore_n (L' := [(1, .int ((0 : Int32))), (0, .ref 68)]) C dX5_init_33 rfl (by decide) rfl ?_
  refine N_iload_n C 0 dX5_init_34 rfl rfl ?_
  refine N_bipush (v := 6) C dX5_init_35 (by decide) ?_
  refine N_icmp_geF (tgt := 53) C dX5_init_37 (by decide) (by decide) ?_
  refine N_aload_n C 1 dX5_init_40 rfl rfl ?_
  refine N_getO (x := 69) C 0 sgX_68 (by omega) rfl rfl (by decide) wf5_9 rfl dX5_init_41 ?_
  refine N_iload_n C 0 dX5_init_44 rfl rfl ?_
  refine N_iconst (v := -1) C dX5_init_45 (by decide) ?_
  refine N_iast C sgX_69 (by omega) (by decide) dX5_init_46 ?_
  refine N_iinc (v := 1) (L' := [(1, .int ((1 : Int32))), (0, .ref 68)]) C 0 dX5_init_47 rfl (by decide) (by decide) rfl ?_
  refine N_goto (tgt := 34) C dX5_init_50 (by decide) ?_
  refine N_iload_n C 0 dX5_init_34 rfl rfl ?_
  refine N_bipush (v := 6) C dX5_init_35 (by decide) ?_
  refine N_icmp_geF (tgt := 53) C dX5_init_37 (by decide) (by decide) ?_
  refine N_aload_n C 1 dX5_init_40 rfl rfl ?_
  refine N_getO (x := 69) C 0 sgX_68 (by omega) rfl rfl (by decide) wf5_9 rfl dX5_init_41 ?_
  refine N_iload_n C 0 dX5_init_44 rfl rfl ?_
  refine N_iconst (v := -1) C dX5_init_45 (by decide) ?_
  refine N_iast C sgX_69 (by omega) (by decide) dX5_init_46 ?_
  refine N_iinc (v := 2) (L' := [(1, .int ((2 : Int32))), (0, .ref 68)]) C 0 dX5_init_47 rfl (by decide) (by decide) rfl ?_
  refine N_goto (tgt := 34) C dX5_init_50 (by decide) ?_
  refine N_iload_n C 0 dX5_init_34 rfl rfl ?_
  refine N_bipush (v := 6) C dX5_init_35 (by decide) ?_
  refine N_icmp_geF (tgt := 53) C dX5_init_37 (by decide) (by decide) ?_
  refine N_aload_n C 1 dX5_init_40 rfl rfl ?_
  refine N_getO (x := 69) C 0 sgX_68 (by omega) rfl rfl (by decide) wf5_9 rfl dX5_init_41 ?_
  refine N_iload_n C 0 dX5_init_44 rfl rfl ?_
  refine N_iconst (v := -1) C dX5_init_45 (by decide) ?_
  refine N_iast C sgX_69 (by omega) (by decide) dX5_init_46 ?_
  refine N_iinc (v := 3) (L' := [(1, .int ((3 : Int32))), (0, .ref 68)]) C 0 dX5_init_47 rfl (by decide) (by decide) rfl ?_
  refine N_goto (tgt := 34) C dX5_init_50 (by decide) ?_
  refine N_iload_n C 0 dX5_init_34 rfl rfl ?_
  refine N_bipush (v := 6) C dX5_init_35 (by decide) ?_
  refine N_icmp_geF (tgt := 53) C dX5_init_37 (by decide) (by decide) ?_
  refine N_aload_n C 1 dX5_init_40 rfl rfl ?_
  refine N_getO (x := 69) C 0 sgX_68 (by omega) rfl rfl (by decide) wf5_9 rfl dX5_init_41 ?_
  refine N_iload_n C 0 dX5_init_44 rfl rfl ?_
  refine N_iconst (v := -1) C dX5_init_45 (by decide) ?_
  refine N_iast C sgX_69 (by omega) (by decide) dX5_init_46 ?_
  refine N_iinc (v := 4) (L' := [(1, .int ((4 : Int32))), (0, .ref 68)]) C 0 dX5_init_47 rfl (by decide) (by decide) rfl ?_
  refine N_goto (tgt := 34) C dX5_init_50 (by decide) ?_
  refine N_iload_n C 0 dX5_init_34 rfl rfl ?_
  refine N_bipush (v := 6) C dX5_init_35 (by decide) ?_
  refine N_icmp_geF (tgt := 53) C dX5_init_37 (by decide) (by decide) ?_
  refine N_aload_n C 1 dX5_init_40 rfl rfl ?_
  refine N_getO (x := 69) C 0 sgX_68 (by omega) rfl rfl (by decide) wf5_9 rfl dX5_init_41 ?_
  refine N_iload_n C 0 dX5_init_44 rfl rfl ?_
  refine N_iconst (v := -1) C dX5_init_45 (by decide) ?_
  refine N_iast C sgX_69 (by omega) (by decide) dX5_init_46 ?_
  refine N_iinc (v := 5) (L' := [(1, .int ((5 : Int32))), (0, .ref 68)]) C 0 dX5_init_47 rfl (by decide) (by decide) rfl ?_
  refine N_goto (tgt := 34) C dX5_init_50 (by decide) ?_
  refine N_iload_n C 0 dX5_init_34 rfl rfl ?_
  refine N_bipush (v := 6) C dX5_init_35 (by decide) ?_
  refine N_icmp_geF (tgt := 53) C dX5_init_37 (by decide) (by decide) ?_
  refine N_aload_n C 1 dX5_init_40 rfl rfl ?_
  refine N_getO (x := 69) C 0 sgX_68 (by omega) rfl rfl (by decide) wf5_9 rfl dX5_init_41 ?_
  refine N_iload_n C 0 dX5_init_44 rfl rfl ?_
  refine N_iconst (v := -1) C dX5_init_45 (by decide) ?_
  refine N_iast C sgX_69 (by omega) (by decide) dX5_init_46 ?_
  refine N_iinc (v := 6) (L' := [(1, .int ((6 : Int32))), (0, .ref 68)]) C 0 dX5_init_47 rfl (by decide) (by decide) rfl ?_
  refine N_goto (tgt := 34) C dX5_init_50 (by decide) ?_
  refine N_iload_n C 0 dX5_init_34 rfl rfl ?_
  refine N_bipush (v := 6) C dX5_init_35 (by decide) ?_
  refine N_icmp_geT (tgt := 53) C dX5_init_37 (by decide) (by decide) ?_
  exact N_ret C dX5_init_53
def uX0 : zM := (sO (uSq 93 (sO (uSq 90 (sO (uSq 87 (sO (uSq 84 (sO (uSq 81 (sO (uSq 78 (sO (uX5_init (sO (uX0_init (sO (sO (uX2_init (sO (uX1_init (sO (sO (uWh 25 (sO (uWh 1 z0) 0 0 (some 1))) 0 1 (some 25)) 0 3 (some 2))) 0 4 (some 49))) 0 5 (some 63)) 0 6 (some 65))) 0 8 (some 66))) 0 9 (some 68))) 65 ((0 : Int32)).toNatClampNeg (some 78))) 65 ((1 : Int32)).toNatClampNeg (some 81))) 65 ((2 : Int32)).toNatClampNeg (some 84))) 65 ((3 : Int32)).toNatClampNeg (some 87))) 65 ((4 : Int32)).toNatClampNeg (some 90))) 65 ((5 : Int32)).toNatClampNeg (some 93))
set_option maxRecDepth 20000 in
theorem nX8_init  (d : Nat) (hd : 4 ≤ d) : zMetN SGX yX8_init cX8_init 2 d (0 + 1 + (0 + 1 + (0 + 1 + 1 + 1 + 1 + 1 + 1 + 1 + 1 + 1 + 1) + 1 + (0 + 1 + 1 + 1) + 1 + (0 + 1 + 1 + 1) + 1 + (0 + 1 + 1 + 1)) + 1 + (0 + 1 + (0 + 1 + 1 + 1 + 1 + 1 + 1 + 1 + 1 + 1 + 1) + 1 + (0 + 1 + 1 + 1) + 1 + (0 + 1 + 1 + 1) + 1 + (0 + 1 + 1 + 1)) + 1 + (0 + 1 + 1 + (0 + 1 + 1 + 1 + 1 + 1 + 1 + 1 + 1 + 1 + 1) + 1) + 1 + (0 + 1) + 1 + 1 + (0 + 1) + 1 + (0 + 1 + 1 + 1 + 6) + 1 + (0 + 1 + 1) + 1 + (0 + 1 + 1) + 1 + (0 + 1 + 1) + 1 + (0 + 1 + 1) + 1 + (0 + 1 + 1) + 1 + (0 + 1 + 1)) (0 + 4 + (0 + 15 + (0 + 6 + 6 + 6 + 6 + 24 + 4 + 4 + 4 + 6 + 8) + 4 + (0 + 5 + 5 + 5) + 4 + (0 + 10 + 10 + 10) + 4 + (0 + 8 + 8 + 8)) + 4 + (0 + 15 + (0 + 6 + 6 + 6 + 6 + 24 + 4 + 4 + 4 + 6 + 8) + 4 + (0 + 5 + 5 + 5) + 4 + (0 + 10 + 10 + 10) + 4 + (0 + 8 + 8 + 8)) + 6 + (0 + 4 + 15 + (0 + 6 + 6 + 6 + 6 + 24 + 4 + 4 + 4 + 6 + 8) + 4) + 4 + (0 + 100) + 6 + 5 + (0 + 20) + 3 + (0 + 6 + 6 + 6 + (6 * 60)) + 5 + (0 + 100 + 10) + 5 + (0 + 100 + 10) + 5 + (0 + 100 + 10) + 5 + (0 + 100 + 10) + 5 + (0 + 100 + 10) + 5 + (0 + 100 + 10)) [.ref 0] (1) z0 (96) (uX0) := by
  refine zMetN_of SGX_new (by decide) (by decide +kernel) (fun as => Nat.le_of_ble_eq_true rfl) (by omega) (fun p l e s m args below meth c as0 dA D C => ?_) rfl
  have C : zCn p s m args meth c dA D SGX d 2 RX8 cX8_init := C
  show GoN p l e s m args below meth c dA D SGX as0 (1) d (0 + 1 + (0 + 1 + (0 + 1 + 1 + 1 + 1 + 1 + 1 + 1 + 1 + 1 + 1) + 1 + (0 + 1 + 1 + 1) + 1 + (0 + 1 + 1 + 1) + 1 + (0 + 1 + 1 + 1)) + 1 + (0 + 1 + (0 + 1 + 1 + 1 + 1 + 1 + 1 + 1 + 1 + 1 + 1) + 1 + (0 + 1 + 1 + 1) + 1 + (0 + 1 + 1 + 1) + 1 + (0 + 1 + 1 + 1)) + 1 + (0 + 1 + 1 + (0 + 1 + 1 + 1 + 1 + 1 + 1 + 1 + 1 + 1 + 1) + 1) + 1 + (0 + 1) + 1 + 1 + (0 + 1) + 1 + (0 + 1 + 1 + 1 + 6) + 1 + (0 + 1 + 1) + 1 + (0 + 1 + 1) + 1 + (0 + 1 + 1) + 1 + (0 + 1 + 1) + 1 + (0 + 1 + 1) + 1 + (0 + 1 + 1)) (0 + 4 + (0 + 15 + (0 + 6 + 6 + 6 + 6 + 24 + 4 + 4 + 4 + 6 + 8) + 4 + (0 + 5 + 5 + 5) + 4 + (0 + 10 + 10 + 10) + 4 + (0 + 8 + 8 + 8)) + 4 + (0 + 15 + (0 + 6 + 6 + 6 + 6 + 24 + 4 + 4 + 4 + 6 + 8) + 4 + (0 + 5 + 5 + 5) + 4 + (0 + 10 + 10 + 10) + 4 + (0 + 8 + 8 + 8)) + 6 + (0 + 4 + 15 + (0 + 6 + 6 + 6 + 6 + 24 + 4 + 4 + 4 + 6 + 8) + 4) + 4 + (0 + 100) + 6 + 5 + (0 + 20) + 3 + (0 + 6 + 6 + 6 + (6 * 60)) + 5 + (0 + 100 + 10) + 5 + (0 + 100 + 10) + 5 + (0 + 100 + 10) + 5 + (0 + 100 + 10) + 5 + (0 + 100 + 10) + 5 + (0 + 100 + 10)) 2 (96) (uX0) 0 [(0, .ref 0)] [] (1) z0 0 0
  refine N_aload_n C 0 dX8_init_0 rfl rfl ?_
  refine N_objInit C wo8 wOi1 wOi2 (Nat.le_of_ble_eq_true rfl) dX8_init_1 ?_
  refine N_aload_n C 0 dX8_init_4 rfl rfl ?_
  refine N_new C tyX7 tyX7_ok gWh_1.1 rfl wl8_9 wx7 wy7 (by decide +kernel) (by omega) (by omega) dX8_init_5 ?_
  refine N_dup C dX8_init_8 rfl ?_
  refine N_callN C (d2 := d - 1) (mc2 := 0 + 1 + (0 + 1 + 1 + 1 + 1 + 1 + 1 + 1 + 1 + 1 + 1) + 1 + (0 + 1 + 1 + 1) + 1 + (0 + 1 + 1 + 1) + 1 + (0 + 1 + 1 + 1)) (ms2 := 0 + 15 + (0 + 6 + 6 + 6 + 6 + 24 + 4 + 4 + 4 + 6 + 8) + 4 + (0 + 5 + 5 + 5) + 4 + (0 + 10 + 10 + 10) + 4 + (0 + 8 + 8 + 8)) (As := []) (k2 := 25) (nX7_init (t := 1) gWh_1 _ (d - 1) (by omega)) (by omega) (by omega) (by decide) rfl wn8_11 wiX7_init (by omega) (by omega) (Nat.le_of_ble_eq_true rfl) dX8_init_9 ?_
  refine N_putOF (ty := .object "StruckWhile$Whole") C 0 sgX_0 (by omega) rfl rfl (by decide) wf8_12 rfl rfl (by decide +kernel) (fun _ => rfl) (fun _ => rfl) dX8_init_12 ?_
  refine N_aload_n C 0 dX8_init_15 rfl rfl ?_
  refine N_new C tyX7 tyX7_ok gWh_25.1 rfl wl8_9 wx7 wy7 (by decide +kernel) (by omega) (by omega) dX8_init_16 ?_
  refine N_dup C dX8_init_19 rfl ?_
  refine N_callN C (d2 := d - 1) (mc2 := 0 + 1 + (0 + 1 + 1 + 1 + 1 + 1 + 1 + 1 + 1 + 1 + 1) + 1 + (0 + 1 + 1 + 1) + 1 + (0 + 1 + 1 + 1) + 1 + (0 + 1 + 1 + 1)) (ms2 := 0 + 15 + (0 + 6 + 6 + 6 + 6 + 24 + 4 + 4 + 4 + 6 + 8) + 4 + (0 + 5 + 5 + 5) + 4 + (0 + 10 + 10 + 10) + 4 + (0 + 8 + 8 + 8)) (As := []) (k2 := 49) (nX7_init (t := 25) gWh_25 _ (d - 1) (by omega)) (by omega) (by omega) (by decide) rfl wn8_11 wiX7_init (by omega) (by omega) (Nat.le_of_ble_eq_true rfl) dX8_init_20 ?_
  refine N_putOF (ty := .object "StruckWhile$Whole") C 1 sgX_0 (by omega) rfl rfl (by decide) wf8_18 rfl rfl (by decide +kernel) (fun _ => rfl) (fun _ => rfl) dX8_init_23 ?_
  refine N_aload_n C 0 dX8_init_26 rfl rfl ?_
  refine N_aload_n C 0 dX8_init_27 rfl rfl ?_
  refine N_getO (x := 1) C 0 sgX_0 (by omega) rfl rfl (by decide) wf8_12 rfl dX8_init_28 ?_
  refine N_getO (x := 2) C 0 gWh_1.1 (by omega) rfl rfl (by decide) wf8_21 rfl dX8_init_31 ?_
  refine N_putOF (ty := .object "StruckWhile$Town") C 3 sgX_0 (by omega) rfl rfl (by decide) wf8_25 rfl rfl (by decide +kernel) (fun _ => rfl) (fun _ => rfl) dX8_init_34 ?_
  refine N_aload_n C 0 dX8_init_37 rfl rfl ?_
  refine N_new C tyX1 tyX1_ok sgX_49 rfl wl8_26 wx1 wy1 (by decide +kernel) (by omega) (by omega) dX8_init_38 ?_
  refine N_dup C dX8_init_41 rfl ?_
  refine N_aload_n C 0 dX8_init_42 rfl rfl ?_
  refine N_getO (x := 1) C 0 sgX_0 (by omega) rfl rfl (by decide) wf8_12 rfl dX8_init_43 ?_
  refine N_getO (x := 2) C 0 gWh_1.1 (by omega) rfl rfl (by decide) wf8_21 rfl dX8_init_46 ?_
  refine N_aload_n C 0 dX8_init_49 rfl rfl ?_
  refine N_getO (x := 1) C 0 sgX_0 (by omega) rfl rfl (by decide) wf8_12 rfl dX8_init_50 ?_
  refine N_getO (x := 13) C 1 gWh_1.1 (by omega) rfl rfl (by decide) wf8_28 rfl dX8_init_53 ?_
  refine N_call C (d2 := d - 1) (mc2 := 0 + 1 + 1 + (0 + 1 + 1 + 1 + 1 + 1 + 1 + 1 + 1 + 1 + 1) + 1) (ms2 := 0 + 4 + 15 + (0 + 6 + 6 + 6 + 6 + 24 + 4 + 4 + 4 + 6 + 8) + 4) (As := [.ref 2, .ref 13]) (k2 := 63) (nX1_init _ (d - 1) (by omega)) (by omega) (by omega) (by decide) rfl wm8_32 wiX1_init (by omega) (by omega) (Nat.le_of_ble_eq_true rfl) dX8_init_56 ?_
  refine N_putOF (ty := .object "StruckWhile$Ahead") C 4 sgX_0 (by omega) rfl rfl (by decide) wf8_35 rfl rfl (by decide +kernel) (fun _ => rfl) (fun _ => rfl) dX8_init_59 ?_
  refine N_aload_n C 0 dX8_init_62 rfl rfl ?_
  refine N_new C tyX2 tyX2_ok sgX_63 rfl wl8_39 wx2 wy2 (by decide +kernel) (by omega) (by omega) dX8_init_63 ?_
  refine N_dup C dX8_init_66 rfl ?_
  refine N_callN C (d2 := d - 1) (mc2 := 0 + 1) (ms2 := 0 + 100) (As := []) (k2 := 65) (nX2_init _ (d - 1) (by omega)) (by omega) (by omega) (by decide) rfl wn8_41 wiX2_init (by omega) (by omega) (Nat.le_of_ble_eq_true rfl) dX8_init_67 ?_
  refine N_putOF (ty := .object "StruckWhile$Reader") C 5 sgX_0 (by omega) rfl rfl (by decide) wf8_42 rfl rfl (by decide +kernel) (fun _ => rfl) (fun _ => rfl) dX8_init_70 ?_
  refine N_aload_n C 0 dX8_init_73 rfl rfl ?_
  refine N_bipush (v := 6) C dX8_init_74 (by decide) ?_
  refine N_newq (n' := 6) C sgX_65 wl8_46 (by decide) (by decide) (by decide) (by omega) (by omega) dX8_init_76 ?_
  refine N_putOF (ty := .array (.object "StruckWhile$Square")) C 6 sgX_0 (by omega) rfl rfl (by decide) wf8_48 rfl rfl (by decide +kernel) (fun _ => rfl) (fun _ => rfl) dX8_init_79 ?_
  refine N_aload_n C 0 dX8_init_82 rfl rfl ?_
  refine N_new C tyX0 tyX0_ok sgX_66 rfl wl8_52 wx0 wy0 (by decide +kernel) (by omega) (by omega) dX8_init_83 ?_
  refine N_dup C dX8_init_86 rfl ?_
  refine N_callN C (d2 := d - 1) (mc2 := 0 + 1) (ms2 := 0 + 20) (As := []) (k2 := 68) (nX0_init _ (d - 1) (by omega)) (by omega) (by omega) (by decide) rfl wn8_54 wiX0_init (by omega) (by omega) (Nat.le_of_ble_eq_true rfl) dX8_init_87 ?_
  refine N_putOF (ty := .object "StruckWhile$Acts") C 8 sgX_0 (by omega) rfl rfl (by decide) wf8_55 rfl rfl (by decide +kernel) (fun _ => rfl) (fun _ => rfl) dX8_init_90 ?_
  refine N_aload_n C 0 dX8_init_93 rfl rfl ?_
  refine N_new C tyX5 tyX5_ok sgX_68 rfl wl8_59 wx5 wy5 (by decide +kernel) (by omega) (by omega) dX8_init_94 ?_
  refine N_dup C dX8_init_97 rfl ?_
  refine N_call C (d2 := d - 1) (mc2 := 0 + 1 + 1 + 1 + 6) (ms2 := 0 + 6 + 6 + 6 + (6 * 60)) (As := []) (k2 := 78) (nX5_init _ (d - 1) (by omega)) (by omega) (by omega) (by decide) rfl wm8_61 wiX5_init (by omega) (by omega) (Nat.le_of_ble_eq_true rfl) dX8_init_98 ?_
  refine N_putOF (ty := .object "StruckWhile$Tapes") C 9 sgX_0 (by omega) rfl rfl (by decide) wf8_62 rfl rfl (by decide +kernel) (fun _ => rfl) (fun _ => rfl) dX8_init_101 ?_
  refine N_iconst (v := 0) C dX8_init_104 (by decide) ?_
  refine N_istore_n (L' := [(1, .int ((0 : Int32))), (0, .ref 0)]) C dX8_init_105 rfl (by decide) rfl ?_
  refine N_iload_n C 0 dX8_init_106 rfl rfl ?_
  refine N_aload_n C 1 dX8_init_107 rfl rfl ?_
  refine N_getO (x := 65) C 6 sgX_0 (by omega) rfl rfl (by decide) wf8_48 rfl dX8_init_108 ?_
  refine N_alen 6 4 (v := 6) C sgX_65 (by omega) rfl (Or.inr ⟨rfl, rfl⟩) (by decide) dX8_init_111 ?_
  refine N_icmp_geF (tgt := 134) C dX8_init_112 (by decide) (by decide) ?_
  refine N_aload_n C 1 dX8_init_115 rfl rfl ?_
  refine N_getO (x := 65) C 6 sgX_0 (by omega) rfl rfl (by decide) wf8_48 rfl dX8_init_116 ?_
  refine N_iload_n C 0 dX8_init_119 rfl rfl ?_
  refine N_new C tyX4 tyX4_ok gSq_78.1 rfl wl8_46 wx4 wy4 (by decide +kernel) (by omega) (by omega) dX8_init_120 ?_
  refine N_dup C dX8_init_123 rfl ?_
  refine N_callN C (d2 := d - 1) (mc2 := 0 + 1 + 1) (ms2 := 0 + 100 + 10) (As := []) (k2 := 81) (nX4_init (t := 78) gSq_78 _ (d - 1) (by omega)) (by omega) (by omega) (by decide) rfl wn8_66 wiX4_init (by omega) (by omega) (Nat.le_of_ble_eq_true rfl) dX8_init_124 ?_
  refine N_aast C sgX_65 (by omega) gSq_78.1 rfl (by decide) dX8_init_127 ?_
  refine N_iinc (v := 1) (L' := [(1, .int ((1 : Int32))), (0, .ref 0)]) C 0 dX8_init_128 rfl (by decide) (by decide) rfl ?_
  refine N_goto (tgt := 106) C dX8_init_131 (by decide) ?_
  refine N_iload_n C 0 dX8_init_106 rfl rfl ?_
  refine N_aload_n C 1 dX8_init_107 rfl rfl ?_
  refine N_getO (x := 65) C 6 sgX_0 (by omega) rfl rfl (by decide) wf8_48 rfl dX8_init_108 ?_
  refine N_alen 6 4 (v := 6) C sgX_65 (by omega) rfl (Or.inr ⟨rfl, rfl⟩) (by decide) dX8_init_111 ?_
  refine N_icmp_geF (tgt := 134) C dX8_init_112 (by decide) (by decide) ?_
  refine N_aload_n C 1 dX8_init_115 rfl rfl ?_
  refine N_getO (x := 65) C 6 sgX_0 (by omega) rfl rfl (by decide) wf8_48 rfl dX8_init_116 ?_
  refine N_iload_n C 0 dX8_init_119 rfl rfl ?_
  refine N_new C tyX4 tyX4_ok gSq_81.1 rfl wl8_46 wx4 wy4 (by decide +kernel) (by omega) (by omega) dX8_init_120 ?_
  refine N_dup C dX8_init_123 rfl ?_
  refine N_callN C (d2 := d - 1) (mc2 := 0 + 1 + 1) (ms2 := 0 + 100 + 10) (As := []) (k2 := 84) (nX4_init (t := 81) gSq_81 _ (d - 1) (by omega)) (by omega) (by omega) (by decide) rfl wn8_66 wiX4_init (by omega) (by omega) (Nat.le_of_ble_eq_true rfl) dX8_init_124 ?_
  refine N_aast C sgX_65 (by omega) gSq_81.1 rfl (by decide) dX8_init_127 ?_
  refine N_iinc (v := 2) (L' := [(1, .int ((2 : Int32))), (0, .ref 0)]) C 0 dX8_init_128 rfl (by decide) (by decide) rfl ?_
  refine N_goto (tgt := 106) C dX8_init_131 (by decide) ?_
  refine N_iload_n C 0 dX8_init_106 rfl rfl ?_
  refine N_aload_n C 1 dX8_init_107 rfl rfl ?_
  refine N_getO (x := 65) C 6 sgX_0 (by omega) rfl rfl (by decide) wf8_48 rfl dX8_init_108 ?_
  refine N_alen 6 4 (v := 6) C sgX_65 (by omega) rfl (Or.inr ⟨rfl, rfl⟩) (by decide) dX8_init_111 ?_
  refine N_icmp_geF (tgt := 134) C dX8_init_112 (by decide) (by decide) ?_
  refine N_aload_n C 1 dX8_init_115 rfl rfl ?_
  refine N_getO (x := 65) C 6 sgX_0 (by omega) rfl rfl (by decide) wf8_48 rfl dX8_init_116 ?_
  refine N_iload_n C 0 dX8_init_119 rfl rfl ?_
  refine N_new C tyX4 tyX4_ok gSq_84.1 rfl wl8_46 wx4 wy4 (by decide +kernel) (by omega) (by omega) dX8_init_120 ?_
  refine N_dup C dX8_init_123 rfl ?_
  refine N_callN C (d2 := d - 1) (mc2 := 0 + 1 + 1) (ms2 := 0 + 100 + 10) (As := []) (k2 := 87) (nX4_init (t := 84) gSq_84 _ (d - 1) (by omega)) (by omega) (by omega) (by decide) rfl wn8_66 wiX4_init (by omega) (by omega) (Nat.le_of_ble_eq_true rfl) dX8_init_124 ?_
  refine N_aast C sgX_65 (by omega) gSq_84.1 rfl (by decide) dX8_init_127 ?_
  refine N_iinc (v := 3) (L' := [(1, .int ((3 : Int32))), (0, .ref 0)]) C 0 dX8_init_128 rfl (by decide) (by decide) rfl ?_
  refine N_goto (tgt := 106) C dX8_init_131 (by decide) ?_
  refine N_iload_n C 0 dX8_init_106 rfl rfl ?_
  refine N_aload_n C 1 dX8_init_107 rfl rfl ?_
  refine N_getO (x := 65) C 6 sgX_0 (by omega) rfl rfl (by decide) wf8_48 rfl dX8_init_108 ?_
  refine N_alen 6 4 (v := 6) C sgX_65 (by omega) rfl (Or.inr ⟨rfl, rfl⟩) (by decide) dX8_init_111 ?_
  refine N_icmp_geF (tgt := 134) C dX8_init_112 (by decide) (by decide) ?_
  refine N_aload_n C 1 dX8_init_115 rfl rfl ?_
  refine N_getO (x := 65) C 6 sgX_0 (by omega) rfl rfl (by decide) wf8_48 rfl dX8_init_116 ?_
  refine N_iload_n C 0 dX8_init_119 rfl rfl ?_
  refine N_new C tyX4 tyX4_ok gSq_87.1 rfl wl8_46 wx4 wy4 (by decide +kernel) (by omega) (by omega) dX8_init_120 ?_
  refine N_dup C dX8_init_123 rfl ?_
  refine N_callN C (d2 := d - 1) (mc2 := 0 + 1 + 1) (ms2 := 0 + 100 + 10) (As := []) (k2 := 90) (nX4_init (t := 87) gSq_87 _ (d - 1) (by omega)) (by omega) (by omega) (by decide) rfl wn8_66 wiX4_init (by omega) (by omega) (Nat.le_of_ble_eq_true rfl) dX8_init_124 ?_
  refine N_aast C sgX_65 (by omega) gSq_87.1 rfl (by decide) dX8_init_127 ?_
  refine N_iinc (v := 4) (L' := [(1, .int ((4 : Int32))), (0, .ref 0)]) C 0 dX8_init_128 rfl (by decide) (by decide) rfl ?_
  refine N_goto (tgt := 106) C dX8_init_131 (by decide) ?_
  refine N_iload_n C 0 dX8_init_106 rfl rfl ?_
  refine N_aload_n C 1 dX8_init_107 rfl rfl ?_
  refine N_getO (x := 65) C 6 sgX_0 (by omega) rfl rfl (by decide) wf8_48 rfl dX8_init_108 ?_
  refine N_alen 6 4 (v := 6) C sgX_65 (by omega) rfl (Or.inr ⟨rfl, rfl⟩) (by decide) dX8_init_111 ?_
  refine N_icmp_geF (tgt := 134) C dX8_init_112 (by decide) (by decide) ?_
  refine N_aload_n C 1 dX8_init_115 rfl rfl ?_
  refine N_getO (x := 65) C 6 sgX_0 (by omega) rfl rfl (by decide) wf8_48 rfl dX8_init_116 ?_
  refine N_iload_n C 0 dX8_init_119 rfl rfl ?_
  refine N_new C tyX4 tyX4_ok gSq_90.1 rfl wl8_46 wx4 wy4 (by decide +kernel) (by omega) (by omega) dX8_init_120 ?_
  refine N_dup C dX8_init_123 rfl ?_
  refine N_callN C (d2 := d - 1) (mc2 := 0 + 1 + 1) (ms2 := 0 + 100 + 10) (As := []) (k2 := 93) (nX4_init (t := 90) gSq_90 _ (d - 1) (by omega)) (by omega) (by omega) (by decide) rfl wn8_66 wiX4_init (by omega) (by omega) (Nat.le_of_ble_eq_true rfl) dX8_init_124 ?_
  refine N_aast C sgX_65 (by omega) gSq_90.1 rfl (by decide) dX8_init_127 ?_
  refine N_iinc (v := 5) (L' := [(1, .int ((5 : Int32))), (0, .ref 0)]) C 0 dX8_init_128 rfl (by decide) (by decide) rfl ?_
  refine N_goto (tgt := 106) C dX8_init_131 (by decide) ?_
  refine N_iload_n C 0 dX8_init_106 rfl rfl ?_
  refine N_aload_n C 1 dX8_init_107 rfl rfl ?_
  refine N_getO (x := 65) C 6 sgX_0 (by omega) rfl rfl (by decide) wf8_48 rfl dX8_init_108 ?_
  refine N_alen 6 4 (v := 6) C sgX_65 (by omega) rfl (Or.inr ⟨rfl, rfl⟩) (by decide) dX8_init_111 ?_
  refine N_icmp_geF (tgt := 134) C dX8_init_112 (by decide) (by decide) ?_
  refine N_aload_n C 1 dX8_init_115 rfl rfl ?_
  refine N_getO (x := 65) C 6 sgX_0 (by omega) rfl rfl (by decide) wf8_48 rfl dX8_init_116 ?_
  refine N_iload_n C 0 dX8_init_119 rfl rfl ?_
  refine N_new C tyX4 tyX4_ok gSq_93.1 rfl wl8_46 wx4 wy4 (by decide +kernel) (by omega) (by omega) dX8_init_120 ?_
  refine N_dup C dX8_init_123 rfl ?_
  refine N_callN C (d2 := d - 1) (mc2 := 0 + 1 + 1) (ms2 := 0 + 100 + 10) (As := []) (k2 := 96) (nX4_init (t := 93) gSq_93 _ (d - 1) (by omega)) (by omega) (by omega) (by decide) rfl wn8_66 wiX4_init (by omega) (by omega) (Nat.le_of_ble_eq_true rfl) dX8_init_124 ?_
  refine N_aast C sgX_65 (by omega) gSq_93.1 rfl (by decide) dX8_init_127 ?_
  refine N_iinc (v := 6) (L' := [(1, .int ((6 : Int32))), (0, .ref 0)]) C 0 dX8_init_128 rfl (by decide) (by decide) rfl ?_
  refine N_goto (tgt := 106) C dX8_init_131 (by decide) ?_
  refine N_iload_n C 0 dX8_init_106 rfl rfl ?_
  refine N_aload_n C 1 dX8_init_107 rfl rfl ?_
  refine N_getO (x := 65) C 6 sgX_0 (by omega) rfl rfl (by decide) wf8_48 rfl dX8_init_108 ?_
  refine N_alen 6 4 (v := 6) C sgX_65 (by omega) rfl (Or.inr ⟨rfl, rfl⟩) (by decide) dX8_init_111 ?_
  refine N_icmp_geT (tgt := 134) C dX8_init_112 (by decide) (by decide) ?_
  exact N_ret C dX8_init_134
def uM0 : zM := (sO (sO (sO (sO (sI (sI (sI (sI (sI (sI (sO (sI (sO (sO (sO (sO (sO (sO (sO (sO (sO (sO (sO (sO (sO (sO (sI (sI (sI (sI (sI (sI (sI (sI (sI (sI (sO (sO (sO (sO (sI (sI (sO (sO (sO (sI (sO (sO (sO (sO (sI (sI (sI (sO (sO (sO (sI (sI (sI (sI (sI (sI (sI (sI (sI (sI (sI (sI (sI (sI (sI (sI (sO (sO (sO (sO (sO (sO (sO (sO (sI (sI (sI (sI (sI (sO (sO (sO (sO (sO (sO (sO (sI (sI (sI (sI (sI z0 0 0 (0 : Int32)) 0 1 (0 : Int32)) 0 2 (0 : Int32)) 0 3 (-5 : Int32)) 0 4 (0 : Int32)) 0 5 (some 1)) 0 6 (some 2)) 0 7 (some 3)) 0 8 (some 4)) 0 9 (some 5)) 0 10 (some 6)) 0 11 (some 7)) 0 12 (0 : Int32)) 0 13 (-1 : Int32)) 0 14 (0 : Int32)) 0 15 (0 : Int32)) 0 16 (0 : Int32)) 0 17 (some 8)) 0 18 (some 9)) 0 19 (some 10)) 0 20 (some 11)) 0 21 (some 12)) 0 22 (some 13)) 0 23 (some 14)) 0 24 (some 15)) 0 25 (0 : Int32)) 0 26 (0 : Int32)) 0 27 (0 : Int32)) 16 ((0 : Int32)).toNatClampNeg (104 : Int32)) 16 ((1 : Int32)).toNatClampNeg (101 : Int32)) 16 ((2 : Int32)).toNatClampNeg (97 : Int32)) 16 ((3 : Int32)).toNatClampNeg (116 : Int32)) 16 ((4 : Int32)).toNatClampNeg (99 : Int32)) 16 ((5 : Int32)).toNatClampNeg (97 : Int32)) 16 ((6 : Int32)).toNatClampNeg (108 : Int32)) 16 ((7 : Int32)).toNatClampNeg (109 : Int32)) 16 ((8 : Int32)).toNatClampNeg (115 : Int32)) 16 ((9 : Int32)).toNatClampNeg (112 : Int32)) 16 ((10 : Int32)).toNatClampNeg (97 : Int32)) 16 ((11 : Int32)).toNatClampNeg (114 : Int32)) 16 ((12 : Int32)).toNatClampNeg (107 : Int32)) 0 28 (some 16)) 0 29 (some 17)) 0 30 (some 18)) 0 31 (0 : Int32)) 0 32 (0 : Int32)) 0 33 (0 : Int32)) 0 34 (some 19)) 0 35 (some 20)) 0 36 (some 21)) 0 37 (some 22)) 0 38 (0 : Int32)) 0 39 (some 23)) 0 40 (some 24)) 0 41 (some 25)) 0 42 (0 : Int32)) 0 43 (0 : Int32)) 0 44 (some 26)) 0 45 (some 27)) 0 46 (some 28)) 0 47 (some 29)) 0 48 (0 : Int32)) 0 49 (-1 : Int32)) 0 50 (0 : Int32)) 0 51 (0 : Int32)) 0 52 (0 : Int32)) 0 53 (0 : Int32)) 0 54 (0 : Int32)) 0 55 (0 : Int32)) 0 56 (0 : Int32)) 0 57 (0 : Int32)) 0 58 (some 30)) 0 59 (some 31)) 0 60 (some 32)) 0 61 (some 33)) 0 62 (some 34)) 0 63 (some 35)) 0 64 (some 36)) 0 65 (some 37)) 0 66 (some 38)) 0 67 (some 39)) 0 68 (some 40)) 0 69 (some 41)) 0 70 (some 42)) 0 71 (some 43)) 0 72 (0 : Int32)) 0 73 (some 44)) 45 ((0 : Int32)).toNatClampNeg (-1 : Int32)) 45 ((1 : Int32)).toNatClampNeg (-1 : Int32)) 45 ((2 : Int32)).toNatClampNeg (-1 : Int32)) 45 ((3 : Int32)).toNatClampNeg (-1 : Int32)) 45 ((4 : Int32)).toNatClampNeg (-1 : Int32)) 45 ((5 : Int32)).toNatClampNeg (-1 : Int32)) 0 74 (some 45)) 0 75 (some 46)) 0 76 (some 47)) 0 77 (some 48))
set_option maxRecDepth 20000 in
theorem nX9_init  (d : Nat) (hd : 2 ≤ d) : zMetN SGM yX9_init cX9_init 1 d (0 + 1 + 1 + 1 + 1 + 1 + 1 + 1 + 1 + 1 + 1 + 1 + 1 + 1 + 1 + 1 + 1 + 1 + 1 + 1 + 1 + 1 + 1 + 1 + 1 + 1 + 1 + 1 + 1 + 1 + 1 + 1 + 1 + 1 + 1 + 1 + 1 + 1 + 1 + 1 + 1 + 1 + 1 + 1 + 1 + 1 + 1 + 1 + 1) (0 + 6 + 6 + 6 + 24 + 4 + 4 + 4 + 100 + 6 + 60 + 60 + 60 + 60 + 600 + 101 + 13 + 100 + 6 + 6 + 4 + 4 + 4 + 5 + 5 + 5 + 10 + 10 + 8 + 8 + 6 + 6 + 6 + 24 + 4 + 4 + 4 + 5 + 5 + 10 + 10 + 8 + 8 + 5 + 20 + 6 + 6 + 360 + 60) [.ref 0] (1) z0 (49) (uM0) := by
  refine zMetN_of SGM_new (by decide) (by decide +kernel) (fun as => Nat.le_of_ble_eq_true rfl) (by omega) (fun p l e s m args below meth c as0 dA D C => ?_) rfl
  have C : zCn p s m args meth c dA D SGM d 1 RX9 cX9_init := C
  show GoN p l e s m args below meth c dA D SGM as0 (1) d (0 + 1 + 1 + 1 + 1 + 1 + 1 + 1 + 1 + 1 + 1 + 1 + 1 + 1 + 1 + 1 + 1 + 1 + 1 + 1 + 1 + 1 + 1 + 1 + 1 + 1 + 1 + 1 + 1 + 1 + 1 + 1 + 1 + 1 + 1 + 1 + 1 + 1 + 1 + 1 + 1 + 1 + 1 + 1 + 1 + 1 + 1 + 1 + 1) (0 + 6 + 6 + 6 + 24 + 4 + 4 + 4 + 100 + 6 + 60 + 60 + 60 + 60 + 600 + 101 + 13 + 100 + 6 + 6 + 4 + 4 + 4 + 5 + 5 + 5 + 10 + 10 + 8 + 8 + 6 + 6 + 6 + 24 + 4 + 4 + 4 + 5 + 5 + 10 + 10 + 8 + 8 + 5 + 20 + 6 + 6 + 360 + 60) 1 (49) (uM0) 0 [(0, .ref 0)] [] (1) z0 0 0
  refine N_aload_n C 0 dX9_init_0 rfl rfl ?_
  refine N_objInit C wo9 wOi1 wOi2 (Nat.le_of_ble_eq_true rfl) dX9_init_1 ?_
  refine N_aload_n C 0 dX9_init_4 rfl rfl ?_
  refine N_iconst (v := 0) C dX9_init_5 (by decide) ?_
  refine N_putI (ty := .int) C 0 sgM_0 (by omega) rfl rfl (by decide) wf9_7 rfl (by decide +kernel) rfl rfl dX9_init_6 ?_
  refine N_aload_n C 0 dX9_init_9 rfl rfl ?_
  refine N_iconst (v := 0) C dX9_init_10 (by decide) ?_
  refine N_putI (ty := .int) C 1 sgM_0 (by omega) rfl rfl (by decide) wf9_13 rfl (by decide +kernel) rfl rfl dX9_init_11 ?_
  refine N_aload_n C 0 dX9_init_14 rfl rfl ?_
  refine N_iconst (v := 0) C dX9_init_15 (by decide) ?_
  refine N_putI (ty := .int) C 2 sgM_0 (by omega) rfl rfl (by decide) wf9_16 rfl (by decide +kernel) rfl rfl dX9_init_16 ?_
  refine N_aload_n C 0 dX9_init_19 rfl rfl ?_
  refine N_bipush (v := -5) C dX9_init_20 (by decide) ?_
  refine N_putI (ty := .int) C 3 sgM_0 (by omega) rfl rfl (by decide) wf9_19 rfl (by decide +kernel) rfl rfl dX9_init_22 ?_
  refine N_aload_n C 0 dX9_init_25 rfl rfl ?_
  refine N_iconst (v := 0) C dX9_init_26 (by decide) ?_
  refine N_putI (ty := .int) C 4 sgM_0 (by omega) rfl rfl (by decide) wf9_22 rfl (by decide +kernel) rfl rfl dX9_init_27 ?_
  refine N_aload_n C 0 dX9_init_30 rfl rfl ?_
  refine N_bipush (v := 6) C dX9_init_31 (by decide) ?_
  refine N_newaI (n' := 6) C sgM_1 wa_int (by decide) (by decide) (by decide) (by omega) (by omega) dX9_init_33 ?_
  refine N_putOF (ty := .array .int) C 5 sgM_0 (by omega) rfl rfl (by decide) wf9_25 rfl rfl (by decide +kernel) (fun _ => rfl) (fun _ => rfl) dX9_init_35 ?_
  refine N_aload_n C 0 dX9_init_38 rfl rfl ?_
  refine N_bipush (v := 6) C dX9_init_39 (by decide) ?_
  refine N_newaI (n' := 6) C sgM_2 wa_int (by decide) (by decide) (by decide) (by omega) (by omega) dX9_init_41 ?_
  refine N_putOF (ty := .array .int) C 6 sgM_0 (by omega) rfl rfl (by decide) wf9_29 rfl rfl (by decide +kernel) (fun _ => rfl) (fun _ => rfl) dX9_init_43 ?_
  refine N_aload_n C 0 dX9_init_46 rfl rfl ?_
  refine N_bipush (v := 6) C dX9_init_47 (by decide) ?_
  refine N_newaI (n' := 6) C sgM_3 wa_int (by decide) (by decide) (by decide) (by omega) (by omega) dX9_init_49 ?_
  refine N_putOF (ty := .array .int) C 7 sgM_0 (by omega) rfl rfl (by decide) wf9_32 rfl rfl (by decide +kernel) (fun _ => rfl) (fun _ => rfl) dX9_init_51 ?_
  refine N_aload_n C 0 dX9_init_54 rfl rfl ?_
  refine N_bipush (v := 24) C dX9_init_55 (by decide) ?_
  refine N_newaI (n' := 24) C sgM_4 wa_int (by decide) (by decide) (by decide) (by omega) (by omega) dX9_init_57 ?_
  refine N_putOF (ty := .array .int) C 8 sgM_0 (by omega) rfl rfl (by decide) wf9_35 rfl rfl (by decide +kernel) (fun _ => rfl) (fun _ => rfl) dX9_init_59 ?_
  refine N_aload_n C 0 dX9_init_62 rfl rfl ?_
  refine N_iconst (v := 4) C dX9_init_63 (by decide) ?_
  refine N_newaI (n' := 4) C sgM_5 wa_int (by decide) (by decide) (by decide) (by omega) (by omega) dX9_init_64 ?_
  refine N_putOF (ty := .array .int) C 9 sgM_0 (by omega) rfl rfl (by decide) wf9_38 rfl rfl (by decide +kernel) (fun _ => rfl) (fun _ => rfl) dX9_init_66 ?_
  refine N_aload_n C 0 dX9_init_69 rfl rfl ?_
  refine N_iconst (v := 4) C dX9_init_70 (by decide) ?_
  refine N_newaI (n' := 4) C sgM_6 wa_int (by decide) (by decide) (by decide) (by omega) (by omega) dX9_init_71 ?_
  refine N_putOF (ty := .array .int) C 10 sgM_0 (by omega) rfl rfl (by decide) wf9_41 rfl rfl (by decide +kernel) (fun _ => rfl) (fun _ => rfl) dX9_init_73 ?_
  refine N_aload_n C 0 dX9_init_76 rfl rfl ?_
  refine N_iconst (v := 4) C dX9_init_77 (by decide) ?_
  refine N_newaI (n' := 4) C sgM_7 wa_int (by decide) (by decide) (by decide) (by omega) (by omega) dX9_init_78 ?_
  refine N_putOF (ty := .array .int) C 11 sgM_0 (by omega) rfl rfl (by decide) wf9_44 rfl rfl (by decide +kernel) (fun _ => rfl) (fun _ => rfl) dX9_init_80 ?_
  refine N_aload_n C 0 dX9_init_83 rfl rfl ?_
  refine N_iconst (v := 0) C dX9_init_84 (by decide) ?_
  refine N_putI (ty := .int) C 12 sgM_0 (by omega) rfl rfl (by decide) wf9_47 rfl (by decide +kernel) rfl rfl dX9_init_85 ?_
  refine N_aload_n C 0 dX9_init_88 rfl rfl ?_
  refine N_iconst (v := -1) C dX9_init_89 (by decide) ?_
  refine N_putI (ty := .int) C 13 sgM_0 (by omega) rfl rfl (by decide) wf9_50 rfl (by decide +kernel) rfl rfl dX9_init_90 ?_
  refine N_aload_n C 0 dX9_init_93 rfl rfl ?_
  refine N_iconst (v := 0) C dX9_init_94 (by decide) ?_
  refine N_putI (ty := .int) C 14 sgM_0 (by omega) rfl rfl (by decide) wf9_53 rfl (by decide +kernel) rfl rfl dX9_init_95 ?_
  refine N_aload_n C 0 dX9_init_98 rfl rfl ?_
  refine N_iconst (v := 0) C dX9_init_99 (by decide) ?_
  refine N_putI (ty := .int) C 15 sgM_0 (by omega) rfl rfl (by decide) wf9_56 rfl (by decide +kernel) rfl rfl dX9_init_100 ?_
  refine N_aload_n C 0 dX9_init_103 rfl rfl ?_
  refine N_iconst (v := 0) C dX9_init_104 (by decide) ?_
  refine N_putI (ty := .int) C 16 sgM_0 (by omega) rfl rfl (by decide) wf9_59 rfl (by decide +kernel) rfl rfl dX9_init_105 ?_
  refine N_aload_n C 0 dX9_init_108 rfl rfl ?_
  refine N_bipush (v := 100) C dX9_init_109 (by decide) ?_
  refine N_newaI (n' := 100) C sgM_8 wa_int (by decide) (by decide) (by decide) (by omega) (by omega) dX9_init_111 ?_
  refine N_putOF (ty := .array .int) C 17 sgM_0 (by omega) rfl rfl (by decide) wf9_62 rfl rfl (by decide +kernel) (fun _ => rfl) (fun _ => rfl) dX9_init_113 ?_
  refine N_aload_n C 0 dX9_init_116 rfl rfl ?_
  refine N_bipush (v := 6) C dX9_init_117 (by decide) ?_
  refine N_newaI (n' := 6) C sgM_9 wa_int (by decide) (by decide) (by decide) (by omega) (by omega) dX9_init_119 ?_
  refine N_putOF (ty := .array .int) C 18 sgM_0 (by omega) rfl rfl (by decide) wf9_65 rfl rfl (by decide +kernel) (fun _ => rfl) (fun _ => rfl) dX9_init_121 ?_
  refine N_aload_n C 0 dX9_init_124 rfl rfl ?_
  refine N_bipush (v := 60) C dX9_init_125 (by decide) ?_
  refine N_newaI (n' := 60) C sgM_10 wa_int (by decide) (by decide) (by decide) (by omega) (by omega) dX9_init_127 ?_
  refine N_putOF (ty := .array .int) C 19 sgM_0 (by omega) rfl rfl (by decide) wf9_68 rfl rfl (by decide +kernel) (fun _ => rfl) (fun _ => rfl) dX9_init_129 ?_
  refine N_aload_n C 0 dX9_init_132 rfl rfl ?_
  refine N_bipush (v := 60) C dX9_init_133 (by decide) ?_
  refine N_newaI (n' := 60) C sgM_11 wa_int (by decide) (by decide) (by decide) (by omega) (by omega) dX9_init_135 ?_
  refine N_putOF (ty := .array .int) C 20 sgM_0 (by omega) rfl rfl (by decide) wf9_71 rfl rfl (by decide +kernel) (fun _ => rfl) (fun _ => rfl) dX9_init_137 ?_
  refine N_aload_n C 0 dX9_init_140 rfl rfl ?_
  refine N_bipush (v := 60) C dX9_init_141 (by decide) ?_
  refine N_newaI (n' := 60) C sgM_12 wa_int (by decide) (by decide) (by decide) (by omega) (by omega) dX9_init_143 ?_
  refine N_putOF (ty := .array .int) C 21 sgM_0 (by omega) rfl rfl (by decide) wf9_74 rfl rfl (by decide +kernel) (fun _ => rfl) (fun _ => rfl) dX9_init_145 ?_
  refine N_aload_n C 0 dX9_init_148 rfl rfl ?_
  refine N_bipush (v := 60) C dX9_init_149 (by decide) ?_
  refine N_newaI (n' := 60) C sgM_13 wa_int (by decide) (by decide) (by decide) (by omega) (by omega) dX9_init_151 ?_
  refine N_putOF (ty := .array .int) C 22 sgM_0 (by omega) rfl rfl (by decide) wf9_77 rfl rfl (by decide +kernel) (fun _ => rfl) (fun _ => rfl) dX9_init_153 ?_
  refine N_aload_n C 0 dX9_init_156 rfl rfl ?_
  refine N_sipush (v := 600) C dX9_init_157 (by decide) ?_
  refine N_newaI (n' := 600) C sgM_14 wa_int (by decide) (by decide) (by decide) (by omega) (by omega) dX9_init_160 ?_
  refine N_putOF (ty := .array .int) C 23 sgM_0 (by omega) rfl rfl (by decide) wf9_80 rfl rfl (by decide +kernel) (fun _ => rfl) (fun _ => rfl) dX9_init_162 ?_
  refine N_aload_n C 0 dX9_init_165 rfl rfl ?_
  refine N_bipush (v := 101) C dX9_init_166 (by decide) ?_
  refine N_newaI (n' := 101) C sgM_15 wa_int (by decide) (by decide) (by decide) (by omega) (by omega) dX9_init_168 ?_
  refine N_putOF (ty := .array .int) C 24 sgM_0 (by omega) rfl rfl (by decide) wf9_83 rfl rfl (by decide +kernel) (fun _ => rfl) (fun _ => rfl) dX9_init_170 ?_
  refine N_aload_n C 0 dX9_init_173 rfl rfl ?_
  refine N_iconst (v := 0) C dX9_init_174 (by decide) ?_
  refine N_putI (ty := .int) C 25 sgM_0 (by omega) rfl rfl (by decide) wf9_86 rfl (by decide +kernel) rfl rfl dX9_init_175 ?_
  refine N_aload_n C 0 dX9_init_178 rfl rfl ?_
  refine N_iconst (v := 0) C dX9_init_179 (by decide) ?_
  refine N_putI (ty := .int) C 26 sgM_0 (by omega) rfl rfl (by decide) wf9_89 rfl (by decide +kernel) rfl rfl dX9_init_180 ?_
  refine N_aload_n C 0 dX9_init_183 rfl rfl ?_
  refine N_iconst (v := 0) C dX9_init_184 (by decide) ?_
  refine N_putI (ty := .int) C 27 sgM_0 (by omega) rfl rfl (by decide) wf9_92 rfl (by decide +kernel) rfl rfl dX9_init_185 ?_
  refine N_aload_n C 0 dX9_init_188 rfl rfl ?_
  refine N_bipush (v := 13) C dX9_init_189 (by decide) ?_
  refine N_newaI (n' := 13) C sgM_16 wa_int (by decide) (by decide) (by decide) (by omega) (by omega) dX9_init_191 ?_
  refine N_dup C dX9_init_193 rfl ?_
  refine N_iconst (v := 0) C dX9_init_194 (by decide) ?_
  refine N_bipush (v := 104) C dX9_init_195 (by decide) ?_
  refine N_iast C sgM_16 (by omega) (by decide) dX9_init_197 ?_
  refine N_dup C dX9_init_198 rfl ?_
  refine N_iconst (v := 1) C dX9_init_199 (by decide) ?_
  refine N_bipush (v := 101) C dX9_init_200 (by decide) ?_
  refine N_iast C sgM_16 (by omega) (by decide) dX9_init_202 ?_
  refine N_dup C dX9_init_203 rfl ?_
  refine N_iconst (v := 2) C dX9_init_204 (by decide) ?_
  refine N_bipush (v := 97) C dX9_init_205 (by decide) ?_
  refine N_iast C sgM_16 (by omega) (by decide) dX9_init_207 ?_
  refine N_dup C dX9_init_208 rfl ?_
  refine N_iconst (v := 3) C dX9_init_209 (by decide) ?_
  refine N_bipush (v := 116) C dX9_init_210 (by decide) ?_
  refine N_iast C sgM_16 (by omega) (by decide) dX9_init_212 ?_
  refine N_dup C dX9_init_213 rfl ?_
  refine N_iconst (v := 4) C dX9_init_214 (by decide) ?_
  refine N_bipush (v := 99) C dX9_init_215 (by decide) ?_
  refine N_iast C sgM_16 (by omega) (by decide) dX9_init_217 ?_
  refine N_dup C dX9_init_218 rfl ?_
  refine N_iconst (v := 5) C dX9_init_219 (by decide) ?_
  refine N_bipush (v := 97) C dX9_init_220 (by decide) ?_
  refine N_iast C sgM_16 (by omega) (by decide) dX9_init_222 ?_
  refine N_dup C dX9_init_223 rfl ?_
  refine N_bipush (v := 6) C dX9_init_224 (by decide) ?_
  refine N_bipush (v := 108) C dX9_init_226 (by decide) ?_
  refine N_iast C sgM_16 (by omega) (by decide) dX9_init_228 ?_
  refine N_dup C dX9_init_229 rfl ?_
  refine N_bipush (v := 7) C dX9_init_230 (by decide) ?_
  refine N_bipush (v := 109) C dX9_init_232 (by decide) ?_
  refine N_iast C sgM_16 (by omega) (by decide) dX9_init_234 ?_
  refine N_dup C dX9_init_235 rfl ?_
  refine N_bipush (v := 8) C dX9_init_236 (by decide) ?_
  refine N_bipush (v := 115) C dX9_init_238 (by decide) ?_
  refine N_iast C sgM_16 (by omega) (by decide) dX9_init_240 ?_
  refine N_dup C dX9_init_241 rfl ?_
  refine N_bipush (v := 9) C dX9_init_242 (by decide) ?_
  refine N_bipush (v := 112) C dX9_init_244 (by decide) ?_
  refine N_iast C sgM_16 (by omega) (by decide) dX9_init_246 ?_
  refine N_dup C dX9_init_247 rfl ?_
  refine N_bipush (v := 10) C dX9_init_248 (by decide) ?_
  refine N_bipush (v := 97) C dX9_init_250 (by decide) ?_
  refine N_iast C sgM_16 (by omega) (by decide) dX9_init_252 ?_
  refine N_dup C dX9_init_253 rfl ?_
  refine N_bipush (v := 11) C dX9_init_254 (by decide) ?_
  refine N_bipush (v := 114) C dX9_init_256 (by decide) ?_
  refine N_iast C sgM_16 (by omega) (by decide) dX9_init_258 ?_
  refine N_dup C dX9_init_259 rfl ?_
  refine N_bipush (v := 12) C dX9_init_260 (by decide) ?_
  refine N_bipush (v := 107) C dX9_init_262 (by decide) ?_
  refine N_iast C sgM_16 (by omega) (by decide) dX9_init_264 ?_
  refine N_putOF (ty := .array .int) C 28 sgM_0 (by omega) rfl rfl (by decide) wf9_95 rfl rfl (by decide +kernel) (fun _ => rfl) (fun _ => rfl) dX9_init_265 ?_
  refine N_aload_n C 0 dX9_init_268 rfl rfl ?_
  refine N_bipush (v := 100) C dX9_init_269 (by decide) ?_
  refine N_newaZ (n' := 100) C sgM_17 wa_boolean (by decide) (by decide) (by decide) (by omega) (by omega) dX9_init_271 ?_
  refine N_putOF (ty := .array .boolean) C 29 sgM_0 (by omega) rfl rfl (by decide) wf9_98 rfl rfl (by decide +kernel) (fun _ => rfl) (fun _ => rfl) dX9_init_273 ?_
  refine N_aload_n C 0 dX9_init_276 rfl rfl ?_
  refine N_bipush (v := 6) C dX9_init_277 (by decide) ?_
  refine N_newaI (n' := 6) C sgM_18 wa_int (by decide) (by decide) (by decide) (by omega) (by omega) dX9_init_279 ?_
  refine N_putOF (ty := .array .int) C 30 sgM_0 (by omega) rfl rfl (by decide) wf9_102 rfl rfl (by decide +kernel) (fun _ => rfl) (fun _ => rfl) dX9_init_281 ?_
  refine N_aload_n C 0 dX9_init_284 rfl rfl ?_
  refine N_iconst (v := 0) C dX9_init_285 (by decide) ?_
  refine N_putI (ty := .int) C 31 sgM_0 (by omega) rfl rfl (by decide) wf9_105 rfl (by decide +kernel) rfl rfl dX9_init_286 ?_
  refine N_aload_n C 0 dX9_init_289 rfl rfl ?_
  refine N_iconst (v := 0) C dX9_init_290 (by decide) ?_
  refine N_putI (ty := .int) C 32 sgM_0 (by omega) rfl rfl (by decide) wf9_108 rfl (by decide +kernel) rfl rfl dX9_init_291 ?_
  refine N_aload_n C 0 dX9_init_294 rfl rfl ?_
  refine N_iconst (v := 0) C dX9_init_295 (by decide) ?_
  refine N_putI (ty := .int) C 33 sgM_0 (by omega) rfl rfl (by decide) wf9_111 rfl (by decide +kernel) rfl rfl dX9_init_296 ?_
  refine N_aload_n C 0 dX9_init_299 rfl rfl ?_
  refine N_bipush (v := 6) C dX9_init_300 (by decide) ?_
  refine N_newaI (n' := 6) C sgM_19 wa_int (by decide) (by decide) (by decide) (by omega) (by omega) dX9_init_302 ?_
  refine N_putOF (ty := .array .int) C 34 sgM_0 (by omega) rfl rfl (by decide) wf9_114 rfl rfl (by decide +kernel) (fun _ => rfl) (fun _ => rfl) dX9_init_304 ?_
  refine N_aload_n C 0 dX9_init_307 rfl rfl ?_
  refine N_iconst (v := 4) C dX9_init_308 (by decide) ?_
  refine N_newaI (n' := 4) C sgM_20 wa_int (by decide) (by decide) (by decide) (by omega) (by omega) dX9_init_309 ?_
  refine N_putOF (ty := .array .int) C 35 sgM_0 (by omega) rfl rfl (by decide) wf9_117 rfl rfl (by decide +kernel) (fun _ => rfl) (fun _ => rfl) dX9_init_311 ?_
  refine N_aload_n C 0 dX9_init_314 rfl rfl ?_
  refine N_iconst (v := 4) C dX9_init_315 (by decide) ?_
  refine N_newaI (n' := 4) C sgM_21 wa_int (by decide) (by decide) (by decide) (by omega) (by omega) dX9_init_316 ?_
  refine N_putOF (ty := .array .int) C 36 sgM_0 (by omega) rfl rfl (by decide) wf9_120 rfl rfl (by decide +kernel) (fun _ => rfl) (fun _ => rfl) dX9_init_318 ?_
  refine N_aload_n C 0 dX9_init_321 rfl rfl ?_
  refine N_iconst (v := 4) C dX9_init_322 (by decide) ?_
  refine N_newaI (n' := 4) C sgM_22 wa_int (by decide) (by decide) (by decide) (by omega) (by omega) dX9_init_323 ?_
  refine N_putOF (ty := .array .int) C 37 sgM_0 (by omega) rfl rfl (by decide) wf9_123 rfl rfl (by decide +kernel) (fun _ => rfl) (fun _ => rfl) dX9_init_325 ?_
  refine N_aload_n C 0 dX9_init_328 rfl rfl ?_
  refine N_iconst (v := 0) C dX9_init_329 (by decide) ?_
  refine N_putI (ty := .int) C 38 sgM_0 (by omega) rfl rfl (by decide) wf9_126 rfl (by decide +kernel) rfl rfl dX9_init_330 ?_
  refine N_aload_n C 0 dX9_init_333 rfl rfl ?_
  refine N_iconst (v := 5) C dX9_init_334 (by decide) ?_
  refine N_newaI (n' := 5) C sgM_23 wa_int (by decide) (by decide) (by decide) (by omega) (by omega) dX9_init_335 ?_
  refine N_putOF (ty := .array .int) C 39 sgM_0 (by omega) rfl rfl (by decide) wf9_129 rfl rfl (by decide +kernel) (fun _ => rfl) (fun _ => rfl) dX9_init_337 ?_
  refine N_aload_n C 0 dX9_init_340 rfl rfl ?_
  refine N_iconst (v := 5) C dX9_init_341 (by decide) ?_
  refine N_newaI (n' := 5) C sgM_24 wa_int (by decide) (by decide) (by decide) (by omega) (by omega) dX9_init_342 ?_
  refine N_putOF (ty := .array .int) C 40 sgM_0 (by omega) rfl rfl (by decide) wf9_132 rfl rfl (by decide +kernel) (fun _ => rfl) (fun _ => rfl) dX9_init_344 ?_
  refine N_aload_n C 0 dX9_init_347 rfl rfl ?_
  refine N_iconst (v := 5) C dX9_init_348 (by decide) ?_
  refine N_newaZ (n' := 5) C sgM_25 wa_boolean (by decide) (by decide) (by decide) (by omega) (by omega) dX9_init_349 ?_
  refine N_putOF (ty := .array .boolean) C 41 sgM_0 (by omega) rfl rfl (by decide) wf9_135 rfl rfl (by decide +kernel) (fun _ => rfl) (fun _ => rfl) dX9_init_351 ?_
  refine N_aload_n C 0 dX9_init_354 rfl rfl ?_
  refine N_iconst (v := 0) C dX9_init_355 (by decide) ?_
  refine N_putI (ty := .int) C 42 sgM_0 (by omega) rfl rfl (by decide) wf9_138 rfl (by decide +kernel) rfl rfl dX9_init_356 ?_
  refine N_aload_n C 0 dX9_init_359 rfl rfl ?_
  refine N_iconst (v := 0) C dX9_init_360 (by decide) ?_
  refine N_putI (ty := .int) C 43 sgM_0 (by omega) rfl rfl (by decide) wf9_141 rfl (by decide +kernel) rfl rfl dX9_init_361 ?_
  refine N_aload_n C 0 dX9_init_364 rfl rfl ?_
  refine N_bipush (v := 10) C dX9_init_365 (by decide) ?_
  refine N_newaI (n' := 10) C sgM_26 wa_int (by decide) (by decide) (by decide) (by omega) (by omega) dX9_init_367 ?_
  refine N_putOF (ty := .array .int) C 44 sgM_0 (by omega) rfl rfl (by decide) wf9_144 rfl rfl (by decide +kernel) (fun _ => rfl) (fun _ => rfl) dX9_init_369 ?_
  refine N_aload_n C 0 dX9_init_372 rfl rfl ?_
  refine N_bipush (v := 10) C dX9_init_373 (by decide) ?_
  refine N_newaI (n' := 10) C sgM_27 wa_int (by decide) (by decide) (by decide) (by omega) (by omega) dX9_init_375 ?_
  refine N_putOF (ty := .array .int) C 45 sgM_0 (by omega) rfl rfl (by decide) wf9_147 rfl rfl (by decide +kernel) (fun _ => rfl) (fun _ => rfl) dX9_init_377 ?_
  refine N_aload_n C 0 dX9_init_380 rfl rfl ?_
  refine N_bipush (v := 8) C dX9_init_381 (by decide) ?_
  refine N_newaI (n' := 8) C sgM_28 wa_int (by decide) (by decide) (by decide) (by omega) (by omega) dX9_init_383 ?_
  refine N_putOF (ty := .array .int) C 46 sgM_0 (by omega) rfl rfl (by decide) wf9_150 rfl rfl (by decide +kernel) (fun _ => rfl) (fun _ => rfl) dX9_init_385 ?_
  refine N_aload_n C 0 dX9_init_388 rfl rfl ?_
  refine N_bipush (v := 8) C dX9_init_389 (by decide) ?_
  refine N_newaI (n' := 8) C sgM_29 wa_int (by decide) (by decide) (by decide) (by omega) (by omega) dX9_init_391 ?_
  refine N_putOF (ty := .array .int) C 47 sgM_0 (by omega) rfl rfl (by decide) wf9_153 rfl rfl (by decide +kernel) (fun _ => rfl) (fun _ => rfl) dX9_init_393 ?_
  refine N_aload_n C 0 dX9_init_396 rfl rfl ?_
  refine N_iconst (v := 0) C dX9_init_397 (by decide) ?_
  refine N_putI (ty := .boolean) C 48 sgM_0 (by omega) rfl rfl (by decide) wf9_156 rfl (by decide +kernel) rfl rfl dX9_init_398 ?_
  refine N_aload_n C 0 dX9_init_401 rfl rfl ?_
  refine N_iconst (v := -1) C dX9_init_402 (by decide) ?_
  refine N_putI (ty := .int) C 49 sgM_0 (by omega) rfl rfl (by decide) wf9_160 rfl (by decide +kernel) rfl rfl dX9_init_403 ?_
  refine N_aload_n C 0 dX9_init_406 rfl rfl ?_
  refine N_iconst (v := 0) C dX9_init_407 (by decide) ?_
  refine N_putI (ty := .int) C 50 sgM_0 (by omega) rfl rfl (by decide) wf9_163 rfl (by decide +kernel) rfl rfl dX9_init_408 ?_
  refine N_aload_n C 0 dX9_init_411 rfl rfl ?_
  refine N_iconst (v := 0) C dX9_init_412 (by decide) ?_
  refine N_putI (ty := .int) C 51 sgM_0 (by omega) rfl rfl (by decide) wf9_166 rfl (by decide +kernel) rfl rfl dX9_init_413 ?_
  refine N_aload_n C 0 dX9_init_416 rfl rfl ?_
  refine N_iconst (v := 0) C dX9_init_417 (by decide) ?_
  refine N_putI (ty := .int) C 52 sgM_0 (by omega) rfl rfl (by decide) wf9_169 rfl (by decide +kernel) rfl rfl dX9_init_418 ?_
  refine N_aload_n C 0 dX9_init_421 rfl rfl ?_
  refine N_iconst (v := 0) C dX9_init_422 (by decide) ?_
  refine N_putI (ty := .int) C 53 sgM_0 (by omega) rfl rfl (by decide) wf9_172 rfl (by decide +kernel) rfl rfl dX9_init_423 ?_
  refine N_aload_n C 0 dX9_init_426 rfl rfl ?_
  refine N_iconst (v := 0) C dX9_init_427 (by decide) ?_
  refine N_putI (ty := .int) C 54 sgM_0 (by omega) rfl rfl (by decide) wf9_175 rfl (by decide +kernel) rfl rfl dX9_init_428 ?_
  refine N_aload_n C 0 dX9_init_431 rfl rfl ?_
  refine N_iconst (v := 0) C dX9_init_432 (by decide) ?_
  refine N_putI (ty := .int) C 55 sgM_0 (by omega) rfl rfl (by decide) wf9_178 rfl (by decide +kernel) rfl rfl dX9_init_433 ?_
  refine N_aload_n C 0 dX9_init_436 rfl rfl ?_
  refine N_iconst (v := 0) C dX9_init_437 (by decide) ?_
  refine N_putI (ty := .int) C 56 sgM_0 (by omega) rfl rfl (by decide) wf9_181 rfl (by decide +kernel) rfl rfl dX9_init_438 ?_
  refine N_aload_n C 0 dX9_init_441 rfl rfl ?_
  refine N_iconst (v := 0) C dX9_init_442 (by decide) ?_
  refine N_putI (ty := .int) C 57 sgM_0 (by omega) rfl rfl (by decide) wf9_184 rfl (by decide +kernel) rfl rfl dX9_init_443 ?_
  refine N_aload_n C 0 dX9_init_446 rfl rfl ?_
  refine N_bipush (v := 6) C dX9_init_447 (by decide) ?_
  refine N_newaI (n' := 6) C sgM_30 wa_int (by decide) (by decide) (by decide) (by omega) (by omega) dX9_init_449 ?_
  refine N_putOF (ty := .array .int) C 58 sgM_0 (by omega) rfl rfl (by decide) wf9_187 rfl rfl (by decide +kernel) (fun _ => rfl) (fun _ => rfl) dX9_init_451 ?_
  refine N_aload_n C 0 dX9_init_454 rfl rfl ?_
  refine N_bipush (v := 6) C dX9_init_455 (by decide) ?_
  refine N_newaI (n' := 6) C sgM_31 wa_int (by decide) (by decide) (by decide) (by omega) (by omega) dX9_init_457 ?_
  refine N_putOF (ty := .array .int) C 59 sgM_0 (by omega) rfl rfl (by decide) wf9_190 rfl rfl (by decide +kernel) (fun _ => rfl) (fun _ => rfl) dX9_init_459 ?_
  refine N_aload_n C 0 dX9_init_462 rfl rfl ?_
  refine N_bipush (v := 6) C dX9_init_463 (by decide) ?_
  refine N_newaI (n' := 6) C sgM_32 wa_int (by decide) (by decide) (by decide) (by omega) (by omega) dX9_init_465 ?_
  refine N_putOF (ty := .array .int) C 60 sgM_0 (by omega) rfl rfl (by decide) wf9_193 rfl rfl (by decide +kernel) (fun _ => rfl) (fun _ => rfl) dX9_init_467 ?_
  refine N_aload_n C 0 dX9_init_470 rfl rfl ?_
  refine N_bipush (v := 24) C dX9_init_471 (by decide) ?_
  refine N_newaI (n' := 24) C sgM_33 wa_int (by decide) (by decide) (by decide) (by omega) (by omega) dX9_init_473 ?_
  refine N_putOF (ty := .array .int) C 61 sgM_0 (by omega) rfl rfl (by decide) wf9_196 rfl rfl (by decide +kernel) (fun _ => rfl) (fun _ => rfl) dX9_init_475 ?_
  refine N_aload_n C 0 dX9_init_478 rfl rfl ?_
  refine N_iconst (v := 4) C dX9_init_479 (by decide) ?_
  refine N_newaI (n' := 4) C sgM_34 wa_int (by decide) (by decide) (by decide) (by omega) (by omega) dX9_init_480 ?_
  refine N_putOF (ty := .array .int) C 62 sgM_0 (by omega) rfl rfl (by decide) wf9_199 rfl rfl (by decide +kernel) (fun _ => rfl) (fun _ => rfl) dX9_init_482 ?_
  refine N_aload_n C 0 dX9_init_485 rfl rfl ?_
  refine N_iconst (v := 4) C dX9_init_486 (by decide) ?_
  refine N_newaI (n' := 4) C sgM_35 wa_int (by decide) (by decide) (by decide) (by omega) (by omega) dX9_init_487 ?_
  refine N_putOF (ty := .array .int) C 63 sgM_0 (by omega) rfl rfl (by decide) wf9_202 rfl rfl (by decide +kernel) (fun _ => rfl) (fun _ => rfl) dX9_init_489 ?_
  refine N_aload_n C 0 dX9_init_492 rfl rfl ?_
  refine N_iconst (v := 4) C dX9_init_493 (by decide) ?_
  refine N_newaI (n' := 4) C sgM_36 wa_int (by decide) (by decide) (by decide) (by omega) (by omega) dX9_init_494 ?_
  refine N_putOF (ty := .array .int) C 64 sgM_0 (by omega) rfl rfl (by decide) wf9_205 rfl rfl (by decide +kernel) (fun _ => rfl) (fun _ => rfl) dX9_init_496 ?_
  refine N_aload_n C 0 dX9_init_499 rfl rfl ?_
  refine N_iconst (v := 5) C dX9_init_500 (by decide) ?_
  refine N_newaI (n' := 5) C sgM_37 wa_int (by decide) (by decide) (by decide) (by omega) (by omega) dX9_init_501 ?_
  refine N_putOF (ty := .array .int) C 65 sgM_0 (by omega) rfl rfl (by decide) wf9_208 rfl rfl (by decide +kernel) (fun _ => rfl) (fun _ => rfl) dX9_init_503 ?_
  refine N_aload_n C 0 dX9_init_506 rfl rfl ?_
  refine N_iconst (v := 5) C dX9_init_507 (by decide) ?_
  refine N_newaI (n' := 5) C sgM_38 wa_int (by decide) (by decide) (by decide) (by omega) (by omega) dX9_init_508 ?_
  refine N_putOF (ty := .array .int) C 66 sgM_0 (by omega) rfl rfl (by decide) wf9_211 rfl rfl (by decide +kernel) (fun _ => rfl) (fun _ => rfl) dX9_init_510 ?_
  refine N_aload_n C 0 dX9_init_513 rfl rfl ?_
  refine N_bipush (v := 10) C dX9_init_514 (by decide) ?_
  refine N_newaI (n' := 10) C sgM_39 wa_int (by decide) (by decide) (by decide) (by omega) (by omega) dX9_init_516 ?_
  refine N_putOF (ty := .array .int) C 67 sgM_0 (by omega) rfl rfl (by decide) wf9_214 rfl rfl (by decide +kernel) (fun _ => rfl) (fun _ => rfl) dX9_init_518 ?_
  refine N_aload_n C 0 dX9_init_521 rfl rfl ?_
  refine N_bipush (v := 10) C dX9_init_522 (by decide) ?_
  refine N_newaI (n' := 10) C sgM_40 wa_int (by decide) (by decide) (by decide) (by omega) (by omega) dX9_init_524 ?_
  refine N_putOF (ty := .array .int) C 68 sgM_0 (by omega) rfl rfl (by decide) wf9_217 rfl rfl (by decide +kernel) (fun _ => rfl) (fun _ => rfl) dX9_init_526 ?_
  refine N_aload_n C 0 dX9_init_529 rfl rfl ?_
  refine N_bipush (v := 8) C dX9_init_530 (by decide) ?_
  refine N_newaI (n' := 8) C sgM_41 wa_int (by decide) (by decide) (by decide) (by omega) (by omega) dX9_init_532 ?_
  refine N_putOF (ty := .array .int) C 69 sgM_0 (by omega) rfl rfl (by decide) wf9_220 rfl rfl (by decide +kernel) (fun _ => rfl) (fun _ => rfl) dX9_init_534 ?_
  refine N_aload_n C 0 dX9_init_537 rfl rfl ?_
  refine N_bipush (v := 8) C dX9_init_538 (by decide) ?_
  refine N_newaI (n' := 8) C sgM_42 wa_int (by decide) (by decide) (by decide) (by omega) (by omega) dX9_init_540 ?_
  refine N_putOF (ty := .array .int) C 70 sgM_0 (by omega) rfl rfl (by decide) wf9_223 rfl rfl (by decide +kernel) (fun _ => rfl) (fun _ => rfl) dX9_init_542 ?_
  refine N_aload_n C 0 dX9_init_545 rfl rfl ?_
  refine N_iconst (v := 5) C dX9_init_546 (by decide) ?_
  refine N_newaZ (n' := 5) C sgM_43 wa_boolean (by decide) (by decide) (by decide) (by omega) (by omega) dX9_init_547 ?_
  refine N_putOF (ty := .array .boolean) C 71 sgM_0 (by omega) rfl rfl (by decide) wf9_226 rfl rfl (by decide +kernel) (fun _ => rfl) (fun _ => rfl) dX9_init_549 ?_
  refine N_aload_n C 0 dX9_init_552 rfl rfl ?_
  refine N_iconst (v := 0) C dX9_init_553 (by decide) ?_
  refine N_putI (ty := .int) C 72 sgM_0 (by omega) rfl rfl (by decide) wf9_229 rfl (by decide +kernel) rfl rfl dX9_init_554 ?_
  refine N_aload_n C 0 dX9_init_557 rfl rfl ?_
  refine N_bipush (v := 20) C dX9_init_558 (by decide) ?_
  refine N_newaI (n' := 20) C sgM_44 wa_int (by decide) (by decide) (by decide) (by omega) (by omega) dX9_init_560 ?_
  refine N_putOF (ty := .array .int) C 73 sgM_0 (by omega) rfl rfl (by decide) wf9_232 rfl rfl (by decide +kernel) (fun _ => rfl) (fun _ => rfl) dX9_init_562 ?_
  refine N_aload_n C 0 dX9_init_565 rfl rfl ?_
  refine N_bipush (v := 6) C dX9_init_566 (by decide) ?_
  refine N_newaI (n' := 6) C sgM_45 wa_int (by decide) (by decide) (by decide) (by omega) (by omega) dX9_init_568 ?_
  refine N_dup C dX9_init_570 rfl ?_
  refine N_iconst (v := 0) C dX9_init_571 (by decide) ?_
  refine N_iconst (v := -1) C dX9_init_572 (by decide) ?_
  refine N_iast C sgM_45 (by omega) (by decide) dX9_init_573 ?_
  refine N_dup C dX9_init_574 rfl ?_
  refine N_iconst (v := 1) C dX9_init_575 (by decide) ?_
  refine N_iconst (v := -1) C dX9_init_576 (by decide) ?_
  refine N_iast C sgM_45 (by omega) (by decide) dX9_init_577 ?_
  refine N_dup C dX9_init_578 rfl ?_
  refine N_iconst (v := 2) C dX9_init_579 (by decide) ?_
  refine N_iconst (v := -1) C dX9_init_580 (by decide) ?_
  refine N_iast C sgM_45 (by omega) (by decide) dX9_init_581 ?_
  refine N_dup C dX9_init_582 rfl ?_
  refine N_iconst (v := 3) C dX9_init_583 (by decide) ?_
  refine N_iconst (v := -1) C dX9_init_584 (by decide) ?_
  refine N_iast C sgM_45 (by omega) (by decide) dX9_init_585 ?_
  refine N_dup C dX9_init_586 rfl ?_
  refine N_iconst (v := 4) C dX9_init_587 (by decide) ?_
  refine N_iconst (v := -1) C dX9_init_588 (by decide) ?_
  refine N_iast C sgM_45 (by omega) (by decide) dX9_init_589 ?_
  refine N_dup C dX9_init_590 rfl ?_
  refine N_iconst (v := 5) C dX9_init_591 (by decide) ?_
  refine N_iconst (v := -1) C dX9_init_592 (by decide) ?_
  refine N_iast C sgM_45 (by omega) (by decide) dX9_init_593 ?_
  refine N_putOF (ty := .array .int) C 74 sgM_0 (by omega) rfl rfl (by decide) wf9_235 rfl rfl (by decide +kernel) (fun _ => rfl) (fun _ => rfl) dX9_init_594 ?_
  refine N_aload_n C 0 dX9_init_597 rfl rfl ?_
  refine N_bipush (v := 6) C dX9_init_598 (by decide) ?_
  refine N_newaI (n' := 6) C sgM_46 wa_int (by decide) (by decide) (by decide) (by omega) (by omega) dX9_init_600 ?_
  refine N_putOF (ty := .array .int) C 75 sgM_0 (by omega) rfl rfl (by decide) wf9_238 rfl rfl (by decide +kernel) (fun _ => rfl) (fun _ => rfl) dX9_init_602 ?_
  refine N_aload_n C 0 dX9_init_605 rfl rfl ?_
  refine N_sipush (v := 360) C dX9_init_606 (by decide) ?_
  refine N_newaJ (n' := 360) C sgM_47 wa_long (by decide) (by decide) (by decide) (by omega) (by omega) dX9_init_609 ?_
  refine N_putOF (ty := .array .long) C 76 sgM_0 (by omega) rfl rfl (by decide) wf9_241 rfl rfl (by decide +kernel) (fun _ => rfl) (fun _ => rfl) dX9_init_611 ?_
  refine N_aload_n C 0 dX9_init_614 rfl rfl ?_
  refine N_bipush (v := 60) C dX9_init_615 (by decide) ?_
  refine N_newaJ (n' := 60) C sgM_48 wa_long (by decide) (by decide) (by decide) (by omega) (by omega) dX9_init_617 ?_
  refine N_putOF (ty := .array .long) C 77 sgM_0 (by omega) rfl rfl (by decide) wf9_245 rfl rfl (by decide +kernel) (fun _ => rfl) (fun _ => rfl) dX9_init_619 ?_
  exact N_ret C dX9_init_622
