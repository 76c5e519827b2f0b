/-! public int one(int, int, int) -/
def f_X8_one (p1 : Int32) (p2 : Int32) (p3 : Int32) (u : zM) : Option (Int32 × zM) :=
  zb (f_X8_isWithin p1 (0 : Int32) (6 : Int32) u) fun y1 u2 => (if y1 = (0 : Int32) then some ((-1 : Int32), u2) else zb (f_X8_isWithin p2 (0 : Int32) (9 : Int32) u2) fun y3 u4 => (if y3 = (0 : Int32) then some ((-2 : Int32), u4) else zb (f_X8_isWithin p3 (0 : Int32) (99 : Int32) u4) fun y5 u6 => (if y5 = (0 : Int32) then some ((-2 : Int32), u6) else (if (gI u6 2 0) < (6 : Int32) then zb (f_X6_addOne 2 p1 p2 p3 u6) fun y7 u8 => some (y7, u8) else some ((-4 : Int32), u6)))))
set_option maxRecDepth 20000 in
theorem go_X8_one {p : Program} {l : Launch} {e : Env} {s : State} {m : MethodId} {args : Array Value} {below : List Frame} {meth : Method} {c : Code} {as : Nat → Nat} {dA : Nat → ClassId} {D : va_G} {d : Nat} {p1 : Int32} {p2 : Int32} {p3 : Int32} (C : zCx p s m args meth c as dA D SHX d 4 yX8_one.cls cX8_one ((some FieldType.int))) (hd : 2 ≤ d) : ∀ (u : zM), Go p l e s m args below meth c as dA D SHX d 4 zQi 0 [(0, .ref 0), (1, .int p1), (2, .int p2), (3, .int p3)] [] u (f_X8_one p1 p2 p3 u) := by
  intro u
  unfold f_X8_one
  refine G_iload_n C 1 dX8_one_0 rfl rfl ?_
  refine G_iconst (v := 0) C dX8_one_1 (by decide) ?_
  refine G_bipush (v := 6) C dX8_one_2 (by decide) ?_
  refine G_callSi C (m_X8_isWithin p1 (0 : Int32) (6 : Int32) u (d - 1) (by omega)) (d' := d - 1) (As := [.int p1, .int (0 : Int32), .int (6 : Int32)]) (by omega) rfl wm8_67 wwX8_isWithin (Nat.le_of_ble_eq_true rfl) dX8_one_4 (fun y1 u2 => ?_)
  refine G_if_ne (tgt := 12) C dX8_one_7 (by decide) (fun _ => ?_) (fun _ => ?_)
  · refine G_iload_n C 2 dX8_one_12 rfl rfl ?_
    refine G_iconst (v := 0) C dX8_one_13 (by decide) ?_
    refine G_bipush (v := 9) C dX8_one_14 (by decide) ?_
    refine G_callSi C (m_X8_isWithin p2 (0 : Int32) (9 : Int32) u2 (d - 1) (by omega)) (d' := d - 1) (As := [.int p2, .int (0 : Int32), .int (9 : Int32)]) (by omega) rfl wm8_67 wwX8_isWithin (Nat.le_of_ble_eq_true rfl) dX8_one_16 (fun y3 u4 => ?_)
    refine G_if_eq (tgt := 32) C dX8_one_19 (by decide) (fun _ => ?_) (fun _ => ?_)
    · refine G_bipush (v := -2) C dX8_one_32 (by decide) ?_
      exact G_iret C dX8_one_34
    · refine G_iload_n C 3 dX8_one_22 rfl rfl ?_
      refine G_iconst (v := 0) C dX8_one_23 (by decide) ?_
      refine G_bipush (v := 99) C dX8_one_24 (by decide) ?_
      refine G_callSi C (m_X8_isWithin p3 (0 : Int32) (99 : Int32) u4 (d - 1) (by omega)) (d' := d - 1) (As := [.int p3, .int (0 : Int32), .int (99 : Int32)]) (by omega) rfl wm8_67 wwX8_isWithin (Nat.le_of_ble_eq_true rfl) dX8_one_26 (fun y5 u6 => ?_)
      refine G_if_ne (tgt := 35) C dX8_one_29 (by decide) (fun _ => ?_) (fun _ => ?_)
      · refine G_aload_n C 0 dX8_one_35 rfl rfl ?_
        refine G_getR (j := 2) C 3 shX_0 rfl rfl (by decide) wf8_25 dX8_one_36 ?_
        refine G_getI C 0 zTn_2.1 rfl rfl (by decide) wf8_71 dX8_one_39 ?_
        refine G_bipush (v := 6) C dX8_one_42 (by decide) ?_
        refine G_icmp_lt (tgt := 50) C dX8_one_44 (by decide) (fun _ => ?_) (fun _ => ?_)
        · refine G_aload_n C 0 dX8_one_50 rfl rfl ?_
          refine G_getR (j := 2) C 3 shX_0 rfl rfl (by decide) wf8_25 dX8_one_51 ?_
          refine G_iload_n C 1 dX8_one_54 rfl rfl ?_
          refine G_iload_n C 2 dX8_one_55 rfl rfl ?_
          refine G_iload_n C 3 dX8_one_56 rfl rfl ?_
          refine G_callVi C (m_X6_addOne zTn_2 p1 p2 p3 u6 (d - 1) (by omega)) (d' := d - 1) (As := [.int p1, .int p2, .int p3]) (by omega) rfl wm8_77 wwX6_addOne zTn_2.1 rfl (Nat.le_of_ble_eq_true rfl) dX8_one_57 (fun y7 u8 => ?_)
          exact G_iret C dX8_one_60
        · refine G_bipush (v := -4) C dX8_one_47 (by decide) ?_
          exact G_iret C dX8_one_49
      · refine G_bipush (v := -2) C dX8_one_32 (by decide) ?_
        exact G_iret C dX8_one_34
  · refine G_iconst (v := -1) C dX8_one_10 (by decide) ?_
    exact G_iret C dX8_one_11
theorem m_X8_one   (p1 : Int32) (p2 : Int32) (p3 : Int32) (u : zM) (d : Nat) (hd : 2 ≤ d) : zMet zQi SHX yX8_one cX8_one 4 ((some FieldType.int)) d [.ref 0, .int p1, .int p2, .int p3] u (f_X8_one p1 p2 p3 u) :=
  zMet_of (by decide +kernel) (fun as => Nat.le_of_ble_eq_true rfl) wwX8_one.2.2.2.1 (by omega) (fun p l e s m args below meth c as dA D C => go_X8_one C hd u)
/-! public int of(int, int) -/
def f_X8_of (p1 : Int32) (p2 : Int32) (u : zM) : Option (Int32 × zM) :=
  zb (f_X6_hasOne 2 p1 u) fun y1 u2 => (if y1 = (0 : Int32) then some ((-10001 : Int32), u2) else (if p2 = (0 : Int32) then zck (inB p1 6) <| some ((gI u2 3 p1.toNatClampNeg), u2) else if p2 = (1 : Int32) then zck (inB p1 6) <| some ((gI u2 4 p1.toNatClampNeg), u2) else if p2 = (2 : Int32) then zck (inB p1 6) <| some ((gI u2 5 p1.toNatClampNeg), u2) else if p2 = (3 : Int32) then zck (inB p1 6) <| zb (f_X8_asNumber (gI u2 6 p1.toNatClampNeg) u2) fun y11 u12 => some (y11, u12) else if p2 = (4 : Int32) then zb (f_X6_riseOf 2 p1 u2) fun y14 u15 => some (y14, u15) else if p2 = (5 : Int32) then zb (f_X6_countBeside 2 p1 (50 : Int32) u2) fun y17 u18 => some (y17, u18) else some ((-10001 : Int32), u2)))
set_option maxRecDepth 20000 in
theorem go_X8_of {p : Program} {l : Launch} {e : Env} {s : State} {m : MethodId} {args : Array Value} {below : List Frame} {meth : Method} {c : Code} {as : Nat → Nat} {dA : Nat → ClassId} {D : va_G} {d : Nat} {p1 : Int32} {p2 : Int32} (C : zCx p s m args meth c as dA D SHX d 3 yX8_of.cls cX8_of ((some FieldType.int))) (hd : 4 ≤ d) : ∀ (u : zM), Go p l e s m args below meth c as dA D SHX d 3 zQi 0 [(0, .ref 0), (1, .int p1), (2, .int p2)] [] u (f_X8_of p1 p2 u) := by
  intro u
  unfold f_X8_of
  refine G_aload_n C 0 dX8_of_0 rfl rfl ?_
  refine G_getR (j := 2) C 3 shX_0 rfl rfl (by decide) wf8_25 dX8_of_1 ?_
  refine G_iload_n C 1 dX8_of_4 rfl rfl ?_
  refine G_callVi C (m_X6_hasOne zTn_2 p1 u (d - 1) (by omega)) (d' := d - 1) (As := [.int p1]) (by omega) rfl wm8_81 wwX6_hasOne zTn_2.1 rfl (Nat.le_of_ble_eq_true rfl) dX8_of_5 (fun y1 u2 => ?_)
  refine G_if_ne (tgt := 15) C dX8_of_8 (by decide) (fun _ => ?_) (fun _ => ?_)
  · refine G_iload_n C 2 dX8_of_15 rfl rfl ?_
    refine G_if (fun h3 => ?_) (fun h3 => ?_)
    · refine G_tsIn (v := 0) (off := 40) (tgt := 56) C dX8_of_16 h3 (by decide) (by decide) rfl (by decide) ?_
      refine G_aload_n C 0 dX8_of_56 rfl rfl ?_
      refine G_getR (j := 2) C 3 shX_0 rfl rfl (by decide) wf8_25 dX8_of_57 ?_
      refine G_getR (j := 3) C 1 zTn_2.1 rfl rfl (by decide) wf8_85 dX8_of_60 ?_
      refine G_iload_n C 1 dX8_of_63 rfl rfl ?_
      refine G_iald C zTn_2.2.1 dX8_of_64 (fun hb4 => ?_)
      exact G_iret C dX8_of_65
    · refine G_if (fun h5 => ?_) (fun h5 => ?_)
      · refine G_tsIn (v := 1) (off := 50) (tgt := 66) C dX8_of_16 h5 (by decide) (by decide) rfl (by decide) ?_
        refine G_aload_n C 0 dX8_of_66 rfl rfl ?_
        refine G_getR (j := 2) C 3 shX_0 rfl rfl (by decide) wf8_25 dX8_of_67 ?_
        refine G_getR (j := 4) C 2 zTn_2.1 rfl rfl (by decide) wf8_89 dX8_of_70 ?_
        refine G_iload_n C 1 dX8_of_73 rfl rfl ?_
        refine G_iald C zTn_2.2.2.1 dX8_of_74 (fun hb6 => ?_)
        exact G_iret C dX8_of_75
      · refine G_if (fun h7 => ?_) (fun h7 => ?_)
        · refine G_tsIn (v := 2) (off := 60) (tgt := 76) C dX8_of_16 h7 (by decide) (by decide) rfl (by decide) ?_
          refine G_aload_n C 0 dX8_of_76 rfl rfl ?_
          refine G_getR (j := 2) C 3 shX_0 rfl rfl (by decide) wf8_25 dX8_of_77 ?_
          refine G_getR (j := 5) C 3 zTn_2.1 rfl rfl (by decide) wf8_92 dX8_of_80 ?_
          refine G_iload_n C 1 dX8_of_83 rfl rfl ?_
          refine G_iald C zTn_2.2.2.2.1 dX8_of_84 (fun hb8 => ?_)
          exact G_iret C dX8_of_85
        · refine G_if (fun h9 => ?_) (fun h9 => ?_)
          · refine G_tsIn (v := 3) (off := 70) (tgt := 86) C dX8_of_16 h9 (by decide) (by decide) rfl (by decide) ?_
            refine G_aload_n C 0 dX8_of_86 rfl rfl ?_
            refine G_getR (j := 2) C 3 shX_0 rfl rfl (by decide) wf8_25 dX8_of_87 ?_
            refine G_getR (j := 6) C 4 zTn_2.1 rfl rfl (by decide) wf8_95 dX8_of_90 ?_
            refine G_iload_n C 1 dX8_of_93 rfl rfl ?_
            refine G_zald C zTn_2.2.2.2.2.1 dX8_of_94 (fun hb10 => ?_)
            refine G_callSi C (m_X8_asNumber (gI u2 6 p1.toNatClampNeg) u2 (d - 1) (by omega)) (d' := d - 1) (As := [.int (gI u2 6 p1.toNatClampNeg)]) (by omega) rfl wm8_99 wwX8_asNumber (Nat.le_of_ble_eq_true rfl) dX8_of_95 (fun y11 u12 => ?_)
            exact G_iret C dX8_of_98
          · refine G_if (fun h13 => ?_) (fun h13 => ?_)
            · refine G_tsIn (v := 4) (off := 83) (tgt := 99) C dX8_of_16 h13 (by decide) (by decide) rfl (by decide) ?_
              refine G_aload_n C 0 dX8_of_99 rfl rfl ?_
              refine G_getR (j := 2) C 3 shX_0 rfl rfl (by decide) wf8_25 dX8_of_100 ?_
              refine G_iload_n C 1 dX8_of_103 rfl rfl ?_
              refine G_callVi C (m_X6_riseOf zTn_2 p1 u2 (d - 1) (by omega)) (d' := d - 1) (As := [.int p1]) (by omega) rfl wm8_103 wwX6_riseOf zTn_2.1 rfl (Nat.le_of_ble_eq_true rfl) dX8_of_104 (fun y14 u15 => ?_)
              exact G_iret C dX8_of_107
            · refine G_if (fun h16 => ?_) (fun h16 => ?_)
              · refine G_tsIn (v := 5) (off := 92) (tgt := 108) C dX8_of_16 h16 (by decide) (by decide) rfl (by decide) ?_
                refine G_aload_n C 0 dX8_of_108 rfl rfl ?_
                refine G_getR (j := 2) C 3 shX_0 rfl rfl (by decide) wf8_25 dX8_of_109 ?_
                refine G_iload_n C 1 dX8_of_112 rfl rfl ?_
                refine G_bipush (v := 50) C dX8_of_113 (by decide) ?_
                refine G_callVi C (m_X6_countBeside zTn_2 p1 (50 : Int32) u2 (d - 1) (by omega)) (d' := d - 1) (As := [.int p1, .int (50 : Int32)]) (by omega) rfl wm8_107 wwX6_countBeside zTn_2.1 rfl (Nat.le_of_ble_eq_true rfl) dX8_of_115 (fun y17 u18 => ?_)
                exact G_iret C dX8_of_118
              · refine G_tsOut (tgt := 119) C dX8_of_16 (by have e0 := lv_neT (a := 0) h3 rfl; have e1 := lv_neT (a := 1) h5 rfl; have e2 := lv_neT (a := 2) h7 rfl; have e3 := lv_neT (a := 3) h9 rfl; have e4 := lv_neT (a := 4) h13 rfl; have e5 := lv_neT (a := 5) h16 rfl; omega) (by decide) ?_
                refine G_sipush (v := -10001) C dX8_of_119 (by decide) ?_
                exact G_iret C dX8_of_122
  · refine G_sipush (v := -10001) C dX8_of_11 (by decide) ?_
    exact G_iret C dX8_of_14
theorem m_X8_of   (p1 : Int32) (p2 : Int32) (u : zM) (d : Nat) (hd : 4 ≤ d) : zMet zQi SHX yX8_of cX8_of 3 ((some FieldType.int)) d [.ref 0, .int p1, .int p2] u (f_X8_of p1 p2 u) :=
  zMet_of (by decide +kernel) (fun as => Nat.le_of_ble_eq_true rfl) wwX8_of.2.2.2.1 (by omega) (fun p l e s m args below meth c as dA D C => go_X8_of C hd u)
/-! public int heat(int, int) -/
def f_X8_heat (p1 : Int32) (p2 : Int32) (u : zM) : Option (Int32 × zM) :=
  zb (f_X6_hasOne 2 p1 u) fun y1 u2 => (if y1 = (0 : Int32) then some ((-1 : Int32), u2) else zb (f_X8_isWithin p2 (0 : Int32) (99 : Int32) u2) fun y3 u4 => (if y3 = (0 : Int32) then some ((-2 : Int32), u4) else zck (inB p1 6) <| zlx (gI u4 5 p1.toNatClampNeg) fun v6 => zck (inB p1 6) <| zlet (sI u4 5 p1.toNatClampNeg p2) fun u7 => some (v6, u7)))
set_option maxRecDepth 20000 in
theorem go_X8_heat {p : Program} {l : Launch} {e : Env} {s : State} {m : MethodId} {args : Array Value} {below : List Frame} {meth : Method} {c : Code} {as : Nat → Nat} {dA : Nat → ClassId} {D : va_G} {d : Nat} {p1 : Int32} {p2 : Int32} (C : zCx p s m args meth c as dA D SHX d 4 yX8_heat.cls cX8_heat ((some FieldType.int))) (hd : 2 ≤ d) : ∀ (u : zM), Go p l e s m args below meth c as dA D SHX d 4 zQi 0 [(0, .ref 0), (1, .int p1), (2, .int p2)] [] u (f_X8_heat p1 p2 u) := by
  intro u
  unfold f_X8_heat
  refine G_aload_n C 0 dX8_heat_0 rfl rfl ?_
  refine G_getR (j := 2) C 3 shX_0 rfl rfl (by decide) wf8_25 dX8_heat_1 ?_
  refine G_iload_n C 1 dX8_heat_4 rfl rfl ?_
  refine G_callVi C (m_X6_hasOne zTn_2 p1 u (d - 1) (by omega)) (d' := d - 1) (As := [.int p1]) (by omega) rfl wm8_81 wwX6_hasOne zTn_2.1 rfl (Nat.le_of_ble_eq_true rfl) dX8_heat_5 (fun y1 u2 => ?_)
  refine G_if_ne (tgt := 13) C dX8_heat_8 (by decide) (fun _ => ?_) (fun _ => ?_)
  · refine G_iload_n C 2 dX8_heat_13 rfl rfl ?_
    refine G_iconst (v := 0) C dX8_heat_14 (by decide) ?_
    refine G_bipush (v := 99) C dX8_heat_15 (by decide) ?_
    refine G_callSi C (m_X8_isWithin p2 (0 : Int32) (99 : Int32) u2 (d - 1) (by omega)) (d' := d - 1) (As := [.int p2, .int (0 : Int32), .int (99 : Int32)]) (by omega) rfl wm8_67 wwX8_isWithin (Nat.le_of_ble_eq_true rfl) dX8_heat_17 (fun y3 u4 => ?_)
    refine G_if_ne (tgt := 26) C dX8_heat_20 (by decide) (fun _ => ?_) (fun _ => ?_)
    · refine G_aload_n C 0 dX8_heat_26 rfl rfl ?_
      refine G_getR (j := 2) C 3 shX_0 rfl rfl (by decide) wf8_25 dX8_heat_27 ?_
      refine G_getR (j := 5) C 3 zTn_2.1 rfl rfl (by decide) wf8_92 dX8_heat_30 ?_
      refine G_iload_n C 1 dX8_heat_33 rfl rfl ?_
      refine G_iald C zTn_2.2.2.2.1 dX8_heat_34 (fun hb5 => ?_)
      refine G_topi (fun v6 => ?_)
      refine G_istore_n (L' := [(3, .int v6), (0, .ref 0), (1, .int p1), (2, .int p2)]) C dX8_heat_35 rfl (by decide) rfl ?_
      refine G_aload_n C 1 dX8_heat_36 rfl rfl ?_
      refine G_getR (j := 2) C 3 shX_0 rfl rfl (by decide) wf8_25 dX8_heat_37 ?_
      refine G_getR (j := 5) C 3 zTn_2.1 rfl rfl (by decide) wf8_92 dX8_heat_40 ?_
      refine G_iload_n C 2 dX8_heat_43 rfl rfl ?_
      refine G_iload_n C 3 dX8_heat_44 rfl rfl ?_
      refine G_iast C zTn_2.2.2.2.1 dX8_heat_45 (fun _ u7 => ?_)
      refine G_iload_n C 0 dX8_heat_46 rfl rfl ?_
      exact G_iret C dX8_heat_47
    · refine G_bipush (v := -2) C dX8_heat_23 (by decide) ?_
      exact G_iret C dX8_heat_25
  · refine G_iconst (v := -1) C dX8_heat_11 (by decide) ?_
    exact G_iret C dX8_heat_12
theorem m_X8_heat   (p1 : Int32) (p2 : Int32) (u : zM) (d : Nat) (hd : 2 ≤ d) : zMet zQi SHX yX8_heat cX8_heat 4 ((some FieldType.int)) d [.ref 0, .int p1, .int p2] u (f_X8_heat p1 p2 u) :=
  zMet_of (by decide +kernel) (fun as => Nat.le_of_ble_eq_true rfl) wwX8_heat.2.2.2.1 (by omega) (fun p l e s m args below meth c as dA D C => go_X8_heat C hd u)
/-! public int away(int, boolean) -/
def f_X8_away (p1 : Int32) (p2 : Int32) (u : zM) : Option (Int32 × zM) :=
  zb (f_X6_hasOne 2 p1 u) fun y1 u2 => (if y1 = (0 : Int32) then some ((-1 : Int32), u2) else zck (inB p1 6) <| zb (f_X8_asNumber (gI u2 6 p1.toNatClampNeg) u2) fun y4 u5 => zck (inB p1 6) <| zlet (sI u5 6 p1.toNatClampNeg (vp_nar .boolean p2)) fun u6 => some (y4, u6))
set_option maxRecDepth 20000 in
theorem go_X8_away {p : Program} {l : Launch} {e : Env} {s : State} {m : MethodId} {args : Array Value} {below : List Frame} {meth : Method} {c : Code} {as : Nat → Nat} {dA : Nat → ClassId} {D : va_G} {d : Nat} {p1 : Int32} {p2 : Int32} (C : zCx p s m args meth c as dA D SHX d 4 yX8_away.cls cX8_away ((some FieldType.int))) (hd : 2 ≤ d) : ∀ (u : zM), Go p l e s m args below meth c as dA D SHX d 4 zQi 0 [(0, .ref 0), (1, .int p1), (2, .int p2)] [] u (f_X8_away p1 p2 u) := by
  intro u
  unfold f_X8_away
  refine G_aload_n C 0 dX8_away_0 rfl rfl ?_
  refine G_getR (j := 2) C 3 shX_0 rfl rfl (by decide) wf8_25 dX8_away_1 ?_
  refine G_iload_n C 1 dX8_away_4 rfl rfl ?_
  refine G_callVi C (m_X6_hasOne zTn_2 p1 u (d - 1) (by omega)) (d' := d - 1) (As := [.int p1]) (by omega) rfl wm8_81 wwX6_hasOne zTn_2.1 rfl (Nat.le_of_ble_eq_true rfl) dX8_away_5 (fun y1 u2 => ?_)
  refine G_if_ne (tgt := 13) C dX8_away_8 (by decide) (fun _ => ?_) (fun _ => ?_)
  · refine G_aload_n C 0 dX8_away_13 rfl rfl ?_
    refine G_getR (j := 2) C 3 shX_0 rfl rfl (by decide) wf8_25 dX8_away_14 ?_
    refine G_getR (j := 6) C 4 zTn_2.1 rfl rfl (by decide) wf8_95 dX8_away_17 ?_
    refine G_iload_n C 1 dX8_away_20 rfl rfl ?_
    refine G_zald C zTn_2.2.2.2.2.1 dX8_away_21 (fun hb3 => ?_)
    refine G_callSi C (m_X8_asNumber (gI u2 6 p1.toNatClampNeg) u2 (d - 1) (by omega)) (d' := d - 1) (As := [.int (gI u2 6 p1.toNatClampNeg)]) (by omega) rfl wm8_99 wwX8_asNumber (Nat.le_of_ble_eq_true rfl) dX8_away_22 (fun y4 u5 => ?_)
    refine G_istore_n (L' := [(3, .int y4), (0, .ref 0), (1, .int p1), (2, .int p2)]) C dX8_away_25 rfl (by decide) rfl ?_
    refine G_aload_n C 1 dX8_away_26 rfl rfl ?_
    refine G_getR (j := 2) C 3 shX_0 rfl rfl (by decide) wf8_25 dX8_away_27 ?_
    refine G_getR (j := 6) C 4 zTn_2.1 rfl rfl (by decide) wf8_95 dX8_away_30 ?_
    refine G_iload_n C 2 dX8_away_33 rfl rfl ?_
    refine G_iload_n C 3 dX8_away_34 rfl rfl ?_
    refine G_zast C zTn_2.2.2.2.2.1 dX8_away_35 (fun _ u6 => ?_)
    refine G_iload_n C 0 dX8_away_36 rfl rfl ?_
    exact G_iret C dX8_away_37
  · refine G_iconst (v := -1) C dX8_away_11 (by decide) ?_
    exact G_iret C dX8_away_12
theorem m_X8_away   (p1 : Int32) (p2 : Int32) (u : zM) (d : Nat) (hd : 2 ≤ d) : zMet zQi SHX yX8_away cX8_away 4 ((some FieldType.int)) d [.ref 0, .int p1, .int p2] u (f_X8_away p1 p2 u) :=
  zMet_of (by decide +kernel) (fun as => Nat.le_of_ble_eq_true rfl) wwX8_away.2.2.2.1 (by omega) (fun p l e s m args below meth c as dA D C => go_X8_away C hd u)
/-! public int work(int, int) -/
def f_X8_work (p1 : Int32) (p2 : Int32) (u : zM) : Option (Int32 × zM) :=
  zb (f_X8_isWithin p1 (1 : Int32) (999 : Int32) u) fun y1 u2 => (if y1 = (0 : Int32) then some ((-2 : Int32), u2) else zb (f_X8_isWithin p2 (0 : Int32) (60 : Int32) u2) fun y3 u4 => (if y3 = (0 : Int32) then some ((-2 : Int32), u4) else (if (gI u4 2 6) < (4 : Int32) then zb (f_X6_addWork 2 p1 p2 u4) fun y5 u6 => some (y5, u6) else some ((-4 : Int32), u4))))
set_option maxRecDepth 20000 in
theorem go_X8_work {p : Program} {l : Launch} {e : Env} {s : State} {m : MethodId} {args : Array Value} {below : List Frame} {meth : Method} {c : Code} {as : Nat → Nat} {dA : Nat → ClassId} {D : va_G} {d : Nat} {p1 : Int32} {p2 : Int32} (C : zCx p s m args meth c as dA D SHX d 3 yX8_work.cls cX8_work ((some FieldType.int))) (hd : 2 ≤ d) : ∀ (u : zM), Go p l e s m args below meth c as dA D SHX d 3 zQi 0 [(0, .ref 0), (1, .int p1), (2, .int p2)] [] u (f_X8_work p1 p2 u) := by
  intro u
  unfold f_X8_work
  refine G_iload_n C 1 dX8_work_0 rfl rfl ?_
  refine G_iconst (v := 1) C dX8_work_1 (by decide) ?_
  refine G_sipush (v := 999) C dX8_work_2 (by decide) ?_
  refine G_callSi C (m_X8_isWithin p1 (1 : Int32) (999 : Int32) u (d - 1) (by omega)) (d' := d - 1) (As := [.int p1, .int (1 : Int32), .int (999 : Int32)]) (by omega) rfl wm8_67 wwX8_isWithin (Nat.le_of_ble_eq_true rfl) dX8_work_5 (fun y1 u2 => ?_)
  refine G_if_eq (tgt := 21) C dX8_work_8 (by decide) (fun _ => ?_) (fun _ => ?_)
  · refine G_bipush (v := -2) C dX8_work_21 (by decide) ?_
    exact G_iret C dX8_work_23
  · refine G_iload_n C 2 dX8_work_11 rfl rfl ?_
    refine G_iconst (v := 0) C dX8_work_12 (by decide) ?_
    refine G_bipush (v := 60) C dX8_work_13 (by decide) ?_
    refine G_callSi C (m_X8_isWithin p2 (0 : Int32) (60 : Int32) u2 (d - 1) (by omega)) (d' := d - 1) (As := [.int p2, .int (0 : Int32), .int (60 : Int32)]) (by omega) rfl wm8_67 wwX8_isWithin (Nat.le_of_ble_eq_true rfl) dX8_work_15 (fun y3 u4 => ?_)
    refine G_if_ne (tgt := 24) C dX8_work_18 (by decide) (fun _ => ?_) (fun _ => ?_)
    · refine G_aload_n C 0 dX8_work_24 rfl rfl ?_
      refine G_getR (j := 2) C 3 shX_0 rfl rfl (by decide) wf8_25 dX8_work_25 ?_
      refine G_getI C 6 zTn_2.1 rfl rfl (by decide) wf8_111 dX8_work_28 ?_
      refine G_iconst (v := 4) C dX8_work_31 (by decide) ?_
      refine G_icmp_lt (tgt := 38) C dX8_work_32 (by decide) (fun _ => ?_) (fun _ => ?_)
      · refine G_aload_n C 0 dX8_work_38 rfl rfl ?_
        refine G_getR (j := 2) C 3 shX_0 rfl rfl (by decide) wf8_25 dX8_work_39 ?_
        refine G_iload_n C 1 dX8_work_42 rfl rfl ?_
        refine G_iload_n C 2 dX8_work_43 rfl rfl ?_
        refine G_callVi C (m_X6_addWork zTn_2 p1 p2 u4 (d - 1) (by omega)) (d' := d - 1) (As := [.int p1, .int p2]) (by omega) rfl wm8_114 wwX6_addWork zTn_2.1 rfl (Nat.le_of_ble_eq_true rfl) dX8_work_44 (fun y5 u6 => ?_)
        exact G_iret C dX8_work_47
      · refine G_bipush (v := -4) C dX8_work_35 (by decide) ?_
        exact G_iret C dX8_work_37
    · refine G_bipush (v := -2) C dX8_work_21 (by decide) ?_
      exact G_iret C dX8_work_23
theorem m_X8_work   (p1 : Int32) (p2 : Int32) (u : zM) (d : Nat) (hd : 2 ≤ d) : zMet zQi SHX yX8_work cX8_work 3 ((some FieldType.int)) d [.ref 0, .int p1, .int p2] u (f_X8_work p1 p2 u) :=
  zMet_of (by decide +kernel) (fun as => Nat.le_of_ble_eq_true rfl) wwX8_work.2.2.2.1 (by omega) (fun p l e s m args below meth c as dA D C => go_X8_work C hd u)
/-! public int piece(int, int) -/
def f_X8_piece (p1 : Int32) (p2 : Int32) (u : zM) : Option (Int32 × zM) :=
  zb (f_X6_hasWork 2 p1 u) fun y1 u2 => (if y1 = (0 : Int32) then some ((-1 : Int32), u2) else (if p2 = (0 : Int32) then zck (inB p1 4) <| some ((gI u2 8 p1.toNatClampNeg), u2) else if p2 = (1 : Int32) then zck (inB p1 4) <| some ((gI u2 9 p1.toNatClampNeg), u2) else if p2 = (2 : Int32) then zck (inB p1 4) <| some ((gI u2 10 p1.toNatClampNeg), u2) else if p2 = (3 : Int32) then zb (f_X6_isDone 2 p1 u2) fun y10 u11 => zb (f_X8_asNumber y10 u11) fun y12 u13 => some (y12, u13) else if p2 = (4 : Int32) then zb (f_X1_minutesUntilDone p1 u2) fun y15 u16 => some (y15, u16) else some ((-1 : Int32), u2)))
set_option maxRecDepth 20000 in
theorem go_X8_piece {p : Program} {l : Launch} {e : Env} {s : State} {m : MethodId} {args : Array Value} {below : List Frame} {meth : Method} {c : Code} {as : Nat → Nat} {dA : Nat → ClassId} {D : va_G} {d : Nat} {p1 : Int32} {p2 : Int32} (C : zCx p s m args meth c as dA D SHX d 3 yX8_piece.cls cX8_piece ((some FieldType.int))) (hd : 6 ≤ d) : ∀ (u : zM), Go p l e s m args below meth c as dA D SHX d 3 zQi 0 [(0, .ref 0), (1, .int p1), (2, .int p2)] [] u (f_X8_piece p1 p2 u) := by
  intro u
  unfold f_X8_piece
  refine G_aload_n C 0 dX8_piece_0 rfl rfl ?_
  refine G_getR (j := 2) C 3 shX_0 rfl rfl (by decide) wf8_25 dX8_piece_1 ?_
  refine G_iload_n C 1 dX8_piece_4 rfl rfl ?_
  refine G_callVi C (m_X6_hasWork zTn_2 p1 u (d - 1) (by omega)) (d' := d - 1) (As := [.int p1]) (by omega) rfl wm8_117 wwX6_hasWork zTn_2.1 rfl (Nat.le_of_ble_eq_true rfl) dX8_piece_5 (fun y1 u2 => ?_)
  refine G_if_ne (tgt := 13) C dX8_piece_8 (by decide) (fun _ => ?_) (fun _ => ?_)
  · refine G_iload_n C 2 dX8_piece_13 rfl rfl ?_
    refine G_if (fun h3 => ?_) (fun h3 => ?_)
    · refine G_tsIn (v := 0) (off := 34) (tgt := 48) C dX8_piece_14 h3 (by decide) (by decide) rfl (by decide) ?_
      refine G_aload_n C 0 dX8_piece_48 rfl rfl ?_
      refine G_getR (j := 2) C 3 shX_0 rfl rfl (by decide) wf8_25 dX8_piece_49 ?_
      refine G_getR (j := 8) C 7 zTn_2.1 rfl rfl (by decide) wf8_120 dX8_piece_52 ?_
      refine G_iload_n C 1 dX8_piece_55 rfl rfl ?_
      refine G_iald C zTn_2.2.2.2.2.2.2.1 dX8_piece_56 (fun hb4 => ?_)
      exact G_iret C dX8_piece_57
    · refine G_if (fun h5 => ?_) (fun h5 => ?_)
      · refine G_tsIn (v := 1) (off := 44) (tgt := 58) C dX8_piece_14 h5 (by decide) (by decide) rfl (by decide) ?_
        refine G_aload_n C 0 dX8_piece_58 rfl rfl ?_
        refine G_getR (j := 2) C 3 shX_0 rfl rfl (by decide) wf8_25 dX8_piece_59 ?_
        refine G_getR (j := 9) C 8 zTn_2.1 rfl rfl (by decide) wf8_123 dX8_piece_62 ?_
        refine G_iload_n C 1 dX8_piece_65 rfl rfl ?_
        refine G_iald C zTn_2.2.2.2.2.2.2.2.1 dX8_piece_66 (fun hb6 => ?_)
        exact G_iret C dX8_piece_67
      · refine G_if (fun h7 => ?_) (fun h7 => ?_)
        · refine G_tsIn (v := 2) (off := 54) (tgt := 68) C dX8_piece_14 h7 (by decide) (by decide) rfl (by decide) ?_
          refine G_aload_n C 0 dX8_piece_68 rfl rfl ?_
          refine G_getR (j := 2) C 3 shX_0 rfl rfl (by decide) wf8_25 dX8_piece_69 ?_
          refine G_getR (j := 10) C 9 zTn_2.1 rfl rfl (by decide) wf8_126 dX8_piece_72 ?_
          refine G_iload_n C 1 dX8_piece_75 rfl rfl ?_
          refine G_iald C zTn_2.2.2.2.2.2.2.2.2.1 dX8_piece_76 (fun hb8 => ?_)
          exact G_iret C dX8_piece_77
        · refine G_if (fun h9 => ?_) (fun h9 => ?_)
          · refine G_tsIn (v := 3) (off := 64) (tgt := 78) C dX8_piece_14 h9 (by decide) (by decide) rfl (by decide) ?_
            refine G_aload_n C 0 dX8_piece_78 rfl rfl ?_
            refine G_getR (j := 2) C 3 shX_0 rfl rfl (by decide) wf8_25 dX8_piece_79 ?_
            refine G_iload_n C 1 dX8_piece_82 rfl rfl ?_
            refine G_callVi C (m_X6_isDone zTn_2 p1 u2 (d - 1) (by omega)) (d' := d - 1) (As := [.int p1]) (by omega) rfl wm8_129 wwX6_isDone zTn_2.1 rfl (Nat.le_of_ble_eq_true rfl) dX8_piece_83 (fun y10 u11 => ?_)
            refine G_callSi C (m_X8_asNumber y10 u11 (d - 1) (by omega)) (d' := d - 1) (As := [.int y10]) (by omega) rfl wm8_99 wwX8_asNumber (Nat.le_of_ble_eq_true rfl) dX8_piece_86 (fun y12 u13 => ?_)
            exact G_iret C dX8_piece_89
          · refine G_if (fun h14 => ?_) (fun h14 => ?_)
            · refine G_tsIn (v := 4) (off := 76) (tgt := 90) C dX8_piece_14 h14 (by decide) (by decide) rfl (by decide) ?_
              refine G_aload_n C 0 dX8_piece_90 rfl rfl ?_
              refine G_getR (j := 49) C 4 shX_0 rfl rfl (by decide) wf8_35 dX8_piece_91 ?_
              refine G_iload_n C 1 dX8_piece_94 rfl rfl ?_
              refine G_callVi C (m_X1_minutesUntilDone p1 u2 (d - 1) (by omega)) (d' := d - 1) (As := [.int p1]) (by omega) rfl wm8_132 wwX1_minutesUntilDone shX_49 rfl (Nat.le_of_ble_eq_true rfl) dX8_piece_95 (fun y15 u16 => ?_)
              exact G_iret C dX8_piece_98
            · refine G_tsOut (tgt := 99) C dX8_piece_14 (by have e0 := lv_neT (a := 0) h3 rfl; have e1 := lv_neT (a := 1) h5 rfl; have e2 := lv_neT (a := 2) h7 rfl; have e3 := lv_neT (a := 3) h9 rfl; have e4 := lv_neT (a := 4) h14 rfl; omega) (by decide) ?_
              refine G_iconst (v := -1) C dX8_piece_99 (by decide) ?_
              exact G_iret C dX8_piece_100
  · refine G_iconst (v := -1) C dX8_piece_11 (by decide) ?_
    exact G_iret C dX8_piece_12
theorem m_X8_piece   (p1 : Int32) (p2 : Int32) (u : zM) (d : Nat) (hd : 6 ≤ d) : zMet zQi SHX yX8_piece cX8_piece 3 ((some FieldType.int)) d [.ref 0, .int p1, .int p2] u (f_X8_piece p1 p2 u) :=
  zMet_of (by decide +kernel) (fun as => Nat.le_of_ble_eq_true rfl) wwX8_piece.2.2.2.1 (by omega) (fun p l e s m args below meth c as dA D C => go_X8_piece C hd u)
/-! public int anvil(int) -/
def f_X8_anvil_L18 (p1 : Int32) (u : zM) : Option (Int32 × zM) :=
  zb (f_X8_orLacks (gI u 2 10) u) fun y1 u2 => zlet (sI u2 2 10 p1) fun u3 => some (y1, u3)
def f_X8_anvil (p1 : Int32) (u : zM) : Option (Int32 × zM) :=
  (if p1 = (-1 : Int32) then f_X8_anvil_L18 p1 u else zb (f_X6_hasWork 2 p1 u) fun y4 u5 => (if y4 = (0 : Int32) then some ((-1 : Int32), u5) else f_X8_anvil_L18 p1 u5))
set_option maxRecDepth 20000 in
theorem go_X8_anvil_L18 {p : Program} {l : Launch} {e : Env} {s : State} {m : MethodId} {args : Array Value} {below : List Frame} {meth : Method} {c : Code} {as : Nat → Nat} {dA : Nat → ClassId} {D : va_G} {d : Nat} {p1 : Int32} (C : zCx p s m args meth c as dA D SHX d 3 yX8_anvil.cls cX8_anvil ((some FieldType.int))) (hd : 2 ≤ d) : ∀ (u : zM), Go p l e s m args below meth c as dA D SHX d 3 zQi 18 [(0, .ref 0), (1, .int p1)] [] u (f_X8_anvil_L18 p1 u) := by
  intro u
  unfold f_X8_anvil_L18
  refine G_aload_n C 0 dX8_anvil_18 rfl rfl ?_
  refine G_getR (j := 2) C 3 shX_0 rfl rfl (by decide) wf8_25 dX8_anvil_19 ?_
  refine G_getI C 10 zTn_2.1 rfl rfl (by decide) wf8_135 dX8_anvil_22 ?_
  refine G_callSi C (m_X8_orLacks (gI u 2 10) u (d - 1) (by omega)) (d' := d - 1) (As := [.int (gI u 2 10)]) (by omega) rfl wm8_138 wwX8_orLacks (Nat.le_of_ble_eq_true rfl) dX8_anvil_25 (fun y1 u2 => ?_)
  refine G_istore_n (L' := [(2, .int y1), (0, .ref 0), (1, .int p1)]) C dX8_anvil_28 rfl (by decide) rfl ?_
  refine G_aload_n C 1 dX8_anvil_29 rfl rfl ?_
  refine G_getR (j := 2) C 3 shX_0 rfl rfl (by decide) wf8_25 dX8_anvil_30 ?_
  refine G_iload_n C 2 dX8_anvil_33 rfl rfl ?_
  refine G_putI (ty := .int) C 10 zTn_2.1 rfl rfl (by decide) wf8_135 rfl (by decide +kernel) rfl rfl dX8_anvil_34 (fun u3 => ?_)
  refine G_iload_n C 0 dX8_anvil_37 rfl rfl ?_
  exact G_iret C dX8_anvil_38
set_option maxRecDepth 20000 in
theorem go_X8_anvil {p : Program} {l : Launch} {e : Env} {s : State} {m : MethodId} {args : Array Value} {below : List Frame} {meth : Method} {c : Code} {as : Nat → Nat} {dA : Nat → ClassId} {D : va_G} {d : Nat} {p1 : Int32} (C : zCx p s m args meth c as dA D SHX d 3 yX8_anvil.cls cX8_anvil ((some FieldType.int))) (hd : 2 ≤ d) : ∀ (u : zM), Go p l e s m args below meth c as dA D SHX d 3 zQi 0 [(0, .ref 0), (1, .int p1)] [] u (f_X8_anvil p1 u) := by
  intro u
  unfold f_X8_anvil
  refine G_iload_n C 1 dX8_anvil_0 rfl rfl ?_
  refine G_iconst (v := -1) C dX8_anvil_1 (by decide) ?_
  refine G_icmp_eq (tgt := 18) C dX8_anvil_2 (by decide) (fun _ => ?_) (fun _ => ?_)
  · refine G_locals [0, 1] rfl ?_
    exact go_X8_anvil_L18 C hd u
  · refine G_aload_n C 0 dX8_anvil_5 rfl rfl ?_
    refine G_getR (j := 2) C 3 shX_0 rfl rfl (by decide) wf8_25 dX8_anvil_6 ?_
    refine G_iload_n C 1 dX8_anvil_9 rfl rfl ?_
    refine G_callVi C (m_X6_hasWork zTn_2 p1 u (d - 1) (by omega)) (d' := d - 1) (As := [.int p1]) (by omega) rfl wm8_117 wwX6_hasWork zTn_2.1 rfl (Nat.le_of_ble_eq_true rfl) dX8_anvil_10 (fun y4 u5 => ?_)
    refine G_if_ne (tgt := 18) C dX8_anvil_13 (by decide) (fun _ => ?_) (fun _ => ?_)
    · refine G_locals [0, 1] rfl ?_
      exact go_X8_anvil_L18 C hd u5
    · refine G_iconst (v := -1) C dX8_anvil_16 (by decide) ?_
      exact G_iret C dX8_anvil_17
theorem m_X8_anvil   (p1 : Int32) (u : zM) (d : Nat) (hd : 2 ≤ d) : zMet zQi SHX yX8_anvil cX8_anvil 3 ((some FieldType.int)) d [.ref 0, .int p1] u (f_X8_anvil p1 u) :=
  zMet_of (by decide +kernel) (fun as => Nat.le_of_ble_eq_true rfl) wwX8_anvil.2.2.2.1 (by omega) (fun p l e s m args below meth c as dA D C => go_X8_anvil C hd u)
/-! public int row(int, int, int) -/
def f_X8_row (p1 : Int32) (p2 : Int32) (p3 : Int32) (u : zM) : Option (Int32 × zM) :=
  zb (f_X6_hasOne 2 p1 u) fun y1 u2 => (if y1 = (0 : Int32) then some ((-1 : Int32), u2) else zb (f_X8_isWithin p2 (0 : Int32) (3 : Int32) u2) fun y3 u4 => (if y3 = (0 : Int32) then some ((-1 : Int32), u4) else zb (f_X8_isWithin p3 (0 : Int32) (9 : Int32) u4) fun y5 u6 => (if y5 = (0 : Int32) then some ((-2 : Int32), u6) else zck (inB p1 6) <| (if (gI u6 3 p1.toNatClampNeg) = (6 : Int32) then zlx ((p1 * (4 : Int32)) + p2) fun v8 => zck (inB v8 24) <| zlx (gI u6 7 v8.toNatClampNeg) fun v10 => zck (inB v8 24) <| zlet (sI u6 7 v8.toNatClampNeg p3) fun u11 => some (v10, u11) else some ((-3 : Int32), u6)))))
set_option maxRecDepth 20000 in
theorem go_X8_row {p : Program} {l : Launch} {e : Env} {s : State} {m : MethodId} {args : Array Value} {below : List Frame} {meth : Method} {c : Code} {as : Nat → Nat} {dA : Nat → ClassId} {D : va_G} {d : Nat} {p1 : Int32} {p2 : Int32} {p3 : Int32} (C : zCx p s m args meth c as dA D SHX d 6 yX8_row.cls cX8_row ((some FieldType.int))) (hd : 2 ≤ d) : ∀ (u : zM), Go p l e s m args below meth c as dA D SHX d 6 zQi 0 [(0, .ref 0), (1, .int p1), (2, .int p2), (3, .int p3)] [] u (f_X8_row p1 p2 p3 u) := by
  intro u
  unfold f_X8_row
  refine G_aload_n C 0 dX8_row_0 rfl rfl ?_
  refine G_getR (j := 2) C 3 shX_0 rfl rfl (by decide) wf8_25 dX8_row_1 ?_
  refine G_iload_n C 1 dX8_row_4 rfl rfl ?_
  refine G_callVi C (m_X6_hasOne zTn_2 p1 u (d - 1) (by omega)) (d' := d - 1) (As := [.int p1]) (by omega) rfl wm8_81 wwX6_hasOne zTn_2.1 rfl (Nat.le_of_ble_eq_true rfl) dX8_row_5 (fun y1 u2 => ?_)
  refine G_if_eq (tgt := 20) C dX8_row_8 (by decide) (fun _ => ?_) (fun _ => ?_)
  · refine G_iconst (v := -1) C dX8_row_20 (by decide) ?_
    exact G_iret C dX8_row_21
  · refine G_iload_n C 2 dX8_row_11 rfl rfl ?_
    refine G_iconst (v := 0) C dX8_row_12 (by decide) ?_
    refine G_iconst (v := 3) C dX8_row_13 (by decide) ?_
    refine G_callSi C (m_X8_isWithin p2 (0 : Int32) (3 : Int32) u2 (d - 1) (by omega)) (d' := d - 1) (As := [.int p2, .int (0 : Int32), .int (3 : Int32)]) (by omega) rfl wm8_67 wwX8_isWithin (Nat.le_of_ble_eq_true rfl) dX8_row_14 (fun y3 u4 => ?_)
    refine G_if_ne (tgt := 22) C dX8_row_17 (by decide) (fun _ => ?_) (fun _ => ?_)
    · refine G_iload_n C 3 dX8_row_22 rfl rfl ?_
      refine G_iconst (v := 0) C dX8_row_23 (by decide) ?_
      refine G_bipush (v := 9) C dX8_row_24 (by decide) ?_
      refine G_callSi C (m_X8_isWithin p3 (0 : Int32) (9 : Int32) u4 (d - 1) (by omega)) (d' := d - 1) (As := [.int p3, .int (0 : Int32), .int (9 : Int32)]) (by omega) rfl wm8_67 wwX8_isWithin (Nat.le_of_ble_eq_true rfl) dX8_row_26 (fun y5 u6 => ?_)
      refine G_if_ne (tgt := 35) C dX8_row_29 (by decide) (fun _ => ?_) (fun _ => ?_)
      · refine G_aload_n C 0 dX8_row_35 rfl rfl ?_
        refine G_getR (j := 2) C 3 shX_0 rfl rfl (by decide) wf8_25 dX8_row_36 ?_
        refine G_getR (j := 3) C 1 zTn_2.1 rfl rfl (by decide) wf8_85 dX8_row_39 ?_
        refine G_iload_n C 1 dX8_row_42 rfl rfl ?_
        refine G_iald C zTn_2.2.1 dX8_row_43 (fun hb7 => ?_)
        refine G_bipush (v := 6) C dX8_row_44 (by decide) ?_
        refine G_icmp_eq (tgt := 52) C dX8_row_46 (by decide) (fun _ => ?_) (fun _ => ?_)
        · refine G_iload_n C 1 dX8_row_52 rfl rfl ?_
          refine G_iconst (v := 4) C dX8_row_53 (by decide) ?_
          refine G_imul C dX8_row_54 ?_
          refine G_iload_n C 2 dX8_row_55 rfl rfl ?_
          refine G_iadd C dX8_row_56 ?_
          refine G_topi (fun v8 => ?_)
          refine G_istore (L' := [(4, .int v8), (0, .ref 0), (1, .int p1), (2, .int p2), (3, .int p3)]) C dX8_row_57 (by decide) rfl ?_
          refine G_aload_n C 1 dX8_row_59 rfl rfl ?_
          refine G_getR (j := 2) C 3 shX_0 rfl rfl (by decide) wf8_25 dX8_row_60 ?_
          refine G_getR (j := 7) C 5 zTn_2.1 rfl rfl (by decide) wf8_141 dX8_row_63 ?_
          refine G_iload C 0 dX8_row_66 rfl ?_
          refine G_iald C zTn_2.2.2.2.2.2.1 dX8_row_68 (fun hb9 => ?_)
          refine G_topi (fun v10 => ?_)
          refine G_istore (L' := [(5, .int v10), (4, .int v8), (0, .ref 0), (1, .int p1), (2, .int p2), (3, .int p3)]) C dX8_row_69 (by decide) rfl ?_
          refine G_aload_n C 2 dX8_row_71 rfl rfl ?_
          refine G_getR (j := 2) C 3 shX_0 rfl rfl (by decide) wf8_25 dX8_row_72 ?_
          refine G_getR (j := 7) C 5 zTn_2.1 rfl rfl (by decide) wf8_141 dX8_row_75 ?_
          refine G_iload C 1 dX8_row_78 rfl ?_
          refine G_iload_n C 5 dX8_row_80 rfl rfl ?_
          refine G_iast C zTn_2.2.2.2.2.2.1 dX8_row_81 (fun _ u11 => ?_)
          refine G_iload C 0 dX8_row_82 rfl ?_
          exact G_iret C dX8_row_84
        · refine G_bipush (v := -3) C dX8_row_49 (by decide) ?_
          exact G_iret C dX8_row_51
      · refine G_bipush (v := -2) C dX8_row_32 (by decide) ?_
        exact G_iret C dX8_row_34
    · refine G_iconst (v := -1) C dX8_row_20 (by decide) ?_
      exact G_iret C dX8_row_21
theorem m_X8_row   (p1 : Int32) (p2 : Int32) (p3 : Int32) (u : zM) (d : Nat) (hd : 2 ≤ d) : zMet zQi SHX yX8_row cX8_row 6 ((some FieldType.int)) d [.ref 0, .int p1, .int p2, .int p3] u (f_X8_row p1 p2 p3 u) :=
  zMet_of (by decide +kernel) (fun as => Nat.le_of_ble_eq_true rfl) wwX8_row.2.2.2.1 (by omega) (fun p l e s m args below meth c as dA D C => go_X8_row C hd u)
/-! public int feed(int) -/
def f_X8_feed (p1 : Int32) (u : zM) : Option (Int32 × zM) :=
  zb (f_X8_isWithin p1 (0 : Int32) (127 : Int32) u) fun y1 u2 => (if y1 = (0 : Int32) then some ((-2 : Int32), u2) else (if (gI u2 63 0) < (100 : Int32) then zb (f_X2_add (p1.toInt8.toInt32) u2) fun y3 u4 => some (y3, u4) else some ((-4 : Int32), u2)))
set_option maxRecDepth 20000 in
theorem go_X8_feed {p : Program} {l : Launch} {e : Env} {s : State} {m : MethodId} {args : Array Value} {below : List Frame} {meth : Method} {c : Code} {as : Nat → Nat} {dA : Nat → ClassId} {D : va_G} {d : Nat} {p1 : Int32} (C : zCx p s m args meth c as dA D SHX d 2 yX8_feed.cls cX8_feed ((some FieldType.int))) (hd : 2 ≤ d) : ∀ (u : zM), Go p l e s m args below meth c as dA D SHX d 2 zQi 0 [(0, .ref 0), (1, .int p1)] [] u (f_X8_feed p1 u) := by
  intro u
  unfold f_X8_feed
  refine G_iload_n C 1 dX8_feed_0 rfl rfl ?_
  refine G_iconst (v := 0) C dX8_feed_1 (by decide) ?_
  refine G_bipush (v := 127) C dX8_feed_2 (by decide) ?_
  refine G_callSi C (m_X8_isWithin p1 (0 : Int32) (127 : Int32) u (d - 1) (by omega)) (d' := d - 1) (As := [.int p1, .int (0 : Int32), .int (127 : Int32)]) (by omega) rfl wm8_67 wwX8_isWithin (Nat.le_of_ble_eq_true rfl) dX8_feed_4 (fun y1 u2 => ?_)
  refine G_if_ne (tgt := 13) C dX8_feed_7 (by decide) (fun _ => ?_) (fun _ => ?_)
  · refine G_aload_n C 0 dX8_feed_13 rfl rfl ?_
    refine G_getR (j := 63) C 5 shX_0 rfl rfl (by decide) wf8_42 dX8_feed_14 ?_
    refine G_getI C 0 shX_63 rfl rfl (by decide) wf8_144 dX8_feed_17 ?_
    refine G_bipush (v := 100) C dX8_feed_20 (by decide) ?_
    refine G_icmp_lt (tgt := 28) C dX8_feed_22 (by decide) (fun _ => ?_) (fun _ => ?_)
    · refine G_aload_n C 0 dX8_feed_28 rfl rfl ?_
      refine G_getR (j := 63) C 5 shX_0 rfl rfl (by decide) wf8_42 dX8_feed_29 ?_
      refine G_iload_n C 1 dX8_feed_32 rfl rfl ?_
      refine G_i2b C dX8_feed_33 ?_
      refine G_callVi C (m_X2_add (p1.toInt8.toInt32) u2 (d - 1) (by omega)) (d' := d - 1) (As := [.int (p1.toInt8.toInt32)]) (by omega) rfl wm8_147 wwX2_add shX_63 rfl (Nat.le_of_ble_eq_true rfl) dX8_feed_34 (fun y3 u4 => ?_)
      exact G_iret C dX8_feed_37
    · refine G_bipush (v := -4) C dX8_feed_25 (by decide) ?_
      exact G_iret C dX8_feed_27
  · refine G_bipush (v := -2) C dX8_feed_10 (by decide) ?_
    exact G_iret C dX8_feed_12
theorem m_X8_feed   (p1 : Int32) (u : zM) (d : Nat) (hd : 2 ≤ d) : zMet zQi SHX yX8_feed cX8_feed 2 ((some FieldType.int)) d [.ref 0, .int p1] u (f_X8_feed p1 u) :=
  zMet_of (by decide +kernel) (fun as => Nat.le_of_ble_eq_true rfl) wwX8_feed.2.2.2.1 (by omega) (fun p l e s m args below meth c as dA D C => go_X8_feed C hd u)
/-! public int square() -/
def f_X8_square (u : zM) : Option (Int32 × zM) :=
  (if (gI u 0 7) < (6 : Int32) then zck (inB (gI u 0 7) 6) <| zb (f_X2_reads (78 + 3 * (gI u 0 7).toNatClampNeg) u) fun y2 u3 => zb (f_X2_empty u3) fun _ u5 => (if y2 = (0 : Int32) then some (((-10 : Int32) - (gI u5 63 1)), u5) else zlet (sO u5 2 12 (some (78 + 3 * (gI u 0 7).toNatClampNeg))) fun u6 => zlet (sI u6 0 7 ((gI u6 0 7) + (1 : Int32))) fun u7 => some (((gI u7 0 7) - (1 : Int32)), u7)) else some ((-4 : Int32), u))
set_option maxRecDepth 20000 in
theorem go_X8_square {p : Program} {l : Launch} {e : Env} {s : State} {m : MethodId} {args : Array Value} {below : List Frame} {meth : Method} {c : Code} {as : Nat → Nat} {dA : Nat → ClassId} {D : va_G} {d : Nat}  (C : zCx p s m args meth c as dA D SHX d 3 yX8_square.cls cX8_square ((some FieldType.int))) (hd : 51 ≤ d) : ∀ (u : zM), Go p l e s m args below meth c as dA D SHX d 3 zQi 0 [(0, .ref 0)] [] u (f_X8_square  u) := by
  intro u
  unfold f_X8_square
  refine G_aload_n C 0 dX8_square_0 rfl rfl ?_
  refine G_getI C 7 shX_0 rfl rfl (by decide) wf8_151 dX8_square_1 ?_
  refine G_bipush (v := 6) C dX8_square_4 (by decide) ?_
  refine G_icmp_lt (tgt := 12) C dX8_square_6 (by decide) (fun _ => ?_) (fun _ => ?_)
  · refine G_aload_n C 0 dX8_square_12 rfl rfl ?_
    refine G_getR (j := 65) C 6 shX_0 rfl rfl (by decide) wf8_48 dX8_square_13 ?_
    refine G_aload_n C 0 dX8_square_16 rfl rfl ?_
    refine G_getI C 7 shX_0 rfl rfl (by decide) wf8_151 dX8_square_17 ?_
    refine G_aald4 C shX_65 dX8_square_20 (fun hb1 => ?_)
    refine G_astore_n (L' := [(1, .ref (78 + 3 * (gI u 0 7).toNatClampNeg)), (0, .ref 0)]) C dX8_square_21 rfl (by decide) rfl ?_
    refine G_aload_n C 1 dX8_square_22 rfl rfl ?_
    refine G_getR (j := 63) C 5 shX_0 rfl rfl (by decide) wf8_42 dX8_square_23 ?_
    refine G_aload_n C 0 dX8_square_26 rfl rfl ?_
    refine G_callVi C (m_X2_reads (zSq_at hb1) u (d - 1) (by omega)) (d' := d - 1) (As := [.ref (78 + 3 * (gI u 0 7).toNatClampNeg)]) (by omega) rfl wm8_154 wwX2_reads shX_63 rfl (Nat.le_of_ble_eq_true rfl) dX8_square_27 (fun y2 u3 => ?_)
    refine G_istore_n (L' := [(2, .int y2), (1, .ref (78 + 3 * (gI u 0 7).toNatClampNeg)), (0, .ref 0)]) C dX8_square_30 rfl (by decide) rfl ?_
    refine G_aload_n C 2 dX8_square_31 rfl rfl ?_
    refine G_getR (j := 63) C 5 shX_0 rfl rfl (by decide) wf8_42 dX8_square_32 ?_
    refine G_callVv C (m_X2_empty u3 (d - 1) (by omega)) (d' := d - 1) (As := []) (by omega) rfl wm8_158 wwX2_empty shX_63 rfl (Nat.le_of_ble_eq_true rfl) dX8_square_35 (fun y4 u5 => ?_)
    refine G_iload_n C 0 dX8_square_38 rfl rfl ?_
    refine G_if_ne (tgt := 53) C dX8_square_39 (by decide) (fun _ => ?_) (fun _ => ?_)
    · refine G_aload_n C 2 dX8_square_53 rfl rfl ?_
      refine G_getR (j := 2) C 3 shX_0 rfl rfl (by decide) wf8_25 dX8_square_54 ?_
      refine G_aload_n C 1 dX8_square_57 rfl rfl ?_
      refine G_putO (C2 := "StruckWhile$Square") C 12 zTn_2.1 rfl rfl (by decide) wf8_164 rfl (by decide +kernel) dX8_square_58 (fun u6 => ?_)
      refine G_aload_n C 2 dX8_square_61 rfl rfl ?_
      refine G_dup C dX8_square_62 rfl ?_
      refine G_getI C 7 shX_0 rfl rfl (by decide) wf8_151 dX8_square_63 ?_
      refine G_iconst (v := 1) C dX8_square_66 (by decide) ?_
      refine G_iadd C dX8_square_67 ?_
      refine G_putI (ty := .int) C 7 shX_0 rfl rfl (by decide) wf8_151 rfl (by decide +kernel) rfl rfl dX8_square_68 (fun u7 => ?_)
      refine G_aload_n C 2 dX8_square_71 rfl rfl ?_
      refine G_getI C 7 shX_0 rfl rfl (by decide) wf8_151 dX8_square_72 ?_
      refine G_iconst (v := 1) C dX8_square_75 (by decide) ?_
      refine G_isub C dX8_square_76 ?_
      exact G_iret C dX8_square_77
    · refine G_bipush (v := -10) C dX8_square_42 (by decide) ?_
      refine G_aload_n C 2 dX8_square_44 rfl rfl ?_
      refine G_getR (j := 63) C 5 shX_0 rfl rfl (by decide) wf8_42 dX8_square_45 ?_
      refine G_getI C 1 shX_63 rfl rfl (by decide) wf8_161 dX8_square_48 ?_
      refine G_isub C dX8_square_51 ?_
      exact G_iret C dX8_square_52
  · refine G_bipush (v := -4) C dX8_square_9 (by decide) ?_
    exact G_iret C dX8_square_11
theorem m_X8_square    (u : zM) (d : Nat) (hd : 51 ≤ d) : zMet zQi SHX yX8_square cX8_square 3 ((some FieldType.int)) d [.ref 0] u (f_X8_square  u) :=
  zMet_of (by decide +kernel) (fun as => Nat.le_of_ble_eq_true rfl) wwX8_square.2.2.2.1 (by omega) (fun p l e s m args below meth c as dA D C => go_X8_square C hd u)
/-! public int told(int) -/
def f_X8_told (p1 : Int32) (u : zM) : Option (Int32 × zM) :=
  (if p1 = (0 : Int32) then some ((gI u 2 11), u) else if p1 = (1 : Int32) then zb (f_X6_spark 2 u) fun y3 u4 => some (y3, u4) else if p1 = (2 : Int32) then zb (f_X8_orLacks (gI u 2 10) u) fun y6 u7 => some (y6, u7) else if p1 = (3 : Int32) then zb (f_X6_doneBits 2 u) fun y9 u10 => some (y9, u10) else if p1 = (4 : Int32) then zb (f_X6_hottest 2 u) fun y12 u13 => zb (f_X8_orLacks y12 u13) fun y14 u15 => some (y14, u15) else if p1 = (5 : Int32) then zb (f_X6_heatOfAll 2 u) fun y17 u18 => some (y17, u18) else some ((-1 : Int32), u))
set_option maxRecDepth 20000 in
theorem go_X8_told {p : Program} {l : Launch} {e : Env} {s : State} {m : MethodId} {args : Array Value} {below : List Frame} {meth : Method} {c : Code} {as : Nat → Nat} {dA : Nat → ClassId} {D : va_G} {d : Nat} {p1 : Int32} (C : zCx p s m args meth c as dA D SHX d 2 yX8_told.cls cX8_told ((some FieldType.int))) (hd : 4 ≤ d) : ∀ (u : zM), Go p l e s m args below meth c as dA D SHX d 2 zQi 0 [(0, .ref 0), (1, .int p1)] [] u (f_X8_told p1 u) := by
  intro u
  unfold f_X8_told
  refine G_iload_n C 1 dX8_told_0 rfl rfl ?_
  refine G_if (fun h1 => ?_) (fun h1 => ?_)
  · refine G_tsIn (v := 0) (off := 39) (tgt := 40) C dX8_told_1 h1 (by decide) (by decide) rfl (by decide) ?_
    refine G_aload_n C 0 dX8_told_40 rfl rfl ?_
    refine G_getR (j := 2) C 3 shX_0 rfl rfl (by decide) wf8_25 dX8_told_41 ?_
    refine G_getI C 11 zTn_2.1 rfl rfl (by decide) wf8_168 dX8_told_44 ?_
    exact G_iret C dX8_told_47
  · refine G_if (fun h2 => ?_) (fun h2 => ?_)
    · refine G_tsIn (v := 1) (off := 47) (tgt := 48) C dX8_told_1 h2 (by decide) (by decide) rfl (by decide) ?_
      refine G_aload_n C 0 dX8_told_48 rfl rfl ?_
      refine G_getR (j := 2) C 3 shX_0 rfl rfl (by decide) wf8_25 dX8_told_49 ?_
      refine G_callVi C (m_X6_spark zTn_2 u (d - 1) (by omega)) (d' := d - 1) (As := []) (by omega) rfl wm8_171 wwX6_spark zTn_2.1 rfl (Nat.le_of_ble_eq_true rfl) dX8_told_52 (fun y3 u4 => ?_)
      exact G_iret C dX8_told_55
    · refine G_if (fun h5 => ?_) (fun h5 => ?_)
      · refine G_tsIn (v := 2) (off := 55) (tgt := 56) C dX8_told_1 h5 (by decide) (by decide) rfl (by decide) ?_
        refine G_aload_n C 0 dX8_told_56 rfl rfl ?_
        refine G_getR (j := 2) C 3 shX_0 rfl rfl (by decide) wf8_25 dX8_told_57 ?_
        refine G_getI C 10 zTn_2.1 rfl rfl (by decide) wf8_135 dX8_told_60 ?_
        refine G_callSi C (m_X8_orLacks (gI u 2 10) u (d - 1) (by omega)) (d' := d - 1) (As := [.int (gI u 2 10)]) (by omega) rfl wm8_138 wwX8_orLacks (Nat.le_of_ble_eq_true rfl) dX8_told_63 (fun y6 u7 => ?_)
        exact G_iret C dX8_told_66
      · refine G_if (fun h8 => ?_) (fun h8 => ?_)
        · refine G_tsIn (v := 3) (off := 66) (tgt := 67) C dX8_told_1 h8 (by decide) (by decide) rfl (by decide) ?_
          refine G_aload_n C 0 dX8_told_67 rfl rfl ?_
          refine G_getR (j := 2) C 3 shX_0 rfl rfl (by decide) wf8_25 dX8_told_68 ?_
          refine G_callVi C (m_X6_doneBits zTn_2 u (d - 1) (by omega)) (d' := d - 1) (As := []) (by omega) rfl wm8_175 wwX6_doneBits zTn_2.1 rfl (Nat.le_of_ble_eq_true rfl) dX8_told_71 (fun y9 u10 => ?_)
          exact G_iret C dX8_told_74
        · refine G_if (fun h11 => ?_) (fun h11 => ?_)
          · refine G_tsIn (v := 4) (off := 74) (tgt := 75) C dX8_told_1 h11 (by decide) (by decide) rfl (by decide) ?_
            refine G_aload_n C 0 dX8_told_75 rfl rfl ?_
            refine G_getR (j := 2) C 3 shX_0 rfl rfl (by decide) wf8_25 dX8_told_76 ?_
            refine G_callVi C (m_X6_hottest zTn_2 u (d - 1) (by omega)) (d' := d - 1) (As := []) (by omega) rfl wm8_178 wwX6_hottest zTn_2.1 rfl (Nat.le_of_ble_eq_true rfl) dX8_told_79 (fun y12 u13 => ?_)
            refine G_callSi C (m_X8_orLacks y12 u13 (d - 1) (by omega)) (d' := d - 1) (As := [.int y12]) (by omega) rfl wm8_138 wwX8_orLacks (Nat.le_of_ble_eq_true rfl) dX8_told_82 (fun y14 u15 => ?_)
            exact G_iret C dX8_told_85
          · refine G_if (fun h16 => ?_) (fun h16 => ?_)
            · refine G_tsIn (v := 5) (off := 85) (tgt := 86) C dX8_told_1 h16 (by decide) (by decide) rfl (by decide) ?_
              refine G_aload_n C 0 dX8_told_86 rfl rfl ?_
              refine G_getR (j := 2) C 3 shX_0 rfl rfl (by decide) wf8_25 dX8_told_87 ?_
              refine G_callVi C (m_X6_heatOfAll zTn_2 u (d - 1) (by omega)) (d' := d - 1) (As := []) (by omega) rfl wm8_181 wwX6_heatOfAll zTn_2.1 rfl (Nat.le_of_ble_eq_true rfl) dX8_told_90 (fun y17 u18 => ?_)
              exact G_iret C dX8_told_93
            · refine G_tsOut (tgt := 94) C dX8_told_1 (by have e0 := lv_neT (a := 0) h1 rfl; have e1 := lv_neT (a := 1) h2 rfl; have e2 := lv_neT (a := 2) h5 rfl; have e3 := lv_neT (a := 3) h8 rfl; have e4 := lv_neT (a := 4) h11 rfl; have e5 := lv_neT (a := 5) h16 rfl; omega) (by decide) ?_
              refine G_iconst (v := -1) C dX8_told_94 (by decide) ?_
              exact G_iret C dX8_told_95
theorem m_X8_told   (p1 : Int32) (u : zM) (d : Nat) (hd : 4 ≤ d) : zMet zQi SHX yX8_told cX8_told 2 ((some FieldType.int)) d [.ref 0, .int p1] u (f_X8_told p1 u) :=
  zMet_of (by decide +kernel) (fun as => Nat.le_of_ble_eq_true rfl) wwX8_told.2.2.2.1 (by omega) (fun p l e s m args below meth c as dA D C => go_X8_told C hd u)
/-! public int pass(int) -/
def f_X8_pass (p1 : Int32) (u : zM) : Option (Int32 × zM) :=
  zb (f_X8_isWithin p1 (0 : Int32) (60 : Int32) u) fun y1 u2 => (if y1 = (0 : Int32) then some ((-2 : Int32), u2) else (if ((gI u2 2 11) + p1) ≤ (9999 : Int32) then zb (f_X6_goOn 2 p1 u2) fun _ u4 => some ((gI u4 2 11), u4) else some ((-3 : Int32), u2)))
set_option maxRecDepth 20000 in
theorem go_X8_pass {p : Program} {l : Launch} {e : Env} {s : State} {m : MethodId} {args : Array Value} {below : List Frame} {meth : Method} {c : Code} {as : Nat → Nat} {dA : Nat → ClassId} {D : va_G} {d : Nat} {p1 : Int32} (C : zCx p s m args meth c as dA D SHX d 2 yX8_pass.cls cX8_pass ((some FieldType.int))) (hd : 6 ≤ d) : ∀ (u : zM), Go p l e s m args below meth c as dA D SHX d 2 zQi 0 [(0, .ref 0), (1, .int p1)] [] u (f_X8_pass p1 u) := by
  intro u
  unfold f_X8_pass
  refine G_iload_n C 1 dX8_pass_0 rfl rfl ?_
  refine G_iconst (v := 0) C dX8_pass_1 (by decide) ?_
  refine G_bipush (v := 60) C dX8_pass_2 (by decide) ?_
  refine G_callSi C (m_X8_isWithin p1 (0 : Int32) (60 : Int32) u (d - 1) (by omega)) (d' := d - 1) (As := [.int p1, .int (0 : Int32), .int (60 : Int32)]) (by omega) rfl wm8_67 wwX8_isWithin (Nat.le_of_ble_eq_true rfl) dX8_pass_4 (fun y1 u2 => ?_)
  refine G_if_ne (tgt := 13) C dX8_pass_7 (by decide) (fun _ => ?_) (fun _ => ?_)
  · refine G_aload_n C 0 dX8_pass_13 rfl rfl ?_
    refine G_getR (j := 2) C 3 shX_0 rfl rfl (by decide) wf8_25 dX8_pass_14 ?_
    refine G_getI C 11 zTn_2.1 rfl rfl (by decide) wf8_168 dX8_pass_17 ?_
    refine G_iload_n C 1 dX8_pass_20 rfl rfl ?_
    refine G_iadd C dX8_pass_21 ?_
    refine G_sipush (v := 9999) C dX8_pass_22 (by decide) ?_
    refine G_icmp_le (tgt := 31) C dX8_pass_25 (by decide) (fun _ => ?_) (fun _ => ?_)
    · refine G_aload_n C 0 dX8_pass_31 rfl rfl ?_
      refine G_getR (j := 2) C 3 shX_0 rfl rfl (by decide) wf8_25 dX8_pass_32 ?_
      refine G_iload_n C 1 dX8_pass_35 rfl rfl ?_
      refine G_callVv C (m_X6_goOn zTn_2 p1 u2 (d - 1) (by omega)) (d' := d - 1) (As := [.int p1]) (by omega) rfl wm8_184 wwX6_goOn zTn_2.1 rfl (Nat.le_of_ble_eq_true rfl) dX8_pass_36 (fun y3 u4 => ?_)
      refine G_aload_n C 0 dX8_pass_39 rfl rfl ?_
      refine G_getR (j := 2) C 3 shX_0 rfl rfl (by decide) wf8_25 dX8_pass_40 ?_
      refine G_getI C 11 zTn_2.1 rfl rfl (by decide) wf8_168 dX8_pass_43 ?_
      exact G_iret C dX8_pass_46
    · refine G_bipush (v := -3) C dX8_pass_28 (by decide) ?_
      exact G_iret C dX8_pass_30
  · refine G_bipush (v := -2) C dX8_pass_10 (by decide) ?_
    exact G_iret C dX8_pass_12
theorem m_X8_pass   (p1 : Int32) (u : zM) (d : Nat) (hd : 6 ≤ d) : zMet zQi SHX yX8_pass cX8_pass 2 ((some FieldType.int)) d [.ref 0, .int p1] u (f_X8_pass p1 u) :=
  zMet_of (by decide +kernel) (fun as => Nat.le_of_ble_eq_true rfl) wwX8_pass.2.2.2.1 (by omega) (fun p l e s m args below meth c as dA D C => go_X8_pass C hd u)
/-! public int on(int, int) -/
def f_X8_on_L40 (p1 : Int32) (p2 : Int32) (x3 : Int32) (x4 : Int32) (u : zM) : Option (Int32 × zM) :=
  zb (f_X8_isWithin p1 (0 : Int32) (60 : Int32) u) fun y5 u6 => (if y5 = (0 : Int32) then some ((-2 : Int32), u6) else zb (f_X1_behind p1 u6) fun y7 u8 => zck (isT y7) <| (if x3 = (0 : Int32) then (if x4 = (0 : Int32) then zb (f_X6_doneBits y7 u8) fun y10 u11 => some (y10, u11) else zck (inB (p2 - (20 : Int32)) 4) <| some ((gI u8 (y7 + 8) (p2 - (20 : Int32)).toNatClampNeg), u8)) else zck (inB (p2 - (10 : Int32)) 6) <| some ((gI u8 (y7 + 3) (p2 - (10 : Int32)).toNatClampNeg), u8)))
def f_X8_on (p1 : Int32) (p2 : Int32) (u : zM) : Option (Int32 × zM) :=
  zb (f_X6_hasOne 2 (p2 - (10 : Int32)) u) fun y1 u2 => zb (f_X6_hasWork 2 (p2 - (20 : Int32)) u2) fun y3 u4 => (if p2 = (0 : Int32) then f_X8_on_L40 p1 p2 y1 y3 u4 else (if y1 = (0 : Int32) then (if y3 = (0 : Int32) then some ((-1 : Int32), u4) else f_X8_on_L40 p1 p2 y1 y3 u4) else f_X8_on_L40 p1 p2 y1 y3 u4))
set_option maxRecDepth 20000 in
theorem go_X8_on_L40 {p : Program} {l : Launch} {e : Env} {s : State} {m : MethodId} {args : Array Value} {below : List Frame} {meth : Method} {c : Code} {as : Nat → Nat} {dA : Nat → ClassId} {D : va_G} {d : Nat} {p1 : Int32} {p2 : Int32} (C : zCx p s m args meth c as dA D SHX d 6 yX8_on.cls cX8_on ((some FieldType.int))) (hd : 7 ≤ d) : ∀ (x3 : Int32) (x4 : Int32) (u : zM), Go p l e s m args below meth c as dA D SHX d 6 zQi 40 [(0, .ref 0), (1, .int p1), (2, .int p2), (3, .int x3), (4, .int x4)] [] u (f_X8_on_L40 p1 p2 x3 x4 u) := by
  intro x3 x4 u
  unfold f_X8_on_L40
  refine G_iload_n C 1 dX8_on_40 rfl rfl ?_
  refine G_iconst (v := 0) C dX8_on_41 (by decide) ?_
  refine G_bipush (v := 60) C dX8_on_42 (by decide) ?_
  refine G_callSi C (m_X8_isWithin p1 (0 : Int32) (60 : Int32) u (d - 1) (by omega)) (d' := d - 1) (As := [.int p1, .int (0 : Int32), .int (60 : Int32)]) (by omega) rfl wm8_67 wwX8_isWithin (Nat.le_of_ble_eq_true rfl) dX8_on_44 (fun y5 u6 => ?_)
  refine G_if_ne (tgt := 53) C dX8_on_47 (by decide) (fun _ => ?_) (fun _ => ?_)
  · refine G_aload_n C 0 dX8_on_53 rfl rfl ?_
    refine G_getR (j := 49) C 4 shX_0 rfl rfl (by decide) wf8_35 dX8_on_54 ?_
    refine G_iload_n C 1 dX8_on_57 rfl rfl ?_
    refine G_callVr C (m_X1_behind p1 u6 (d - 1) (by omega)) (d' := d - 1) (As := [.int p1]) (by omega) rfl wm8_188 wwX1_behind shX_49 rfl (Nat.le_of_ble_eq_true rfl) dX8_on_58 (fun y7 u8 => ?_)
    refine G_ck (fun hr9 => ?_)
    refine G_astore (L' := [(5, .ref y7), (0, .ref 0), (1, .int p1), (2, .int p2), (3, .int x3), (4, .int x4)]) C dX8_on_61 (by decide) rfl ?_
    refine G_iload_n C 4 dX8_on_63 rfl rfl ?_
    refine G_if_eq (tgt := 78) C dX8_on_64 (by decide) (fun _ => ?_) (fun _ => ?_)
    · refine G_iload C 5 dX8_on_78 rfl ?_
      refine G_if_eq (tgt := 96) C dX8_on_80 (by decide) (fun _ => ?_) (fun _ => ?_)
      · refine G_aload C 0 dX8_on_96 rfl ?_
        refine G_callVi C (m_X6_doneBits (isT_sh hr9) u8 (d - 1) (by omega)) (d' := d - 1) (As := []) (by omega) rfl wm8_175 wwX6_doneBits (isT_sh hr9).1 rfl (Nat.le_of_ble_eq_true rfl) dX8_on_98 (fun y10 u11 => ?_)
        exact G_iret C dX8_on_101
      · refine G_aload C 0 dX8_on_83 rfl ?_
        refine G_getR (j := (y7 + 8)) C 9 (isT_sh hr9).1 rfl rfl (by decide) wf8_126 dX8_on_85 ?_
        refine G_iload_n C 3 dX8_on_88 rfl rfl ?_
        refine G_bipush (v := 20) C dX8_on_89 (by decide) ?_
        refine G_isub C dX8_on_91 ?_
        refine G_iald C (isT_sh hr9).2.2.2.2.2.2.2.2.1 dX8_on_92 (fun hb12 => ?_)
        refine G_goto (tgt := 101) C dX8_on_93 (by decide) ?_
        exact G_iret C dX8_on_101
    · refine G_aload C 0 dX8_on_67 rfl ?_
      refine G_getR (j := (y7 + 3)) C 3 (isT_sh hr9).1 rfl rfl (by decide) wf8_92 dX8_on_69 ?_
      refine G_iload_n C 3 dX8_on_72 rfl rfl ?_
      refine G_bipush (v := 10) C dX8_on_73 (by decide) ?_
      refine G_isub C dX8_on_75 ?_
      refine G_iald C (isT_sh hr9).2.2.2.1 dX8_on_76 (fun hb13 => ?_)
      exact G_iret C dX8_on_77
  · refine G_bipush (v := -2) C dX8_on_50 (by decide) ?_
    exact G_iret C dX8_on_52
set_option maxRecDepth 20000 in
theorem go_X8_on {p : Program} {l : Launch} {e : Env} {s : State} {m : MethodId} {args : Array Value} {below : List Frame} {meth : Method} {c : Code} {as : Nat → Nat} {dA : Nat → ClassId} {D : va_G} {d : Nat} {p1 : Int32} {p2 : Int32} (C : zCx p s m args meth c as dA D SHX d 6 yX8_on.cls cX8_on ((some FieldType.int))) (hd : 7 ≤ d) : ∀ (u : zM), Go p l e s m args below meth c as dA D SHX d 6 zQi 0 [(0, .ref 0), (1, .int p1), (2, .int p2)] [] u (f_X8_on p1 p2 u) := by
  intro u
  unfold f_X8_on
  refine G_aload_n C 0 dX8_on_0 rfl rfl ?_
  refine G_getR (j := 2) C 3 shX_0 rfl rfl (by decide) wf8_25 dX8_on_1 ?_
  refine G_iload_n C 2 dX8_on_4 rfl rfl ?_
  refine G_bipush (v := 10) C dX8_on_5 (by decide) ?_
  refine G_isub C dX8_on_7 ?_
  refine G_callVi C (m_X6_hasOne zTn_2 (p2 - (10 : Int32)) u (d - 1) (by omega)) (d' := d - 1) (As := [.int (p2 - (10 : Int32))]) (by omega) rfl wm8_81 wwX6_hasOne zTn_2.1 rfl (Nat.le_of_ble_eq_true rfl) dX8_on_8 (fun y1 u2 => ?_)
  refine G_istore_n (L' := [(3, .int y1), (0, .ref 0), (1, .int p1), (2, .int p2)]) C dX8_on_11 rfl (by decide) rfl ?_
  refine G_aload_n C 1 dX8_on_12 rfl rfl ?_
  refine G_getR (j := 2) C 3 shX_0 rfl rfl (by decide) wf8_25 dX8_on_13 ?_
  refine G_iload_n C 3 dX8_on_16 rfl rfl ?_
  refine G_bipush (v := 20) C dX8_on_17 (by decide) ?_
  refine G_isub C dX8_on_19 ?_
  refine G_callVi C (m_X6_hasWork zTn_2 (p2 - (20 : Int32)) u2 (d - 1) (by omega)) (d' := d - 1) (As := [.int (p2 - (20 : Int32))]) (by omega) rfl wm8_117 wwX6_hasWork zTn_2.1 rfl (Nat.le_of_ble_eq_true rfl) dX8_on_20 (fun y3 u4 => ?_)
  refine G_istore (L' := [(4, .int y3), (3, .int y1), (0, .ref 0), (1, .int p1), (2, .int p2)]) C dX8_on_23 (by decide) rfl ?_
  refine G_iload_n C 4 dX8_on_25 rfl rfl ?_
  refine G_if_eq (tgt := 40) C dX8_on_26 (by decide) (fun _ => ?_) (fun _ => ?_)
  · refine G_locals [2, 3, 4, 1, 0] rfl ?_
    exact go_X8_on_L40 C hd y1 y3 u4
  · refine G_iload_n C 1 dX8_on_29 rfl rfl ?_
    refine G_if_ne (tgt := 40) C dX8_on_30 (by decide) (fun _ => ?_) (fun _ => ?_)
    · refine G_locals [2, 3, 4, 1, 0] rfl ?_
      exact go_X8_on_L40 C hd y1 y3 u4
    · refine G_iload C 0 dX8_on_33 rfl ?_
      refine G_if_ne (tgt := 40) C dX8_on_35 (by decide) (fun _ => ?_) (fun _ => ?_)
      · refine G_locals [2, 3, 4, 1, 0] rfl ?_
        exact go_X8_on_L40 C hd y1 y3 u4
      · refine G_iconst (v := -1) C dX8_on_38 (by decide) ?_
        exact G_iret C dX8_on_39
theorem m_X8_on   (p1 : Int32) (p2 : Int32) (u : zM) (d : Nat) (hd : 7 ≤ d) : zMet zQi SHX yX8_on cX8_on 6 ((some FieldType.int)) d [.ref 0, .int p1, .int p2] u (f_X8_on p1 p2 u) :=
  zMet_of (by decide +kernel) (fun as => Nat.le_of_ble_eq_true rfl) wwX8_on.2.2.2.1 (by omega) (fun p l e s m args below meth c as dA D C => go_X8_on C hd u)
/-! public int best(int, int) -/
def f_X8_best (p1 : Int32) (p2 : Int32) (u : zM) : Option (Int32 × zM) :=
  zb (f_X8_isWithin p2 (-1 : Int32) (3 : Int32) u) fun y1 u2 => (if y1 = (0 : Int32) then some ((-1 : Int32), u2) else zb (f_X8_isWithin p1 (0 : Int32) (40 : Int32) u2) fun y3 u4 => (if y3 = (0 : Int32) then some ((-2 : Int32), u4) else zb (f_X1_findBestRow p1 u4) fun y5 u6 => (if p2 = (-1 : Int32) then some (y5, u6) else (if (gI u6 2 6) ≤ p2 then some ((-5 : Int32), u6) else zck (inB p2 4) <| some ((gI u6 50 p2.toNatClampNeg), u6)))))
set_option maxRecDepth 20000 in
theorem go_X8_best {p : Program} {l : Launch} {e : Env} {s : State} {m : MethodId} {args : Array Value} {below : List Frame} {meth : Method} {c : Code} {as : Nat → Nat} {dA : Nat → ClassId} {D : va_G} {d : Nat} {p1 : Int32} {p2 : Int32} (C : zCx p s m args meth c as dA D SHX d 4 yX8_best.cls cX8_best ((some FieldType.int))) (hd : 7 ≤ d) : ∀ (u : zM), Go p l e s m args below meth c as dA D SHX d 4 zQi 0 [(0, .ref 0), (1, .int p1), (2, .int p2)] [] u (f_X8_best p1 p2 u) := by
  intro u
  unfold f_X8_best
  refine G_iload_n C 2 dX8_best_0 rfl rfl ?_
  refine G_iconst (v := -1) C dX8_best_1 (by decide) ?_
  refine G_iconst (v := 3) C dX8_best_2 (by decide) ?_
  refine G_callSi C (m_X8_isWithin p2 (-1 : Int32) (3 : Int32) u (d - 1) (by omega)) (d' := d - 1) (As := [.int p2, .int (-1 : Int32), .int (3 : Int32)]) (by omega) rfl wm8_67 wwX8_isWithin (Nat.le_of_ble_eq_true rfl) dX8_best_3 (fun y1 u2 => ?_)
  refine G_if_ne (tgt := 11) C dX8_best_6 (by decide) (fun _ => ?_) (fun _ => ?_)
  · refine G_iload_n C 1 dX8_best_11 rfl rfl ?_
    refine G_iconst (v := 0) C dX8_best_12 (by decide) ?_
    refine G_bipush (v := 40) C dX8_best_13 (by decide) ?_
    refine G_callSi C (m_X8_isWithin p1 (0 : Int32) (40 : Int32) u2 (d - 1) (by omega)) (d' := d - 1) (As := [.int p1, .int (0 : Int32), .int (40 : Int32)]) (by omega) rfl wm8_67 wwX8_isWithin (Nat.le_of_ble_eq_true rfl) dX8_best_15 (fun y3 u4 => ?_)
    refine G_if_ne (tgt := 24) C dX8_best_18 (by decide) (fun _ => ?_) (fun _ => ?_)
    · refine G_aload_n C 0 dX8_best_24 rfl rfl ?_
      refine G_getR (j := 49) C 4 shX_0 rfl rfl (by decide) wf8_35 dX8_best_25 ?_
      refine G_iload_n C 1 dX8_best_28 rfl rfl ?_
      refine G_callVi C (m_X1_findBestRow p1 u4 (d - 1) (by omega)) (d' := d - 1) (As := [.int p1]) (by omega) rfl wm8_192 wwX1_findBestRow shX_49 rfl (Nat.le_of_ble_eq_true rfl) dX8_best_29 (fun y5 u6 => ?_)
      refine G_istore_n (L' := [(3, .int y5), (0, .ref 0), (1, .int p1), (2, .int p2)]) C dX8_best_32 rfl (by decide) rfl ?_
      refine G_iload_n C 3 dX8_best_33 rfl rfl ?_
      refine G_iconst (v := -1) C dX8_best_34 (by decide) ?_
      refine G_icmp_ne (tgt := 40) C dX8_best_35 (by decide) (fun _ => ?_) (fun _ => ?_)
      · refine G_iload_n C 3 dX8_best_40 rfl rfl ?_
        refine G_aload_n C 1 dX8_best_41 rfl rfl ?_
        refine G_getR (j := 2) C 3 shX_0 rfl rfl (by decide) wf8_25 dX8_best_42 ?_
        refine G_getI C 6 zTn_2.1 rfl rfl (by decide) wf8_111 dX8_best_45 ?_
        refine G_icmp_ge (tgt := 63) C dX8_best_48 (by decide) (fun _ => ?_) (fun _ => ?_)
        · refine G_bipush (v := -5) C dX8_best_63 (by decide) ?_
          exact G_iret C dX8_best_65
        · refine G_aload_n C 1 dX8_best_51 rfl rfl ?_
          refine G_getR (j := 49) C 4 shX_0 rfl rfl (by decide) wf8_35 dX8_best_52 ?_
          refine G_getR (j := 50) C 0 shX_49 rfl rfl (by decide) wf8_195 dX8_best_55 ?_
          refine G_iload_n C 3 dX8_best_58 rfl rfl ?_
          refine G_iald C shX_50 dX8_best_59 (fun hb7 => ?_)
          refine G_goto (tgt := 65) C dX8_best_60 (by decide) ?_
          exact G_iret C dX8_best_65
      · refine G_iload_n C 0 dX8_best_38 rfl rfl ?_
        exact G_iret C dX8_best_39
    · refine G_bipush (v := -2) C dX8_best_21 (by decide) ?_
      exact G_iret C dX8_best_23
  · refine G_iconst (v := -1) C dX8_best_9 (by decide) ?_
    exact G_iret C dX8_best_10
theorem m_X8_best   (p1 : Int32) (p2 : Int32) (u : zM) (d : Nat) (hd : 7 ≤ d) : zMet zQi SHX yX8_best cX8_best 4 ((some FieldType.int)) d [.ref 0, .int p1, .int p2] u (f_X8_best p1 p2 u) :=
  zMet_of (by decide +kernel) (fun as => Nat.le_of_ble_eq_true rfl) wwX8_best.2.2.2.1 (by omega) (fun p l e s m args below meth c as dA D C => go_X8_best C hd u)
/-! public int talk(int, int) -/
def f_X8_talk (p1 : Int32) (p2 : Int32) (u : zM) : Option (Int32 × zM) :=
  zb (f_X8_isWithin p2 (0 : Int32) (1 : Int32) u) fun y1 u2 => (if y1 = (0 : Int32) then some ((-1 : Int32), u2) else zb (f_X8_isWithin p1 (0 : Int32) (99 : Int32) u2) fun y3 u4 => (if y3 = (0 : Int32) then some ((-2 : Int32), u4) else zb (f_X1_whomToTalkTo p1 u4) fun y5 u6 => (if (0 : Int32) ≤ y5 then (if p2 = (0 : Int32) then some (y5, u6) else zb (f_X1_hottestByTalk y5 p1 u6) fun y7 u8 => some (y7, u8)) else some ((-5 : Int32), u6))))
set_option maxRecDepth 20000 in
theorem go_X8_talk {p : Program} {l : Launch} {e : Env} {s : State} {m : MethodId} {args : Array Value} {below : List Frame} {meth : Method} {c : Code} {as : Nat → Nat} {dA : Nat → ClassId} {D : va_G} {d : Nat} {p1 : Int32} {p2 : Int32} (C : zCx p s m args meth c as dA D SHX d 4 yX8_talk.cls cX8_talk ((some FieldType.int))) (hd : 8 ≤ d) : ∀ (u : zM), Go p l e s m args below meth c as dA D SHX d 4 zQi 0 [(0, .ref 0), (1, .int p1), (2, .int p2)] [] u (f_X8_talk p1 p2 u) := by
  intro u
  unfold f_X8_talk
  refine G_iload_n C 2 dX8_talk_0 rfl rfl ?_
  refine G_iconst (v := 0) C dX8_talk_1 (by decide) ?_
  refine G_iconst (v := 1) C dX8_talk_2 (by decide) ?_
  refine G_callSi C (m_X8_isWithin p2 (0 : Int32) (1 : Int32) u (d - 1) (by omega)) (d' := d - 1) (As := [.int p2, .int (0 : Int32), .int (1 : Int32)]) (by omega) rfl wm8_67 wwX8_isWithin (Nat.le_of_ble_eq_true rfl) dX8_talk_3 (fun y1 u2 => ?_)
  refine G_if_ne (tgt := 11) C dX8_talk_6 (by decide) (fun _ => ?_) (fun _ => ?_)
  · refine G_iload_n C 1 dX8_talk_11 rfl rfl ?_
    refine G_iconst (v := 0) C dX8_talk_12 (by decide) ?_
    refine G_bipush (v := 99) C dX8_talk_13 (by decide) ?_
    refine G_callSi C (m_X8_isWithin p1 (0 : Int32) (99 : Int32) u2 (d - 1) (by omega)) (d' := d - 1) (As := [.int p1, .int (0 : Int32), .int (99 : Int32)]) (by omega) rfl wm8_67 wwX8_isWithin (Nat.le_of_ble_eq_true rfl) dX8_talk_15 (fun y3 u4 => ?_)
    refine G_if_ne (tgt := 24) C dX8_talk_18 (by decide) (fun _ => ?_) (fun _ => ?_)
    · refine G_aload_n C 0 dX8_talk_24 rfl rfl ?_
      refine G_getR (j := 49) C 4 shX_0 rfl rfl (by decide) wf8_35 dX8_talk_25 ?_
      refine G_iload_n C 1 dX8_talk_28 rfl rfl ?_
      refine G_callVi C (m_X1_whomToTalkTo p1 u4 (d - 1) (by omega)) (d' := d - 1) (As := [.int p1]) (by omega) rfl wm8_198 wwX1_whomToTalkTo shX_49 rfl (Nat.le_of_ble_eq_true rfl) dX8_talk_29 (fun y5 u6 => ?_)
      refine G_istore_n (L' := [(3, .int y5), (0, .ref 0), (1, .int p1), (2, .int p2)]) C dX8_talk_32 rfl (by decide) rfl ?_
      refine G_iload_n C 0 dX8_talk_33 rfl rfl ?_
      refine G_if_ge (tgt := 40) C dX8_talk_34 (by decide) (fun _ => ?_) (fun _ => ?_)
      · refine G_iload_n C 3 dX8_talk_40 rfl rfl ?_
        refine G_if_ne (tgt := 48) C dX8_talk_41 (by decide) (fun _ => ?_) (fun _ => ?_)
        · refine G_aload_n C 1 dX8_talk_48 rfl rfl ?_
          refine G_getR (j := 49) C 4 shX_0 rfl rfl (by decide) wf8_35 dX8_talk_49 ?_
          refine G_iload_n C 0 dX8_talk_52 rfl rfl ?_
          refine G_iload_n C 2 dX8_talk_53 rfl rfl ?_
          refine G_callVi C (m_X1_hottestByTalk y5 p1 u6 (d - 1) (by omega)) (d' := d - 1) (As := [.int y5, .int p1]) (by omega) rfl wm8_201 wwX1_hottestByTalk shX_49 rfl (Nat.le_of_ble_eq_true rfl) dX8_talk_54 (fun y7 u8 => ?_)
          exact G_iret C dX8_talk_57
        · refine G_iload_n C 0 dX8_talk_44 rfl rfl ?_
          refine G_goto (tgt := 57) C dX8_talk_45 (by decide) ?_
          exact G_iret C dX8_talk_57
      · refine G_bipush (v := -5) C dX8_talk_37 (by decide) ?_
        exact G_iret C dX8_talk_39
    · refine G_bipush (v := -2) C dX8_talk_21 (by decide) ?_
      exact G_iret C dX8_talk_23
  · refine G_iconst (v := -1) C dX8_talk_9 (by decide) ?_
    exact G_iret C dX8_talk_10
theorem m_X8_talk   (p1 : Int32) (p2 : Int32) (u : zM) (d : Nat) (hd : 8 ≤ d) : zMet zQi SHX yX8_talk cX8_talk 4 ((some FieldType.int)) d [.ref 0, .int p1, .int p2] u (f_X8_talk p1 p2 u) :=
  zMet_of (by decide +kernel) (fun as => Nat.le_of_ble_eq_true rfl) wwX8_talk.2.2.2.1 (by omega) (fun p l e s m args below meth c as dA D C => go_X8_talk C hd u)
/-! public int see(int, int, boolean) -/
def f_X8_see (p1 : Int32) (p2 : Int32) (p3 : Int32) (u : zM) : Option (Int32 × zM) :=
  (if p1 = (-1 : Int32) then zb (f_X3_empty 13 5 u) fun y11 u12 => some (y11, u12) else zb (f_X6_hasOne 2 p1 u) fun y1 u2 => (if y1 = (0 : Int32) then some ((-1 : Int32), u2) else zb (f_X8_isWithin p2 (0 : Int32) (12 : Int32) u2) fun y3 u4 => (if y3 = (0 : Int32) then some ((-2 : Int32), u4) else zb (f_X3_isFull 13 5 u4) fun y5 u6 => (if y5 = (0 : Int32) then zb (f_X8_asNumber p3 u6) fun y7 u8 => zb (f_X3_add 13 5 p1 p2 y7 u8) fun y9 u10 => some (y9, u10) else some ((-4 : Int32), u6)))))
set_option maxRecDepth 20000 in
theorem go_X8_see {p : Program} {l : Launch} {e : Env} {s : State} {m : MethodId} {args : Array Value} {below : List Frame} {meth : Method} {c : Code} {as : Nat → Nat} {dA : Nat → ClassId} {D : va_G} {d : Nat} {p1 : Int32} {p2 : Int32} {p3 : Int32} (C : zCx p s m args meth c as dA D SHX d 4 yX8_see.cls cX8_see ((some FieldType.int))) (hd : 3 ≤ d) : ∀ (u : zM), Go p l e s m args below meth c as dA D SHX d 4 zQi 0 [(0, .ref 0), (1, .int p1), (2, .int p2), (3, .int p3)] [] u (f_X8_see p1 p2 p3 u) := by
  intro u
  unfold f_X8_see
  refine G_iload_n C 1 dX8_see_0 rfl rfl ?_
  refine G_iconst (v := -1) C dX8_see_1 (by decide) ?_
  refine G_icmp_ne (tgt := 16) C dX8_see_2 (by decide) (fun _ => ?_) (fun _ => ?_)
  · refine G_aload_n C 0 dX8_see_16 rfl rfl ?_
    refine G_getR (j := 2) C 3 shX_0 rfl rfl (by decide) wf8_25 dX8_see_17 ?_
    refine G_iload_n C 1 dX8_see_20 rfl rfl ?_
    refine G_callVi C (m_X6_hasOne zTn_2 p1 u (d - 1) (by omega)) (d' := d - 1) (As := [.int p1]) (by omega) rfl wm8_81 wwX6_hasOne zTn_2.1 rfl (Nat.le_of_ble_eq_true rfl) dX8_see_21 (fun y1 u2 => ?_)
    refine G_if_ne (tgt := 29) C dX8_see_24 (by decide) (fun _ => ?_) (fun _ => ?_)
    · refine G_iload_n C 2 dX8_see_29 rfl rfl ?_
      refine G_iconst (v := 0) C dX8_see_30 (by decide) ?_
      refine G_bipush (v := 12) C dX8_see_31 (by decide) ?_
      refine G_callSi C (m_X8_isWithin p2 (0 : Int32) (12 : Int32) u2 (d - 1) (by omega)) (d' := d - 1) (As := [.int p2, .int (0 : Int32), .int (12 : Int32)]) (by omega) rfl wm8_67 wwX8_isWithin (Nat.le_of_ble_eq_true rfl) dX8_see_33 (fun y3 u4 => ?_)
      refine G_if_ne (tgt := 42) C dX8_see_36 (by decide) (fun _ => ?_) (fun _ => ?_)
      · refine G_aload_n C 0 dX8_see_42 rfl rfl ?_
        refine G_getR (j := 1) C 0 shX_0 rfl rfl (by decide) wf8_12 dX8_see_43 ?_
        refine G_getR (j := 13) C 1 zWh_1.1 rfl rfl (by decide) wf8_28 dX8_see_46 ?_
        refine G_callVi C (m_X3_isFull zSn_13 u4 (d - 1) (by omega)) (d' := d - 1) (As := []) (by omega) rfl wm8_208 wwX3_isFull zSn_13.1 rfl (Nat.le_of_ble_eq_true rfl) dX8_see_49 (fun y5 u6 => ?_)
        refine G_if_eq (tgt := 60) C dX8_see_52 (by decide) (fun _ => ?_) (fun _ => ?_)
        · refine G_aload_n C 0 dX8_see_60 rfl rfl ?_
          refine G_getR (j := 1) C 0 shX_0 rfl rfl (by decide) wf8_12 dX8_see_61 ?_
          refine G_getR (j := 13) C 1 zWh_1.1 rfl rfl (by decide) wf8_28 dX8_see_64 ?_
          refine G_iload_n C 1 dX8_see_67 rfl rfl ?_
          refine G_iload_n C 2 dX8_see_68 rfl rfl ?_
          refine G_iload_n C 3 dX8_see_69 rfl rfl ?_
          refine G_callSi C (m_X8_asNumber p3 u6 (d - 1) (by omega)) (d' := d - 1) (As := [.int p3]) (by omega) rfl wm8_99 wwX8_asNumber (Nat.le_of_ble_eq_true rfl) dX8_see_70 (fun y7 u8 => ?_)
          refine G_callVi C (m_X3_add zSn_13 p1 p2 y7 u8 (d - 1) (by omega)) (d' := d - 1) (As := [.int p1, .int p2, .int y7]) (by omega) rfl wm8_212 wwX3_add zSn_13.1 rfl (Nat.le_of_ble_eq_true rfl) dX8_see_73 (fun y9 u10 => ?_)
          exact G_iret C dX8_see_76
        · refine G_bipush (v := -4) C dX8_see_55 (by decide) ?_
          refine G_goto (tgt := 76) C dX8_see_57 (by decide) ?_
          exact G_iret C dX8_see_76
      · refine G_bipush (v := -2) C dX8_see_39 (by decide) ?_
        exact G_iret C dX8_see_41
    · refine G_iconst (v := -1) C dX8_see_27 (by decide) ?_
      exact G_iret C dX8_see_28
  · refine G_aload_n C 0 dX8_see_5 rfl rfl ?_
    refine G_getR (j := 1) C 0 shX_0 rfl rfl (by decide) wf8_12 dX8_see_6 ?_
    refine G_getR (j := 13) C 1 zWh_1.1 rfl rfl (by decide) wf8_28 dX8_see_9 ?_
    refine G_callVi C (m_X3_empty zSn_13 u (d - 1) (by omega)) (d' := d - 1) (As := []) (by omega) rfl wm8_204 wwX3_empty zSn_13.1 rfl (Nat.le_of_ble_eq_true rfl) dX8_see_12 (fun y11 u12 => ?_)
    exact G_iret C dX8_see_15
theorem m_X8_see   (p1 : Int32) (p2 : Int32) (p3 : Int32) (u : zM) (d : Nat) (hd : 3 ≤ d) : zMet zQi SHX yX8_see cX8_see 4 ((some FieldType.int)) d [.ref 0, .int p1, .int p2, .int p3] u (f_X8_see p1 p2 p3 u) :=
  zMet_of (by decide +kernel) (fun as => Nat.le_of_ble_eq_true rfl) wwX8_see.2.2.2.1 (by omega) (fun p l e s m args below meth c as dA D C => go_X8_see C hd u)
/-! public int can(int, int, int) -/
def f_X8_can (p1 : Int32) (p2 : Int32) (p3 : Int32) (u : zM) : Option (Int32 × zM) :=
  zb (f_X6_hasOne 2 p1 u) fun y1 u2 => (if y1 = (0 : Int32) then some ((-1 : Int32), u2) else zb (f_X8_isWithin p2 (0 : Int32) (1 : Int32) u2) fun y3 u4 => (if y3 = (0 : Int32) then some ((-1 : Int32), u4) else zb (f_X8_isWithin p3 (0 : Int32) (1 : Int32) u4) fun y5 u6 => (if y5 = (0 : Int32) then some ((-1 : Int32), u6) else (if p2 = (0 : Int32) then (if p3 = (0 : Int32) then zb (f_X1_fitting p1 (1 : Int32) (1 : Int32) u6) fun y13 u14 => some (y13, u14) else zb (f_X1_fitting p1 (1 : Int32) (0 : Int32) u6) fun y11 u12 => some (y11, u12)) else (if p3 = (0 : Int32) then zb (f_X1_fitting p1 (0 : Int32) (1 : Int32) u6) fun y9 u10 => some (y9, u10) else zb (f_X1_fitting p1 (0 : Int32) (0 : Int32) u6) fun y7 u8 => some (y7, u8))))))
set_option maxRecDepth 20000 in
theorem go_X8_can {p : Program} {l : Launch} {e : Env} {s : State} {m : MethodId} {args : Array Value} {below : List Frame} {meth : Method} {c : Code} {as : Nat → Nat} {dA : Nat → ClassId} {D : va_G} {d : Nat} {p1 : Int32} {p2 : Int32} {p3 : Int32} (C : zCx p s m args meth c as dA D SHX d 4 yX8_can.cls cX8_can ((some FieldType.int))) (hd : 7 ≤ d) : ∀ (u : zM), Go p l e s m args below meth c as dA D SHX d 4 zQi 0 [(0, .ref 0), (1, .int p1), (2, .int p2), (3, .int p3)] [] u (f_X8_can p1 p2 p3 u) := by
  intro u
  unfold f_X8_can
  refine G_aload_n C 0 dX8_can_0 rfl rfl ?_
  refine G_getR (j := 2) C 3 shX_0 rfl rfl (by decide) wf8_25 dX8_can_1 ?_
  refine G_iload_n C 1 dX8_can_4 rfl rfl ?_
  refine G_callVi C (m_X6_hasOne zTn_2 p1 u (d - 1) (by omega)) (d' := d - 1) (As := [.int p1]) (by omega) rfl wm8_81 wwX6_hasOne zTn_2.1 rfl (Nat.le_of_ble_eq_true rfl) dX8_can_5 (fun y1 u2 => ?_)
  refine G_if_eq (tgt := 29) C dX8_can_8 (by decide) (fun _ => ?_) (fun _ => ?_)
  · refine G_iconst (v := -1) C dX8_can_29 (by decide) ?_
    exact G_iret C dX8_can_30
  · refine G_iload_n C 2 dX8_can_11 rfl rfl ?_
    refine G_iconst (v := 0) C dX8_can_12 (by decide) ?_
    refine G_iconst (v := 1) C dX8_can_13 (by decide) ?_
    refine G_callSi C (m_X8_isWithin p2 (0 : Int32) (1 : Int32) u2 (d - 1) (by omega)) (d' := d - 1) (As := [.int p2, .int (0 : Int32), .int (1 : Int32)]) (by omega) rfl wm8_67 wwX8_isWithin (Nat.le_of_ble_eq_true rfl) dX8_can_14 (fun y3 u4 => ?_)
    refine G_if_eq (tgt := 29) C dX8_can_17 (by decide) (fun _ => ?_) (fun _ => ?_)
    · refine G_iconst (v := -1) C dX8_can_29 (by decide) ?_
      exact G_iret C dX8_can_30
    · refine G_iload_n C 3 dX8_can_20 rfl rfl ?_
      refine G_iconst (v := 0) C dX8_can_21 (by decide) ?_
      refine G_iconst (v := 1) C dX8_can_22 (by decide) ?_
      refine G_callSi C (m_X8_isWithin p3 (0 : Int32) (1 : Int32) u4 (d - 1) (by omega)) (d' := d - 1) (As := [.int p3, .int (0 : Int32), .int (1 : Int32)]) (by omega) rfl wm8_67 wwX8_isWithin (Nat.le_of_ble_eq_true rfl) dX8_can_23 (fun y5 u6 => ?_)
      refine G_if_ne (tgt := 31) C dX8_can_26 (by decide) (fun _ => ?_) (fun _ => ?_)
      · refine G_aload_n C 0 dX8_can_31 rfl rfl ?_
        refine G_getR (j := 49) C 4 shX_0 rfl rfl (by decide) wf8_35 dX8_can_32 ?_
        refine G_iload_n C 1 dX8_can_35 rfl rfl ?_
        refine G_iload_n C 2 dX8_can_36 rfl rfl ?_
        refine G_if_ne (tgt := 44) C dX8_can_37 (by decide) (fun _ => ?_) (fun _ => ?_)
        · refine G_iconst (v := 0) C dX8_can_44 (by decide) ?_
          refine G_iload_n C 3 dX8_can_45 rfl rfl ?_
          refine G_if_ne (tgt := 53) C dX8_can_46 (by decide) (fun _ => ?_) (fun _ => ?_)
          · refine G_iconst (v := 0) C dX8_can_53 (by decide) ?_
            refine G_callVi C (m_X1_fitting p1 (0 : Int32) (0 : Int32) u6 (d - 1) (by omega)) (d' := d - 1) (As := [.int p1, .int (0 : Int32), .int (0 : Int32)]) (by omega) rfl wm8_214 wwX1_fitting shX_49 rfl (Nat.le_of_ble_eq_true rfl) dX8_can_54 (fun y7 u8 => ?_)
            exact G_iret C dX8_can_57
          · refine G_iconst (v := 1) C dX8_can_49 (by decide) ?_
            refine G_goto (tgt := 54) C dX8_can_50 (by decide) ?_
            refine G_callVi C (m_X1_fitting p1 (0 : Int32) (1 : Int32) u6 (d - 1) (by omega)) (d' := d - 1) (As := [.int p1, .int (0 : Int32), .int (1 : Int32)]) (by omega) rfl wm8_214 wwX1_fitting shX_49 rfl (Nat.le_of_ble_eq_true rfl) dX8_can_54 (fun y9 u10 => ?_)
            exact G_iret C dX8_can_57
        · refine G_iconst (v := 1) C dX8_can_40 (by decide) ?_
          refine G_goto (tgt := 45) C dX8_can_41 (by decide) ?_
          refine G_iload_n C 3 dX8_can_45 rfl rfl ?_
          refine G_if_ne (tgt := 53) C dX8_can_46 (by decide) (fun _ => ?_) (fun _ => ?_)
          · refine G_iconst (v := 0) C dX8_can_53 (by decide) ?_
            refine G_callVi C (m_X1_fitting p1 (1 : Int32) (0 : Int32) u6 (d - 1) (by omega)) (d' := d - 1) (As := [.int p1, .int (1 : Int32), .int (0 : Int32)]) (by omega) rfl wm8_214 wwX1_fitting shX_49 rfl (Nat.le_of_ble_eq_true rfl) dX8_can_54 (fun y11 u12 => ?_)
            exact G_iret C dX8_can_57
          · refine G_iconst (v := 1) C dX8_can_49 (by decide) ?_
            refine G_goto (tgt := 54) C dX8_can_50 (by decide) ?_
            refine G_callVi C (m_X1_fitting p1 (1 : Int32) (1 : Int32) u6 (d - 1) (by omega)) (d' := d - 1) (As := [.int p1, .int (1 : Int32), .int (1 : Int32)]) (by omega) rfl wm8_214 wwX1_fitting shX_49 rfl (Nat.le_of_ble_eq_true rfl) dX8_can_54 (fun y13 u14 => ?_)
            exact G_iret C dX8_can_57
      · refine G_iconst (v := -1) C dX8_can_29 (by decide) ?_
        exact G_iret C dX8_can_30
theorem m_X8_can   (p1 : Int32) (p2 : Int32) (p3 : Int32) (u : zM) (d : Nat) (hd : 7 ≤ d) : zMet zQi SHX yX8_can cX8_can 4 ((some FieldType.int)) d [.ref 0, .int p1, .int p2, .int p3] u (f_X8_can p1 p2 p3 u) :=
  zMet_of (by decide +kernel) (fun as => Nat.le_of_ble_eq_true rfl) wwX8_can.2.2.2.1 (by omega) (fun p l e s m args below meth c as dA D C => go_X8_can C hd u)
/-! private static long lowestTerms(int, int, int) -/
def f_X8_lowestTerms_L43 (p0 : Int32) (p1 : Int32) (p2 : Int32) (x3 : Int32) (u : zM) : Option (Int64 × zM) :=
  (if p2 = (0 : Int32) then if x3 = (0 : Int32) then none else some ((p0 / x3).toInt64, u) else if x3 = (0 : Int32) then none else some ((p1 / x3).toInt64, u))
def f_X8_lowestTerms_L20_b (p0 : Int32) (p1 : Int32) (p2 : Int32) (rc : Int32 → zM → Option (Int64 × zM)) (x3 : Int32) (u : zM) : Option (Int64 × zM) :=
  (if x3 ≤ (1 : Int32) then f_X8_lowestTerms_L43 p0 p1 p2 x3 u else if x3 = (0 : Int32) then none else (if (zrem p0 x3) = (0 : Int32) then if x3 = (0 : Int32) then none else (if (zrem p1 x3) = (0 : Int32) then f_X8_lowestTerms_L43 p0 p1 p2 x3 u else rc (x3 + (-1 : Int32)) u) else rc (x3 + (-1 : Int32)) u))
def f_X8_lowestTerms_L20 (p0 : Int32) (p1 : Int32) (p2 : Int32) : Nat → Int32 → zM → Option (Int64 × zM)
  | 0 => fun _ _ => none
  | fn + 1 => f_X8_lowestTerms_L20_b p0 p1 p2 (f_X8_lowestTerms_L20 p0 p1 p2 fn)
def f_X8_lowestTerms (p0 : Int32) (p1 : Int32) (p2 : Int32) (u : zM) : Option (Int64 × zM) :=
  (if p1 < (1 : Int32) then some ((-9223372036854775808 : Int64), u) else zb (f_X8_isWithin p2 (0 : Int32) (1 : Int32) u) fun y1 u2 => (if y1 = (0 : Int32) then some ((-9223372036854775808 : Int64), u2) else f_X8_lowestTerms_L20 p0 p1 p2 400 p1 u2))
set_option maxRecDepth 20000 in
theorem go_X8_lowestTerms_L43 {p : Program} {l : Launch} {e : Env} {s : State} {m : MethodId} {args : Array Value} {below : List Frame} {meth : Method} {c : Code} {as : Nat → Nat} {dA : Nat → ClassId} {D : va_G} {d : Nat} {p0 : Int32} {p1 : Int32} {p2 : Int32} (C : zCx p s m args meth c as dA D SHX d 4 yX8_lowestTerms.cls cX8_lowestTerms ((some FieldType.long))) (hd : 2 ≤ d) : ∀ (x3 : Int32) (u : zM), Go p l e s m args below meth c as dA D SHX d 4 zQl 43 [(0, .int p0), (1, .int p1), (2, .int p2), (3, .int x3)] [] u (f_X8_lowestTerms_L43 p0 p1 p2 x3 u) := by
  intro x3 u
  unfold f_X8_lowestTerms_L43
  refine G_iload_n C 2 dX8_lowestTerms_43 rfl rfl ?_
  refine G_if_ne (tgt := 54) C dX8_lowestTerms_44 (by decide) (fun _ => ?_) (fun _ => ?_)
  · refine G_iload_n C 1 dX8_lowestTerms_54 rfl rfl ?_
    refine G_iload_n C 3 dX8_lowestTerms_55 rfl rfl ?_
    refine G_if (fun _ => G_none) (fun hne3 => ?_)
    refine G_idiv C dX8_lowestTerms_56 hne3 ?_
    refine G_i2l C dX8_lowestTerms_57 ?_
    exact G_lret C dX8_lowestTerms_58
  · refine G_iload_n C 0 dX8_lowestTerms_47 rfl rfl ?_
    refine G_iload_n C 3 dX8_lowestTerms_48 rfl rfl ?_
    refine G_if (fun _ => G_none) (fun hne4 => ?_)
    refine G_idiv C dX8_lowestTerms_49 hne4 ?_
    refine G_i2l C dX8_lowestTerms_50 ?_
    refine G_goto (tgt := 58) C dX8_lowestTerms_51 (by decide) ?_
    exact G_lret C dX8_lowestTerms_58
set_option maxRecDepth 20000 in
theorem go_X8_lowestTerms_L20 {p : Program} {l : Launch} {e : Env} {s : State} {m : MethodId} {args : Array Value} {below : List Frame} {meth : Method} {c : Code} {as : Nat → Nat} {dA : Nat → ClassId} {D : va_G} {d : Nat} {p0 : Int32} {p1 : Int32} {p2 : Int32} (C : zCx p s m args meth c as dA D SHX d 4 yX8_lowestTerms.cls cX8_lowestTerms ((some FieldType.long))) (hd : 2 ≤ d) : ∀ (fn : Nat) (x3 : Int32) (u : zM), Go p l e s m args below meth c as dA D SHX d 4 zQl 20 [(0, .int p0), (1, .int p1), (2, .int p2), (3, .int x3)] [] u (f_X8_lowestTerms_L20 p0 p1 p2 fn x3 u) := by
  intro fn
  induction fn with
  | zero => intro x3 u; exact G_none
  | succ fn ih =>
    intro x3 u
    show Go p l e s m args below meth c as dA D SHX d 4 zQl 20 [(0, .int p0), (1, .int p1), (2, .int p2), (3, .int x3)] [] u (f_X8_lowestTerms_L20_b p0 p1 p2 (f_X8_lowestTerms_L20 p0 p1 p2 fn) x3 u)
    unfold f_X8_lowestTerms_L20_b
    refine G_iload_n C 3 dX8_lowestTerms_20 rfl rfl ?_
    refine G_iconst (v := 1) C dX8_lowestTerms_21 (by decide) ?_
    refine G_icmp_le (tgt := 43) C dX8_lowestTerms_22 (by decide) (fun _ => ?_) (fun _ => ?_)
    · refine G_locals [0, 1, 2, 3] rfl ?_
      exact go_X8_lowestTerms_L43 C hd x3 u
    · refine G_iload_n C 0 dX8_lowestTerms_25 rfl rfl ?_
      refine G_iload_n C 3 dX8_lowestTerms_26 rfl rfl ?_
      refine G_if (fun _ => G_none) (fun hne5 => ?_)
      refine G_irem C dX8_lowestTerms_27 hne5 ?_
      refine G_if_ne (tgt := 37) C dX8_lowestTerms_28 (by decide) (fun _ => ?_) (fun _ => ?_)
      · refine G_iinc (v := -1) (L' := [(3, .int (x3 + (-1 : Int32))), (0, .int p0), (1, .int p1), (2, .int p2)]) C 3 dX8_lowestTerms_37 rfl (by decide) (by decide) rfl ?_
        refine G_goto (tgt := 20) C dX8_lowestTerms_40 (by decide) ?_
        refine G_locals [1, 2, 3, 0] rfl ?_
        exact ih (x3 + (-1 : Int32)) u
      · refine G_iload_n C 1 dX8_lowestTerms_31 rfl rfl ?_
        refine G_iload_n C 3 dX8_lowestTerms_32 rfl rfl ?_
        refine G_if (fun _ => G_none) (fun hne6 => ?_)
        refine G_irem C dX8_lowestTerms_33 hne6 ?_
        refine G_if_eq (tgt := 43) C dX8_lowestTerms_34 (by decide) (fun _ => ?_) (fun _ => ?_)
        · refine G_locals [0, 1, 2, 3] rfl ?_
          exact go_X8_lowestTerms_L43 C hd x3 u
        · refine G_iinc (v := -1) (L' := [(3, .int (x3 + (-1 : Int32))), (0, .int p0), (1, .int p1), (2, .int p2)]) C 3 dX8_lowestTerms_37 rfl (by decide) (by decide) rfl ?_
          refine G_goto (tgt := 20) C dX8_lowestTerms_40 (by decide) ?_
          refine G_locals [1, 2, 3, 0] rfl ?_
          exact ih (x3 + (-1 : Int32)) u
set_option maxRecDepth 20000 in
theorem go_X8_lowestTerms {p : Program} {l : Launch} {e : Env} {s : State} {m : MethodId} {args : Array Value} {below : List Frame} {meth : Method} {c : Code} {as : Nat → Nat} {dA : Nat → ClassId} {D : va_G} {d : Nat} {p0 : Int32} {p1 : Int32} {p2 : Int32} (C : zCx p s m args meth c as dA D SHX d 4 yX8_lowestTerms.cls cX8_lowestTerms ((some FieldType.long))) (hd : 2 ≤ d) : ∀ (u : zM), Go p l e s m args below meth c as dA D SHX d 4 zQl 0 [(0, .int p0), (1, .int p1), (2, .int p2)] [] u (f_X8_lowestTerms p0 p1 p2 u) := by
  intro u
  unfold f_X8_lowestTerms
  refine G_iload_n C 1 dX8_lowestTerms_0 rfl rfl ?_
  refine G_iconst (v := 1) C dX8_lowestTerms_1 (by decide) ?_
  refine G_icmp_lt (tgt := 14) C dX8_lowestTerms_2 (by decide) (fun _ => ?_) (fun _ => ?_)
  · refine G_ldc2 (v := -9223372036854775808) C dX8_lowestTerms_14 wc8_218 ?_
    exact G_lret C dX8_lowestTerms_17
  · refine G_iload_n C 2 dX8_lowestTerms_5 rfl rfl ?_
    refine G_iconst (v := 0) C dX8_lowestTerms_6 (by decide) ?_
    refine G_iconst (v := 1) C dX8_lowestTerms_7 (by decide) ?_
    refine G_callSi C (m_X8_isWithin p2 (0 : Int32) (1 : Int32) u (d - 1) (by omega)) (d' := d - 1) (As := [.int p2, .int (0 : Int32), .int (1 : Int32)]) (by omega) rfl wm8_67 wwX8_isWithin (Nat.le_of_ble_eq_true rfl) dX8_lowestTerms_8 (fun y1 u2 => ?_)
    refine G_if_ne (tgt := 18) C dX8_lowestTerms_11 (by decide) (fun _ => ?_) (fun _ => ?_)
    · refine G_iload_n C 1 dX8_lowestTerms_18 rfl rfl ?_
      refine G_istore_n (L' := [(3, .int p1), (0, .int p0), (1, .int p1), (2, .int p2)]) C dX8_lowestTerms_19 rfl (by decide) rfl ?_
      refine G_locals [1, 2, 3, 0] rfl ?_
      exact go_X8_lowestTerms_L20 C hd 400 p1 u2
    · refine G_ldc2 (v := -9223372036854775808) C dX8_lowestTerms_14 wc8_218 ?_
      exact G_lret C dX8_lowestTerms_17
theorem m_X8_lowestTerms   (p0 : Int32) (p1 : Int32) (p2 : Int32) (u : zM) (d : Nat) (hd : 2 ≤ d) : zMet zQl SHX yX8_lowestTerms cX8_lowestTerms 4 ((some FieldType.long)) d [.int p0, .int p1, .int p2] u (f_X8_lowestTerms p0 p1 p2 u) :=
  zMet_of (by decide +kernel) (fun as => Nat.le_of_ble_eq_true rfl) wwX8_lowestTerms.2.2.1 (by omega) (fun p l e s m args below meth c as dA D C => go_X8_lowestTerms C hd u)
/-! public long odds(int, int, int) -/
def f_X8_odds (p1 : Int32) (p2 : Int32) (p3 : Int32) (u : zM) : Option (Int64 × zM) :=
  zb (f_X6_hasOne 2 p1 u) fun y1 u2 => (if y1 = (0 : Int32) then some ((-9223372036854775808 : Int64), u2) else zb (f_X8_isWithin p2 (0 : Int32) (20 : Int32) u2) fun y3 u4 => (if y3 = (0 : Int32) then some ((-9223372036854775808 : Int64), u4) else zb (f_X1_countHot p1 p2 u4) fun y5 u6 => zb (f_X6_countHere 2 u6) fun y7 u8 => zb (f_X8_lowestTerms y5 y7 p3 u8) fun y9 u10 => some (y9, u10)))
set_option maxRecDepth 20000 in
theorem go_X8_odds {p : Program} {l : Launch} {e : Env} {s : State} {m : MethodId} {args : Array Value} {below : List Frame} {meth : Method} {c : Code} {as : Nat → Nat} {dA : Nat → ClassId} {D : va_G} {d : Nat} {p1 : Int32} {p2 : Int32} {p3 : Int32} (C : zCx p s m args meth c as dA D SHX d 4 yX8_odds.cls cX8_odds ((some FieldType.long))) (hd : 7 ≤ d) : ∀ (u : zM), Go p l e s m args below meth c as dA D SHX d 4 zQl 0 [(0, .ref 0), (1, .int p1), (2, .int p2), (3, .int p3)] [] u (f_X8_odds p1 p2 p3 u) := by
  intro u
  unfold f_X8_odds
  refine G_aload_n C 0 dX8_odds_0 rfl rfl ?_
  refine G_getR (j := 2) C 3 shX_0 rfl rfl (by decide) wf8_25 dX8_odds_1 ?_
  refine G_iload_n C 1 dX8_odds_4 rfl rfl ?_
  refine G_callVi C (m_X6_hasOne zTn_2 p1 u (d - 1) (by omega)) (d' := d - 1) (As := [.int p1]) (by omega) rfl wm8_81 wwX6_hasOne zTn_2.1 rfl (Nat.le_of_ble_eq_true rfl) dX8_odds_5 (fun y1 u2 => ?_)
  refine G_if_eq (tgt := 21) C dX8_odds_8 (by decide) (fun _ => ?_) (fun _ => ?_)
  · refine G_ldc2 (v := -9223372036854775808) C dX8_odds_21 wc8_218 ?_
    exact G_lret C dX8_odds_24
  · refine G_iload_n C 2 dX8_odds_11 rfl rfl ?_
    refine G_iconst (v := 0) C dX8_odds_12 (by decide) ?_
    refine G_bipush (v := 20) C dX8_odds_13 (by decide) ?_
    refine G_callSi C (m_X8_isWithin p2 (0 : Int32) (20 : Int32) u2 (d - 1) (by omega)) (d' := d - 1) (As := [.int p2, .int (0 : Int32), .int (20 : Int32)]) (by omega) rfl wm8_67 wwX8_isWithin (Nat.le_of_ble_eq_true rfl) dX8_odds_15 (fun y3 u4 => ?_)
    refine G_if_ne (tgt := 25) C dX8_odds_18 (by decide) (fun _ => ?_) (fun _ => ?_)
    · refine G_aload_n C 0 dX8_odds_25 rfl rfl ?_
      refine G_getR (j := 49) C 4 shX_0 rfl rfl (by decide) wf8_35 dX8_odds_26 ?_
      refine G_iload_n C 1 dX8_odds_29 rfl rfl ?_
      refine G_iload_n C 2 dX8_odds_30 rfl rfl ?_
      refine G_callVi C (m_X1_countHot p1 p2 u4 (d - 1) (by omega)) (d' := d - 1) (As := [.int p1, .int p2]) (by omega) rfl wm8_220 wwX1_countHot shX_49 rfl (Nat.le_of_ble_eq_true rfl) dX8_odds_31 (fun y5 u6 => ?_)
      refine G_aload_n C 0 dX8_odds_34 rfl rfl ?_
      refine G_getR (j := 2) C 3 shX_0 rfl rfl (by decide) wf8_25 dX8_odds_35 ?_
      refine G_callVi C (m_X6_countHere zTn_2 u6 (d - 1) (by omega)) (d' := d - 1) (As := []) (by omega) rfl wm8_223 wwX6_countHere zTn_2.1 rfl (Nat.le_of_ble_eq_true rfl) dX8_odds_38 (fun y7 u8 => ?_)
      refine G_iload_n C 3 dX8_odds_41 rfl rfl ?_
      refine G_callSl C (m_X8_lowestTerms y5 y7 p3 u8 (d - 1) (by omega)) (d' := d - 1) (As := [.int y5, .int y7, .int p3]) (by omega) rfl wm8_226 wwX8_lowestTerms (Nat.le_of_ble_eq_true rfl) dX8_odds_42 (fun y9 u10 => ?_)
      exact G_lret C dX8_odds_45
    · refine G_ldc2 (v := -9223372036854775808) C dX8_odds_21 wc8_218 ?_
      exact G_lret C dX8_odds_24
theorem m_X8_odds   (p1 : Int32) (p2 : Int32) (p3 : Int32) (u : zM) (d : Nat) (hd : 7 ≤ d) : zMet zQl SHX yX8_odds cX8_odds 4 ((some FieldType.long)) d [.ref 0, .int p1, .int p2, .int p3] u (f_X8_odds p1 p2 p3 u) :=
  zMet_of (by decide +kernel) (fun as => Nat.le_of_ble_eq_true rfl) wwX8_odds.2.2.2.1 (by omega) (fun p l e s m args below meth c as dA D C => go_X8_odds C hd u)
/-! public long mean(int, int) -/
def f_X8_mean (p1 : Int32) (p2 : Int32) (u : zM) : Option (Int64 × zM) :=
  zb (f_X8_isWithin p1 (0 : Int32) (60 : Int32) u) fun y1 u2 => (if y1 = (0 : Int32) then some ((-9223372036854775808 : Int64), u2) else zb (f_X1_behind p1 u2) fun y3 u4 => zck (isT y3) <| zb (f_X6_heatOfAll y3 u4) fun y6 u7 => zb (f_X8_lowestTerms y6 (gI u7 2 0) p2 u7) fun y8 u9 => some (y8, u9))
set_option maxRecDepth 20000 in
theorem go_X8_mean {p : Program} {l : Launch} {e : Env} {s : State} {m : MethodId} {args : Array Value} {below : List Frame} {meth : Method} {c : Code} {as : Nat → Nat} {dA : Nat → ClassId} {D : va_G} {d : Nat} {p1 : Int32} {p2 : Int32} (C : zCx p s m args meth c as dA D SHX d 3 yX8_mean.cls cX8_mean ((some FieldType.long))) (hd : 7 ≤ d) : ∀ (u : zM), Go p l e s m args below meth c as dA D SHX d 3 zQl 0 [(0, .ref 0), (1, .int p1), (2, .int p2)] [] u (f_X8_mean p1 p2 u) := by
  intro u
  unfold f_X8_mean
  refine G_iload_n C 1 dX8_mean_0 rfl rfl ?_
  refine G_iconst (v := 0) C dX8_mean_1 (by decide) ?_
  refine G_bipush (v := 60) C dX8_mean_2 (by decide) ?_
  refine G_callSi C (m_X8_isWithin p1 (0 : Int32) (60 : Int32) u (d - 1) (by omega)) (d' := d - 1) (As := [.int p1, .int (0 : Int32), .int (60 : Int32)]) (by omega) rfl wm8_67 wwX8_isWithin (Nat.le_of_ble_eq_true rfl) dX8_mean_4 (fun y1 u2 => ?_)
  refine G_if_ne (tgt := 14) C dX8_mean_7 (by decide) (fun _ => ?_) (fun _ => ?_)
  · refine G_aload_n C 0 dX8_mean_14 rfl rfl ?_
    refine G_getR (j := 49) C 4 shX_0 rfl rfl (by decide) wf8_35 dX8_mean_15 ?_
    refine G_iload_n C 1 dX8_mean_18 rfl rfl ?_
    refine G_callVr C (m_X1_behind p1 u2 (d - 1) (by omega)) (d' := d - 1) (As := [.int p1]) (by omega) rfl wm8_188 wwX1_behind shX_49 rfl (Nat.le_of_ble_eq_true rfl) dX8_mean_19 (fun y3 u4 => ?_)
    refine G_ck (fun hr5 => ?_)
    refine G_callVi C (m_X6_heatOfAll (isT_sh hr5) u4 (d - 1) (by omega)) (d' := d - 1) (As := []) (by omega) rfl wm8_181 wwX6_heatOfAll (isT_sh hr5).1 rfl (Nat.le_of_ble_eq_true rfl) dX8_mean_22 (fun y6 u7 => ?_)
    refine G_aload_n C 0 dX8_mean_25 rfl rfl ?_
    refine G_getR (j := 2) C 3 shX_0 rfl rfl (by decide) wf8_25 dX8_mean_26 ?_
    refine G_getI C 0 zTn_2.1 rfl rfl (by decide) wf8_71 dX8_mean_29 ?_
    refine G_iload_n C 2 dX8_mean_32 rfl rfl ?_
    refine G_callSl C (m_X8_lowestTerms y6 (gI u7 2 0) p2 u7 (d - 1) (by omega)) (d' := d - 1) (As := [.int y6, .int (gI u7 2 0), .int p2]) (by omega) rfl wm8_226 wwX8_lowestTerms (Nat.le_of_ble_eq_true rfl) dX8_mean_33 (fun y8 u9 => ?_)
    exact G_lret C dX8_mean_36
  · refine G_ldc2 (v := -9223372036854775808) C dX8_mean_10 wc8_218 ?_
    exact G_lret C dX8_mean_13
theorem m_X8_mean   (p1 : Int32) (p2 : Int32) (u : zM) (d : Nat) (hd : 7 ≤ d) : zMet zQl SHX yX8_mean cX8_mean 3 ((some FieldType.long)) d [.ref 0, .int p1, .int p2] u (f_X8_mean p1 p2 u) :=
  zMet_of (by decide +kernel) (fun as => Nat.le_of_ble_eq_true rfl) wwX8_mean.2.2.2.1 (by omega) (fun p l e s m args below meth c as dA D C => go_X8_mean C hd u)
/-! public int plan(int, int) -/
def f_X8_plan_L80 (p1 : Int32) (p2 : Int32) (u : zM) : Option (Int32 × zM) :=
  zb (f_X3_isFull 17 10 u) fun y1 u2 => (if y1 = (0 : Int32) then zb (f_X3_add 17 10 p1 p2 (0 : Int32) u2) fun y3 u4 => some (y3, u4) else some ((-4 : Int32), u2))
def f_X8_plan_L62 (p1 : Int32) (p2 : Int32) (u : zM) : Option (Int32 × zM) :=
  (if p1 = (3 : Int32) then zb (f_X6_hasWork 2 p2 u) fun y5 u6 => (if y5 = (0 : Int32) then some ((-1 : Int32), u6) else f_X8_plan_L80 p1 p2 u6) else f_X8_plan_L80 p1 p2 u)
def f_X8_plan_L47 (p1 : Int32) (p2 : Int32) (x3 : Int32) (u : zM) : Option (Int32 × zM) :=
  (if x3 = (0 : Int32) then f_X8_plan_L62 p1 p2 u else zb (f_X6_hasOne 2 p2 u) fun y7 u8 => (if y7 = (0 : Int32) then some ((-1 : Int32), u8) else f_X8_plan_L62 p1 p2 u8))
def f_X8_plan_L31 (p1 : Int32) (p2 : Int32) (s0 : Int32) (u : zM) : Option (Int32 × zM) :=
  (if p1 = (0 : Int32) then f_X8_plan_L47 p1 p2 s0 u else (if s0 = (0 : Int32) then (if p1 = (3 : Int32) then f_X8_plan_L47 p1 p2 s0 u else some ((-1 : Int32), u)) else f_X8_plan_L47 p1 p2 s0 u))
def f_X8_plan (p1 : Int32) (p2 : Int32) (u : zM) : Option (Int32 × zM) :=
  (if p1 = (-1 : Int32) then zb (f_X3_empty 17 10 u) fun y9 u10 => some (y9, u10) else (if p1 = (1 : Int32) then f_X8_plan_L31 p1 p2 (1 : Int32) u else (if p1 = (2 : Int32) then f_X8_plan_L31 p1 p2 (1 : Int32) u else f_X8_plan_L31 p1 p2 (0 : Int32) u)))
set_option maxRecDepth 20000 in
theorem go_X8_plan_L80 {p : Program} {l : Launch} {e : Env} {s : State} {m : MethodId} {args : Array Value} {below : List Frame} {meth : Method} {c : Code} {as : Nat → Nat} {dA : Nat → ClassId} {D : va_G} {d : Nat} {p1 : Int32} {p2 : Int32} (C : zCx p s m args meth c as dA D SHX d 4 yX8_plan.cls cX8_plan ((some FieldType.int))) (hd : 3 ≤ d) : ∀ (u : zM), Go p l e s m args below meth c as dA D SHX d 4 zQi 80 [(0, .ref 0), (1, .int p1), (2, .int p2)] [] u (f_X8_plan_L80 p1 p2 u) := by
  intro u
  unfold f_X8_plan_L80
  refine G_aload_n C 0 dX8_plan_80 rfl rfl ?_
  refine G_getR (j := 1) C 0 shX_0 rfl rfl (by decide) wf8_12 dX8_plan_81 ?_
  refine G_getR (j := 17) C 2 zWh_1.1 rfl rfl (by decide) wf8_230 dX8_plan_84 ?_
  refine G_callVi C (m_X3_isFull zSn_17 u (d - 1) (by omega)) (d' := d - 1) (As := []) (by omega) rfl wm8_208 wwX3_isFull zSn_17.1 rfl (Nat.le_of_ble_eq_true rfl) dX8_plan_87 (fun y1 u2 => ?_)
  refine G_if_eq (tgt := 98) C dX8_plan_90 (by decide) (fun _ => ?_) (fun _ => ?_)
  · refine G_aload_n C 0 dX8_plan_98 rfl rfl ?_
    refine G_getR (j := 1) C 0 shX_0 rfl rfl (by decide) wf8_12 dX8_plan_99 ?_
    refine G_getR (j := 17) C 2 zWh_1.1 rfl rfl (by decide) wf8_230 dX8_plan_102 ?_
    refine G_iload_n C 1 dX8_plan_105 rfl rfl ?_
    refine G_iload_n C 2 dX8_plan_106 rfl rfl ?_
    refine G_iconst (v := 0) C dX8_plan_107 (by decide) ?_
    refine G_callVi C (m_X3_add zSn_17 p1 p2 (0 : Int32) u2 (d - 1) (by omega)) (d' := d - 1) (As := [.int p1, .int p2, .int (0 : Int32)]) (by omega) rfl wm8_212 wwX3_add zSn_17.1 rfl (Nat.le_of_ble_eq_true rfl) dX8_plan_108 (fun y3 u4 => ?_)
    exact G_iret C dX8_plan_111
  · refine G_bipush (v := -4) C dX8_plan_93 (by decide) ?_
    refine G_goto (tgt := 111) C dX8_plan_95 (by decide) ?_
    exact G_iret C dX8_plan_111
set_option maxRecDepth 20000 in
theorem go_X8_plan_L62 {p : Program} {l : Launch} {e : Env} {s : State} {m : MethodId} {args : Array Value} {below : List Frame} {meth : Method} {c : Code} {as : Nat → Nat} {dA : Nat → ClassId} {D : va_G} {d : Nat} {p1 : Int32} {p2 : Int32} (C : zCx p s m args meth c as dA D SHX d 4 yX8_plan.cls cX8_plan ((some FieldType.int))) (hd : 3 ≤ d) : ∀ (u : zM), Go p l e s m args below meth c as dA D SHX d 4 zQi 62 [(0, .ref 0), (1, .int p1), (2, .int p2)] [] u (f_X8_plan_L62 p1 p2 u) := by
  intro u
  unfold f_X8_plan_L62
  refine G_iload_n C 1 dX8_plan_62 rfl rfl ?_
  refine G_iconst (v := 3) C dX8_plan_63 (by decide) ?_
  refine G_icmp_ne (tgt := 80) C dX8_plan_64 (by decide) (fun _ => ?_) (fun _ => ?_)
  · refine G_locals [0, 1, 2] rfl ?_
    exact go_X8_plan_L80 C hd u
  · refine G_aload_n C 0 dX8_plan_67 rfl rfl ?_
    refine G_getR (j := 2) C 3 shX_0 rfl rfl (by decide) wf8_25 dX8_plan_68 ?_
    refine G_iload_n C 2 dX8_plan_71 rfl rfl ?_
    refine G_callVi C (m_X6_hasWork zTn_2 p2 u (d - 1) (by omega)) (d' := d - 1) (As := [.int p2]) (by omega) rfl wm8_117 wwX6_hasWork zTn_2.1 rfl (Nat.le_of_ble_eq_true rfl) dX8_plan_72 (fun y5 u6 => ?_)
    refine G_if_ne (tgt := 80) C dX8_plan_75 (by decide) (fun _ => ?_) (fun _ => ?_)
    · refine G_locals [0, 1, 2] rfl ?_
      exact go_X8_plan_L80 C hd u6
    · refine G_iconst (v := -1) C dX8_plan_78 (by decide) ?_
      exact G_iret C dX8_plan_79
set_option maxRecDepth 20000 in
theorem go_X8_plan_L47 {p : Program} {l : Launch} {e : Env} {s : State} {m : MethodId} {args : Array Value} {below : List Frame} {meth : Method} {c : Code} {as : Nat → Nat} {dA : Nat → ClassId} {D : va_G} {d : Nat} {p1 : Int32} {p2 : Int32} (C : zCx p s m args meth c as dA D SHX d 4 yX8_plan.cls cX8_plan ((some FieldType.int))) (hd : 3 ≤ d) : ∀ (x3 : Int32) (u : zM), Go p l e s m args below meth c as dA D SHX d 4 zQi 47 [(0, .ref 0), (1, .int p1), (2, .int p2), (3, .int x3)] [] u (f_X8_plan_L47 p1 p2 x3 u) := by
  intro x3 u
  unfold f_X8_plan_L47
  refine G_iload_n C 3 dX8_plan_47 rfl rfl ?_
  refine G_if_eq (tgt := 62) C dX8_plan_48 (by decide) (fun _ => ?_) (fun _ => ?_)
  · refine G_locals [0, 1, 2] rfl ?_
    exact go_X8_plan_L62 C hd u
  · refine G_aload_n C 0 dX8_plan_51 rfl rfl ?_
    refine G_getR (j := 2) C 3 shX_0 rfl rfl (by decide) wf8_25 dX8_plan_52 ?_
    refine G_iload_n C 2 dX8_plan_55 rfl rfl ?_
    refine G_callVi C (m_X6_hasOne zTn_2 p2 u (d - 1) (by omega)) (d' := d - 1) (As := [.int p2]) (by omega) rfl wm8_81 wwX6_hasOne zTn_2.1 rfl (Nat.le_of_ble_eq_true rfl) dX8_plan_56 (fun y7 u8 => ?_)
    refine G_if_eq (tgt := 78) C dX8_plan_59 (by decide) (fun _ => ?_) (fun _ => ?_)
    · refine G_iconst (v := -1) C dX8_plan_78 (by decide) ?_
      exact G_iret C dX8_plan_79
    · refine G_locals [0, 1, 2] rfl ?_
      exact go_X8_plan_L62 C hd u8
set_option maxRecDepth 20000 in
theorem go_X8_plan_L31 {p : Program} {l : Launch} {e : Env} {s : State} {m : MethodId} {args : Array Value} {below : List Frame} {meth : Method} {c : Code} {as : Nat → Nat} {dA : Nat → ClassId} {D : va_G} {d : Nat} {p1 : Int32} {p2 : Int32} (C : zCx p s m args meth c as dA D SHX d 4 yX8_plan.cls cX8_plan ((some FieldType.int))) (hd : 3 ≤ d) : ∀ (s0 : Int32) (u : zM), Go p l e s m args below meth c as dA D SHX d 4 zQi 31 [(0, .ref 0), (1, .int p1), (2, .int p2)] [.int s0] u (f_X8_plan_L31 p1 p2 s0 u) := by
  intro s0 u
  unfold f_X8_plan_L31
  refine G_istore_n (L' := [(3, .int s0), (0, .ref 0), (1, .int p1), (2, .int p2)]) C dX8_plan_31 rfl (by decide) rfl ?_
  refine G_iload_n C 2 dX8_plan_32 rfl rfl ?_
  refine G_if_eq (tgt := 47) C dX8_plan_33 (by decide) (fun _ => ?_) (fun _ => ?_)
  · refine G_locals [1, 2, 3, 0] rfl ?_
    exact go_X8_plan_L47 C hd s0 u
  · refine G_iload_n C 0 dX8_plan_36 rfl rfl ?_
    refine G_if_ne (tgt := 47) C dX8_plan_37 (by decide) (fun _ => ?_) (fun _ => ?_)
    · refine G_locals [1, 2, 3, 0] rfl ?_
      exact go_X8_plan_L47 C hd s0 u
    · refine G_iload_n C 2 dX8_plan_40 rfl rfl ?_
      refine G_iconst (v := 3) C dX8_plan_41 (by decide) ?_
      refine G_icmp_eq (tgt := 47) C dX8_plan_42 (by decide) (fun _ => ?_) (fun _ => ?_)
      · refine G_locals [1, 2, 3, 0] rfl ?_
        exact go_X8_plan_L47 C hd s0 u
      · refine G_iconst (v := -1) C dX8_plan_45 (by decide) ?_
        exact G_iret C dX8_plan_46
set_option maxRecDepth 20000 in
theorem go_X8_plan {p : Program} {l : Launch} {e : Env} {s : State} {m : MethodId} {args : Array Value} {below : List Frame} {meth : Method} {c : Code} {as : Nat → Nat} {dA : Nat → ClassId} {D : va_G} {d : Nat} {p1 : Int32} {p2 : Int32} (C : zCx p s m args meth c as dA D SHX d 4 yX8_plan.cls cX8_plan ((some FieldType.int))) (hd : 3 ≤ d) : ∀ (u : zM), Go p l e s m args below meth c as dA D SHX d 4 zQi 0 [(0, .ref 0), (1, .int p1), (2, .int p2)] [] u (f_X8_plan p1 p2 u) := by
  intro u
  unfold f_X8_plan
  refine G_iload_n C 1 dX8_plan_0 rfl rfl ?_
  refine G_iconst (v := -1) C dX8_plan_1 (by decide) ?_
  refine G_icmp_ne (tgt := 16) C dX8_plan_2 (by decide) (fun _ => ?_) (fun _ => ?_)
  · refine G_iload_n C 1 dX8_plan_16 rfl rfl ?_
    refine G_iconst (v := 1) C dX8_plan_17 (by decide) ?_
    refine G_icmp_eq (tgt := 26) C dX8_plan_18 (by decide) (fun _ => ?_) (fun _ => ?_)
    · refine G_iconst (v := 1) C dX8_plan_26 (by decide) ?_
      refine G_goto (tgt := 31) C dX8_plan_27 (by decide) ?_
      refine G_locals [0, 1, 2] rfl ?_
      exact go_X8_plan_L31 C hd  (1 : Int32) u
    · refine G_iload_n C 1 dX8_plan_21 rfl rfl ?_
      refine G_iconst (v := 2) C dX8_plan_22 (by decide) ?_
      refine G_icmp_ne (tgt := 30) C dX8_plan_23 (by decide) (fun _ => ?_) (fun _ => ?_)
      · refine G_iconst (v := 0) C dX8_plan_30 (by decide) ?_
        refine G_locals [0, 1, 2] rfl ?_
        exact go_X8_plan_L31 C hd  (0 : Int32) u
      · refine G_iconst (v := 1) C dX8_plan_26 (by decide) ?_
        refine G_goto (tgt := 31) C dX8_plan_27 (by decide) ?_
        refine G_locals [0, 1, 2] rfl ?_
        exact go_X8_plan_L31 C hd  (1 : Int32) u
  · refine G_aload_n C 0 dX8_plan_5 rfl rfl ?_
    refine G_getR (j := 1) C 0 shX_0 rfl rfl (by decide) wf8_12 dX8_plan_6 ?_
    refine G_getR (j := 17) C 2 zWh_1.1 rfl rfl (by decide) wf8_230 dX8_plan_9 ?_
    refine G_callVi C (m_X3_empty zSn_17 u (d - 1) (by omega)) (d' := d - 1) (As := []) (by omega) rfl wm8_204 wwX3_empty zSn_17.1 rfl (Nat.le_of_ble_eq_true rfl) dX8_plan_12 (fun y9 u10 => ?_)
    exact G_iret C dX8_plan_15
theorem m_X8_plan   (p1 : Int32) (p2 : Int32) (u : zM) (d : Nat) (hd : 3 ≤ d) : zMet zQi SHX yX8_plan cX8_plan 4 ((some FieldType.int)) d [.ref 0, .int p1, .int p2] u (f_X8_plan p1 p2 u) :=
  zMet_of (by decide +kernel) (fun as => Nat.le_of_ble_eq_true rfl) wwX8_plan.2.2.2.1 (by omega) (fun p l e s m args below meth c as dA D C => go_X8_plan C hd u)
/-! public int ends(int) -/
def f_X8_ends (p1 : Int32) (u : zM) : Option (Int32 × zM) :=
  zb (f_X8_isWithin p1 (0 : Int32) (1 : Int32) u) fun y1 u2 => (if y1 = (0 : Int32) then some ((-1 : Int32), u2) else zb (f_X1_behindPlan u2) fun y3 u4 => zck (isT y3) <| (if p1 = (0 : Int32) then zb (f_X6_heatOfAll y3 u4) fun y8 u9 => some (y8, u9) else zb (f_X6_doneBits y3 u4) fun y6 u7 => some (y6, u7)))
set_option maxRecDepth 20000 in
theorem go_X8_ends {p : Program} {l : Launch} {e : Env} {s : State} {m : MethodId} {args : Array Value} {below : List Frame} {meth : Method} {c : Code} {as : Nat → Nat} {dA : Nat → ClassId} {D : va_G} {d : Nat} {p1 : Int32} (C : zCx p s m args meth c as dA D SHX d 3 yX8_ends.cls cX8_ends ((some FieldType.int))) (hd : 7 ≤ d) : ∀ (u : zM), Go p l e s m args below meth c as dA D SHX d 3 zQi 0 [(0, .ref 0), (1, .int p1)] [] u (f_X8_ends p1 u) := by
  intro u
  unfold f_X8_ends
  refine G_iload_n C 1 dX8_ends_0 rfl rfl ?_
  refine G_iconst (v := 0) C dX8_ends_1 (by decide) ?_
  refine G_iconst (v := 1) C dX8_ends_2 (by decide) ?_
  refine G_callSi C (m_X8_isWithin p1 (0 : Int32) (1 : Int32) u (d - 1) (by omega)) (d' := d - 1) (As := [.int p1, .int (0 : Int32), .int (1 : Int32)]) (by omega) rfl wm8_67 wwX8_isWithin (Nat.le_of_ble_eq_true rfl) dX8_ends_3 (fun y1 u2 => ?_)
  refine G_if_ne (tgt := 11) C dX8_ends_6 (by decide) (fun _ => ?_) (fun _ => ?_)
  · refine G_aload_n C 0 dX8_ends_11 rfl rfl ?_
    refine G_getR (j := 49) C 4 shX_0 rfl rfl (by decide) wf8_35 dX8_ends_12 ?_
    refine G_aload_n C 0 dX8_ends_15 rfl rfl ?_
    refine G_getR (j := 1) C 0 shX_0 rfl rfl (by decide) wf8_12 dX8_ends_16 ?_
    refine G_getR (j := 17) C 2 zWh_1.1 rfl rfl (by decide) wf8_230 dX8_ends_19 ?_
    refine G_callVr C (m_X1_behindPlan u2 (d - 1) (by omega)) (d' := d - 1) (As := [.ref 17]) (by omega) rfl wm8_233 wwX1_behindPlan shX_49 rfl (Nat.le_of_ble_eq_true rfl) dX8_ends_22 (fun y3 u4 => ?_)
    refine G_ck (fun hr5 => ?_)
    refine G_astore_n (L' := [(2, .ref y3), (0, .ref 0), (1, .int p1)]) C dX8_ends_25 rfl (by decide) rfl ?_
    refine G_iload_n C 2 dX8_ends_26 rfl rfl ?_
    refine G_if_ne (tgt := 37) C dX8_ends_27 (by decide) (fun _ => ?_) (fun _ => ?_)
    · refine G_aload_n C 0 dX8_ends_37 rfl rfl ?_
      refine G_callVi C (m_X6_doneBits (isT_sh hr5) u4 (d - 1) (by omega)) (d' := d - 1) (As := []) (by omega) rfl wm8_175 wwX6_doneBits (isT_sh hr5).1 rfl (Nat.le_of_ble_eq_true rfl) dX8_ends_38 (fun y6 u7 => ?_)
      exact G_iret C dX8_ends_41
    · refine G_aload_n C 0 dX8_ends_30 rfl rfl ?_
      refine G_callVi C (m_X6_heatOfAll (isT_sh hr5) u4 (d - 1) (by omega)) (d' := d - 1) (As := []) (by omega) rfl wm8_181 wwX6_heatOfAll (isT_sh hr5).1 rfl (Nat.le_of_ble_eq_true rfl) dX8_ends_31 (fun y8 u9 => ?_)
      refine G_goto (tgt := 41) C dX8_ends_34 (by decide) ?_
      exact G_iret C dX8_ends_41
  · refine G_iconst (v := -1) C dX8_ends_9 (by decide) ?_
    exact G_iret C dX8_ends_10
theorem m_X8_ends   (p1 : Int32) (u : zM) (d : Nat) (hd : 7 ≤ d) : zMet zQi SHX yX8_ends cX8_ends 3 ((some FieldType.int)) d [.ref 0, .int p1] u (f_X8_ends p1 u) :=
  zMet_of (by decide +kernel) (fun as => Nat.le_of_ble_eq_true rfl) wwX8_ends.2.2.2.1 (by omega) (fun p l e s m args below meth c as dA D C => go_X8_ends C hd u)
/-! public int book(int, int) -/
def f_X8_book (p1 : Int32) (p2 : Int32) (u : zM) : Option (Int32 × zM) :=
  (if p1 = (-1 : Int32) then zb (f_X3_empty 21 8 u) fun y9 u10 => some (y9, u10) else zb (f_X6_hasOne 2 p1 u) fun y1 u2 => (if y1 = (0 : Int32) then some ((-1 : Int32), u2) else zb (f_X8_isWithin p2 (0 : Int32) (99 : Int32) u2) fun y3 u4 => (if y3 = (0 : Int32) then some ((-2 : Int32), u4) else zb (f_X3_isFull 21 8 u4) fun y5 u6 => (if y5 = (0 : Int32) then zb (f_X3_add 21 8 p1 p2 (0 : Int32) u6) fun y7 u8 => some (y7, u8) else some ((-4 : Int32), u6)))))
set_option maxRecDepth 20000 in
theorem go_X8_book {p : Program} {l : Launch} {e : Env} {s : State} {m : MethodId} {args : Array Value} {below : List Frame} {meth : Method} {c : Code} {as : Nat → Nat} {dA : Nat → ClassId} {D : va_G} {d : Nat} {p1 : Int32} {p2 : Int32} (C : zCx p s m args meth c as dA D SHX d 3 yX8_book.cls cX8_book ((some FieldType.int))) (hd : 3 ≤ d) : ∀ (u : zM), Go p l e s m args below meth c as dA D SHX d 3 zQi 0 [(0, .ref 0), (1, .int p1), (2, .int p2)] [] u (f_X8_book p1 p2 u) := by
  intro u
  unfold f_X8_book
  refine G_iload_n C 1 dX8_book_0 rfl rfl ?_
  refine G_iconst (v := -1) C dX8_book_1 (by decide) ?_
  refine G_icmp_ne (tgt := 16) C dX8_book_2 (by decide) (fun _ => ?_) (fun _ => ?_)
  · refine G_aload_n C 0 dX8_book_16 rfl rfl ?_
    refine G_getR (j := 2) C 3 shX_0 rfl rfl (by decide) wf8_25 dX8_book_17 ?_
    refine G_iload_n C 1 dX8_book_20 rfl rfl ?_
    refine G_callVi C (m_X6_hasOne zTn_2 p1 u (d - 1) (by omega)) (d' := d - 1) (As := [.int p1]) (by omega) rfl wm8_81 wwX6_hasOne zTn_2.1 rfl (Nat.le_of_ble_eq_true rfl) dX8_book_21 (fun y1 u2 => ?_)
    refine G_if_ne (tgt := 29) C dX8_book_24 (by decide) (fun _ => ?_) (fun _ => ?_)
    · refine G_iload_n C 2 dX8_book_29 rfl rfl ?_
      refine G_iconst (v := 0) C dX8_book_30 (by decide) ?_
      refine G_bipush (v := 99) C dX8_book_31 (by decide) ?_
      refine G_callSi C (m_X8_isWithin p2 (0 : Int32) (99 : Int32) u2 (d - 1) (by omega)) (d' := d - 1) (As := [.int p2, .int (0 : Int32), .int (99 : Int32)]) (by omega) rfl wm8_67 wwX8_isWithin (Nat.le_of_ble_eq_true rfl) dX8_book_33 (fun y3 u4 => ?_)
      refine G_if_ne (tgt := 42) C dX8_book_36 (by decide) (fun _ => ?_) (fun _ => ?_)
      · refine G_aload_n C 0 dX8_book_42 rfl rfl ?_
        refine G_getR (j := 1) C 0 shX_0 rfl rfl (by decide) wf8_12 dX8_book_43 ?_
        refine G_getR (j := 21) C 3 zWh_1.1 rfl rfl (by decide) wf8_237 dX8_book_46 ?_
        refine G_callVi C (m_X3_isFull zSn_21 u4 (d - 1) (by omega)) (d' := d - 1) (As := []) (by omega) rfl wm8_208 wwX3_isFull zSn_21.1 rfl (Nat.le_of_ble_eq_true rfl) dX8_book_49 (fun y5 u6 => ?_)
        refine G_if_eq (tgt := 60) C dX8_book_52 (by decide) (fun _ => ?_) (fun _ => ?_)
        · refine G_aload_n C 0 dX8_book_60 rfl rfl ?_
          refine G_getR (j := 1) C 0 shX_0 rfl rfl (by decide) wf8_12 dX8_book_61 ?_
          refine G_getR (j := 21) C 3 zWh_1.1 rfl rfl (by decide) wf8_237 dX8_book_64 ?_
          refine G_iload_n C 1 dX8_book_67 rfl rfl ?_
          refine G_iload_n C 2 dX8_book_68 rfl rfl ?_
          refine G_iconst (v := 0) C dX8_book_69 (by decide) ?_
          refine G_callVi C (m_X3_add zSn_21 p1 p2 (0 : Int32) u6 (d - 1) (by omega)) (d' := d - 1) (As := [.int p1, .int p2, .int (0 : Int32)]) (by omega) rfl wm8_212 wwX3_add zSn_21.1 rfl (Nat.le_of_ble_eq_true rfl) dX8_book_70 (fun y7 u8 => ?_)
          exact G_iret C dX8_book_73
        · refine G_bipush (v := -4) C dX8_book_55 (by decide) ?_
          refine G_goto (tgt := 73) C dX8_book_57 (by decide) ?_
          exact G_iret C dX8_book_73
      · refine G_bipush (v := -2) C dX8_book_39 (by decide) ?_
        exact G_iret C dX8_book_41
    · refine G_iconst (v := -1) C dX8_book_27 (by decide) ?_
      exact G_iret C dX8_book_28
  · refine G_aload_n C 0 dX8_book_5 rfl rfl ?_
    refine G_getR (j := 1) C 0 shX_0 rfl rfl (by decide) wf8_12 dX8_book_6 ?_
    refine G_getR (j := 21) C 3 zWh_1.1 rfl rfl (by decide) wf8_237 dX8_book_9 ?_
    refine G_callVi C (m_X3_empty zSn_21 u (d - 1) (by omega)) (d' := d - 1) (As := []) (by omega) rfl wm8_204 wwX3_empty zSn_21.1 rfl (Nat.le_of_ble_eq_true rfl) dX8_book_12 (fun y9 u10 => ?_)
    exact G_iret C dX8_book_15
theorem m_X8_book   (p1 : Int32) (p2 : Int32) (u : zM) (d : Nat) (hd : 3 ≤ d) : zMet zQi SHX yX8_book cX8_book 3 ((some FieldType.int)) d [.ref 0, .int p1, .int p2] u (f_X8_book p1 p2 u) :=
  zMet_of (by decide +kernel) (fun as => Nat.le_of_ble_eq_true rfl) wwX8_book.2.2.2.1 (by omega) (fun p l e s m args below meth c as dA D C => go_X8_book C hd u)
/-! public int looked() -/
def f_X8_looked_L10_b  (rc : Int32 → zM → Option (Int32 × zM)) (x2 : Int32) (u : zM) : Option (Int32 × zM) :=
  (if (gI u 21 3) ≤ x2 then some ((-5 : Int32), u) else zck (inB x2 8) <| zlx (gI u 22 x2.toNatClampNeg) fun v2 => zb (f_X6_hasOne 2 v2 u) fun y3 u4 => (if y3 = (0 : Int32) then rc (x2 + (1 : Int32)) u4 else zck (inB v2 6) <| zck (inB x2 8) <| (if (gI u4 5 v2.toNatClampNeg) = (gI u4 23 x2.toNatClampNeg) then rc (x2 + (1 : Int32)) u4 else some (x2, u4))))
def f_X8_looked_L10  : Nat → Int32 → zM → Option (Int32 × zM)
  | 0 => fun _ _ => none
  | fn + 1 => f_X8_looked_L10_b  (f_X8_looked_L10  fn)
def f_X8_looked (u : zM) : Option (Int32 × zM) :=
  f_X8_looked_L10 400 (0 : Int32) u
set_option maxRecDepth 20000 in
theorem go_X8_looked_L10 {p : Program} {l : Launch} {e : Env} {s : State} {m : MethodId} {args : Array Value} {below : List Frame} {meth : Method} {c : Code} {as : Nat → Nat} {dA : Nat → ClassId} {D : va_G} {d : Nat}  (C : zCx p s m args meth c as dA D SHX d 4 yX8_looked.cls cX8_looked ((some FieldType.int))) (hd : 2 ≤ d) : ∀ (fn : Nat) (x2 : Int32) (u : zM), Go p l e s m args below meth c as dA D SHX d 4 zQi 10 [(0, .ref 0), (1, .ref 21), (2, .int x2)] [] u (f_X8_looked_L10 fn x2 u) := by
  intro fn
  induction fn with
  | zero => intro x2 u; exact G_none
  | succ fn ih =>
    intro x2 u
    show Go p l e s m args below meth c as dA D SHX d 4 zQi 10 [(0, .ref 0), (1, .ref 21), (2, .int x2)] [] u (f_X8_looked_L10_b  (f_X8_looked_L10  fn) x2 u)
    unfold f_X8_looked_L10_b
    refine G_iload_n C 2 dX8_looked_10 rfl rfl ?_
    refine G_aload_n C 1 dX8_looked_11 rfl rfl ?_
    refine G_getI C 3 zSn_21.1 rfl rfl (by decide) wf8_240 dX8_looked_12 ?_
    refine G_icmp_ge (tgt := 62) C dX8_looked_15 (by decide) (fun _ => ?_) (fun _ => ?_)
    · refine G_bipush (v := -5) C dX8_looked_62 (by decide) ?_
      exact G_iret C dX8_looked_64
    · refine G_aload_n C 1 dX8_looked_18 rfl rfl ?_
      refine G_getR (j := 22) C 0 zSn_21.1 rfl rfl (by decide) wf8_241 dX8_looked_19 ?_
      refine G_iload_n C 2 dX8_looked_22 rfl rfl ?_
      refine G_iald C zSn_21.2.1 dX8_looked_23 (fun hb1 => ?_)
      refine G_topi (fun v2 => ?_)
      refine G_istore_n (L' := [(3, .int v2), (0, .ref 0), (1, .ref 21), (2, .int x2)]) C dX8_looked_24 rfl (by decide) rfl ?_
      refine G_aload_n C 1 dX8_looked_25 rfl rfl ?_
      refine G_getR (j := 2) C 3 shX_0 rfl rfl (by decide) wf8_25 dX8_looked_26 ?_
      refine G_iload_n C 0 dX8_looked_29 rfl rfl ?_
      refine G_callVi C (m_X6_hasOne zTn_2 v2 u (d - 1) (by omega)) (d' := d - 1) (As := [.int v2]) (by omega) rfl wm8_81 wwX6_hasOne zTn_2.1 rfl (Nat.le_of_ble_eq_true rfl) dX8_looked_30 (fun y3 u4 => ?_)
      refine G_if_eq (tgt := 56) C dX8_looked_33 (by decide) (fun _ => ?_) (fun _ => ?_)
      · refine G_iinc (v := 1) (L' := [(2, .int (x2 + (1 : Int32))), (3, .int v2), (0, .ref 0), (1, .ref 21)]) C 3 dX8_looked_56 rfl (by decide) (by decide) rfl ?_
        refine G_goto (tgt := 10) C dX8_looked_59 (by decide) ?_
        refine G_locals [2, 3, 0] rfl ?_
        exact ih (x2 + (1 : Int32)) u4
      · refine G_aload_n C 1 dX8_looked_36 rfl rfl ?_
        refine G_getR (j := 2) C 3 shX_0 rfl rfl (by decide) wf8_25 dX8_looked_37 ?_
        refine G_getR (j := 5) C 3 zTn_2.1 rfl rfl (by decide) wf8_92 dX8_looked_40 ?_
        refine G_iload_n C 0 dX8_looked_43 rfl rfl ?_
        refine G_iald C zTn_2.2.2.2.1 dX8_looked_44 (fun hb5 => ?_)
        refine G_aload_n C 2 dX8_looked_45 rfl rfl ?_
        refine G_getR (j := 23) C 1 zSn_21.1 rfl rfl (by decide) wf8_244 dX8_looked_46 ?_
        refine G_iload_n C 3 dX8_looked_49 rfl rfl ?_
        refine G_iald C zSn_21.2.2.1 dX8_looked_50 (fun hb6 => ?_)
        refine G_icmp_eq (tgt := 56) C dX8_looked_51 (by decide) (fun _ => ?_) (fun _ => ?_)
        · refine G_iinc (v := 1) (L' := [(2, .int (x2 + (1 : Int32))), (3, .int v2), (0, .ref 0), (1, .ref 21)]) C 3 dX8_looked_56 rfl (by decide) (by decide) rfl ?_
          refine G_goto (tgt := 10) C dX8_looked_59 (by decide) ?_
          refine G_locals [2, 3, 0] rfl ?_
          exact ih (x2 + (1 : Int32)) u4
        · refine G_iload_n C 3 dX8_looked_54 rfl rfl ?_
          exact G_iret C dX8_looked_55
set_option maxRecDepth 20000 in
theorem go_X8_looked {p : Program} {l : Launch} {e : Env} {s : State} {m : MethodId} {args : Array Value} {below : List Frame} {meth : Method} {c : Code} {as : Nat → Nat} {dA : Nat → ClassId} {D : va_G} {d : Nat}  (C : zCx p s m args meth c as dA D SHX d 4 yX8_looked.cls cX8_looked ((some FieldType.int))) (hd : 2 ≤ d) : ∀ (u : zM), Go p l e s m args below meth c as dA D SHX d 4 zQi 0 [(0, .ref 0)] [] u (f_X8_looked  u) := by
  intro u
  unfold f_X8_looked
  refine G_aload_n C 0 dX8_looked_0 rfl rfl ?_
  refine G_getR (j := 1) C 0 shX_0 rfl rfl (by decide) wf8_12 dX8_looked_1 ?_
  refine G_getR (j := 21) C 3 zWh_1.1 rfl rfl (by decide) wf8_237 dX8_looked_4 ?_
  refine G_astore_n (L' := [(1, .ref 21), (0, .ref 0)]) C dX8_looked_7 rfl (by decide) rfl ?_
  refine G_iconst (v := 0) C dX8_looked_8 (by decide) ?_
  refine G_istore_n (L' := [(2, .int (0 : Int32)), (1, .ref 21), (0, .ref 0)]) C dX8_looked_9 rfl (by decide) rfl ?_
  refine G_locals [2, 1, 0] rfl ?_
  exact go_X8_looked_L10 C hd 400 (0 : Int32) u
theorem m_X8_looked    (u : zM) (d : Nat) (hd : 2 ≤ d) : zMet zQi SHX yX8_looked cX8_looked 4 ((some FieldType.int)) d [.ref 0] u (f_X8_looked  u) :=
  zMet_of (by decide +kernel) (fun as => Nat.le_of_ble_eq_true rfl) wwX8_looked.2.2.2.1 (by omega) (fun p l e s m args below meth c as dA D C => go_X8_looked C hd u)
/-! public int judge(int, int) -/
def f_X8_judge_L41_b (p1 : Int32) (p2 : Int32) (rc : Int32 → zM → Option (Int32 × zM)) (x3 : Int32) (u : zM) : Option (Int32 × zM) :=
  (if (gI u 2 0) ≤ x3 then some ((-5 : Int32), u) else zb (f_X5_holds p1 u) fun y5 u6 => (if y5 = (0 : Int32) then some (((100 : Int32) + x3), u6) else (if p2 < (0 : Int32) then some (((100 : Int32) + x3), u6) else zck (inB p1 6) <| (if p2 < ((gI u6 70 p1.toNatClampNeg) - x3) then zck (inB p1 6) <| zck (inB (p2 + x3) 60) <| zck (inB x3 6) <| (if (lg_cmp (gJ u6 (72 + 1 * p1.toNatClampNeg) (p2 + x3).toNatClampNeg) ((gI u6 5 x3.toNatClampNeg).toInt64)) = (0 : Int32) then rc (x3 + (1 : Int32)) u6 else some (x3, u6)) else some (((100 : Int32) + x3), u6)))))
def f_X8_judge_L41 (p1 : Int32) (p2 : Int32) : Nat → Int32 → zM → Option (Int32 × zM)
  | 0 => fun _ _ => none
  | fn + 1 => f_X8_judge_L41_b p1 p2 (f_X8_judge_L41 p1 p2 fn)
def f_X8_judge (p1 : Int32) (p2 : Int32) (u : zM) : Option (Int32 × zM) :=
  zb (f_X5_has p1 u) fun y1 u2 => (if y1 = (0 : Int32) then some ((-1 : Int32), u2) else zb (f_X5_holds p1 u2) fun y3 u4 => (if y3 = (0 : Int32) then f_X8_judge_L41 p1 p2 400 (0 : Int32) u4 else zck (inB p1 6) <| (if (gI u4 69 p1.toNatClampNeg) = (0 : Int32) then f_X8_judge_L41 p1 p2 400 (0 : Int32) u4 else some ((-12 : Int32), u4))))
set_option maxRecDepth 20000 in
theorem go_X8_judge_L41 {p : Program} {l : Launch} {e : Env} {s : State} {m : MethodId} {args : Array Value} {below : List Frame} {meth : Method} {c : Code} {as : Nat → Nat} {dA : Nat → ClassId} {D : va_G} {d : Nat} {p1 : Int32} {p2 : Int32} (C : zCx p s m args meth c as dA D SHX d 4 yX8_judge.cls cX8_judge ((some FieldType.int))) (hd : 2 ≤ d) : ∀ (fn : Nat) (x3 : Int32) (u : zM), Go p l e s m args below meth c as dA D SHX d 4 zQi 41 [(0, .ref 0), (1, .int p1), (2, .int p2), (3, .int x3)] [] u (f_X8_judge_L41 p1 p2 fn x3 u) := by
  intro fn
  induction fn with
  | zero => intro x3 u; exact G_none
  | succ fn ih =>
    intro x3 u
    show Go p l e s m args below meth c as dA D SHX d 4 zQi 41 [(0, .ref 0), (1, .int p1), (2, .int p2), (3, .int x3)] [] u (f_X8_judge_L41_b p1 p2 (f_X8_judge_L41 p1 p2 fn) x3 u)
    unfold f_X8_judge_L41_b
    refine G_iload_n C 3 dX8_judge_41 rfl rfl ?_
    refine G_aload_n C 0 dX8_judge_42 rfl rfl ?_
    refine G_getR (j := 2) C 3 shX_0 rfl rfl (by decide) wf8_25 dX8_judge_43 ?_
    refine G_getI C 0 zTn_2.1 rfl rfl (by decide) wf8_71 dX8_judge_46 ?_
    refine G_icmp_ge (tgt := 122) C dX8_judge_49 (by decide) (fun _ => ?_) (fun _ => ?_)
    · refine G_bipush (v := -5) C dX8_judge_122 (by decide) ?_
      exact G_iret C dX8_judge_124
    · refine G_aload_n C 0 dX8_judge_52 rfl rfl ?_
      refine G_getR (j := 68) C 9 shX_0 rfl rfl (by decide) wf8_62 dX8_judge_53 ?_
      refine G_iload_n C 1 dX8_judge_56 rfl rfl ?_
      refine G_callVi C (m_X5_holds p1 u (d - 1) (by omega)) (d' := d - 1) (As := [.int p1]) (by omega) rfl wm8_250 wwX5_holds shX_68 rfl (Nat.le_of_ble_eq_true rfl) dX8_judge_57 (fun y5 u6 => ?_)
      refine G_if_eq (tgt := 82) C dX8_judge_60 (by decide) (fun _ => ?_) (fun _ => ?_)
      · refine G_bipush (v := 100) C dX8_judge_82 (by decide) ?_
        refine G_iload_n C 3 dX8_judge_84 rfl rfl ?_
        refine G_iadd C dX8_judge_85 ?_
        exact G_iret C dX8_judge_86
      · refine G_iload_n C 2 dX8_judge_63 rfl rfl ?_
        refine G_if_lt (tgt := 82) C dX8_judge_64 (by decide) (fun _ => ?_) (fun _ => ?_)
        · refine G_bipush (v := 100) C dX8_judge_82 (by decide) ?_
          refine G_iload_n C 3 dX8_judge_84 rfl rfl ?_
          refine G_iadd C dX8_judge_85 ?_
          exact G_iret C dX8_judge_86
        · refine G_iload_n C 2 dX8_judge_67 rfl rfl ?_
          refine G_aload_n C 0 dX8_judge_68 rfl rfl ?_
          refine G_getR (j := 68) C 9 shX_0 rfl rfl (by decide) wf8_62 dX8_judge_69 ?_
          refine G_getR (j := 70) C 1 shX_68 rfl rfl (by decide) wf8_256 dX8_judge_72 ?_
          refine G_iload_n C 1 dX8_judge_75 rfl rfl ?_
          refine G_iald C shX_70 dX8_judge_76 (fun hb7 => ?_)
          refine G_iload_n C 3 dX8_judge_77 rfl rfl ?_
          refine G_isub C dX8_judge_78 ?_
          refine G_icmp_lt (tgt := 87) C dX8_judge_79 (by decide) (fun _ => ?_) (fun _ => ?_)
          · refine G_aload_n C 0 dX8_judge_87 rfl rfl ?_
            refine G_getR (j := 68) C 9 shX_0 rfl rfl (by decide) wf8_62 dX8_judge_88 ?_
            refine G_getR (j := 71) C 2 shX_68 rfl rfl (by decide) wf8_258 dX8_judge_91 ?_
            refine G_iload_n C 1 dX8_judge_94 rfl rfl ?_
            refine G_aald5 C shX_71 dX8_judge_95 (fun hb8 => ?_)
            refine G_iload_n C 2 dX8_judge_96 rfl rfl ?_
            refine G_iload_n C 3 dX8_judge_97 rfl rfl ?_
            refine G_iadd C dX8_judge_98 ?_
            refine G_lald C (zIt_at hb8) dX8_judge_99 (fun hb9 => ?_)
            refine G_aload_n C 0 dX8_judge_100 rfl rfl ?_
            refine G_getR (j := 2) C 3 shX_0 rfl rfl (by decide) wf8_25 dX8_judge_101 ?_
            refine G_getR (j := 5) C 3 zTn_2.1 rfl rfl (by decide) wf8_92 dX8_judge_104 ?_
            refine G_iload_n C 3 dX8_judge_107 rfl rfl ?_
            refine G_iald C zTn_2.2.2.2.1 dX8_judge_108 (fun hb10 => ?_)
            refine G_i2l C dX8_judge_109 ?_
            refine G_lcmp C dX8_judge_110 ?_
            refine G_if_eq (tgt := 116) C dX8_judge_111 (by decide) (fun _ => ?_) (fun _ => ?_)
            · refine G_iinc (v := 1) (L' := [(3, .int (x3 + (1 : Int32))), (0, .ref 0), (1, .int p1), (2, .int p2)]) C 3 dX8_judge_116 rfl (by decide) (by decide) rfl ?_
              refine G_goto (tgt := 41) C dX8_judge_119 (by decide) ?_
              refine G_locals [1, 2, 3, 0] rfl ?_
              exact ih (x3 + (1 : Int32)) u6
            · refine G_iload_n C 3 dX8_judge_114 rfl rfl ?_
              exact G_iret C dX8_judge_115
          · refine G_bipush (v := 100) C dX8_judge_82 (by decide) ?_
            refine G_iload_n C 3 dX8_judge_84 rfl rfl ?_
            refine G_iadd C dX8_judge_85 ?_
            exact G_iret C dX8_judge_86
set_option maxRecDepth 20000 in
theorem go_X8_judge {p : Program} {l : Launch} {e : Env} {s : State} {m : MethodId} {args : Array Value} {below : List Frame} {meth : Method} {c : Code} {as : Nat → Nat} {dA : Nat → ClassId} {D : va_G} {d : Nat} {p1 : Int32} {p2 : Int32} (C : zCx p s m args meth c as dA D SHX d 4 yX8_judge.cls cX8_judge ((some FieldType.int))) (hd : 2 ≤ d) : ∀ (u : zM), Go p l e s m args below meth c as dA D SHX d 4 zQi 0 [(0, .ref 0), (1, .int p1), (2, .int p2)] [] u (f_X8_judge p1 p2 u) := by
  intro u
  unfold f_X8_judge
  refine G_aload_n C 0 dX8_judge_0 rfl rfl ?_
  refine G_getR (j := 68) C 9 shX_0 rfl rfl (by decide) wf8_62 dX8_judge_1 ?_
  refine G_iload_n C 1 dX8_judge_4 rfl rfl ?_
  refine G_callVi C (m_X5_has p1 u (d - 1) (by omega)) (d' := d - 1) (As := [.int p1]) (by omega) rfl wm8_247 wwX5_has shX_68 rfl (Nat.le_of_ble_eq_true rfl) dX8_judge_5 (fun y1 u2 => ?_)
  refine G_if_ne (tgt := 13) C dX8_judge_8 (by decide) (fun _ => ?_) (fun _ => ?_)
  · refine G_aload_n C 0 dX8_judge_13 rfl rfl ?_
    refine G_getR (j := 68) C 9 shX_0 rfl rfl (by decide) wf8_62 dX8_judge_14 ?_
    refine G_iload_n C 1 dX8_judge_17 rfl rfl ?_
    refine G_callVi C (m_X5_holds p1 u2 (d - 1) (by omega)) (d' := d - 1) (As := [.int p1]) (by omega) rfl wm8_250 wwX5_holds shX_68 rfl (Nat.le_of_ble_eq_true rfl) dX8_judge_18 (fun y3 u4 => ?_)
    refine G_if_eq (tgt := 39) C dX8_judge_21 (by decide) (fun _ => ?_) (fun _ => ?_)
    · refine G_iconst (v := 0) C dX8_judge_39 (by decide) ?_
      refine G_istore_n (L' := [(3, .int (0 : Int32)), (0, .ref 0), (1, .int p1), (2, .int p2)]) C dX8_judge_40 rfl (by decide) rfl ?_
      refine G_locals [1, 2, 3, 0] rfl ?_
      exact go_X8_judge_L41 C hd 400 (0 : Int32) u4
    · refine G_aload_n C 0 dX8_judge_24 rfl rfl ?_
      refine G_getR (j := 68) C 9 shX_0 rfl rfl (by decide) wf8_62 dX8_judge_25 ?_
      refine G_getR (j := 69) C 0 shX_68 rfl rfl (by decide) wf8_253 dX8_judge_28 ?_
      refine G_iload_n C 1 dX8_judge_31 rfl rfl ?_
      refine G_iald C shX_69 dX8_judge_32 (fun hb11 => ?_)
      refine G_if_eq (tgt := 39) C dX8_judge_33 (by decide) (fun _ => ?_) (fun _ => ?_)
      · refine G_iconst (v := 0) C dX8_judge_39 (by decide) ?_
        refine G_istore_n (L' := [(3, .int (0 : Int32)), (0, .ref 0), (1, .int p1), (2, .int p2)]) C dX8_judge_40 rfl (by decide) rfl ?_
        refine G_locals [1, 2, 3, 0] rfl ?_
        exact go_X8_judge_L41 C hd 400 (0 : Int32) u4
      · refine G_bipush (v := -12) C dX8_judge_36 (by decide) ?_
        exact G_iret C dX8_judge_38
  · refine G_iconst (v := -1) C dX8_judge_11 (by decide) ?_
    exact G_iret C dX8_judge_12
theorem m_X8_judge   (p1 : Int32) (p2 : Int32) (u : zM) (d : Nat) (hd : 2 ≤ d) : zMet zQi SHX yX8_judge cX8_judge 4 ((some FieldType.int)) d [.ref 0, .int p1, .int p2] u (f_X8_judge p1 p2 u) :=
  zMet_of (by decide +kernel) (fun as => Nat.le_of_ble_eq_true rfl) wwX8_judge.2.2.2.1 (by omega) (fun p l e s m args below meth c as dA D C => go_X8_judge C hd u)
/-! public int image() -/
def f_X8_image (u : zM) : Option (Int32 × zM) :=
  zb (f_X7_become 25 1 u) fun _ u2 => zlet (sI u2 0 2 (1 : Int32)) fun u3 => some ((gI u3 2 0), u3)
set_option maxRecDepth 20000 in
theorem go_X8_image {p : Program} {l : Launch} {e : Env} {s : State} {m : MethodId} {args : Array Value} {below : List Frame} {meth : Method} {c : Code} {as : Nat → Nat} {dA : Nat → ClassId} {D : va_G} {d : Nat}  (C : zCx p s m args meth c as dA D SHX d 1 yX8_image.cls cX8_image ((some FieldType.int))) (hd : 3 ≤ d) : ∀ (u : zM), Go p l e s m args below meth c as dA D SHX d 1 zQi 0 [(0, .ref 0)] [] u (f_X8_image  u) := by
  intro u
  unfold f_X8_image
  refine G_aload_n C 0 dX8_image_0 rfl rfl ?_
  refine G_getR (j := 25) C 1 shX_0 rfl rfl (by decide) wf8_18 dX8_image_1 ?_
  refine G_aload_n C 0 dX8_image_4 rfl rfl ?_
  refine G_getR (j := 1) C 0 shX_0 rfl rfl (by decide) wf8_12 dX8_image_5 ?_
  refine G_callVv C (m_X7_become zWh_25 zWh_1 u (d - 1) (by omega)) (d' := d - 1) (As := [.ref 1]) (by omega) rfl wm8_262 wwX7_become zWh_25.1 rfl (Nat.le_of_ble_eq_true rfl) dX8_image_8 (fun y1 u2 => ?_)
  refine G_aload_n C 0 dX8_image_11 rfl rfl ?_
  refine G_iconst (v := 1) C dX8_image_12 (by decide) ?_
  refine G_putI (ty := .boolean) C 2 shX_0 rfl rfl (by decide) wf8_266 rfl (by decide +kernel) rfl rfl dX8_image_13 (fun u3 => ?_)
  refine G_aload_n C 0 dX8_image_16 rfl rfl ?_
  refine G_getR (j := 2) C 3 shX_0 rfl rfl (by decide) wf8_25 dX8_image_17 ?_
  refine G_getI C 0 zTn_2.1 rfl rfl (by decide) wf8_71 dX8_image_20 ?_
  exact G_iret C dX8_image_23
theorem m_X8_image    (u : zM) (d : Nat) (hd : 3 ≤ d) : zMet zQi SHX yX8_image cX8_image 1 ((some FieldType.int)) d [.ref 0] u (f_X8_image  u) :=
  zMet_of (by decide +kernel) (fun as => Nat.le_of_ble_eq_true rfl) wwX8_image.2.2.2.1 (by omega) (fun p l e s m args below meth c as dA D C => go_X8_image C hd u)
/-! public int undo() -/
def f_X8_undo (u : zM) : Option (Int32 × zM) :=
  (if (gI u 0 2) = (0 : Int32) then some ((-3 : Int32), u) else zb (f_X7_become 1 25 u) fun _ u2 => some ((gI u2 2 0), u2))
set_option maxRecDepth 20000 in
theorem go_X8_undo {p : Program} {l : Launch} {e : Env} {s : State} {m : MethodId} {args : Array Value} {below : List Frame} {meth : Method} {c : Code} {as : Nat → Nat} {dA : Nat → ClassId} {D : va_G} {d : Nat}  (C : zCx p s m args meth c as dA D SHX d 1 yX8_undo.cls cX8_undo ((some FieldType.int))) (hd : 3 ≤ d) : ∀ (u : zM), Go p l e s m args below meth c as dA D SHX d 1 zQi 0 [(0, .ref 0)] [] u (f_X8_undo  u) := by
  intro u
  unfold f_X8_undo
  refine G_aload_n C 0 dX8_undo_0 rfl rfl ?_
  refine G_getI C 2 shX_0 rfl rfl (by decide) wf8_266 dX8_undo_1 ?_
  refine G_if_ne (tgt := 10) C dX8_undo_4 (by decide) (fun _ => ?_) (fun _ => ?_)
  · refine G_aload_n C 0 dX8_undo_10 rfl rfl ?_
    refine G_getR (j := 1) C 0 shX_0 rfl rfl (by decide) wf8_12 dX8_undo_11 ?_
    refine G_aload_n C 0 dX8_undo_14 rfl rfl ?_
    refine G_getR (j := 25) C 1 shX_0 rfl rfl (by decide) wf8_18 dX8_undo_15 ?_
    refine G_callVv C (m_X7_become zWh_1 zWh_25 u (d - 1) (by omega)) (d' := d - 1) (As := [.ref 25]) (by omega) rfl wm8_262 wwX7_become zWh_1.1 rfl (Nat.le_of_ble_eq_true rfl) dX8_undo_18 (fun y1 u2 => ?_)
    refine G_aload_n C 0 dX8_undo_21 rfl rfl ?_
    refine G_getR (j := 2) C 3 shX_0 rfl rfl (by decide) wf8_25 dX8_undo_22 ?_
    refine G_getI C 0 zTn_2.1 rfl rfl (by decide) wf8_71 dX8_undo_25 ?_
    exact G_iret C dX8_undo_28
  · refine G_bipush (v := -3) C dX8_undo_7 (by decide) ?_
    exact G_iret C dX8_undo_9
theorem m_X8_undo    (u : zM) (d : Nat) (hd : 3 ≤ d) : zMet zQi SHX yX8_undo cX8_undo 1 ((some FieldType.int)) d [.ref 0] u (f_X8_undo  u) :=
  zMet_of (by decide +kernel) (fun as => Nat.le_of_ble_eq_true rfl) wwX8_undo.2.2.2.1 (by omega) (fun p l e s m args below meth c as dA D C => go_X8_undo C hd u)
/-! public int act(int, int, int) -/
def f_X8_act (p1 : Int32) (p2 : Int32) (p3 : Int32) (u : zM) : Option (Int32 × zM) :=
  zlet (sI u 66 0 (0 : Int32)) fun u1 => zb (f_X6_hasOne 2 p1 u1) fun y2 u3 => (if y2 = (0 : Int32) then some ((0 : Int32), u3) else zb (f_X8_isWithin p2 (0 : Int32) (2 : Int32) u3) fun y4 u5 => (if y4 = (0 : Int32) then some ((0 : Int32), u5) else zb (f_X0_start p1 p2 p3 u5) fun y6 u7 => some (y6, u7)))
set_option maxRecDepth 20000 in
theorem go_X8_act {p : Program} {l : Launch} {e : Env} {s : State} {m : MethodId} {args : Array Value} {below : List Frame} {meth : Method} {c : Code} {as : Nat → Nat} {dA : Nat → ClassId} {D : va_G} {d : Nat} {p1 : Int32} {p2 : Int32} {p3 : Int32} (C : zCx p s m args meth c as dA D SHX d 4 yX8_act.cls cX8_act ((some FieldType.int))) (hd : 62 ≤ d) : ∀ (u : zM), Go p l e s m args below meth c as dA D SHX d 4 zQi 0 [(0, .ref 0), (1, .int p1), (2, .int p2), (3, .int p3)] [] u (f_X8_act p1 p2 p3 u) := by
  intro u
  unfold f_X8_act
  refine G_aload_n C 0 dX8_act_0 rfl rfl ?_
  refine G_getR (j := 66) C 8 shX_0 rfl rfl (by decide) wf8_55 dX8_act_1 ?_
  refine G_iconst (v := 0) C dX8_act_4 (by decide) ?_
  refine G_putI (ty := .int) C 0 shX_66 rfl rfl (by decide) wf8_270 rfl (by decide +kernel) rfl rfl dX8_act_5 (fun u1 => ?_)
  refine G_aload_n C 0 dX8_act_8 rfl rfl ?_
  refine G_getR (j := 2) C 3 shX_0 rfl rfl (by decide) wf8_25 dX8_act_9 ?_
  refine G_iload_n C 1 dX8_act_12 rfl rfl ?_
  refine G_callVi C (m_X6_hasOne zTn_2 p1 u1 (d - 1) (by omega)) (d' := d - 1) (As := [.int p1]) (by omega) rfl wm8_81 wwX6_hasOne zTn_2.1 rfl (Nat.le_of_ble_eq_true rfl) dX8_act_13 (fun y2 u3 => ?_)
  refine G_if_eq (tgt := 28) C dX8_act_16 (by decide) (fun _ => ?_) (fun _ => ?_)
  · refine G_iconst (v := 0) C dX8_act_28 (by decide) ?_
    exact G_iret C dX8_act_29
  · refine G_iload_n C 2 dX8_act_19 rfl rfl ?_
    refine G_iconst (v := 0) C dX8_act_20 (by decide) ?_
    refine G_iconst (v := 2) C dX8_act_21 (by decide) ?_
    refine G_callSi C (m_X8_isWithin p2 (0 : Int32) (2 : Int32) u3 (d - 1) (by omega)) (d' := d - 1) (As := [.int p2, .int (0 : Int32), .int (2 : Int32)]) (by omega) rfl wm8_67 wwX8_isWithin (Nat.le_of_ble_eq_true rfl) dX8_act_22 (fun y4 u5 => ?_)
    refine G_if_ne (tgt := 30) C dX8_act_25 (by decide) (fun _ => ?_) (fun _ => ?_)
    · refine G_aload_n C 0 dX8_act_30 rfl rfl ?_
      refine G_getR (j := 66) C 8 shX_0 rfl rfl (by decide) wf8_55 dX8_act_31 ?_
      refine G_aload_n C 0 dX8_act_34 rfl rfl ?_
      refine G_getR (j := 2) C 3 shX_0 rfl rfl (by decide) wf8_25 dX8_act_35 ?_
      refine G_iload_n C 1 dX8_act_38 rfl rfl ?_
      refine G_iload_n C 2 dX8_act_39 rfl rfl ?_
      refine G_iload_n C 3 dX8_act_40 rfl rfl ?_
      refine G_callVi C (m_X0_start p1 p2 p3 u5 (d - 1) (by omega)) (d' := d - 1) (As := [.ref 2, .int p1, .int p2, .int p3]) (by omega) rfl wm8_273 wwX0_start shX_66 rfl (Nat.le_of_ble_eq_true rfl) dX8_act_41 (fun y6 u7 => ?_)
      exact G_iret C dX8_act_44
    · refine G_iconst (v := 0) C dX8_act_28 (by decide) ?_
      exact G_iret C dX8_act_29
theorem m_X8_act   (p1 : Int32) (p2 : Int32) (p3 : Int32) (u : zM) (d : Nat) (hd : 62 ≤ d) : zMet zQi SHX yX8_act cX8_act 4 ((some FieldType.int)) d [.ref 0, .int p1, .int p2, .int p3] u (f_X8_act p1 p2 p3 u) :=
  zMet_of (by decide +kernel) (fun as => Nat.le_of_ble_eq_true rfl) wwX8_act.2.2.2.1 (by omega) (fun p l e s m args below meth c as dA D C => go_X8_act C hd u)
/-! public int trace(int) -/
def f_X8_trace (p1 : Int32) (u : zM) : Option (Int32 × zM) :=
  (if p1 < (0 : Int32) then some ((-1 : Int32), u) else (if (gI u 66 0) ≤ p1 then some ((-1 : Int32), u) else (if (20 : Int32) ≤ p1 then some ((-1 : Int32), u) else zck (inB p1 20) <| some ((gI u 67 p1.toNatClampNeg), u))))
set_option maxRecDepth 20000 in
theorem go_X8_trace {p : Program} {l : Launch} {e : Env} {s : State} {m : MethodId} {args : Array Value} {below : List Frame} {meth : Method} {c : Code} {as : Nat → Nat} {dA : Nat → ClassId} {D : va_G} {d : Nat} {p1 : Int32} (C : zCx p s m args meth c as dA D SHX d 2 yX8_trace.cls cX8_trace ((some FieldType.int))) (hd : 1 ≤ d) : ∀ (u : zM), Go p l e s m args below meth c as dA D SHX d 2 zQi 0 [(0, .ref 0), (1, .int p1)] [] u (f_X8_trace p1 u) := by
  intro u
  unfold f_X8_trace
  refine G_iload_n C 1 dX8_trace_0 rfl rfl ?_
  refine G_if_lt (tgt := 33) C dX8_trace_1 (by decide) (fun _ => ?_) (fun _ => ?_)
  · refine G_iconst (v := -1) C dX8_trace_33 (by decide) ?_
    exact G_iret C dX8_trace_34
  · refine G_iload_n C 1 dX8_trace_4 rfl rfl ?_
    refine G_aload_n C 0 dX8_trace_5 rfl rfl ?_
    refine G_getR (j := 66) C 8 shX_0 rfl rfl (by decide) wf8_55 dX8_trace_6 ?_
    refine G_getI C 0 shX_66 rfl rfl (by decide) wf8_270 dX8_trace_9 ?_
    refine G_icmp_ge (tgt := 33) C dX8_trace_12 (by decide) (fun _ => ?_) (fun _ => ?_)
    · refine G_iconst (v := -1) C dX8_trace_33 (by decide) ?_
      exact G_iret C dX8_trace_34
    · refine G_iload_n C 1 dX8_trace_15 rfl rfl ?_
      refine G_bipush (v := 20) C dX8_trace_16 (by decide) ?_
      refine G_icmp_ge (tgt := 33) C dX8_trace_18 (by decide) (fun _ => ?_) (fun _ => ?_)
      · refine G_iconst (v := -1) C dX8_trace_33 (by decide) ?_
        exact G_iret C dX8_trace_34
      · refine G_aload_n C 0 dX8_trace_21 rfl rfl ?_
        refine G_getR (j := 66) C 8 shX_0 rfl rfl (by decide) wf8_55 dX8_trace_22 ?_
        refine G_getR (j := 67) C 1 shX_66 rfl rfl (by decide) wf8_277 dX8_trace_25 ?_
        refine G_iload_n C 1 dX8_trace_28 rfl rfl ?_
        refine G_iald C shX_67 dX8_trace_29 (fun hb1 => ?_)
        refine G_goto (tgt := 34) C dX8_trace_30 (by decide) ?_
        exact G_iret C dX8_trace_34
theorem m_X8_trace   (p1 : Int32) (u : zM) (d : Nat) (hd : 1 ≤ d) : zMet zQi SHX yX8_trace cX8_trace 2 ((some FieldType.int)) d [.ref 0, .int p1] u (f_X8_trace p1 u) :=
  zMet_of (by decide +kernel) (fun as => Nat.le_of_ble_eq_true rfl) wwX8_trace.2.2.2.1 (by omega) (fun p l e s m args below meth c as dA D C => go_X8_trace C hd u)
/-! private static boolean isOrIsUnder(int, int) -/
def f_X8_isOrIsUnder_L4_b (p0 : Int32) (p1 : Int32) (rc : Int32 → Int32 → zM → Option (Int32 × zM)) (x2 : Int32) (x3 : Int32) (u : zM) : Option (Int32 × zM) :=
  (if (7 : Int32) ≤ x3 then some ((0 : Int32), u) else zb (f_X8_isWithin x2 (0 : Int32) (6 : Int32) u) fun y1 u2 => (if y1 = (0 : Int32) then some ((0 : Int32), u2) else (if x2 = p1 then some ((1 : Int32), u2) else zck (inB x2 7) <| zlx (zsv 0 x2) fun v3 => rc v3 (x3 + (1 : Int32)) u2)))
def f_X8_isOrIsUnder_L4 (p0 : Int32) (p1 : Int32) : Nat → Int32 → Int32 → zM → Option (Int32 × zM)
  | 0 => fun _ _ _ => none
  | fn + 1 => f_X8_isOrIsUnder_L4_b p0 p1 (f_X8_isOrIsUnder_L4 p0 p1 fn)
def f_X8_isOrIsUnder (p0 : Int32) (p1 : Int32) (u : zM) : Option (Int32 × zM) :=
  f_X8_isOrIsUnder_L4 p0 p1 400 p0 (0 : Int32) u
set_option maxRecDepth 20000 in
theorem go_X8_isOrIsUnder_L4 {p : Program} {l : Launch} {e : Env} {s : State} {m : MethodId} {args : Array Value} {below : List Frame} {meth : Method} {c : Code} {as : Nat → Nat} {dA : Nat → ClassId} {D : va_G} {d : Nat} {p0 : Int32} {p1 : Int32} (C : zCx p s m args meth c as dA D SHX d 4 yX8_isOrIsUnder.cls cX8_isOrIsUnder ((some FieldType.boolean))) (hd : 2 ≤ d) : ∀ (fn : Nat) (x2 : Int32) (x3 : Int32) (u : zM), Go p l e s m args below meth c as dA D SHX d 4 zQi 4 [(0, .int p0), (1, .int p1), (2, .int x2), (3, .int x3)] [] u (f_X8_isOrIsUnder_L4 p0 p1 fn x2 x3 u) := by
  intro fn
  induction fn with
  | zero => intro x2 x3 u; exact G_none
  | succ fn ih =>
    intro x2 x3 u
    show Go p l e s m args below meth c as dA D SHX d 4 zQi 4 [(0, .int p0), (1, .int p1), (2, .int x2), (3, .int x3)] [] u (f_X8_isOrIsUnder_L4_b p0 p1 (f_X8_isOrIsUnder_L4 p0 p1 fn) x2 x3 u)
    unfold f_X8_isOrIsUnder_L4_b
    refine G_iload_n C 3 dX8_isOrIsUnder_4 rfl rfl ?_
    refine G_getsA C 0 rfl ws8_299 dX8_isOrIsUnder_5 ?_
    refine G_tlen (v := 7) C 0 rfl (by decide) dX8_isOrIsUnder_8 ?_
    refine G_icmp_ge (tgt := 41) C dX8_isOrIsUnder_9 (by decide) (fun _ => ?_) (fun _ => ?_)
    · refine G_iconst (v := 0) C dX8_isOrIsUnder_41 (by decide) ?_
      exact G_zret C rfl dX8_isOrIsUnder_42
    · refine G_iload_n C 2 dX8_isOrIsUnder_12 rfl rfl ?_
      refine G_iconst (v := 0) C dX8_isOrIsUnder_13 (by decide) ?_
      refine G_bipush (v := 6) C dX8_isOrIsUnder_14 (by decide) ?_
      refine G_callSi C (m_X8_isWithin x2 (0 : Int32) (6 : Int32) u (d - 1) (by omega)) (d' := d - 1) (As := [.int x2, .int (0 : Int32), .int (6 : Int32)]) (by omega) rfl wm8_67 wwX8_isWithin (Nat.le_of_ble_eq_true rfl) dX8_isOrIsUnder_16 (fun y1 u2 => ?_)
      refine G_if_eq (tgt := 41) C dX8_isOrIsUnder_19 (by decide) (fun _ => ?_) (fun _ => ?_)
      · refine G_iconst (v := 0) C dX8_isOrIsUnder_41 (by decide) ?_
        exact G_zret C rfl dX8_isOrIsUnder_42
      · refine G_iload_n C 2 dX8_isOrIsUnder_22 rfl rfl ?_
        refine G_iload_n C 1 dX8_isOrIsUnder_23 rfl rfl ?_
        refine G_icmp_ne (tgt := 29) C dX8_isOrIsUnder_24 (by decide) (fun _ => ?_) (fun _ => ?_)
        · refine G_getsA C 0 rfl ws8_299 dX8_isOrIsUnder_29 ?_
          refine G_iload_n C 2 dX8_isOrIsUnder_32 rfl rfl ?_
          refine G_tld C 0 rfl dX8_isOrIsUnder_33 (fun _ => ?_)
          refine G_topi (fun v3 => ?_)
          refine G_istore_n (L' := [(2, .int v3), (0, .int p0), (1, .int p1), (3, .int x3)]) C dX8_isOrIsUnder_34 rfl (by decide) rfl ?_
          refine G_iinc (v := 1) (L' := [(3, .int (x3 + (1 : Int32))), (2, .int v3), (0, .int p0), (1, .int p1)]) C 3 dX8_isOrIsUnder_35 rfl (by decide) (by decide) rfl ?_
          refine G_goto (tgt := 4) C dX8_isOrIsUnder_38 (by decide) ?_
          refine G_locals [2, 3, 1, 0] rfl ?_
          exact ih v3 (x3 + (1 : Int32)) u2
        · refine G_iconst (v := 1) C dX8_isOrIsUnder_27 (by decide) ?_
          exact G_zret C rfl dX8_isOrIsUnder_28
set_option maxRecDepth 20000 in
theorem go_X8_isOrIsUnder {p : Program} {l : Launch} {e : Env} {s : State} {m : MethodId} {args : Array Value} {below : List Frame} {meth : Method} {c : Code} {as : Nat → Nat} {dA : Nat → ClassId} {D : va_G} {d : Nat} {p0 : Int32} {p1 : Int32} (C : zCx p s m args meth c as dA D SHX d 4 yX8_isOrIsUnder.cls cX8_isOrIsUnder ((some FieldType.boolean))) (hd : 2 ≤ d) : ∀ (u : zM), Go p l e s m args below meth c as dA D SHX d 4 zQi 0 [(0, .int p0), (1, .int p1)] [] u (f_X8_isOrIsUnder p0 p1 u) := by
  intro u
  unfold f_X8_isOrIsUnder
  refine G_iload_n C 0 dX8_isOrIsUnder_0 rfl rfl ?_
  refine G_istore_n (L' := [(2, .int p0), (0, .int p0), (1, .int p1)]) C dX8_isOrIsUnder_1 rfl (by decide) rfl ?_
  refine G_iconst (v := 0) C dX8_isOrIsUnder_2 (by decide) ?_
  refine G_istore_n (L' := [(3, .int (0 : Int32)), (2, .int p0), (0, .int p0), (1, .int p1)]) C dX8_isOrIsUnder_3 rfl (by decide) rfl ?_
  refine G_locals [2, 3, 1, 0] rfl ?_
  exact go_X8_isOrIsUnder_L4 C hd 400 p0 (0 : Int32) u
theorem m_X8_isOrIsUnder   (p0 : Int32) (p1 : Int32) (u : zM) (d : Nat) (hd : 2 ≤ d) : zMet zQi SHX yX8_isOrIsUnder cX8_isOrIsUnder 4 ((some FieldType.boolean)) d [.int p0, .int p1] u (f_X8_isOrIsUnder p0 p1 u) :=
  zMet_of (by decide +kernel) (fun as => Nat.le_of_ble_eq_true rfl) wwX8_isOrIsUnder.2.2.1 (by omega) (fun p l e s m args below meth c as dA D C => go_X8_isOrIsUnder C hd u)
/-! public int taken(int, int) -/
def f_X8_taken (p1 : Int32) (p2 : Int32) (u : zM) : Option (Int32 × zM) :=
  zb (f_X8_isWithin p2 (0 : Int32) (6 : Int32) u) fun y1 u2 => (if y1 = (0 : Int32) then some ((-2 : Int32), u2) else zb (f_X6_hasOne 2 p1 u2) fun y3 u4 => (if y3 = (0 : Int32) then some ((-11 : Int32), u4) else zck (inB p1 6) <| zb (f_X8_isOrIsUnder (gI u4 3 p1.toNatClampNeg) p2 u4) fun y6 u7 => (if y6 = (0 : Int32) then some ((-12 : Int32), u7) else zck (inB p1 6) <| some ((gI u7 3 p1.toNatClampNeg), u7))))
set_option maxRecDepth 20000 in
theorem go_X8_taken {p : Program} {l : Launch} {e : Env} {s : State} {m : MethodId} {args : Array Value} {below : List Frame} {meth : Method} {c : Code} {as : Nat → Nat} {dA : Nat → ClassId} {D : va_G} {d : Nat} {p1 : Int32} {p2 : Int32} (C : zCx p s m args meth c as dA D SHX d 3 yX8_taken.cls cX8_taken ((some FieldType.int))) (hd : 3 ≤ d) : ∀ (u : zM), Go p l e s m args below meth c as dA D SHX d 3 zQi 0 [(0, .ref 0), (1, .int p1), (2, .int p2)] [] u (f_X8_taken p1 p2 u) := by
  intro u
  unfold f_X8_taken
  refine G_iload_n C 2 dX8_taken_0 rfl rfl ?_
  refine G_iconst (v := 0) C dX8_taken_1 (by decide) ?_
  refine G_bipush (v := 6) C dX8_taken_2 (by decide) ?_
  refine G_callSi C (m_X8_isWithin p2 (0 : Int32) (6 : Int32) u (d - 1) (by omega)) (d' := d - 1) (As := [.int p2, .int (0 : Int32), .int (6 : Int32)]) (by omega) rfl wm8_67 wwX8_isWithin (Nat.le_of_ble_eq_true rfl) dX8_taken_4 (fun y1 u2 => ?_)
  refine G_if_ne (tgt := 13) C dX8_taken_7 (by decide) (fun _ => ?_) (fun _ => ?_)
  · refine G_aload_n C 0 dX8_taken_13 rfl rfl ?_
    refine G_getR (j := 2) C 3 shX_0 rfl rfl (by decide) wf8_25 dX8_taken_14 ?_
    refine G_iload_n C 1 dX8_taken_17 rfl rfl ?_
    refine G_callVi C (m_X6_hasOne zTn_2 p1 u2 (d - 1) (by omega)) (d' := d - 1) (As := [.int p1]) (by omega) rfl wm8_81 wwX6_hasOne zTn_2.1 rfl (Nat.le_of_ble_eq_true rfl) dX8_taken_18 (fun y3 u4 => ?_)
    refine G_if_ne (tgt := 27) C dX8_taken_21 (by decide) (fun _ => ?_) (fun _ => ?_)
    · refine G_aload_n C 0 dX8_taken_27 rfl rfl ?_
      refine G_getR (j := 2) C 3 shX_0 rfl rfl (by decide) wf8_25 dX8_taken_28 ?_
      refine G_getR (j := 3) C 1 zTn_2.1 rfl rfl (by decide) wf8_85 dX8_taken_31 ?_
      refine G_iload_n C 1 dX8_taken_34 rfl rfl ?_
      refine G_iald C zTn_2.2.1 dX8_taken_35 (fun hb5 => ?_)
      refine G_iload_n C 2 dX8_taken_36 rfl rfl ?_
      refine G_callSi C (m_X8_isOrIsUnder (gI u4 3 p1.toNatClampNeg) p2 u4 (d - 1) (by omega)) (d' := d - 1) (As := [.int (gI u4 3 p1.toNatClampNeg), .int p2]) (by omega) rfl wm8_280 wwX8_isOrIsUnder (Nat.le_of_ble_eq_true rfl) dX8_taken_37 (fun y6 u7 => ?_)
      refine G_if_eq (tgt := 55) C dX8_taken_40 (by decide) (fun _ => ?_) (fun _ => ?_)
      · refine G_bipush (v := -12) C dX8_taken_55 (by decide) ?_
        exact G_iret C dX8_taken_57
      · refine G_aload_n C 0 dX8_taken_43 rfl rfl ?_
        refine G_getR (j := 2) C 3 shX_0 rfl rfl (by decide) wf8_25 dX8_taken_44 ?_
        refine G_getR (j := 3) C 1 zTn_2.1 rfl rfl (by decide) wf8_85 dX8_taken_47 ?_
        refine G_iload_n C 1 dX8_taken_50 rfl rfl ?_
        refine G_iald C zTn_2.2.1 dX8_taken_51 (fun hb8 => ?_)
        refine G_goto (tgt := 57) C dX8_taken_52 (by decide) ?_
        exact G_iret C dX8_taken_57
    · refine G_bipush (v := -11) C dX8_taken_24 (by decide) ?_
      exact G_iret C dX8_taken_26
  · refine G_bipush (v := -2) C dX8_taken_10 (by decide) ?_
    exact G_iret C dX8_taken_12
theorem m_X8_taken   (p1 : Int32) (p2 : Int32) (u : zM) (d : Nat) (hd : 3 ≤ d) : zMet zQi SHX yX8_taken cX8_taken 3 ((some FieldType.int)) d [.ref 0, .int p1, .int p2] u (f_X8_taken p1 p2 u) :=
  zMet_of (by decide +kernel) (fun as => Nat.le_of_ble_eq_true rfl) wwX8_taken.2.2.2.1 (by omega) (fun p l e s m args below meth c as dA D C => go_X8_taken C hd u)
/-! public int count(int) -/
def f_X8_count (p1 : Int32) (u : zM) : Option (Int32 × zM) :=
  (if p1 = (0 : Int32) then some ((gI u 2 0), u) else if p1 = (1 : Int32) then some ((gI u 2 6), u) else if p1 = (2 : Int32) then some ((gI u 0 7), u) else if p1 = (3 : Int32) then some ((gI u 13 3), u) else if p1 = (4 : Int32) then some ((gI u 17 3), u) else if p1 = (5 : Int32) then some ((gI u 21 3), u) else if p1 = (6 : Int32) then some ((gI u 63 0), u) else if p1 = (7 : Int32) then some ((gI u 66 0), u) else some ((-2 : Int32), u))
set_option maxRecDepth 20000 in
theorem go_X8_count {p : Program} {l : Launch} {e : Env} {s : State} {m : MethodId} {args : Array Value} {below : List Frame} {meth : Method} {c : Code} {as : Nat → Nat} {dA : Nat → ClassId} {D : va_G} {d : Nat} {p1 : Int32} (C : zCx p s m args meth c as dA D SHX d 2 yX8_count.cls cX8_count ((some FieldType.int))) (hd : 1 ≤ d) : ∀ (u : zM), Go p l e s m args below meth c as dA D SHX d 2 zQi 0 [(0, .ref 0), (1, .int p1)] [] u (f_X8_count p1 u) := by
  intro u
  unfold f_X8_count
  refine G_iload_n C 1 dX8_count_0 rfl rfl ?_
  refine G_if (fun h1 => ?_) (fun h1 => ?_)
  · refine G_tsIn (v := 0) (off := 47) (tgt := 48) C dX8_count_1 h1 (by decide) (by decide) rfl (by decide) ?_
    refine G_aload_n C 0 dX8_count_48 rfl rfl ?_
    refine G_getR (j := 2) C 3 shX_0 rfl rfl (by decide) wf8_25 dX8_count_49 ?_
    refine G_getI C 0 zTn_2.1 rfl rfl (by decide) wf8_71 dX8_count_52 ?_
    exact G_iret C dX8_count_55
  · refine G_if (fun h2 => ?_) (fun h2 => ?_)
    · refine G_tsIn (v := 1) (off := 55) (tgt := 56) C dX8_count_1 h2 (by decide) (by decide) rfl (by decide) ?_
      refine G_aload_n C 0 dX8_count_56 rfl rfl ?_
      refine G_getR (j := 2) C 3 shX_0 rfl rfl (by decide) wf8_25 dX8_count_57 ?_
      refine G_getI C 6 zTn_2.1 rfl rfl (by decide) wf8_111 dX8_count_60 ?_
      exact G_iret C dX8_count_63
    · refine G_if (fun h3 => ?_) (fun h3 => ?_)
      · refine G_tsIn (v := 2) (off := 63) (tgt := 64) C dX8_count_1 h3 (by decide) (by decide) rfl (by decide) ?_
        refine G_aload_n C 0 dX8_count_64 rfl rfl ?_
        refine G_getI C 7 shX_0 rfl rfl (by decide) wf8_151 dX8_count_65 ?_
        exact G_iret C dX8_count_68
      · refine G_if (fun h4 => ?_) (fun h4 => ?_)
        · refine G_tsIn (v := 3) (off := 68) (tgt := 69) C dX8_count_1 h4 (by decide) (by decide) rfl (by decide) ?_
          refine G_aload_n C 0 dX8_count_69 rfl rfl ?_
          refine G_getR (j := 1) C 0 shX_0 rfl rfl (by decide) wf8_12 dX8_count_70 ?_
          refine G_getR (j := 13) C 1 zWh_1.1 rfl rfl (by decide) wf8_28 dX8_count_73 ?_
          refine G_getI C 3 zSn_13.1 rfl rfl (by decide) wf8_240 dX8_count_76 ?_
          exact G_iret C dX8_count_79
        · refine G_if (fun h5 => ?_) (fun h5 => ?_)
          · refine G_tsIn (v := 4) (off := 79) (tgt := 80) C dX8_count_1 h5 (by decide) (by decide) rfl (by decide) ?_
            refine G_aload_n C 0 dX8_count_80 rfl rfl ?_
            refine G_getR (j := 1) C 0 shX_0 rfl rfl (by decide) wf8_12 dX8_count_81 ?_
            refine G_getR (j := 17) C 2 zWh_1.1 rfl rfl (by decide) wf8_230 dX8_count_84 ?_
            refine G_getI C 3 zSn_17.1 rfl rfl (by decide) wf8_240 dX8_count_87 ?_
            exact G_iret C dX8_count_90
          · refine G_if (fun h6 => ?_) (fun h6 => ?_)
            · refine G_tsIn (v := 5) (off := 90) (tgt := 91) C dX8_count_1 h6 (by decide) (by decide) rfl (by decide) ?_
              refine G_aload_n C 0 dX8_count_91 rfl rfl ?_
              refine G_getR (j := 1) C 0 shX_0 rfl rfl (by decide) wf8_12 dX8_count_92 ?_
              refine G_getR (j := 21) C 3 zWh_1.1 rfl rfl (by decide) wf8_237 dX8_count_95 ?_
              refine G_getI C 3 zSn_21.1 rfl rfl (by decide) wf8_240 dX8_count_98 ?_
              exact G_iret C dX8_count_101
            · refine G_if (fun h7 => ?_) (fun h7 => ?_)
              · refine G_tsIn (v := 6) (off := 101) (tgt := 102) C dX8_count_1 h7 (by decide) (by decide) rfl (by decide) ?_
                refine G_aload_n C 0 dX8_count_102 rfl rfl ?_
                refine G_getR (j := 63) C 5 shX_0 rfl rfl (by decide) wf8_42 dX8_count_103 ?_
                refine G_getI C 0 shX_63 rfl rfl (by decide) wf8_144 dX8_count_106 ?_
                exact G_iret C dX8_count_109
              · refine G_if (fun h8 => ?_) (fun h8 => ?_)
                · refine G_tsIn (v := 7) (off := 109) (tgt := 110) C dX8_count_1 h8 (by decide) (by decide) rfl (by decide) ?_
                  refine G_aload_n C 0 dX8_count_110 rfl rfl ?_
                  refine G_getR (j := 66) C 8 shX_0 rfl rfl (by decide) wf8_55 dX8_count_111 ?_
                  refine G_getI C 0 shX_66 rfl rfl (by decide) wf8_270 dX8_count_114 ?_
                  exact G_iret C dX8_count_117
                · refine G_tsOut (tgt := 118) C dX8_count_1 (by have e0 := lv_neT (a := 0) h1 rfl; have e1 := lv_neT (a := 1) h2 rfl; have e2 := lv_neT (a := 2) h3 rfl; have e3 := lv_neT (a := 3) h4 rfl; have e4 := lv_neT (a := 4) h5 rfl; have e5 := lv_neT (a := 5) h6 rfl; have e6 := lv_neT (a := 6) h7 rfl; have e7 := lv_neT (a := 7) h8 rfl; omega) (by decide) ?_
                  refine G_bipush (v := -2) C dX8_count_118 (by decide) ?_
                  exact G_iret C dX8_count_120
theorem m_X8_count   (p1 : Int32) (u : zM) (d : Nat) (hd : 1 ≤ d) : zMet zQi SHX yX8_count cX8_count 2 ((some FieldType.int)) d [.ref 0, .int p1] u (f_X8_count p1 u) :=
  zMet_of (by decide +kernel) (fun as => Nat.le_of_ble_eq_true rfl) wwX8_count.2.2.2.1 (by omega) (fun p l e s m args below meth c as dA D C => go_X8_count C hd u)
/-! public int tape(int, int, int) -/
def f_X8_tape (p1 : Int32) (p2 : Int32) (p3 : Int32) (u : zM) : Option (Int32 × zM) :=
  zb (f_X5_has p1 u) fun y1 u2 => (if y1 = (0 : Int32) then some ((-1 : Int32), u2) else (if p2 = (-1 : Int32) then zb (f_X5_become p1 p2 (0 : Int32) u2) fun y7 u8 => some (y7, u8) else zb (f_X8_isWithin p2 (0 : Int32) (4 : Int32) u2) fun y3 u4 => (if y3 = (0 : Int32) then some ((-2 : Int32), u4) else (if p3 ≤ (60 : Int32) then (if (0 : Int32) ≤ p3 then zb (f_X5_become p1 p2 p3 u4) fun y5 u6 => some (y5, u6) else some ((-14 : Int32), u4)) else some ((-2 : Int32), u4)))))
set_option maxRecDepth 20000 in
theorem go_X8_tape {p : Program} {l : Launch} {e : Env} {s : State} {m : MethodId} {args : Array Value} {below : List Frame} {meth : Method} {c : Code} {as : Nat → Nat} {dA : Nat → ClassId} {D : va_G} {d : Nat} {p1 : Int32} {p2 : Int32} {p3 : Int32} (C : zCx p s m args meth c as dA D SHX d 4 yX8_tape.cls cX8_tape ((some FieldType.int))) (hd : 2 ≤ d) : ∀ (u : zM), Go p l e s m args below meth c as dA D SHX d 4 zQi 0 [(0, .ref 0), (1, .int p1), (2, .int p2), (3, .int p3)] [] u (f_X8_tape p1 p2 p3 u) := by
  intro u
  unfold f_X8_tape
  refine G_aload_n C 0 dX8_tape_0 rfl rfl ?_
  refine G_getR (j := 68) C 9 shX_0 rfl rfl (by decide) wf8_62 dX8_tape_1 ?_
  refine G_iload_n C 1 dX8_tape_4 rfl rfl ?_
  refine G_callVi C (m_X5_has p1 u (d - 1) (by omega)) (d' := d - 1) (As := [.int p1]) (by omega) rfl wm8_247 wwX5_has shX_68 rfl (Nat.le_of_ble_eq_true rfl) dX8_tape_5 (fun y1 u2 => ?_)
  refine G_if_ne (tgt := 13) C dX8_tape_8 (by decide) (fun _ => ?_) (fun _ => ?_)
  · refine G_iload_n C 2 dX8_tape_13 rfl rfl ?_
    refine G_iconst (v := -1) C dX8_tape_14 (by decide) ?_
    refine G_icmp_ne (tgt := 29) C dX8_tape_15 (by decide) (fun _ => ?_) (fun _ => ?_)
    · refine G_iload_n C 2 dX8_tape_29 rfl rfl ?_
      refine G_iconst (v := 0) C dX8_tape_30 (by decide) ?_
      refine G_iconst (v := 4) C dX8_tape_31 (by decide) ?_
      refine G_callSi C (m_X8_isWithin p2 (0 : Int32) (4 : Int32) u2 (d - 1) (by omega)) (d' := d - 1) (As := [.int p2, .int (0 : Int32), .int (4 : Int32)]) (by omega) rfl wm8_67 wwX8_isWithin (Nat.le_of_ble_eq_true rfl) dX8_tape_32 (fun y3 u4 => ?_)
      refine G_if_eq (tgt := 44) C dX8_tape_35 (by decide) (fun _ => ?_) (fun _ => ?_)
      · refine G_bipush (v := -2) C dX8_tape_44 (by decide) ?_
        exact G_iret C dX8_tape_46
      · refine G_iload_n C 3 dX8_tape_38 rfl rfl ?_
        refine G_bipush (v := 60) C dX8_tape_39 (by decide) ?_
        refine G_icmp_le (tgt := 47) C dX8_tape_41 (by decide) (fun _ => ?_) (fun _ => ?_)
        · refine G_iload_n C 3 dX8_tape_47 rfl rfl ?_
          refine G_if_ge (tgt := 56) C dX8_tape_48 (by decide) (fun _ => ?_) (fun _ => ?_)
          · refine G_aload_n C 0 dX8_tape_56 rfl rfl ?_
            refine G_getR (j := 68) C 9 shX_0 rfl rfl (by decide) wf8_62 dX8_tape_57 ?_
            refine G_iload_n C 1 dX8_tape_60 rfl rfl ?_
            refine G_iload_n C 2 dX8_tape_61 rfl rfl ?_
            refine G_iload_n C 3 dX8_tape_62 rfl rfl ?_
            refine G_callVi C (m_X5_become p1 p2 p3 u4 (d - 1) (by omega)) (d' := d - 1) (As := [.int p1, .int p2, .int p3]) (by omega) rfl wm8_284 wwX5_become shX_68 rfl (Nat.le_of_ble_eq_true rfl) dX8_tape_63 (fun y5 u6 => ?_)
            exact G_iret C dX8_tape_66
          · refine G_bipush (v := -14) C dX8_tape_51 (by decide) ?_
            refine G_goto (tgt := 66) C dX8_tape_53 (by decide) ?_
            exact G_iret C dX8_tape_66
        · refine G_bipush (v := -2) C dX8_tape_44 (by decide) ?_
          exact G_iret C dX8_tape_46
    · refine G_aload_n C 0 dX8_tape_18 rfl rfl ?_
      refine G_getR (j := 68) C 9 shX_0 rfl rfl (by decide) wf8_62 dX8_tape_19 ?_
      refine G_iload_n C 1 dX8_tape_22 rfl rfl ?_
      refine G_iload_n C 2 dX8_tape_23 rfl rfl ?_
      refine G_iconst (v := 0) C dX8_tape_24 (by decide) ?_
      refine G_callVi C (m_X5_become p1 p2 (0 : Int32) u2 (d - 1) (by omega)) (d' := d - 1) (As := [.int p1, .int p2, .int (0 : Int32)]) (by omega) rfl wm8_284 wwX5_become shX_68 rfl (Nat.le_of_ble_eq_true rfl) dX8_tape_25 (fun y7 u8 => ?_)
      exact G_iret C dX8_tape_28
  · refine G_iconst (v := -1) C dX8_tape_11 (by decide) ?_
    exact G_iret C dX8_tape_12
theorem m_X8_tape   (p1 : Int32) (p2 : Int32) (p3 : Int32) (u : zM) (d : Nat) (hd : 2 ≤ d) : zMet zQi SHX yX8_tape cX8_tape 4 ((some FieldType.int)) d [.ref 0, .int p1, .int p2, .int p3] u (f_X8_tape p1 p2 p3 u) :=
  zMet_of (by decide +kernel) (fun as => Nat.le_of_ble_eq_true rfl) wwX8_tape.2.2.2.1 (by omega) (fun p l e s m args below meth c as dA D C => go_X8_tape C hd u)
/-! public int item(int, int, long) -/
def f_X8_item (p1 : Int32) (p2 : Int32) (p3 : Int64) (u : zM) : Option (Int32 × zM) :=
  zb (f_X5_has p1 u) fun y1 u2 => (if y1 = (0 : Int32) then some ((-1 : Int32), u2) else zb (f_X5_holds p1 u2) fun y3 u4 => (if y3 = (0 : Int32) then some ((-11 : Int32), u4) else zb (f_X5_hasItems p1 p2 (1 : Int32) u4) fun y5 u6 => (if y5 = (0 : Int32) then some ((-13 : Int32), u6) else zb (f_X5_put p1 p2 p3 u6) fun y7 u8 => some (y7, u8))))
set_option maxRecDepth 20000 in
theorem go_X8_item {p : Program} {l : Launch} {e : Env} {s : State} {m : MethodId} {args : Array Value} {below : List Frame} {meth : Method} {c : Code} {as : Nat → Nat} {dA : Nat → ClassId} {D : va_G} {d : Nat} {p1 : Int32} {p2 : Int32} {p3 : Int64} (C : zCx p s m args meth c as dA D SHX d 5 yX8_item.cls cX8_item ((some FieldType.int))) (hd : 4 ≤ d) : ∀ (u : zM), Go p l e s m args below meth c as dA D SHX d 5 zQi 0 [(0, .ref 0), (1, .int p1), (2, .int p2), (3, .long p3)] [] u (f_X8_item p1 p2 p3 u) := by
  intro u
  unfold f_X8_item
  refine G_aload_n C 0 dX8_item_0 rfl rfl ?_
  refine G_getR (j := 68) C 9 shX_0 rfl rfl (by decide) wf8_62 dX8_item_1 ?_
  refine G_iload_n C 1 dX8_item_4 rfl rfl ?_
  refine G_callVi C (m_X5_has p1 u (d - 1) (by omega)) (d' := d - 1) (As := [.int p1]) (by omega) rfl wm8_247 wwX5_has shX_68 rfl (Nat.le_of_ble_eq_true rfl) dX8_item_5 (fun y1 u2 => ?_)
  refine G_if_ne (tgt := 13) C dX8_item_8 (by decide) (fun _ => ?_) (fun _ => ?_)
  · refine G_aload_n C 0 dX8_item_13 rfl rfl ?_
    refine G_getR (j := 68) C 9 shX_0 rfl rfl (by decide) wf8_62 dX8_item_14 ?_
    refine G_iload_n C 1 dX8_item_17 rfl rfl ?_
    refine G_callVi C (m_X5_holds p1 u2 (d - 1) (by omega)) (d' := d - 1) (As := [.int p1]) (by omega) rfl wm8_250 wwX5_holds shX_68 rfl (Nat.le_of_ble_eq_true rfl) dX8_item_18 (fun y3 u4 => ?_)
    refine G_if_ne (tgt := 27) C dX8_item_21 (by decide) (fun _ => ?_) (fun _ => ?_)
    · refine G_aload_n C 0 dX8_item_27 rfl rfl ?_
      refine G_getR (j := 68) C 9 shX_0 rfl rfl (by decide) wf8_62 dX8_item_28 ?_
      refine G_iload_n C 1 dX8_item_31 rfl rfl ?_
      refine G_iload_n C 2 dX8_item_32 rfl rfl ?_
      refine G_iconst (v := 1) C dX8_item_33 (by decide) ?_
      refine G_callVi C (m_X5_hasItems p1 p2 (1 : Int32) u4 (d - 1) (by omega)) (d' := d - 1) (As := [.int p1, .int p2, .int (1 : Int32)]) (by omega) rfl wm8_286 wwX5_hasItems shX_68 rfl (Nat.le_of_ble_eq_true rfl) dX8_item_34 (fun y5 u6 => ?_)
      refine G_if_eq (tgt := 53) C dX8_item_37 (by decide) (fun _ => ?_) (fun _ => ?_)
      · refine G_bipush (v := -13) C dX8_item_53 (by decide) ?_
        exact G_iret C dX8_item_55
      · refine G_aload_n C 0 dX8_item_40 rfl rfl ?_
        refine G_getR (j := 68) C 9 shX_0 rfl rfl (by decide) wf8_62 dX8_item_41 ?_
        refine G_iload_n C 1 dX8_item_44 rfl rfl ?_
        refine G_iload_n C 2 dX8_item_45 rfl rfl ?_
        refine G_lload_n C 3 dX8_item_46 rfl rfl ?_
        refine G_callVi C (m_X5_put p1 p2 p3 u6 (d - 1) (by omega)) (d' := d - 1) (As := [.int p1, .int p2, .long p3]) (by omega) rfl wm8_289 wwX5_put shX_68 rfl (Nat.le_of_ble_eq_true rfl) dX8_item_47 (fun y7 u8 => ?_)
        refine G_goto (tgt := 55) C dX8_item_50 (by decide) ?_
        exact G_iret C dX8_item_55
    · refine G_bipush (v := -11) C dX8_item_24 (by decide) ?_
      exact G_iret C dX8_item_26
  · refine G_iconst (v := -1) C dX8_item_11 (by decide) ?_
    exact G_iret C dX8_item_12
theorem m_X8_item   (p1 : Int32) (p2 : Int32) (p3 : Int64) (u : zM) (d : Nat) (hd : 4 ≤ d) : zMet zQi SHX yX8_item cX8_item 5 ((some FieldType.int)) d [.ref 0, .int p1, .int p2, .long p3] u (f_X8_item p1 p2 p3 u) :=
  zMet_of (by decide +kernel) (fun as => Nat.le_of_ble_eq_true rfl) wwX8_item.2.2.2.1 (by omega) (fun p l e s m args below meth c as dA D C => go_X8_item C hd u)
/-! public long read(int, int) -/
def f_X8_read (p1 : Int32) (p2 : Int32) (u : zM) : Option (Int64 × zM) :=
  zb (f_X5_has p1 u) fun y1 u2 => (if y1 = (0 : Int32) then some ((-9223372036854775808 : Int64), u2) else zb (f_X5_holds p1 u2) fun y3 u4 => (if y3 = (0 : Int32) then some ((-9223372036854775808 : Int64), u4) else zb (f_X5_hasItems p1 p2 (1 : Int32) u4) fun y5 u6 => (if y5 = (0 : Int32) then some ((-9223372036854775808 : Int64), u6) else zck (inB p1 6) <| zck (inB p2 60) <| some ((gJ u6 (72 + 1 * p1.toNatClampNeg) p2.toNatClampNeg), u6))))
set_option maxRecDepth 20000 in
theorem go_X8_read {p : Program} {l : Launch} {e : Env} {s : State} {m : MethodId} {args : Array Value} {below : List Frame} {meth : Method} {c : Code} {as : Nat → Nat} {dA : Nat → ClassId} {D : va_G} {d : Nat} {p1 : Int32} {p2 : Int32} (C : zCx p s m args meth c as dA D SHX d 3 yX8_read.cls cX8_read ((some FieldType.long))) (hd : 2 ≤ d) : ∀ (u : zM), Go p l e s m args below meth c as dA D SHX d 3 zQl 0 [(0, .ref 0), (1, .int p1), (2, .int p2)] [] u (f_X8_read p1 p2 u) := by
  intro u
  unfold f_X8_read
  refine G_aload_n C 0 dX8_read_0 rfl rfl ?_
  refine G_getR (j := 68) C 9 shX_0 rfl rfl (by decide) wf8_62 dX8_read_1 ?_
  refine G_iload_n C 1 dX8_read_4 rfl rfl ?_
  refine G_callVi C (m_X5_has p1 u (d - 1) (by omega)) (d' := d - 1) (As := [.int p1]) (by omega) rfl wm8_247 wwX5_has shX_68 rfl (Nat.le_of_ble_eq_true rfl) dX8_read_5 (fun y1 u2 => ?_)
  refine G_if_eq (tgt := 49) C dX8_read_8 (by decide) (fun _ => ?_) (fun _ => ?_)
  · refine G_ldc2 (v := -9223372036854775808) C dX8_read_49 wc8_218 ?_
    exact G_lret C dX8_read_52
  · refine G_aload_n C 0 dX8_read_11 rfl rfl ?_
    refine G_getR (j := 68) C 9 shX_0 rfl rfl (by decide) wf8_62 dX8_read_12 ?_
    refine G_iload_n C 1 dX8_read_15 rfl rfl ?_
    refine G_callVi C (m_X5_holds p1 u2 (d - 1) (by omega)) (d' := d - 1) (As := [.int p1]) (by omega) rfl wm8_250 wwX5_holds shX_68 rfl (Nat.le_of_ble_eq_true rfl) dX8_read_16 (fun y3 u4 => ?_)
    refine G_if_eq (tgt := 49) C dX8_read_19 (by decide) (fun _ => ?_) (fun _ => ?_)
    · refine G_ldc2 (v := -9223372036854775808) C dX8_read_49 wc8_218 ?_
      exact G_lret C dX8_read_52
    · refine G_aload_n C 0 dX8_read_22 rfl rfl ?_
      refine G_getR (j := 68) C 9 shX_0 rfl rfl (by decide) wf8_62 dX8_read_23 ?_
      refine G_iload_n C 1 dX8_read_26 rfl rfl ?_
      refine G_iload_n C 2 dX8_read_27 rfl rfl ?_
      refine G_iconst (v := 1) C dX8_read_28 (by decide) ?_
      refine G_callVi C (m_X5_hasItems p1 p2 (1 : Int32) u4 (d - 1) (by omega)) (d' := d - 1) (As := [.int p1, .int p2, .int (1 : Int32)]) (by omega) rfl wm8_286 wwX5_hasItems shX_68 rfl (Nat.le_of_ble_eq_true rfl) dX8_read_29 (fun y5 u6 => ?_)
      refine G_if_eq (tgt := 49) C dX8_read_32 (by decide) (fun _ => ?_) (fun _ => ?_)
      · refine G_ldc2 (v := -9223372036854775808) C dX8_read_49 wc8_218 ?_
        exact G_lret C dX8_read_52
      · refine G_aload_n C 0 dX8_read_35 rfl rfl ?_
        refine G_getR (j := 68) C 9 shX_0 rfl rfl (by decide) wf8_62 dX8_read_36 ?_
        refine G_getR (j := 71) C 2 shX_68 rfl rfl (by decide) wf8_258 dX8_read_39 ?_
        refine G_iload_n C 1 dX8_read_42 rfl rfl ?_
        refine G_aald5 C shX_71 dX8_read_43 (fun hb7 => ?_)
        refine G_iload_n C 2 dX8_read_44 rfl rfl ?_
        refine G_lald C (zIt_at hb7) dX8_read_45 (fun hb8 => ?_)
        refine G_goto (tgt := 52) C dX8_read_46 (by decide) ?_
        exact G_lret C dX8_read_52
theorem m_X8_read   (p1 : Int32) (p2 : Int32) (u : zM) (d : Nat) (hd : 2 ≤ d) : zMet zQl SHX yX8_read cX8_read 3 ((some FieldType.long)) d [.ref 0, .int p1, .int p2] u (f_X8_read p1 p2 u) :=
  zMet_of (by decide +kernel) (fun as => Nat.le_of_ble_eq_true rfl) wwX8_read.2.2.2.1 (by omega) (fun p l e s m args below meth c as dA D C => go_X8_read C hd u)
/-! public int shift(int, int, int, int, int) -/
def f_X8_shift (p1 : Int32) (p2 : Int32) (p3 : Int32) (p4 : Int32) (p5 : Int32) (u : zM) : Option (Int32 × zM) :=
  zb (f_X5_has p1 u) fun y1 u2 => (if y1 = (0 : Int32) then some ((-1 : Int32), u2) else zb (f_X5_has p3 u2) fun y3 u4 => (if y3 = (0 : Int32) then some ((-1 : Int32), u4) else zb (f_X5_holds p1 u4) fun y5 u6 => (if y5 = (0 : Int32) then some ((-11 : Int32), u6) else zb (f_X5_holds p3 u6) fun y7 u8 => (if y7 = (0 : Int32) then some ((-11 : Int32), u8) else zck (inB p1 6) <| zck (inB p3 6) <| (if (gI u8 69 p1.toNatClampNeg) = (gI u8 69 p3.toNatClampNeg) then zb (f_X5_hasItems p1 p2 p5 u8) fun y11 u12 => (if y11 = (0 : Int32) then some ((-13 : Int32), u12) else zb (f_X5_hasItems p3 p4 p5 u12) fun y13 u14 => (if y13 = (0 : Int32) then some ((-13 : Int32), u14) else zck (inB p1 6) <| zck (inB p3 6) <| zck (cpB p2 p4 p5 60 60) <| zlet (cpJ u14 (72 + 1 * p1.toNatClampNeg) p2.toNatClampNeg (72 + 1 * p3.toNatClampNeg) p4.toNatClampNeg p5.toNatClampNeg) fun u17 => some (p5, u17))) else some ((-12 : Int32), u8))))))
set_option maxRecDepth 20000 in
theorem go_X8_shift {p : Program} {l : Launch} {e : Env} {s : State} {m : MethodId} {args : Array Value} {below : List Frame} {meth : Method} {c : Code} {as : Nat → Nat} {dA : Nat → ClassId} {D : va_G} {d : Nat} {p1 : Int32} {p2 : Int32} {p3 : Int32} {p4 : Int32} {p5 : Int32} (C : zCx p s m args meth c as dA D SHX d 6 yX8_shift.cls cX8_shift ((some FieldType.int))) (hd : 2 ≤ d) : ∀ (u : zM), Go p l e s m args below meth c as dA D SHX d 6 zQi 0 [(0, .ref 0), (1, .int p1), (2, .int p2), (3, .int p3), (4, .int p4), (5, .int p5)] [] u (f_X8_shift p1 p2 p3 p4 p5 u) := by
  intro u
  unfold f_X8_shift
  refine G_aload_n C 0 dX8_shift_0 rfl rfl ?_
  refine G_getR (j := 68) C 9 shX_0 rfl rfl (by decide) wf8_62 dX8_shift_1 ?_
  refine G_iload_n C 1 dX8_shift_4 rfl rfl ?_
  refine G_callVi C (m_X5_has p1 u (d - 1) (by omega)) (d' := d - 1) (As := [.int p1]) (by omega) rfl wm8_247 wwX5_has shX_68 rfl (Nat.le_of_ble_eq_true rfl) dX8_shift_5 (fun y1 u2 => ?_)
  refine G_if_eq (tgt := 22) C dX8_shift_8 (by decide) (fun _ => ?_) (fun _ => ?_)
  · refine G_iconst (v := -1) C dX8_shift_22 (by decide) ?_
    exact G_iret C dX8_shift_23
  · refine G_aload_n C 0 dX8_shift_11 rfl rfl ?_
    refine G_getR (j := 68) C 9 shX_0 rfl rfl (by decide) wf8_62 dX8_shift_12 ?_
    refine G_iload_n C 3 dX8_shift_15 rfl rfl ?_
    refine G_callVi C (m_X5_has p3 u2 (d - 1) (by omega)) (d' := d - 1) (As := [.int p3]) (by omega) rfl wm8_247 wwX5_has shX_68 rfl (Nat.le_of_ble_eq_true rfl) dX8_shift_16 (fun y3 u4 => ?_)
    refine G_if_ne (tgt := 24) C dX8_shift_19 (by decide) (fun _ => ?_) (fun _ => ?_)
    · refine G_aload_n C 0 dX8_shift_24 rfl rfl ?_
      refine G_getR (j := 68) C 9 shX_0 rfl rfl (by decide) wf8_62 dX8_shift_25 ?_
      refine G_iload_n C 1 dX8_shift_28 rfl rfl ?_
      refine G_callVi C (m_X5_holds p1 u4 (d - 1) (by omega)) (d' := d - 1) (As := [.int p1]) (by omega) rfl wm8_250 wwX5_holds shX_68 rfl (Nat.le_of_ble_eq_true rfl) dX8_shift_29 (fun y5 u6 => ?_)
      refine G_if_eq (tgt := 46) C dX8_shift_32 (by decide) (fun _ => ?_) (fun _ => ?_)
      · refine G_bipush (v := -11) C dX8_shift_46 (by decide) ?_
        exact G_iret C dX8_shift_48
      · refine G_aload_n C 0 dX8_shift_35 rfl rfl ?_
        refine G_getR (j := 68) C 9 shX_0 rfl rfl (by decide) wf8_62 dX8_shift_36 ?_
        refine G_iload_n C 3 dX8_shift_39 rfl rfl ?_
        refine G_callVi C (m_X5_holds p3 u6 (d - 1) (by omega)) (d' := d - 1) (As := [.int p3]) (by omega) rfl wm8_250 wwX5_holds shX_68 rfl (Nat.le_of_ble_eq_true rfl) dX8_shift_40 (fun y7 u8 => ?_)
        refine G_if_ne (tgt := 49) C dX8_shift_43 (by decide) (fun _ => ?_) (fun _ => ?_)
        · refine G_aload_n C 0 dX8_shift_49 rfl rfl ?_
          refine G_getR (j := 68) C 9 shX_0 rfl rfl (by decide) wf8_62 dX8_shift_50 ?_
          refine G_getR (j := 69) C 0 shX_68 rfl rfl (by decide) wf8_253 dX8_shift_53 ?_
          refine G_iload_n C 1 dX8_shift_56 rfl rfl ?_
          refine G_iald C shX_69 dX8_shift_57 (fun hb9 => ?_)
          refine G_aload_n C 0 dX8_shift_58 rfl rfl ?_
          refine G_getR (j := 68) C 9 shX_0 rfl rfl (by decide) wf8_62 dX8_shift_59 ?_
          refine G_getR (j := 69) C 0 shX_68 rfl rfl (by decide) wf8_253 dX8_shift_62 ?_
          refine G_iload_n C 3 dX8_shift_65 rfl rfl ?_
          refine G_iald C shX_69 dX8_shift_66 (fun hb10 => ?_)
          refine G_icmp_eq (tgt := 73) C dX8_shift_67 (by decide) (fun _ => ?_) (fun _ => ?_)
          · refine G_aload_n C 0 dX8_shift_73 rfl rfl ?_
            refine G_getR (j := 68) C 9 shX_0 rfl rfl (by decide) wf8_62 dX8_shift_74 ?_
            refine G_iload_n C 1 dX8_shift_77 rfl rfl ?_
            refine G_iload_n C 2 dX8_shift_78 rfl rfl ?_
            refine G_iload C 5 dX8_shift_79 rfl ?_
            refine G_callVi C (m_X5_hasItems p1 p2 p5 u8 (d - 1) (by omega)) (d' := d - 1) (As := [.int p1, .int p2, .int p5]) (by omega) rfl wm8_286 wwX5_hasItems shX_68 rfl (Nat.le_of_ble_eq_true rfl) dX8_shift_81 (fun y11 u12 => ?_)
            refine G_if_eq (tgt := 102) C dX8_shift_84 (by decide) (fun _ => ?_) (fun _ => ?_)
            · refine G_bipush (v := -13) C dX8_shift_102 (by decide) ?_
              exact G_iret C dX8_shift_104
            · refine G_aload_n C 0 dX8_shift_87 rfl rfl ?_
              refine G_getR (j := 68) C 9 shX_0 rfl rfl (by decide) wf8_62 dX8_shift_88 ?_
              refine G_iload_n C 3 dX8_shift_91 rfl rfl ?_
              refine G_iload C 4 dX8_shift_92 rfl ?_
              refine G_iload C 5 dX8_shift_94 rfl ?_
              refine G_callVi C (m_X5_hasItems p3 p4 p5 u12 (d - 1) (by omega)) (d' := d - 1) (As := [.int p3, .int p4, .int p5]) (by omega) rfl wm8_286 wwX5_hasItems shX_68 rfl (Nat.le_of_ble_eq_true rfl) dX8_shift_96 (fun y13 u14 => ?_)
              refine G_if_ne (tgt := 105) C dX8_shift_99 (by decide) (fun _ => ?_) (fun _ => ?_)
              · refine G_aload_n C 0 dX8_shift_105 rfl rfl ?_
                refine G_getR (j := 68) C 9 shX_0 rfl rfl (by decide) wf8_62 dX8_shift_106 ?_
                refine G_getR (j := 71) C 2 shX_68 rfl rfl (by decide) wf8_258 dX8_shift_109 ?_
                refine G_iload_n C 1 dX8_shift_112 rfl rfl ?_
                refine G_aald5 C shX_71 dX8_shift_113 (fun hb15 => ?_)
                refine G_iload_n C 2 dX8_shift_114 rfl rfl ?_
                refine G_aload_n C 0 dX8_shift_115 rfl rfl ?_
                refine G_getR (j := 68) C 9 shX_0 rfl rfl (by decide) wf8_62 dX8_shift_116 ?_
                refine G_getR (j := 71) C 2 shX_68 rfl rfl (by decide) wf8_258 dX8_shift_119 ?_
                refine G_iload_n C 3 dX8_shift_122 rfl rfl ?_
                refine G_aald5 C shX_71 dX8_shift_123 (fun hb16 => ?_)
                refine G_iload C 4 dX8_shift_124 rfl ?_
                refine G_iload C 5 dX8_shift_126 rfl ?_
                refine G_copyJ C (zIt_at hb15) (zIt_at hb16) wm8_293 wAcN wAcS wSys (Nat.le_of_ble_eq_true rfl) dX8_shift_128 (fun _ u17 => ?_)
                refine G_iload C 5 dX8_shift_131 rfl ?_
                exact G_iret C dX8_shift_133
              · refine G_bipush (v := -13) C dX8_shift_102 (by decide) ?_
                exact G_iret C dX8_shift_104
          · refine G_bipush (v := -12) C dX8_shift_70 (by decide) ?_
            exact G_iret C dX8_shift_72
        · refine G_bipush (v := -11) C dX8_shift_46 (by decide) ?_
          exact G_iret C dX8_shift_48
    · refine G_iconst (v := -1) C dX8_shift_22 (by decide) ?_
      exact G_iret C dX8_shift_23
theorem m_X8_shift   (p1 : Int32) (p2 : Int32) (p3 : Int32) (p4 : Int32) (p5 : Int32) (u : zM) (d : Nat) (hd : 2 ≤ d) : zMet zQi SHX yX8_shift cX8_shift 6 ((some FieldType.int)) d [.ref 0, .int p1, .int p2, .int p3, .int p4, .int p5] u (f_X8_shift p1 p2 p3 p4 p5 u) :=
  zMet_of (by decide +kernel) (fun as => Nat.le_of_ble_eq_true rfl) wwX8_shift.2.2.2.1 (by omega) (fun p l e s m args below meth c as dA D C => go_X8_shift C hd u)
