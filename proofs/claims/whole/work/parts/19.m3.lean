/-! private int divisor(int, int) -/
def f_X9_divisor_L5_b (p1 : Int32) (p2 : Int32) (rc : Int32 → Int32 → zM → Option (Int32 × zM)) (x3 : Int32) (x4 : Int32) (u : zM) : Option (Int32 × zM) :=
  (if x4 = (0 : Int32) then some (x3, u) else if x4 = (0 : Int32) then none else zlx (zrem x3 x4) fun v2 => rc x4 v2 u)
def f_X9_divisor_L5 (p1 : Int32) (p2 : Int32) : Nat → Int32 → Int32 → zM → Option (Int32 × zM)
  | 0 => fun _ _ _ => none
  | fn + 1 => f_X9_divisor_L5_b p1 p2 (f_X9_divisor_L5 p1 p2 fn)
def f_X9_divisor (p1 : Int32) (p2 : Int32) (u : zM) : Option (Int32 × zM) :=
  f_X9_divisor_L5 p1 p2 400 p1 p2 u
set_option maxRecDepth 20000 in
theorem go_X9_divisor_L5 {p : Program} {l : Launch} {e : Env} {s : State} {m : MethodId} {args : Array Value} {below : List Frame} {meth : Method} {c : Code} {as : Nat → Nat} {dA : Nat → ClassId} {D : va_G} {d : Nat} {p1 : Int32} {p2 : Int32} (C : zCx p s m args meth c as dA D SHM d 6 yX9_divisor.cls cX9_divisor ((some FieldType.int))) (hd : 1 ≤ d) : ∀ (fn : Nat) (x3 : Int32) (x4 : Int32) (u : zM), Go p l e s m args below meth c as dA D SHM d 6 zQi 5 [(0, .ref 0), (1, .int p1), (2, .int p2), (3, .int x3), (4, .int x4)] [] u (f_X9_divisor_L5 p1 p2 fn x3 x4 u) := by
  intro fn
  induction fn with
  | zero => intro x3 x4 u; exact G_none
  | succ fn ih =>
    intro x3 x4 u
    show Go p l e s m args below meth c as dA D SHM d 6 zQi 5 [(0, .ref 0), (1, .int p1), (2, .int p2), (3, .int x3), (4, .int x4)] [] u (f_X9_divisor_L5_b p1 p2 (f_X9_divisor_L5 p1 p2 fn) x3 x4 u)
    unfold f_X9_divisor_L5_b
    refine G_iload C 4 dX9_divisor_5 rfl ?_
    refine G_if_eq (tgt := 26) C dX9_divisor_7 (by decide) (fun _ => ?_) (fun _ => ?_)
    · refine G_iload_n C 3 dX9_divisor_26 rfl rfl ?_
      exact G_iret C dX9_divisor_27
    · refine G_iload_n C 3 dX9_divisor_10 rfl rfl ?_
      refine G_iload C 4 dX9_divisor_11 rfl ?_
      refine G_if (fun _ => G_none) (fun hne1 => ?_)
      refine G_irem C dX9_divisor_13 hne1 ?_
      refine G_topi (fun v2 => ?_)
      refine G_istore (L' := [(5, .int v2), (0, .ref 0), (1, .int p1), (2, .int p2), (3, .int x3), (4, .int x4)]) C dX9_divisor_14 (by decide) rfl ?_
      refine G_iload C 5 dX9_divisor_16 rfl ?_
      refine G_istore_n (L' := [(3, .int x4), (5, .int v2), (0, .ref 0), (1, .int p1), (2, .int p2), (4, .int x4)]) C dX9_divisor_18 rfl (by decide) rfl ?_
      refine G_iload C 1 dX9_divisor_19 rfl ?_
      refine G_istore (L' := [(4, .int v2), (3, .int x4), (5, .int v2), (0, .ref 0), (1, .int p1), (2, .int p2)]) C dX9_divisor_21 (by decide) rfl ?_
      refine G_goto (tgt := 5) C dX9_divisor_23 (by decide) ?_
      refine G_locals [3, 4, 5, 1, 0] rfl ?_
      exact ih x4 v2 u
set_option maxRecDepth 20000 in
theorem go_X9_divisor {p : Program} {l : Launch} {e : Env} {s : State} {m : MethodId} {args : Array Value} {below : List Frame} {meth : Method} {c : Code} {as : Nat → Nat} {dA : Nat → ClassId} {D : va_G} {d : Nat} {p1 : Int32} {p2 : Int32} (C : zCx p s m args meth c as dA D SHM d 6 yX9_divisor.cls cX9_divisor ((some FieldType.int))) (hd : 1 ≤ d) : ∀ (u : zM), Go p l e s m args below meth c as dA D SHM d 6 zQi 0 [(0, .ref 0), (1, .int p1), (2, .int p2)] [] u (f_X9_divisor p1 p2 u) := by
  intro u
  unfold f_X9_divisor
  refine G_iload_n C 1 dX9_divisor_0 rfl rfl ?_
  refine G_istore_n (L' := [(3, .int p1), (0, .ref 0), (1, .int p1), (2, .int p2)]) C dX9_divisor_1 rfl (by decide) rfl ?_
  refine G_iload_n C 3 dX9_divisor_2 rfl rfl ?_
  refine G_istore (L' := [(4, .int p2), (3, .int p1), (0, .ref 0), (1, .int p1), (2, .int p2)]) C dX9_divisor_3 (by decide) rfl ?_
  refine G_locals [2, 3, 4, 1, 0] rfl ?_
  exact go_X9_divisor_L5 C hd 400 p1 p2 u
theorem m_X9_divisor   (p1 : Int32) (p2 : Int32) (u : zM) (d : Nat) (hd : 1 ≤ d) : zMet zQi SHM yX9_divisor cX9_divisor 6 ((some FieldType.int)) d [.ref 0, .int p1, .int p2] u (f_X9_divisor p1 p2 u) :=
  zMet_of (by decide +kernel) (fun as => Nat.le_of_ble_eq_true rfl) wwX9_divisor.2.2.2.1 (by omega) (fun p l e s m args below meth c as dA D C => go_X9_divisor C hd u)
/-! private long lowest(int, int, int) -/
def f_X9_lowest (p1 : Int32) (p2 : Int32) (p3 : Int32) (u : zM) : Option (Int64 × zM) :=
  zb (f_X9_divisor p1 p2 u) fun y1 u2 => (if p3 = (0 : Int32) then if y1 = (0 : Int32) then none else some ((p1 / y1).toInt64, u2) else if y1 = (0 : Int32) then none else some ((p2 / y1).toInt64, u2))
set_option maxRecDepth 20000 in
theorem go_X9_lowest {p : Program} {l : Launch} {e : Env} {s : State} {m : MethodId} {args : Array Value} {below : List Frame} {meth : Method} {c : Code} {as : Nat → Nat} {dA : Nat → ClassId} {D : va_G} {d : Nat} {p1 : Int32} {p2 : Int32} {p3 : Int32} (C : zCx p s m args meth c as dA D SHM d 5 yX9_lowest.cls cX9_lowest ((some FieldType.long))) (hd : 2 ≤ d) : ∀ (u : zM), Go p l e s m args below meth c as dA D SHM d 5 zQl 0 [(0, .ref 0), (1, .int p1), (2, .int p2), (3, .int p3)] [] u (f_X9_lowest p1 p2 p3 u) := by
  intro u
  unfold f_X9_lowest
  refine G_aload_n C 0 dX9_lowest_0 rfl rfl ?_
  refine G_iload_n C 1 dX9_lowest_1 rfl rfl ?_
  refine G_iload_n C 2 dX9_lowest_2 rfl rfl ?_
  refine G_callVi C (m_X9_divisor p1 p2 u (d - 1) (by omega)) (d' := d - 1) (As := [.int p1, .int p2]) (by omega) rfl wm9_398 wwX9_divisor shM_0 rfl (Nat.le_of_ble_eq_true rfl) dX9_lowest_3 (fun y1 u2 => ?_)
  refine G_istore (L' := [(4, .int y1), (0, .ref 0), (1, .int p1), (2, .int p2), (3, .int p3)]) C dX9_lowest_6 (by decide) rfl ?_
  refine G_iload_n C 4 dX9_lowest_8 rfl rfl ?_
  refine G_if_ne (tgt := 20) C dX9_lowest_9 (by decide) (fun _ => ?_) (fun _ => ?_)
  · refine G_iload_n C 3 dX9_lowest_20 rfl rfl ?_
    refine G_iload C 0 dX9_lowest_21 rfl ?_
    refine G_if (fun _ => G_none) (fun hne3 => ?_)
    refine G_idiv C dX9_lowest_23 hne3 ?_
    refine G_i2l C dX9_lowest_24 ?_
    exact G_lret C dX9_lowest_25
  · refine G_iload_n C 2 dX9_lowest_12 rfl rfl ?_
    refine G_iload C 0 dX9_lowest_13 rfl ?_
    refine G_if (fun _ => G_none) (fun hne4 => ?_)
    refine G_idiv C dX9_lowest_15 hne4 ?_
    refine G_i2l C dX9_lowest_16 ?_
    refine G_goto (tgt := 25) C dX9_lowest_17 (by decide) ?_
    exact G_lret C dX9_lowest_25
theorem m_X9_lowest   (p1 : Int32) (p2 : Int32) (p3 : Int32) (u : zM) (d : Nat) (hd : 2 ≤ d) : zMet zQl SHM yX9_lowest cX9_lowest 5 ((some FieldType.long)) d [.ref 0, .int p1, .int p2, .int p3] u (f_X9_lowest p1 p2 p3 u) :=
  zMet_of (by decide +kernel) (fun as => Nat.le_of_ble_eq_true rfl) wwX9_lowest.2.2.2.1 (by omega) (fun p l e s m args below meth c as dA D C => go_X9_lowest C hd u)
/-! private boolean isHotIf(int, int, int) -/
def f_X9_isHotIf (p1 : Int32) (p2 : Int32) (p3 : Int32) (u : zM) : Option (Int32 × zM) :=
  zb (f_X9_save u) fun _ u2 => zlet (sI u2 0 3 (-5 : Int32)) fun u3 => zck (inB p2 6) <| zb (f_X9_least ((gI u3 3 p2.toNatClampNeg) + (20 : Int32)) (99 : Int32) u3) fun y5 u6 => zck (inB p2 6) <| zlet (sI u6 3 p2.toNatClampNeg y5) fun u7 => zb (f_X9_goMinutes p3 u7) fun _ u9 => zck (inB p1 6) <| (if (gI u9 3 p1.toNatClampNeg) < (50 : Int32) then zb (f_X9_putBack u9) fun _ u12 => some ((0 : Int32), u12) else zb (f_X9_putBack u9) fun _ u14 => some ((1 : Int32), u14))
set_option maxRecDepth 20000 in
theorem go_X9_isHotIf {p : Program} {l : Launch} {e : Env} {s : State} {m : MethodId} {args : Array Value} {below : List Frame} {meth : Method} {c : Code} {as : Nat → Nat} {dA : Nat → ClassId} {D : va_G} {d : Nat} {p1 : Int32} {p2 : Int32} {p3 : Int32} (C : zCx p s m args meth c as dA D SHM d 5 yX9_isHotIf.cls cX9_isHotIf ((some FieldType.boolean))) (hd : 9 ≤ d) : ∀ (u : zM), Go p l e s m args below meth c as dA D SHM d 5 zQi 0 [(0, .ref 0), (1, .int p1), (2, .int p2), (3, .int p3)] [] u (f_X9_isHotIf p1 p2 p3 u) := by
  intro u
  unfold f_X9_isHotIf
  refine G_aload_n C 0 dX9_isHotIf_0 rfl rfl ?_
  refine G_callVv C (m_X9_save u (d - 1) (by omega)) (d' := d - 1) (As := []) (by omega) rfl wm9_368 wwX9_save shM_0 rfl (Nat.le_of_ble_eq_true rfl) dX9_isHotIf_1 (fun y1 u2 => ?_)
  refine G_aload_n C 0 dX9_isHotIf_4 rfl rfl ?_
  refine G_bipush (v := -5) C dX9_isHotIf_5 (by decide) ?_
  refine G_putI (ty := .int) C 3 shM_0 rfl rfl (by decide) wf9_19 rfl (by decide +kernel) rfl rfl dX9_isHotIf_7 (fun u3 => ?_)
  refine G_aload_n C 0 dX9_isHotIf_10 rfl rfl ?_
  refine G_getR (j := 3) C 7 shM_0 rfl rfl (by decide) wf9_32 dX9_isHotIf_11 ?_
  refine G_iload_n C 2 dX9_isHotIf_14 rfl rfl ?_
  refine G_aload_n C 0 dX9_isHotIf_15 rfl rfl ?_
  refine G_aload_n C 0 dX9_isHotIf_16 rfl rfl ?_
  refine G_getR (j := 3) C 7 shM_0 rfl rfl (by decide) wf9_32 dX9_isHotIf_17 ?_
  refine G_iload_n C 2 dX9_isHotIf_20 rfl rfl ?_
  refine G_iald C shM_3 dX9_isHotIf_21 (fun hb4 => ?_)
  refine G_bipush (v := 20) C dX9_isHotIf_22 (by decide) ?_
  refine G_iadd C dX9_isHotIf_24 ?_
  refine G_bipush (v := 99) C dX9_isHotIf_25 (by decide) ?_
  refine G_callVi C (m_X9_least ((gI u3 3 p2.toNatClampNeg) + (20 : Int32)) (99 : Int32) u3 (d - 1) (by omega)) (d' := d - 1) (As := [.int ((gI u3 3 p2.toNatClampNeg) + (20 : Int32)), .int (99 : Int32)]) (by omega) rfl wm9_248 wwX9_least shM_0 rfl (Nat.le_of_ble_eq_true rfl) dX9_isHotIf_27 (fun y5 u6 => ?_)
  refine G_iast C shM_3 dX9_isHotIf_30 (fun _ u7 => ?_)
  refine G_aload_n C 0 dX9_isHotIf_31 rfl rfl ?_
  refine G_iload_n C 3 dX9_isHotIf_32 rfl rfl ?_
  refine G_callVv C (m_X9_goMinutes p3 u7 (d - 1) (by omega)) (d' := d - 1) (As := [.int p3]) (by omega) rfl wm9_365 wwX9_goMinutes shM_0 rfl (Nat.le_of_ble_eq_true rfl) dX9_isHotIf_33 (fun y8 u9 => ?_)
  refine G_aload_n C 0 dX9_isHotIf_36 rfl rfl ?_
  refine G_getR (j := 3) C 7 shM_0 rfl rfl (by decide) wf9_32 dX9_isHotIf_37 ?_
  refine G_iload_n C 1 dX9_isHotIf_40 rfl rfl ?_
  refine G_iald C shM_3 dX9_isHotIf_41 (fun hb10 => ?_)
  refine G_bipush (v := 50) C dX9_isHotIf_42 (by decide) ?_
  refine G_icmp_lt (tgt := 51) C dX9_isHotIf_44 (by decide) (fun _ => ?_) (fun _ => ?_)
  · refine G_iconst (v := 0) C dX9_isHotIf_51 (by decide) ?_
    refine G_istore (L' := [(4, .int (0 : Int32)), (0, .ref 0), (1, .int p1), (2, .int p2), (3, .int p3)]) C dX9_isHotIf_52 (by decide) rfl ?_
    refine G_aload_n C 1 dX9_isHotIf_54 rfl rfl ?_
    refine G_callVv C (m_X9_putBack u9 (d - 1) (by omega)) (d' := d - 1) (As := []) (by omega) rfl wm9_371 wwX9_putBack shM_0 rfl (Nat.le_of_ble_eq_true rfl) dX9_isHotIf_55 (fun y11 u12 => ?_)
    refine G_iload C 0 dX9_isHotIf_58 rfl ?_
    exact G_zret C rfl dX9_isHotIf_60
  · refine G_iconst (v := 1) C dX9_isHotIf_47 (by decide) ?_
    refine G_goto (tgt := 52) C dX9_isHotIf_48 (by decide) ?_
    refine G_istore (L' := [(4, .int (1 : Int32)), (0, .ref 0), (1, .int p1), (2, .int p2), (3, .int p3)]) C dX9_isHotIf_52 (by decide) rfl ?_
    refine G_aload_n C 1 dX9_isHotIf_54 rfl rfl ?_
    refine G_callVv C (m_X9_putBack u9 (d - 1) (by omega)) (d' := d - 1) (As := []) (by omega) rfl wm9_371 wwX9_putBack shM_0 rfl (Nat.le_of_ble_eq_true rfl) dX9_isHotIf_55 (fun y13 u14 => ?_)
    refine G_iload C 0 dX9_isHotIf_58 rfl ?_
    exact G_zret C rfl dX9_isHotIf_60
theorem m_X9_isHotIf   (p1 : Int32) (p2 : Int32) (p3 : Int32) (u : zM) (d : Nat) (hd : 9 ≤ d) : zMet zQi SHM yX9_isHotIf cX9_isHotIf 5 ((some FieldType.boolean)) d [.ref 0, .int p1, .int p2, .int p3] u (f_X9_isHotIf p1 p2 p3 u) :=
  zMet_of (by decide +kernel) (fun as => Nat.le_of_ble_eq_true rfl) wwX9_isHotIf.2.2.2.1 (by omega) (fun p l e s m args below meth c as dA D C => go_X9_isHotIf C hd u)
/-! public long odds(int, int, int) -/
def f_X9_odds_L42_b (p1 : Int32) (p2 : Int32) (p3 : Int32) (rc : Int32 → Int32 → Int32 → zM → Option (Int64 × zM)) (x4 : Int32) (x5 : Int32) (x6 : Int32) (u : zM) : Option (Int64 × zM) :=
  (if (gI u 0 0) ≤ x6 then (if x5 = (0 : Int32) then some ((-9223372036854775808 : Int64), u) else zb (f_X9_lowest x4 x5 p3 u) fun y7 u8 => some (y7, u8)) else zb (f_X9_has (gI u 0 1) x6 u) fun y9 u10 => (if y9 = (0 : Int32) then zb (f_X9_isHotIf p1 x6 p2 u10) fun y11 u12 => (if y11 = (0 : Int32) then zlx (x4 + (0 : Int32)) fun v13 => rc v13 (x5 + (1 : Int32)) (x6 + (1 : Int32)) u12 else zlx (x4 + (1 : Int32)) fun v14 => rc v14 (x5 + (1 : Int32)) (x6 + (1 : Int32)) u12) else rc x4 x5 (x6 + (1 : Int32)) u10))
def f_X9_odds_L42 (p1 : Int32) (p2 : Int32) (p3 : Int32) : Nat → Int32 → Int32 → Int32 → zM → Option (Int64 × zM)
  | 0 => fun _ _ _ _ => none
  | fn + 1 => f_X9_odds_L42_b p1 p2 p3 (f_X9_odds_L42 p1 p2 p3 fn)
def f_X9_odds (p1 : Int32) (p2 : Int32) (p3 : Int32) (u : zM) : Option (Int64 × zM) :=
  zb (f_X9_isOne p1 u) fun y1 u2 => (if y1 = (0 : Int32) then some ((-9223372036854775808 : Int64), u2) else zb (f_X9_in p2 (0 : Int32) (20 : Int32) u2) fun y3 u4 => (if y3 = (0 : Int32) then some ((-9223372036854775808 : Int64), u4) else zb (f_X9_in p3 (0 : Int32) (1 : Int32) u4) fun y5 u6 => (if y5 = (0 : Int32) then some ((-9223372036854775808 : Int64), u6) else f_X9_odds_L42 p1 p2 p3 400 (0 : Int32) (0 : Int32) (0 : Int32) u6)))
set_option maxRecDepth 20000 in
theorem go_X9_odds_L42 {p : Program} {l : Launch} {e : Env} {s : State} {m : MethodId} {args : Array Value} {below : List Frame} {meth : Method} {c : Code} {as : Nat → Nat} {dA : Nat → ClassId} {D : va_G} {d : Nat} {p1 : Int32} {p2 : Int32} {p3 : Int32} (C : zCx p s m args meth c as dA D SHM d 7 yX9_odds.cls cX9_odds ((some FieldType.long))) (hd : 10 ≤ d) : ∀ (fn : Nat) (x4 : Int32) (x5 : Int32) (x6 : Int32) (u : zM), Go p l e s m args below meth c as dA D SHM d 7 zQl 42 [(0, .ref 0), (1, .int p1), (2, .int p2), (3, .int p3), (4, .int x4), (5, .int x5), (6, .int x6)] [] u (f_X9_odds_L42 p1 p2 p3 fn x4 x5 x6 u) := by
  intro fn
  induction fn with
  | zero => intro x4 x5 x6 u; exact G_none
  | succ fn ih =>
    intro x4 x5 x6 u
    show Go p l e s m args below meth c as dA D SHM d 7 zQl 42 [(0, .ref 0), (1, .int p1), (2, .int p2), (3, .int p3), (4, .int x4), (5, .int x5), (6, .int x6)] [] u (f_X9_odds_L42_b p1 p2 p3 (f_X9_odds_L42 p1 p2 p3 fn) x4 x5 x6 u)
    unfold f_X9_odds_L42_b
    refine G_iload C 6 dX9_odds_42 rfl ?_
    refine G_aload_n C 0 dX9_odds_44 rfl rfl ?_
    refine G_getI C 0 shM_0 rfl rfl (by decide) wf9_7 dX9_odds_45 ?_
    refine G_icmp_ge (tgt := 97) C dX9_odds_48 (by decide) (fun _ => ?_) (fun _ => ?_)
    · refine G_iload C 5 dX9_odds_97 rfl ?_
      refine G_if_ne (tgt := 108) C dX9_odds_99 (by decide) (fun _ => ?_) (fun _ => ?_)
      · refine G_aload_n C 0 dX9_odds_108 rfl rfl ?_
        refine G_iload C 4 dX9_odds_109 rfl ?_
        refine G_iload C 5 dX9_odds_111 rfl ?_
        refine G_iload_n C 3 dX9_odds_113 rfl rfl ?_
        refine G_callVl C (m_X9_lowest x4 x5 p3 u (d - 1) (by omega)) (d' := d - 1) (As := [.int x4, .int x5, .int p3]) (by omega) rfl wm9_406 wwX9_lowest shM_0 rfl (Nat.le_of_ble_eq_true rfl) dX9_odds_114 (fun y7 u8 => ?_)
        exact G_lret C dX9_odds_117
      · refine G_ldc2 (v := -9223372036854775808) C dX9_odds_102 wc9_401 ?_
        refine G_goto (tgt := 117) C dX9_odds_105 (by decide) ?_
        exact G_lret C dX9_odds_117
    · refine G_aload_n C 0 dX9_odds_51 rfl rfl ?_
      refine G_aload_n C 0 dX9_odds_52 rfl rfl ?_
      refine G_getI C 1 shM_0 rfl rfl (by decide) wf9_13 dX9_odds_53 ?_
      refine G_iload C 6 dX9_odds_56 rfl ?_
      refine G_callVi C (m_X9_has (gI u 0 1) x6 u (d - 1) (by omega)) (d' := d - 1) (As := [.int (gI u 0 1), .int x6]) (by omega) rfl wm9_263 wwX9_has shM_0 rfl (Nat.le_of_ble_eq_true rfl) dX9_odds_58 (fun y9 u10 => ?_)
      refine G_if_eq (tgt := 67) C dX9_odds_61 (by decide) (fun _ => ?_) (fun _ => ?_)
      · refine G_iinc (v := 1) (L' := [(5, .int (x5 + (1 : Int32))), (0, .ref 0), (1, .int p1), (2, .int p2), (3, .int p3), (4, .int x4), (6, .int x6)]) C 5 dX9_odds_67 rfl (by decide) (by decide) rfl ?_
        refine G_iload C 5 dX9_odds_70 rfl ?_
        refine G_aload_n C 1 dX9_odds_72 rfl rfl ?_
        refine G_iload_n C 2 dX9_odds_73 rfl rfl ?_
        refine G_iload C 6 dX9_odds_74 rfl ?_
        refine G_iload_n C 3 dX9_odds_76 rfl rfl ?_
        refine G_callVi C (m_X9_isHotIf p1 x6 p2 u10 (d - 1) (by omega)) (d' := d - 1) (As := [.int p1, .int x6, .int p2]) (by omega) rfl wm9_403 wwX9_isHotIf shM_0 rfl (Nat.le_of_ble_eq_true rfl) dX9_odds_77 (fun y11 u12 => ?_)
        refine G_if_eq (tgt := 87) C dX9_odds_80 (by decide) (fun _ => ?_) (fun _ => ?_)
        · refine G_iconst (v := 0) C dX9_odds_87 (by decide) ?_
          refine G_iadd C dX9_odds_88 ?_
          refine G_topi (fun v13 => ?_)
          refine G_istore (L' := [(4, .int v13), (5, .int (x5 + (1 : Int32))), (0, .ref 0), (1, .int p1), (2, .int p2), (3, .int p3), (6, .int x6)]) C dX9_odds_89 (by decide) rfl ?_
          refine G_iinc (v := 1) (L' := [(6, .int (x6 + (1 : Int32))), (4, .int v13), (5, .int (x5 + (1 : Int32))), (0, .ref 0), (1, .int p1), (2, .int p2), (3, .int p3)]) C 6 dX9_odds_91 rfl (by decide) (by decide) rfl ?_
          refine G_goto (tgt := 42) C dX9_odds_94 (by decide) ?_
          refine G_locals [3, 4, 5, 6, 1, 2, 0] rfl ?_
          exact ih v13 (x5 + (1 : Int32)) (x6 + (1 : Int32)) u12
        · refine G_iconst (v := 1) C dX9_odds_83 (by decide) ?_
          refine G_goto (tgt := 88) C dX9_odds_84 (by decide) ?_
          refine G_iadd C dX9_odds_88 ?_
          refine G_topi (fun v14 => ?_)
          refine G_istore (L' := [(4, .int v14), (5, .int (x5 + (1 : Int32))), (0, .ref 0), (1, .int p1), (2, .int p2), (3, .int p3), (6, .int x6)]) C dX9_odds_89 (by decide) rfl ?_
          refine G_iinc (v := 1) (L' := [(6, .int (x6 + (1 : Int32))), (4, .int v14), (5, .int (x5 + (1 : Int32))), (0, .ref 0), (1, .int p1), (2, .int p2), (3, .int p3)]) C 6 dX9_odds_91 rfl (by decide) (by decide) rfl ?_
          refine G_goto (tgt := 42) C dX9_odds_94 (by decide) ?_
          refine G_locals [3, 4, 5, 6, 1, 2, 0] rfl ?_
          exact ih v14 (x5 + (1 : Int32)) (x6 + (1 : Int32)) u12
      · refine G_goto (tgt := 91) C dX9_odds_64 (by decide) ?_
        refine G_iinc (v := 1) (L' := [(6, .int (x6 + (1 : Int32))), (0, .ref 0), (1, .int p1), (2, .int p2), (3, .int p3), (4, .int x4), (5, .int x5)]) C 6 dX9_odds_91 rfl (by decide) (by decide) rfl ?_
        refine G_goto (tgt := 42) C dX9_odds_94 (by decide) ?_
        refine G_locals [1, 2, 3, 4, 5, 6, 0] rfl ?_
        exact ih x4 x5 (x6 + (1 : Int32)) u10
set_option maxRecDepth 20000 in
theorem go_X9_odds {p : Program} {l : Launch} {e : Env} {s : State} {m : MethodId} {args : Array Value} {below : List Frame} {meth : Method} {c : Code} {as : Nat → Nat} {dA : Nat → ClassId} {D : va_G} {d : Nat} {p1 : Int32} {p2 : Int32} {p3 : Int32} (C : zCx p s m args meth c as dA D SHM d 7 yX9_odds.cls cX9_odds ((some FieldType.long))) (hd : 10 ≤ d) : ∀ (u : zM), Go p l e s m args below meth c as dA D SHM d 7 zQl 0 [(0, .ref 0), (1, .int p1), (2, .int p2), (3, .int p3)] [] u (f_X9_odds p1 p2 p3 u) := by
  intro u
  unfold f_X9_odds
  refine G_aload_n C 0 dX9_odds_0 rfl rfl ?_
  refine G_iload_n C 1 dX9_odds_1 rfl rfl ?_
  refine G_callVi C (m_X9_isOne p1 u (d - 1) (by omega)) (d' := d - 1) (As := [.int p1]) (by omega) rfl wm9_260 wwX9_isOne shM_0 rfl (Nat.le_of_ble_eq_true rfl) dX9_odds_2 (fun y1 u2 => ?_)
  refine G_if_eq (tgt := 29) C dX9_odds_5 (by decide) (fun _ => ?_) (fun _ => ?_)
  · refine G_ldc2 (v := -9223372036854775808) C dX9_odds_29 wc9_401 ?_
    exact G_lret C dX9_odds_32
  · refine G_aload_n C 0 dX9_odds_8 rfl rfl ?_
    refine G_iload_n C 2 dX9_odds_9 rfl rfl ?_
    refine G_iconst (v := 0) C dX9_odds_10 (by decide) ?_
    refine G_bipush (v := 20) C dX9_odds_11 (by decide) ?_
    refine G_callVi C (m_X9_in p2 (0 : Int32) (20 : Int32) u2 (d - 1) (by omega)) (d' := d - 1) (As := [.int p2, .int (0 : Int32), .int (20 : Int32)]) (by omega) rfl wm9_252 wwX9_in shM_0 rfl (Nat.le_of_ble_eq_true rfl) dX9_odds_13 (fun y3 u4 => ?_)
    refine G_if_eq (tgt := 29) C dX9_odds_16 (by decide) (fun _ => ?_) (fun _ => ?_)
    · refine G_ldc2 (v := -9223372036854775808) C dX9_odds_29 wc9_401 ?_
      exact G_lret C dX9_odds_32
    · refine G_aload_n C 0 dX9_odds_19 rfl rfl ?_
      refine G_iload_n C 3 dX9_odds_20 rfl rfl ?_
      refine G_iconst (v := 0) C dX9_odds_21 (by decide) ?_
      refine G_iconst (v := 1) C dX9_odds_22 (by decide) ?_
      refine G_callVi C (m_X9_in p3 (0 : Int32) (1 : Int32) u4 (d - 1) (by omega)) (d' := d - 1) (As := [.int p3, .int (0 : Int32), .int (1 : Int32)]) (by omega) rfl wm9_252 wwX9_in shM_0 rfl (Nat.le_of_ble_eq_true rfl) dX9_odds_23 (fun y5 u6 => ?_)
      refine G_if_ne (tgt := 33) C dX9_odds_26 (by decide) (fun _ => ?_) (fun _ => ?_)
      · refine G_iconst (v := 0) C dX9_odds_33 (by decide) ?_
        refine G_istore (L' := [(4, .int (0 : Int32)), (0, .ref 0), (1, .int p1), (2, .int p2), (3, .int p3)]) C dX9_odds_34 (by decide) rfl ?_
        refine G_iconst (v := 0) C dX9_odds_36 (by decide) ?_
        refine G_istore (L' := [(5, .int (0 : Int32)), (4, .int (0 : Int32)), (0, .ref 0), (1, .int p1), (2, .int p2), (3, .int p3)]) C dX9_odds_37 (by decide) rfl ?_
        refine G_iconst (v := 0) C dX9_odds_39 (by decide) ?_
        refine G_istore (L' := [(6, .int (0 : Int32)), (5, .int (0 : Int32)), (4, .int (0 : Int32)), (0, .ref 0), (1, .int p1), (2, .int p2), (3, .int p3)]) C dX9_odds_40 (by decide) rfl ?_
        refine G_locals [3, 4, 5, 6, 2, 1, 0] rfl ?_
        exact go_X9_odds_L42 C hd 400 (0 : Int32) (0 : Int32) (0 : Int32) u6
      · refine G_ldc2 (v := -9223372036854775808) C dX9_odds_29 wc9_401 ?_
        exact G_lret C dX9_odds_32
theorem m_X9_odds   (p1 : Int32) (p2 : Int32) (p3 : Int32) (u : zM) (d : Nat) (hd : 10 ≤ d) : zMet zQl SHM yX9_odds cX9_odds 7 ((some FieldType.long)) d [.ref 0, .int p1, .int p2, .int p3] u (f_X9_odds p1 p2 p3 u) :=
  zMet_of (by decide +kernel) (fun as => Nat.le_of_ble_eq_true rfl) wwX9_odds.2.2.2.1 (by omega) (fun p l e s m args below meth c as dA D C => go_X9_odds C hd u)
/-! public long mean(int, int) -/
def f_X9_mean (p1 : Int32) (p2 : Int32) (u : zM) : Option (Int64 × zM) :=
  zb (f_X9_isMinutes p1 u) fun y1 u2 => (if y1 = (0 : Int32) then some ((-9223372036854775808 : Int64), u2) else zb (f_X9_in p2 (0 : Int32) (1 : Int32) u2) fun y3 u4 => (if y3 = (0 : Int32) then some ((-9223372036854775808 : Int64), u4) else (if (gI u4 0 0) = (0 : Int32) then some ((-9223372036854775808 : Int64), u4) else zb (f_X9_save u4) fun _ u6 => zb (f_X9_goMinutes p1 u6) fun _ u8 => zb (f_X9_allHeat u8) fun y9 u10 => zb (f_X9_putBack u10) fun _ u12 => zb (f_X9_lowest y9 (gI u12 0 0) p2 u12) fun y13 u14 => some (y13, u14))))
set_option maxRecDepth 20000 in
theorem go_X9_mean {p : Program} {l : Launch} {e : Env} {s : State} {m : MethodId} {args : Array Value} {below : List Frame} {meth : Method} {c : Code} {as : Nat → Nat} {dA : Nat → ClassId} {D : va_G} {d : Nat} {p1 : Int32} {p2 : Int32} (C : zCx p s m args meth c as dA D SHM d 4 yX9_mean.cls cX9_mean ((some FieldType.long))) (hd : 9 ≤ d) : ∀ (u : zM), Go p l e s m args below meth c as dA D SHM d 4 zQl 0 [(0, .ref 0), (1, .int p1), (2, .int p2)] [] u (f_X9_mean p1 p2 u) := by
  intro u
  unfold f_X9_mean
  refine G_aload_n C 0 dX9_mean_0 rfl rfl ?_
  refine G_iload_n C 1 dX9_mean_1 rfl rfl ?_
  refine G_callVi C (m_X9_isMinutes p1 u (d - 1) (by omega)) (d' := d - 1) (As := [.int p1]) (by omega) rfl wm9_362 wwX9_isMinutes shM_0 rfl (Nat.le_of_ble_eq_true rfl) dX9_mean_2 (fun y1 u2 => ?_)
  refine G_if_eq (tgt := 25) C dX9_mean_5 (by decide) (fun _ => ?_) (fun _ => ?_)
  · refine G_ldc2 (v := -9223372036854775808) C dX9_mean_25 wc9_401 ?_
    exact G_lret C dX9_mean_28
  · refine G_aload_n C 0 dX9_mean_8 rfl rfl ?_
    refine G_iload_n C 2 dX9_mean_9 rfl rfl ?_
    refine G_iconst (v := 0) C dX9_mean_10 (by decide) ?_
    refine G_iconst (v := 1) C dX9_mean_11 (by decide) ?_
    refine G_callVi C (m_X9_in p2 (0 : Int32) (1 : Int32) u2 (d - 1) (by omega)) (d' := d - 1) (As := [.int p2, .int (0 : Int32), .int (1 : Int32)]) (by omega) rfl wm9_252 wwX9_in shM_0 rfl (Nat.le_of_ble_eq_true rfl) dX9_mean_12 (fun y3 u4 => ?_)
    refine G_if_eq (tgt := 25) C dX9_mean_15 (by decide) (fun _ => ?_) (fun _ => ?_)
    · refine G_ldc2 (v := -9223372036854775808) C dX9_mean_25 wc9_401 ?_
      exact G_lret C dX9_mean_28
    · refine G_aload_n C 0 dX9_mean_18 rfl rfl ?_
      refine G_getI C 0 shM_0 rfl rfl (by decide) wf9_7 dX9_mean_19 ?_
      refine G_if_ne (tgt := 29) C dX9_mean_22 (by decide) (fun _ => ?_) (fun _ => ?_)
      · refine G_aload_n C 0 dX9_mean_29 rfl rfl ?_
        refine G_callVv C (m_X9_save u4 (d - 1) (by omega)) (d' := d - 1) (As := []) (by omega) rfl wm9_368 wwX9_save shM_0 rfl (Nat.le_of_ble_eq_true rfl) dX9_mean_30 (fun y5 u6 => ?_)
        refine G_aload_n C 0 dX9_mean_33 rfl rfl ?_
        refine G_iload_n C 1 dX9_mean_34 rfl rfl ?_
        refine G_callVv C (m_X9_goMinutes p1 u6 (d - 1) (by omega)) (d' := d - 1) (As := [.int p1]) (by omega) rfl wm9_365 wwX9_goMinutes shM_0 rfl (Nat.le_of_ble_eq_true rfl) dX9_mean_35 (fun y7 u8 => ?_)
        refine G_aload_n C 0 dX9_mean_38 rfl rfl ?_
        refine G_callVi C (m_X9_allHeat u8 (d - 1) (by omega)) (d' := d - 1) (As := []) (by omega) rfl wm9_353 wwX9_allHeat shM_0 rfl (Nat.le_of_ble_eq_true rfl) dX9_mean_39 (fun y9 u10 => ?_)
        refine G_istore_n (L' := [(3, .int y9), (0, .ref 0), (1, .int p1), (2, .int p2)]) C dX9_mean_42 rfl (by decide) rfl ?_
        refine G_aload_n C 1 dX9_mean_43 rfl rfl ?_
        refine G_callVv C (m_X9_putBack u10 (d - 1) (by omega)) (d' := d - 1) (As := []) (by omega) rfl wm9_371 wwX9_putBack shM_0 rfl (Nat.le_of_ble_eq_true rfl) dX9_mean_44 (fun y11 u12 => ?_)
        refine G_aload_n C 1 dX9_mean_47 rfl rfl ?_
        refine G_iload_n C 0 dX9_mean_48 rfl rfl ?_
        refine G_aload_n C 1 dX9_mean_49 rfl rfl ?_
        refine G_getI C 0 shM_0 rfl rfl (by decide) wf9_7 dX9_mean_50 ?_
        refine G_iload_n C 3 dX9_mean_53 rfl rfl ?_
        refine G_callVl C (m_X9_lowest y9 (gI u12 0 0) p2 u12 (d - 1) (by omega)) (d' := d - 1) (As := [.int y9, .int (gI u12 0 0), .int p2]) (by omega) rfl wm9_406 wwX9_lowest shM_0 rfl (Nat.le_of_ble_eq_true rfl) dX9_mean_54 (fun y13 u14 => ?_)
        exact G_lret C dX9_mean_57
      · refine G_ldc2 (v := -9223372036854775808) C dX9_mean_25 wc9_401 ?_
        exact G_lret C dX9_mean_28
theorem m_X9_mean   (p1 : Int32) (p2 : Int32) (u : zM) (d : Nat) (hd : 9 ≤ d) : zMet zQl SHM yX9_mean cX9_mean 4 ((some FieldType.long)) d [.ref 0, .int p1, .int p2] u (f_X9_mean p1 p2 u) :=
  zMet_of (by decide +kernel) (fun as => Nat.le_of_ble_eq_true rfl) wwX9_mean.2.2.2.1 (by omega) (fun p l e s m args below meth c as dA D C => go_X9_mean C hd u)
/-! public int plan(int, int) -/
def f_X9_plan_L94 (p1 : Int32) (p2 : Int32) (s1 : Int32) (s2 : Int32) (u : zM) : Option (Int32 × zM) :=
  zck (inB s1 10) <| zlet (sI u 27 s1.toNatClampNeg s2) fun u6 => zlet (sI u6 0 42 ((gI u6 0 42) + (1 : Int32))) fun u7 => some ((gI u7 0 42), u7)
def f_X9_plan_L55 (p1 : Int32) (p2 : Int32) (u : zM) : Option (Int32 × zM) :=
  (if (gI u 0 42) = (10 : Int32) then some ((-4 : Int32), u) else zck (inB (gI u 0 42) 10) <| zlet (sI u 26 (gI u 0 42).toNatClampNeg p1) fun u5 => (if p1 ≤ (0 : Int32) then f_X9_plan_L94 p1 p2 (gI u5 0 42) (0 : Int32) u5 else f_X9_plan_L94 p1 p2 (gI u5 0 42) p2 u5))
def f_X9_plan_L40 (p1 : Int32) (p2 : Int32) (u : zM) : Option (Int32 × zM) :=
  (if p1 = (3 : Int32) then zb (f_X9_isWork p2 u) fun y8 u9 => (if y8 = (0 : Int32) then some ((-1 : Int32), u9) else f_X9_plan_L55 p1 p2 u9) else f_X9_plan_L55 p1 p2 u)
def f_X9_plan (p1 : Int32) (p2 : Int32) (u : zM) : Option (Int32 × zM) :=
  (if p1 = (-1 : Int32) then zlet (sI u 0 42 (0 : Int32)) fun u12 => some ((0 : Int32), u12) else zb (f_X9_in p1 (0 : Int32) (3 : Int32) u) fun y1 u2 => (if y1 = (0 : Int32) then some ((-1 : Int32), u2) else zb (f_X9_in p1 (1 : Int32) (2 : Int32) u2) fun y3 u4 => (if y3 = (0 : Int32) then f_X9_plan_L40 p1 p2 u4 else zb (f_X9_isOne p2 u4) fun y10 u11 => (if y10 = (0 : Int32) then some ((-1 : Int32), u11) else f_X9_plan_L40 p1 p2 u11))))
set_option maxRecDepth 20000 in
theorem go_X9_plan_L94 {p : Program} {l : Launch} {e : Env} {s : State} {m : MethodId} {args : Array Value} {below : List Frame} {meth : Method} {c : Code} {as : Nat → Nat} {dA : Nat → ClassId} {D : va_G} {d : Nat} {p1 : Int32} {p2 : Int32} (C : zCx p s m args meth c as dA D SHM d 3 yX9_plan.cls cX9_plan ((some FieldType.int))) (hd : 3 ≤ d) : ∀ (s1 : Int32) (s2 : Int32) (u : zM), Go p l e s m args below meth c as dA D SHM d 3 zQi 94 [(0, .ref 0), (1, .int p1), (2, .int p2)] [.int s2, .int s1, .ref 27] u (f_X9_plan_L94 p1 p2 s1 s2 u) := by
  intro s1 s2 u
  unfold f_X9_plan_L94
  refine G_iast C shM_27 dX9_plan_94 (fun _ u6 => ?_)
  refine G_aload_n C 0 dX9_plan_95 rfl rfl ?_
  refine G_dup C dX9_plan_96 rfl ?_
  refine G_getI C 42 shM_0 rfl rfl (by decide) wf9_138 dX9_plan_97 ?_
  refine G_iconst (v := 1) C dX9_plan_100 (by decide) ?_
  refine G_iadd C dX9_plan_101 ?_
  refine G_putI (ty := .int) C 42 shM_0 rfl rfl (by decide) wf9_138 rfl (by decide +kernel) rfl rfl dX9_plan_102 (fun u7 => ?_)
  refine G_aload_n C 0 dX9_plan_105 rfl rfl ?_
  refine G_getI C 42 shM_0 rfl rfl (by decide) wf9_138 dX9_plan_106 ?_
  exact G_iret C dX9_plan_109
set_option maxRecDepth 20000 in
theorem go_X9_plan_L55 {p : Program} {l : Launch} {e : Env} {s : State} {m : MethodId} {args : Array Value} {below : List Frame} {meth : Method} {c : Code} {as : Nat → Nat} {dA : Nat → ClassId} {D : va_G} {d : Nat} {p1 : Int32} {p2 : Int32} (C : zCx p s m args meth c as dA D SHM d 3 yX9_plan.cls cX9_plan ((some FieldType.int))) (hd : 3 ≤ d) : ∀ (u : zM), Go p l e s m args below meth c as dA D SHM d 3 zQi 55 [(0, .ref 0), (1, .int p1), (2, .int p2)] [] u (f_X9_plan_L55 p1 p2 u) := by
  intro u
  unfold f_X9_plan_L55
  refine G_aload_n C 0 dX9_plan_55 rfl rfl ?_
  refine G_getI C 42 shM_0 rfl rfl (by decide) wf9_138 dX9_plan_56 ?_
  refine G_bipush (v := 10) C dX9_plan_59 (by decide) ?_
  refine G_icmp_ne (tgt := 67) C dX9_plan_61 (by decide) (fun _ => ?_) (fun _ => ?_)
  · refine G_aload_n C 0 dX9_plan_67 rfl rfl ?_
    refine G_getR (j := 26) C 44 shM_0 rfl rfl (by decide) wf9_144 dX9_plan_68 ?_
    refine G_aload_n C 0 dX9_plan_71 rfl rfl ?_
    refine G_getI C 42 shM_0 rfl rfl (by decide) wf9_138 dX9_plan_72 ?_
    refine G_iload_n C 1 dX9_plan_75 rfl rfl ?_
    refine G_iast C shM_26 dX9_plan_76 (fun _ u5 => ?_)
    refine G_aload_n C 0 dX9_plan_77 rfl rfl ?_
    refine G_getR (j := 27) C 45 shM_0 rfl rfl (by decide) wf9_147 dX9_plan_78 ?_
    refine G_aload_n C 0 dX9_plan_81 rfl rfl ?_
    refine G_getI C 42 shM_0 rfl rfl (by decide) wf9_138 dX9_plan_82 ?_
    refine G_iload_n C 1 dX9_plan_85 rfl rfl ?_
    refine G_if_le (tgt := 93) C dX9_plan_86 (by decide) (fun _ => ?_) (fun _ => ?_)
    · refine G_iconst (v := 0) C dX9_plan_93 (by decide) ?_
      refine G_locals [0, 1, 2] rfl ?_
      exact go_X9_plan_L94 C hd  (gI u5 0 42) (0 : Int32) u5
    · refine G_iload_n C 2 dX9_plan_89 rfl rfl ?_
      refine G_goto (tgt := 94) C dX9_plan_90 (by decide) ?_
      refine G_locals [0, 1, 2] rfl ?_
      exact go_X9_plan_L94 C hd  (gI u5 0 42) p2 u5
  · refine G_bipush (v := -4) C dX9_plan_64 (by decide) ?_
    exact G_iret C dX9_plan_66
set_option maxRecDepth 20000 in
theorem go_X9_plan_L40 {p : Program} {l : Launch} {e : Env} {s : State} {m : MethodId} {args : Array Value} {below : List Frame} {meth : Method} {c : Code} {as : Nat → Nat} {dA : Nat → ClassId} {D : va_G} {d : Nat} {p1 : Int32} {p2 : Int32} (C : zCx p s m args meth c as dA D SHM d 3 yX9_plan.cls cX9_plan ((some FieldType.int))) (hd : 3 ≤ d) : ∀ (u : zM), Go p l e s m args below meth c as dA D SHM d 3 zQi 40 [(0, .ref 0), (1, .int p1), (2, .int p2)] [] u (f_X9_plan_L40 p1 p2 u) := by
  intro u
  unfold f_X9_plan_L40
  refine G_iload_n C 1 dX9_plan_40 rfl rfl ?_
  refine G_iconst (v := 3) C dX9_plan_41 (by decide) ?_
  refine G_icmp_ne (tgt := 55) C dX9_plan_42 (by decide) (fun _ => ?_) (fun _ => ?_)
  · refine G_locals [0, 1, 2] rfl ?_
    exact go_X9_plan_L55 C hd u
  · refine G_aload_n C 0 dX9_plan_45 rfl rfl ?_
    refine G_iload_n C 2 dX9_plan_46 rfl rfl ?_
    refine G_callVi C (m_X9_isWork p2 u (d - 1) (by omega)) (d' := d - 1) (As := [.int p2]) (by omega) rfl wm9_271 wwX9_isWork shM_0 rfl (Nat.le_of_ble_eq_true rfl) dX9_plan_47 (fun y8 u9 => ?_)
    refine G_if_ne (tgt := 55) C dX9_plan_50 (by decide) (fun _ => ?_) (fun _ => ?_)
    · refine G_locals [0, 1, 2] rfl ?_
      exact go_X9_plan_L55 C hd u9
    · refine G_iconst (v := -1) C dX9_plan_53 (by decide) ?_
      exact G_iret C dX9_plan_54
set_option maxRecDepth 20000 in
theorem go_X9_plan {p : Program} {l : Launch} {e : Env} {s : State} {m : MethodId} {args : Array Value} {below : List Frame} {meth : Method} {c : Code} {as : Nat → Nat} {dA : Nat → ClassId} {D : va_G} {d : Nat} {p1 : Int32} {p2 : Int32} (C : zCx p s m args meth c as dA D SHM d 3 yX9_plan.cls cX9_plan ((some FieldType.int))) (hd : 3 ≤ d) : ∀ (u : zM), Go p l e s m args below meth c as dA D SHM d 3 zQi 0 [(0, .ref 0), (1, .int p1), (2, .int p2)] [] u (f_X9_plan p1 p2 u) := by
  intro u
  unfold f_X9_plan
  refine G_iload_n C 1 dX9_plan_0 rfl rfl ?_
  refine G_iconst (v := -1) C dX9_plan_1 (by decide) ?_
  refine G_icmp_ne (tgt := 12) C dX9_plan_2 (by decide) (fun _ => ?_) (fun _ => ?_)
  · refine G_aload_n C 0 dX9_plan_12 rfl rfl ?_
    refine G_iload_n C 1 dX9_plan_13 rfl rfl ?_
    refine G_iconst (v := 0) C dX9_plan_14 (by decide) ?_
    refine G_iconst (v := 3) C dX9_plan_15 (by decide) ?_
    refine G_callVi C (m_X9_in p1 (0 : Int32) (3 : Int32) u (d - 1) (by omega)) (d' := d - 1) (As := [.int p1, .int (0 : Int32), .int (3 : Int32)]) (by omega) rfl wm9_252 wwX9_in shM_0 rfl (Nat.le_of_ble_eq_true rfl) dX9_plan_16 (fun y1 u2 => ?_)
    refine G_if_eq (tgt := 53) C dX9_plan_19 (by decide) (fun _ => ?_) (fun _ => ?_)
    · refine G_iconst (v := -1) C dX9_plan_53 (by decide) ?_
      exact G_iret C dX9_plan_54
    · refine G_aload_n C 0 dX9_plan_22 rfl rfl ?_
      refine G_iload_n C 1 dX9_plan_23 rfl rfl ?_
      refine G_iconst (v := 1) C dX9_plan_24 (by decide) ?_
      refine G_iconst (v := 2) C dX9_plan_25 (by decide) ?_
      refine G_callVi C (m_X9_in p1 (1 : Int32) (2 : Int32) u2 (d - 1) (by omega)) (d' := d - 1) (As := [.int p1, .int (1 : Int32), .int (2 : Int32)]) (by omega) rfl wm9_252 wwX9_in shM_0 rfl (Nat.le_of_ble_eq_true rfl) dX9_plan_26 (fun y3 u4 => ?_)
      refine G_if_eq (tgt := 40) C dX9_plan_29 (by decide) (fun _ => ?_) (fun _ => ?_)
      · refine G_locals [0, 1, 2] rfl ?_
        exact go_X9_plan_L40 C hd u4
      · refine G_aload_n C 0 dX9_plan_32 rfl rfl ?_
        refine G_iload_n C 2 dX9_plan_33 rfl rfl ?_
        refine G_callVi C (m_X9_isOne p2 u4 (d - 1) (by omega)) (d' := d - 1) (As := [.int p2]) (by omega) rfl wm9_260 wwX9_isOne shM_0 rfl (Nat.le_of_ble_eq_true rfl) dX9_plan_34 (fun y10 u11 => ?_)
        refine G_if_eq (tgt := 53) C dX9_plan_37 (by decide) (fun _ => ?_) (fun _ => ?_)
        · refine G_iconst (v := -1) C dX9_plan_53 (by decide) ?_
          exact G_iret C dX9_plan_54
        · refine G_locals [0, 1, 2] rfl ?_
          exact go_X9_plan_L40 C hd u11
  · refine G_aload_n C 0 dX9_plan_5 rfl rfl ?_
    refine G_iconst (v := 0) C dX9_plan_6 (by decide) ?_
    refine G_putI (ty := .int) C 42 shM_0 rfl rfl (by decide) wf9_138 rfl (by decide +kernel) rfl rfl dX9_plan_7 (fun u12 => ?_)
    refine G_iconst (v := 0) C dX9_plan_10 (by decide) ?_
    exact G_iret C dX9_plan_11
theorem m_X9_plan   (p1 : Int32) (p2 : Int32) (u : zM) (d : Nat) (hd : 3 ≤ d) : zMet zQi SHM yX9_plan cX9_plan 3 ((some FieldType.int)) d [.ref 0, .int p1, .int p2] u (f_X9_plan p1 p2 u) :=
  zMet_of (by decide +kernel) (fun as => Nat.le_of_ble_eq_true rfl) wwX9_plan.2.2.2.1 (by omega) (fun p l e s m args below meth c as dA D C => go_X9_plan C hd u)
/-! private void goPlan(int, int) -/
def f_X9_goPlan_L8 (p1 : Int32) (p2 : Int32) (u : zM) : Option (Unit × zM) :=
  zb (f_X9_in p1 (1 : Int32) (2 : Int32) u) fun y1 u2 => (if y1 = (0 : Int32) then (if p1 = (3 : Int32) then zlet (sI u2 0 3 p2) fun u3 => some ((), u3) else some ((), u2)) else (if p1 = (1 : Int32) then zb (f_X9_goes p2 (1 : Int32) u2) fun _ u8 => (if p1 = (3 : Int32) then zlet (sI u8 0 3 p2) fun u9 => some ((), u9) else some ((), u8)) else zb (f_X9_goes p2 (0 : Int32) u2) fun _ u5 => (if p1 = (3 : Int32) then zlet (sI u5 0 3 p2) fun u6 => some ((), u6) else some ((), u5))))
def f_X9_goPlan (p1 : Int32) (p2 : Int32) (u : zM) : Option (Unit × zM) :=
  (if p1 = (0 : Int32) then zb (f_X9_goMinute u) fun _ u11 => f_X9_goPlan_L8 p1 p2 u11 else f_X9_goPlan_L8 p1 p2 u)
set_option maxRecDepth 20000 in
theorem go_X9_goPlan_L8 {p : Program} {l : Launch} {e : Env} {s : State} {m : MethodId} {args : Array Value} {below : List Frame} {meth : Method} {c : Code} {as : Nat → Nat} {dA : Nat → ClassId} {D : va_G} {d : Nat} {p1 : Int32} {p2 : Int32} (C : zCx p s m args meth c as dA D SHM d 3 yX9_goPlan.cls cX9_goPlan (none)) (hd : 8 ≤ d) : ∀ (u : zM), Go p l e s m args below meth c as dA D SHM d 3 zQv 8 [(0, .ref 0), (1, .int p1), (2, .int p2)] [] u (f_X9_goPlan_L8 p1 p2 u) := by
  intro u
  unfold f_X9_goPlan_L8
  refine G_aload_n C 0 dX9_goPlan_8 rfl rfl ?_
  refine G_iload_n C 1 dX9_goPlan_9 rfl rfl ?_
  refine G_iconst (v := 1) C dX9_goPlan_10 (by decide) ?_
  refine G_iconst (v := 2) C dX9_goPlan_11 (by decide) ?_
  refine G_callVi C (m_X9_in p1 (1 : Int32) (2 : Int32) u (d - 1) (by omega)) (d' := d - 1) (As := [.int p1, .int (1 : Int32), .int (2 : Int32)]) (by omega) rfl wm9_252 wwX9_in shM_0 rfl (Nat.le_of_ble_eq_true rfl) dX9_goPlan_12 (fun y1 u2 => ?_)
  refine G_if_eq (tgt := 33) C dX9_goPlan_15 (by decide) (fun _ => ?_) (fun _ => ?_)
  · refine G_iload_n C 1 dX9_goPlan_33 rfl rfl ?_
    refine G_iconst (v := 3) C dX9_goPlan_34 (by decide) ?_
    refine G_icmp_ne (tgt := 43) C dX9_goPlan_35 (by decide) (fun _ => ?_) (fun _ => ?_)
    · exact G_vret C dX9_goPlan_43
    · refine G_aload_n C 0 dX9_goPlan_38 rfl rfl ?_
      refine G_iload_n C 2 dX9_goPlan_39 rfl rfl ?_
      refine G_putI (ty := .int) C 3 shM_0 rfl rfl (by decide) wf9_19 rfl (by decide +kernel) rfl rfl dX9_goPlan_40 (fun u3 => ?_)
      exact G_vret C dX9_goPlan_43
  · refine G_aload_n C 0 dX9_goPlan_18 rfl rfl ?_
    refine G_iload_n C 2 dX9_goPlan_19 rfl rfl ?_
    refine G_iload_n C 1 dX9_goPlan_20 rfl rfl ?_
    refine G_iconst (v := 1) C dX9_goPlan_21 (by decide) ?_
    refine G_icmp_ne (tgt := 29) C dX9_goPlan_22 (by decide) (fun _ => ?_) (fun _ => ?_)
    · refine G_iconst (v := 0) C dX9_goPlan_29 (by decide) ?_
      refine G_callVv C (m_X9_goes p2 (0 : Int32) u2 (d - 1) (by omega)) (d' := d - 1) (As := [.int p2, .int (0 : Int32)]) (by omega) rfl wm9_267 wwX9_goes shM_0 rfl (Nat.le_of_ble_eq_true rfl) dX9_goPlan_30 (fun y4 u5 => ?_)
      refine G_iload_n C 1 dX9_goPlan_33 rfl rfl ?_
      refine G_iconst (v := 3) C dX9_goPlan_34 (by decide) ?_
      refine G_icmp_ne (tgt := 43) C dX9_goPlan_35 (by decide) (fun _ => ?_) (fun _ => ?_)
      · exact G_vret C dX9_goPlan_43
      · refine G_aload_n C 0 dX9_goPlan_38 rfl rfl ?_
        refine G_iload_n C 2 dX9_goPlan_39 rfl rfl ?_
        refine G_putI (ty := .int) C 3 shM_0 rfl rfl (by decide) wf9_19 rfl (by decide +kernel) rfl rfl dX9_goPlan_40 (fun u6 => ?_)
        exact G_vret C dX9_goPlan_43
    · refine G_iconst (v := 1) C dX9_goPlan_25 (by decide) ?_
      refine G_goto (tgt := 30) C dX9_goPlan_26 (by decide) ?_
      refine G_callVv C (m_X9_goes p2 (1 : Int32) u2 (d - 1) (by omega)) (d' := d - 1) (As := [.int p2, .int (1 : Int32)]) (by omega) rfl wm9_267 wwX9_goes shM_0 rfl (Nat.le_of_ble_eq_true rfl) dX9_goPlan_30 (fun y7 u8 => ?_)
      refine G_iload_n C 1 dX9_goPlan_33 rfl rfl ?_
      refine G_iconst (v := 3) C dX9_goPlan_34 (by decide) ?_
      refine G_icmp_ne (tgt := 43) C dX9_goPlan_35 (by decide) (fun _ => ?_) (fun _ => ?_)
      · exact G_vret C dX9_goPlan_43
      · refine G_aload_n C 0 dX9_goPlan_38 rfl rfl ?_
        refine G_iload_n C 2 dX9_goPlan_39 rfl rfl ?_
        refine G_putI (ty := .int) C 3 shM_0 rfl rfl (by decide) wf9_19 rfl (by decide +kernel) rfl rfl dX9_goPlan_40 (fun u9 => ?_)
        exact G_vret C dX9_goPlan_43
set_option maxRecDepth 20000 in
theorem go_X9_goPlan {p : Program} {l : Launch} {e : Env} {s : State} {m : MethodId} {args : Array Value} {below : List Frame} {meth : Method} {c : Code} {as : Nat → Nat} {dA : Nat → ClassId} {D : va_G} {d : Nat} {p1 : Int32} {p2 : Int32} (C : zCx p s m args meth c as dA D SHM d 3 yX9_goPlan.cls cX9_goPlan (none)) (hd : 8 ≤ d) : ∀ (u : zM), Go p l e s m args below meth c as dA D SHM d 3 zQv 0 [(0, .ref 0), (1, .int p1), (2, .int p2)] [] u (f_X9_goPlan p1 p2 u) := by
  intro u
  unfold f_X9_goPlan
  refine G_iload_n C 1 dX9_goPlan_0 rfl rfl ?_
  refine G_if_ne (tgt := 8) C dX9_goPlan_1 (by decide) (fun _ => ?_) (fun _ => ?_)
  · refine G_locals [0, 1, 2] rfl ?_
    exact go_X9_goPlan_L8 C hd u
  · refine G_aload_n C 0 dX9_goPlan_4 rfl rfl ?_
    refine G_callVv C (m_X9_goMinute u (d - 1) (by omega)) (d' := d - 1) (As := []) (by omega) rfl wm9_359 wwX9_goMinute shM_0 rfl (Nat.le_of_ble_eq_true rfl) dX9_goPlan_5 (fun y10 u11 => ?_)
    refine G_locals [0, 1, 2] rfl ?_
    exact go_X9_goPlan_L8 C hd u11
theorem m_X9_goPlan   (p1 : Int32) (p2 : Int32) (u : zM) (d : Nat) (hd : 8 ≤ d) : zMet zQv SHM yX9_goPlan cX9_goPlan 3 (none) d [.ref 0, .int p1, .int p2] u (f_X9_goPlan p1 p2 u) :=
  zMet_of (by decide +kernel) (fun as => Nat.le_of_ble_eq_true rfl) wwX9_goPlan.2.2.2.1 (by omega) (fun p l e s m args below meth c as dA D C => go_X9_goPlan C hd u)
/-! public int ends(int) -/
def f_X9_ends_L18_b (p1 : Int32) (rc : Int32 → zM → Option (Int32 × zM)) (x2 : Int32) (u : zM) : Option (Int32 × zM) :=
  (if (gI u 0 42) ≤ x2 then (if p1 = (0 : Int32) then zb (f_X9_allHeat u) fun y9 u10 => zb (f_X9_putBack u10) fun _ u12 => some (y9, u12) else zb (f_X9_doneSet u) fun y5 u6 => zb (f_X9_putBack u6) fun _ u8 => some (y5, u8)) else zck (inB x2 10) <| zck (inB x2 10) <| zb (f_X9_goPlan (gI u 26 x2.toNatClampNeg) (gI u 27 x2.toNatClampNeg) u) fun _ u16 => rc (x2 + (1 : Int32)) u16)
def f_X9_ends_L18 (p1 : Int32) : Nat → Int32 → zM → Option (Int32 × zM)
  | 0 => fun _ _ => none
  | fn + 1 => f_X9_ends_L18_b p1 (f_X9_ends_L18 p1 fn)
def f_X9_ends (p1 : Int32) (u : zM) : Option (Int32 × zM) :=
  zb (f_X9_in p1 (0 : Int32) (1 : Int32) u) fun y1 u2 => (if y1 = (0 : Int32) then some ((-1 : Int32), u2) else zb (f_X9_save u2) fun _ u4 => f_X9_ends_L18 p1 400 (0 : Int32) u4)
set_option maxRecDepth 20000 in
theorem go_X9_ends_L18 {p : Program} {l : Launch} {e : Env} {s : State} {m : MethodId} {args : Array Value} {below : List Frame} {meth : Method} {c : Code} {as : Nat → Nat} {dA : Nat → ClassId} {D : va_G} {d : Nat} {p1 : Int32} (C : zCx p s m args meth c as dA D SHM d 3 yX9_ends.cls cX9_ends ((some FieldType.int))) (hd : 9 ≤ d) : ∀ (fn : Nat) (x2 : Int32) (u : zM), Go p l e s m args below meth c as dA D SHM d 3 zQi 18 [(0, .ref 0), (1, .int p1), (2, .int x2)] [] u (f_X9_ends_L18 p1 fn x2 u) := by
  intro fn
  induction fn with
  | zero => intro x2 u; exact G_none
  | succ fn ih =>
    intro x2 u
    show Go p l e s m args below meth c as dA D SHM d 3 zQi 18 [(0, .ref 0), (1, .int p1), (2, .int x2)] [] u (f_X9_ends_L18_b p1 (f_X9_ends_L18 p1 fn) x2 u)
    unfold f_X9_ends_L18_b
    refine G_iload_n C 2 dX9_ends_18 rfl rfl ?_
    refine G_aload_n C 0 dX9_ends_19 rfl rfl ?_
    refine G_getI C 42 shM_0 rfl rfl (by decide) wf9_138 dX9_ends_20 ?_
    refine G_icmp_ge (tgt := 48) C dX9_ends_23 (by decide) (fun _ => ?_) (fun _ => ?_)
    · refine G_iload_n C 1 dX9_ends_48 rfl rfl ?_
      refine G_if_ne (tgt := 59) C dX9_ends_49 (by decide) (fun _ => ?_) (fun _ => ?_)
      · refine G_aload_n C 0 dX9_ends_59 rfl rfl ?_
        refine G_callVi C (m_X9_doneSet u (d - 1) (by omega)) (d' := d - 1) (As := []) (by omega) rfl wm9_347 wwX9_doneSet shM_0 rfl (Nat.le_of_ble_eq_true rfl) dX9_ends_60 (fun y5 u6 => ?_)
        refine G_istore_n (L' := [(2, .int y5), (0, .ref 0), (1, .int p1)]) C dX9_ends_63 rfl (by decide) rfl ?_
        refine G_aload_n C 1 dX9_ends_64 rfl rfl ?_
        refine G_callVv C (m_X9_putBack u6 (d - 1) (by omega)) (d' := d - 1) (As := []) (by omega) rfl wm9_371 wwX9_putBack shM_0 rfl (Nat.le_of_ble_eq_true rfl) dX9_ends_65 (fun y7 u8 => ?_)
        refine G_iload_n C 0 dX9_ends_68 rfl rfl ?_
        exact G_iret C dX9_ends_69
      · refine G_aload_n C 0 dX9_ends_52 rfl rfl ?_
        refine G_callVi C (m_X9_allHeat u (d - 1) (by omega)) (d' := d - 1) (As := []) (by omega) rfl wm9_353 wwX9_allHeat shM_0 rfl (Nat.le_of_ble_eq_true rfl) dX9_ends_53 (fun y9 u10 => ?_)
        refine G_goto (tgt := 63) C dX9_ends_56 (by decide) ?_
        refine G_istore_n (L' := [(2, .int y9), (0, .ref 0), (1, .int p1)]) C dX9_ends_63 rfl (by decide) rfl ?_
        refine G_aload_n C 1 dX9_ends_64 rfl rfl ?_
        refine G_callVv C (m_X9_putBack u10 (d - 1) (by omega)) (d' := d - 1) (As := []) (by omega) rfl wm9_371 wwX9_putBack shM_0 rfl (Nat.le_of_ble_eq_true rfl) dX9_ends_65 (fun y11 u12 => ?_)
        refine G_iload_n C 0 dX9_ends_68 rfl rfl ?_
        exact G_iret C dX9_ends_69
    · refine G_aload_n C 0 dX9_ends_26 rfl rfl ?_
      refine G_aload_n C 0 dX9_ends_27 rfl rfl ?_
      refine G_getR (j := 26) C 44 shM_0 rfl rfl (by decide) wf9_144 dX9_ends_28 ?_
      refine G_iload_n C 2 dX9_ends_31 rfl rfl ?_
      refine G_iald C shM_26 dX9_ends_32 (fun hb13 => ?_)
      refine G_aload_n C 0 dX9_ends_33 rfl rfl ?_
      refine G_getR (j := 27) C 45 shM_0 rfl rfl (by decide) wf9_147 dX9_ends_34 ?_
      refine G_iload_n C 2 dX9_ends_37 rfl rfl ?_
      refine G_iald C shM_27 dX9_ends_38 (fun hb14 => ?_)
      refine G_callVv C (m_X9_goPlan (gI u 26 x2.toNatClampNeg) (gI u 27 x2.toNatClampNeg) u (d - 1) (by omega)) (d' := d - 1) (As := [.int (gI u 26 x2.toNatClampNeg), .int (gI u 27 x2.toNatClampNeg)]) (by omega) rfl wm9_410 wwX9_goPlan shM_0 rfl (Nat.le_of_ble_eq_true rfl) dX9_ends_39 (fun y15 u16 => ?_)
      refine G_iinc (v := 1) (L' := [(2, .int (x2 + (1 : Int32))), (0, .ref 0), (1, .int p1)]) C 2 dX9_ends_42 rfl (by decide) (by decide) rfl ?_
      refine G_goto (tgt := 18) C dX9_ends_45 (by decide) ?_
      refine G_locals [1, 2, 0] rfl ?_
      exact ih (x2 + (1 : Int32)) u16
set_option maxRecDepth 20000 in
theorem go_X9_ends {p : Program} {l : Launch} {e : Env} {s : State} {m : MethodId} {args : Array Value} {below : List Frame} {meth : Method} {c : Code} {as : Nat → Nat} {dA : Nat → ClassId} {D : va_G} {d : Nat} {p1 : Int32} (C : zCx p s m args meth c as dA D SHM d 3 yX9_ends.cls cX9_ends ((some FieldType.int))) (hd : 9 ≤ d) : ∀ (u : zM), Go p l e s m args below meth c as dA D SHM d 3 zQi 0 [(0, .ref 0), (1, .int p1)] [] u (f_X9_ends p1 u) := by
  intro u
  unfold f_X9_ends
  refine G_aload_n C 0 dX9_ends_0 rfl rfl ?_
  refine G_iload_n C 1 dX9_ends_1 rfl rfl ?_
  refine G_iconst (v := 0) C dX9_ends_2 (by decide) ?_
  refine G_iconst (v := 1) C dX9_ends_3 (by decide) ?_
  refine G_callVi C (m_X9_in p1 (0 : Int32) (1 : Int32) u (d - 1) (by omega)) (d' := d - 1) (As := [.int p1, .int (0 : Int32), .int (1 : Int32)]) (by omega) rfl wm9_252 wwX9_in shM_0 rfl (Nat.le_of_ble_eq_true rfl) dX9_ends_4 (fun y1 u2 => ?_)
  refine G_if_ne (tgt := 12) C dX9_ends_7 (by decide) (fun _ => ?_) (fun _ => ?_)
  · refine G_aload_n C 0 dX9_ends_12 rfl rfl ?_
    refine G_callVv C (m_X9_save u2 (d - 1) (by omega)) (d' := d - 1) (As := []) (by omega) rfl wm9_368 wwX9_save shM_0 rfl (Nat.le_of_ble_eq_true rfl) dX9_ends_13 (fun y3 u4 => ?_)
    refine G_iconst (v := 0) C dX9_ends_16 (by decide) ?_
    refine G_istore_n (L' := [(2, .int (0 : Int32)), (0, .ref 0), (1, .int p1)]) C dX9_ends_17 rfl (by decide) rfl ?_
    refine G_locals [1, 2, 0] rfl ?_
    exact go_X9_ends_L18 C hd 400 (0 : Int32) u4
  · refine G_iconst (v := -1) C dX9_ends_10 (by decide) ?_
    exact G_iret C dX9_ends_11
theorem m_X9_ends   (p1 : Int32) (u : zM) (d : Nat) (hd : 9 ≤ d) : zMet zQi SHM yX9_ends cX9_ends 3 ((some FieldType.int)) d [.ref 0, .int p1] u (f_X9_ends p1 u) :=
  zMet_of (by decide +kernel) (fun as => Nat.le_of_ble_eq_true rfl) wwX9_ends.2.2.2.1 (by omega) (fun p l e s m args below meth c as dA D C => go_X9_ends C hd u)
/-! public int book(int, int) -/
def f_X9_book (p1 : Int32) (p2 : Int32) (u : zM) : Option (Int32 × zM) :=
  (if p1 = (-1 : Int32) then zlet (sI u 0 43 (0 : Int32)) fun u8 => some ((0 : Int32), u8) else zb (f_X9_isOne p1 u) fun y1 u2 => (if y1 = (0 : Int32) then some ((-1 : Int32), u2) else zb (f_X9_isHeat p2 u2) fun y3 u4 => (if y3 = (0 : Int32) then some ((-2 : Int32), u4) else (if (gI u4 0 43) = (8 : Int32) then some ((-4 : Int32), u4) else zck (inB (gI u4 0 43) 8) <| zlet (sI u4 28 (gI u4 0 43).toNatClampNeg p1) fun u5 => zck (inB (gI u5 0 43) 8) <| zlet (sI u5 29 (gI u5 0 43).toNatClampNeg p2) fun u6 => zlet (sI u6 0 43 ((gI u6 0 43) + (1 : Int32))) fun u7 => some ((gI u7 0 43), u7)))))
set_option maxRecDepth 20000 in
theorem go_X9_book {p : Program} {l : Launch} {e : Env} {s : State} {m : MethodId} {args : Array Value} {below : List Frame} {meth : Method} {c : Code} {as : Nat → Nat} {dA : Nat → ClassId} {D : va_G} {d : Nat} {p1 : Int32} {p2 : Int32} (C : zCx p s m args meth c as dA D SHM d 3 yX9_book.cls cX9_book ((some FieldType.int))) (hd : 3 ≤ d) : ∀ (u : zM), Go p l e s m args below meth c as dA D SHM d 3 zQi 0 [(0, .ref 0), (1, .int p1), (2, .int p2)] [] u (f_X9_book p1 p2 u) := by
  intro u
  unfold f_X9_book
  refine G_iload_n C 1 dX9_book_0 rfl rfl ?_
  refine G_iconst (v := -1) C dX9_book_1 (by decide) ?_
  refine G_icmp_ne (tgt := 12) C dX9_book_2 (by decide) (fun _ => ?_) (fun _ => ?_)
  · refine G_aload_n C 0 dX9_book_12 rfl rfl ?_
    refine G_iload_n C 1 dX9_book_13 rfl rfl ?_
    refine G_callVi C (m_X9_isOne p1 u (d - 1) (by omega)) (d' := d - 1) (As := [.int p1]) (by omega) rfl wm9_260 wwX9_isOne shM_0 rfl (Nat.le_of_ble_eq_true rfl) dX9_book_14 (fun y1 u2 => ?_)
    refine G_if_ne (tgt := 22) C dX9_book_17 (by decide) (fun _ => ?_) (fun _ => ?_)
    · refine G_aload_n C 0 dX9_book_22 rfl rfl ?_
      refine G_iload_n C 2 dX9_book_23 rfl rfl ?_
      refine G_callVi C (m_X9_isHeat p2 u2 (d - 1) (by omega)) (d' := d - 1) (As := [.int p2]) (by omega) rfl wm9_256 wwX9_isHeat shM_0 rfl (Nat.le_of_ble_eq_true rfl) dX9_book_24 (fun y3 u4 => ?_)
      refine G_if_ne (tgt := 33) C dX9_book_27 (by decide) (fun _ => ?_) (fun _ => ?_)
      · refine G_aload_n C 0 dX9_book_33 rfl rfl ?_
        refine G_getI C 43 shM_0 rfl rfl (by decide) wf9_141 dX9_book_34 ?_
        refine G_bipush (v := 8) C dX9_book_37 (by decide) ?_
        refine G_icmp_ne (tgt := 45) C dX9_book_39 (by decide) (fun _ => ?_) (fun _ => ?_)
        · refine G_aload_n C 0 dX9_book_45 rfl rfl ?_
          refine G_getR (j := 28) C 46 shM_0 rfl rfl (by decide) wf9_150 dX9_book_46 ?_
          refine G_aload_n C 0 dX9_book_49 rfl rfl ?_
          refine G_getI C 43 shM_0 rfl rfl (by decide) wf9_141 dX9_book_50 ?_
          refine G_iload_n C 1 dX9_book_53 rfl rfl ?_
          refine G_iast C shM_28 dX9_book_54 (fun _ u5 => ?_)
          refine G_aload_n C 0 dX9_book_55 rfl rfl ?_
          refine G_getR (j := 29) C 47 shM_0 rfl rfl (by decide) wf9_153 dX9_book_56 ?_
          refine G_aload_n C 0 dX9_book_59 rfl rfl ?_
          refine G_getI C 43 shM_0 rfl rfl (by decide) wf9_141 dX9_book_60 ?_
          refine G_iload_n C 2 dX9_book_63 rfl rfl ?_
          refine G_iast C shM_29 dX9_book_64 (fun _ u6 => ?_)
          refine G_aload_n C 0 dX9_book_65 rfl rfl ?_
          refine G_dup C dX9_book_66 rfl ?_
          refine G_getI C 43 shM_0 rfl rfl (by decide) wf9_141 dX9_book_67 ?_
          refine G_iconst (v := 1) C dX9_book_70 (by decide) ?_
          refine G_iadd C dX9_book_71 ?_
          refine G_putI (ty := .int) C 43 shM_0 rfl rfl (by decide) wf9_141 rfl (by decide +kernel) rfl rfl dX9_book_72 (fun u7 => ?_)
          refine G_aload_n C 0 dX9_book_75 rfl rfl ?_
          refine G_getI C 43 shM_0 rfl rfl (by decide) wf9_141 dX9_book_76 ?_
          exact G_iret C dX9_book_79
        · refine G_bipush (v := -4) C dX9_book_42 (by decide) ?_
          exact G_iret C dX9_book_44
      · refine G_bipush (v := -2) C dX9_book_30 (by decide) ?_
        exact G_iret C dX9_book_32
    · refine G_iconst (v := -1) C dX9_book_20 (by decide) ?_
      exact G_iret C dX9_book_21
  · refine G_aload_n C 0 dX9_book_5 rfl rfl ?_
    refine G_iconst (v := 0) C dX9_book_6 (by decide) ?_
    refine G_putI (ty := .int) C 43 shM_0 rfl rfl (by decide) wf9_141 rfl (by decide +kernel) rfl rfl dX9_book_7 (fun u8 => ?_)
    refine G_iconst (v := 0) C dX9_book_10 (by decide) ?_
    exact G_iret C dX9_book_11
theorem m_X9_book   (p1 : Int32) (p2 : Int32) (u : zM) (d : Nat) (hd : 3 ≤ d) : zMet zQi SHM yX9_book cX9_book 3 ((some FieldType.int)) d [.ref 0, .int p1, .int p2] u (f_X9_book p1 p2 u) :=
  zMet_of (by decide +kernel) (fun as => Nat.le_of_ble_eq_true rfl) wwX9_book.2.2.2.1 (by omega) (fun p l e s m args below meth c as dA D C => go_X9_book C hd u)
/-! public int looked() -/
def f_X9_looked_L2_b  (rc : Int32 → zM → Option (Int32 × zM)) (x1 : Int32) (u : zM) : Option (Int32 × zM) :=
  (if (gI u 0 43) ≤ x1 then some ((-5 : Int32), u) else zck (inB x1 8) <| zck (inB (gI u 28 x1.toNatClampNeg) 6) <| zck (inB x1 8) <| (if (gI u 3 (gI u 28 x1.toNatClampNeg).toNatClampNeg) = (gI u 29 x1.toNatClampNeg) then rc (x1 + (1 : Int32)) u else some (x1, u)))
def f_X9_looked_L2  : Nat → Int32 → zM → Option (Int32 × zM)
  | 0 => fun _ _ => none
  | fn + 1 => f_X9_looked_L2_b  (f_X9_looked_L2  fn)
def f_X9_looked (u : zM) : Option (Int32 × zM) :=
  f_X9_looked_L2 400 (0 : Int32) u
set_option maxRecDepth 20000 in
theorem go_X9_looked_L2 {p : Program} {l : Launch} {e : Env} {s : State} {m : MethodId} {args : Array Value} {below : List Frame} {meth : Method} {c : Code} {as : Nat → Nat} {dA : Nat → ClassId} {D : va_G} {d : Nat}  (C : zCx p s m args meth c as dA D SHM d 2 yX9_looked.cls cX9_looked ((some FieldType.int))) (hd : 1 ≤ d) : ∀ (fn : Nat) (x1 : Int32) (u : zM), Go p l e s m args below meth c as dA D SHM d 2 zQi 2 [(0, .ref 0), (1, .int x1)] [] u (f_X9_looked_L2 fn x1 u) := by
  intro fn
  induction fn with
  | zero => intro x1 u; exact G_none
  | succ fn ih =>
    intro x1 u
    show Go p l e s m args below meth c as dA D SHM d 2 zQi 2 [(0, .ref 0), (1, .int x1)] [] u (f_X9_looked_L2_b  (f_X9_looked_L2  fn) x1 u)
    unfold f_X9_looked_L2_b
    refine G_iload_n C 1 dX9_looked_2 rfl rfl ?_
    refine G_aload_n C 0 dX9_looked_3 rfl rfl ?_
    refine G_getI C 43 shM_0 rfl rfl (by decide) wf9_141 dX9_looked_4 ?_
    refine G_icmp_ge (tgt := 38) C dX9_looked_7 (by decide) (fun _ => ?_) (fun _ => ?_)
    · refine G_bipush (v := -5) C dX9_looked_38 (by decide) ?_
      exact G_iret C dX9_looked_40
    · refine G_aload_n C 0 dX9_looked_10 rfl rfl ?_
      refine G_getR (j := 3) C 7 shM_0 rfl rfl (by decide) wf9_32 dX9_looked_11 ?_
      refine G_aload_n C 0 dX9_looked_14 rfl rfl ?_
      refine G_getR (j := 28) C 46 shM_0 rfl rfl (by decide) wf9_150 dX9_looked_15 ?_
      refine G_iload_n C 1 dX9_looked_18 rfl rfl ?_
      refine G_iald C shM_28 dX9_looked_19 (fun hb1 => ?_)
      refine G_iald C shM_3 dX9_looked_20 (fun hb2 => ?_)
      refine G_aload_n C 0 dX9_looked_21 rfl rfl ?_
      refine G_getR (j := 29) C 47 shM_0 rfl rfl (by decide) wf9_153 dX9_looked_22 ?_
      refine G_iload_n C 1 dX9_looked_25 rfl rfl ?_
      refine G_iald C shM_29 dX9_looked_26 (fun hb3 => ?_)
      refine G_icmp_eq (tgt := 32) C dX9_looked_27 (by decide) (fun _ => ?_) (fun _ => ?_)
      · refine G_iinc (v := 1) (L' := [(1, .int (x1 + (1 : Int32))), (0, .ref 0)]) C 1 dX9_looked_32 rfl (by decide) (by decide) rfl ?_
        refine G_goto (tgt := 2) C dX9_looked_35 (by decide) ?_
        refine G_locals [1, 0] rfl ?_
        exact ih (x1 + (1 : Int32)) u
      · refine G_iload_n C 1 dX9_looked_30 rfl rfl ?_
        exact G_iret C dX9_looked_31
set_option maxRecDepth 20000 in
theorem go_X9_looked {p : Program} {l : Launch} {e : Env} {s : State} {m : MethodId} {args : Array Value} {below : List Frame} {meth : Method} {c : Code} {as : Nat → Nat} {dA : Nat → ClassId} {D : va_G} {d : Nat}  (C : zCx p s m args meth c as dA D SHM d 2 yX9_looked.cls cX9_looked ((some FieldType.int))) (hd : 1 ≤ d) : ∀ (u : zM), Go p l e s m args below meth c as dA D SHM d 2 zQi 0 [(0, .ref 0)] [] u (f_X9_looked  u) := by
  intro u
  unfold f_X9_looked
  refine G_iconst (v := 0) C dX9_looked_0 (by decide) ?_
  refine G_istore_n (L' := [(1, .int (0 : Int32)), (0, .ref 0)]) C dX9_looked_1 rfl (by decide) rfl ?_
  refine G_locals [1, 0] rfl ?_
  exact go_X9_looked_L2 C hd 400 (0 : Int32) u
theorem m_X9_looked    (u : zM) (d : Nat) (hd : 1 ≤ d) : zMet zQi SHM yX9_looked cX9_looked 2 ((some FieldType.int)) d [.ref 0] u (f_X9_looked  u) :=
  zMet_of (by decide +kernel) (fun as => Nat.le_of_ble_eq_true rfl) wwX9_looked.2.2.2.1 (by omega) (fun p l e s m args below meth c as dA D C => go_X9_looked C hd u)
/-! private boolean isTape(int) -/
def f_X9_isTape (p1 : Int32) (u : zM) : Option (Int32 × zM) :=
  zb (f_X9_in p1 (0 : Int32) (5 : Int32) u) fun y1 u2 => zck (z01 y1) <| some (y1, u2)
set_option maxRecDepth 20000 in
theorem go_X9_isTape {p : Program} {l : Launch} {e : Env} {s : State} {m : MethodId} {args : Array Value} {below : List Frame} {meth : Method} {c : Code} {as : Nat → Nat} {dA : Nat → ClassId} {D : va_G} {d : Nat} {p1 : Int32} (C : zCx p s m args meth c as dA D SHM d 2 yX9_isTape.cls cX9_isTape ((some FieldType.boolean))) (hd : 2 ≤ d) : ∀ (u : zM), Go p l e s m args below meth c as dA D SHM d 2 zQi 0 [(0, .ref 0), (1, .int p1)] [] u (f_X9_isTape p1 u) := by
  intro u
  unfold f_X9_isTape
  refine G_aload_n C 0 dX9_isTape_0 rfl rfl ?_
  refine G_iload_n C 1 dX9_isTape_1 rfl rfl ?_
  refine G_iconst (v := 0) C dX9_isTape_2 (by decide) ?_
  refine G_iconst (v := 5) C dX9_isTape_3 (by decide) ?_
  refine G_callVi C (m_X9_in p1 (0 : Int32) (5 : Int32) u (d - 1) (by omega)) (d' := d - 1) (As := [.int p1, .int (0 : Int32), .int (5 : Int32)]) (by omega) rfl wm9_252 wwX9_in shM_0 rfl (Nat.le_of_ble_eq_true rfl) dX9_isTape_4 (fun y1 u2 => ?_)
  refine G_ck (fun hz3 => ?_)
  exact G_zret C (z01_nar hz3) dX9_isTape_7
theorem m_X9_isTape   (p1 : Int32) (u : zM) (d : Nat) (hd : 2 ≤ d) : zMet zQi SHM yX9_isTape cX9_isTape 2 ((some FieldType.boolean)) d [.ref 0, .int p1] u (f_X9_isTape p1 u) :=
  zMet_of (by decide +kernel) (fun as => Nat.le_of_ble_eq_true rfl) wwX9_isTape.2.2.2.1 (by omega) (fun p l e s m args below meth c as dA D C => go_X9_isTape C hd u)
/-! public int judge(int, int) -/
def f_X9_judge_L24_b (p1 : Int32) (p2 : Int32) (rc : Int32 → zM → Option (Int32 × zM)) (x3 : Int32) (u : zM) : Option (Int32 × zM) :=
  (if (gI u 0 0) ≤ x3 then some ((-5 : Int32), u) else zck (inB p1 6) <| (if (gI u 45 p1.toNatClampNeg) < (0 : Int32) then some (((100 : Int32) + x3), u) else (if p2 < (0 : Int32) then some (((100 : Int32) + x3), u) else zck (inB p1 6) <| (if p2 ≤ (((gI u 46 p1.toNatClampNeg) - x3) - (1 : Int32)) then zck (inB ((((60 : Int32) * p1) + p2) + x3) 360) <| zck (inB x3 6) <| (if (lg_cmp (gJ u 47 ((((60 : Int32) * p1) + p2) + x3).toNatClampNeg) ((gI u 3 x3.toNatClampNeg).toInt64)) = (0 : Int32) then rc (x3 + (1 : Int32)) u else some (x3, u)) else some (((100 : Int32) + x3), u)))))
def f_X9_judge_L24 (p1 : Int32) (p2 : Int32) : Nat → Int32 → zM → Option (Int32 × zM)
  | 0 => fun _ _ => none
  | fn + 1 => f_X9_judge_L24_b p1 p2 (f_X9_judge_L24 p1 p2 fn)
def f_X9_judge (p1 : Int32) (p2 : Int32) (u : zM) : Option (Int32 × zM) :=
  zb (f_X9_isTape p1 u) fun y1 u2 => (if y1 = (0 : Int32) then some ((-1 : Int32), u2) else zck (inB p1 6) <| (if (gI u2 45 p1.toNatClampNeg) ≤ (0 : Int32) then f_X9_judge_L24 p1 p2 400 (0 : Int32) u2 else some ((-12 : Int32), u2)))
set_option maxRecDepth 20000 in
theorem go_X9_judge_L24 {p : Program} {l : Launch} {e : Env} {s : State} {m : MethodId} {args : Array Value} {below : List Frame} {meth : Method} {c : Code} {as : Nat → Nat} {dA : Nat → ClassId} {D : va_G} {d : Nat} {p1 : Int32} {p2 : Int32} (C : zCx p s m args meth c as dA D SHM d 4 yX9_judge.cls cX9_judge ((some FieldType.int))) (hd : 3 ≤ d) : ∀ (fn : Nat) (x3 : Int32) (u : zM), Go p l e s m args below meth c as dA D SHM d 4 zQi 24 [(0, .ref 0), (1, .int p1), (2, .int p2), (3, .int x3)] [] u (f_X9_judge_L24 p1 p2 fn x3 u) := by
  intro fn
  induction fn with
  | zero => intro x3 u; exact G_none
  | succ fn ih =>
    intro x3 u
    show Go p l e s m args below meth c as dA D SHM d 4 zQi 24 [(0, .ref 0), (1, .int p1), (2, .int p2), (3, .int x3)] [] u (f_X9_judge_L24_b p1 p2 (f_X9_judge_L24 p1 p2 fn) x3 u)
    unfold f_X9_judge_L24_b
    refine G_iload_n C 3 dX9_judge_24 rfl rfl ?_
    refine G_aload_n C 0 dX9_judge_25 rfl rfl ?_
    refine G_getI C 0 shM_0 rfl rfl (by decide) wf9_7 dX9_judge_26 ?_
    refine G_icmp_ge (tgt := 96) C dX9_judge_29 (by decide) (fun _ => ?_) (fun _ => ?_)
    · refine G_bipush (v := -5) C dX9_judge_96 (by decide) ?_
      exact G_iret C dX9_judge_98
    · refine G_aload_n C 0 dX9_judge_32 rfl rfl ?_
      refine G_getR (j := 45) C 74 shM_0 rfl rfl (by decide) wf9_235 dX9_judge_33 ?_
      refine G_iload_n C 1 dX9_judge_36 rfl rfl ?_
      refine G_iald C shM_45 dX9_judge_37 (fun hb4 => ?_)
      refine G_if_lt (tgt := 59) C dX9_judge_38 (by decide) (fun _ => ?_) (fun _ => ?_)
      · refine G_bipush (v := 100) C dX9_judge_59 (by decide) ?_
        refine G_iload_n C 3 dX9_judge_61 rfl rfl ?_
        refine G_iadd C dX9_judge_62 ?_
        exact G_iret C dX9_judge_63
      · refine G_iload_n C 2 dX9_judge_41 rfl rfl ?_
        refine G_if_lt (tgt := 59) C dX9_judge_42 (by decide) (fun _ => ?_) (fun _ => ?_)
        · refine G_bipush (v := 100) C dX9_judge_59 (by decide) ?_
          refine G_iload_n C 3 dX9_judge_61 rfl rfl ?_
          refine G_iadd C dX9_judge_62 ?_
          exact G_iret C dX9_judge_63
        · refine G_iload_n C 2 dX9_judge_45 rfl rfl ?_
          refine G_aload_n C 0 dX9_judge_46 rfl rfl ?_
          refine G_getR (j := 46) C 75 shM_0 rfl rfl (by decide) wf9_238 dX9_judge_47 ?_
          refine G_iload_n C 1 dX9_judge_50 rfl rfl ?_
          refine G_iald C shM_46 dX9_judge_51 (fun hb5 => ?_)
          refine G_iload_n C 3 dX9_judge_52 rfl rfl ?_
          refine G_isub C dX9_judge_53 ?_
          refine G_iconst (v := 1) C dX9_judge_54 (by decide) ?_
          refine G_isub C dX9_judge_55 ?_
          refine G_icmp_le (tgt := 64) C dX9_judge_56 (by decide) (fun _ => ?_) (fun _ => ?_)
          · refine G_aload_n C 0 dX9_judge_64 rfl rfl ?_
            refine G_getR (j := 47) C 76 shM_0 rfl rfl (by decide) wf9_241 dX9_judge_65 ?_
            refine G_bipush (v := 60) C dX9_judge_68 (by decide) ?_
            refine G_iload_n C 1 dX9_judge_70 rfl rfl ?_
            refine G_imul C dX9_judge_71 ?_
            refine G_iload_n C 2 dX9_judge_72 rfl rfl ?_
            refine G_iadd C dX9_judge_73 ?_
            refine G_iload_n C 3 dX9_judge_74 rfl rfl ?_
            refine G_iadd C dX9_judge_75 ?_
            refine G_lald C shM_47 dX9_judge_76 (fun hb6 => ?_)
            refine G_aload_n C 0 dX9_judge_77 rfl rfl ?_
            refine G_getR (j := 3) C 7 shM_0 rfl rfl (by decide) wf9_32 dX9_judge_78 ?_
            refine G_iload_n C 3 dX9_judge_81 rfl rfl ?_
            refine G_iald C shM_3 dX9_judge_82 (fun hb7 => ?_)
            refine G_i2l C dX9_judge_83 ?_
            refine G_lcmp C dX9_judge_84 ?_
            refine G_if_eq (tgt := 90) C dX9_judge_85 (by decide) (fun _ => ?_) (fun _ => ?_)
            · refine G_iinc (v := 1) (L' := [(3, .int (x3 + (1 : Int32))), (0, .ref 0), (1, .int p1), (2, .int p2)]) C 3 dX9_judge_90 rfl (by decide) (by decide) rfl ?_
              refine G_goto (tgt := 24) C dX9_judge_93 (by decide) ?_
              refine G_locals [1, 2, 3, 0] rfl ?_
              exact ih (x3 + (1 : Int32)) u
            · refine G_iload_n C 3 dX9_judge_88 rfl rfl ?_
              exact G_iret C dX9_judge_89
          · refine G_bipush (v := 100) C dX9_judge_59 (by decide) ?_
            refine G_iload_n C 3 dX9_judge_61 rfl rfl ?_
            refine G_iadd C dX9_judge_62 ?_
            exact G_iret C dX9_judge_63
set_option maxRecDepth 20000 in
theorem go_X9_judge {p : Program} {l : Launch} {e : Env} {s : State} {m : MethodId} {args : Array Value} {below : List Frame} {meth : Method} {c : Code} {as : Nat → Nat} {dA : Nat → ClassId} {D : va_G} {d : Nat} {p1 : Int32} {p2 : Int32} (C : zCx p s m args meth c as dA D SHM d 4 yX9_judge.cls cX9_judge ((some FieldType.int))) (hd : 3 ≤ d) : ∀ (u : zM), Go p l e s m args below meth c as dA D SHM d 4 zQi 0 [(0, .ref 0), (1, .int p1), (2, .int p2)] [] u (f_X9_judge p1 p2 u) := by
  intro u
  unfold f_X9_judge
  refine G_aload_n C 0 dX9_judge_0 rfl rfl ?_
  refine G_iload_n C 1 dX9_judge_1 rfl rfl ?_
  refine G_callVi C (m_X9_isTape p1 u (d - 1) (by omega)) (d' := d - 1) (As := [.int p1]) (by omega) rfl wm9_414 wwX9_isTape shM_0 rfl (Nat.le_of_ble_eq_true rfl) dX9_judge_2 (fun y1 u2 => ?_)
  refine G_if_ne (tgt := 10) C dX9_judge_5 (by decide) (fun _ => ?_) (fun _ => ?_)
  · refine G_aload_n C 0 dX9_judge_10 rfl rfl ?_
    refine G_getR (j := 45) C 74 shM_0 rfl rfl (by decide) wf9_235 dX9_judge_11 ?_
    refine G_iload_n C 1 dX9_judge_14 rfl rfl ?_
    refine G_iald C shM_45 dX9_judge_15 (fun hb3 => ?_)
    refine G_if_le (tgt := 22) C dX9_judge_16 (by decide) (fun _ => ?_) (fun _ => ?_)
    · refine G_iconst (v := 0) C dX9_judge_22 (by decide) ?_
      refine G_istore_n (L' := [(3, .int (0 : Int32)), (0, .ref 0), (1, .int p1), (2, .int p2)]) C dX9_judge_23 rfl (by decide) rfl ?_
      refine G_locals [1, 2, 3, 0] rfl ?_
      exact go_X9_judge_L24 C hd 400 (0 : Int32) u2
    · refine G_bipush (v := -12) C dX9_judge_19 (by decide) ?_
      exact G_iret C dX9_judge_21
  · refine G_iconst (v := -1) C dX9_judge_8 (by decide) ?_
    exact G_iret C dX9_judge_9
theorem m_X9_judge   (p1 : Int32) (p2 : Int32) (u : zM) (d : Nat) (hd : 3 ≤ d) : zMet zQi SHM yX9_judge cX9_judge 4 ((some FieldType.int)) d [.ref 0, .int p1, .int p2] u (f_X9_judge p1 p2 u) :=
  zMet_of (by decide +kernel) (fun as => Nat.le_of_ble_eq_true rfl) wwX9_judge.2.2.2.1 (by omega) (fun p l e s m args below meth c as dA D C => go_X9_judge C hd u)
/-! public int image() -/
def f_X9_image_L291_b  (rc : Int32 → zM → Option (Int32 × zM)) (x1 : Int32) (u : zM) : Option (Int32 × zM) :=
  (if (8 : Int32) ≤ x1 then some ((gI u 0 0), u) else zck (inB x1 8) <| zck (inB x1 8) <| zlet (sI u 41 x1.toNatClampNeg (gI u 28 x1.toNatClampNeg)) fun u12 => zck (inB x1 8) <| zck (inB x1 8) <| zlet (sI u12 42 x1.toNatClampNeg (gI u12 29 x1.toNatClampNeg)) fun u14 => rc (x1 + (1 : Int32)) u14)
def f_X9_image_L291  : Nat → Int32 → zM → Option (Int32 × zM)
  | 0 => fun _ _ => none
  | fn + 1 => f_X9_image_L291_b  (f_X9_image_L291  fn)
def f_X9_image_L253_b  (rc : Int32 → zM → Option (Int32 × zM)) (x1 : Int32) (u : zM) : Option (Int32 × zM) :=
  (if (10 : Int32) ≤ x1 then f_X9_image_L291 400 (0 : Int32) u else zck (inB x1 10) <| zck (inB x1 10) <| zlet (sI u 39 x1.toNatClampNeg (gI u 26 x1.toNatClampNeg)) fun u16 => zck (inB x1 10) <| zck (inB x1 10) <| zlet (sI u16 40 x1.toNatClampNeg (gI u16 27 x1.toNatClampNeg)) fun u18 => rc (x1 + (1 : Int32)) u18)
def f_X9_image_L253  : Nat → Int32 → zM → Option (Int32 × zM)
  | 0 => fun _ _ => none
  | fn + 1 => f_X9_image_L253_b  (f_X9_image_L253  fn)
def f_X9_image_L204_b  (rc : Int32 → zM → Option (Int32 × zM)) (x1 : Int32) (u : zM) : Option (Int32 × zM) :=
  (if (5 : Int32) ≤ x1 then f_X9_image_L253 400 (0 : Int32) u else zck (inB x1 5) <| zck (inB x1 5) <| zlet (sI u 37 x1.toNatClampNeg (gI u 23 x1.toNatClampNeg)) fun u20 => zck (inB x1 5) <| zck (inB x1 5) <| zlet (sI u20 38 x1.toNatClampNeg (gI u20 24 x1.toNatClampNeg)) fun u22 => zck (inB x1 5) <| zck (inB x1 5) <| zlet (sI u22 43 x1.toNatClampNeg (vp_nar .boolean (gI u22 25 x1.toNatClampNeg))) fun u24 => rc (x1 + (1 : Int32)) u24)
def f_X9_image_L204  : Nat → Int32 → zM → Option (Int32 × zM)
  | 0 => fun _ _ => none
  | fn + 1 => f_X9_image_L204_b  (f_X9_image_L204  fn)
def f_X9_image_L155_b  (rc : Int32 → zM → Option (Int32 × zM)) (x1 : Int32) (u : zM) : Option (Int32 × zM) :=
  (if (4 : Int32) ≤ x1 then f_X9_image_L204 400 (0 : Int32) u else zck (inB x1 4) <| zck (inB x1 4) <| zlet (sI u 34 x1.toNatClampNeg (gI u 5 x1.toNatClampNeg)) fun u26 => zck (inB x1 4) <| zck (inB x1 4) <| zlet (sI u26 35 x1.toNatClampNeg (gI u26 6 x1.toNatClampNeg)) fun u28 => zck (inB x1 4) <| zck (inB x1 4) <| zlet (sI u28 36 x1.toNatClampNeg (gI u28 7 x1.toNatClampNeg)) fun u30 => rc (x1 + (1 : Int32)) u30)
def f_X9_image_L155  : Nat → Int32 → zM → Option (Int32 × zM)
  | 0 => fun _ _ => none
  | fn + 1 => f_X9_image_L155_b  (f_X9_image_L155  fn)
def f_X9_image_L129_b  (rc : Int32 → zM → Option (Int32 × zM)) (x1 : Int32) (u : zM) : Option (Int32 × zM) :=
  (if (24 : Int32) ≤ x1 then f_X9_image_L155 400 (0 : Int32) u else zck (inB x1 24) <| zck (inB x1 24) <| zlet (sI u 33 x1.toNatClampNeg (gI u 4 x1.toNatClampNeg)) fun u32 => rc (x1 + (1 : Int32)) u32)
def f_X9_image_L129  : Nat → Int32 → zM → Option (Int32 × zM)
  | 0 => fun _ _ => none
  | fn + 1 => f_X9_image_L129_b  (f_X9_image_L129  fn)
def f_X9_image_L79_b  (rc : Int32 → zM → Option (Int32 × zM)) (x1 : Int32) (u : zM) : Option (Int32 × zM) :=
  (if (6 : Int32) ≤ x1 then f_X9_image_L129 400 (0 : Int32) u else zck (inB x1 6) <| zck (inB x1 6) <| zlet (sI u 30 x1.toNatClampNeg (gI u 1 x1.toNatClampNeg)) fun u34 => zck (inB x1 6) <| zck (inB x1 6) <| zlet (sI u34 31 x1.toNatClampNeg (gI u34 2 x1.toNatClampNeg)) fun u36 => zck (inB x1 6) <| zck (inB x1 6) <| zlet (sI u36 32 x1.toNatClampNeg (gI u36 3 x1.toNatClampNeg)) fun u38 => rc (x1 + (1 : Int32)) u38)
def f_X9_image_L79  : Nat → Int32 → zM → Option (Int32 × zM)
  | 0 => fun _ _ => none
  | fn + 1 => f_X9_image_L79_b  (f_X9_image_L79  fn)
def f_X9_image (u : zM) : Option (Int32 × zM) :=
  zlet (sI u 0 48 (1 : Int32)) fun u1 => zlet (sI u1 0 49 (gI u1 0 13)) fun u2 => zlet (sI u2 0 50 (gI u2 0 0)) fun u3 => zlet (sI u3 0 51 (gI u3 0 1)) fun u4 => zlet (sI u4 0 52 (gI u4 0 2)) fun u5 => zlet (sI u5 0 53 (gI u5 0 3)) fun u6 => zlet (sI u6 0 54 (gI u6 0 4)) fun u7 => zlet (sI u7 0 55 (gI u7 0 38)) fun u8 => zlet (sI u8 0 56 (gI u8 0 42)) fun u9 => zlet (sI u9 0 57 (gI u9 0 43)) fun u10 => f_X9_image_L79 400 (0 : Int32) u10
set_option maxRecDepth 20000 in
theorem go_X9_image_L291 {p : Program} {l : Launch} {e : Env} {s : State} {m : MethodId} {args : Array Value} {below : List Frame} {meth : Method} {c : Code} {as : Nat → Nat} {dA : Nat → ClassId} {D : va_G} {d : Nat}  (C : zCx p s m args meth c as dA D SHM d 2 yX9_image.cls cX9_image ((some FieldType.int))) (hd : 1 ≤ d) : ∀ (fn : Nat) (x1 : Int32) (u : zM), Go p l e s m args below meth c as dA D SHM d 2 zQi 291 [(0, .ref 0), (1, .int x1)] [] u (f_X9_image_L291 fn x1 u) := by
  intro fn
  induction fn with
  | zero => intro x1 u; exact G_none
  | succ fn ih =>
    intro x1 u
    show Go p l e s m args below meth c as dA D SHM d 2 zQi 291 [(0, .ref 0), (1, .int x1)] [] u (f_X9_image_L291_b  (f_X9_image_L291  fn) x1 u)
    unfold f_X9_image_L291_b
    refine G_iload_n C 1 dX9_image_291 rfl rfl ?_
    refine G_bipush (v := 8) C dX9_image_292 (by decide) ?_
    refine G_icmp_ge (tgt := 327) C dX9_image_294 (by decide) (fun _ => ?_) (fun _ => ?_)
    · refine G_aload_n C 0 dX9_image_327 rfl rfl ?_
      refine G_getI C 0 shM_0 rfl rfl (by decide) wf9_7 dX9_image_328 ?_
      exact G_iret C dX9_image_331
    · refine G_aload_n C 0 dX9_image_297 rfl rfl ?_
      refine G_getR (j := 41) C 69 shM_0 rfl rfl (by decide) wf9_220 dX9_image_298 ?_
      refine G_iload_n C 1 dX9_image_301 rfl rfl ?_
      refine G_aload_n C 0 dX9_image_302 rfl rfl ?_
      refine G_getR (j := 28) C 46 shM_0 rfl rfl (by decide) wf9_150 dX9_image_303 ?_
      refine G_iload_n C 1 dX9_image_306 rfl rfl ?_
      refine G_iald C shM_28 dX9_image_307 (fun hb11 => ?_)
      refine G_iast C shM_41 dX9_image_308 (fun _ u12 => ?_)
      refine G_aload_n C 0 dX9_image_309 rfl rfl ?_
      refine G_getR (j := 42) C 70 shM_0 rfl rfl (by decide) wf9_223 dX9_image_310 ?_
      refine G_iload_n C 1 dX9_image_313 rfl rfl ?_
      refine G_aload_n C 0 dX9_image_314 rfl rfl ?_
      refine G_getR (j := 29) C 47 shM_0 rfl rfl (by decide) wf9_153 dX9_image_315 ?_
      refine G_iload_n C 1 dX9_image_318 rfl rfl ?_
      refine G_iald C shM_29 dX9_image_319 (fun hb13 => ?_)
      refine G_iast C shM_42 dX9_image_320 (fun _ u14 => ?_)
      refine G_iinc (v := 1) (L' := [(1, .int (x1 + (1 : Int32))), (0, .ref 0)]) C 1 dX9_image_321 rfl (by decide) (by decide) rfl ?_
      refine G_goto (tgt := 291) C dX9_image_324 (by decide) ?_
      refine G_locals [1, 0] rfl ?_
      exact ih (x1 + (1 : Int32)) u14
set_option maxRecDepth 20000 in
theorem go_X9_image_L253 {p : Program} {l : Launch} {e : Env} {s : State} {m : MethodId} {args : Array Value} {below : List Frame} {meth : Method} {c : Code} {as : Nat → Nat} {dA : Nat → ClassId} {D : va_G} {d : Nat}  (C : zCx p s m args meth c as dA D SHM d 2 yX9_image.cls cX9_image ((some FieldType.int))) (hd : 1 ≤ d) : ∀ (fn : Nat) (x1 : Int32) (u : zM), Go p l e s m args below meth c as dA D SHM d 2 zQi 253 [(0, .ref 0), (1, .int x1)] [] u (f_X9_image_L253 fn x1 u) := by
  intro fn
  induction fn with
  | zero => intro x1 u; exact G_none
  | succ fn ih =>
    intro x1 u
    show Go p l e s m args below meth c as dA D SHM d 2 zQi 253 [(0, .ref 0), (1, .int x1)] [] u (f_X9_image_L253_b  (f_X9_image_L253  fn) x1 u)
    unfold f_X9_image_L253_b
    refine G_iload_n C 1 dX9_image_253 rfl rfl ?_
    refine G_bipush (v := 10) C dX9_image_254 (by decide) ?_
    refine G_icmp_ge (tgt := 289) C dX9_image_256 (by decide) (fun _ => ?_) (fun _ => ?_)
    · refine G_iconst (v := 0) C dX9_image_289 (by decide) ?_
      refine G_istore_n (L' := [(1, .int (0 : Int32)), (0, .ref 0)]) C dX9_image_290 rfl (by decide) rfl ?_
      refine G_locals [1, 0] rfl ?_
      exact go_X9_image_L291 C hd 400 (0 : Int32) u
    · refine G_aload_n C 0 dX9_image_259 rfl rfl ?_
      refine G_getR (j := 39) C 67 shM_0 rfl rfl (by decide) wf9_214 dX9_image_260 ?_
      refine G_iload_n C 1 dX9_image_263 rfl rfl ?_
      refine G_aload_n C 0 dX9_image_264 rfl rfl ?_
      refine G_getR (j := 26) C 44 shM_0 rfl rfl (by decide) wf9_144 dX9_image_265 ?_
      refine G_iload_n C 1 dX9_image_268 rfl rfl ?_
      refine G_iald C shM_26 dX9_image_269 (fun hb15 => ?_)
      refine G_iast C shM_39 dX9_image_270 (fun _ u16 => ?_)
      refine G_aload_n C 0 dX9_image_271 rfl rfl ?_
      refine G_getR (j := 40) C 68 shM_0 rfl rfl (by decide) wf9_217 dX9_image_272 ?_
      refine G_iload_n C 1 dX9_image_275 rfl rfl ?_
      refine G_aload_n C 0 dX9_image_276 rfl rfl ?_
      refine G_getR (j := 27) C 45 shM_0 rfl rfl (by decide) wf9_147 dX9_image_277 ?_
      refine G_iload_n C 1 dX9_image_280 rfl rfl ?_
      refine G_iald C shM_27 dX9_image_281 (fun hb17 => ?_)
      refine G_iast C shM_40 dX9_image_282 (fun _ u18 => ?_)
      refine G_iinc (v := 1) (L' := [(1, .int (x1 + (1 : Int32))), (0, .ref 0)]) C 1 dX9_image_283 rfl (by decide) (by decide) rfl ?_
      refine G_goto (tgt := 253) C dX9_image_286 (by decide) ?_
      refine G_locals [1, 0] rfl ?_
      exact ih (x1 + (1 : Int32)) u18
set_option maxRecDepth 20000 in
theorem go_X9_image_L204 {p : Program} {l : Launch} {e : Env} {s : State} {m : MethodId} {args : Array Value} {below : List Frame} {meth : Method} {c : Code} {as : Nat → Nat} {dA : Nat → ClassId} {D : va_G} {d : Nat}  (C : zCx p s m args meth c as dA D SHM d 2 yX9_image.cls cX9_image ((some FieldType.int))) (hd : 1 ≤ d) : ∀ (fn : Nat) (x1 : Int32) (u : zM), Go p l e s m args below meth c as dA D SHM d 2 zQi 204 [(0, .ref 0), (1, .int x1)] [] u (f_X9_image_L204 fn x1 u) := by
  intro fn
  induction fn with
  | zero => intro x1 u; exact G_none
  | succ fn ih =>
    intro x1 u
    show Go p l e s m args below meth c as dA D SHM d 2 zQi 204 [(0, .ref 0), (1, .int x1)] [] u (f_X9_image_L204_b  (f_X9_image_L204  fn) x1 u)
    unfold f_X9_image_L204_b
    refine G_iload_n C 1 dX9_image_204 rfl rfl ?_
    refine G_iconst (v := 5) C dX9_image_205 (by decide) ?_
    refine G_icmp_ge (tgt := 251) C dX9_image_206 (by decide) (fun _ => ?_) (fun _ => ?_)
    · refine G_iconst (v := 0) C dX9_image_251 (by decide) ?_
      refine G_istore_n (L' := [(1, .int (0 : Int32)), (0, .ref 0)]) C dX9_image_252 rfl (by decide) rfl ?_
      refine G_locals [1, 0] rfl ?_
      exact go_X9_image_L253 C hd 400 (0 : Int32) u
    · refine G_aload_n C 0 dX9_image_209 rfl rfl ?_
      refine G_getR (j := 37) C 65 shM_0 rfl rfl (by decide) wf9_208 dX9_image_210 ?_
      refine G_iload_n C 1 dX9_image_213 rfl rfl ?_
      refine G_aload_n C 0 dX9_image_214 rfl rfl ?_
      refine G_getR (j := 23) C 39 shM_0 rfl rfl (by decide) wf9_129 dX9_image_215 ?_
      refine G_iload_n C 1 dX9_image_218 rfl rfl ?_
      refine G_iald C shM_23 dX9_image_219 (fun hb19 => ?_)
      refine G_iast C shM_37 dX9_image_220 (fun _ u20 => ?_)
      refine G_aload_n C 0 dX9_image_221 rfl rfl ?_
      refine G_getR (j := 38) C 66 shM_0 rfl rfl (by decide) wf9_211 dX9_image_222 ?_
      refine G_iload_n C 1 dX9_image_225 rfl rfl ?_
      refine G_aload_n C 0 dX9_image_226 rfl rfl ?_
      refine G_getR (j := 24) C 40 shM_0 rfl rfl (by decide) wf9_132 dX9_image_227 ?_
      refine G_iload_n C 1 dX9_image_230 rfl rfl ?_
      refine G_iald C shM_24 dX9_image_231 (fun hb21 => ?_)
      refine G_iast C shM_38 dX9_image_232 (fun _ u22 => ?_)
      refine G_aload_n C 0 dX9_image_233 rfl rfl ?_
      refine G_getR (j := 43) C 71 shM_0 rfl rfl (by decide) wf9_226 dX9_image_234 ?_
      refine G_iload_n C 1 dX9_image_237 rfl rfl ?_
      refine G_aload_n C 0 dX9_image_238 rfl rfl ?_
      refine G_getR (j := 25) C 41 shM_0 rfl rfl (by decide) wf9_135 dX9_image_239 ?_
      refine G_iload_n C 1 dX9_image_242 rfl rfl ?_
      refine G_zald C shM_25 dX9_image_243 (fun hb23 => ?_)
      refine G_zast C shM_43 dX9_image_244 (fun _ u24 => ?_)
      refine G_iinc (v := 1) (L' := [(1, .int (x1 + (1 : Int32))), (0, .ref 0)]) C 1 dX9_image_245 rfl (by decide) (by decide) rfl ?_
      refine G_goto (tgt := 204) C dX9_image_248 (by decide) ?_
      refine G_locals [1, 0] rfl ?_
      exact ih (x1 + (1 : Int32)) u24
set_option maxRecDepth 20000 in
theorem go_X9_image_L155 {p : Program} {l : Launch} {e : Env} {s : State} {m : MethodId} {args : Array Value} {below : List Frame} {meth : Method} {c : Code} {as : Nat → Nat} {dA : Nat → ClassId} {D : va_G} {d : Nat}  (C : zCx p s m args meth c as dA D SHM d 2 yX9_image.cls cX9_image ((some FieldType.int))) (hd : 1 ≤ d) : ∀ (fn : Nat) (x1 : Int32) (u : zM), Go p l e s m args below meth c as dA D SHM d 2 zQi 155 [(0, .ref 0), (1, .int x1)] [] u (f_X9_image_L155 fn x1 u) := by
  intro fn
  induction fn with
  | zero => intro x1 u; exact G_none
  | succ fn ih =>
    intro x1 u
    show Go p l e s m args below meth c as dA D SHM d 2 zQi 155 [(0, .ref 0), (1, .int x1)] [] u (f_X9_image_L155_b  (f_X9_image_L155  fn) x1 u)
    unfold f_X9_image_L155_b
    refine G_iload_n C 1 dX9_image_155 rfl rfl ?_
    refine G_iconst (v := 4) C dX9_image_156 (by decide) ?_
    refine G_icmp_ge (tgt := 202) C dX9_image_157 (by decide) (fun _ => ?_) (fun _ => ?_)
    · refine G_iconst (v := 0) C dX9_image_202 (by decide) ?_
      refine G_istore_n (L' := [(1, .int (0 : Int32)), (0, .ref 0)]) C dX9_image_203 rfl (by decide) rfl ?_
      refine G_locals [1, 0] rfl ?_
      exact go_X9_image_L204 C hd 400 (0 : Int32) u
    · refine G_aload_n C 0 dX9_image_160 rfl rfl ?_
      refine G_getR (j := 34) C 62 shM_0 rfl rfl (by decide) wf9_199 dX9_image_161 ?_
      refine G_iload_n C 1 dX9_image_164 rfl rfl ?_
      refine G_aload_n C 0 dX9_image_165 rfl rfl ?_
      refine G_getR (j := 5) C 9 shM_0 rfl rfl (by decide) wf9_38 dX9_image_166 ?_
      refine G_iload_n C 1 dX9_image_169 rfl rfl ?_
      refine G_iald C shM_5 dX9_image_170 (fun hb25 => ?_)
      refine G_iast C shM_34 dX9_image_171 (fun _ u26 => ?_)
      refine G_aload_n C 0 dX9_image_172 rfl rfl ?_
      refine G_getR (j := 35) C 63 shM_0 rfl rfl (by decide) wf9_202 dX9_image_173 ?_
      refine G_iload_n C 1 dX9_image_176 rfl rfl ?_
      refine G_aload_n C 0 dX9_image_177 rfl rfl ?_
      refine G_getR (j := 6) C 10 shM_0 rfl rfl (by decide) wf9_41 dX9_image_178 ?_
      refine G_iload_n C 1 dX9_image_181 rfl rfl ?_
      refine G_iald C shM_6 dX9_image_182 (fun hb27 => ?_)
      refine G_iast C shM_35 dX9_image_183 (fun _ u28 => ?_)
      refine G_aload_n C 0 dX9_image_184 rfl rfl ?_
      refine G_getR (j := 36) C 64 shM_0 rfl rfl (by decide) wf9_205 dX9_image_185 ?_
      refine G_iload_n C 1 dX9_image_188 rfl rfl ?_
      refine G_aload_n C 0 dX9_image_189 rfl rfl ?_
      refine G_getR (j := 7) C 11 shM_0 rfl rfl (by decide) wf9_44 dX9_image_190 ?_
      refine G_iload_n C 1 dX9_image_193 rfl rfl ?_
      refine G_iald C shM_7 dX9_image_194 (fun hb29 => ?_)
      refine G_iast C shM_36 dX9_image_195 (fun _ u30 => ?_)
      refine G_iinc (v := 1) (L' := [(1, .int (x1 + (1 : Int32))), (0, .ref 0)]) C 1 dX9_image_196 rfl (by decide) (by decide) rfl ?_
      refine G_goto (tgt := 155) C dX9_image_199 (by decide) ?_
      refine G_locals [1, 0] rfl ?_
      exact ih (x1 + (1 : Int32)) u30
set_option maxRecDepth 20000 in
theorem go_X9_image_L129 {p : Program} {l : Launch} {e : Env} {s : State} {m : MethodId} {args : Array Value} {below : List Frame} {meth : Method} {c : Code} {as : Nat → Nat} {dA : Nat → ClassId} {D : va_G} {d : Nat}  (C : zCx p s m args meth c as dA D SHM d 2 yX9_image.cls cX9_image ((some FieldType.int))) (hd : 1 ≤ d) : ∀ (fn : Nat) (x1 : Int32) (u : zM), Go p l e s m args below meth c as dA D SHM d 2 zQi 129 [(0, .ref 0), (1, .int x1)] [] u (f_X9_image_L129 fn x1 u) := by
  intro fn
  induction fn with
  | zero => intro x1 u; exact G_none
  | succ fn ih =>
    intro x1 u
    show Go p l e s m args below meth c as dA D SHM d 2 zQi 129 [(0, .ref 0), (1, .int x1)] [] u (f_X9_image_L129_b  (f_X9_image_L129  fn) x1 u)
    unfold f_X9_image_L129_b
    refine G_iload_n C 1 dX9_image_129 rfl rfl ?_
    refine G_bipush (v := 24) C dX9_image_130 (by decide) ?_
    refine G_icmp_ge (tgt := 153) C dX9_image_132 (by decide) (fun _ => ?_) (fun _ => ?_)
    · refine G_iconst (v := 0) C dX9_image_153 (by decide) ?_
      refine G_istore_n (L' := [(1, .int (0 : Int32)), (0, .ref 0)]) C dX9_image_154 rfl (by decide) rfl ?_
      refine G_locals [1, 0] rfl ?_
      exact go_X9_image_L155 C hd 400 (0 : Int32) u
    · refine G_aload_n C 0 dX9_image_135 rfl rfl ?_
      refine G_getR (j := 33) C 61 shM_0 rfl rfl (by decide) wf9_196 dX9_image_136 ?_
      refine G_iload_n C 1 dX9_image_139 rfl rfl ?_
      refine G_aload_n C 0 dX9_image_140 rfl rfl ?_
      refine G_getR (j := 4) C 8 shM_0 rfl rfl (by decide) wf9_35 dX9_image_141 ?_
      refine G_iload_n C 1 dX9_image_144 rfl rfl ?_
      refine G_iald C shM_4 dX9_image_145 (fun hb31 => ?_)
      refine G_iast C shM_33 dX9_image_146 (fun _ u32 => ?_)
      refine G_iinc (v := 1) (L' := [(1, .int (x1 + (1 : Int32))), (0, .ref 0)]) C 1 dX9_image_147 rfl (by decide) (by decide) rfl ?_
      refine G_goto (tgt := 129) C dX9_image_150 (by decide) ?_
      refine G_locals [1, 0] rfl ?_
      exact ih (x1 + (1 : Int32)) u32
set_option maxRecDepth 20000 in
theorem go_X9_image_L79 {p : Program} {l : Launch} {e : Env} {s : State} {m : MethodId} {args : Array Value} {below : List Frame} {meth : Method} {c : Code} {as : Nat → Nat} {dA : Nat → ClassId} {D : va_G} {d : Nat}  (C : zCx p s m args meth c as dA D SHM d 2 yX9_image.cls cX9_image ((some FieldType.int))) (hd : 1 ≤ d) : ∀ (fn : Nat) (x1 : Int32) (u : zM), Go p l e s m args below meth c as dA D SHM d 2 zQi 79 [(0, .ref 0), (1, .int x1)] [] u (f_X9_image_L79 fn x1 u) := by
  intro fn
  induction fn with
  | zero => intro x1 u; exact G_none
  | succ fn ih =>
    intro x1 u
    show Go p l e s m args below meth c as dA D SHM d 2 zQi 79 [(0, .ref 0), (1, .int x1)] [] u (f_X9_image_L79_b  (f_X9_image_L79  fn) x1 u)
    unfold f_X9_image_L79_b
    refine G_iload_n C 1 dX9_image_79 rfl rfl ?_
    refine G_bipush (v := 6) C dX9_image_80 (by decide) ?_
    refine G_icmp_ge (tgt := 127) C dX9_image_82 (by decide) (fun _ => ?_) (fun _ => ?_)
    · refine G_iconst (v := 0) C dX9_image_127 (by decide) ?_
      refine G_istore_n (L' := [(1, .int (0 : Int32)), (0, .ref 0)]) C dX9_image_128 rfl (by decide) rfl ?_
      refine G_locals [1, 0] rfl ?_
      exact go_X9_image_L129 C hd 400 (0 : Int32) u
    · refine G_aload_n C 0 dX9_image_85 rfl rfl ?_
      refine G_getR (j := 30) C 58 shM_0 rfl rfl (by decide) wf9_187 dX9_image_86 ?_
      refine G_iload_n C 1 dX9_image_89 rfl rfl ?_
      refine G_aload_n C 0 dX9_image_90 rfl rfl ?_
      refine G_getR (j := 1) C 5 shM_0 rfl rfl (by decide) wf9_25 dX9_image_91 ?_
      refine G_iload_n C 1 dX9_image_94 rfl rfl ?_
      refine G_iald C shM_1 dX9_image_95 (fun hb33 => ?_)
      refine G_iast C shM_30 dX9_image_96 (fun _ u34 => ?_)
      refine G_aload_n C 0 dX9_image_97 rfl rfl ?_
      refine G_getR (j := 31) C 59 shM_0 rfl rfl (by decide) wf9_190 dX9_image_98 ?_
      refine G_iload_n C 1 dX9_image_101 rfl rfl ?_
      refine G_aload_n C 0 dX9_image_102 rfl rfl ?_
      refine G_getR (j := 2) C 6 shM_0 rfl rfl (by decide) wf9_29 dX9_image_103 ?_
      refine G_iload_n C 1 dX9_image_106 rfl rfl ?_
      refine G_iald C shM_2 dX9_image_107 (fun hb35 => ?_)
      refine G_iast C shM_31 dX9_image_108 (fun _ u36 => ?_)
      refine G_aload_n C 0 dX9_image_109 rfl rfl ?_
      refine G_getR (j := 32) C 60 shM_0 rfl rfl (by decide) wf9_193 dX9_image_110 ?_
      refine G_iload_n C 1 dX9_image_113 rfl rfl ?_
      refine G_aload_n C 0 dX9_image_114 rfl rfl ?_
      refine G_getR (j := 3) C 7 shM_0 rfl rfl (by decide) wf9_32 dX9_image_115 ?_
      refine G_iload_n C 1 dX9_image_118 rfl rfl ?_
      refine G_iald C shM_3 dX9_image_119 (fun hb37 => ?_)
      refine G_iast C shM_32 dX9_image_120 (fun _ u38 => ?_)
      refine G_iinc (v := 1) (L' := [(1, .int (x1 + (1 : Int32))), (0, .ref 0)]) C 1 dX9_image_121 rfl (by decide) (by decide) rfl ?_
      refine G_goto (tgt := 79) C dX9_image_124 (by decide) ?_
      refine G_locals [1, 0] rfl ?_
      exact ih (x1 + (1 : Int32)) u38
set_option maxRecDepth 20000 in
theorem go_X9_image {p : Program} {l : Launch} {e : Env} {s : State} {m : MethodId} {args : Array Value} {below : List Frame} {meth : Method} {c : Code} {as : Nat → Nat} {dA : Nat → ClassId} {D : va_G} {d : Nat}  (C : zCx p s m args meth c as dA D SHM d 2 yX9_image.cls cX9_image ((some FieldType.int))) (hd : 1 ≤ d) : ∀ (u : zM), Go p l e s m args below meth c as dA D SHM d 2 zQi 0 [(0, .ref 0)] [] u (f_X9_image  u) := by
  intro u
  unfold f_X9_image
  refine G_aload_n C 0 dX9_image_0 rfl rfl ?_
  refine G_iconst (v := 1) C dX9_image_1 (by decide) ?_
  refine G_putI (ty := .boolean) C 48 shM_0 rfl rfl (by decide) wf9_156 rfl (by decide +kernel) rfl rfl dX9_image_2 (fun u1 => ?_)
  refine G_aload_n C 0 dX9_image_5 rfl rfl ?_
  refine G_aload_n C 0 dX9_image_6 rfl rfl ?_
  refine G_getI C 13 shM_0 rfl rfl (by decide) wf9_50 dX9_image_7 ?_
  refine G_putI (ty := .int) C 49 shM_0 rfl rfl (by decide) wf9_160 rfl (by decide +kernel) rfl rfl dX9_image_10 (fun u2 => ?_)
  refine G_aload_n C 0 dX9_image_13 rfl rfl ?_
  refine G_aload_n C 0 dX9_image_14 rfl rfl ?_
  refine G_getI C 0 shM_0 rfl rfl (by decide) wf9_7 dX9_image_15 ?_
  refine G_putI (ty := .int) C 50 shM_0 rfl rfl (by decide) wf9_163 rfl (by decide +kernel) rfl rfl dX9_image_18 (fun u3 => ?_)
  refine G_aload_n C 0 dX9_image_21 rfl rfl ?_
  refine G_aload_n C 0 dX9_image_22 rfl rfl ?_
  refine G_getI C 1 shM_0 rfl rfl (by decide) wf9_13 dX9_image_23 ?_
  refine G_putI (ty := .int) C 51 shM_0 rfl rfl (by decide) wf9_166 rfl (by decide +kernel) rfl rfl dX9_image_26 (fun u4 => ?_)
  refine G_aload_n C 0 dX9_image_29 rfl rfl ?_
  refine G_aload_n C 0 dX9_image_30 rfl rfl ?_
  refine G_getI C 2 shM_0 rfl rfl (by decide) wf9_16 dX9_image_31 ?_
  refine G_putI (ty := .int) C 52 shM_0 rfl rfl (by decide) wf9_169 rfl (by decide +kernel) rfl rfl dX9_image_34 (fun u5 => ?_)
  refine G_aload_n C 0 dX9_image_37 rfl rfl ?_
  refine G_aload_n C 0 dX9_image_38 rfl rfl ?_
  refine G_getI C 3 shM_0 rfl rfl (by decide) wf9_19 dX9_image_39 ?_
  refine G_putI (ty := .int) C 53 shM_0 rfl rfl (by decide) wf9_172 rfl (by decide +kernel) rfl rfl dX9_image_42 (fun u6 => ?_)
  refine G_aload_n C 0 dX9_image_45 rfl rfl ?_
  refine G_aload_n C 0 dX9_image_46 rfl rfl ?_
  refine G_getI C 4 shM_0 rfl rfl (by decide) wf9_22 dX9_image_47 ?_
  refine G_putI (ty := .int) C 54 shM_0 rfl rfl (by decide) wf9_175 rfl (by decide +kernel) rfl rfl dX9_image_50 (fun u7 => ?_)
  refine G_aload_n C 0 dX9_image_53 rfl rfl ?_
  refine G_aload_n C 0 dX9_image_54 rfl rfl ?_
  refine G_getI C 38 shM_0 rfl rfl (by decide) wf9_126 dX9_image_55 ?_
  refine G_putI (ty := .int) C 55 shM_0 rfl rfl (by decide) wf9_178 rfl (by decide +kernel) rfl rfl dX9_image_58 (fun u8 => ?_)
  refine G_aload_n C 0 dX9_image_61 rfl rfl ?_
  refine G_aload_n C 0 dX9_image_62 rfl rfl ?_
  refine G_getI C 42 shM_0 rfl rfl (by decide) wf9_138 dX9_image_63 ?_
  refine G_putI (ty := .int) C 56 shM_0 rfl rfl (by decide) wf9_181 rfl (by decide +kernel) rfl rfl dX9_image_66 (fun u9 => ?_)
  refine G_aload_n C 0 dX9_image_69 rfl rfl ?_
  refine G_aload_n C 0 dX9_image_70 rfl rfl ?_
  refine G_getI C 43 shM_0 rfl rfl (by decide) wf9_141 dX9_image_71 ?_
  refine G_putI (ty := .int) C 57 shM_0 rfl rfl (by decide) wf9_184 rfl (by decide +kernel) rfl rfl dX9_image_74 (fun u10 => ?_)
  refine G_iconst (v := 0) C dX9_image_77 (by decide) ?_
  refine G_istore_n (L' := [(1, .int (0 : Int32)), (0, .ref 0)]) C dX9_image_78 rfl (by decide) rfl ?_
  refine G_locals [1, 0] rfl ?_
  exact go_X9_image_L79 C hd 400 (0 : Int32) u10
theorem m_X9_image    (u : zM) (d : Nat) (hd : 1 ≤ d) : zMet zQi SHM yX9_image cX9_image 2 ((some FieldType.int)) d [.ref 0] u (f_X9_image  u) :=
  zMet_of (by decide +kernel) (fun as => Nat.le_of_ble_eq_true rfl) wwX9_image.2.2.2.1 (by omega) (fun p l e s m args below meth c as dA D C => go_X9_image C hd u)
/-! public int undo() -/
def f_X9_undo_L296_b  (rc : Int32 → zM → Option (Int32 × zM)) (x1 : Int32) (u : zM) : Option (Int32 × zM) :=
  (if (8 : Int32) ≤ x1 then some ((gI u 0 0), u) else zck (inB x1 8) <| zck (inB x1 8) <| zlet (sI u 28 x1.toNatClampNeg (gI u 41 x1.toNatClampNeg)) fun u11 => zck (inB x1 8) <| zck (inB x1 8) <| zlet (sI u11 29 x1.toNatClampNeg (gI u11 42 x1.toNatClampNeg)) fun u13 => rc (x1 + (1 : Int32)) u13)
def f_X9_undo_L296  : Nat → Int32 → zM → Option (Int32 × zM)
  | 0 => fun _ _ => none
  | fn + 1 => f_X9_undo_L296_b  (f_X9_undo_L296  fn)
def f_X9_undo_L258_b  (rc : Int32 → zM → Option (Int32 × zM)) (x1 : Int32) (u : zM) : Option (Int32 × zM) :=
  (if (10 : Int32) ≤ x1 then f_X9_undo_L296 400 (0 : Int32) u else zck (inB x1 10) <| zck (inB x1 10) <| zlet (sI u 26 x1.toNatClampNeg (gI u 39 x1.toNatClampNeg)) fun u15 => zck (inB x1 10) <| zck (inB x1 10) <| zlet (sI u15 27 x1.toNatClampNeg (gI u15 40 x1.toNatClampNeg)) fun u17 => rc (x1 + (1 : Int32)) u17)
def f_X9_undo_L258  : Nat → Int32 → zM → Option (Int32 × zM)
  | 0 => fun _ _ => none
  | fn + 1 => f_X9_undo_L258_b  (f_X9_undo_L258  fn)
def f_X9_undo_L209_b  (rc : Int32 → zM → Option (Int32 × zM)) (x1 : Int32) (u : zM) : Option (Int32 × zM) :=
  (if (5 : Int32) ≤ x1 then f_X9_undo_L258 400 (0 : Int32) u else zck (inB x1 5) <| zck (inB x1 5) <| zlet (sI u 23 x1.toNatClampNeg (gI u 37 x1.toNatClampNeg)) fun u19 => zck (inB x1 5) <| zck (inB x1 5) <| zlet (sI u19 24 x1.toNatClampNeg (gI u19 38 x1.toNatClampNeg)) fun u21 => zck (inB x1 5) <| zck (inB x1 5) <| zlet (sI u21 25 x1.toNatClampNeg (vp_nar .boolean (gI u21 43 x1.toNatClampNeg))) fun u23 => rc (x1 + (1 : Int32)) u23)
def f_X9_undo_L209  : Nat → Int32 → zM → Option (Int32 × zM)
  | 0 => fun _ _ => none
  | fn + 1 => f_X9_undo_L209_b  (f_X9_undo_L209  fn)
def f_X9_undo_L160_b  (rc : Int32 → zM → Option (Int32 × zM)) (x1 : Int32) (u : zM) : Option (Int32 × zM) :=
  (if (4 : Int32) ≤ x1 then f_X9_undo_L209 400 (0 : Int32) u else zck (inB x1 4) <| zck (inB x1 4) <| zlet (sI u 5 x1.toNatClampNeg (gI u 34 x1.toNatClampNeg)) fun u25 => zck (inB x1 4) <| zck (inB x1 4) <| zlet (sI u25 6 x1.toNatClampNeg (gI u25 35 x1.toNatClampNeg)) fun u27 => zck (inB x1 4) <| zck (inB x1 4) <| zlet (sI u27 7 x1.toNatClampNeg (gI u27 36 x1.toNatClampNeg)) fun u29 => rc (x1 + (1 : Int32)) u29)
def f_X9_undo_L160  : Nat → Int32 → zM → Option (Int32 × zM)
  | 0 => fun _ _ => none
  | fn + 1 => f_X9_undo_L160_b  (f_X9_undo_L160  fn)
def f_X9_undo_L134_b  (rc : Int32 → zM → Option (Int32 × zM)) (x1 : Int32) (u : zM) : Option (Int32 × zM) :=
  (if (24 : Int32) ≤ x1 then f_X9_undo_L160 400 (0 : Int32) u else zck (inB x1 24) <| zck (inB x1 24) <| zlet (sI u 4 x1.toNatClampNeg (gI u 33 x1.toNatClampNeg)) fun u31 => rc (x1 + (1 : Int32)) u31)
def f_X9_undo_L134  : Nat → Int32 → zM → Option (Int32 × zM)
  | 0 => fun _ _ => none
  | fn + 1 => f_X9_undo_L134_b  (f_X9_undo_L134  fn)
def f_X9_undo_L84_b  (rc : Int32 → zM → Option (Int32 × zM)) (x1 : Int32) (u : zM) : Option (Int32 × zM) :=
  (if (6 : Int32) ≤ x1 then f_X9_undo_L134 400 (0 : Int32) u else zck (inB x1 6) <| zck (inB x1 6) <| zlet (sI u 1 x1.toNatClampNeg (gI u 30 x1.toNatClampNeg)) fun u33 => zck (inB x1 6) <| zck (inB x1 6) <| zlet (sI u33 2 x1.toNatClampNeg (gI u33 31 x1.toNatClampNeg)) fun u35 => zck (inB x1 6) <| zck (inB x1 6) <| zlet (sI u35 3 x1.toNatClampNeg (gI u35 32 x1.toNatClampNeg)) fun u37 => rc (x1 + (1 : Int32)) u37)
def f_X9_undo_L84  : Nat → Int32 → zM → Option (Int32 × zM)
  | 0 => fun _ _ => none
  | fn + 1 => f_X9_undo_L84_b  (f_X9_undo_L84  fn)
def f_X9_undo (u : zM) : Option (Int32 × zM) :=
  (if (gI u 0 48) = (0 : Int32) then some ((-3 : Int32), u) else zlet (sI u 0 13 (gI u 0 49)) fun u1 => zlet (sI u1 0 0 (gI u1 0 50)) fun u2 => zlet (sI u2 0 1 (gI u2 0 51)) fun u3 => zlet (sI u3 0 2 (gI u3 0 52)) fun u4 => zlet (sI u4 0 3 (gI u4 0 53)) fun u5 => zlet (sI u5 0 4 (gI u5 0 54)) fun u6 => zlet (sI u6 0 38 (gI u6 0 55)) fun u7 => zlet (sI u7 0 42 (gI u7 0 56)) fun u8 => zlet (sI u8 0 43 (gI u8 0 57)) fun u9 => f_X9_undo_L84 400 (0 : Int32) u9)
set_option maxRecDepth 20000 in
theorem go_X9_undo_L296 {p : Program} {l : Launch} {e : Env} {s : State} {m : MethodId} {args : Array Value} {below : List Frame} {meth : Method} {c : Code} {as : Nat → Nat} {dA : Nat → ClassId} {D : va_G} {d : Nat}  (C : zCx p s m args meth c as dA D SHM d 2 yX9_undo.cls cX9_undo ((some FieldType.int))) (hd : 1 ≤ d) : ∀ (fn : Nat) (x1 : Int32) (u : zM), Go p l e s m args below meth c as dA D SHM d 2 zQi 296 [(0, .ref 0), (1, .int x1)] [] u (f_X9_undo_L296 fn x1 u) := by
  intro fn
  induction fn with
  | zero => intro x1 u; exact G_none
  | succ fn ih =>
    intro x1 u
    show Go p l e s m args below meth c as dA D SHM d 2 zQi 296 [(0, .ref 0), (1, .int x1)] [] u (f_X9_undo_L296_b  (f_X9_undo_L296  fn) x1 u)
    unfold f_X9_undo_L296_b
    refine G_iload_n C 1 dX9_undo_296 rfl rfl ?_
    refine G_bipush (v := 8) C dX9_undo_297 (by decide) ?_
    refine G_icmp_ge (tgt := 332) C dX9_undo_299 (by decide) (fun _ => ?_) (fun _ => ?_)
    · refine G_aload_n C 0 dX9_undo_332 rfl rfl ?_
      refine G_getI C 0 shM_0 rfl rfl (by decide) wf9_7 dX9_undo_333 ?_
      exact G_iret C dX9_undo_336
    · refine G_aload_n C 0 dX9_undo_302 rfl rfl ?_
      refine G_getR (j := 28) C 46 shM_0 rfl rfl (by decide) wf9_150 dX9_undo_303 ?_
      refine G_iload_n C 1 dX9_undo_306 rfl rfl ?_
      refine G_aload_n C 0 dX9_undo_307 rfl rfl ?_
      refine G_getR (j := 41) C 69 shM_0 rfl rfl (by decide) wf9_220 dX9_undo_308 ?_
      refine G_iload_n C 1 dX9_undo_311 rfl rfl ?_
      refine G_iald C shM_41 dX9_undo_312 (fun hb10 => ?_)
      refine G_iast C shM_28 dX9_undo_313 (fun _ u11 => ?_)
      refine G_aload_n C 0 dX9_undo_314 rfl rfl ?_
      refine G_getR (j := 29) C 47 shM_0 rfl rfl (by decide) wf9_153 dX9_undo_315 ?_
      refine G_iload_n C 1 dX9_undo_318 rfl rfl ?_
      refine G_aload_n C 0 dX9_undo_319 rfl rfl ?_
      refine G_getR (j := 42) C 70 shM_0 rfl rfl (by decide) wf9_223 dX9_undo_320 ?_
      refine G_iload_n C 1 dX9_undo_323 rfl rfl ?_
      refine G_iald C shM_42 dX9_undo_324 (fun hb12 => ?_)
      refine G_iast C shM_29 dX9_undo_325 (fun _ u13 => ?_)
      refine G_iinc (v := 1) (L' := [(1, .int (x1 + (1 : Int32))), (0, .ref 0)]) C 1 dX9_undo_326 rfl (by decide) (by decide) rfl ?_
      refine G_goto (tgt := 296) C dX9_undo_329 (by decide) ?_
      refine G_locals [1, 0] rfl ?_
      exact ih (x1 + (1 : Int32)) u13
set_option maxRecDepth 20000 in
theorem go_X9_undo_L258 {p : Program} {l : Launch} {e : Env} {s : State} {m : MethodId} {args : Array Value} {below : List Frame} {meth : Method} {c : Code} {as : Nat → Nat} {dA : Nat → ClassId} {D : va_G} {d : Nat}  (C : zCx p s m args meth c as dA D SHM d 2 yX9_undo.cls cX9_undo ((some FieldType.int))) (hd : 1 ≤ d) : ∀ (fn : Nat) (x1 : Int32) (u : zM), Go p l e s m args below meth c as dA D SHM d 2 zQi 258 [(0, .ref 0), (1, .int x1)] [] u (f_X9_undo_L258 fn x1 u) := by
  intro fn
  induction fn with
  | zero => intro x1 u; exact G_none
  | succ fn ih =>
    intro x1 u
    show Go p l e s m args below meth c as dA D SHM d 2 zQi 258 [(0, .ref 0), (1, .int x1)] [] u (f_X9_undo_L258_b  (f_X9_undo_L258  fn) x1 u)
    unfold f_X9_undo_L258_b
    refine G_iload_n C 1 dX9_undo_258 rfl rfl ?_
    refine G_bipush (v := 10) C dX9_undo_259 (by decide) ?_
    refine G_icmp_ge (tgt := 294) C dX9_undo_261 (by decide) (fun _ => ?_) (fun _ => ?_)
    · refine G_iconst (v := 0) C dX9_undo_294 (by decide) ?_
      refine G_istore_n (L' := [(1, .int (0 : Int32)), (0, .ref 0)]) C dX9_undo_295 rfl (by decide) rfl ?_
      refine G_locals [1, 0] rfl ?_
      exact go_X9_undo_L296 C hd 400 (0 : Int32) u
    · refine G_aload_n C 0 dX9_undo_264 rfl rfl ?_
      refine G_getR (j := 26) C 44 shM_0 rfl rfl (by decide) wf9_144 dX9_undo_265 ?_
      refine G_iload_n C 1 dX9_undo_268 rfl rfl ?_
      refine G_aload_n C 0 dX9_undo_269 rfl rfl ?_
      refine G_getR (j := 39) C 67 shM_0 rfl rfl (by decide) wf9_214 dX9_undo_270 ?_
      refine G_iload_n C 1 dX9_undo_273 rfl rfl ?_
      refine G_iald C shM_39 dX9_undo_274 (fun hb14 => ?_)
      refine G_iast C shM_26 dX9_undo_275 (fun _ u15 => ?_)
      refine G_aload_n C 0 dX9_undo_276 rfl rfl ?_
      refine G_getR (j := 27) C 45 shM_0 rfl rfl (by decide) wf9_147 dX9_undo_277 ?_
      refine G_iload_n C 1 dX9_undo_280 rfl rfl ?_
      refine G_aload_n C 0 dX9_undo_281 rfl rfl ?_
      refine G_getR (j := 40) C 68 shM_0 rfl rfl (by decide) wf9_217 dX9_undo_282 ?_
      refine G_iload_n C 1 dX9_undo_285 rfl rfl ?_
      refine G_iald C shM_40 dX9_undo_286 (fun hb16 => ?_)
      refine G_iast C shM_27 dX9_undo_287 (fun _ u17 => ?_)
      refine G_iinc (v := 1) (L' := [(1, .int (x1 + (1 : Int32))), (0, .ref 0)]) C 1 dX9_undo_288 rfl (by decide) (by decide) rfl ?_
      refine G_goto (tgt := 258) C dX9_undo_291 (by decide) ?_
      refine G_locals [1, 0] rfl ?_
      exact ih (x1 + (1 : Int32)) u17
set_option maxRecDepth 20000 in
theorem go_X9_undo_L209 {p : Program} {l : Launch} {e : Env} {s : State} {m : MethodId} {args : Array Value} {below : List Frame} {meth : Method} {c : Code} {as : Nat → Nat} {dA : Nat → ClassId} {D : va_G} {d : Nat}  (C : zCx p s m args meth c as dA D SHM d 2 yX9_undo.cls cX9_undo ((some FieldType.int))) (hd : 1 ≤ d) : ∀ (fn : Nat) (x1 : Int32) (u : zM), Go p l e s m args below meth c as dA D SHM d 2 zQi 209 [(0, .ref 0), (1, .int x1)] [] u (f_X9_undo_L209 fn x1 u) := by
  intro fn
  induction fn with
  | zero => intro x1 u; exact G_none
  | succ fn ih =>
    intro x1 u
    show Go p l e s m args below meth c as dA D SHM d 2 zQi 209 [(0, .ref 0), (1, .int x1)] [] u (f_X9_undo_L209_b  (f_X9_undo_L209  fn) x1 u)
    unfold f_X9_undo_L209_b
    refine G_iload_n C 1 dX9_undo_209 rfl rfl ?_
    refine G_iconst (v := 5) C dX9_undo_210 (by decide) ?_
    refine G_icmp_ge (tgt := 256) C dX9_undo_211 (by decide) (fun _ => ?_) (fun _ => ?_)
    · refine G_iconst (v := 0) C dX9_undo_256 (by decide) ?_
      refine G_istore_n (L' := [(1, .int (0 : Int32)), (0, .ref 0)]) C dX9_undo_257 rfl (by decide) rfl ?_
      refine G_locals [1, 0] rfl ?_
      exact go_X9_undo_L258 C hd 400 (0 : Int32) u
    · refine G_aload_n C 0 dX9_undo_214 rfl rfl ?_
      refine G_getR (j := 23) C 39 shM_0 rfl rfl (by decide) wf9_129 dX9_undo_215 ?_
      refine G_iload_n C 1 dX9_undo_218 rfl rfl ?_
      refine G_aload_n C 0 dX9_undo_219 rfl rfl ?_
      refine G_getR (j := 37) C 65 shM_0 rfl rfl (by decide) wf9_208 dX9_undo_220 ?_
      refine G_iload_n C 1 dX9_undo_223 rfl rfl ?_
      refine G_iald C shM_37 dX9_undo_224 (fun hb18 => ?_)
      refine G_iast C shM_23 dX9_undo_225 (fun _ u19 => ?_)
      refine G_aload_n C 0 dX9_undo_226 rfl rfl ?_
      refine G_getR (j := 24) C 40 shM_0 rfl rfl (by decide) wf9_132 dX9_undo_227 ?_
      refine G_iload_n C 1 dX9_undo_230 rfl rfl ?_
      refine G_aload_n C 0 dX9_undo_231 rfl rfl ?_
      refine G_getR (j := 38) C 66 shM_0 rfl rfl (by decide) wf9_211 dX9_undo_232 ?_
      refine G_iload_n C 1 dX9_undo_235 rfl rfl ?_
      refine G_iald C shM_38 dX9_undo_236 (fun hb20 => ?_)
      refine G_iast C shM_24 dX9_undo_237 (fun _ u21 => ?_)
      refine G_aload_n C 0 dX9_undo_238 rfl rfl ?_
      refine G_getR (j := 25) C 41 shM_0 rfl rfl (by decide) wf9_135 dX9_undo_239 ?_
      refine G_iload_n C 1 dX9_undo_242 rfl rfl ?_
      refine G_aload_n C 0 dX9_undo_243 rfl rfl ?_
      refine G_getR (j := 43) C 71 shM_0 rfl rfl (by decide) wf9_226 dX9_undo_244 ?_
      refine G_iload_n C 1 dX9_undo_247 rfl rfl ?_
      refine G_zald C shM_43 dX9_undo_248 (fun hb22 => ?_)
      refine G_zast C shM_25 dX9_undo_249 (fun _ u23 => ?_)
      refine G_iinc (v := 1) (L' := [(1, .int (x1 + (1 : Int32))), (0, .ref 0)]) C 1 dX9_undo_250 rfl (by decide) (by decide) rfl ?_
      refine G_goto (tgt := 209) C dX9_undo_253 (by decide) ?_
      refine G_locals [1, 0] rfl ?_
      exact ih (x1 + (1 : Int32)) u23
set_option maxRecDepth 20000 in
theorem go_X9_undo_L160 {p : Program} {l : Launch} {e : Env} {s : State} {m : MethodId} {args : Array Value} {below : List Frame} {meth : Method} {c : Code} {as : Nat → Nat} {dA : Nat → ClassId} {D : va_G} {d : Nat}  (C : zCx p s m args meth c as dA D SHM d 2 yX9_undo.cls cX9_undo ((some FieldType.int))) (hd : 1 ≤ d) : ∀ (fn : Nat) (x1 : Int32) (u : zM), Go p l e s m args below meth c as dA D SHM d 2 zQi 160 [(0, .ref 0), (1, .int x1)] [] u (f_X9_undo_L160 fn x1 u) := by
  intro fn
  induction fn with
  | zero => intro x1 u; exact G_none
  | succ fn ih =>
    intro x1 u
    show Go p l e s m args below meth c as dA D SHM d 2 zQi 160 [(0, .ref 0), (1, .int x1)] [] u (f_X9_undo_L160_b  (f_X9_undo_L160  fn) x1 u)
    unfold f_X9_undo_L160_b
    refine G_iload_n C 1 dX9_undo_160 rfl rfl ?_
    refine G_iconst (v := 4) C dX9_undo_161 (by decide) ?_
    refine G_icmp_ge (tgt := 207) C dX9_undo_162 (by decide) (fun _ => ?_) (fun _ => ?_)
    · refine G_iconst (v := 0) C dX9_undo_207 (by decide) ?_
      refine G_istore_n (L' := [(1, .int (0 : Int32)), (0, .ref 0)]) C dX9_undo_208 rfl (by decide) rfl ?_
      refine G_locals [1, 0] rfl ?_
      exact go_X9_undo_L209 C hd 400 (0 : Int32) u
    · refine G_aload_n C 0 dX9_undo_165 rfl rfl ?_
      refine G_getR (j := 5) C 9 shM_0 rfl rfl (by decide) wf9_38 dX9_undo_166 ?_
      refine G_iload_n C 1 dX9_undo_169 rfl rfl ?_
      refine G_aload_n C 0 dX9_undo_170 rfl rfl ?_
      refine G_getR (j := 34) C 62 shM_0 rfl rfl (by decide) wf9_199 dX9_undo_171 ?_
      refine G_iload_n C 1 dX9_undo_174 rfl rfl ?_
      refine G_iald C shM_34 dX9_undo_175 (fun hb24 => ?_)
      refine G_iast C shM_5 dX9_undo_176 (fun _ u25 => ?_)
      refine G_aload_n C 0 dX9_undo_177 rfl rfl ?_
      refine G_getR (j := 6) C 10 shM_0 rfl rfl (by decide) wf9_41 dX9_undo_178 ?_
      refine G_iload_n C 1 dX9_undo_181 rfl rfl ?_
      refine G_aload_n C 0 dX9_undo_182 rfl rfl ?_
      refine G_getR (j := 35) C 63 shM_0 rfl rfl (by decide) wf9_202 dX9_undo_183 ?_
      refine G_iload_n C 1 dX9_undo_186 rfl rfl ?_
      refine G_iald C shM_35 dX9_undo_187 (fun hb26 => ?_)
      refine G_iast C shM_6 dX9_undo_188 (fun _ u27 => ?_)
      refine G_aload_n C 0 dX9_undo_189 rfl rfl ?_
      refine G_getR (j := 7) C 11 shM_0 rfl rfl (by decide) wf9_44 dX9_undo_190 ?_
      refine G_iload_n C 1 dX9_undo_193 rfl rfl ?_
      refine G_aload_n C 0 dX9_undo_194 rfl rfl ?_
      refine G_getR (j := 36) C 64 shM_0 rfl rfl (by decide) wf9_205 dX9_undo_195 ?_
      refine G_iload_n C 1 dX9_undo_198 rfl rfl ?_
      refine G_iald C shM_36 dX9_undo_199 (fun hb28 => ?_)
      refine G_iast C shM_7 dX9_undo_200 (fun _ u29 => ?_)
      refine G_iinc (v := 1) (L' := [(1, .int (x1 + (1 : Int32))), (0, .ref 0)]) C 1 dX9_undo_201 rfl (by decide) (by decide) rfl ?_
      refine G_goto (tgt := 160) C dX9_undo_204 (by decide) ?_
      refine G_locals [1, 0] rfl ?_
      exact ih (x1 + (1 : Int32)) u29
set_option maxRecDepth 20000 in
theorem go_X9_undo_L134 {p : Program} {l : Launch} {e : Env} {s : State} {m : MethodId} {args : Array Value} {below : List Frame} {meth : Method} {c : Code} {as : Nat → Nat} {dA : Nat → ClassId} {D : va_G} {d : Nat}  (C : zCx p s m args meth c as dA D SHM d 2 yX9_undo.cls cX9_undo ((some FieldType.int))) (hd : 1 ≤ d) : ∀ (fn : Nat) (x1 : Int32) (u : zM), Go p l e s m args below meth c as dA D SHM d 2 zQi 134 [(0, .ref 0), (1, .int x1)] [] u (f_X9_undo_L134 fn x1 u) := by
  intro fn
  induction fn with
  | zero => intro x1 u; exact G_none
  | succ fn ih =>
    intro x1 u
    show Go p l e s m args below meth c as dA D SHM d 2 zQi 134 [(0, .ref 0), (1, .int x1)] [] u (f_X9_undo_L134_b  (f_X9_undo_L134  fn) x1 u)
    unfold f_X9_undo_L134_b
    refine G_iload_n C 1 dX9_undo_134 rfl rfl ?_
    refine G_bipush (v := 24) C dX9_undo_135 (by decide) ?_
    refine G_icmp_ge (tgt := 158) C dX9_undo_137 (by decide) (fun _ => ?_) (fun _ => ?_)
    · refine G_iconst (v := 0) C dX9_undo_158 (by decide) ?_
      refine G_istore_n (L' := [(1, .int (0 : Int32)), (0, .ref 0)]) C dX9_undo_159 rfl (by decide) rfl ?_
      refine G_locals [1, 0] rfl ?_
      exact go_X9_undo_L160 C hd 400 (0 : Int32) u
    · refine G_aload_n C 0 dX9_undo_140 rfl rfl ?_
      refine G_getR (j := 4) C 8 shM_0 rfl rfl (by decide) wf9_35 dX9_undo_141 ?_
      refine G_iload_n C 1 dX9_undo_144 rfl rfl ?_
      refine G_aload_n C 0 dX9_undo_145 rfl rfl ?_
      refine G_getR (j := 33) C 61 shM_0 rfl rfl (by decide) wf9_196 dX9_undo_146 ?_
      refine G_iload_n C 1 dX9_undo_149 rfl rfl ?_
      refine G_iald C shM_33 dX9_undo_150 (fun hb30 => ?_)
      refine G_iast C shM_4 dX9_undo_151 (fun _ u31 => ?_)
      refine G_iinc (v := 1) (L' := [(1, .int (x1 + (1 : Int32))), (0, .ref 0)]) C 1 dX9_undo_152 rfl (by decide) (by decide) rfl ?_
      refine G_goto (tgt := 134) C dX9_undo_155 (by decide) ?_
      refine G_locals [1, 0] rfl ?_
      exact ih (x1 + (1 : Int32)) u31
set_option maxRecDepth 20000 in
theorem go_X9_undo_L84 {p : Program} {l : Launch} {e : Env} {s : State} {m : MethodId} {args : Array Value} {below : List Frame} {meth : Method} {c : Code} {as : Nat → Nat} {dA : Nat → ClassId} {D : va_G} {d : Nat}  (C : zCx p s m args meth c as dA D SHM d 2 yX9_undo.cls cX9_undo ((some FieldType.int))) (hd : 1 ≤ d) : ∀ (fn : Nat) (x1 : Int32) (u : zM), Go p l e s m args below meth c as dA D SHM d 2 zQi 84 [(0, .ref 0), (1, .int x1)] [] u (f_X9_undo_L84 fn x1 u) := by
  intro fn
  induction fn with
  | zero => intro x1 u; exact G_none
  | succ fn ih =>
    intro x1 u
    show Go p l e s m args below meth c as dA D SHM d 2 zQi 84 [(0, .ref 0), (1, .int x1)] [] u (f_X9_undo_L84_b  (f_X9_undo_L84  fn) x1 u)
    unfold f_X9_undo_L84_b
    refine G_iload_n C 1 dX9_undo_84 rfl rfl ?_
    refine G_bipush (v := 6) C dX9_undo_85 (by decide) ?_
    refine G_icmp_ge (tgt := 132) C dX9_undo_87 (by decide) (fun _ => ?_) (fun _ => ?_)
    · refine G_iconst (v := 0) C dX9_undo_132 (by decide) ?_
      refine G_istore_n (L' := [(1, .int (0 : Int32)), (0, .ref 0)]) C dX9_undo_133 rfl (by decide) rfl ?_
      refine G_locals [1, 0] rfl ?_
      exact go_X9_undo_L134 C hd 400 (0 : Int32) u
    · refine G_aload_n C 0 dX9_undo_90 rfl rfl ?_
      refine G_getR (j := 1) C 5 shM_0 rfl rfl (by decide) wf9_25 dX9_undo_91 ?_
      refine G_iload_n C 1 dX9_undo_94 rfl rfl ?_
      refine G_aload_n C 0 dX9_undo_95 rfl rfl ?_
      refine G_getR (j := 30) C 58 shM_0 rfl rfl (by decide) wf9_187 dX9_undo_96 ?_
      refine G_iload_n C 1 dX9_undo_99 rfl rfl ?_
      refine G_iald C shM_30 dX9_undo_100 (fun hb32 => ?_)
      refine G_iast C shM_1 dX9_undo_101 (fun _ u33 => ?_)
      refine G_aload_n C 0 dX9_undo_102 rfl rfl ?_
      refine G_getR (j := 2) C 6 shM_0 rfl rfl (by decide) wf9_29 dX9_undo_103 ?_
      refine G_iload_n C 1 dX9_undo_106 rfl rfl ?_
      refine G_aload_n C 0 dX9_undo_107 rfl rfl ?_
      refine G_getR (j := 31) C 59 shM_0 rfl rfl (by decide) wf9_190 dX9_undo_108 ?_
      refine G_iload_n C 1 dX9_undo_111 rfl rfl ?_
      refine G_iald C shM_31 dX9_undo_112 (fun hb34 => ?_)
      refine G_iast C shM_2 dX9_undo_113 (fun _ u35 => ?_)
      refine G_aload_n C 0 dX9_undo_114 rfl rfl ?_
      refine G_getR (j := 3) C 7 shM_0 rfl rfl (by decide) wf9_32 dX9_undo_115 ?_
      refine G_iload_n C 1 dX9_undo_118 rfl rfl ?_
      refine G_aload_n C 0 dX9_undo_119 rfl rfl ?_
      refine G_getR (j := 32) C 60 shM_0 rfl rfl (by decide) wf9_193 dX9_undo_120 ?_
      refine G_iload_n C 1 dX9_undo_123 rfl rfl ?_
      refine G_iald C shM_32 dX9_undo_124 (fun hb36 => ?_)
      refine G_iast C shM_3 dX9_undo_125 (fun _ u37 => ?_)
      refine G_iinc (v := 1) (L' := [(1, .int (x1 + (1 : Int32))), (0, .ref 0)]) C 1 dX9_undo_126 rfl (by decide) (by decide) rfl ?_
      refine G_goto (tgt := 84) C dX9_undo_129 (by decide) ?_
      refine G_locals [1, 0] rfl ?_
      exact ih (x1 + (1 : Int32)) u37
set_option maxRecDepth 20000 in
theorem go_X9_undo {p : Program} {l : Launch} {e : Env} {s : State} {m : MethodId} {args : Array Value} {below : List Frame} {meth : Method} {c : Code} {as : Nat → Nat} {dA : Nat → ClassId} {D : va_G} {d : Nat}  (C : zCx p s m args meth c as dA D SHM d 2 yX9_undo.cls cX9_undo ((some FieldType.int))) (hd : 1 ≤ d) : ∀ (u : zM), Go p l e s m args below meth c as dA D SHM d 2 zQi 0 [(0, .ref 0)] [] u (f_X9_undo  u) := by
  intro u
  unfold f_X9_undo
  refine G_aload_n C 0 dX9_undo_0 rfl rfl ?_
  refine G_getI C 48 shM_0 rfl rfl (by decide) wf9_156 dX9_undo_1 ?_
  refine G_if_ne (tgt := 10) C dX9_undo_4 (by decide) (fun _ => ?_) (fun _ => ?_)
  · refine G_aload_n C 0 dX9_undo_10 rfl rfl ?_
    refine G_aload_n C 0 dX9_undo_11 rfl rfl ?_
    refine G_getI C 49 shM_0 rfl rfl (by decide) wf9_160 dX9_undo_12 ?_
    refine G_putI (ty := .int) C 13 shM_0 rfl rfl (by decide) wf9_50 rfl (by decide +kernel) rfl rfl dX9_undo_15 (fun u1 => ?_)
    refine G_aload_n C 0 dX9_undo_18 rfl rfl ?_
    refine G_aload_n C 0 dX9_undo_19 rfl rfl ?_
    refine G_getI C 50 shM_0 rfl rfl (by decide) wf9_163 dX9_undo_20 ?_
    refine G_putI (ty := .int) C 0 shM_0 rfl rfl (by decide) wf9_7 rfl (by decide +kernel) rfl rfl dX9_undo_23 (fun u2 => ?_)
    refine G_aload_n C 0 dX9_undo_26 rfl rfl ?_
    refine G_aload_n C 0 dX9_undo_27 rfl rfl ?_
    refine G_getI C 51 shM_0 rfl rfl (by decide) wf9_166 dX9_undo_28 ?_
    refine G_putI (ty := .int) C 1 shM_0 rfl rfl (by decide) wf9_13 rfl (by decide +kernel) rfl rfl dX9_undo_31 (fun u3 => ?_)
    refine G_aload_n C 0 dX9_undo_34 rfl rfl ?_
    refine G_aload_n C 0 dX9_undo_35 rfl rfl ?_
    refine G_getI C 52 shM_0 rfl rfl (by decide) wf9_169 dX9_undo_36 ?_
    refine G_putI (ty := .int) C 2 shM_0 rfl rfl (by decide) wf9_16 rfl (by decide +kernel) rfl rfl dX9_undo_39 (fun u4 => ?_)
    refine G_aload_n C 0 dX9_undo_42 rfl rfl ?_
    refine G_aload_n C 0 dX9_undo_43 rfl rfl ?_
    refine G_getI C 53 shM_0 rfl rfl (by decide) wf9_172 dX9_undo_44 ?_
    refine G_putI (ty := .int) C 3 shM_0 rfl rfl (by decide) wf9_19 rfl (by decide +kernel) rfl rfl dX9_undo_47 (fun u5 => ?_)
    refine G_aload_n C 0 dX9_undo_50 rfl rfl ?_
    refine G_aload_n C 0 dX9_undo_51 rfl rfl ?_
    refine G_getI C 54 shM_0 rfl rfl (by decide) wf9_175 dX9_undo_52 ?_
    refine G_putI (ty := .int) C 4 shM_0 rfl rfl (by decide) wf9_22 rfl (by decide +kernel) rfl rfl dX9_undo_55 (fun u6 => ?_)
    refine G_aload_n C 0 dX9_undo_58 rfl rfl ?_
    refine G_aload_n C 0 dX9_undo_59 rfl rfl ?_
    refine G_getI C 55 shM_0 rfl rfl (by decide) wf9_178 dX9_undo_60 ?_
    refine G_putI (ty := .int) C 38 shM_0 rfl rfl (by decide) wf9_126 rfl (by decide +kernel) rfl rfl dX9_undo_63 (fun u7 => ?_)
    refine G_aload_n C 0 dX9_undo_66 rfl rfl ?_
    refine G_aload_n C 0 dX9_undo_67 rfl rfl ?_
    refine G_getI C 56 shM_0 rfl rfl (by decide) wf9_181 dX9_undo_68 ?_
    refine G_putI (ty := .int) C 42 shM_0 rfl rfl (by decide) wf9_138 rfl (by decide +kernel) rfl rfl dX9_undo_71 (fun u8 => ?_)
    refine G_aload_n C 0 dX9_undo_74 rfl rfl ?_
    refine G_aload_n C 0 dX9_undo_75 rfl rfl ?_
    refine G_getI C 57 shM_0 rfl rfl (by decide) wf9_184 dX9_undo_76 ?_
    refine G_putI (ty := .int) C 43 shM_0 rfl rfl (by decide) wf9_141 rfl (by decide +kernel) rfl rfl dX9_undo_79 (fun u9 => ?_)
    refine G_iconst (v := 0) C dX9_undo_82 (by decide) ?_
    refine G_istore_n (L' := [(1, .int (0 : Int32)), (0, .ref 0)]) C dX9_undo_83 rfl (by decide) rfl ?_
    refine G_locals [1, 0] rfl ?_
    exact go_X9_undo_L84 C hd 400 (0 : Int32) u9
  · refine G_bipush (v := -3) C dX9_undo_7 (by decide) ?_
    exact G_iret C dX9_undo_9
theorem m_X9_undo    (u : zM) (d : Nat) (hd : 1 ≤ d) : zMet zQi SHM yX9_undo cX9_undo 2 ((some FieldType.int)) d [.ref 0] u (f_X9_undo  u) :=
  zMet_of (by decide +kernel) (fun as => Nat.le_of_ble_eq_true rfl) wwX9_undo.2.2.2.1 (by omega) (fun p l e s m args below meth c as dA D C => go_X9_undo C hd u)
/-! private void body(int) -/
def f_X9_body (p1 : Int32) (u : zM) : Option (Unit × zM) :=
  (if (20 : Int32) ≤ (gI u 0 72) then zlet (sI u 0 72 ((gI u 0 72) + (1 : Int32))) fun u1 => some ((), u1) else zck (inB (gI u 0 72) 20) <| zlet (sI u 44 (gI u 0 72).toNatClampNeg p1) fun u2 => zlet (sI u2 0 72 ((gI u2 0 72) + (1 : Int32))) fun u3 => some ((), u3))
set_option maxRecDepth 20000 in
theorem go_X9_body {p : Program} {l : Launch} {e : Env} {s : State} {m : MethodId} {args : Array Value} {below : List Frame} {meth : Method} {c : Code} {as : Nat → Nat} {dA : Nat → ClassId} {D : va_G} {d : Nat} {p1 : Int32} (C : zCx p s m args meth c as dA D SHM d 2 yX9_body.cls cX9_body (none)) (hd : 1 ≤ d) : ∀ (u : zM), Go p l e s m args below meth c as dA D SHM d 2 zQv 0 [(0, .ref 0), (1, .int p1)] [] u (f_X9_body p1 u) := by
  intro u
  unfold f_X9_body
  refine G_aload_n C 0 dX9_body_0 rfl rfl ?_
  refine G_getI C 72 shM_0 rfl rfl (by decide) wf9_229 dX9_body_1 ?_
  refine G_bipush (v := 20) C dX9_body_4 (by decide) ?_
  refine G_icmp_ge (tgt := 19) C dX9_body_6 (by decide) (fun _ => ?_) (fun _ => ?_)
  · refine G_aload_n C 0 dX9_body_19 rfl rfl ?_
    refine G_dup C dX9_body_20 rfl ?_
    refine G_getI C 72 shM_0 rfl rfl (by decide) wf9_229 dX9_body_21 ?_
    refine G_iconst (v := 1) C dX9_body_24 (by decide) ?_
    refine G_iadd C dX9_body_25 ?_
    refine G_putI (ty := .int) C 72 shM_0 rfl rfl (by decide) wf9_229 rfl (by decide +kernel) rfl rfl dX9_body_26 (fun u1 => ?_)
    exact G_vret C dX9_body_29
  · refine G_aload_n C 0 dX9_body_9 rfl rfl ?_
    refine G_getR (j := 44) C 73 shM_0 rfl rfl (by decide) wf9_232 dX9_body_10 ?_
    refine G_aload_n C 0 dX9_body_13 rfl rfl ?_
    refine G_getI C 72 shM_0 rfl rfl (by decide) wf9_229 dX9_body_14 ?_
    refine G_iload_n C 1 dX9_body_17 rfl rfl ?_
    refine G_iast C shM_44 dX9_body_18 (fun _ u2 => ?_)
    refine G_aload_n C 0 dX9_body_19 rfl rfl ?_
    refine G_dup C dX9_body_20 rfl ?_
    refine G_getI C 72 shM_0 rfl rfl (by decide) wf9_229 dX9_body_21 ?_
    refine G_iconst (v := 1) C dX9_body_24 (by decide) ?_
    refine G_iadd C dX9_body_25 ?_
    refine G_putI (ty := .int) C 72 shM_0 rfl rfl (by decide) wf9_229 rfl (by decide +kernel) rfl rfl dX9_body_26 (fun u3 => ?_)
    exact G_vret C dX9_body_29
theorem m_X9_body   (p1 : Int32) (u : zM) (d : Nat) (hd : 1 ≤ d) : zMet zQv SHM yX9_body cX9_body 2 (none) d [.ref 0, .int p1] u (f_X9_body p1 u) :=
  zMet_of (by decide +kernel) (fun as => Nat.le_of_ble_eq_true rfl) wwX9_body.2.2.2.1 (by omega) (fun p l e s m args below meth c as dA D C => go_X9_body C hd u)
/-! private int oneGlows(int, int) -/
def f_X9_oneGlows (p1 : Int32) (p2 : Int32) (u : zM) : Option (Int32 × zM) :=
  zb (f_X9_body (10 : Int32) u) fun _ u2 => some ((p2 + p1), u2)
set_option maxRecDepth 20000 in
theorem go_X9_oneGlows {p : Program} {l : Launch} {e : Env} {s : State} {m : MethodId} {args : Array Value} {below : List Frame} {meth : Method} {c : Code} {as : Nat → Nat} {dA : Nat → ClassId} {D : va_G} {d : Nat} {p1 : Int32} {p2 : Int32} (C : zCx p s m args meth c as dA D SHM d 3 yX9_oneGlows.cls cX9_oneGlows ((some FieldType.int))) (hd : 2 ≤ d) : ∀ (u : zM), Go p l e s m args below meth c as dA D SHM d 3 zQi 0 [(0, .ref 0), (1, .int p1), (2, .int p2)] [] u (f_X9_oneGlows p1 p2 u) := by
  intro u
  unfold f_X9_oneGlows
  refine G_aload_n C 0 dX9_oneGlows_0 rfl rfl ?_
  refine G_bipush (v := 10) C dX9_oneGlows_1 (by decide) ?_
  refine G_callVv C (m_X9_body (10 : Int32) u (d - 1) (by omega)) (d' := d - 1) (As := [.int (10 : Int32)]) (by omega) rfl wm9_417 wwX9_body shM_0 rfl (Nat.le_of_ble_eq_true rfl) dX9_oneGlows_3 (fun y1 u2 => ?_)
  refine G_iload_n C 2 dX9_oneGlows_6 rfl rfl ?_
  refine G_iload_n C 1 dX9_oneGlows_7 rfl rfl ?_
  refine G_iadd C dX9_oneGlows_8 ?_
  exact G_iret C dX9_oneGlows_9
theorem m_X9_oneGlows   (p1 : Int32) (p2 : Int32) (u : zM) (d : Nat) (hd : 2 ≤ d) : zMet zQi SHM yX9_oneGlows cX9_oneGlows 3 ((some FieldType.int)) d [.ref 0, .int p1, .int p2] u (f_X9_oneGlows p1 p2 u) :=
  zMet_of (by decide +kernel) (fun as => Nat.le_of_ble_eq_true rfl) wwX9_oneGlows.2.2.2.1 (by omega) (fun p l e s m args below meth c as dA D C => go_X9_oneGlows C hd u)
/-! private int glowsAct(int, int) -/
def f_X9_glowsAct_L40 (p1 : Int32) (p2 : Int32) (u : zM) : Option (Int32 × zM) :=
  zb (f_X9_body (30 : Int32) u) fun _ u5 => zb (f_X9_oneGlows p1 (p2 * (3 : Int32)) u5) fun y6 u7 => some (y6, u7)
def f_X9_glowsAct (p1 : Int32) (p2 : Int32) (u : zM) : Option (Int32 × zM) :=
  zck (inB p1 6) <| zlx (gI u 1 p1.toNatClampNeg) fun v2 => (if v2 = (2 : Int32) then f_X9_glowsAct_L40 p1 p2 u else if v2 = (3 : Int32) then zb (f_X9_oneGlows p1 p2 u) fun y9 u10 => some (y9, u10) else if v2 = (4 : Int32) then zb (f_X9_body (50 : Int32) u) fun _ u13 => zb (f_X9_oneGlows p1 p2 u13) fun y14 u15 => some ((-y14), u15) else if v2 = (5 : Int32) then f_X9_glowsAct_L40 p1 p2 u else if v2 = (6 : Int32) then zb (f_X9_body (71 : Int32) u) fun _ u19 => zb (f_X9_oneGlows p1 p2 u19) fun y20 u21 => zck (inB p1 6) <| some ((y20 ^^^ (gI u21 2 p1.toNatClampNeg)), u21) else zb (f_X9_oneGlows p1 p2 u) fun y23 u24 => some (y23, u24))
set_option maxRecDepth 20000 in
theorem go_X9_glowsAct_L40 {p : Program} {l : Launch} {e : Env} {s : State} {m : MethodId} {args : Array Value} {below : List Frame} {meth : Method} {c : Code} {as : Nat → Nat} {dA : Nat → ClassId} {D : va_G} {d : Nat} {p1 : Int32} {p2 : Int32} (C : zCx p s m args meth c as dA D SHM d 3 yX9_glowsAct.cls cX9_glowsAct ((some FieldType.int))) (hd : 3 ≤ d) : ∀ (u : zM), Go p l e s m args below meth c as dA D SHM d 3 zQi 40 [(0, .ref 0), (1, .int p1), (2, .int p2)] [] u (f_X9_glowsAct_L40 p1 p2 u) := by
  intro u
  unfold f_X9_glowsAct_L40
  refine G_aload_n C 0 dX9_glowsAct_40 rfl rfl ?_
  refine G_bipush (v := 30) C dX9_glowsAct_41 (by decide) ?_
  refine G_callVv C (m_X9_body (30 : Int32) u (d - 1) (by omega)) (d' := d - 1) (As := [.int (30 : Int32)]) (by omega) rfl wm9_417 wwX9_body shM_0 rfl (Nat.le_of_ble_eq_true rfl) dX9_glowsAct_43 (fun y4 u5 => ?_)
  refine G_aload_n C 0 dX9_glowsAct_46 rfl rfl ?_
  refine G_iload_n C 1 dX9_glowsAct_47 rfl rfl ?_
  refine G_iload_n C 2 dX9_glowsAct_48 rfl rfl ?_
  refine G_iconst (v := 3) C dX9_glowsAct_49 (by decide) ?_
  refine G_imul C dX9_glowsAct_50 ?_
  refine G_callVi C (m_X9_oneGlows p1 (p2 * (3 : Int32)) u5 (d - 1) (by omega)) (d' := d - 1) (As := [.int p1, .int (p2 * (3 : Int32))]) (by omega) rfl wm9_420 wwX9_oneGlows shM_0 rfl (Nat.le_of_ble_eq_true rfl) dX9_glowsAct_51 (fun y6 u7 => ?_)
  exact G_iret C dX9_glowsAct_54
set_option maxRecDepth 20000 in
theorem go_X9_glowsAct {p : Program} {l : Launch} {e : Env} {s : State} {m : MethodId} {args : Array Value} {below : List Frame} {meth : Method} {c : Code} {as : Nat → Nat} {dA : Nat → ClassId} {D : va_G} {d : Nat} {p1 : Int32} {p2 : Int32} (C : zCx p s m args meth c as dA D SHM d 3 yX9_glowsAct.cls cX9_glowsAct ((some FieldType.int))) (hd : 3 ≤ d) : ∀ (u : zM), Go p l e s m args below meth c as dA D SHM d 3 zQi 0 [(0, .ref 0), (1, .int p1), (2, .int p2)] [] u (f_X9_glowsAct p1 p2 u) := by
  intro u
  unfold f_X9_glowsAct
  refine G_aload_n C 0 dX9_glowsAct_0 rfl rfl ?_
  refine G_getR (j := 1) C 5 shM_0 rfl rfl (by decide) wf9_25 dX9_glowsAct_1 ?_
  refine G_iload_n C 1 dX9_glowsAct_4 rfl rfl ?_
  refine G_iald C shM_1 dX9_glowsAct_5 (fun hb1 => ?_)
  refine G_topi (fun v2 => ?_)
  refine G_if (fun h3 => ?_) (fun h3 => ?_)
  · refine G_tsIn (v := 2) (off := 34) (tgt := 40) C dX9_glowsAct_6 h3 (by decide) (by decide) rfl (by decide) ?_
    refine G_locals [0, 1, 2] rfl ?_
    exact go_X9_glowsAct_L40 C hd u
  · refine G_if (fun h8 => ?_) (fun h8 => ?_)
    · refine G_tsIn (v := 3) (off := 83) (tgt := 89) C dX9_glowsAct_6 h8 (by decide) (by decide) rfl (by decide) ?_
      refine G_aload_n C 0 dX9_glowsAct_89 rfl rfl ?_
      refine G_iload_n C 1 dX9_glowsAct_90 rfl rfl ?_
      refine G_iload_n C 2 dX9_glowsAct_91 rfl rfl ?_
      refine G_callVi C (m_X9_oneGlows p1 p2 u (d - 1) (by omega)) (d' := d - 1) (As := [.int p1, .int p2]) (by omega) rfl wm9_420 wwX9_oneGlows shM_0 rfl (Nat.le_of_ble_eq_true rfl) dX9_glowsAct_92 (fun y9 u10 => ?_)
      exact G_iret C dX9_glowsAct_95
    · refine G_if (fun h11 => ?_) (fun h11 => ?_)
      · refine G_tsIn (v := 4) (off := 49) (tgt := 55) C dX9_glowsAct_6 h11 (by decide) (by decide) rfl (by decide) ?_
        refine G_aload_n C 0 dX9_glowsAct_55 rfl rfl ?_
        refine G_bipush (v := 50) C dX9_glowsAct_56 (by decide) ?_
        refine G_callVv C (m_X9_body (50 : Int32) u (d - 1) (by omega)) (d' := d - 1) (As := [.int (50 : Int32)]) (by omega) rfl wm9_417 wwX9_body shM_0 rfl (Nat.le_of_ble_eq_true rfl) dX9_glowsAct_58 (fun y12 u13 => ?_)
        refine G_aload_n C 0 dX9_glowsAct_61 rfl rfl ?_
        refine G_iload_n C 1 dX9_glowsAct_62 rfl rfl ?_
        refine G_iload_n C 2 dX9_glowsAct_63 rfl rfl ?_
        refine G_callVi C (m_X9_oneGlows p1 p2 u13 (d - 1) (by omega)) (d' := d - 1) (As := [.int p1, .int p2]) (by omega) rfl wm9_420 wwX9_oneGlows shM_0 rfl (Nat.le_of_ble_eq_true rfl) dX9_glowsAct_64 (fun y14 u15 => ?_)
        refine G_ineg C dX9_glowsAct_67 ?_
        exact G_iret C dX9_glowsAct_68
      · refine G_if (fun h16 => ?_) (fun h16 => ?_)
        · refine G_tsIn (v := 5) (off := 34) (tgt := 40) C dX9_glowsAct_6 h16 (by decide) (by decide) rfl (by decide) ?_
          refine G_locals [0, 1, 2] rfl ?_
          exact go_X9_glowsAct_L40 C hd u
        · refine G_if (fun h17 => ?_) (fun h17 => ?_)
          · refine G_tsIn (v := 6) (off := 63) (tgt := 69) C dX9_glowsAct_6 h17 (by decide) (by decide) rfl (by decide) ?_
            refine G_aload_n C 0 dX9_glowsAct_69 rfl rfl ?_
            refine G_bipush (v := 71) C dX9_glowsAct_70 (by decide) ?_
            refine G_callVv C (m_X9_body (71 : Int32) u (d - 1) (by omega)) (d' := d - 1) (As := [.int (71 : Int32)]) (by omega) rfl wm9_417 wwX9_body shM_0 rfl (Nat.le_of_ble_eq_true rfl) dX9_glowsAct_72 (fun y18 u19 => ?_)
            refine G_aload_n C 0 dX9_glowsAct_75 rfl rfl ?_
            refine G_iload_n C 1 dX9_glowsAct_76 rfl rfl ?_
            refine G_iload_n C 2 dX9_glowsAct_77 rfl rfl ?_
            refine G_callVi C (m_X9_oneGlows p1 p2 u19 (d - 1) (by omega)) (d' := d - 1) (As := [.int p1, .int p2]) (by omega) rfl wm9_420 wwX9_oneGlows shM_0 rfl (Nat.le_of_ble_eq_true rfl) dX9_glowsAct_78 (fun y20 u21 => ?_)
            refine G_aload_n C 0 dX9_glowsAct_81 rfl rfl ?_
            refine G_getR (j := 2) C 6 shM_0 rfl rfl (by decide) wf9_29 dX9_glowsAct_82 ?_
            refine G_iload_n C 1 dX9_glowsAct_85 rfl rfl ?_
            refine G_iald C shM_2 dX9_glowsAct_86 (fun hb22 => ?_)
            refine G_ixor C dX9_glowsAct_87 ?_
            exact G_iret C dX9_glowsAct_88
          · refine G_tsOut (tgt := 89) C dX9_glowsAct_6 (by have e0 := lv_neT (a := 2) h3 rfl; have e1 := lv_neT (a := 3) h8 rfl; have e2 := lv_neT (a := 4) h11 rfl; have e3 := lv_neT (a := 5) h16 rfl; have e4 := lv_neT (a := 6) h17 rfl; omega) (by decide) ?_
            refine G_aload_n C 0 dX9_glowsAct_89 rfl rfl ?_
            refine G_iload_n C 1 dX9_glowsAct_90 rfl rfl ?_
            refine G_iload_n C 2 dX9_glowsAct_91 rfl rfl ?_
            refine G_callVi C (m_X9_oneGlows p1 p2 u (d - 1) (by omega)) (d' := d - 1) (As := [.int p1, .int p2]) (by omega) rfl wm9_420 wwX9_oneGlows shM_0 rfl (Nat.le_of_ble_eq_true rfl) dX9_glowsAct_92 (fun y23 u24 => ?_)
            exact G_iret C dX9_glowsAct_95
theorem m_X9_glowsAct   (p1 : Int32) (p2 : Int32) (u : zM) (d : Nat) (hd : 3 ≤ d) : zMet zQi SHM yX9_glowsAct cX9_glowsAct 3 ((some FieldType.int)) d [.ref 0, .int p1, .int p2] u (f_X9_glowsAct p1 p2 u) :=
  zMet_of (by decide +kernel) (fun as => Nat.le_of_ble_eq_true rfl) wwX9_glowsAct.2.2.2.1 (by omega) (fun p l e s m args below meth c as dA D C => go_X9_glowsAct C hd u)
/-! private int oneRings(int, int) -/
def f_X9_oneRings (p1 : Int32) (p2 : Int32) (u : zM) : Option (Int32 × zM) :=
  zb (f_X9_body (11 : Int32) u) fun _ u2 => zb (f_X9_glowsAct p1 p2 u2) fun y3 u4 => zck (inB p1 6) <| some ((y3 - (gI u4 2 p1.toNatClampNeg)), u4)
set_option maxRecDepth 20000 in
theorem go_X9_oneRings {p : Program} {l : Launch} {e : Env} {s : State} {m : MethodId} {args : Array Value} {below : List Frame} {meth : Method} {c : Code} {as : Nat → Nat} {dA : Nat → ClassId} {D : va_G} {d : Nat} {p1 : Int32} {p2 : Int32} (C : zCx p s m args meth c as dA D SHM d 3 yX9_oneRings.cls cX9_oneRings ((some FieldType.int))) (hd : 4 ≤ d) : ∀ (u : zM), Go p l e s m args below meth c as dA D SHM d 3 zQi 0 [(0, .ref 0), (1, .int p1), (2, .int p2)] [] u (f_X9_oneRings p1 p2 u) := by
  intro u
  unfold f_X9_oneRings
  refine G_aload_n C 0 dX9_oneRings_0 rfl rfl ?_
  refine G_bipush (v := 11) C dX9_oneRings_1 (by decide) ?_
  refine G_callVv C (m_X9_body (11 : Int32) u (d - 1) (by omega)) (d' := d - 1) (As := [.int (11 : Int32)]) (by omega) rfl wm9_417 wwX9_body shM_0 rfl (Nat.le_of_ble_eq_true rfl) dX9_oneRings_3 (fun y1 u2 => ?_)
  refine G_aload_n C 0 dX9_oneRings_6 rfl rfl ?_
  refine G_iload_n C 1 dX9_oneRings_7 rfl rfl ?_
  refine G_iload_n C 2 dX9_oneRings_8 rfl rfl ?_
  refine G_callVi C (m_X9_glowsAct p1 p2 u2 (d - 1) (by omega)) (d' := d - 1) (As := [.int p1, .int p2]) (by omega) rfl wm9_423 wwX9_glowsAct shM_0 rfl (Nat.le_of_ble_eq_true rfl) dX9_oneRings_9 (fun y3 u4 => ?_)
  refine G_aload_n C 0 dX9_oneRings_12 rfl rfl ?_
  refine G_getR (j := 2) C 6 shM_0 rfl rfl (by decide) wf9_29 dX9_oneRings_13 ?_
  refine G_iload_n C 1 dX9_oneRings_16 rfl rfl ?_
  refine G_iald C shM_2 dX9_oneRings_17 (fun hb5 => ?_)
  refine G_isub C dX9_oneRings_18 ?_
  exact G_iret C dX9_oneRings_19
theorem m_X9_oneRings   (p1 : Int32) (p2 : Int32) (u : zM) (d : Nat) (hd : 4 ≤ d) : zMet zQi SHM yX9_oneRings cX9_oneRings 3 ((some FieldType.int)) d [.ref 0, .int p1, .int p2] u (f_X9_oneRings p1 p2 u) :=
  zMet_of (by decide +kernel) (fun as => Nat.le_of_ble_eq_true rfl) wwX9_oneRings.2.2.2.1 (by omega) (fun p l e s m args below meth c as dA D C => go_X9_oneRings C hd u)
/-! private int bankerRings(int, int) -/
def f_X9_bankerRings (p1 : Int32) (p2 : Int32) (u : zM) : Option (Int32 × zM) :=
  zb (f_X9_body (20 : Int32) u) fun _ u2 => zb (f_X9_oneRings p1 p2 u2) fun y3 u4 => some ((y3 ^^^ (6 : Int32)), u4)
set_option maxRecDepth 20000 in
theorem go_X9_bankerRings {p : Program} {l : Launch} {e : Env} {s : State} {m : MethodId} {args : Array Value} {below : List Frame} {meth : Method} {c : Code} {as : Nat → Nat} {dA : Nat → ClassId} {D : va_G} {d : Nat} {p1 : Int32} {p2 : Int32} (C : zCx p s m args meth c as dA D SHM d 3 yX9_bankerRings.cls cX9_bankerRings ((some FieldType.int))) (hd : 5 ≤ d) : ∀ (u : zM), Go p l e s m args below meth c as dA D SHM d 3 zQi 0 [(0, .ref 0), (1, .int p1), (2, .int p2)] [] u (f_X9_bankerRings p1 p2 u) := by
  intro u
  unfold f_X9_bankerRings
  refine G_aload_n C 0 dX9_bankerRings_0 rfl rfl ?_
  refine G_bipush (v := 20) C dX9_bankerRings_1 (by decide) ?_
  refine G_callVv C (m_X9_body (20 : Int32) u (d - 1) (by omega)) (d' := d - 1) (As := [.int (20 : Int32)]) (by omega) rfl wm9_417 wwX9_body shM_0 rfl (Nat.le_of_ble_eq_true rfl) dX9_bankerRings_3 (fun y1 u2 => ?_)
  refine G_aload_n C 0 dX9_bankerRings_6 rfl rfl ?_
  refine G_iload_n C 1 dX9_bankerRings_7 rfl rfl ?_
  refine G_iload_n C 2 dX9_bankerRings_8 rfl rfl ?_
  refine G_callVi C (m_X9_oneRings p1 p2 u2 (d - 1) (by omega)) (d' := d - 1) (As := [.int p1, .int p2]) (by omega) rfl wm9_426 wwX9_oneRings shM_0 rfl (Nat.le_of_ble_eq_true rfl) dX9_bankerRings_9 (fun y3 u4 => ?_)
  refine G_bipush (v := 6) C dX9_bankerRings_12 (by decide) ?_
  refine G_ixor C dX9_bankerRings_14 ?_
  exact G_iret C dX9_bankerRings_15
theorem m_X9_bankerRings   (p1 : Int32) (p2 : Int32) (u : zM) (d : Nat) (hd : 5 ≤ d) : zMet zQi SHM yX9_bankerRings cX9_bankerRings 3 ((some FieldType.int)) d [.ref 0, .int p1, .int p2] u (f_X9_bankerRings p1 p2 u) :=
  zMet_of (by decide +kernel) (fun as => Nat.le_of_ble_eq_true rfl) wwX9_bankerRings.2.2.2.1 (by omega) (fun p l e s m args below meth c as dA D C => go_X9_bankerRings C hd u)
/-! private int ringsAct(int, int) -/
def f_X9_ringsAct (p1 : Int32) (p2 : Int32) (u : zM) : Option (Int32 × zM) :=
  zck (inB p1 6) <| zlx (gI u 1 p1.toNatClampNeg) fun v2 => (if v2 = (1 : Int32) then zb (f_X9_bankerRings p1 p2 u) fun y4 u5 => some (y4, u5) else if v2 = (4 : Int32) then zb (f_X9_body (51 : Int32) u) fun _ u8 => zb (f_X9_bankerRings p1 (p2 + (1 : Int32)) u8) fun y9 u10 => some (y9, u10) else if v2 = (6 : Int32) then zb (f_X9_body (70 : Int32) u) fun _ u13 => zb (f_X9_oneRings p1 p2 u13) fun y14 u15 => zb (f_X9_oneGlows p1 (2 : Int32) u15) fun y16 u17 => some ((y14 + y16), u17) else zb (f_X9_oneRings p1 p2 u) fun y18 u19 => some (y18, u19))
set_option maxRecDepth 20000 in
theorem go_X9_ringsAct {p : Program} {l : Launch} {e : Env} {s : State} {m : MethodId} {args : Array Value} {below : List Frame} {meth : Method} {c : Code} {as : Nat → Nat} {dA : Nat → ClassId} {D : va_G} {d : Nat} {p1 : Int32} {p2 : Int32} (C : zCx p s m args meth c as dA D SHM d 4 yX9_ringsAct.cls cX9_ringsAct ((some FieldType.int))) (hd : 6 ≤ d) : ∀ (u : zM), Go p l e s m args below meth c as dA D SHM d 4 zQi 0 [(0, .ref 0), (1, .int p1), (2, .int p2)] [] u (f_X9_ringsAct p1 p2 u) := by
  intro u
  unfold f_X9_ringsAct
  refine G_aload_n C 0 dX9_ringsAct_0 rfl rfl ?_
  refine G_getR (j := 1) C 5 shM_0 rfl rfl (by decide) wf9_25 dX9_ringsAct_1 ?_
  refine G_iload_n C 1 dX9_ringsAct_4 rfl rfl ?_
  refine G_iald C shM_1 dX9_ringsAct_5 (fun hb1 => ?_)
  refine G_topi (fun v2 => ?_)
  refine G_if (fun h3 => ?_) (fun h3 => ?_)
  · refine G_lsw (off := 34) (tgt := 40) C dX9_ringsAct_6 (by decide) (by rw [h3]; rfl) (by decide) ?_
    refine G_aload_n C 0 dX9_ringsAct_40 rfl rfl ?_
    refine G_iload_n C 1 dX9_ringsAct_41 rfl rfl ?_
    refine G_iload_n C 2 dX9_ringsAct_42 rfl rfl ?_
    refine G_callVi C (m_X9_bankerRings p1 p2 u (d - 1) (by omega)) (d' := d - 1) (As := [.int p1, .int p2]) (by omega) rfl wm9_429 wwX9_bankerRings shM_0 rfl (Nat.le_of_ble_eq_true rfl) dX9_ringsAct_43 (fun y4 u5 => ?_)
    exact G_iret C dX9_ringsAct_46
  · refine G_if (fun h6 => ?_) (fun h6 => ?_)
    · refine G_lsw (off := 41) (tgt := 47) C dX9_ringsAct_6 (by decide) (by rw [h6]; rfl) (by decide) ?_
      refine G_aload_n C 0 dX9_ringsAct_47 rfl rfl ?_
      refine G_bipush (v := 51) C dX9_ringsAct_48 (by decide) ?_
      refine G_callVv C (m_X9_body (51 : Int32) u (d - 1) (by omega)) (d' := d - 1) (As := [.int (51 : Int32)]) (by omega) rfl wm9_417 wwX9_body shM_0 rfl (Nat.le_of_ble_eq_true rfl) dX9_ringsAct_50 (fun y7 u8 => ?_)
      refine G_aload_n C 0 dX9_ringsAct_53 rfl rfl ?_
      refine G_iload_n C 1 dX9_ringsAct_54 rfl rfl ?_
      refine G_iload_n C 2 dX9_ringsAct_55 rfl rfl ?_
      refine G_iconst (v := 1) C dX9_ringsAct_56 (by decide) ?_
      refine G_iadd C dX9_ringsAct_57 ?_
      refine G_callVi C (m_X9_bankerRings p1 (p2 + (1 : Int32)) u8 (d - 1) (by omega)) (d' := d - 1) (As := [.int p1, .int (p2 + (1 : Int32))]) (by omega) rfl wm9_429 wwX9_bankerRings shM_0 rfl (Nat.le_of_ble_eq_true rfl) dX9_ringsAct_58 (fun y9 u10 => ?_)
      exact G_iret C dX9_ringsAct_61
    · refine G_if (fun h11 => ?_) (fun h11 => ?_)
      · refine G_lsw (off := 56) (tgt := 62) C dX9_ringsAct_6 (by decide) (by rw [h11]; rfl) (by decide) ?_
        refine G_aload_n C 0 dX9_ringsAct_62 rfl rfl ?_
        refine G_bipush (v := 70) C dX9_ringsAct_63 (by decide) ?_
        refine G_callVv C (m_X9_body (70 : Int32) u (d - 1) (by omega)) (d' := d - 1) (As := [.int (70 : Int32)]) (by omega) rfl wm9_417 wwX9_body shM_0 rfl (Nat.le_of_ble_eq_true rfl) dX9_ringsAct_65 (fun y12 u13 => ?_)
        refine G_aload_n C 0 dX9_ringsAct_68 rfl rfl ?_
        refine G_iload_n C 1 dX9_ringsAct_69 rfl rfl ?_
        refine G_iload_n C 2 dX9_ringsAct_70 rfl rfl ?_
        refine G_callVi C (m_X9_oneRings p1 p2 u13 (d - 1) (by omega)) (d' := d - 1) (As := [.int p1, .int p2]) (by omega) rfl wm9_426 wwX9_oneRings shM_0 rfl (Nat.le_of_ble_eq_true rfl) dX9_ringsAct_71 (fun y14 u15 => ?_)
        refine G_istore_n (L' := [(3, .int y14), (0, .ref 0), (1, .int p1), (2, .int p2)]) C dX9_ringsAct_74 rfl (by decide) rfl ?_
        refine G_iload_n C 0 dX9_ringsAct_75 rfl rfl ?_
        refine G_aload_n C 1 dX9_ringsAct_76 rfl rfl ?_
        refine G_iload_n C 2 dX9_ringsAct_77 rfl rfl ?_
        refine G_iconst (v := 2) C dX9_ringsAct_78 (by decide) ?_
        refine G_callVi C (m_X9_oneGlows p1 (2 : Int32) u15 (d - 1) (by omega)) (d' := d - 1) (As := [.int p1, .int (2 : Int32)]) (by omega) rfl wm9_420 wwX9_oneGlows shM_0 rfl (Nat.le_of_ble_eq_true rfl) dX9_ringsAct_79 (fun y16 u17 => ?_)
        refine G_iadd C dX9_ringsAct_82 ?_
        exact G_iret C dX9_ringsAct_83
      · refine G_lsw (off := 78) (tgt := 84) C dX9_ringsAct_6 (by decide) ((lv_osw h3 rfl).trans ((lv_osw h6 rfl).trans ((lv_osw h11 rfl).trans (rfl)))) (by decide) ?_
        refine G_aload_n C 0 dX9_ringsAct_84 rfl rfl ?_
        refine G_iload_n C 1 dX9_ringsAct_85 rfl rfl ?_
        refine G_iload_n C 2 dX9_ringsAct_86 rfl rfl ?_
        refine G_callVi C (m_X9_oneRings p1 p2 u (d - 1) (by omega)) (d' := d - 1) (As := [.int p1, .int p2]) (by omega) rfl wm9_426 wwX9_oneRings shM_0 rfl (Nat.le_of_ble_eq_true rfl) dX9_ringsAct_87 (fun y18 u19 => ?_)
        exact G_iret C dX9_ringsAct_90
theorem m_X9_ringsAct   (p1 : Int32) (p2 : Int32) (u : zM) (d : Nat) (hd : 6 ≤ d) : zMet zQi SHM yX9_ringsAct cX9_ringsAct 4 ((some FieldType.int)) d [.ref 0, .int p1, .int p2] u (f_X9_ringsAct p1 p2 u) :=
  zMet_of (by decide +kernel) (fun as => Nat.le_of_ble_eq_true rfl) wwX9_ringsAct.2.2.2.1 (by omega) (fun p l e s m args below meth c as dA D C => go_X9_ringsAct C hd u)
/-! private int oneTells(int, int) -/
def f_X9_oneTells (p1 : Int32) (p2 : Int32) (u : zM) : Option (Int32 × zM) :=
  zb (f_X9_body (12 : Int32) u) fun _ u2 => zb (f_X9_ringsAct p1 p2 u2) fun y3 u4 => some ((y3 * (2 : Int32)), u4)
set_option maxRecDepth 20000 in
theorem go_X9_oneTells {p : Program} {l : Launch} {e : Env} {s : State} {m : MethodId} {args : Array Value} {below : List Frame} {meth : Method} {c : Code} {as : Nat → Nat} {dA : Nat → ClassId} {D : va_G} {d : Nat} {p1 : Int32} {p2 : Int32} (C : zCx p s m args meth c as dA D SHM d 3 yX9_oneTells.cls cX9_oneTells ((some FieldType.int))) (hd : 7 ≤ d) : ∀ (u : zM), Go p l e s m args below meth c as dA D SHM d 3 zQi 0 [(0, .ref 0), (1, .int p1), (2, .int p2)] [] u (f_X9_oneTells p1 p2 u) := by
  intro u
  unfold f_X9_oneTells
  refine G_aload_n C 0 dX9_oneTells_0 rfl rfl ?_
  refine G_bipush (v := 12) C dX9_oneTells_1 (by decide) ?_
  refine G_callVv C (m_X9_body (12 : Int32) u (d - 1) (by omega)) (d' := d - 1) (As := [.int (12 : Int32)]) (by omega) rfl wm9_417 wwX9_body shM_0 rfl (Nat.le_of_ble_eq_true rfl) dX9_oneTells_3 (fun y1 u2 => ?_)
  refine G_aload_n C 0 dX9_oneTells_6 rfl rfl ?_
  refine G_iload_n C 1 dX9_oneTells_7 rfl rfl ?_
  refine G_iload_n C 2 dX9_oneTells_8 rfl rfl ?_
  refine G_callVi C (m_X9_ringsAct p1 p2 u2 (d - 1) (by omega)) (d' := d - 1) (As := [.int p1, .int p2]) (by omega) rfl wm9_432 wwX9_ringsAct shM_0 rfl (Nat.le_of_ble_eq_true rfl) dX9_oneTells_9 (fun y3 u4 => ?_)
  refine G_iconst (v := 2) C dX9_oneTells_12 (by decide) ?_
  refine G_imul C dX9_oneTells_13 ?_
  exact G_iret C dX9_oneTells_14
theorem m_X9_oneTells   (p1 : Int32) (p2 : Int32) (u : zM) (d : Nat) (hd : 7 ≤ d) : zMet zQi SHM yX9_oneTells cX9_oneTells 3 ((some FieldType.int)) d [.ref 0, .int p1, .int p2] u (f_X9_oneTells p1 p2 u) :=
  zMet_of (by decide +kernel) (fun as => Nat.le_of_ble_eq_true rfl) wwX9_oneTells.2.2.2.1 (by omega) (fun p l e s m args below meth c as dA D C => go_X9_oneTells C hd u)
/-! private int tellsAct(int, int) -/
def f_X9_tellsAct_L36 (p1 : Int32) (p2 : Int32) (u : zM) : Option (Int32 × zM) :=
  zb (f_X9_body (40 : Int32) u) fun _ u5 => zb (f_X9_oneTells p1 p2 u5) fun y6 u7 => zb (f_X9_ringsAct p1 (1 : Int32) u7) fun y8 u9 => some ((y6 + y8), u9)
def f_X9_tellsAct (p1 : Int32) (p2 : Int32) (u : zM) : Option (Int32 × zM) :=
  zck (inB p1 6) <| zlx (gI u 1 p1.toNatClampNeg) fun v2 => (if v2 = (3 : Int32) then f_X9_tellsAct_L36 p1 p2 u else if v2 = (4 : Int32) then zb (f_X9_oneTells p1 p2 u) fun y11 u12 => some (y11, u12) else if v2 = (5 : Int32) then zb (f_X9_body (60 : Int32) u) fun _ u15 => zb (f_X9_oneTells p1 (p2 - p1) u15) fun y16 u17 => some (y16, u17) else if v2 = (6 : Int32) then f_X9_tellsAct_L36 p1 p2 u else zb (f_X9_oneTells p1 p2 u) fun y19 u20 => some (y19, u20))
set_option maxRecDepth 20000 in
theorem go_X9_tellsAct_L36 {p : Program} {l : Launch} {e : Env} {s : State} {m : MethodId} {args : Array Value} {below : List Frame} {meth : Method} {c : Code} {as : Nat → Nat} {dA : Nat → ClassId} {D : va_G} {d : Nat} {p1 : Int32} {p2 : Int32} (C : zCx p s m args meth c as dA D SHM d 4 yX9_tellsAct.cls cX9_tellsAct ((some FieldType.int))) (hd : 8 ≤ d) : ∀ (u : zM), Go p l e s m args below meth c as dA D SHM d 4 zQi 36 [(0, .ref 0), (1, .int p1), (2, .int p2)] [] u (f_X9_tellsAct_L36 p1 p2 u) := by
  intro u
  unfold f_X9_tellsAct_L36
  refine G_aload_n C 0 dX9_tellsAct_36 rfl rfl ?_
  refine G_bipush (v := 40) C dX9_tellsAct_37 (by decide) ?_
  refine G_callVv C (m_X9_body (40 : Int32) u (d - 1) (by omega)) (d' := d - 1) (As := [.int (40 : Int32)]) (by omega) rfl wm9_417 wwX9_body shM_0 rfl (Nat.le_of_ble_eq_true rfl) dX9_tellsAct_39 (fun y4 u5 => ?_)
  refine G_aload_n C 0 dX9_tellsAct_42 rfl rfl ?_
  refine G_iload_n C 1 dX9_tellsAct_43 rfl rfl ?_
  refine G_iload_n C 2 dX9_tellsAct_44 rfl rfl ?_
  refine G_callVi C (m_X9_oneTells p1 p2 u5 (d - 1) (by omega)) (d' := d - 1) (As := [.int p1, .int p2]) (by omega) rfl wm9_435 wwX9_oneTells shM_0 rfl (Nat.le_of_ble_eq_true rfl) dX9_tellsAct_45 (fun y6 u7 => ?_)
  refine G_istore_n (L' := [(3, .int y6), (0, .ref 0), (1, .int p1), (2, .int p2)]) C dX9_tellsAct_48 rfl (by decide) rfl ?_
  refine G_iload_n C 0 dX9_tellsAct_49 rfl rfl ?_
  refine G_aload_n C 1 dX9_tellsAct_50 rfl rfl ?_
  refine G_iload_n C 2 dX9_tellsAct_51 rfl rfl ?_
  refine G_iconst (v := 1) C dX9_tellsAct_52 (by decide) ?_
  refine G_callVi C (m_X9_ringsAct p1 (1 : Int32) u7 (d - 1) (by omega)) (d' := d - 1) (As := [.int p1, .int (1 : Int32)]) (by omega) rfl wm9_432 wwX9_ringsAct shM_0 rfl (Nat.le_of_ble_eq_true rfl) dX9_tellsAct_53 (fun y8 u9 => ?_)
  refine G_iadd C dX9_tellsAct_56 ?_
  exact G_iret C dX9_tellsAct_57
set_option maxRecDepth 20000 in
theorem go_X9_tellsAct {p : Program} {l : Launch} {e : Env} {s : State} {m : MethodId} {args : Array Value} {below : List Frame} {meth : Method} {c : Code} {as : Nat → Nat} {dA : Nat → ClassId} {D : va_G} {d : Nat} {p1 : Int32} {p2 : Int32} (C : zCx p s m args meth c as dA D SHM d 4 yX9_tellsAct.cls cX9_tellsAct ((some FieldType.int))) (hd : 8 ≤ d) : ∀ (u : zM), Go p l e s m args below meth c as dA D SHM d 4 zQi 0 [(0, .ref 0), (1, .int p1), (2, .int p2)] [] u (f_X9_tellsAct p1 p2 u) := by
  intro u
  unfold f_X9_tellsAct
  refine G_aload_n C 0 dX9_tellsAct_0 rfl rfl ?_
  refine G_getR (j := 1) C 5 shM_0 rfl rfl (by decide) wf9_25 dX9_tellsAct_1 ?_
  refine G_iload_n C 1 dX9_tellsAct_4 rfl rfl ?_
  refine G_iald C shM_1 dX9_tellsAct_5 (fun hb1 => ?_)
  refine G_topi (fun v2 => ?_)
  refine G_if (fun h3 => ?_) (fun h3 => ?_)
  · refine G_tsIn (v := 3) (off := 30) (tgt := 36) C dX9_tellsAct_6 h3 (by decide) (by decide) rfl (by decide) ?_
    refine G_locals [0, 1, 2] rfl ?_
    exact go_X9_tellsAct_L36 C hd u
  · refine G_if (fun h10 => ?_) (fun h10 => ?_)
    · refine G_tsIn (v := 4) (off := 67) (tgt := 73) C dX9_tellsAct_6 h10 (by decide) (by decide) rfl (by decide) ?_
      refine G_aload_n C 0 dX9_tellsAct_73 rfl rfl ?_
      refine G_iload_n C 1 dX9_tellsAct_74 rfl rfl ?_
      refine G_iload_n C 2 dX9_tellsAct_75 rfl rfl ?_
      refine G_callVi C (m_X9_oneTells p1 p2 u (d - 1) (by omega)) (d' := d - 1) (As := [.int p1, .int p2]) (by omega) rfl wm9_435 wwX9_oneTells shM_0 rfl (Nat.le_of_ble_eq_true rfl) dX9_tellsAct_76 (fun y11 u12 => ?_)
      exact G_iret C dX9_tellsAct_79
    · refine G_if (fun h13 => ?_) (fun h13 => ?_)
      · refine G_tsIn (v := 5) (off := 52) (tgt := 58) C dX9_tellsAct_6 h13 (by decide) (by decide) rfl (by decide) ?_
        refine G_aload_n C 0 dX9_tellsAct_58 rfl rfl ?_
        refine G_bipush (v := 60) C dX9_tellsAct_59 (by decide) ?_
        refine G_callVv C (m_X9_body (60 : Int32) u (d - 1) (by omega)) (d' := d - 1) (As := [.int (60 : Int32)]) (by omega) rfl wm9_417 wwX9_body shM_0 rfl (Nat.le_of_ble_eq_true rfl) dX9_tellsAct_61 (fun y14 u15 => ?_)
        refine G_aload_n C 0 dX9_tellsAct_64 rfl rfl ?_
        refine G_iload_n C 1 dX9_tellsAct_65 rfl rfl ?_
        refine G_iload_n C 2 dX9_tellsAct_66 rfl rfl ?_
        refine G_iload_n C 1 dX9_tellsAct_67 rfl rfl ?_
        refine G_isub C dX9_tellsAct_68 ?_
        refine G_callVi C (m_X9_oneTells p1 (p2 - p1) u15 (d - 1) (by omega)) (d' := d - 1) (As := [.int p1, .int (p2 - p1)]) (by omega) rfl wm9_435 wwX9_oneTells shM_0 rfl (Nat.le_of_ble_eq_true rfl) dX9_tellsAct_69 (fun y16 u17 => ?_)
        exact G_iret C dX9_tellsAct_72
      · refine G_if (fun h18 => ?_) (fun h18 => ?_)
        · refine G_tsIn (v := 6) (off := 30) (tgt := 36) C dX9_tellsAct_6 h18 (by decide) (by decide) rfl (by decide) ?_
          refine G_locals [0, 1, 2] rfl ?_
          exact go_X9_tellsAct_L36 C hd u
        · refine G_tsOut (tgt := 73) C dX9_tellsAct_6 (by have e0 := lv_neT (a := 3) h3 rfl; have e1 := lv_neT (a := 4) h10 rfl; have e2 := lv_neT (a := 5) h13 rfl; have e3 := lv_neT (a := 6) h18 rfl; omega) (by decide) ?_
          refine G_aload_n C 0 dX9_tellsAct_73 rfl rfl ?_
          refine G_iload_n C 1 dX9_tellsAct_74 rfl rfl ?_
          refine G_iload_n C 2 dX9_tellsAct_75 rfl rfl ?_
          refine G_callVi C (m_X9_oneTells p1 p2 u (d - 1) (by omega)) (d' := d - 1) (As := [.int p1, .int p2]) (by omega) rfl wm9_435 wwX9_oneTells shM_0 rfl (Nat.le_of_ble_eq_true rfl) dX9_tellsAct_76 (fun y19 u20 => ?_)
          exact G_iret C dX9_tellsAct_79
theorem m_X9_tellsAct   (p1 : Int32) (p2 : Int32) (u : zM) (d : Nat) (hd : 8 ≤ d) : zMet zQi SHM yX9_tellsAct cX9_tellsAct 4 ((some FieldType.int)) d [.ref 0, .int p1, .int p2] u (f_X9_tellsAct p1 p2 u) :=
  zMet_of (by decide +kernel) (fun as => Nat.le_of_ble_eq_true rfl) wwX9_tellsAct.2.2.2.1 (by omega) (fun p l e s m args below meth c as dA D C => go_X9_tellsAct C hd u)
/-! public int act(int, int, int) -/
def f_X9_act (p1 : Int32) (p2 : Int32) (p3 : Int32) (u : zM) : Option (Int32 × zM) :=
  zlet (sI u 0 72 (0 : Int32)) fun u1 => zb (f_X9_isOne p1 u1) fun y2 u3 => (if y2 = (0 : Int32) then some ((0 : Int32), u3) else zb (f_X9_in p2 (0 : Int32) (2 : Int32) u3) fun y4 u5 => (if y4 = (0 : Int32) then some ((0 : Int32), u5) else (if p2 = (0 : Int32) then zb (f_X9_glowsAct p1 p3 u5) fun y10 u11 => some (y10, u11) else (if p2 = (1 : Int32) then zb (f_X9_ringsAct p1 p3 u5) fun y8 u9 => some (y8, u9) else zb (f_X9_tellsAct p1 p3 u5) fun y6 u7 => some (y6, u7)))))
set_option maxRecDepth 20000 in
theorem go_X9_act {p : Program} {l : Launch} {e : Env} {s : State} {m : MethodId} {args : Array Value} {below : List Frame} {meth : Method} {c : Code} {as : Nat → Nat} {dA : Nat → ClassId} {D : va_G} {d : Nat} {p1 : Int32} {p2 : Int32} {p3 : Int32} (C : zCx p s m args meth c as dA D SHM d 4 yX9_act.cls cX9_act ((some FieldType.int))) (hd : 9 ≤ d) : ∀ (u : zM), Go p l e s m args below meth c as dA D SHM d 4 zQi 0 [(0, .ref 0), (1, .int p1), (2, .int p2), (3, .int p3)] [] u (f_X9_act p1 p2 p3 u) := by
  intro u
  unfold f_X9_act
  refine G_aload_n C 0 dX9_act_0 rfl rfl ?_
  refine G_iconst (v := 0) C dX9_act_1 (by decide) ?_
  refine G_putI (ty := .int) C 72 shM_0 rfl rfl (by decide) wf9_229 rfl (by decide +kernel) rfl rfl dX9_act_2 (fun u1 => ?_)
  refine G_aload_n C 0 dX9_act_5 rfl rfl ?_
  refine G_iload_n C 1 dX9_act_6 rfl rfl ?_
  refine G_callVi C (m_X9_isOne p1 u1 (d - 1) (by omega)) (d' := d - 1) (As := [.int p1]) (by omega) rfl wm9_260 wwX9_isOne shM_0 rfl (Nat.le_of_ble_eq_true rfl) dX9_act_7 (fun y2 u3 => ?_)
  refine G_if_eq (tgt := 23) C dX9_act_10 (by decide) (fun _ => ?_) (fun _ => ?_)
  · refine G_iconst (v := 0) C dX9_act_23 (by decide) ?_
    exact G_iret C dX9_act_24
  · refine G_aload_n C 0 dX9_act_13 rfl rfl ?_
    refine G_iload_n C 2 dX9_act_14 rfl rfl ?_
    refine G_iconst (v := 0) C dX9_act_15 (by decide) ?_
    refine G_iconst (v := 2) C dX9_act_16 (by decide) ?_
    refine G_callVi C (m_X9_in p2 (0 : Int32) (2 : Int32) u3 (d - 1) (by omega)) (d' := d - 1) (As := [.int p2, .int (0 : Int32), .int (2 : Int32)]) (by omega) rfl wm9_252 wwX9_in shM_0 rfl (Nat.le_of_ble_eq_true rfl) dX9_act_17 (fun y4 u5 => ?_)
    refine G_if_ne (tgt := 25) C dX9_act_20 (by decide) (fun _ => ?_) (fun _ => ?_)
    · refine G_iload_n C 2 dX9_act_25 rfl rfl ?_
      refine G_if_ne (tgt := 38) C dX9_act_26 (by decide) (fun _ => ?_) (fun _ => ?_)
      · refine G_iload_n C 2 dX9_act_38 rfl rfl ?_
        refine G_iconst (v := 1) C dX9_act_39 (by decide) ?_
        refine G_icmp_ne (tgt := 52) C dX9_act_40 (by decide) (fun _ => ?_) (fun _ => ?_)
        · refine G_aload_n C 0 dX9_act_52 rfl rfl ?_
          refine G_iload_n C 1 dX9_act_53 rfl rfl ?_
          refine G_iload_n C 3 dX9_act_54 rfl rfl ?_
          refine G_callVi C (m_X9_tellsAct p1 p3 u5 (d - 1) (by omega)) (d' := d - 1) (As := [.int p1, .int p3]) (by omega) rfl wm9_438 wwX9_tellsAct shM_0 rfl (Nat.le_of_ble_eq_true rfl) dX9_act_55 (fun y6 u7 => ?_)
          exact G_iret C dX9_act_58
        · refine G_aload_n C 0 dX9_act_43 rfl rfl ?_
          refine G_iload_n C 1 dX9_act_44 rfl rfl ?_
          refine G_iload_n C 3 dX9_act_45 rfl rfl ?_
          refine G_callVi C (m_X9_ringsAct p1 p3 u5 (d - 1) (by omega)) (d' := d - 1) (As := [.int p1, .int p3]) (by omega) rfl wm9_432 wwX9_ringsAct shM_0 rfl (Nat.le_of_ble_eq_true rfl) dX9_act_46 (fun y8 u9 => ?_)
          refine G_goto (tgt := 58) C dX9_act_49 (by decide) ?_
          exact G_iret C dX9_act_58
      · refine G_aload_n C 0 dX9_act_29 rfl rfl ?_
        refine G_iload_n C 1 dX9_act_30 rfl rfl ?_
        refine G_iload_n C 3 dX9_act_31 rfl rfl ?_
        refine G_callVi C (m_X9_glowsAct p1 p3 u5 (d - 1) (by omega)) (d' := d - 1) (As := [.int p1, .int p3]) (by omega) rfl wm9_423 wwX9_glowsAct shM_0 rfl (Nat.le_of_ble_eq_true rfl) dX9_act_32 (fun y10 u11 => ?_)
        refine G_goto (tgt := 58) C dX9_act_35 (by decide) ?_
        exact G_iret C dX9_act_58
    · refine G_iconst (v := 0) C dX9_act_23 (by decide) ?_
      exact G_iret C dX9_act_24
theorem m_X9_act   (p1 : Int32) (p2 : Int32) (p3 : Int32) (u : zM) (d : Nat) (hd : 9 ≤ d) : zMet zQi SHM yX9_act cX9_act 4 ((some FieldType.int)) d [.ref 0, .int p1, .int p2, .int p3] u (f_X9_act p1 p2 p3 u) :=
  zMet_of (by decide +kernel) (fun as => Nat.le_of_ble_eq_true rfl) wwX9_act.2.2.2.1 (by omega) (fun p l e s m args below meth c as dA D C => go_X9_act C hd u)
/-! public int trace(int) -/
def f_X9_trace (p1 : Int32) (u : zM) : Option (Int32 × zM) :=
  zb (f_X9_in p1 (0 : Int32) (19 : Int32) u) fun y1 u2 => (if y1 = (0 : Int32) then some ((-1 : Int32), u2) else (if (gI u2 0 72) ≤ p1 then some ((-1 : Int32), u2) else zck (inB p1 20) <| some ((gI u2 44 p1.toNatClampNeg), u2)))
set_option maxRecDepth 20000 in
theorem go_X9_trace {p : Program} {l : Launch} {e : Env} {s : State} {m : MethodId} {args : Array Value} {below : List Frame} {meth : Method} {c : Code} {as : Nat → Nat} {dA : Nat → ClassId} {D : va_G} {d : Nat} {p1 : Int32} (C : zCx p s m args meth c as dA D SHM d 2 yX9_trace.cls cX9_trace ((some FieldType.int))) (hd : 2 ≤ d) : ∀ (u : zM), Go p l e s m args below meth c as dA D SHM d 2 zQi 0 [(0, .ref 0), (1, .int p1)] [] u (f_X9_trace p1 u) := by
  intro u
  unfold f_X9_trace
  refine G_aload_n C 0 dX9_trace_0 rfl rfl ?_
  refine G_iload_n C 1 dX9_trace_1 rfl rfl ?_
  refine G_iconst (v := 0) C dX9_trace_2 (by decide) ?_
  refine G_bipush (v := 19) C dX9_trace_3 (by decide) ?_
  refine G_callVi C (m_X9_in p1 (0 : Int32) (19 : Int32) u (d - 1) (by omega)) (d' := d - 1) (As := [.int p1, .int (0 : Int32), .int (19 : Int32)]) (by omega) rfl wm9_252 wwX9_in shM_0 rfl (Nat.le_of_ble_eq_true rfl) dX9_trace_5 (fun y1 u2 => ?_)
  refine G_if_eq (tgt := 28) C dX9_trace_8 (by decide) (fun _ => ?_) (fun _ => ?_)
  · refine G_iconst (v := -1) C dX9_trace_28 (by decide) ?_
    exact G_iret C dX9_trace_29
  · refine G_iload_n C 1 dX9_trace_11 rfl rfl ?_
    refine G_aload_n C 0 dX9_trace_12 rfl rfl ?_
    refine G_getI C 72 shM_0 rfl rfl (by decide) wf9_229 dX9_trace_13 ?_
    refine G_icmp_ge (tgt := 28) C dX9_trace_16 (by decide) (fun _ => ?_) (fun _ => ?_)
    · refine G_iconst (v := -1) C dX9_trace_28 (by decide) ?_
      exact G_iret C dX9_trace_29
    · refine G_aload_n C 0 dX9_trace_19 rfl rfl ?_
      refine G_getR (j := 44) C 73 shM_0 rfl rfl (by decide) wf9_232 dX9_trace_20 ?_
      refine G_iload_n C 1 dX9_trace_23 rfl rfl ?_
      refine G_iald C shM_44 dX9_trace_24 (fun hb3 => ?_)
      refine G_goto (tgt := 29) C dX9_trace_25 (by decide) ?_
      exact G_iret C dX9_trace_29
theorem m_X9_trace   (p1 : Int32) (u : zM) (d : Nat) (hd : 2 ≤ d) : zMet zQi SHM yX9_trace cX9_trace 2 ((some FieldType.int)) d [.ref 0, .int p1] u (f_X9_trace p1 u) :=
  zMet_of (by decide +kernel) (fun as => Nat.le_of_ble_eq_true rfl) wwX9_trace.2.2.2.1 (by omega) (fun p l e s m args below meth c as dA D C => go_X9_trace C hd u)
/-! public int taken(int, int) -/
def f_X9_taken_L61 (p1 : Int32) (p2 : Int32) (x3 : Int32) (u : zM) : Option (Int32 × zM) :=
  (if p2 = (3 : Int32) then (if x3 = (6 : Int32) then some (x3, u) else some ((-12 : Int32), u)) else some ((-12 : Int32), u))
def f_X9_taken_L51 (p1 : Int32) (p2 : Int32) (x3 : Int32) (u : zM) : Option (Int32 × zM) :=
  (if p2 = (2 : Int32) then (if x3 = (5 : Int32) then some (x3, u) else f_X9_taken_L61 p1 p2 x3 u) else f_X9_taken_L61 p1 p2 x3 u)
def f_X9_taken (p1 : Int32) (p2 : Int32) (u : zM) : Option (Int32 × zM) :=
  zb (f_X9_in p2 (0 : Int32) (6 : Int32) u) fun y1 u2 => (if y1 = (0 : Int32) then some ((-2 : Int32), u2) else zb (f_X9_isOne p1 u2) fun y3 u4 => (if y3 = (0 : Int32) then some ((-11 : Int32), u4) else zck (inB p1 6) <| zlx (gI u4 1 p1.toNatClampNeg) fun v6 => (if p2 = (0 : Int32) then some (v6, u4) else (if v6 = p2 then some (v6, u4) else (if p2 = (1 : Int32) then (if v6 = (4 : Int32) then some (v6, u4) else f_X9_taken_L51 p1 p2 v6 u4) else f_X9_taken_L51 p1 p2 v6 u4)))))
set_option maxRecDepth 20000 in
theorem go_X9_taken_L61 {p : Program} {l : Launch} {e : Env} {s : State} {m : MethodId} {args : Array Value} {below : List Frame} {meth : Method} {c : Code} {as : Nat → Nat} {dA : Nat → ClassId} {D : va_G} {d : Nat} {p1 : Int32} {p2 : Int32} (C : zCx p s m args meth c as dA D SHM d 4 yX9_taken.cls cX9_taken ((some FieldType.int))) (hd : 3 ≤ d) : ∀ (x3 : Int32) (u : zM), Go p l e s m args below meth c as dA D SHM d 4 zQi 61 [(0, .ref 0), (1, .int p1), (2, .int p2), (3, .int x3)] [] u (f_X9_taken_L61 p1 p2 x3 u) := by
  intro x3 u
  unfold f_X9_taken_L61
  refine G_iload_n C 2 dX9_taken_61 rfl rfl ?_
  refine G_iconst (v := 3) C dX9_taken_62 (by decide) ?_
  refine G_icmp_ne (tgt := 76) C dX9_taken_63 (by decide) (fun _ => ?_) (fun _ => ?_)
  · refine G_bipush (v := -12) C dX9_taken_76 (by decide) ?_
    exact G_iret C dX9_taken_78
  · refine G_iload_n C 3 dX9_taken_66 rfl rfl ?_
    refine G_bipush (v := 6) C dX9_taken_67 (by decide) ?_
    refine G_icmp_ne (tgt := 76) C dX9_taken_69 (by decide) (fun _ => ?_) (fun _ => ?_)
    · refine G_bipush (v := -12) C dX9_taken_76 (by decide) ?_
      exact G_iret C dX9_taken_78
    · refine G_iload_n C 3 dX9_taken_72 rfl rfl ?_
      refine G_goto (tgt := 78) C dX9_taken_73 (by decide) ?_
      exact G_iret C dX9_taken_78
set_option maxRecDepth 20000 in
theorem go_X9_taken_L51 {p : Program} {l : Launch} {e : Env} {s : State} {m : MethodId} {args : Array Value} {below : List Frame} {meth : Method} {c : Code} {as : Nat → Nat} {dA : Nat → ClassId} {D : va_G} {d : Nat} {p1 : Int32} {p2 : Int32} (C : zCx p s m args meth c as dA D SHM d 4 yX9_taken.cls cX9_taken ((some FieldType.int))) (hd : 3 ≤ d) : ∀ (x3 : Int32) (u : zM), Go p l e s m args below meth c as dA D SHM d 4 zQi 51 [(0, .ref 0), (1, .int p1), (2, .int p2), (3, .int x3)] [] u (f_X9_taken_L51 p1 p2 x3 u) := by
  intro x3 u
  unfold f_X9_taken_L51
  refine G_iload_n C 2 dX9_taken_51 rfl rfl ?_
  refine G_iconst (v := 2) C dX9_taken_52 (by decide) ?_
  refine G_icmp_ne (tgt := 61) C dX9_taken_53 (by decide) (fun _ => ?_) (fun _ => ?_)
  · refine G_locals [0, 1, 2, 3] rfl ?_
    exact go_X9_taken_L61 C hd x3 u
  · refine G_iload_n C 3 dX9_taken_56 rfl rfl ?_
    refine G_iconst (v := 5) C dX9_taken_57 (by decide) ?_
    refine G_icmp_eq (tgt := 72) C dX9_taken_58 (by decide) (fun _ => ?_) (fun _ => ?_)
    · refine G_iload_n C 3 dX9_taken_72 rfl rfl ?_
      refine G_goto (tgt := 78) C dX9_taken_73 (by decide) ?_
      exact G_iret C dX9_taken_78
    · refine G_locals [0, 1, 2, 3] rfl ?_
      exact go_X9_taken_L61 C hd x3 u
set_option maxRecDepth 20000 in
theorem go_X9_taken {p : Program} {l : Launch} {e : Env} {s : State} {m : MethodId} {args : Array Value} {below : List Frame} {meth : Method} {c : Code} {as : Nat → Nat} {dA : Nat → ClassId} {D : va_G} {d : Nat} {p1 : Int32} {p2 : Int32} (C : zCx p s m args meth c as dA D SHM d 4 yX9_taken.cls cX9_taken ((some FieldType.int))) (hd : 3 ≤ d) : ∀ (u : zM), Go p l e s m args below meth c as dA D SHM d 4 zQi 0 [(0, .ref 0), (1, .int p1), (2, .int p2)] [] u (f_X9_taken p1 p2 u) := by
  intro u
  unfold f_X9_taken
  refine G_aload_n C 0 dX9_taken_0 rfl rfl ?_
  refine G_iload_n C 2 dX9_taken_1 rfl rfl ?_
  refine G_iconst (v := 0) C dX9_taken_2 (by decide) ?_
  refine G_bipush (v := 6) C dX9_taken_3 (by decide) ?_
  refine G_callVi C (m_X9_in p2 (0 : Int32) (6 : Int32) u (d - 1) (by omega)) (d' := d - 1) (As := [.int p2, .int (0 : Int32), .int (6 : Int32)]) (by omega) rfl wm9_252 wwX9_in shM_0 rfl (Nat.le_of_ble_eq_true rfl) dX9_taken_5 (fun y1 u2 => ?_)
  refine G_if_ne (tgt := 14) C dX9_taken_8 (by decide) (fun _ => ?_) (fun _ => ?_)
  · refine G_aload_n C 0 dX9_taken_14 rfl rfl ?_
    refine G_iload_n C 1 dX9_taken_15 rfl rfl ?_
    refine G_callVi C (m_X9_isOne p1 u2 (d - 1) (by omega)) (d' := d - 1) (As := [.int p1]) (by omega) rfl wm9_260 wwX9_isOne shM_0 rfl (Nat.le_of_ble_eq_true rfl) dX9_taken_16 (fun y3 u4 => ?_)
    refine G_if_ne (tgt := 25) C dX9_taken_19 (by decide) (fun _ => ?_) (fun _ => ?_)
    · refine G_aload_n C 0 dX9_taken_25 rfl rfl ?_
      refine G_getR (j := 1) C 5 shM_0 rfl rfl (by decide) wf9_25 dX9_taken_26 ?_
      refine G_iload_n C 1 dX9_taken_29 rfl rfl ?_
      refine G_iald C shM_1 dX9_taken_30 (fun hb5 => ?_)
      refine G_topi (fun v6 => ?_)
      refine G_istore_n (L' := [(3, .int v6), (0, .ref 0), (1, .int p1), (2, .int p2)]) C dX9_taken_31 rfl (by decide) rfl ?_
      refine G_iload_n C 3 dX9_taken_32 rfl rfl ?_
      refine G_if_eq (tgt := 72) C dX9_taken_33 (by decide) (fun _ => ?_) (fun _ => ?_)
      · refine G_iload_n C 0 dX9_taken_72 rfl rfl ?_
        refine G_goto (tgt := 78) C dX9_taken_73 (by decide) ?_
        exact G_iret C dX9_taken_78
      · refine G_iload_n C 0 dX9_taken_36 rfl rfl ?_
        refine G_iload_n C 3 dX9_taken_37 rfl rfl ?_
        refine G_icmp_eq (tgt := 72) C dX9_taken_38 (by decide) (fun _ => ?_) (fun _ => ?_)
        · refine G_iload_n C 0 dX9_taken_72 rfl rfl ?_
          refine G_goto (tgt := 78) C dX9_taken_73 (by decide) ?_
          exact G_iret C dX9_taken_78
        · refine G_iload_n C 3 dX9_taken_41 rfl rfl ?_
          refine G_iconst (v := 1) C dX9_taken_42 (by decide) ?_
          refine G_icmp_ne (tgt := 51) C dX9_taken_43 (by decide) (fun _ => ?_) (fun _ => ?_)
          · refine G_locals [1, 2, 3, 0] rfl ?_
            exact go_X9_taken_L51 C hd v6 u4
          · refine G_iload_n C 0 dX9_taken_46 rfl rfl ?_
            refine G_iconst (v := 4) C dX9_taken_47 (by decide) ?_
            refine G_icmp_eq (tgt := 72) C dX9_taken_48 (by decide) (fun _ => ?_) (fun _ => ?_)
            · refine G_iload_n C 0 dX9_taken_72 rfl rfl ?_
              refine G_goto (tgt := 78) C dX9_taken_73 (by decide) ?_
              exact G_iret C dX9_taken_78
            · refine G_locals [1, 2, 3, 0] rfl ?_
              exact go_X9_taken_L51 C hd v6 u4
    · refine G_bipush (v := -11) C dX9_taken_22 (by decide) ?_
      exact G_iret C dX9_taken_24
  · refine G_bipush (v := -2) C dX9_taken_11 (by decide) ?_
    exact G_iret C dX9_taken_13
theorem m_X9_taken   (p1 : Int32) (p2 : Int32) (u : zM) (d : Nat) (hd : 3 ≤ d) : zMet zQi SHM yX9_taken cX9_taken 4 ((some FieldType.int)) d [.ref 0, .int p1, .int p2] u (f_X9_taken p1 p2 u) :=
  zMet_of (by decide +kernel) (fun as => Nat.le_of_ble_eq_true rfl) wwX9_taken.2.2.2.1 (by omega) (fun p l e s m args below meth c as dA D C => go_X9_taken C hd u)
/-! public int count(int) -/
def f_X9_count (p1 : Int32) (u : zM) : Option (Int32 × zM) :=
  (if p1 = (0 : Int32) then some ((gI u 0 0), u) else if p1 = (1 : Int32) then some ((gI u 0 2), u) else if p1 = (2 : Int32) then some ((gI u 0 12), u) else if p1 = (3 : Int32) then some ((gI u 0 38), u) else if p1 = (4 : Int32) then some ((gI u 0 42), u) else if p1 = (5 : Int32) then some ((gI u 0 43), u) else if p1 = (6 : Int32) then some ((gI u 0 14), u) else if p1 = (7 : Int32) then some ((gI u 0 72), u) else some ((-2 : Int32), u))
set_option maxRecDepth 20000 in
theorem go_X9_count {p : Program} {l : Launch} {e : Env} {s : State} {m : MethodId} {args : Array Value} {below : List Frame} {meth : Method} {c : Code} {as : Nat → Nat} {dA : Nat → ClassId} {D : va_G} {d : Nat} {p1 : Int32} (C : zCx p s m args meth c as dA D SHM d 2 yX9_count.cls cX9_count ((some FieldType.int))) (hd : 1 ≤ d) : ∀ (u : zM), Go p l e s m args below meth c as dA D SHM d 2 zQi 0 [(0, .ref 0), (1, .int p1)] [] u (f_X9_count p1 u) := by
  intro u
  unfold f_X9_count
  refine G_iload_n C 1 dX9_count_0 rfl rfl ?_
  refine G_if (fun h1 => ?_) (fun h1 => ?_)
  · refine G_tsIn (v := 0) (off := 47) (tgt := 48) C dX9_count_1 h1 (by decide) (by decide) rfl (by decide) ?_
    refine G_aload_n C 0 dX9_count_48 rfl rfl ?_
    refine G_getI C 0 shM_0 rfl rfl (by decide) wf9_7 dX9_count_49 ?_
    exact G_iret C dX9_count_52
  · refine G_if (fun h2 => ?_) (fun h2 => ?_)
    · refine G_tsIn (v := 1) (off := 52) (tgt := 53) C dX9_count_1 h2 (by decide) (by decide) rfl (by decide) ?_
      refine G_aload_n C 0 dX9_count_53 rfl rfl ?_
      refine G_getI C 2 shM_0 rfl rfl (by decide) wf9_16 dX9_count_54 ?_
      exact G_iret C dX9_count_57
    · refine G_if (fun h3 => ?_) (fun h3 => ?_)
      · refine G_tsIn (v := 2) (off := 57) (tgt := 58) C dX9_count_1 h3 (by decide) (by decide) rfl (by decide) ?_
        refine G_aload_n C 0 dX9_count_58 rfl rfl ?_
        refine G_getI C 12 shM_0 rfl rfl (by decide) wf9_47 dX9_count_59 ?_
        exact G_iret C dX9_count_62
      · refine G_if (fun h4 => ?_) (fun h4 => ?_)
        · refine G_tsIn (v := 3) (off := 62) (tgt := 63) C dX9_count_1 h4 (by decide) (by decide) rfl (by decide) ?_
          refine G_aload_n C 0 dX9_count_63 rfl rfl ?_
          refine G_getI C 38 shM_0 rfl rfl (by decide) wf9_126 dX9_count_64 ?_
          exact G_iret C dX9_count_67
        · refine G_if (fun h5 => ?_) (fun h5 => ?_)
          · refine G_tsIn (v := 4) (off := 67) (tgt := 68) C dX9_count_1 h5 (by decide) (by decide) rfl (by decide) ?_
            refine G_aload_n C 0 dX9_count_68 rfl rfl ?_
            refine G_getI C 42 shM_0 rfl rfl (by decide) wf9_138 dX9_count_69 ?_
            exact G_iret C dX9_count_72
          · refine G_if (fun h6 => ?_) (fun h6 => ?_)
            · refine G_tsIn (v := 5) (off := 72) (tgt := 73) C dX9_count_1 h6 (by decide) (by decide) rfl (by decide) ?_
              refine G_aload_n C 0 dX9_count_73 rfl rfl ?_
              refine G_getI C 43 shM_0 rfl rfl (by decide) wf9_141 dX9_count_74 ?_
              exact G_iret C dX9_count_77
            · refine G_if (fun h7 => ?_) (fun h7 => ?_)
              · refine G_tsIn (v := 6) (off := 77) (tgt := 78) C dX9_count_1 h7 (by decide) (by decide) rfl (by decide) ?_
                refine G_aload_n C 0 dX9_count_78 rfl rfl ?_
                refine G_getI C 14 shM_0 rfl rfl (by decide) wf9_53 dX9_count_79 ?_
                exact G_iret C dX9_count_82
              · refine G_if (fun h8 => ?_) (fun h8 => ?_)
                · refine G_tsIn (v := 7) (off := 82) (tgt := 83) C dX9_count_1 h8 (by decide) (by decide) rfl (by decide) ?_
                  refine G_aload_n C 0 dX9_count_83 rfl rfl ?_
                  refine G_getI C 72 shM_0 rfl rfl (by decide) wf9_229 dX9_count_84 ?_
                  exact G_iret C dX9_count_87
                · refine G_tsOut (tgt := 88) C dX9_count_1 (by have e0 := lv_neT (a := 0) h1 rfl; have e1 := lv_neT (a := 1) h2 rfl; have e2 := lv_neT (a := 2) h3 rfl; have e3 := lv_neT (a := 3) h4 rfl; have e4 := lv_neT (a := 4) h5 rfl; have e5 := lv_neT (a := 5) h6 rfl; have e6 := lv_neT (a := 6) h7 rfl; have e7 := lv_neT (a := 7) h8 rfl; omega) (by decide) ?_
                  refine G_bipush (v := -2) C dX9_count_88 (by decide) ?_
                  exact G_iret C dX9_count_90
theorem m_X9_count   (p1 : Int32) (u : zM) (d : Nat) (hd : 1 ≤ d) : zMet zQi SHM yX9_count cX9_count 2 ((some FieldType.int)) d [.ref 0, .int p1] u (f_X9_count p1 u) :=
  zMet_of (by decide +kernel) (fun as => Nat.le_of_ble_eq_true rfl) wwX9_count.2.2.2.1 (by omega) (fun p l e s m args below meth c as dA D C => go_X9_count C hd u)
/-! public int tape(int, int, int) -/
def f_X9_tape_L69_b (p1 : Int32) (p2 : Int32) (p3 : Int32) (rc : Int32 → zM → Option (Int32 × zM)) (x4 : Int32) (u : zM) : Option (Int32 × zM) :=
  (if (60 : Int32) ≤ x4 then some ((1 : Int32), u) else zck (inB (((60 : Int32) * p1) + x4) 360) <| zlet (sJ u 47 (((60 : Int32) * p1) + x4).toNatClampNeg (0 : Int64)) fun u7 => rc (x4 + (1 : Int32)) u7)
def f_X9_tape_L69 (p1 : Int32) (p2 : Int32) (p3 : Int32) : Nat → Int32 → zM → Option (Int32 × zM)
  | 0 => fun _ _ => none
  | fn + 1 => f_X9_tape_L69_b p1 p2 p3 (f_X9_tape_L69 p1 p2 p3 fn)
def f_X9_tape_L44 (p1 : Int32) (p2 : Int32) (p3 : Int32) (u : zM) : Option (Int32 × zM) :=
  zck (inB p1 6) <| zlet (sI u 45 p1.toNatClampNeg p2) fun u5 => (if (0 : Int32) ≤ p2 then zck (inB p1 6) <| zlet (sI u5 46 p1.toNatClampNeg p3) fun u6 => f_X9_tape_L69 p1 p2 p3 400 (0 : Int32) u6 else zck (inB p1 6) <| zlet (sI u5 46 p1.toNatClampNeg (0 : Int32)) fun u8 => f_X9_tape_L69 p1 p2 p3 400 (0 : Int32) u8)
def f_X9_tape_L33 (p1 : Int32) (p2 : Int32) (p3 : Int32) (u : zM) : Option (Int32 × zM) :=
  (if p2 < (0 : Int32) then f_X9_tape_L44 p1 p2 p3 u else (if (0 : Int32) ≤ p3 then f_X9_tape_L44 p1 p2 p3 u else some ((-14 : Int32), u)))
def f_X9_tape (p1 : Int32) (p2 : Int32) (p3 : Int32) (u : zM) : Option (Int32 × zM) :=
  zb (f_X9_isTape p1 u) fun y1 u2 => (if y1 = (0 : Int32) then some ((-1 : Int32), u2) else zb (f_X9_in p2 (-1 : Int32) (4 : Int32) u2) fun y3 u4 => (if y3 = (0 : Int32) then some ((-2 : Int32), u4) else (if p2 < (0 : Int32) then f_X9_tape_L33 p1 p2 p3 u4 else (if p3 ≤ (60 : Int32) then f_X9_tape_L33 p1 p2 p3 u4 else some ((-2 : Int32), u4)))))
set_option maxRecDepth 20000 in
theorem go_X9_tape_L69 {p : Program} {l : Launch} {e : Env} {s : State} {m : MethodId} {args : Array Value} {below : List Frame} {meth : Method} {c : Code} {as : Nat → Nat} {dA : Nat → ClassId} {D : va_G} {d : Nat} {p1 : Int32} {p2 : Int32} {p3 : Int32} (C : zCx p s m args meth c as dA D SHM d 5 yX9_tape.cls cX9_tape ((some FieldType.int))) (hd : 3 ≤ d) : ∀ (fn : Nat) (x4 : Int32) (u : zM), Go p l e s m args below meth c as dA D SHM d 5 zQi 69 [(0, .ref 0), (1, .int p1), (2, .int p2), (3, .int p3), (4, .int x4)] [] u (f_X9_tape_L69 p1 p2 p3 fn x4 u) := by
  intro fn
  induction fn with
  | zero => intro x4 u; exact G_none
  | succ fn ih =>
    intro x4 u
    show Go p l e s m args below meth c as dA D SHM d 5 zQi 69 [(0, .ref 0), (1, .int p1), (2, .int p2), (3, .int p3), (4, .int x4)] [] u (f_X9_tape_L69_b p1 p2 p3 (f_X9_tape_L69 p1 p2 p3 fn) x4 u)
    unfold f_X9_tape_L69_b
    refine G_iload C 4 dX9_tape_69 rfl ?_
    refine G_bipush (v := 60) C dX9_tape_71 (by decide) ?_
    refine G_icmp_ge (tgt := 95) C dX9_tape_73 (by decide) (fun _ => ?_) (fun _ => ?_)
    · refine G_iconst (v := 1) C dX9_tape_95 (by decide) ?_
      exact G_iret C dX9_tape_96
    · refine G_aload_n C 0 dX9_tape_76 rfl rfl ?_
      refine G_getR (j := 47) C 76 shM_0 rfl rfl (by decide) wf9_241 dX9_tape_77 ?_
      refine G_bipush (v := 60) C dX9_tape_80 (by decide) ?_
      refine G_iload_n C 1 dX9_tape_82 rfl rfl ?_
      refine G_imul C dX9_tape_83 ?_
      refine G_iload C 4 dX9_tape_84 rfl ?_
      refine G_iadd C dX9_tape_86 ?_
      refine G_lconst (v := 0) C dX9_tape_87 (by decide) ?_
      refine G_last C shM_47 dX9_tape_88 (fun _ u7 => ?_)
      refine G_iinc (v := 1) (L' := [(4, .int (x4 + (1 : Int32))), (0, .ref 0), (1, .int p1), (2, .int p2), (3, .int p3)]) C 4 dX9_tape_89 rfl (by decide) (by decide) rfl ?_
      refine G_goto (tgt := 69) C dX9_tape_92 (by decide) ?_
      refine G_locals [1, 2, 3, 4, 0] rfl ?_
      exact ih (x4 + (1 : Int32)) u7
set_option maxRecDepth 20000 in
theorem go_X9_tape_L44 {p : Program} {l : Launch} {e : Env} {s : State} {m : MethodId} {args : Array Value} {below : List Frame} {meth : Method} {c : Code} {as : Nat → Nat} {dA : Nat → ClassId} {D : va_G} {d : Nat} {p1 : Int32} {p2 : Int32} {p3 : Int32} (C : zCx p s m args meth c as dA D SHM d 5 yX9_tape.cls cX9_tape ((some FieldType.int))) (hd : 3 ≤ d) : ∀ (u : zM), Go p l e s m args below meth c as dA D SHM d 5 zQi 44 [(0, .ref 0), (1, .int p1), (2, .int p2), (3, .int p3)] [] u (f_X9_tape_L44 p1 p2 p3 u) := by
  intro u
  unfold f_X9_tape_L44
  refine G_aload_n C 0 dX9_tape_44 rfl rfl ?_
  refine G_getR (j := 45) C 74 shM_0 rfl rfl (by decide) wf9_235 dX9_tape_45 ?_
  refine G_iload_n C 1 dX9_tape_48 rfl rfl ?_
  refine G_iload_n C 2 dX9_tape_49 rfl rfl ?_
  refine G_iast C shM_45 dX9_tape_50 (fun _ u5 => ?_)
  refine G_aload_n C 0 dX9_tape_51 rfl rfl ?_
  refine G_getR (j := 46) C 75 shM_0 rfl rfl (by decide) wf9_238 dX9_tape_52 ?_
  refine G_iload_n C 1 dX9_tape_55 rfl rfl ?_
  refine G_iload_n C 2 dX9_tape_56 rfl rfl ?_
  refine G_if_ge (tgt := 64) C dX9_tape_57 (by decide) (fun _ => ?_) (fun _ => ?_)
  · refine G_iload_n C 3 dX9_tape_64 rfl rfl ?_
    refine G_iast C shM_46 dX9_tape_65 (fun _ u6 => ?_)
    refine G_iconst (v := 0) C dX9_tape_66 (by decide) ?_
    refine G_istore (L' := [(4, .int (0 : Int32)), (0, .ref 0), (1, .int p1), (2, .int p2), (3, .int p3)]) C dX9_tape_67 (by decide) rfl ?_
    refine G_locals [1, 2, 3, 4, 0] rfl ?_
    exact go_X9_tape_L69 C hd 400 (0 : Int32) u6
  · refine G_iconst (v := 0) C dX9_tape_60 (by decide) ?_
    refine G_goto (tgt := 65) C dX9_tape_61 (by decide) ?_
    refine G_iast C shM_46 dX9_tape_65 (fun _ u8 => ?_)
    refine G_iconst (v := 0) C dX9_tape_66 (by decide) ?_
    refine G_istore (L' := [(4, .int (0 : Int32)), (0, .ref 0), (1, .int p1), (2, .int p2), (3, .int p3)]) C dX9_tape_67 (by decide) rfl ?_
    refine G_locals [1, 2, 3, 4, 0] rfl ?_
    exact go_X9_tape_L69 C hd 400 (0 : Int32) u8
set_option maxRecDepth 20000 in
theorem go_X9_tape_L33 {p : Program} {l : Launch} {e : Env} {s : State} {m : MethodId} {args : Array Value} {below : List Frame} {meth : Method} {c : Code} {as : Nat → Nat} {dA : Nat → ClassId} {D : va_G} {d : Nat} {p1 : Int32} {p2 : Int32} {p3 : Int32} (C : zCx p s m args meth c as dA D SHM d 5 yX9_tape.cls cX9_tape ((some FieldType.int))) (hd : 3 ≤ d) : ∀ (u : zM), Go p l e s m args below meth c as dA D SHM d 5 zQi 33 [(0, .ref 0), (1, .int p1), (2, .int p2), (3, .int p3)] [] u (f_X9_tape_L33 p1 p2 p3 u) := by
  intro u
  unfold f_X9_tape_L33
  refine G_iload_n C 2 dX9_tape_33 rfl rfl ?_
  refine G_if_lt (tgt := 44) C dX9_tape_34 (by decide) (fun _ => ?_) (fun _ => ?_)
  · refine G_locals [0, 1, 2, 3] rfl ?_
    exact go_X9_tape_L44 C hd u
  · refine G_iload_n C 3 dX9_tape_37 rfl rfl ?_
    refine G_if_ge (tgt := 44) C dX9_tape_38 (by decide) (fun _ => ?_) (fun _ => ?_)
    · refine G_locals [0, 1, 2, 3] rfl ?_
      exact go_X9_tape_L44 C hd u
    · refine G_bipush (v := -14) C dX9_tape_41 (by decide) ?_
      exact G_iret C dX9_tape_43
set_option maxRecDepth 20000 in
theorem go_X9_tape {p : Program} {l : Launch} {e : Env} {s : State} {m : MethodId} {args : Array Value} {below : List Frame} {meth : Method} {c : Code} {as : Nat → Nat} {dA : Nat → ClassId} {D : va_G} {d : Nat} {p1 : Int32} {p2 : Int32} {p3 : Int32} (C : zCx p s m args meth c as dA D SHM d 5 yX9_tape.cls cX9_tape ((some FieldType.int))) (hd : 3 ≤ d) : ∀ (u : zM), Go p l e s m args below meth c as dA D SHM d 5 zQi 0 [(0, .ref 0), (1, .int p1), (2, .int p2), (3, .int p3)] [] u (f_X9_tape p1 p2 p3 u) := by
  intro u
  unfold f_X9_tape
  refine G_aload_n C 0 dX9_tape_0 rfl rfl ?_
  refine G_iload_n C 1 dX9_tape_1 rfl rfl ?_
  refine G_callVi C (m_X9_isTape p1 u (d - 1) (by omega)) (d' := d - 1) (As := [.int p1]) (by omega) rfl wm9_414 wwX9_isTape shM_0 rfl (Nat.le_of_ble_eq_true rfl) dX9_tape_2 (fun y1 u2 => ?_)
  refine G_if_ne (tgt := 10) C dX9_tape_5 (by decide) (fun _ => ?_) (fun _ => ?_)
  · refine G_aload_n C 0 dX9_tape_10 rfl rfl ?_
    refine G_iload_n C 2 dX9_tape_11 rfl rfl ?_
    refine G_iconst (v := -1) C dX9_tape_12 (by decide) ?_
    refine G_iconst (v := 4) C dX9_tape_13 (by decide) ?_
    refine G_callVi C (m_X9_in p2 (-1 : Int32) (4 : Int32) u2 (d - 1) (by omega)) (d' := d - 1) (As := [.int p2, .int (-1 : Int32), .int (4 : Int32)]) (by omega) rfl wm9_252 wwX9_in shM_0 rfl (Nat.le_of_ble_eq_true rfl) dX9_tape_14 (fun y3 u4 => ?_)
    refine G_if_eq (tgt := 30) C dX9_tape_17 (by decide) (fun _ => ?_) (fun _ => ?_)
    · refine G_bipush (v := -2) C dX9_tape_30 (by decide) ?_
      exact G_iret C dX9_tape_32
    · refine G_iload_n C 2 dX9_tape_20 rfl rfl ?_
      refine G_if_lt (tgt := 33) C dX9_tape_21 (by decide) (fun _ => ?_) (fun _ => ?_)
      · refine G_locals [0, 1, 2, 3] rfl ?_
        exact go_X9_tape_L33 C hd u4
      · refine G_iload_n C 3 dX9_tape_24 rfl rfl ?_
        refine G_bipush (v := 60) C dX9_tape_25 (by decide) ?_
        refine G_icmp_le (tgt := 33) C dX9_tape_27 (by decide) (fun _ => ?_) (fun _ => ?_)
        · refine G_locals [0, 1, 2, 3] rfl ?_
          exact go_X9_tape_L33 C hd u4
        · refine G_bipush (v := -2) C dX9_tape_30 (by decide) ?_
          exact G_iret C dX9_tape_32
  · refine G_iconst (v := -1) C dX9_tape_8 (by decide) ?_
    exact G_iret C dX9_tape_9
theorem m_X9_tape   (p1 : Int32) (p2 : Int32) (p3 : Int32) (u : zM) (d : Nat) (hd : 3 ≤ d) : zMet zQi SHM yX9_tape cX9_tape 5 ((some FieldType.int)) d [.ref 0, .int p1, .int p2, .int p3] u (f_X9_tape p1 p2 p3 u) :=
  zMet_of (by decide +kernel) (fun as => Nat.le_of_ble_eq_true rfl) wwX9_tape.2.2.2.1 (by omega) (fun p l e s m args below meth c as dA D C => go_X9_tape C hd u)
/-! private long narrow(int, long) -/
def f_X9_narrow (p1 : Int32) (p2 : Int64) (u : zM) : Option (Int64 × zM) :=
  (if p1 = (0 : Int32) then some ((p2.toInt32.toInt8.toInt32).toInt64, u) else (if p1 = (1 : Int32) then some ((p2.toInt32.toInt16.toInt32).toInt64, u) else (if p1 = (2 : Int32) then some (p2.toInt32.toInt64, u) else (if p1 = (4 : Int32) then (if (lg_cmp p2 (0 : Int64)) = (0 : Int32) then some ((0 : Int64), u) else some ((1 : Int64), u)) else some (p2, u)))))
set_option maxRecDepth 20000 in
theorem go_X9_narrow {p : Program} {l : Launch} {e : Env} {s : State} {m : MethodId} {args : Array Value} {below : List Frame} {meth : Method} {c : Code} {as : Nat → Nat} {dA : Nat → ClassId} {D : va_G} {d : Nat} {p1 : Int32} {p2 : Int64} (C : zCx p s m args meth c as dA D SHM d 4 yX9_narrow.cls cX9_narrow ((some FieldType.long))) (hd : 1 ≤ d) : ∀ (u : zM), Go p l e s m args below meth c as dA D SHM d 4 zQl 0 [(0, .ref 0), (1, .int p1), (2, .long p2)] [] u (f_X9_narrow p1 p2 u) := by
  intro u
  unfold f_X9_narrow
  refine G_iload_n C 1 dX9_narrow_0 rfl rfl ?_
  refine G_if_ne (tgt := 11) C dX9_narrow_1 (by decide) (fun _ => ?_) (fun _ => ?_)
  · refine G_iload_n C 1 dX9_narrow_11 rfl rfl ?_
    refine G_iconst (v := 1) C dX9_narrow_12 (by decide) ?_
    refine G_icmp_ne (tgt := 23) C dX9_narrow_13 (by decide) (fun _ => ?_) (fun _ => ?_)
    · refine G_iload_n C 1 dX9_narrow_23 rfl rfl ?_
      refine G_iconst (v := 2) C dX9_narrow_24 (by decide) ?_
      refine G_icmp_ne (tgt := 34) C dX9_narrow_25 (by decide) (fun _ => ?_) (fun _ => ?_)
      · refine G_iload_n C 1 dX9_narrow_34 rfl rfl ?_
        refine G_iconst (v := 4) C dX9_narrow_35 (by decide) ?_
        refine G_icmp_ne (tgt := 53) C dX9_narrow_36 (by decide) (fun _ => ?_) (fun _ => ?_)
        · refine G_lload_n C 2 dX9_narrow_53 rfl rfl ?_
          exact G_lret C dX9_narrow_54
        · refine G_lload_n C 2 dX9_narrow_39 rfl rfl ?_
          refine G_lconst (v := 0) C dX9_narrow_40 (by decide) ?_
          refine G_lcmp C dX9_narrow_41 ?_
          refine G_if_eq (tgt := 49) C dX9_narrow_42 (by decide) (fun _ => ?_) (fun _ => ?_)
          · refine G_lconst (v := 0) C dX9_narrow_49 (by decide) ?_
            refine G_goto (tgt := 54) C dX9_narrow_50 (by decide) ?_
            exact G_lret C dX9_narrow_54
          · refine G_lconst (v := 1) C dX9_narrow_45 (by decide) ?_
            refine G_goto (tgt := 54) C dX9_narrow_46 (by decide) ?_
            exact G_lret C dX9_narrow_54
      · refine G_lload_n C 2 dX9_narrow_28 rfl rfl ?_
        refine G_l2i C dX9_narrow_29 ?_
        refine G_i2l C dX9_narrow_30 ?_
        refine G_goto (tgt := 54) C dX9_narrow_31 (by decide) ?_
        exact G_lret C dX9_narrow_54
    · refine G_lload_n C 2 dX9_narrow_16 rfl rfl ?_
      refine G_l2i C dX9_narrow_17 ?_
      refine G_i2s C dX9_narrow_18 ?_
      refine G_i2l C dX9_narrow_19 ?_
      refine G_goto (tgt := 54) C dX9_narrow_20 (by decide) ?_
      exact G_lret C dX9_narrow_54
  · refine G_lload_n C 2 dX9_narrow_4 rfl rfl ?_
    refine G_l2i C dX9_narrow_5 ?_
    refine G_i2b C dX9_narrow_6 ?_
    refine G_i2l C dX9_narrow_7 ?_
    refine G_goto (tgt := 54) C dX9_narrow_8 (by decide) ?_
    exact G_lret C dX9_narrow_54
theorem m_X9_narrow   (p1 : Int32) (p2 : Int64) (u : zM) (d : Nat) (hd : 1 ≤ d) : zMet zQl SHM yX9_narrow cX9_narrow 4 ((some FieldType.long)) d [.ref 0, .int p1, .long p2] u (f_X9_narrow p1 p2 u) :=
  zMet_of (by decide +kernel) (fun as => Nat.le_of_ble_eq_true rfl) wwX9_narrow.2.2.2.1 (by omega) (fun p l e s m args below meth c as dA D C => go_X9_narrow C hd u)
/-! public int item(int, int, long) -/
def f_X9_item (p1 : Int32) (p2 : Int32) (p3 : Int64) (u : zM) : Option (Int32 × zM) :=
  zb (f_X9_isTape p1 u) fun y1 u2 => (if y1 = (0 : Int32) then some ((-1 : Int32), u2) else zck (inB p1 6) <| (if (0 : Int32) ≤ (gI u2 45 p1.toNatClampNeg) then zck (inB p1 6) <| zb (f_X9_in p2 (0 : Int32) ((gI u2 46 p1.toNatClampNeg) - (1 : Int32)) u2) fun y5 u6 => (if y5 = (0 : Int32) then some ((-13 : Int32), u6) else zck (inB p1 6) <| zb (f_X9_narrow (gI u6 45 p1.toNatClampNeg) p3 u6) fun y8 u9 => zck (inB (((60 : Int32) * p1) + p2) 360) <| zlet (sJ u9 47 (((60 : Int32) * p1) + p2).toNatClampNeg y8) fun u10 => some ((1 : Int32), u10)) else some ((-11 : Int32), u2)))
set_option maxRecDepth 20000 in
theorem go_X9_item {p : Program} {l : Launch} {e : Env} {s : State} {m : MethodId} {args : Array Value} {below : List Frame} {meth : Method} {c : Code} {as : Nat → Nat} {dA : Nat → ClassId} {D : va_G} {d : Nat} {p1 : Int32} {p2 : Int32} {p3 : Int64} (C : zCx p s m args meth c as dA D SHM d 5 yX9_item.cls cX9_item ((some FieldType.int))) (hd : 3 ≤ d) : ∀ (u : zM), Go p l e s m args below meth c as dA D SHM d 5 zQi 0 [(0, .ref 0), (1, .int p1), (2, .int p2), (3, .long p3)] [] u (f_X9_item p1 p2 p3 u) := by
  intro u
  unfold f_X9_item
  refine G_aload_n C 0 dX9_item_0 rfl rfl ?_
  refine G_iload_n C 1 dX9_item_1 rfl rfl ?_
  refine G_callVi C (m_X9_isTape p1 u (d - 1) (by omega)) (d' := d - 1) (As := [.int p1]) (by omega) rfl wm9_414 wwX9_isTape shM_0 rfl (Nat.le_of_ble_eq_true rfl) dX9_item_2 (fun y1 u2 => ?_)
  refine G_if_ne (tgt := 10) C dX9_item_5 (by decide) (fun _ => ?_) (fun _ => ?_)
  · refine G_aload_n C 0 dX9_item_10 rfl rfl ?_
    refine G_getR (j := 45) C 74 shM_0 rfl rfl (by decide) wf9_235 dX9_item_11 ?_
    refine G_iload_n C 1 dX9_item_14 rfl rfl ?_
    refine G_iald C shM_45 dX9_item_15 (fun hb3 => ?_)
    refine G_if_ge (tgt := 22) C dX9_item_16 (by decide) (fun _ => ?_) (fun _ => ?_)
    · refine G_aload_n C 0 dX9_item_22 rfl rfl ?_
      refine G_iload_n C 2 dX9_item_23 rfl rfl ?_
      refine G_iconst (v := 0) C dX9_item_24 (by decide) ?_
      refine G_aload_n C 0 dX9_item_25 rfl rfl ?_
      refine G_getR (j := 46) C 75 shM_0 rfl rfl (by decide) wf9_238 dX9_item_26 ?_
      refine G_iload_n C 1 dX9_item_29 rfl rfl ?_
      refine G_iald C shM_46 dX9_item_30 (fun hb4 => ?_)
      refine G_iconst (v := 1) C dX9_item_31 (by decide) ?_
      refine G_isub C dX9_item_32 ?_
      refine G_callVi C (m_X9_in p2 (0 : Int32) ((gI u2 46 p1.toNatClampNeg) - (1 : Int32)) u2 (d - 1) (by omega)) (d' := d - 1) (As := [.int p2, .int (0 : Int32), .int ((gI u2 46 p1.toNatClampNeg) - (1 : Int32))]) (by omega) rfl wm9_252 wwX9_in shM_0 rfl (Nat.le_of_ble_eq_true rfl) dX9_item_33 (fun y5 u6 => ?_)
      refine G_if_ne (tgt := 42) C dX9_item_36 (by decide) (fun _ => ?_) (fun _ => ?_)
      · refine G_aload_n C 0 dX9_item_42 rfl rfl ?_
        refine G_getR (j := 47) C 76 shM_0 rfl rfl (by decide) wf9_241 dX9_item_43 ?_
        refine G_bipush (v := 60) C dX9_item_46 (by decide) ?_
        refine G_iload_n C 1 dX9_item_48 rfl rfl ?_
        refine G_imul C dX9_item_49 ?_
        refine G_iload_n C 2 dX9_item_50 rfl rfl ?_
        refine G_iadd C dX9_item_51 ?_
        refine G_aload_n C 0 dX9_item_52 rfl rfl ?_
        refine G_aload_n C 0 dX9_item_53 rfl rfl ?_
        refine G_getR (j := 45) C 74 shM_0 rfl rfl (by decide) wf9_235 dX9_item_54 ?_
        refine G_iload_n C 1 dX9_item_57 rfl rfl ?_
        refine G_iald C shM_45 dX9_item_58 (fun hb7 => ?_)
        refine G_lload_n C 3 dX9_item_59 rfl rfl ?_
        refine G_callVl C (m_X9_narrow (gI u6 45 p1.toNatClampNeg) p3 u6 (d - 1) (by omega)) (d' := d - 1) (As := [.int (gI u6 45 p1.toNatClampNeg), .long p3]) (by omega) rfl wm9_441 wwX9_narrow shM_0 rfl (Nat.le_of_ble_eq_true rfl) dX9_item_60 (fun y8 u9 => ?_)
        refine G_last C shM_47 dX9_item_63 (fun _ u10 => ?_)
        refine G_iconst (v := 1) C dX9_item_64 (by decide) ?_
        exact G_iret C dX9_item_65
      · refine G_bipush (v := -13) C dX9_item_39 (by decide) ?_
        exact G_iret C dX9_item_41
    · refine G_bipush (v := -11) C dX9_item_19 (by decide) ?_
      exact G_iret C dX9_item_21
  · refine G_iconst (v := -1) C dX9_item_8 (by decide) ?_
    exact G_iret C dX9_item_9
theorem m_X9_item   (p1 : Int32) (p2 : Int32) (p3 : Int64) (u : zM) (d : Nat) (hd : 3 ≤ d) : zMet zQi SHM yX9_item cX9_item 5 ((some FieldType.int)) d [.ref 0, .int p1, .int p2, .long p3] u (f_X9_item p1 p2 p3 u) :=
  zMet_of (by decide +kernel) (fun as => Nat.le_of_ble_eq_true rfl) wwX9_item.2.2.2.1 (by omega) (fun p l e s m args below meth c as dA D C => go_X9_item C hd u)
/-! public long read(int, int) -/
def f_X9_read (p1 : Int32) (p2 : Int32) (u : zM) : Option (Int64 × zM) :=
  zb (f_X9_isTape p1 u) fun y1 u2 => (if y1 = (0 : Int32) then some ((-9223372036854775808 : Int64), u2) else zck (inB p1 6) <| (if (gI u2 45 p1.toNatClampNeg) < (0 : Int32) then some ((-9223372036854775808 : Int64), u2) else zck (inB p1 6) <| zb (f_X9_in p2 (0 : Int32) ((gI u2 46 p1.toNatClampNeg) - (1 : Int32)) u2) fun y5 u6 => (if y5 = (0 : Int32) then some ((-9223372036854775808 : Int64), u6) else zck (inB (((60 : Int32) * p1) + p2) 360) <| some ((gJ u6 47 (((60 : Int32) * p1) + p2).toNatClampNeg), u6))))
set_option maxRecDepth 20000 in
theorem go_X9_read {p : Program} {l : Launch} {e : Env} {s : State} {m : MethodId} {args : Array Value} {below : List Frame} {meth : Method} {c : Code} {as : Nat → Nat} {dA : Nat → ClassId} {D : va_G} {d : Nat} {p1 : Int32} {p2 : Int32} (C : zCx p s m args meth c as dA D SHM d 3 yX9_read.cls cX9_read ((some FieldType.long))) (hd : 3 ≤ d) : ∀ (u : zM), Go p l e s m args below meth c as dA D SHM d 3 zQl 0 [(0, .ref 0), (1, .int p1), (2, .int p2)] [] u (f_X9_read p1 p2 u) := by
  intro u
  unfold f_X9_read
  refine G_aload_n C 0 dX9_read_0 rfl rfl ?_
  refine G_iload_n C 1 dX9_read_1 rfl rfl ?_
  refine G_callVi C (m_X9_isTape p1 u (d - 1) (by omega)) (d' := d - 1) (As := [.int p1]) (by omega) rfl wm9_414 wwX9_isTape shM_0 rfl (Nat.le_of_ble_eq_true rfl) dX9_read_2 (fun y1 u2 => ?_)
  refine G_if_eq (tgt := 34) C dX9_read_5 (by decide) (fun _ => ?_) (fun _ => ?_)
  · refine G_ldc2 (v := -9223372036854775808) C dX9_read_34 wc9_401 ?_
    refine G_goto (tgt := 51) C dX9_read_37 (by decide) ?_
    exact G_lret C dX9_read_51
  · refine G_aload_n C 0 dX9_read_8 rfl rfl ?_
    refine G_getR (j := 45) C 74 shM_0 rfl rfl (by decide) wf9_235 dX9_read_9 ?_
    refine G_iload_n C 1 dX9_read_12 rfl rfl ?_
    refine G_iald C shM_45 dX9_read_13 (fun hb3 => ?_)
    refine G_if_lt (tgt := 34) C dX9_read_14 (by decide) (fun _ => ?_) (fun _ => ?_)
    · refine G_ldc2 (v := -9223372036854775808) C dX9_read_34 wc9_401 ?_
      refine G_goto (tgt := 51) C dX9_read_37 (by decide) ?_
      exact G_lret C dX9_read_51
    · refine G_aload_n C 0 dX9_read_17 rfl rfl ?_
      refine G_iload_n C 2 dX9_read_18 rfl rfl ?_
      refine G_iconst (v := 0) C dX9_read_19 (by decide) ?_
      refine G_aload_n C 0 dX9_read_20 rfl rfl ?_
      refine G_getR (j := 46) C 75 shM_0 rfl rfl (by decide) wf9_238 dX9_read_21 ?_
      refine G_iload_n C 1 dX9_read_24 rfl rfl ?_
      refine G_iald C shM_46 dX9_read_25 (fun hb4 => ?_)
      refine G_iconst (v := 1) C dX9_read_26 (by decide) ?_
      refine G_isub C dX9_read_27 ?_
      refine G_callVi C (m_X9_in p2 (0 : Int32) ((gI u2 46 p1.toNatClampNeg) - (1 : Int32)) u2 (d - 1) (by omega)) (d' := d - 1) (As := [.int p2, .int (0 : Int32), .int ((gI u2 46 p1.toNatClampNeg) - (1 : Int32))]) (by omega) rfl wm9_252 wwX9_in shM_0 rfl (Nat.le_of_ble_eq_true rfl) dX9_read_28 (fun y5 u6 => ?_)
      refine G_if_ne (tgt := 40) C dX9_read_31 (by decide) (fun _ => ?_) (fun _ => ?_)
      · refine G_aload_n C 0 dX9_read_40 rfl rfl ?_
        refine G_getR (j := 47) C 76 shM_0 rfl rfl (by decide) wf9_241 dX9_read_41 ?_
        refine G_bipush (v := 60) C dX9_read_44 (by decide) ?_
        refine G_iload_n C 1 dX9_read_46 rfl rfl ?_
        refine G_imul C dX9_read_47 ?_
        refine G_iload_n C 2 dX9_read_48 rfl rfl ?_
        refine G_iadd C dX9_read_49 ?_
        refine G_lald C shM_47 dX9_read_50 (fun hb7 => ?_)
        exact G_lret C dX9_read_51
      · refine G_ldc2 (v := -9223372036854775808) C dX9_read_34 wc9_401 ?_
        refine G_goto (tgt := 51) C dX9_read_37 (by decide) ?_
        exact G_lret C dX9_read_51
theorem m_X9_read   (p1 : Int32) (p2 : Int32) (u : zM) (d : Nat) (hd : 3 ≤ d) : zMet zQl SHM yX9_read cX9_read 3 ((some FieldType.long)) d [.ref 0, .int p1, .int p2] u (f_X9_read p1 p2 u) :=
  zMet_of (by decide +kernel) (fun as => Nat.le_of_ble_eq_true rfl) wwX9_read.2.2.2.1 (by omega) (fun p l e s m args below meth c as dA D C => go_X9_read C hd u)
/-! public int shift(int, int, int, int, int) -/
def f_X9_shift_L141_b (p1 : Int32) (p2 : Int32) (p3 : Int32) (p4 : Int32) (p5 : Int32) (rc : Int32 → zM → Option (Int32 × zM)) (x6 : Int32) (u : zM) : Option (Int32 × zM) :=
  (if p5 ≤ x6 then some (p5, u) else zck (inB x6 60) <| zck (inB ((((60 : Int32) * p3) + p4) + x6) 360) <| zlet (sJ u 47 ((((60 : Int32) * p3) + p4) + x6).toNatClampNeg (gJ u 48 x6.toNatClampNeg)) fun u12 => rc (x6 + (1 : Int32)) u12)
def f_X9_shift_L141 (p1 : Int32) (p2 : Int32) (p3 : Int32) (p4 : Int32) (p5 : Int32) : Nat → Int32 → zM → Option (Int32 × zM)
  | 0 => fun _ _ => none
  | fn + 1 => f_X9_shift_L141_b p1 p2 p3 p4 p5 (f_X9_shift_L141 p1 p2 p3 p4 p5 fn)
def f_X9_shift_L104_b (p1 : Int32) (p2 : Int32) (p3 : Int32) (p4 : Int32) (p5 : Int32) (rc : Int32 → zM → Option (Int32 × zM)) (x6 : Int32) (u : zM) : Option (Int32 × zM) :=
  (if p5 ≤ x6 then f_X9_shift_L141 p1 p2 p3 p4 p5 400 (0 : Int32) u else zck (inB ((((60 : Int32) * p1) + p2) + x6) 360) <| zck (inB x6 60) <| zlet (sJ u 48 x6.toNatClampNeg (gJ u 47 ((((60 : Int32) * p1) + p2) + x6).toNatClampNeg)) fun u14 => rc (x6 + (1 : Int32)) u14)
def f_X9_shift_L104 (p1 : Int32) (p2 : Int32) (p3 : Int32) (p4 : Int32) (p5 : Int32) : Nat → Int32 → zM → Option (Int32 × zM)
  | 0 => fun _ _ => none
  | fn + 1 => f_X9_shift_L104_b p1 p2 p3 p4 p5 (f_X9_shift_L104 p1 p2 p3 p4 p5 fn)
def f_X9_shift (p1 : Int32) (p2 : Int32) (p3 : Int32) (p4 : Int32) (p5 : Int32) (u : zM) : Option (Int32 × zM) :=
  zb (f_X9_isTape p1 u) fun y1 u2 => (if y1 = (0 : Int32) then some ((-1 : Int32), u2) else zb (f_X9_isTape p3 u2) fun y3 u4 => (if y3 = (0 : Int32) then some ((-1 : Int32), u4) else zck (inB p1 6) <| (if (gI u4 45 p1.toNatClampNeg) < (0 : Int32) then some ((-11 : Int32), u4) else zck (inB p3 6) <| (if (0 : Int32) ≤ (gI u4 45 p3.toNatClampNeg) then zck (inB p1 6) <| zck (inB p3 6) <| (if (gI u4 45 p1.toNatClampNeg) = (gI u4 45 p3.toNatClampNeg) then (if p5 < (0 : Int32) then some ((-13 : Int32), u4) else (if p2 < (0 : Int32) then some ((-13 : Int32), u4) else (if p4 < (0 : Int32) then some ((-13 : Int32), u4) else zck (inB p1 6) <| (if ((gI u4 46 p1.toNatClampNeg) - p5) < p2 then some ((-13 : Int32), u4) else zck (inB p3 6) <| (if p4 ≤ ((gI u4 46 p3.toNatClampNeg) - p5) then f_X9_shift_L104 p1 p2 p3 p4 p5 400 (0 : Int32) u4 else some ((-13 : Int32), u4)))))) else some ((-12 : Int32), u4)) else some ((-11 : Int32), u4)))))
set_option maxRecDepth 20000 in
theorem go_X9_shift_L141 {p : Program} {l : Launch} {e : Env} {s : State} {m : MethodId} {args : Array Value} {below : List Frame} {meth : Method} {c : Code} {as : Nat → Nat} {dA : Nat → ClassId} {D : va_G} {d : Nat} {p1 : Int32} {p2 : Int32} {p3 : Int32} {p4 : Int32} {p5 : Int32} (C : zCx p s m args meth c as dA D SHM d 7 yX9_shift.cls cX9_shift ((some FieldType.int))) (hd : 3 ≤ d) : ∀ (fn : Nat) (x6 : Int32) (u : zM), Go p l e s m args below meth c as dA D SHM d 7 zQi 141 [(0, .ref 0), (1, .int p1), (2, .int p2), (3, .int p3), (4, .int p4), (5, .int p5), (6, .int x6)] [] u (f_X9_shift_L141 p1 p2 p3 p4 p5 fn x6 u) := by
  intro fn
  induction fn with
  | zero => intro x6 u; exact G_none
  | succ fn ih =>
    intro x6 u
    show Go p l e s m args below meth c as dA D SHM d 7 zQi 141 [(0, .ref 0), (1, .int p1), (2, .int p2), (3, .int p3), (4, .int p4), (5, .int p5), (6, .int x6)] [] u (f_X9_shift_L141_b p1 p2 p3 p4 p5 (f_X9_shift_L141 p1 p2 p3 p4 p5 fn) x6 u)
    unfold f_X9_shift_L141_b
    refine G_iload C 6 dX9_shift_141 rfl ?_
    refine G_iload C 5 dX9_shift_143 rfl ?_
    refine G_icmp_ge (tgt := 176) C dX9_shift_145 (by decide) (fun _ => ?_) (fun _ => ?_)
    · refine G_iload C 5 dX9_shift_176 rfl ?_
      exact G_iret C dX9_shift_178
    · refine G_aload_n C 0 dX9_shift_148 rfl rfl ?_
      refine G_getR (j := 47) C 76 shM_0 rfl rfl (by decide) wf9_241 dX9_shift_149 ?_
      refine G_bipush (v := 60) C dX9_shift_152 (by decide) ?_
      refine G_iload_n C 3 dX9_shift_154 rfl rfl ?_
      refine G_imul C dX9_shift_155 ?_
      refine G_iload C 4 dX9_shift_156 rfl ?_
      refine G_iadd C dX9_shift_158 ?_
      refine G_iload C 6 dX9_shift_159 rfl ?_
      refine G_iadd C dX9_shift_161 ?_
      refine G_aload_n C 0 dX9_shift_162 rfl rfl ?_
      refine G_getR (j := 48) C 77 shM_0 rfl rfl (by decide) wf9_245 dX9_shift_163 ?_
      refine G_iload C 6 dX9_shift_166 rfl ?_
      refine G_lald C shM_48 dX9_shift_168 (fun hb11 => ?_)
      refine G_last C shM_47 dX9_shift_169 (fun _ u12 => ?_)
      refine G_iinc (v := 1) (L' := [(6, .int (x6 + (1 : Int32))), (0, .ref 0), (1, .int p1), (2, .int p2), (3, .int p3), (4, .int p4), (5, .int p5)]) C 6 dX9_shift_170 rfl (by decide) (by decide) rfl ?_
      refine G_goto (tgt := 141) C dX9_shift_173 (by decide) ?_
      refine G_locals [1, 2, 3, 4, 5, 6, 0] rfl ?_
      exact ih (x6 + (1 : Int32)) u12
set_option maxRecDepth 20000 in
theorem go_X9_shift_L104 {p : Program} {l : Launch} {e : Env} {s : State} {m : MethodId} {args : Array Value} {below : List Frame} {meth : Method} {c : Code} {as : Nat → Nat} {dA : Nat → ClassId} {D : va_G} {d : Nat} {p1 : Int32} {p2 : Int32} {p3 : Int32} {p4 : Int32} {p5 : Int32} (C : zCx p s m args meth c as dA D SHM d 7 yX9_shift.cls cX9_shift ((some FieldType.int))) (hd : 3 ≤ d) : ∀ (fn : Nat) (x6 : Int32) (u : zM), Go p l e s m args below meth c as dA D SHM d 7 zQi 104 [(0, .ref 0), (1, .int p1), (2, .int p2), (3, .int p3), (4, .int p4), (5, .int p5), (6, .int x6)] [] u (f_X9_shift_L104 p1 p2 p3 p4 p5 fn x6 u) := by
  intro fn
  induction fn with
  | zero => intro x6 u; exact G_none
  | succ fn ih =>
    intro x6 u
    show Go p l e s m args below meth c as dA D SHM d 7 zQi 104 [(0, .ref 0), (1, .int p1), (2, .int p2), (3, .int p3), (4, .int p4), (5, .int p5), (6, .int x6)] [] u (f_X9_shift_L104_b p1 p2 p3 p4 p5 (f_X9_shift_L104 p1 p2 p3 p4 p5 fn) x6 u)
    unfold f_X9_shift_L104_b
    refine G_iload C 6 dX9_shift_104 rfl ?_
    refine G_iload C 5 dX9_shift_106 rfl ?_
    refine G_icmp_ge (tgt := 138) C dX9_shift_108 (by decide) (fun _ => ?_) (fun _ => ?_)
    · refine G_iconst (v := 0) C dX9_shift_138 (by decide) ?_
      refine G_istore (L' := [(6, .int (0 : Int32)), (0, .ref 0), (1, .int p1), (2, .int p2), (3, .int p3), (4, .int p4), (5, .int p5)]) C dX9_shift_139 (by decide) rfl ?_
      refine G_locals [1, 2, 3, 4, 5, 6, 0] rfl ?_
      exact go_X9_shift_L141 C hd 400 (0 : Int32) u
    · refine G_aload_n C 0 dX9_shift_111 rfl rfl ?_
      refine G_getR (j := 48) C 77 shM_0 rfl rfl (by decide) wf9_245 dX9_shift_112 ?_
      refine G_iload C 6 dX9_shift_115 rfl ?_
      refine G_aload_n C 0 dX9_shift_117 rfl rfl ?_
      refine G_getR (j := 47) C 76 shM_0 rfl rfl (by decide) wf9_241 dX9_shift_118 ?_
      refine G_bipush (v := 60) C dX9_shift_121 (by decide) ?_
      refine G_iload_n C 1 dX9_shift_123 rfl rfl ?_
      refine G_imul C dX9_shift_124 ?_
      refine G_iload_n C 2 dX9_shift_125 rfl rfl ?_
      refine G_iadd C dX9_shift_126 ?_
      refine G_iload C 6 dX9_shift_127 rfl ?_
      refine G_iadd C dX9_shift_129 ?_
      refine G_lald C shM_47 dX9_shift_130 (fun hb13 => ?_)
      refine G_last C shM_48 dX9_shift_131 (fun _ u14 => ?_)
      refine G_iinc (v := 1) (L' := [(6, .int (x6 + (1 : Int32))), (0, .ref 0), (1, .int p1), (2, .int p2), (3, .int p3), (4, .int p4), (5, .int p5)]) C 6 dX9_shift_132 rfl (by decide) (by decide) rfl ?_
      refine G_goto (tgt := 104) C dX9_shift_135 (by decide) ?_
      refine G_locals [1, 2, 3, 4, 5, 6, 0] rfl ?_
      exact ih (x6 + (1 : Int32)) u14
set_option maxRecDepth 20000 in
theorem go_X9_shift {p : Program} {l : Launch} {e : Env} {s : State} {m : MethodId} {args : Array Value} {below : List Frame} {meth : Method} {c : Code} {as : Nat → Nat} {dA : Nat → ClassId} {D : va_G} {d : Nat} {p1 : Int32} {p2 : Int32} {p3 : Int32} {p4 : Int32} {p5 : Int32} (C : zCx p s m args meth c as dA D SHM d 7 yX9_shift.cls cX9_shift ((some FieldType.int))) (hd : 3 ≤ d) : ∀ (u : zM), Go p l e s m args below meth c as dA D SHM d 7 zQi 0 [(0, .ref 0), (1, .int p1), (2, .int p2), (3, .int p3), (4, .int p4), (5, .int p5)] [] u (f_X9_shift p1 p2 p3 p4 p5 u) := by
  intro u
  unfold f_X9_shift
  refine G_aload_n C 0 dX9_shift_0 rfl rfl ?_
  refine G_iload_n C 1 dX9_shift_1 rfl rfl ?_
  refine G_callVi C (m_X9_isTape p1 u (d - 1) (by omega)) (d' := d - 1) (As := [.int p1]) (by omega) rfl wm9_414 wwX9_isTape shM_0 rfl (Nat.le_of_ble_eq_true rfl) dX9_shift_2 (fun y1 u2 => ?_)
  refine G_if_eq (tgt := 16) C dX9_shift_5 (by decide) (fun _ => ?_) (fun _ => ?_)
  · refine G_iconst (v := -1) C dX9_shift_16 (by decide) ?_
    exact G_iret C dX9_shift_17
  · refine G_aload_n C 0 dX9_shift_8 rfl rfl ?_
    refine G_iload_n C 3 dX9_shift_9 rfl rfl ?_
    refine G_callVi C (m_X9_isTape p3 u2 (d - 1) (by omega)) (d' := d - 1) (As := [.int p3]) (by omega) rfl wm9_414 wwX9_isTape shM_0 rfl (Nat.le_of_ble_eq_true rfl) dX9_shift_10 (fun y3 u4 => ?_)
    refine G_if_ne (tgt := 18) C dX9_shift_13 (by decide) (fun _ => ?_) (fun _ => ?_)
    · refine G_aload_n C 0 dX9_shift_18 rfl rfl ?_
      refine G_getR (j := 45) C 74 shM_0 rfl rfl (by decide) wf9_235 dX9_shift_19 ?_
      refine G_iload_n C 1 dX9_shift_22 rfl rfl ?_
      refine G_iald C shM_45 dX9_shift_23 (fun hb5 => ?_)
      refine G_if_lt (tgt := 36) C dX9_shift_24 (by decide) (fun _ => ?_) (fun _ => ?_)
      · refine G_bipush (v := -11) C dX9_shift_36 (by decide) ?_
        exact G_iret C dX9_shift_38
      · refine G_aload_n C 0 dX9_shift_27 rfl rfl ?_
        refine G_getR (j := 45) C 74 shM_0 rfl rfl (by decide) wf9_235 dX9_shift_28 ?_
        refine G_iload_n C 3 dX9_shift_31 rfl rfl ?_
        refine G_iald C shM_45 dX9_shift_32 (fun hb6 => ?_)
        refine G_if_ge (tgt := 39) C dX9_shift_33 (by decide) (fun _ => ?_) (fun _ => ?_)
        · refine G_aload_n C 0 dX9_shift_39 rfl rfl ?_
          refine G_getR (j := 45) C 74 shM_0 rfl rfl (by decide) wf9_235 dX9_shift_40 ?_
          refine G_iload_n C 1 dX9_shift_43 rfl rfl ?_
          refine G_iald C shM_45 dX9_shift_44 (fun hb7 => ?_)
          refine G_aload_n C 0 dX9_shift_45 rfl rfl ?_
          refine G_getR (j := 45) C 74 shM_0 rfl rfl (by decide) wf9_235 dX9_shift_46 ?_
          refine G_iload_n C 3 dX9_shift_49 rfl rfl ?_
          refine G_iald C shM_45 dX9_shift_50 (fun hb8 => ?_)
          refine G_icmp_eq (tgt := 57) C dX9_shift_51 (by decide) (fun _ => ?_) (fun _ => ?_)
          · refine G_iload C 5 dX9_shift_57 rfl ?_
            refine G_if_lt (tgt := 98) C dX9_shift_59 (by decide) (fun _ => ?_) (fun _ => ?_)
            · refine G_bipush (v := -13) C dX9_shift_98 (by decide) ?_
              exact G_iret C dX9_shift_100
            · refine G_iload_n C 2 dX9_shift_62 rfl rfl ?_
              refine G_if_lt (tgt := 98) C dX9_shift_63 (by decide) (fun _ => ?_) (fun _ => ?_)
              · refine G_bipush (v := -13) C dX9_shift_98 (by decide) ?_
                exact G_iret C dX9_shift_100
              · refine G_iload C 4 dX9_shift_66 rfl ?_
                refine G_if_lt (tgt := 98) C dX9_shift_68 (by decide) (fun _ => ?_) (fun _ => ?_)
                · refine G_bipush (v := -13) C dX9_shift_98 (by decide) ?_
                  exact G_iret C dX9_shift_100
                · refine G_iload_n C 2 dX9_shift_71 rfl rfl ?_
                  refine G_aload_n C 0 dX9_shift_72 rfl rfl ?_
                  refine G_getR (j := 46) C 75 shM_0 rfl rfl (by decide) wf9_238 dX9_shift_73 ?_
                  refine G_iload_n C 1 dX9_shift_76 rfl rfl ?_
                  refine G_iald C shM_46 dX9_shift_77 (fun hb9 => ?_)
                  refine G_iload C 5 dX9_shift_78 rfl ?_
                  refine G_isub C dX9_shift_80 ?_
                  refine G_icmp_gt (tgt := 98) C dX9_shift_81 (by decide) (fun _ => ?_) (fun _ => ?_)
                  · refine G_bipush (v := -13) C dX9_shift_98 (by decide) ?_
                    exact G_iret C dX9_shift_100
                  · refine G_iload C 4 dX9_shift_84 rfl ?_
                    refine G_aload_n C 0 dX9_shift_86 rfl rfl ?_
                    refine G_getR (j := 46) C 75 shM_0 rfl rfl (by decide) wf9_238 dX9_shift_87 ?_
                    refine G_iload_n C 3 dX9_shift_90 rfl rfl ?_
                    refine G_iald C shM_46 dX9_shift_91 (fun hb10 => ?_)
                    refine G_iload C 5 dX9_shift_92 rfl ?_
                    refine G_isub C dX9_shift_94 ?_
                    refine G_icmp_le (tgt := 101) C dX9_shift_95 (by decide) (fun _ => ?_) (fun _ => ?_)
                    · refine G_iconst (v := 0) C dX9_shift_101 (by decide) ?_
                      refine G_istore (L' := [(6, .int (0 : Int32)), (0, .ref 0), (1, .int p1), (2, .int p2), (3, .int p3), (4, .int p4), (5, .int p5)]) C dX9_shift_102 (by decide) rfl ?_
                      refine G_locals [1, 2, 3, 4, 5, 6, 0] rfl ?_
                      exact go_X9_shift_L104 C hd 400 (0 : Int32) u4
                    · refine G_bipush (v := -13) C dX9_shift_98 (by decide) ?_
                      exact G_iret C dX9_shift_100
          · refine G_bipush (v := -12) C dX9_shift_54 (by decide) ?_
            exact G_iret C dX9_shift_56
        · refine G_bipush (v := -11) C dX9_shift_36 (by decide) ?_
          exact G_iret C dX9_shift_38
    · refine G_iconst (v := -1) C dX9_shift_16 (by decide) ?_
      exact G_iret C dX9_shift_17
theorem m_X9_shift   (p1 : Int32) (p2 : Int32) (p3 : Int32) (p4 : Int32) (p5 : Int32) (u : zM) (d : Nat) (hd : 3 ≤ d) : zMet zQi SHM yX9_shift cX9_shift 7 ((some FieldType.int)) d [.ref 0, .int p1, .int p2, .int p3, .int p4, .int p5] u (f_X9_shift p1 p2 p3 p4 p5 u) :=
  zMet_of (by decide +kernel) (fun as => Nat.le_of_ble_eq_true rfl) wwX9_shift.2.2.2.1 (by omega) (fun p l e s m args below meth c as dA D C => go_X9_shift C hd u)
