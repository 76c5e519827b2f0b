/-! private int behind() -/
def f_X9_behind (u : zM) : Option (Int32 × zM) :=
  (if (0 : Int32) ≤ (gI u 0 13) then zck (inB (gI u 0 13) 6) <| some ((((10 : Int32) * (gI u 0 13)) + (gI u 9 (gI u 0 13).toNatClampNeg)), u) else some ((0 : Int32), u))
set_option maxRecDepth 20000 in
theorem go_X9_behind {p : Program} {l : Launch} {e : Env} {s : State} {m : MethodId} {args : Array Value} {below : List Frame} {meth : Method} {c : Code} {as : Nat → Nat} {dA : Nat → ClassId} {D : va_G} {d : Nat}  (C : zCx p s m args meth c as dA D SHM d 1 yX9_behind.cls cX9_behind ((some FieldType.int))) (hd : 1 ≤ d) : ∀ (u : zM), Go p l e s m args below meth c as dA D SHM d 1 zQi 0 [(0, .ref 0)] [] u (f_X9_behind  u) := by
  intro u
  unfold f_X9_behind
  refine G_aload_n C 0 dX9_behind_0 rfl rfl ?_
  refine G_getI C 13 shM_0 rfl rfl (by decide) wf9_50 dX9_behind_1 ?_
  refine G_if_ge (tgt := 11) C dX9_behind_4 (by decide) (fun _ => ?_) (fun _ => ?_)
  · refine G_bipush (v := 10) C dX9_behind_11 (by decide) ?_
    refine G_aload_n C 0 dX9_behind_13 rfl rfl ?_
    refine G_getI C 13 shM_0 rfl rfl (by decide) wf9_50 dX9_behind_14 ?_
    refine G_imul C dX9_behind_17 ?_
    refine G_aload_n C 0 dX9_behind_18 rfl rfl ?_
    refine G_getR (j := 9) C 18 shM_0 rfl rfl (by decide) wf9_65 dX9_behind_19 ?_
    refine G_aload_n C 0 dX9_behind_22 rfl rfl ?_
    refine G_getI C 13 shM_0 rfl rfl (by decide) wf9_50 dX9_behind_23 ?_
    refine G_iald C shM_9 dX9_behind_26 (fun hb1 => ?_)
    refine G_iadd C dX9_behind_27 ?_
    exact G_iret C dX9_behind_28
  · refine G_iconst (v := 0) C dX9_behind_7 (by decide) ?_
    refine G_goto (tgt := 28) C dX9_behind_8 (by decide) ?_
    exact G_iret C dX9_behind_28
theorem m_X9_behind    (u : zM) (d : Nat) (hd : 1 ≤ d) : zMet zQi SHM yX9_behind cX9_behind 1 ((some FieldType.int)) d [.ref 0] u (f_X9_behind  u) :=
  zMet_of (by decide +kernel) (fun as => Nat.le_of_ble_eq_true rfl) wwX9_behind.2.2.2.1 (by omega) (fun p l e s m args below meth c as dA D C => go_X9_behind C hd u)
/-! private int spark() -/
def f_X9_spark_L8_b  (rc : Int32 → Int32 → zM → Option (Int32 × zM)) (x1 : Int32) (x2 : Int32) (u : zM) : Option (Int32 × zM) :=
  zb (f_X9_behind u) fun y3 u4 => (if y3 ≤ x2 then some (x1, u4) else zck (inB x2 60) <| (if (gI u4 10 x2.toNatClampNeg) = (2 : Int32) then zck (inB x2 60) <| zlx (gI u4 11 x2.toNatClampNeg) fun v7 => rc v7 (x2 + (1 : Int32)) u4 else rc x1 (x2 + (1 : Int32)) u4))
def f_X9_spark_L8  : Nat → Int32 → Int32 → zM → Option (Int32 × zM)
  | 0 => fun _ _ _ => none
  | fn + 1 => f_X9_spark_L8_b  (f_X9_spark_L8  fn)
def f_X9_spark (u : zM) : Option (Int32 × zM) :=
  zb (f_X9_begin u) fun y1 u2 => f_X9_spark_L8 400 (80 : Int32) y1 u2
set_option maxRecDepth 20000 in
theorem go_X9_spark_L8 {p : Program} {l : Launch} {e : Env} {s : State} {m : MethodId} {args : Array Value} {below : List Frame} {meth : Method} {c : Code} {as : Nat → Nat} {dA : Nat → ClassId} {D : va_G} {d : Nat}  (C : zCx p s m args meth c as dA D SHM d 3 yX9_spark.cls cX9_spark ((some FieldType.int))) (hd : 2 ≤ d) : ∀ (fn : Nat) (x1 : Int32) (x2 : Int32) (u : zM), Go p l e s m args below meth c as dA D SHM d 3 zQi 8 [(0, .ref 0), (1, .int x1), (2, .int x2)] [] u (f_X9_spark_L8 fn x1 x2 u) := by
  intro fn
  induction fn with
  | zero => intro x1 x2 u; exact G_none
  | succ fn ih =>
    intro x1 x2 u
    show Go p l e s m args below meth c as dA D SHM d 3 zQi 8 [(0, .ref 0), (1, .int x1), (2, .int x2)] [] u (f_X9_spark_L8_b  (f_X9_spark_L8  fn) x1 x2 u)
    unfold f_X9_spark_L8_b
    refine G_iload_n C 2 dX9_spark_8 rfl rfl ?_
    refine G_aload_n C 0 dX9_spark_9 rfl rfl ?_
    refine G_callVi C (m_X9_behind u (d - 1) (by omega)) (d' := d - 1) (As := []) (by omega) rfl wm9_323 wwX9_behind shM_0 rfl (Nat.le_of_ble_eq_true rfl) dX9_spark_10 (fun y3 u4 => ?_)
    refine G_icmp_ge (tgt := 43) C dX9_spark_13 (by decide) (fun _ => ?_) (fun _ => ?_)
    · refine G_iload_n C 1 dX9_spark_43 rfl rfl ?_
      exact G_iret C dX9_spark_44
    · refine G_aload_n C 0 dX9_spark_16 rfl rfl ?_
      refine G_getR (j := 10) C 19 shM_0 rfl rfl (by decide) wf9_68 dX9_spark_17 ?_
      refine G_iload_n C 2 dX9_spark_20 rfl rfl ?_
      refine G_iald C shM_10 dX9_spark_21 (fun hb5 => ?_)
      refine G_iconst (v := 2) C dX9_spark_22 (by decide) ?_
      refine G_icmp_ne (tgt := 35) C dX9_spark_23 (by decide) (fun _ => ?_) (fun _ => ?_)
      · refine G_iload_n C 1 dX9_spark_35 rfl rfl ?_
        refine G_istore_n (L' := [(1, .int x1), (0, .ref 0), (2, .int x2)]) C dX9_spark_36 rfl (by decide) rfl ?_
        refine G_iinc (v := 1) (L' := [(2, .int (x2 + (1 : Int32))), (1, .int x1), (0, .ref 0)]) C 2 dX9_spark_37 rfl (by decide) (by decide) rfl ?_
        refine G_goto (tgt := 8) C dX9_spark_40 (by decide) ?_
        refine G_locals [2, 1, 0] rfl ?_
        exact ih x1 (x2 + (1 : Int32)) u4
      · refine G_aload_n C 0 dX9_spark_26 rfl rfl ?_
        refine G_getR (j := 11) C 20 shM_0 rfl rfl (by decide) wf9_71 dX9_spark_27 ?_
        refine G_iload_n C 2 dX9_spark_30 rfl rfl ?_
        refine G_iald C shM_11 dX9_spark_31 (fun hb6 => ?_)
        refine G_goto (tgt := 36) C dX9_spark_32 (by decide) ?_
        refine G_topi (fun v7 => ?_)
        refine G_istore_n (L' := [(1, .int v7), (0, .ref 0), (2, .int x2)]) C dX9_spark_36 rfl (by decide) rfl ?_
        refine G_iinc (v := 1) (L' := [(2, .int (x2 + (1 : Int32))), (1, .int v7), (0, .ref 0)]) C 2 dX9_spark_37 rfl (by decide) (by decide) rfl ?_
        refine G_goto (tgt := 8) C dX9_spark_40 (by decide) ?_
        refine G_locals [2, 1, 0] rfl ?_
        exact ih v7 (x2 + (1 : Int32)) u4
set_option maxRecDepth 20000 in
theorem go_X9_spark {p : Program} {l : Launch} {e : Env} {s : State} {m : MethodId} {args : Array Value} {below : List Frame} {meth : Method} {c : Code} {as : Nat → Nat} {dA : Nat → ClassId} {D : va_G} {d : Nat}  (C : zCx p s m args meth c as dA D SHM d 3 yX9_spark.cls cX9_spark ((some FieldType.int))) (hd : 2 ≤ d) : ∀ (u : zM), Go p l e s m args below meth c as dA D SHM d 3 zQi 0 [(0, .ref 0)] [] u (f_X9_spark  u) := by
  intro u
  unfold f_X9_spark
  refine G_bipush (v := 80) C dX9_spark_0 (by decide) ?_
  refine G_istore_n (L' := [(1, .int (80 : Int32)), (0, .ref 0)]) C dX9_spark_2 rfl (by decide) rfl ?_
  refine G_aload_n C 1 dX9_spark_3 rfl rfl ?_
  refine G_callVi C (m_X9_begin u (d - 1) (by omega)) (d' := d - 1) (As := []) (by omega) rfl wm9_320 wwX9_begin shM_0 rfl (Nat.le_of_ble_eq_true rfl) dX9_spark_4 (fun y1 u2 => ?_)
  refine G_istore_n (L' := [(2, .int y1), (1, .int (80 : Int32)), (0, .ref 0)]) C dX9_spark_7 rfl (by decide) rfl ?_
  refine G_locals [2, 1, 0] rfl ?_
  exact go_X9_spark_L8 C hd 400 (80 : Int32) y1 u2
theorem m_X9_spark    (u : zM) (d : Nat) (hd : 2 ≤ d) : zMet zQi SHM yX9_spark cX9_spark 3 ((some FieldType.int)) d [.ref 0] u (f_X9_spark  u) :=
  zMet_of (by decide +kernel) (fun as => Nat.le_of_ble_eq_true rfl) wwX9_spark.2.2.2.1 (by omega) (fun p l e s m args below meth c as dA D C => go_X9_spark C hd u)
/-! private int beside(int, int) -/
def f_X9_beside_L35 (p1 : Int32) (p2 : Int32) (x3 : Int32) (u : zM) : Option (Int32 × zM) :=
  (if ((gI u 0 0) - (1 : Int32)) ≤ p1 then some (x3, u) else zb (f_X9_has (gI u 0 1) (p1 + (1 : Int32)) u) fun y1 u2 => (if y1 = (0 : Int32) then zck (inB (p1 + (1 : Int32)) 6) <| (if (gI u2 3 (p1 + (1 : Int32)).toNatClampNeg) < p2 then some (x3, u2) else some ((x3 + (1 : Int32)), u2)) else some (x3, u2)))
def f_X9_beside (p1 : Int32) (p2 : Int32) (u : zM) : Option (Int32 × zM) :=
  (if p1 ≤ (0 : Int32) then f_X9_beside_L35 p1 p2 (0 : Int32) u else zb (f_X9_has (gI u 0 1) (p1 - (1 : Int32)) u) fun y4 u5 => (if y4 = (0 : Int32) then zck (inB (p1 - (1 : Int32)) 6) <| (if (gI u5 3 (p1 - (1 : Int32)).toNatClampNeg) < p2 then f_X9_beside_L35 p1 p2 (0 : Int32) u5 else f_X9_beside_L35 p1 p2 ((0 : Int32) + (1 : Int32)) u5) else f_X9_beside_L35 p1 p2 (0 : Int32) u5))
set_option maxRecDepth 20000 in
theorem go_X9_beside_L35 {p : Program} {l : Launch} {e : Env} {s : State} {m : MethodId} {args : Array Value} {below : List Frame} {meth : Method} {c : Code} {as : Nat → Nat} {dA : Nat → ClassId} {D : va_G} {d : Nat} {p1 : Int32} {p2 : Int32} (C : zCx p s m args meth c as dA D SHM d 4 yX9_beside.cls cX9_beside ((some FieldType.int))) (hd : 2 ≤ d) : ∀ (x3 : Int32) (u : zM), Go p l e s m args below meth c as dA D SHM d 4 zQi 35 [(0, .ref 0), (1, .int p1), (2, .int p2), (3, .int x3)] [] u (f_X9_beside_L35 p1 p2 x3 u) := by
  intro x3 u
  unfold f_X9_beside_L35
  refine G_iload_n C 1 dX9_beside_35 rfl rfl ?_
  refine G_aload_n C 0 dX9_beside_36 rfl rfl ?_
  refine G_getI C 0 shM_0 rfl rfl (by decide) wf9_7 dX9_beside_37 ?_
  refine G_iconst (v := 1) C dX9_beside_40 (by decide) ?_
  refine G_isub C dX9_beside_41 ?_
  refine G_icmp_ge (tgt := 74) C dX9_beside_42 (by decide) (fun _ => ?_) (fun _ => ?_)
  · refine G_iload_n C 3 dX9_beside_74 rfl rfl ?_
    exact G_iret C dX9_beside_75
  · refine G_aload_n C 0 dX9_beside_45 rfl rfl ?_
    refine G_aload_n C 0 dX9_beside_46 rfl rfl ?_
    refine G_getI C 1 shM_0 rfl rfl (by decide) wf9_13 dX9_beside_47 ?_
    refine G_iload_n C 1 dX9_beside_50 rfl rfl ?_
    refine G_iconst (v := 1) C dX9_beside_51 (by decide) ?_
    refine G_iadd C dX9_beside_52 ?_
    refine G_callVi C (m_X9_has (gI u 0 1) (p1 + (1 : Int32)) u (d - 1) (by omega)) (d' := d - 1) (As := [.int (gI u 0 1), .int (p1 + (1 : Int32))]) (by omega) rfl wm9_263 wwX9_has shM_0 rfl (Nat.le_of_ble_eq_true rfl) dX9_beside_53 (fun y1 u2 => ?_)
    refine G_if_ne (tgt := 74) C dX9_beside_56 (by decide) (fun _ => ?_) (fun _ => ?_)
    · refine G_iload_n C 3 dX9_beside_74 rfl rfl ?_
      exact G_iret C dX9_beside_75
    · refine G_aload_n C 0 dX9_beside_59 rfl rfl ?_
      refine G_getR (j := 3) C 7 shM_0 rfl rfl (by decide) wf9_32 dX9_beside_60 ?_
      refine G_iload_n C 1 dX9_beside_63 rfl rfl ?_
      refine G_iconst (v := 1) C dX9_beside_64 (by decide) ?_
      refine G_iadd C dX9_beside_65 ?_
      refine G_iald C shM_3 dX9_beside_66 (fun hb3 => ?_)
      refine G_iload_n C 2 dX9_beside_67 rfl rfl ?_
      refine G_icmp_lt (tgt := 74) C dX9_beside_68 (by decide) (fun _ => ?_) (fun _ => ?_)
      · refine G_iload_n C 3 dX9_beside_74 rfl rfl ?_
        exact G_iret C dX9_beside_75
      · refine G_iinc (v := 1) (L' := [(3, .int (x3 + (1 : Int32))), (0, .ref 0), (1, .int p1), (2, .int p2)]) C 3 dX9_beside_71 rfl (by decide) (by decide) rfl ?_
        refine G_iload_n C 0 dX9_beside_74 rfl rfl ?_
        exact G_iret C dX9_beside_75
set_option maxRecDepth 20000 in
theorem go_X9_beside {p : Program} {l : Launch} {e : Env} {s : State} {m : MethodId} {args : Array Value} {below : List Frame} {meth : Method} {c : Code} {as : Nat → Nat} {dA : Nat → ClassId} {D : va_G} {d : Nat} {p1 : Int32} {p2 : Int32} (C : zCx p s m args meth c as dA D SHM d 4 yX9_beside.cls cX9_beside ((some FieldType.int))) (hd : 2 ≤ d) : ∀ (u : zM), Go p l e s m args below meth c as dA D SHM d 4 zQi 0 [(0, .ref 0), (1, .int p1), (2, .int p2)] [] u (f_X9_beside p1 p2 u) := by
  intro u
  unfold f_X9_beside
  refine G_iconst (v := 0) C dX9_beside_0 (by decide) ?_
  refine G_istore_n (L' := [(3, .int (0 : Int32)), (0, .ref 0), (1, .int p1), (2, .int p2)]) C dX9_beside_1 rfl (by decide) rfl ?_
  refine G_iload_n C 2 dX9_beside_2 rfl rfl ?_
  refine G_if_le (tgt := 35) C dX9_beside_3 (by decide) (fun _ => ?_) (fun _ => ?_)
  · refine G_locals [1, 2, 3, 0] rfl ?_
    exact go_X9_beside_L35 C hd (0 : Int32) u
  · refine G_aload_n C 1 dX9_beside_6 rfl rfl ?_
    refine G_aload_n C 1 dX9_beside_7 rfl rfl ?_
    refine G_getI C 1 shM_0 rfl rfl (by decide) wf9_13 dX9_beside_8 ?_
    refine G_iload_n C 2 dX9_beside_11 rfl rfl ?_
    refine G_iconst (v := 1) C dX9_beside_12 (by decide) ?_
    refine G_isub C dX9_beside_13 ?_
    refine G_callVi C (m_X9_has (gI u 0 1) (p1 - (1 : Int32)) u (d - 1) (by omega)) (d' := d - 1) (As := [.int (gI u 0 1), .int (p1 - (1 : Int32))]) (by omega) rfl wm9_263 wwX9_has shM_0 rfl (Nat.le_of_ble_eq_true rfl) dX9_beside_14 (fun y4 u5 => ?_)
    refine G_if_ne (tgt := 35) C dX9_beside_17 (by decide) (fun _ => ?_) (fun _ => ?_)
    · refine G_locals [1, 2, 3, 0] rfl ?_
      exact go_X9_beside_L35 C hd (0 : Int32) u5
    · refine G_aload_n C 1 dX9_beside_20 rfl rfl ?_
      refine G_getR (j := 3) C 7 shM_0 rfl rfl (by decide) wf9_32 dX9_beside_21 ?_
      refine G_iload_n C 2 dX9_beside_24 rfl rfl ?_
      refine G_iconst (v := 1) C dX9_beside_25 (by decide) ?_
      refine G_isub C dX9_beside_26 ?_
      refine G_iald C shM_3 dX9_beside_27 (fun hb6 => ?_)
      refine G_iload_n C 3 dX9_beside_28 rfl rfl ?_
      refine G_icmp_lt (tgt := 35) C dX9_beside_29 (by decide) (fun _ => ?_) (fun _ => ?_)
      · refine G_locals [1, 2, 3, 0] rfl ?_
        exact go_X9_beside_L35 C hd (0 : Int32) u5
      · refine G_iinc (v := 1) (L' := [(3, .int ((0 : Int32) + (1 : Int32))), (0, .ref 0), (1, .int p1), (2, .int p2)]) C 0 dX9_beside_32 rfl (by decide) (by decide) rfl ?_
        refine G_locals [1, 2, 3, 0] rfl ?_
        exact go_X9_beside_L35 C hd ((0 : Int32) + (1 : Int32)) u5
theorem m_X9_beside   (p1 : Int32) (p2 : Int32) (u : zM) (d : Nat) (hd : 2 ≤ d) : zMet zQi SHM yX9_beside cX9_beside 4 ((some FieldType.int)) d [.ref 0, .int p1, .int p2] u (f_X9_beside p1 p2 u) :=
  zMet_of (by decide +kernel) (fun as => Nat.le_of_ble_eq_true rfl) wwX9_beside.2.2.2.1 (by omega) (fun p l e s m args below meth c as dA D C => go_X9_beside C hd u)
/-! private int factOf(int, int) -/
def f_X9_factOf (p1 : Int32) (p2 : Int32) (u : zM) : Option (Int32 × zM) :=
  (if p1 = (0 : Int32) then some (p2, u) else if p1 = (1 : Int32) then zck (inB p2 6) <| some ((gI u 1 p2.toNatClampNeg), u) else if p1 = (2 : Int32) then zck (inB p2 6) <| some ((gI u 2 p2.toNatClampNeg), u) else if p1 = (3 : Int32) then zck (inB p2 6) <| some (((gI u 3 p2.toNatClampNeg) / (10 : Int32)), u) else if p1 = (4 : Int32) then zb (f_X9_beside p2 (50 : Int32) u) fun y9 u10 => some (y9, u10) else some ((zrem (gI u 0 4) (10 : Int32)), u))
set_option maxRecDepth 20000 in
theorem go_X9_factOf {p : Program} {l : Launch} {e : Env} {s : State} {m : MethodId} {args : Array Value} {below : List Frame} {meth : Method} {c : Code} {as : Nat → Nat} {dA : Nat → ClassId} {D : va_G} {d : Nat} {p1 : Int32} {p2 : Int32} (C : zCx p s m args meth c as dA D SHM d 3 yX9_factOf.cls cX9_factOf ((some FieldType.int))) (hd : 3 ≤ d) : ∀ (u : zM), Go p l e s m args below meth c as dA D SHM d 3 zQi 0 [(0, .ref 0), (1, .int p1), (2, .int p2)] [] u (f_X9_factOf p1 p2 u) := by
  intro u
  unfold f_X9_factOf
  refine G_iload_n C 1 dX9_factOf_0 rfl rfl ?_
  refine G_if (fun h1 => ?_) (fun h1 => ?_)
  · refine G_tsIn (v := 0) (off := 35) (tgt := 36) C dX9_factOf_1 h1 (by decide) (by decide) rfl (by decide) ?_
    refine G_iload_n C 2 dX9_factOf_36 rfl rfl ?_
    exact G_iret C dX9_factOf_37
  · refine G_if (fun h2 => ?_) (fun h2 => ?_)
    · refine G_tsIn (v := 1) (off := 37) (tgt := 38) C dX9_factOf_1 h2 (by decide) (by decide) rfl (by decide) ?_
      refine G_aload_n C 0 dX9_factOf_38 rfl rfl ?_
      refine G_getR (j := 1) C 5 shM_0 rfl rfl (by decide) wf9_25 dX9_factOf_39 ?_
      refine G_iload_n C 2 dX9_factOf_42 rfl rfl ?_
      refine G_iald C shM_1 dX9_factOf_43 (fun hb3 => ?_)
      exact G_iret C dX9_factOf_44
    · refine G_if (fun h4 => ?_) (fun h4 => ?_)
      · refine G_tsIn (v := 2) (off := 44) (tgt := 45) C dX9_factOf_1 h4 (by decide) (by decide) rfl (by decide) ?_
        refine G_aload_n C 0 dX9_factOf_45 rfl rfl ?_
        refine G_getR (j := 2) C 6 shM_0 rfl rfl (by decide) wf9_29 dX9_factOf_46 ?_
        refine G_iload_n C 2 dX9_factOf_49 rfl rfl ?_
        refine G_iald C shM_2 dX9_factOf_50 (fun hb5 => ?_)
        exact G_iret C dX9_factOf_51
      · refine G_if (fun h6 => ?_) (fun h6 => ?_)
        · refine G_tsIn (v := 3) (off := 51) (tgt := 52) C dX9_factOf_1 h6 (by decide) (by decide) rfl (by decide) ?_
          refine G_aload_n C 0 dX9_factOf_52 rfl rfl ?_
          refine G_getR (j := 3) C 7 shM_0 rfl rfl (by decide) wf9_32 dX9_factOf_53 ?_
          refine G_iload_n C 2 dX9_factOf_56 rfl rfl ?_
          refine G_iald C shM_3 dX9_factOf_57 (fun hb7 => ?_)
          refine G_bipush (v := 10) C dX9_factOf_58 (by decide) ?_
          refine G_idiv C dX9_factOf_60 (by decide) ?_
          exact G_iret C dX9_factOf_61
        · refine G_if (fun h8 => ?_) (fun h8 => ?_)
          · refine G_tsIn (v := 4) (off := 61) (tgt := 62) C dX9_factOf_1 h8 (by decide) (by decide) rfl (by decide) ?_
            refine G_aload_n C 0 dX9_factOf_62 rfl rfl ?_
            refine G_iload_n C 2 dX9_factOf_63 rfl rfl ?_
            refine G_bipush (v := 50) C dX9_factOf_64 (by decide) ?_
            refine G_callVi C (m_X9_beside p2 (50 : Int32) u (d - 1) (by omega)) (d' := d - 1) (As := [.int p2, .int (50 : Int32)]) (by omega) rfl wm9_326 wwX9_beside shM_0 rfl (Nat.le_of_ble_eq_true rfl) dX9_factOf_66 (fun y9 u10 => ?_)
            exact G_iret C dX9_factOf_69
          · refine G_tsOut (tgt := 70) C dX9_factOf_1 (by have e0 := lv_neT (a := 0) h1 rfl; have e1 := lv_neT (a := 1) h2 rfl; have e2 := lv_neT (a := 2) h4 rfl; have e3 := lv_neT (a := 3) h6 rfl; have e4 := lv_neT (a := 4) h8 rfl; omega) (by decide) ?_
            refine G_aload_n C 0 dX9_factOf_70 rfl rfl ?_
            refine G_getI C 4 shM_0 rfl rfl (by decide) wf9_22 dX9_factOf_71 ?_
            refine G_bipush (v := 10) C dX9_factOf_74 (by decide) ?_
            refine G_irem C dX9_factOf_76 (by decide) ?_
            exact G_iret C dX9_factOf_77
theorem m_X9_factOf   (p1 : Int32) (p2 : Int32) (u : zM) (d : Nat) (hd : 3 ≤ d) : zMet zQi SHM yX9_factOf cX9_factOf 3 ((some FieldType.int)) d [.ref 0, .int p1, .int p2] u (f_X9_factOf p1 p2 u) :=
  zMet_of (by decide +kernel) (fun as => Nat.le_of_ble_eq_true rfl) wwX9_factOf.2.2.2.1 (by omega) (fun p l e s m args below meth c as dA D C => go_X9_factOf C hd u)
/-! private boolean holds(int, int) -/
def f_X9_holds_L10_b (p1 : Int32) (p2 : Int32) (rc : Int32 → Int32 → zM → Option (Int32 × zM)) (x3 : Int32) (x4 : Int32) (u : zM) : Option (Int32 × zM) :=
  zck (inB p1 60) <| (if (gI u 13 p1.toNatClampNeg) ≤ x4 then zck (inB (0 : Int32) 100) <| zck (z01 (gI u 17 (0 : Int32).toNatClampNeg)) <| some ((gI u 17 (0 : Int32).toNatClampNeg), u) else zck (inB x4 600) <| zlx (gI u 14 x4.toNatClampNeg) fun v7 => (if v7 = (-33 : Int32) then zck (inB (x3 - (1 : Int32)) 100) <| (if (gI u 17 (x3 - (1 : Int32)).toNatClampNeg) = (0 : Int32) then zck (inB (x3 - (1 : Int32)) 100) <| zlet (sI u 17 (x3 - (1 : Int32)).toNatClampNeg (vp_nar .boolean (1 : Int32))) fun u29 => rc x3 (x4 + (1 : Int32)) u29 else zck (inB (x3 - (1 : Int32)) 100) <| zlet (sI u 17 (x3 - (1 : Int32)).toNatClampNeg (vp_nar .boolean (0 : Int32))) fun u28 => rc x3 (x4 + (1 : Int32)) u28) else (if (0 : Int32) ≤ v7 then zb (f_X9_factOf (v7 / (1000 : Int32)) p2 u) fun y8 u9 => zlx (zrem (v7 / (100 : Int32)) (10 : Int32)) fun v10 => (if v10 = (0 : Int32) then (if (zrem v7 (100 : Int32)) ≤ y8 then zck (inB x3 100) <| zlet (sI u9 17 x3.toNatClampNeg (vp_nar .boolean (0 : Int32))) fun u15 => rc (x3 + (1 : Int32)) (x4 + (1 : Int32)) u15 else zck (inB x3 100) <| zlet (sI u9 17 x3.toNatClampNeg (vp_nar .boolean (1 : Int32))) fun u16 => rc (x3 + (1 : Int32)) (x4 + (1 : Int32)) u16) else (if v10 = (1 : Int32) then (if y8 = (zrem v7 (100 : Int32)) then zck (inB x3 100) <| zlet (sI u9 17 x3.toNatClampNeg (vp_nar .boolean (1 : Int32))) fun u14 => rc (x3 + (1 : Int32)) (x4 + (1 : Int32)) u14 else zck (inB x3 100) <| zlet (sI u9 17 x3.toNatClampNeg (vp_nar .boolean (0 : Int32))) fun u13 => rc (x3 + (1 : Int32)) (x4 + (1 : Int32)) u13) else (if y8 ≤ (zrem v7 (100 : Int32)) then zck (inB x3 100) <| zlet (sI u9 17 x3.toNatClampNeg (vp_nar .boolean (0 : Int32))) fun u11 => rc (x3 + (1 : Int32)) (x4 + (1 : Int32)) u11 else zck (inB x3 100) <| zlet (sI u9 17 x3.toNatClampNeg (vp_nar .boolean (1 : Int32))) fun u12 => rc (x3 + (1 : Int32)) (x4 + (1 : Int32)) u12))) else (if v7 = (-38 : Int32) then zck (inB ((x3 + (-1 : Int32)) - (1 : Int32)) 100) <| (if (gI u 17 ((x3 + (-1 : Int32)) - (1 : Int32)).toNatClampNeg) = (0 : Int32) then zck (inB ((x3 + (-1 : Int32)) - (1 : Int32)) 100) <| zlet (sI u 17 ((x3 + (-1 : Int32)) - (1 : Int32)).toNatClampNeg (vp_nar .boolean (0 : Int32))) fun u23 => rc (x3 + (-1 : Int32)) (x4 + (1 : Int32)) u23 else zck (inB (x3 + (-1 : Int32)) 100) <| (if (gI u 17 (x3 + (-1 : Int32)).toNatClampNeg) = (0 : Int32) then zck (inB ((x3 + (-1 : Int32)) - (1 : Int32)) 100) <| zlet (sI u 17 ((x3 + (-1 : Int32)) - (1 : Int32)).toNatClampNeg (vp_nar .boolean (0 : Int32))) fun u25 => rc (x3 + (-1 : Int32)) (x4 + (1 : Int32)) u25 else zck (inB ((x3 + (-1 : Int32)) - (1 : Int32)) 100) <| zlet (sI u 17 ((x3 + (-1 : Int32)) - (1 : Int32)).toNatClampNeg (vp_nar .boolean (1 : Int32))) fun u26 => rc (x3 + (-1 : Int32)) (x4 + (1 : Int32)) u26)) else zck (inB ((x3 + (-1 : Int32)) - (1 : Int32)) 100) <| (if (gI u 17 ((x3 + (-1 : Int32)) - (1 : Int32)).toNatClampNeg) = (0 : Int32) then zck (inB (x3 + (-1 : Int32)) 100) <| (if (gI u 17 (x3 + (-1 : Int32)).toNatClampNeg) = (0 : Int32) then zck (inB ((x3 + (-1 : Int32)) - (1 : Int32)) 100) <| zlet (sI u 17 ((x3 + (-1 : Int32)) - (1 : Int32)).toNatClampNeg (vp_nar .boolean (0 : Int32))) fun u20 => rc (x3 + (-1 : Int32)) (x4 + (1 : Int32)) u20 else zck (inB ((x3 + (-1 : Int32)) - (1 : Int32)) 100) <| zlet (sI u 17 ((x3 + (-1 : Int32)) - (1 : Int32)).toNatClampNeg (vp_nar .boolean (1 : Int32))) fun u21 => rc (x3 + (-1 : Int32)) (x4 + (1 : Int32)) u21) else zck (inB ((x3 + (-1 : Int32)) - (1 : Int32)) 100) <| zlet (sI u 17 ((x3 + (-1 : Int32)) - (1 : Int32)).toNatClampNeg (vp_nar .boolean (1 : Int32))) fun u18 => rc (x3 + (-1 : Int32)) (x4 + (1 : Int32)) u18)))))
def f_X9_holds_L10 (p1 : Int32) (p2 : Int32) : Nat → Int32 → Int32 → zM → Option (Int32 × zM)
  | 0 => fun _ _ _ => none
  | fn + 1 => f_X9_holds_L10_b p1 p2 (f_X9_holds_L10 p1 p2 fn)
def f_X9_holds (p1 : Int32) (p2 : Int32) (u : zM) : Option (Int32 × zM) :=
  zck (inB p1 60) <| zlx (gI u 12 p1.toNatClampNeg) fun v2 => f_X9_holds_L10 p1 p2 400 (0 : Int32) v2 u
set_option maxRecDepth 20000 in
theorem go_X9_holds_L10 {p : Program} {l : Launch} {e : Env} {s : State} {m : MethodId} {args : Array Value} {below : List Frame} {meth : Method} {c : Code} {as : Nat → Nat} {dA : Nat → ClassId} {D : va_G} {d : Nat} {p1 : Int32} {p2 : Int32} (C : zCx p s m args meth c as dA D SHM d 8 yX9_holds.cls cX9_holds ((some FieldType.boolean))) (hd : 4 ≤ d) : ∀ (fn : Nat) (x3 : Int32) (x4 : Int32) (u : zM), Go p l e s m args below meth c as dA D SHM d 8 zQi 10 [(0, .ref 0), (1, .int p1), (2, .int p2), (3, .int x3), (4, .int x4)] [] u (f_X9_holds_L10 p1 p2 fn x3 x4 u) := by
  intro fn
  induction fn with
  | zero => intro x3 x4 u; exact G_none
  | succ fn ih =>
    intro x3 x4 u
    show Go p l e s m args below meth c as dA D SHM d 8 zQi 10 [(0, .ref 0), (1, .int p1), (2, .int p2), (3, .int x3), (4, .int x4)] [] u (f_X9_holds_L10_b p1 p2 (f_X9_holds_L10 p1 p2 fn) x3 x4 u)
    unfold f_X9_holds_L10_b
    refine G_iload C 4 dX9_holds_10 rfl ?_
    refine G_aload_n C 0 dX9_holds_12 rfl rfl ?_
    refine G_getR (j := 13) C 22 shM_0 rfl rfl (by decide) wf9_77 dX9_holds_13 ?_
    refine G_iload_n C 1 dX9_holds_16 rfl rfl ?_
    refine G_iald C shM_13 dX9_holds_17 (fun hb3 => ?_)
    refine G_icmp_ge (tgt := 243) C dX9_holds_18 (by decide) (fun _ => ?_) (fun _ => ?_)
    · refine G_aload_n C 0 dX9_holds_243 rfl rfl ?_
      refine G_getR (j := 17) C 29 shM_0 rfl rfl (by decide) wf9_98 dX9_holds_244 ?_
      refine G_iconst (v := 0) C dX9_holds_247 (by decide) ?_
      refine G_zald C shM_17 dX9_holds_248 (fun hb4 => ?_)
      refine G_ck (fun hz5 => ?_)
      exact G_zret C (z01_nar hz5) dX9_holds_249
    · refine G_aload_n C 0 dX9_holds_21 rfl rfl ?_
      refine G_getR (j := 14) C 23 shM_0 rfl rfl (by decide) wf9_80 dX9_holds_22 ?_
      refine G_iload C 4 dX9_holds_25 rfl ?_
      refine G_iald C shM_14 dX9_holds_27 (fun hb6 => ?_)
      refine G_topi (fun v7 => ?_)
      refine G_istore (L' := [(5, .int v7), (0, .ref 0), (1, .int p1), (2, .int p2), (3, .int x3), (4, .int x4)]) C dX9_holds_28 (by decide) rfl ?_
      refine G_iload C 0 dX9_holds_30 rfl ?_
      refine G_bipush (v := -33) C dX9_holds_32 (by decide) ?_
      refine G_icmp_ne (tgt := 64) C dX9_holds_34 (by decide) (fun _ => ?_) (fun _ => ?_)
      · refine G_iload C 0 dX9_holds_64 rfl ?_
        refine G_if_ge (tgt := 143) C dX9_holds_66 (by decide) (fun _ => ?_) (fun _ => ?_)
        · refine G_aload_n C 1 dX9_holds_143 rfl rfl ?_
          refine G_iload C 0 dX9_holds_144 rfl ?_
          refine G_sipush (v := 1000) C dX9_holds_146 (by decide) ?_
          refine G_idiv C dX9_holds_149 (by decide) ?_
          refine G_iload_n C 3 dX9_holds_150 rfl rfl ?_
          refine G_callVi C (m_X9_factOf (v7 / (1000 : Int32)) p2 u (d - 1) (by omega)) (d' := d - 1) (As := [.int (v7 / (1000 : Int32)), .int p2]) (by omega) rfl wm9_329 wwX9_factOf shM_0 rfl (Nat.le_of_ble_eq_true rfl) dX9_holds_151 (fun y8 u9 => ?_)
          refine G_istore (L' := [(6, .int y8), (5, .int v7), (0, .ref 0), (1, .int p1), (2, .int p2), (3, .int x3), (4, .int x4)]) C dX9_holds_154 (by decide) rfl ?_
          refine G_iload C 1 dX9_holds_156 rfl ?_
          refine G_bipush (v := 100) C dX9_holds_158 (by decide) ?_
          refine G_idiv C dX9_holds_160 (by decide) ?_
          refine G_bipush (v := 10) C dX9_holds_161 (by decide) ?_
          refine G_irem C dX9_holds_163 (by decide) ?_
          refine G_topi (fun v10 => ?_)
          refine G_istore (L' := [(7, .int v10), (6, .int y8), (5, .int v7), (0, .ref 0), (1, .int p1), (2, .int p2), (3, .int x3), (4, .int x4)]) C dX9_holds_164 (by decide) rfl ?_
          refine G_aload_n C 3 dX9_holds_166 rfl rfl ?_
          refine G_getR (j := 17) C 29 shM_0 rfl rfl (by decide) wf9_98 dX9_holds_167 ?_
          refine G_iload_n C 6 dX9_holds_170 rfl rfl ?_
          refine G_iload C 0 dX9_holds_171 rfl ?_
          refine G_if_ne (tgt := 194) C dX9_holds_173 (by decide) (fun _ => ?_) (fun _ => ?_)
          · refine G_iload C 0 dX9_holds_194 rfl ?_
            refine G_iconst (v := 1) C dX9_holds_196 (by decide) ?_
            refine G_icmp_ne (tgt := 218) C dX9_holds_197 (by decide) (fun _ => ?_) (fun _ => ?_)
            · refine G_iload C 1 dX9_holds_218 rfl ?_
              refine G_iload C 2 dX9_holds_220 rfl ?_
              refine G_bipush (v := 100) C dX9_holds_222 (by decide) ?_
              refine G_irem C dX9_holds_224 (by decide) ?_
              refine G_icmp_le (tgt := 232) C dX9_holds_225 (by decide) (fun _ => ?_) (fun _ => ?_)
              · refine G_iconst (v := 0) C dX9_holds_232 (by decide) ?_
                refine G_zast C shM_17 dX9_holds_233 (fun _ u11 => ?_)
                refine G_iinc (v := 1) (L' := [(3, .int (x3 + (1 : Int32))), (7, .int v10), (6, .int y8), (5, .int v7), (0, .ref 0), (1, .int p1), (2, .int p2), (4, .int x4)]) C 6 dX9_holds_234 rfl (by decide) (by decide) rfl ?_
                refine G_iinc (v := 1) (L' := [(4, .int (x4 + (1 : Int32))), (3, .int (x3 + (1 : Int32))), (7, .int v10), (6, .int y8), (5, .int v7), (0, .ref 0), (1, .int p1), (2, .int p2)]) C 7 dX9_holds_237 rfl (by decide) (by decide) rfl ?_
                refine G_goto (tgt := 10) C dX9_holds_240 (by decide) ?_
                refine G_locals [5, 6, 7, 1, 0] rfl ?_
                exact ih (x3 + (1 : Int32)) (x4 + (1 : Int32)) u11
              · refine G_iconst (v := 1) C dX9_holds_228 (by decide) ?_
                refine G_goto (tgt := 233) C dX9_holds_229 (by decide) ?_
                refine G_zast C shM_17 dX9_holds_233 (fun _ u12 => ?_)
                refine G_iinc (v := 1) (L' := [(3, .int (x3 + (1 : Int32))), (7, .int v10), (6, .int y8), (5, .int v7), (0, .ref 0), (1, .int p1), (2, .int p2), (4, .int x4)]) C 6 dX9_holds_234 rfl (by decide) (by decide) rfl ?_
                refine G_iinc (v := 1) (L' := [(4, .int (x4 + (1 : Int32))), (3, .int (x3 + (1 : Int32))), (7, .int v10), (6, .int y8), (5, .int v7), (0, .ref 0), (1, .int p1), (2, .int p2)]) C 7 dX9_holds_237 rfl (by decide) (by decide) rfl ?_
                refine G_goto (tgt := 10) C dX9_holds_240 (by decide) ?_
                refine G_locals [5, 6, 7, 1, 0] rfl ?_
                exact ih (x3 + (1 : Int32)) (x4 + (1 : Int32)) u12
            · refine G_iload C 1 dX9_holds_200 rfl ?_
              refine G_iload C 2 dX9_holds_202 rfl ?_
              refine G_bipush (v := 100) C dX9_holds_204 (by decide) ?_
              refine G_irem C dX9_holds_206 (by decide) ?_
              refine G_icmp_ne (tgt := 214) C dX9_holds_207 (by decide) (fun _ => ?_) (fun _ => ?_)
              · refine G_iconst (v := 0) C dX9_holds_214 (by decide) ?_
                refine G_goto (tgt := 233) C dX9_holds_215 (by decide) ?_
                refine G_zast C shM_17 dX9_holds_233 (fun _ u13 => ?_)
                refine G_iinc (v := 1) (L' := [(3, .int (x3 + (1 : Int32))), (7, .int v10), (6, .int y8), (5, .int v7), (0, .ref 0), (1, .int p1), (2, .int p2), (4, .int x4)]) C 6 dX9_holds_234 rfl (by decide) (by decide) rfl ?_
                refine G_iinc (v := 1) (L' := [(4, .int (x4 + (1 : Int32))), (3, .int (x3 + (1 : Int32))), (7, .int v10), (6, .int y8), (5, .int v7), (0, .ref 0), (1, .int p1), (2, .int p2)]) C 7 dX9_holds_237 rfl (by decide) (by decide) rfl ?_
                refine G_goto (tgt := 10) C dX9_holds_240 (by decide) ?_
                refine G_locals [5, 6, 7, 1, 0] rfl ?_
                exact ih (x3 + (1 : Int32)) (x4 + (1 : Int32)) u13
              · refine G_iconst (v := 1) C dX9_holds_210 (by decide) ?_
                refine G_goto (tgt := 233) C dX9_holds_211 (by decide) ?_
                refine G_zast C shM_17 dX9_holds_233 (fun _ u14 => ?_)
                refine G_iinc (v := 1) (L' := [(3, .int (x3 + (1 : Int32))), (7, .int v10), (6, .int y8), (5, .int v7), (0, .ref 0), (1, .int p1), (2, .int p2), (4, .int x4)]) C 6 dX9_holds_234 rfl (by decide) (by decide) rfl ?_
                refine G_iinc (v := 1) (L' := [(4, .int (x4 + (1 : Int32))), (3, .int (x3 + (1 : Int32))), (7, .int v10), (6, .int y8), (5, .int v7), (0, .ref 0), (1, .int p1), (2, .int p2)]) C 7 dX9_holds_237 rfl (by decide) (by decide) rfl ?_
                refine G_goto (tgt := 10) C dX9_holds_240 (by decide) ?_
                refine G_locals [5, 6, 7, 1, 0] rfl ?_
                exact ih (x3 + (1 : Int32)) (x4 + (1 : Int32)) u14
          · refine G_iload C 1 dX9_holds_176 rfl ?_
            refine G_iload C 2 dX9_holds_178 rfl ?_
            refine G_bipush (v := 100) C dX9_holds_180 (by decide) ?_
            refine G_irem C dX9_holds_182 (by decide) ?_
            refine G_icmp_ge (tgt := 190) C dX9_holds_183 (by decide) (fun _ => ?_) (fun _ => ?_)
            · refine G_iconst (v := 0) C dX9_holds_190 (by decide) ?_
              refine G_goto (tgt := 233) C dX9_holds_191 (by decide) ?_
              refine G_zast C shM_17 dX9_holds_233 (fun _ u15 => ?_)
              refine G_iinc (v := 1) (L' := [(3, .int (x3 + (1 : Int32))), (7, .int v10), (6, .int y8), (5, .int v7), (0, .ref 0), (1, .int p1), (2, .int p2), (4, .int x4)]) C 6 dX9_holds_234 rfl (by decide) (by decide) rfl ?_
              refine G_iinc (v := 1) (L' := [(4, .int (x4 + (1 : Int32))), (3, .int (x3 + (1 : Int32))), (7, .int v10), (6, .int y8), (5, .int v7), (0, .ref 0), (1, .int p1), (2, .int p2)]) C 7 dX9_holds_237 rfl (by decide) (by decide) rfl ?_
              refine G_goto (tgt := 10) C dX9_holds_240 (by decide) ?_
              refine G_locals [5, 6, 7, 1, 0] rfl ?_
              exact ih (x3 + (1 : Int32)) (x4 + (1 : Int32)) u15
            · refine G_iconst (v := 1) C dX9_holds_186 (by decide) ?_
              refine G_goto (tgt := 233) C dX9_holds_187 (by decide) ?_
              refine G_zast C shM_17 dX9_holds_233 (fun _ u16 => ?_)
              refine G_iinc (v := 1) (L' := [(3, .int (x3 + (1 : Int32))), (7, .int v10), (6, .int y8), (5, .int v7), (0, .ref 0), (1, .int p1), (2, .int p2), (4, .int x4)]) C 6 dX9_holds_234 rfl (by decide) (by decide) rfl ?_
              refine G_iinc (v := 1) (L' := [(4, .int (x4 + (1 : Int32))), (3, .int (x3 + (1 : Int32))), (7, .int v10), (6, .int y8), (5, .int v7), (0, .ref 0), (1, .int p1), (2, .int p2)]) C 7 dX9_holds_237 rfl (by decide) (by decide) rfl ?_
              refine G_goto (tgt := 10) C dX9_holds_240 (by decide) ?_
              refine G_locals [5, 6, 7, 1, 0] rfl ?_
              exact ih (x3 + (1 : Int32)) (x4 + (1 : Int32)) u16
        · refine G_iinc (v := -1) (L' := [(3, .int (x3 + (-1 : Int32))), (5, .int v7), (0, .ref 0), (1, .int p1), (2, .int p2), (4, .int x4)]) C 4 dX9_holds_69 rfl (by decide) (by decide) rfl ?_
          refine G_aload_n C 2 dX9_holds_72 rfl rfl ?_
          refine G_getR (j := 17) C 29 shM_0 rfl rfl (by decide) wf9_98 dX9_holds_73 ?_
          refine G_iload_n C 0 dX9_holds_76 rfl rfl ?_
          refine G_iconst (v := 1) C dX9_holds_77 (by decide) ?_
          refine G_isub C dX9_holds_78 ?_
          refine G_iload C 1 dX9_holds_79 rfl ?_
          refine G_bipush (v := -38) C dX9_holds_81 (by decide) ?_
          refine G_icmp_ne (tgt := 114) C dX9_holds_83 (by decide) (fun _ => ?_) (fun _ => ?_)
          · refine G_aload_n C 2 dX9_holds_114 rfl rfl ?_
            refine G_getR (j := 17) C 29 shM_0 rfl rfl (by decide) wf9_98 dX9_holds_115 ?_
            refine G_iload_n C 0 dX9_holds_118 rfl rfl ?_
            refine G_iconst (v := 1) C dX9_holds_119 (by decide) ?_
            refine G_isub C dX9_holds_120 ?_
            refine G_zald C shM_17 dX9_holds_121 (fun hb17 => ?_)
            refine G_if_ne (tgt := 134) C dX9_holds_122 (by decide) (fun _ => ?_) (fun _ => ?_)
            · refine G_iconst (v := 1) C dX9_holds_134 (by decide) ?_
              refine G_goto (tgt := 139) C dX9_holds_135 (by decide) ?_
              refine G_zast C shM_17 dX9_holds_139 (fun _ u18 => ?_)
              refine G_goto (tgt := 237) C dX9_holds_140 (by decide) ?_
              refine G_iinc (v := 1) (L' := [(4, .int (x4 + (1 : Int32))), (3, .int (x3 + (-1 : Int32))), (5, .int v7), (0, .ref 0), (1, .int p1), (2, .int p2)]) C 5 dX9_holds_237 rfl (by decide) (by decide) rfl ?_
              refine G_goto (tgt := 10) C dX9_holds_240 (by decide) ?_
              refine G_locals [3, 4, 5, 1, 0] rfl ?_
              exact ih (x3 + (-1 : Int32)) (x4 + (1 : Int32)) u18
            · refine G_aload_n C 2 dX9_holds_125 rfl rfl ?_
              refine G_getR (j := 17) C 29 shM_0 rfl rfl (by decide) wf9_98 dX9_holds_126 ?_
              refine G_iload_n C 0 dX9_holds_129 rfl rfl ?_
              refine G_zald C shM_17 dX9_holds_130 (fun hb19 => ?_)
              refine G_if_eq (tgt := 138) C dX9_holds_131 (by decide) (fun _ => ?_) (fun _ => ?_)
              · refine G_iconst (v := 0) C dX9_holds_138 (by decide) ?_
                refine G_zast C shM_17 dX9_holds_139 (fun _ u20 => ?_)
                refine G_goto (tgt := 237) C dX9_holds_140 (by decide) ?_
                refine G_iinc (v := 1) (L' := [(4, .int (x4 + (1 : Int32))), (3, .int (x3 + (-1 : Int32))), (5, .int v7), (0, .ref 0), (1, .int p1), (2, .int p2)]) C 5 dX9_holds_237 rfl (by decide) (by decide) rfl ?_
                refine G_goto (tgt := 10) C dX9_holds_240 (by decide) ?_
                refine G_locals [3, 4, 5, 1, 0] rfl ?_
                exact ih (x3 + (-1 : Int32)) (x4 + (1 : Int32)) u20
              · refine G_iconst (v := 1) C dX9_holds_134 (by decide) ?_
                refine G_goto (tgt := 139) C dX9_holds_135 (by decide) ?_
                refine G_zast C shM_17 dX9_holds_139 (fun _ u21 => ?_)
                refine G_goto (tgt := 237) C dX9_holds_140 (by decide) ?_
                refine G_iinc (v := 1) (L' := [(4, .int (x4 + (1 : Int32))), (3, .int (x3 + (-1 : Int32))), (5, .int v7), (0, .ref 0), (1, .int p1), (2, .int p2)]) C 5 dX9_holds_237 rfl (by decide) (by decide) rfl ?_
                refine G_goto (tgt := 10) C dX9_holds_240 (by decide) ?_
                refine G_locals [3, 4, 5, 1, 0] rfl ?_
                exact ih (x3 + (-1 : Int32)) (x4 + (1 : Int32)) u21
          · refine G_aload_n C 2 dX9_holds_86 rfl rfl ?_
            refine G_getR (j := 17) C 29 shM_0 rfl rfl (by decide) wf9_98 dX9_holds_87 ?_
            refine G_iload_n C 0 dX9_holds_90 rfl rfl ?_
            refine G_iconst (v := 1) C dX9_holds_91 (by decide) ?_
            refine G_isub C dX9_holds_92 ?_
            refine G_zald C shM_17 dX9_holds_93 (fun hb22 => ?_)
            refine G_if_eq (tgt := 110) C dX9_holds_94 (by decide) (fun _ => ?_) (fun _ => ?_)
            · refine G_iconst (v := 0) C dX9_holds_110 (by decide) ?_
              refine G_goto (tgt := 139) C dX9_holds_111 (by decide) ?_
              refine G_zast C shM_17 dX9_holds_139 (fun _ u23 => ?_)
              refine G_goto (tgt := 237) C dX9_holds_140 (by decide) ?_
              refine G_iinc (v := 1) (L' := [(4, .int (x4 + (1 : Int32))), (3, .int (x3 + (-1 : Int32))), (5, .int v7), (0, .ref 0), (1, .int p1), (2, .int p2)]) C 5 dX9_holds_237 rfl (by decide) (by decide) rfl ?_
              refine G_goto (tgt := 10) C dX9_holds_240 (by decide) ?_
              refine G_locals [3, 4, 5, 1, 0] rfl ?_
              exact ih (x3 + (-1 : Int32)) (x4 + (1 : Int32)) u23
            · refine G_aload_n C 2 dX9_holds_97 rfl rfl ?_
              refine G_getR (j := 17) C 29 shM_0 rfl rfl (by decide) wf9_98 dX9_holds_98 ?_
              refine G_iload_n C 0 dX9_holds_101 rfl rfl ?_
              refine G_zald C shM_17 dX9_holds_102 (fun hb24 => ?_)
              refine G_if_eq (tgt := 110) C dX9_holds_103 (by decide) (fun _ => ?_) (fun _ => ?_)
              · refine G_iconst (v := 0) C dX9_holds_110 (by decide) ?_
                refine G_goto (tgt := 139) C dX9_holds_111 (by decide) ?_
                refine G_zast C shM_17 dX9_holds_139 (fun _ u25 => ?_)
                refine G_goto (tgt := 237) C dX9_holds_140 (by decide) ?_
                refine G_iinc (v := 1) (L' := [(4, .int (x4 + (1 : Int32))), (3, .int (x3 + (-1 : Int32))), (5, .int v7), (0, .ref 0), (1, .int p1), (2, .int p2)]) C 5 dX9_holds_237 rfl (by decide) (by decide) rfl ?_
                refine G_goto (tgt := 10) C dX9_holds_240 (by decide) ?_
                refine G_locals [3, 4, 5, 1, 0] rfl ?_
                exact ih (x3 + (-1 : Int32)) (x4 + (1 : Int32)) u25
              · refine G_iconst (v := 1) C dX9_holds_106 (by decide) ?_
                refine G_goto (tgt := 139) C dX9_holds_107 (by decide) ?_
                refine G_zast C shM_17 dX9_holds_139 (fun _ u26 => ?_)
                refine G_goto (tgt := 237) C dX9_holds_140 (by decide) ?_
                refine G_iinc (v := 1) (L' := [(4, .int (x4 + (1 : Int32))), (3, .int (x3 + (-1 : Int32))), (5, .int v7), (0, .ref 0), (1, .int p1), (2, .int p2)]) C 5 dX9_holds_237 rfl (by decide) (by decide) rfl ?_
                refine G_goto (tgt := 10) C dX9_holds_240 (by decide) ?_
                refine G_locals [3, 4, 5, 1, 0] rfl ?_
                exact ih (x3 + (-1 : Int32)) (x4 + (1 : Int32)) u26
      · refine G_aload_n C 1 dX9_holds_37 rfl rfl ?_
        refine G_getR (j := 17) C 29 shM_0 rfl rfl (by decide) wf9_98 dX9_holds_38 ?_
        refine G_iload_n C 4 dX9_holds_41 rfl rfl ?_
        refine G_iconst (v := 1) C dX9_holds_42 (by decide) ?_
        refine G_isub C dX9_holds_43 ?_
        refine G_aload_n C 1 dX9_holds_44 rfl rfl ?_
        refine G_getR (j := 17) C 29 shM_0 rfl rfl (by decide) wf9_98 dX9_holds_45 ?_
        refine G_iload_n C 4 dX9_holds_48 rfl rfl ?_
        refine G_iconst (v := 1) C dX9_holds_49 (by decide) ?_
        refine G_isub C dX9_holds_50 ?_
        refine G_zald C shM_17 dX9_holds_51 (fun hb27 => ?_)
        refine G_if_ne (tgt := 59) C dX9_holds_52 (by decide) (fun _ => ?_) (fun _ => ?_)
        · refine G_iconst (v := 0) C dX9_holds_59 (by decide) ?_
          refine G_zast C shM_17 dX9_holds_60 (fun _ u28 => ?_)
          refine G_goto (tgt := 237) C dX9_holds_61 (by decide) ?_
          refine G_iinc (v := 1) (L' := [(4, .int (x4 + (1 : Int32))), (5, .int v7), (0, .ref 0), (1, .int p1), (2, .int p2), (3, .int x3)]) C 5 dX9_holds_237 rfl (by decide) (by decide) rfl ?_
          refine G_goto (tgt := 10) C dX9_holds_240 (by decide) ?_
          refine G_locals [2, 3, 4, 5, 0] rfl ?_
          exact ih x3 (x4 + (1 : Int32)) u28
        · refine G_iconst (v := 1) C dX9_holds_55 (by decide) ?_
          refine G_goto (tgt := 60) C dX9_holds_56 (by decide) ?_
          refine G_zast C shM_17 dX9_holds_60 (fun _ u29 => ?_)
          refine G_goto (tgt := 237) C dX9_holds_61 (by decide) ?_
          refine G_iinc (v := 1) (L' := [(4, .int (x4 + (1 : Int32))), (5, .int v7), (0, .ref 0), (1, .int p1), (2, .int p2), (3, .int x3)]) C 5 dX9_holds_237 rfl (by decide) (by decide) rfl ?_
          refine G_goto (tgt := 10) C dX9_holds_240 (by decide) ?_
          refine G_locals [2, 3, 4, 5, 0] rfl ?_
          exact ih x3 (x4 + (1 : Int32)) u29
set_option maxRecDepth 20000 in
theorem go_X9_holds {p : Program} {l : Launch} {e : Env} {s : State} {m : MethodId} {args : Array Value} {below : List Frame} {meth : Method} {c : Code} {as : Nat → Nat} {dA : Nat → ClassId} {D : va_G} {d : Nat} {p1 : Int32} {p2 : Int32} (C : zCx p s m args meth c as dA D SHM d 8 yX9_holds.cls cX9_holds ((some FieldType.boolean))) (hd : 4 ≤ d) : ∀ (u : zM), Go p l e s m args below meth c as dA D SHM d 8 zQi 0 [(0, .ref 0), (1, .int p1), (2, .int p2)] [] u (f_X9_holds p1 p2 u) := by
  intro u
  unfold f_X9_holds
  refine G_iconst (v := 0) C dX9_holds_0 (by decide) ?_
  refine G_istore_n (L' := [(3, .int (0 : Int32)), (0, .ref 0), (1, .int p1), (2, .int p2)]) C dX9_holds_1 rfl (by decide) rfl ?_
  refine G_aload_n C 1 dX9_holds_2 rfl rfl ?_
  refine G_getR (j := 12) C 21 shM_0 rfl rfl (by decide) wf9_74 dX9_holds_3 ?_
  refine G_iload_n C 2 dX9_holds_6 rfl rfl ?_
  refine G_iald C shM_12 dX9_holds_7 (fun hb1 => ?_)
  refine G_topi (fun v2 => ?_)
  refine G_istore (L' := [(4, .int v2), (3, .int (0 : Int32)), (0, .ref 0), (1, .int p1), (2, .int p2)]) C dX9_holds_8 (by decide) rfl ?_
  refine G_locals [2, 3, 4, 1, 0] rfl ?_
  exact go_X9_holds_L10 C hd 400 (0 : Int32) v2 u
theorem m_X9_holds   (p1 : Int32) (p2 : Int32) (u : zM) (d : Nat) (hd : 4 ≤ d) : zMet zQi SHM yX9_holds cX9_holds 8 ((some FieldType.boolean)) d [.ref 0, .int p1, .int p2] u (f_X9_holds p1 p2 u) :=
  zMet_of (by decide +kernel) (fun as => Nat.le_of_ble_eq_true rfl) wwX9_holds.2.2.2.1 (by omega) (fun p l e s m args below meth c as dA D C => go_X9_holds C hd u)
/-! private int sum(int) -/
def f_X9_sum_L7_b (p1 : Int32) (rc : Int32 → Int32 → zM → Option (Int32 × zM)) (x2 : Int32) (x3 : Int32) (u : zM) : Option (Int32 × zM) :=
  zb (f_X9_behind u) fun y3 u4 => (if y3 ≤ x3 then some (x2, u4) else zck (inB x3 60) <| (if (1 : Int32) < (gI u4 10 x3.toNatClampNeg) then rc x2 (x3 + (1 : Int32)) u4 else zb (f_X9_holds x3 p1 u4) fun y6 u7 => (if y6 = (0 : Int32) then rc x2 (x3 + (1 : Int32)) u7 else zck (inB x3 60) <| (if (gI u7 10 x3.toNatClampNeg) = (0 : Int32) then zck (inB x3 60) <| zlx (x2 + (gI u7 11 x3.toNatClampNeg)) fun v12 => rc v12 (x3 + (1 : Int32)) u7 else zck (inB x3 60) <| zlx (x2 + (-(gI u7 11 x3.toNatClampNeg))) fun v10 => rc v10 (x3 + (1 : Int32)) u7))))
def f_X9_sum_L7 (p1 : Int32) : Nat → Int32 → Int32 → zM → Option (Int32 × zM)
  | 0 => fun _ _ _ => none
  | fn + 1 => f_X9_sum_L7_b p1 (f_X9_sum_L7 p1 fn)
def f_X9_sum (p1 : Int32) (u : zM) : Option (Int32 × zM) :=
  zb (f_X9_begin u) fun y1 u2 => f_X9_sum_L7 p1 400 (0 : Int32) y1 u2
set_option maxRecDepth 20000 in
theorem go_X9_sum_L7 {p : Program} {l : Launch} {e : Env} {s : State} {m : MethodId} {args : Array Value} {below : List Frame} {meth : Method} {c : Code} {as : Nat → Nat} {dA : Nat → ClassId} {D : va_G} {d : Nat} {p1 : Int32} (C : zCx p s m args meth c as dA D SHM d 4 yX9_sum.cls cX9_sum ((some FieldType.int))) (hd : 5 ≤ d) : ∀ (fn : Nat) (x2 : Int32) (x3 : Int32) (u : zM), Go p l e s m args below meth c as dA D SHM d 4 zQi 7 [(0, .ref 0), (1, .int p1), (2, .int x2), (3, .int x3)] [] u (f_X9_sum_L7 p1 fn x2 x3 u) := by
  intro fn
  induction fn with
  | zero => intro x2 x3 u; exact G_none
  | succ fn ih =>
    intro x2 x3 u
    show Go p l e s m args below meth c as dA D SHM d 4 zQi 7 [(0, .ref 0), (1, .int p1), (2, .int x2), (3, .int x3)] [] u (f_X9_sum_L7_b p1 (f_X9_sum_L7 p1 fn) x2 x3 u)
    unfold f_X9_sum_L7_b
    refine G_iload_n C 3 dX9_sum_7 rfl rfl ?_
    refine G_aload_n C 0 dX9_sum_8 rfl rfl ?_
    refine G_callVi C (m_X9_behind u (d - 1) (by omega)) (d' := d - 1) (As := []) (by omega) rfl wm9_323 wwX9_behind shM_0 rfl (Nat.le_of_ble_eq_true rfl) dX9_sum_9 (fun y3 u4 => ?_)
    refine G_icmp_ge (tgt := 71) C dX9_sum_12 (by decide) (fun _ => ?_) (fun _ => ?_)
    · refine G_iload_n C 2 dX9_sum_71 rfl rfl ?_
      exact G_iret C dX9_sum_72
    · refine G_aload_n C 0 dX9_sum_15 rfl rfl ?_
      refine G_getR (j := 10) C 19 shM_0 rfl rfl (by decide) wf9_68 dX9_sum_16 ?_
      refine G_iload_n C 3 dX9_sum_19 rfl rfl ?_
      refine G_iald C shM_10 dX9_sum_20 (fun hb5 => ?_)
      refine G_iconst (v := 1) C dX9_sum_21 (by decide) ?_
      refine G_icmp_gt (tgt := 65) C dX9_sum_22 (by decide) (fun _ => ?_) (fun _ => ?_)
      · refine G_iinc (v := 1) (L' := [(3, .int (x3 + (1 : Int32))), (0, .ref 0), (1, .int p1), (2, .int x2)]) C 3 dX9_sum_65 rfl (by decide) (by decide) rfl ?_
        refine G_goto (tgt := 7) C dX9_sum_68 (by decide) ?_
        refine G_locals [1, 2, 3, 0] rfl ?_
        exact ih x2 (x3 + (1 : Int32)) u4
      · refine G_aload_n C 0 dX9_sum_25 rfl rfl ?_
        refine G_iload_n C 3 dX9_sum_26 rfl rfl ?_
        refine G_iload_n C 1 dX9_sum_27 rfl rfl ?_
        refine G_callVi C (m_X9_holds x3 p1 u4 (d - 1) (by omega)) (d' := d - 1) (As := [.int x3, .int p1]) (by omega) rfl wm9_332 wwX9_holds shM_0 rfl (Nat.le_of_ble_eq_true rfl) dX9_sum_28 (fun y6 u7 => ?_)
        refine G_if_ne (tgt := 37) C dX9_sum_31 (by decide) (fun _ => ?_) (fun _ => ?_)
        · refine G_iload_n C 2 dX9_sum_37 rfl rfl ?_
          refine G_aload_n C 0 dX9_sum_38 rfl rfl ?_
          refine G_getR (j := 10) C 19 shM_0 rfl rfl (by decide) wf9_68 dX9_sum_39 ?_
          refine G_iload_n C 3 dX9_sum_42 rfl rfl ?_
          refine G_iald C shM_10 dX9_sum_43 (fun hb8 => ?_)
          refine G_if_ne (tgt := 56) C dX9_sum_44 (by decide) (fun _ => ?_) (fun _ => ?_)
          · refine G_aload_n C 0 dX9_sum_56 rfl rfl ?_
            refine G_getR (j := 11) C 20 shM_0 rfl rfl (by decide) wf9_71 dX9_sum_57 ?_
            refine G_iload_n C 3 dX9_sum_60 rfl rfl ?_
            refine G_iald C shM_11 dX9_sum_61 (fun hb9 => ?_)
            refine G_ineg C dX9_sum_62 ?_
            refine G_iadd C dX9_sum_63 ?_
            refine G_topi (fun v10 => ?_)
            refine G_istore_n (L' := [(2, .int v10), (0, .ref 0), (1, .int p1), (3, .int x3)]) C dX9_sum_64 rfl (by decide) rfl ?_
            refine G_iinc (v := 1) (L' := [(3, .int (x3 + (1 : Int32))), (2, .int v10), (0, .ref 0), (1, .int p1)]) C 3 dX9_sum_65 rfl (by decide) (by decide) rfl ?_
            refine G_goto (tgt := 7) C dX9_sum_68 (by decide) ?_
            refine G_locals [2, 3, 1, 0] rfl ?_
            exact ih v10 (x3 + (1 : Int32)) u7
          · refine G_aload_n C 0 dX9_sum_47 rfl rfl ?_
            refine G_getR (j := 11) C 20 shM_0 rfl rfl (by decide) wf9_71 dX9_sum_48 ?_
            refine G_iload_n C 3 dX9_sum_51 rfl rfl ?_
            refine G_iald C shM_11 dX9_sum_52 (fun hb11 => ?_)
            refine G_goto (tgt := 63) C dX9_sum_53 (by decide) ?_
            refine G_iadd C dX9_sum_63 ?_
            refine G_topi (fun v12 => ?_)
            refine G_istore_n (L' := [(2, .int v12), (0, .ref 0), (1, .int p1), (3, .int x3)]) C dX9_sum_64 rfl (by decide) rfl ?_
            refine G_iinc (v := 1) (L' := [(3, .int (x3 + (1 : Int32))), (2, .int v12), (0, .ref 0), (1, .int p1)]) C 3 dX9_sum_65 rfl (by decide) (by decide) rfl ?_
            refine G_goto (tgt := 7) C dX9_sum_68 (by decide) ?_
            refine G_locals [2, 3, 1, 0] rfl ?_
            exact ih v12 (x3 + (1 : Int32)) u7
        · refine G_goto (tgt := 65) C dX9_sum_34 (by decide) ?_
          refine G_iinc (v := 1) (L' := [(3, .int (x3 + (1 : Int32))), (0, .ref 0), (1, .int p1), (2, .int x2)]) C 3 dX9_sum_65 rfl (by decide) (by decide) rfl ?_
          refine G_goto (tgt := 7) C dX9_sum_68 (by decide) ?_
          refine G_locals [1, 2, 3, 0] rfl ?_
          exact ih x2 (x3 + (1 : Int32)) u7
set_option maxRecDepth 20000 in
theorem go_X9_sum {p : Program} {l : Launch} {e : Env} {s : State} {m : MethodId} {args : Array Value} {below : List Frame} {meth : Method} {c : Code} {as : Nat → Nat} {dA : Nat → ClassId} {D : va_G} {d : Nat} {p1 : Int32} (C : zCx p s m args meth c as dA D SHM d 4 yX9_sum.cls cX9_sum ((some FieldType.int))) (hd : 5 ≤ d) : ∀ (u : zM), Go p l e s m args below meth c as dA D SHM d 4 zQi 0 [(0, .ref 0), (1, .int p1)] [] u (f_X9_sum p1 u) := by
  intro u
  unfold f_X9_sum
  refine G_iconst (v := 0) C dX9_sum_0 (by decide) ?_
  refine G_istore_n (L' := [(2, .int (0 : Int32)), (0, .ref 0), (1, .int p1)]) C dX9_sum_1 rfl (by decide) rfl ?_
  refine G_aload_n C 1 dX9_sum_2 rfl rfl ?_
  refine G_callVi C (m_X9_begin u (d - 1) (by omega)) (d' := d - 1) (As := []) (by omega) rfl wm9_320 wwX9_begin shM_0 rfl (Nat.le_of_ble_eq_true rfl) dX9_sum_3 (fun y1 u2 => ?_)
  refine G_istore_n (L' := [(3, .int y1), (2, .int (0 : Int32)), (0, .ref 0), (1, .int p1)]) C dX9_sum_6 rfl (by decide) rfl ?_
  refine G_locals [2, 3, 1, 0] rfl ?_
  exact go_X9_sum_L7 C hd 400 (0 : Int32) y1 u2
theorem m_X9_sum   (p1 : Int32) (u : zM) (d : Nat) (hd : 5 ≤ d) : zMet zQi SHM yX9_sum cX9_sum 4 ((some FieldType.int)) d [.ref 0, .int p1] u (f_X9_sum p1 u) :=
  zMet_of (by decide +kernel) (fun as => Nat.le_of_ble_eq_true rfl) wwX9_sum.2.2.2.1 (by omega) (fun p l e s m args below meth c as dA D C => go_X9_sum C hd u)
/-! private int rise(int) -/
def f_X9_rise_L41 (p1 : Int32) (x2 : Int32) (x3 : Int32) (s0 : Int32) (u : zM) : Option (Int32 × zM) :=
  zck (inB p1 6) <| zlx (gI u 1 p1.toNatClampNeg) fun v5 => (if v5 = (1 : Int32) then some (x3, u) else if v5 = (2 : Int32) then some (s0, u) else if v5 = (3 : Int32) then some ((x2 / (2 : Int32)), u) else if v5 = (4 : Int32) then zck (inB p1 6) <| some ((x3 + (gI u 2 p1.toNatClampNeg)), u) else if v5 = (5 : Int32) then zb (f_X9_beside p1 (50 : Int32) u) fun y12 u13 => some ((s0 + ((2 : Int32) * y12)), u13) else if v5 = (6 : Int32) then zck (inB (((4 : Int32) * p1) + (zrem (gI u 0 4) (4 : Int32))) 24) <| some (((x2 / (2 : Int32)) + (gI u 4 (((4 : Int32) * p1) + (zrem (gI u 0 4) (4 : Int32))).toNatClampNeg)), u) else some (x2, u))
def f_X9_rise_L24 (p1 : Int32) (x2 : Int32) (s0 : Int32) (u : zM) : Option (Int32 × zM) :=
  (if (zrem (gI u 0 4) (3 : Int32)) = (0 : Int32) then f_X9_rise_L41 p1 x2 s0 (x2 + (5 : Int32)) u else f_X9_rise_L41 p1 x2 s0 x2 u)
def f_X9_rise (p1 : Int32) (u : zM) : Option (Int32 × zM) :=
  zb (f_X9_sum p1 u) fun y1 u2 => zck (inB p1 6) <| (if (gI u2 3 p1.toNatClampNeg) < (50 : Int32) then f_X9_rise_L24 p1 y1 y1 u2 else f_X9_rise_L24 p1 y1 (y1 - (3 : Int32)) u2)
set_option maxRecDepth 20000 in
theorem go_X9_rise_L41 {p : Program} {l : Launch} {e : Env} {s : State} {m : MethodId} {args : Array Value} {below : List Frame} {meth : Method} {c : Code} {as : Nat → Nat} {dA : Nat → ClassId} {D : va_G} {d : Nat} {p1 : Int32} (C : zCx p s m args meth c as dA D SHM d 5 yX9_rise.cls cX9_rise ((some FieldType.int))) (hd : 6 ≤ d) : ∀ (x2 : Int32) (x3 : Int32) (s0 : Int32) (u : zM), Go p l e s m args below meth c as dA D SHM d 5 zQi 41 [(0, .ref 0), (1, .int p1), (2, .int x2), (3, .int x3)] [.int s0] u (f_X9_rise_L41 p1 x2 x3 s0 u) := by
  intro x2 x3 s0 u
  unfold f_X9_rise_L41
  refine G_istore (L' := [(4, .int s0), (0, .ref 0), (1, .int p1), (2, .int x2), (3, .int x3)]) C dX9_rise_41 (by decide) rfl ?_
  refine G_aload_n C 1 dX9_rise_43 rfl rfl ?_
  refine G_getR (j := 1) C 5 shM_0 rfl rfl (by decide) wf9_25 dX9_rise_44 ?_
  refine G_iload_n C 2 dX9_rise_47 rfl rfl ?_
  refine G_iald C shM_1 dX9_rise_48 (fun hb4 => ?_)
  refine G_topi (fun v5 => ?_)
  refine G_if (fun h6 => ?_) (fun h6 => ?_)
  · refine G_tsIn (v := 1) (off := 39) (tgt := 88) C dX9_rise_49 h6 (by decide) (by decide) rfl (by decide) ?_
    refine G_iload_n C 4 dX9_rise_88 rfl rfl ?_
    exact G_iret C dX9_rise_89
  · refine G_if (fun h7 => ?_) (fun h7 => ?_)
    · refine G_tsIn (v := 2) (off := 41) (tgt := 90) C dX9_rise_49 h7 (by decide) (by decide) rfl (by decide) ?_
      refine G_iload C 0 dX9_rise_90 rfl ?_
      exact G_iret C dX9_rise_92
    · refine G_if (fun h8 => ?_) (fun h8 => ?_)
      · refine G_tsIn (v := 3) (off := 44) (tgt := 93) C dX9_rise_49 h8 (by decide) (by decide) rfl (by decide) ?_
        refine G_iload_n C 3 dX9_rise_93 rfl rfl ?_
        refine G_iconst (v := 2) C dX9_rise_94 (by decide) ?_
        refine G_idiv C dX9_rise_95 (by decide) ?_
        exact G_iret C dX9_rise_96
      · refine G_if (fun h9 => ?_) (fun h9 => ?_)
        · refine G_tsIn (v := 4) (off := 48) (tgt := 97) C dX9_rise_49 h9 (by decide) (by decide) rfl (by decide) ?_
          refine G_iload_n C 4 dX9_rise_97 rfl rfl ?_
          refine G_aload_n C 1 dX9_rise_98 rfl rfl ?_
          refine G_getR (j := 2) C 6 shM_0 rfl rfl (by decide) wf9_29 dX9_rise_99 ?_
          refine G_iload_n C 2 dX9_rise_102 rfl rfl ?_
          refine G_iald C shM_2 dX9_rise_103 (fun hb10 => ?_)
          refine G_iadd C dX9_rise_104 ?_
          exact G_iret C dX9_rise_105
        · refine G_if (fun h11 => ?_) (fun h11 => ?_)
          · refine G_tsIn (v := 5) (off := 57) (tgt := 106) C dX9_rise_49 h11 (by decide) (by decide) rfl (by decide) ?_
            refine G_iload C 0 dX9_rise_106 rfl ?_
            refine G_iconst (v := 2) C dX9_rise_108 (by decide) ?_
            refine G_aload_n C 1 dX9_rise_109 rfl rfl ?_
            refine G_iload_n C 2 dX9_rise_110 rfl rfl ?_
            refine G_bipush (v := 50) C dX9_rise_111 (by decide) ?_
            refine G_callVi C (m_X9_beside p1 (50 : Int32) u (d - 1) (by omega)) (d' := d - 1) (As := [.int p1, .int (50 : Int32)]) (by omega) rfl wm9_326 wwX9_beside shM_0 rfl (Nat.le_of_ble_eq_true rfl) dX9_rise_113 (fun y12 u13 => ?_)
            refine G_imul C dX9_rise_116 ?_
            refine G_iadd C dX9_rise_117 ?_
            exact G_iret C dX9_rise_118
          · refine G_if (fun h14 => ?_) (fun h14 => ?_)
            · refine G_tsIn (v := 6) (off := 70) (tgt := 119) C dX9_rise_49 h14 (by decide) (by decide) rfl (by decide) ?_
              refine G_iload_n C 3 dX9_rise_119 rfl rfl ?_
              refine G_iconst (v := 2) C dX9_rise_120 (by decide) ?_
              refine G_idiv C dX9_rise_121 (by decide) ?_
              refine G_aload_n C 1 dX9_rise_122 rfl rfl ?_
              refine G_getR (j := 4) C 8 shM_0 rfl rfl (by decide) wf9_35 dX9_rise_123 ?_
              refine G_iconst (v := 4) C dX9_rise_126 (by decide) ?_
              refine G_iload_n C 2 dX9_rise_127 rfl rfl ?_
              refine G_imul C dX9_rise_128 ?_
              refine G_aload_n C 1 dX9_rise_129 rfl rfl ?_
              refine G_getI C 4 shM_0 rfl rfl (by decide) wf9_22 dX9_rise_130 ?_
              refine G_iconst (v := 4) C dX9_rise_133 (by decide) ?_
              refine G_irem C dX9_rise_134 (by decide) ?_
              refine G_iadd C dX9_rise_135 ?_
              refine G_iald C shM_4 dX9_rise_136 (fun hb15 => ?_)
              refine G_iadd C dX9_rise_137 ?_
              exact G_iret C dX9_rise_138
            · refine G_tsOut (tgt := 139) C dX9_rise_49 (by have e0 := lv_neT (a := 1) h6 rfl; have e1 := lv_neT (a := 2) h7 rfl; have e2 := lv_neT (a := 3) h8 rfl; have e3 := lv_neT (a := 4) h9 rfl; have e4 := lv_neT (a := 5) h11 rfl; have e5 := lv_neT (a := 6) h14 rfl; omega) (by decide) ?_
              refine G_iload_n C 3 dX9_rise_139 rfl rfl ?_
              exact G_iret C dX9_rise_140
set_option maxRecDepth 20000 in
theorem go_X9_rise_L24 {p : Program} {l : Launch} {e : Env} {s : State} {m : MethodId} {args : Array Value} {below : List Frame} {meth : Method} {c : Code} {as : Nat → Nat} {dA : Nat → ClassId} {D : va_G} {d : Nat} {p1 : Int32} (C : zCx p s m args meth c as dA D SHM d 5 yX9_rise.cls cX9_rise ((some FieldType.int))) (hd : 6 ≤ d) : ∀ (x2 : Int32) (s0 : Int32) (u : zM), Go p l e s m args below meth c as dA D SHM d 5 zQi 24 [(0, .ref 0), (1, .int p1), (2, .int x2)] [.int s0] u (f_X9_rise_L24 p1 x2 s0 u) := by
  intro x2 s0 u
  unfold f_X9_rise_L24
  refine G_istore_n (L' := [(3, .int s0), (0, .ref 0), (1, .int p1), (2, .int x2)]) C dX9_rise_24 rfl (by decide) rfl ?_
  refine G_aload_n C 1 dX9_rise_25 rfl rfl ?_
  refine G_getI C 4 shM_0 rfl rfl (by decide) wf9_22 dX9_rise_26 ?_
  refine G_iconst (v := 3) C dX9_rise_29 (by decide) ?_
  refine G_irem C dX9_rise_30 (by decide) ?_
  refine G_if_ne (tgt := 40) C dX9_rise_31 (by decide) (fun _ => ?_) (fun _ => ?_)
  · refine G_iload_n C 3 dX9_rise_40 rfl rfl ?_
    refine G_locals [1, 2, 3, 0] rfl ?_
    exact go_X9_rise_L41 C hd x2 s0 x2 u
  · refine G_iload_n C 3 dX9_rise_34 rfl rfl ?_
    refine G_iconst (v := 5) C dX9_rise_35 (by decide) ?_
    refine G_iadd C dX9_rise_36 ?_
    refine G_goto (tgt := 41) C dX9_rise_37 (by decide) ?_
    refine G_locals [1, 2, 3, 0] rfl ?_
    exact go_X9_rise_L41 C hd x2 s0 (x2 + (5 : Int32)) u
set_option maxRecDepth 20000 in
theorem go_X9_rise {p : Program} {l : Launch} {e : Env} {s : State} {m : MethodId} {args : Array Value} {below : List Frame} {meth : Method} {c : Code} {as : Nat → Nat} {dA : Nat → ClassId} {D : va_G} {d : Nat} {p1 : Int32} (C : zCx p s m args meth c as dA D SHM d 5 yX9_rise.cls cX9_rise ((some FieldType.int))) (hd : 6 ≤ d) : ∀ (u : zM), Go p l e s m args below meth c as dA D SHM d 5 zQi 0 [(0, .ref 0), (1, .int p1)] [] u (f_X9_rise p1 u) := by
  intro u
  unfold f_X9_rise
  refine G_aload_n C 0 dX9_rise_0 rfl rfl ?_
  refine G_iload_n C 1 dX9_rise_1 rfl rfl ?_
  refine G_callVi C (m_X9_sum p1 u (d - 1) (by omega)) (d' := d - 1) (As := [.int p1]) (by omega) rfl wm9_335 wwX9_sum shM_0 rfl (Nat.le_of_ble_eq_true rfl) dX9_rise_2 (fun y1 u2 => ?_)
  refine G_istore_n (L' := [(2, .int y1), (0, .ref 0), (1, .int p1)]) C dX9_rise_5 rfl (by decide) rfl ?_
  refine G_aload_n C 1 dX9_rise_6 rfl rfl ?_
  refine G_getR (j := 3) C 7 shM_0 rfl rfl (by decide) wf9_32 dX9_rise_7 ?_
  refine G_iload_n C 2 dX9_rise_10 rfl rfl ?_
  refine G_iald C shM_3 dX9_rise_11 (fun hb3 => ?_)
  refine G_bipush (v := 50) C dX9_rise_12 (by decide) ?_
  refine G_icmp_lt (tgt := 23) C dX9_rise_14 (by decide) (fun _ => ?_) (fun _ => ?_)
  · refine G_iload_n C 0 dX9_rise_23 rfl rfl ?_
    refine G_locals [1, 2, 0] rfl ?_
    exact go_X9_rise_L24 C hd y1 y1 u2
  · refine G_iload_n C 0 dX9_rise_17 rfl rfl ?_
    refine G_iconst (v := 3) C dX9_rise_18 (by decide) ?_
    refine G_isub C dX9_rise_19 ?_
    refine G_goto (tgt := 24) C dX9_rise_20 (by decide) ?_
    refine G_locals [1, 2, 0] rfl ?_
    exact go_X9_rise_L24 C hd y1 (y1 - (3 : Int32)) u2
theorem m_X9_rise   (p1 : Int32) (u : zM) (d : Nat) (hd : 6 ≤ d) : zMet zQi SHM yX9_rise cX9_rise 5 ((some FieldType.int)) d [.ref 0, .int p1] u (f_X9_rise p1 u) :=
  zMet_of (by decide +kernel) (fun as => Nat.le_of_ble_eq_true rfl) wwX9_rise.2.2.2.1 (by omega) (fun p l e s m args below meth c as dA D C => go_X9_rise C hd u)
/-! public int of(int, int) -/
def f_X9_of (p1 : Int32) (p2 : Int32) (u : zM) : Option (Int32 × zM) :=
  zb (f_X9_isOne p1 u) fun y1 u2 => (if y1 = (0 : Int32) then some ((-10001 : Int32), u2) else (if p2 = (0 : Int32) then zck (inB p1 6) <| some ((gI u2 1 p1.toNatClampNeg), u2) else if p2 = (1 : Int32) then zck (inB p1 6) <| some ((gI u2 2 p1.toNatClampNeg), u2) else if p2 = (2 : Int32) then zck (inB p1 6) <| some ((gI u2 3 p1.toNatClampNeg), u2) else if p2 = (3 : Int32) then zb (f_X9_has (gI u2 0 1) p1 u2) fun y10 u11 => (if y10 = (0 : Int32) then some ((0 : Int32), u11) else some ((1 : Int32), u11)) else if p2 = (4 : Int32) then zb (f_X9_rise p1 u2) fun y13 u14 => some (y13, u14) else if p2 = (5 : Int32) then zb (f_X9_beside p1 (50 : Int32) u2) fun y16 u17 => some (y16, u17) else some ((-10001 : Int32), u2)))
set_option maxRecDepth 20000 in
theorem go_X9_of {p : Program} {l : Launch} {e : Env} {s : State} {m : MethodId} {args : Array Value} {below : List Frame} {meth : Method} {c : Code} {as : Nat → Nat} {dA : Nat → ClassId} {D : va_G} {d : Nat} {p1 : Int32} {p2 : Int32} (C : zCx p s m args meth c as dA D SHM d 3 yX9_of.cls cX9_of ((some FieldType.int))) (hd : 7 ≤ d) : ∀ (u : zM), Go p l e s m args below meth c as dA D SHM d 3 zQi 0 [(0, .ref 0), (1, .int p1), (2, .int p2)] [] u (f_X9_of p1 p2 u) := by
  intro u
  unfold f_X9_of
  refine G_aload_n C 0 dX9_of_0 rfl rfl ?_
  refine G_iload_n C 1 dX9_of_1 rfl rfl ?_
  refine G_callVi C (m_X9_isOne p1 u (d - 1) (by omega)) (d' := d - 1) (As := [.int p1]) (by omega) rfl wm9_260 wwX9_isOne shM_0 rfl (Nat.le_of_ble_eq_true rfl) dX9_of_2 (fun y1 u2 => ?_)
  refine G_if_ne (tgt := 12) C dX9_of_5 (by decide) (fun _ => ?_) (fun _ => ?_)
  · refine G_iload_n C 2 dX9_of_12 rfl rfl ?_
    refine G_if (fun h3 => ?_) (fun h3 => ?_)
    · refine G_tsIn (v := 0) (off := 39) (tgt := 52) C dX9_of_13 h3 (by decide) (by decide) rfl (by decide) ?_
      refine G_aload_n C 0 dX9_of_52 rfl rfl ?_
      refine G_getR (j := 1) C 5 shM_0 rfl rfl (by decide) wf9_25 dX9_of_53 ?_
      refine G_iload_n C 1 dX9_of_56 rfl rfl ?_
      refine G_iald C shM_1 dX9_of_57 (fun hb4 => ?_)
      exact G_iret C dX9_of_58
    · refine G_if (fun h5 => ?_) (fun h5 => ?_)
      · refine G_tsIn (v := 1) (off := 46) (tgt := 59) C dX9_of_13 h5 (by decide) (by decide) rfl (by decide) ?_
        refine G_aload_n C 0 dX9_of_59 rfl rfl ?_
        refine G_getR (j := 2) C 6 shM_0 rfl rfl (by decide) wf9_29 dX9_of_60 ?_
        refine G_iload_n C 1 dX9_of_63 rfl rfl ?_
        refine G_iald C shM_2 dX9_of_64 (fun hb6 => ?_)
        exact G_iret C dX9_of_65
      · refine G_if (fun h7 => ?_) (fun h7 => ?_)
        · refine G_tsIn (v := 2) (off := 53) (tgt := 66) C dX9_of_13 h7 (by decide) (by decide) rfl (by decide) ?_
          refine G_aload_n C 0 dX9_of_66 rfl rfl ?_
          refine G_getR (j := 3) C 7 shM_0 rfl rfl (by decide) wf9_32 dX9_of_67 ?_
          refine G_iload_n C 1 dX9_of_70 rfl rfl ?_
          refine G_iald C shM_3 dX9_of_71 (fun hb8 => ?_)
          exact G_iret C dX9_of_72
        · refine G_if (fun h9 => ?_) (fun h9 => ?_)
          · refine G_tsIn (v := 3) (off := 60) (tgt := 73) C dX9_of_13 h9 (by decide) (by decide) rfl (by decide) ?_
            refine G_aload_n C 0 dX9_of_73 rfl rfl ?_
            refine G_aload_n C 0 dX9_of_74 rfl rfl ?_
            refine G_getI C 1 shM_0 rfl rfl (by decide) wf9_13 dX9_of_75 ?_
            refine G_iload_n C 1 dX9_of_78 rfl rfl ?_
            refine G_callVi C (m_X9_has (gI u2 0 1) p1 u2 (d - 1) (by omega)) (d' := d - 1) (As := [.int (gI u2 0 1), .int p1]) (by omega) rfl wm9_263 wwX9_has shM_0 rfl (Nat.le_of_ble_eq_true rfl) dX9_of_79 (fun y10 u11 => ?_)
            refine G_if_eq (tgt := 89) C dX9_of_82 (by decide) (fun _ => ?_) (fun _ => ?_)
            · refine G_iconst (v := 0) C dX9_of_89 (by decide) ?_
              exact G_iret C dX9_of_90
            · refine G_iconst (v := 1) C dX9_of_85 (by decide) ?_
              refine G_goto (tgt := 90) C dX9_of_86 (by decide) ?_
              exact G_iret C dX9_of_90
          · refine G_if (fun h12 => ?_) (fun h12 => ?_)
            · refine G_tsIn (v := 4) (off := 78) (tgt := 91) C dX9_of_13 h12 (by decide) (by decide) rfl (by decide) ?_
              refine G_aload_n C 0 dX9_of_91 rfl rfl ?_
              refine G_iload_n C 1 dX9_of_92 rfl rfl ?_
              refine G_callVi C (m_X9_rise p1 u2 (d - 1) (by omega)) (d' := d - 1) (As := [.int p1]) (by omega) rfl wm9_338 wwX9_rise shM_0 rfl (Nat.le_of_ble_eq_true rfl) dX9_of_93 (fun y13 u14 => ?_)
              exact G_iret C dX9_of_96
            · refine G_if (fun h15 => ?_) (fun h15 => ?_)
              · refine G_tsIn (v := 5) (off := 84) (tgt := 97) C dX9_of_13 h15 (by decide) (by decide) rfl (by decide) ?_
                refine G_aload_n C 0 dX9_of_97 rfl rfl ?_
                refine G_iload_n C 1 dX9_of_98 rfl rfl ?_
                refine G_bipush (v := 50) C dX9_of_99 (by decide) ?_
                refine G_callVi C (m_X9_beside p1 (50 : Int32) u2 (d - 1) (by omega)) (d' := d - 1) (As := [.int p1, .int (50 : Int32)]) (by omega) rfl wm9_326 wwX9_beside shM_0 rfl (Nat.le_of_ble_eq_true rfl) dX9_of_101 (fun y16 u17 => ?_)
                exact G_iret C dX9_of_104
              · refine G_tsOut (tgt := 105) C dX9_of_13 (by have e0 := lv_neT (a := 0) h3 rfl; have e1 := lv_neT (a := 1) h5 rfl; have e2 := lv_neT (a := 2) h7 rfl; have e3 := lv_neT (a := 3) h9 rfl; have e4 := lv_neT (a := 4) h12 rfl; have e5 := lv_neT (a := 5) h15 rfl; omega) (by decide) ?_
                refine G_sipush (v := -10001) C dX9_of_105 (by decide) ?_
                exact G_iret C dX9_of_108
  · refine G_sipush (v := -10001) C dX9_of_8 (by decide) ?_
    exact G_iret C dX9_of_11
theorem m_X9_of   (p1 : Int32) (p2 : Int32) (u : zM) (d : Nat) (hd : 7 ≤ d) : zMet zQi SHM yX9_of cX9_of 3 ((some FieldType.int)) d [.ref 0, .int p1, .int p2] u (f_X9_of p1 p2 u) :=
  zMet_of (by decide +kernel) (fun as => Nat.le_of_ble_eq_true rfl) wwX9_of.2.2.2.1 (by omega) (fun p l e s m args below meth c as dA D C => go_X9_of C hd u)
/-! private int hottest() -/
def f_X9_hottest_L5_b  (rc : Int32 → Int32 → zM → Option (Int32 × zM)) (x1 : Int32) (x2 : Int32) (u : zM) : Option (Int32 × zM) :=
  (if (gI u 0 0) ≤ x2 then some (x1, u) else zb (f_X9_has (gI u 0 1) x2 u) fun y1 u2 => (if y1 = (0 : Int32) then (if x1 < (0 : Int32) then rc x2 (x2 + (1 : Int32)) u2 else zck (inB x2 6) <| zck (inB x1 6) <| (if (gI u2 3 x2.toNatClampNeg) ≤ (gI u2 3 x1.toNatClampNeg) then rc x1 (x2 + (1 : Int32)) u2 else rc x2 (x2 + (1 : Int32)) u2)) else rc x1 (x2 + (1 : Int32)) u2))
def f_X9_hottest_L5  : Nat → Int32 → Int32 → zM → Option (Int32 × zM)
  | 0 => fun _ _ _ => none
  | fn + 1 => f_X9_hottest_L5_b  (f_X9_hottest_L5  fn)
def f_X9_hottest (u : zM) : Option (Int32 × zM) :=
  f_X9_hottest_L5 400 (-5 : Int32) (0 : Int32) u
set_option maxRecDepth 20000 in
theorem go_X9_hottest_L5 {p : Program} {l : Launch} {e : Env} {s : State} {m : MethodId} {args : Array Value} {below : List Frame} {meth : Method} {c : Code} {as : Nat → Nat} {dA : Nat → ClassId} {D : va_G} {d : Nat}  (C : zCx p s m args meth c as dA D SHM d 3 yX9_hottest.cls cX9_hottest ((some FieldType.int))) (hd : 2 ≤ d) : ∀ (fn : Nat) (x1 : Int32) (x2 : Int32) (u : zM), Go p l e s m args below meth c as dA D SHM d 3 zQi 5 [(0, .ref 0), (1, .int x1), (2, .int x2)] [] u (f_X9_hottest_L5 fn x1 x2 u) := by
  intro fn
  induction fn with
  | zero => intro x1 x2 u; exact G_none
  | succ fn ih =>
    intro x1 x2 u
    show Go p l e s m args below meth c as dA D SHM d 3 zQi 5 [(0, .ref 0), (1, .int x1), (2, .int x2)] [] u (f_X9_hottest_L5_b  (f_X9_hottest_L5  fn) x1 x2 u)
    unfold f_X9_hottest_L5_b
    refine G_iload_n C 2 dX9_hottest_5 rfl rfl ?_
    refine G_aload_n C 0 dX9_hottest_6 rfl rfl ?_
    refine G_getI C 0 shM_0 rfl rfl (by decide) wf9_7 dX9_hottest_7 ?_
    refine G_icmp_ge (tgt := 52) C dX9_hottest_10 (by decide) (fun _ => ?_) (fun _ => ?_)
    · refine G_iload_n C 1 dX9_hottest_52 rfl rfl ?_
      exact G_iret C dX9_hottest_53
    · refine G_aload_n C 0 dX9_hottest_13 rfl rfl ?_
      refine G_aload_n C 0 dX9_hottest_14 rfl rfl ?_
      refine G_getI C 1 shM_0 rfl rfl (by decide) wf9_13 dX9_hottest_15 ?_
      refine G_iload_n C 2 dX9_hottest_18 rfl rfl ?_
      refine G_callVi C (m_X9_has (gI u 0 1) x2 u (d - 1) (by omega)) (d' := d - 1) (As := [.int (gI u 0 1), .int x2]) (by omega) rfl wm9_263 wwX9_has shM_0 rfl (Nat.le_of_ble_eq_true rfl) dX9_hottest_19 (fun y1 u2 => ?_)
      refine G_if_ne (tgt := 46) C dX9_hottest_22 (by decide) (fun _ => ?_) (fun _ => ?_)
      · refine G_iinc (v := 1) (L' := [(2, .int (x2 + (1 : Int32))), (0, .ref 0), (1, .int x1)]) C 2 dX9_hottest_46 rfl (by decide) (by decide) rfl ?_
        refine G_goto (tgt := 5) C dX9_hottest_49 (by decide) ?_
        refine G_locals [1, 2, 0] rfl ?_
        exact ih x1 (x2 + (1 : Int32)) u2
      · refine G_iload_n C 1 dX9_hottest_25 rfl rfl ?_
        refine G_if_lt (tgt := 44) C dX9_hottest_26 (by decide) (fun _ => ?_) (fun _ => ?_)
        · refine G_iload_n C 2 dX9_hottest_44 rfl rfl ?_
          refine G_istore_n (L' := [(1, .int x2), (0, .ref 0), (2, .int x2)]) C dX9_hottest_45 rfl (by decide) rfl ?_
          refine G_iinc (v := 1) (L' := [(2, .int (x2 + (1 : Int32))), (1, .int x2), (0, .ref 0)]) C 2 dX9_hottest_46 rfl (by decide) (by decide) rfl ?_
          refine G_goto (tgt := 5) C dX9_hottest_49 (by decide) ?_
          refine G_locals [2, 1, 0] rfl ?_
          exact ih x2 (x2 + (1 : Int32)) u2
        · refine G_aload_n C 0 dX9_hottest_29 rfl rfl ?_
          refine G_getR (j := 3) C 7 shM_0 rfl rfl (by decide) wf9_32 dX9_hottest_30 ?_
          refine G_iload_n C 2 dX9_hottest_33 rfl rfl ?_
          refine G_iald C shM_3 dX9_hottest_34 (fun hb3 => ?_)
          refine G_aload_n C 0 dX9_hottest_35 rfl rfl ?_
          refine G_getR (j := 3) C 7 shM_0 rfl rfl (by decide) wf9_32 dX9_hottest_36 ?_
          refine G_iload_n C 1 dX9_hottest_39 rfl rfl ?_
          refine G_iald C shM_3 dX9_hottest_40 (fun hb4 => ?_)
          refine G_icmp_le (tgt := 46) C dX9_hottest_41 (by decide) (fun _ => ?_) (fun _ => ?_)
          · refine G_iinc (v := 1) (L' := [(2, .int (x2 + (1 : Int32))), (0, .ref 0), (1, .int x1)]) C 2 dX9_hottest_46 rfl (by decide) (by decide) rfl ?_
            refine G_goto (tgt := 5) C dX9_hottest_49 (by decide) ?_
            refine G_locals [1, 2, 0] rfl ?_
            exact ih x1 (x2 + (1 : Int32)) u2
          · refine G_iload_n C 2 dX9_hottest_44 rfl rfl ?_
            refine G_istore_n (L' := [(1, .int x2), (0, .ref 0), (2, .int x2)]) C dX9_hottest_45 rfl (by decide) rfl ?_
            refine G_iinc (v := 1) (L' := [(2, .int (x2 + (1 : Int32))), (1, .int x2), (0, .ref 0)]) C 2 dX9_hottest_46 rfl (by decide) (by decide) rfl ?_
            refine G_goto (tgt := 5) C dX9_hottest_49 (by decide) ?_
            refine G_locals [2, 1, 0] rfl ?_
            exact ih x2 (x2 + (1 : Int32)) u2
set_option maxRecDepth 20000 in
theorem go_X9_hottest {p : Program} {l : Launch} {e : Env} {s : State} {m : MethodId} {args : Array Value} {below : List Frame} {meth : Method} {c : Code} {as : Nat → Nat} {dA : Nat → ClassId} {D : va_G} {d : Nat}  (C : zCx p s m args meth c as dA D SHM d 3 yX9_hottest.cls cX9_hottest ((some FieldType.int))) (hd : 2 ≤ d) : ∀ (u : zM), Go p l e s m args below meth c as dA D SHM d 3 zQi 0 [(0, .ref 0)] [] u (f_X9_hottest  u) := by
  intro u
  unfold f_X9_hottest
  refine G_bipush (v := -5) C dX9_hottest_0 (by decide) ?_
  refine G_istore_n (L' := [(1, .int (-5 : Int32)), (0, .ref 0)]) C dX9_hottest_2 rfl (by decide) rfl ?_
  refine G_iconst (v := 0) C dX9_hottest_3 (by decide) ?_
  refine G_istore_n (L' := [(2, .int (0 : Int32)), (1, .int (-5 : Int32)), (0, .ref 0)]) C dX9_hottest_4 rfl (by decide) rfl ?_
  refine G_locals [2, 1, 0] rfl ?_
  exact go_X9_hottest_L5 C hd 400 (-5 : Int32) (0 : Int32) u
theorem m_X9_hottest    (u : zM) (d : Nat) (hd : 2 ≤ d) : zMet zQi SHM yX9_hottest cX9_hottest 3 ((some FieldType.int)) d [.ref 0] u (f_X9_hottest  u) :=
  zMet_of (by decide +kernel) (fun as => Nat.le_of_ble_eq_true rfl) wwX9_hottest.2.2.2.1 (by omega) (fun p l e s m args below meth c as dA D C => go_X9_hottest C hd u)
/-! private boolean isDone(int) -/
def f_X9_isDone (p1 : Int32) (u : zM) : Option (Int32 × zM) :=
  zck (inB p1 4) <| zck (inB p1 4) <| (if (gI u 7 p1.toNatClampNeg) < (gI u 5 p1.toNatClampNeg) then some ((0 : Int32), u) else some ((1 : Int32), u))
set_option maxRecDepth 20000 in
theorem go_X9_isDone {p : Program} {l : Launch} {e : Env} {s : State} {m : MethodId} {args : Array Value} {below : List Frame} {meth : Method} {c : Code} {as : Nat → Nat} {dA : Nat → ClassId} {D : va_G} {d : Nat} {p1 : Int32} (C : zCx p s m args meth c as dA D SHM d 2 yX9_isDone.cls cX9_isDone ((some FieldType.boolean))) (hd : 1 ≤ d) : ∀ (u : zM), Go p l e s m args below meth c as dA D SHM d 2 zQi 0 [(0, .ref 0), (1, .int p1)] [] u (f_X9_isDone p1 u) := by
  intro u
  unfold f_X9_isDone
  refine G_aload_n C 0 dX9_isDone_0 rfl rfl ?_
  refine G_getR (j := 7) C 11 shM_0 rfl rfl (by decide) wf9_44 dX9_isDone_1 ?_
  refine G_iload_n C 1 dX9_isDone_4 rfl rfl ?_
  refine G_iald C shM_7 dX9_isDone_5 (fun hb1 => ?_)
  refine G_aload_n C 0 dX9_isDone_6 rfl rfl ?_
  refine G_getR (j := 5) C 9 shM_0 rfl rfl (by decide) wf9_38 dX9_isDone_7 ?_
  refine G_iload_n C 1 dX9_isDone_10 rfl rfl ?_
  refine G_iald C shM_5 dX9_isDone_11 (fun hb2 => ?_)
  refine G_icmp_lt (tgt := 19) C dX9_isDone_12 (by decide) (fun _ => ?_) (fun _ => ?_)
  · refine G_iconst (v := 0) C dX9_isDone_19 (by decide) ?_
    exact G_zret C rfl dX9_isDone_20
  · refine G_iconst (v := 1) C dX9_isDone_15 (by decide) ?_
    refine G_goto (tgt := 20) C dX9_isDone_16 (by decide) ?_
    exact G_zret C rfl dX9_isDone_20
theorem m_X9_isDone   (p1 : Int32) (u : zM) (d : Nat) (hd : 1 ≤ d) : zMet zQi SHM yX9_isDone cX9_isDone 2 ((some FieldType.boolean)) d [.ref 0, .int p1] u (f_X9_isDone p1 u) :=
  zMet_of (by decide +kernel) (fun as => Nat.le_of_ble_eq_true rfl) wwX9_isDone.2.2.2.1 (by omega) (fun p l e s m args below meth c as dA D C => go_X9_isDone C hd u)
/-! private int doneSet() -/
def f_X9_doneSet_L4_b  (rc : Int32 → Int32 → zM → Option (Int32 × zM)) (x1 : Int32) (x2 : Int32) (u : zM) : Option (Int32 × zM) :=
  (if (gI u 0 2) ≤ x2 then some (x1, u) else zb (f_X9_isDone x2 u) fun y1 u2 => (if y1 = (0 : Int32) then zlx (x1 ||| (0 : Int32)) fun v3 => rc v3 (x2 + (1 : Int32)) u2 else zlx (x1 ||| ((1 : Int32) <<< (x2 &&& 31))) fun v4 => rc v4 (x2 + (1 : Int32)) u2))
def f_X9_doneSet_L4  : Nat → Int32 → Int32 → zM → Option (Int32 × zM)
  | 0 => fun _ _ _ => none
  | fn + 1 => f_X9_doneSet_L4_b  (f_X9_doneSet_L4  fn)
def f_X9_doneSet (u : zM) : Option (Int32 × zM) :=
  f_X9_doneSet_L4 400 (0 : Int32) (0 : Int32) u
set_option maxRecDepth 20000 in
theorem go_X9_doneSet_L4 {p : Program} {l : Launch} {e : Env} {s : State} {m : MethodId} {args : Array Value} {below : List Frame} {meth : Method} {c : Code} {as : Nat → Nat} {dA : Nat → ClassId} {D : va_G} {d : Nat}  (C : zCx p s m args meth c as dA D SHM d 3 yX9_doneSet.cls cX9_doneSet ((some FieldType.int))) (hd : 2 ≤ d) : ∀ (fn : Nat) (x1 : Int32) (x2 : Int32) (u : zM), Go p l e s m args below meth c as dA D SHM d 3 zQi 4 [(0, .ref 0), (1, .int x1), (2, .int x2)] [] u (f_X9_doneSet_L4 fn x1 x2 u) := by
  intro fn
  induction fn with
  | zero => intro x1 x2 u; exact G_none
  | succ fn ih =>
    intro x1 x2 u
    show Go p l e s m args below meth c as dA D SHM d 3 zQi 4 [(0, .ref 0), (1, .int x1), (2, .int x2)] [] u (f_X9_doneSet_L4_b  (f_X9_doneSet_L4  fn) x1 x2 u)
    unfold f_X9_doneSet_L4_b
    refine G_iload_n C 2 dX9_doneSet_4 rfl rfl ?_
    refine G_aload_n C 0 dX9_doneSet_5 rfl rfl ?_
    refine G_getI C 2 shM_0 rfl rfl (by decide) wf9_16 dX9_doneSet_6 ?_
    refine G_icmp_ge (tgt := 36) C dX9_doneSet_9 (by decide) (fun _ => ?_) (fun _ => ?_)
    · refine G_iload_n C 1 dX9_doneSet_36 rfl rfl ?_
      exact G_iret C dX9_doneSet_37
    · refine G_iload_n C 1 dX9_doneSet_12 rfl rfl ?_
      refine G_aload_n C 0 dX9_doneSet_13 rfl rfl ?_
      refine G_iload_n C 2 dX9_doneSet_14 rfl rfl ?_
      refine G_callVi C (m_X9_isDone x2 u (d - 1) (by omega)) (d' := d - 1) (As := [.int x2]) (by omega) rfl wm9_341 wwX9_isDone shM_0 rfl (Nat.le_of_ble_eq_true rfl) dX9_doneSet_15 (fun y1 u2 => ?_)
      refine G_if_eq (tgt := 27) C dX9_doneSet_18 (by decide) (fun _ => ?_) (fun _ => ?_)
      · refine G_iconst (v := 0) C dX9_doneSet_27 (by decide) ?_
        refine G_ior C dX9_doneSet_28 ?_
        refine G_topi (fun v3 => ?_)
        refine G_istore_n (L' := [(1, .int v3), (0, .ref 0), (2, .int x2)]) C dX9_doneSet_29 rfl (by decide) rfl ?_
        refine G_iinc (v := 1) (L' := [(2, .int (x2 + (1 : Int32))), (1, .int v3), (0, .ref 0)]) C 2 dX9_doneSet_30 rfl (by decide) (by decide) rfl ?_
        refine G_goto (tgt := 4) C dX9_doneSet_33 (by decide) ?_
        refine G_locals [2, 1, 0] rfl ?_
        exact ih v3 (x2 + (1 : Int32)) u2
      · refine G_iconst (v := 1) C dX9_doneSet_21 (by decide) ?_
        refine G_iload_n C 2 dX9_doneSet_22 rfl rfl ?_
        refine G_ishl C dX9_doneSet_23 ?_
        refine G_goto (tgt := 28) C dX9_doneSet_24 (by decide) ?_
        refine G_ior C dX9_doneSet_28 ?_
        refine G_topi (fun v4 => ?_)
        refine G_istore_n (L' := [(1, .int v4), (0, .ref 0), (2, .int x2)]) C dX9_doneSet_29 rfl (by decide) rfl ?_
        refine G_iinc (v := 1) (L' := [(2, .int (x2 + (1 : Int32))), (1, .int v4), (0, .ref 0)]) C 2 dX9_doneSet_30 rfl (by decide) (by decide) rfl ?_
        refine G_goto (tgt := 4) C dX9_doneSet_33 (by decide) ?_
        refine G_locals [2, 1, 0] rfl ?_
        exact ih v4 (x2 + (1 : Int32)) u2
set_option maxRecDepth 20000 in
theorem go_X9_doneSet {p : Program} {l : Launch} {e : Env} {s : State} {m : MethodId} {args : Array Value} {below : List Frame} {meth : Method} {c : Code} {as : Nat → Nat} {dA : Nat → ClassId} {D : va_G} {d : Nat}  (C : zCx p s m args meth c as dA D SHM d 3 yX9_doneSet.cls cX9_doneSet ((some FieldType.int))) (hd : 2 ≤ d) : ∀ (u : zM), Go p l e s m args below meth c as dA D SHM d 3 zQi 0 [(0, .ref 0)] [] u (f_X9_doneSet  u) := by
  intro u
  unfold f_X9_doneSet
  refine G_iconst (v := 0) C dX9_doneSet_0 (by decide) ?_
  refine G_istore_n (L' := [(1, .int (0 : Int32)), (0, .ref 0)]) C dX9_doneSet_1 rfl (by decide) rfl ?_
  refine G_iconst (v := 0) C dX9_doneSet_2 (by decide) ?_
  refine G_istore_n (L' := [(2, .int (0 : Int32)), (1, .int (0 : Int32)), (0, .ref 0)]) C dX9_doneSet_3 rfl (by decide) rfl ?_
  refine G_locals [2, 1, 0] rfl ?_
  exact go_X9_doneSet_L4 C hd 400 (0 : Int32) (0 : Int32) u
theorem m_X9_doneSet    (u : zM) (d : Nat) (hd : 2 ≤ d) : zMet zQi SHM yX9_doneSet cX9_doneSet 3 ((some FieldType.int)) d [.ref 0] u (f_X9_doneSet  u) :=
  zMet_of (by decide +kernel) (fun as => Nat.le_of_ble_eq_true rfl) wwX9_doneSet.2.2.2.1 (by omega) (fun p l e s m args below meth c as dA D C => go_X9_doneSet C hd u)
/-! private int allHeat() -/
def f_X9_allHeat_L4_b  (rc : Int32 → Int32 → zM → Option (Int32 × zM)) (x1 : Int32) (x2 : Int32) (u : zM) : Option (Int32 × zM) :=
  (if (gI u 0 0) ≤ x2 then some (x1, u) else zck (inB x2 6) <| zlx (x1 + (gI u 3 x2.toNatClampNeg)) fun v2 => rc v2 (x2 + (1 : Int32)) u)
def f_X9_allHeat_L4  : Nat → Int32 → Int32 → zM → Option (Int32 × zM)
  | 0 => fun _ _ _ => none
  | fn + 1 => f_X9_allHeat_L4_b  (f_X9_allHeat_L4  fn)
def f_X9_allHeat (u : zM) : Option (Int32 × zM) :=
  f_X9_allHeat_L4 400 (0 : Int32) (0 : Int32) u
set_option maxRecDepth 20000 in
theorem go_X9_allHeat_L4 {p : Program} {l : Launch} {e : Env} {s : State} {m : MethodId} {args : Array Value} {below : List Frame} {meth : Method} {c : Code} {as : Nat → Nat} {dA : Nat → ClassId} {D : va_G} {d : Nat}  (C : zCx p s m args meth c as dA D SHM d 3 yX9_allHeat.cls cX9_allHeat ((some FieldType.int))) (hd : 1 ≤ d) : ∀ (fn : Nat) (x1 : Int32) (x2 : Int32) (u : zM), Go p l e s m args below meth c as dA D SHM d 3 zQi 4 [(0, .ref 0), (1, .int x1), (2, .int x2)] [] u (f_X9_allHeat_L4 fn x1 x2 u) := by
  intro fn
  induction fn with
  | zero => intro x1 x2 u; exact G_none
  | succ fn ih =>
    intro x1 x2 u
    show Go p l e s m args below meth c as dA D SHM d 3 zQi 4 [(0, .ref 0), (1, .int x1), (2, .int x2)] [] u (f_X9_allHeat_L4_b  (f_X9_allHeat_L4  fn) x1 x2 u)
    unfold f_X9_allHeat_L4_b
    refine G_iload_n C 2 dX9_allHeat_4 rfl rfl ?_
    refine G_aload_n C 0 dX9_allHeat_5 rfl rfl ?_
    refine G_getI C 0 shM_0 rfl rfl (by decide) wf9_7 dX9_allHeat_6 ?_
    refine G_icmp_ge (tgt := 27) C dX9_allHeat_9 (by decide) (fun _ => ?_) (fun _ => ?_)
    · refine G_iload_n C 1 dX9_allHeat_27 rfl rfl ?_
      exact G_iret C dX9_allHeat_28
    · refine G_iload_n C 1 dX9_allHeat_12 rfl rfl ?_
      refine G_aload_n C 0 dX9_allHeat_13 rfl rfl ?_
      refine G_getR (j := 3) C 7 shM_0 rfl rfl (by decide) wf9_32 dX9_allHeat_14 ?_
      refine G_iload_n C 2 dX9_allHeat_17 rfl rfl ?_
      refine G_iald C shM_3 dX9_allHeat_18 (fun hb1 => ?_)
      refine G_iadd C dX9_allHeat_19 ?_
      refine G_topi (fun v2 => ?_)
      refine G_istore_n (L' := [(1, .int v2), (0, .ref 0), (2, .int x2)]) C dX9_allHeat_20 rfl (by decide) rfl ?_
      refine G_iinc (v := 1) (L' := [(2, .int (x2 + (1 : Int32))), (1, .int v2), (0, .ref 0)]) C 2 dX9_allHeat_21 rfl (by decide) (by decide) rfl ?_
      refine G_goto (tgt := 4) C dX9_allHeat_24 (by decide) ?_
      refine G_locals [2, 1, 0] rfl ?_
      exact ih v2 (x2 + (1 : Int32)) u
set_option maxRecDepth 20000 in
theorem go_X9_allHeat {p : Program} {l : Launch} {e : Env} {s : State} {m : MethodId} {args : Array Value} {below : List Frame} {meth : Method} {c : Code} {as : Nat → Nat} {dA : Nat → ClassId} {D : va_G} {d : Nat}  (C : zCx p s m args meth c as dA D SHM d 3 yX9_allHeat.cls cX9_allHeat ((some FieldType.int))) (hd : 1 ≤ d) : ∀ (u : zM), Go p l e s m args below meth c as dA D SHM d 3 zQi 0 [(0, .ref 0)] [] u (f_X9_allHeat  u) := by
  intro u
  unfold f_X9_allHeat
  refine G_iconst (v := 0) C dX9_allHeat_0 (by decide) ?_
  refine G_istore_n (L' := [(1, .int (0 : Int32)), (0, .ref 0)]) C dX9_allHeat_1 rfl (by decide) rfl ?_
  refine G_iconst (v := 0) C dX9_allHeat_2 (by decide) ?_
  refine G_istore_n (L' := [(2, .int (0 : Int32)), (1, .int (0 : Int32)), (0, .ref 0)]) C dX9_allHeat_3 rfl (by decide) rfl ?_
  refine G_locals [2, 1, 0] rfl ?_
  exact go_X9_allHeat_L4 C hd 400 (0 : Int32) (0 : Int32) u
theorem m_X9_allHeat    (u : zM) (d : Nat) (hd : 1 ≤ d) : zMet zQi SHM yX9_allHeat cX9_allHeat 3 ((some FieldType.int)) d [.ref 0] u (f_X9_allHeat  u) :=
  zMet_of (by decide +kernel) (fun as => Nat.le_of_ble_eq_true rfl) wwX9_allHeat.2.2.2.1 (by omega) (fun p l e s m args below meth c as dA D C => go_X9_allHeat C hd u)
/-! public int told(int) -/
def f_X9_told (p1 : Int32) (u : zM) : Option (Int32 × zM) :=
  (if p1 = (0 : Int32) then some ((gI u 0 4), u) else if p1 = (1 : Int32) then zb (f_X9_spark u) fun y3 u4 => some (y3, u4) else if p1 = (2 : Int32) then some ((gI u 0 3), u) else if p1 = (3 : Int32) then zb (f_X9_doneSet u) fun y7 u8 => some (y7, u8) else if p1 = (4 : Int32) then zb (f_X9_hottest u) fun y10 u11 => some (y10, u11) else if p1 = (5 : Int32) then zb (f_X9_allHeat u) fun y13 u14 => some (y13, u14) else some ((-1 : Int32), u))
set_option maxRecDepth 20000 in
theorem go_X9_told {p : Program} {l : Launch} {e : Env} {s : State} {m : MethodId} {args : Array Value} {below : List Frame} {meth : Method} {c : Code} {as : Nat → Nat} {dA : Nat → ClassId} {D : va_G} {d : Nat} {p1 : Int32} (C : zCx p s m args meth c as dA D SHM d 2 yX9_told.cls cX9_told ((some FieldType.int))) (hd : 3 ≤ d) : ∀ (u : zM), Go p l e s m args below meth c as dA D SHM d 2 zQi 0 [(0, .ref 0), (1, .int p1)] [] u (f_X9_told p1 u) := by
  intro u
  unfold f_X9_told
  refine G_iload_n C 1 dX9_told_0 rfl rfl ?_
  refine G_if (fun h1 => ?_) (fun h1 => ?_)
  · refine G_tsIn (v := 0) (off := 39) (tgt := 40) C dX9_told_1 h1 (by decide) (by decide) rfl (by decide) ?_
    refine G_aload_n C 0 dX9_told_40 rfl rfl ?_
    refine G_getI C 4 shM_0 rfl rfl (by decide) wf9_22 dX9_told_41 ?_
    exact G_iret C dX9_told_44
  · refine G_if (fun h2 => ?_) (fun h2 => ?_)
    · refine G_tsIn (v := 1) (off := 44) (tgt := 45) C dX9_told_1 h2 (by decide) (by decide) rfl (by decide) ?_
      refine G_aload_n C 0 dX9_told_45 rfl rfl ?_
      refine G_callVi C (m_X9_spark u (d - 1) (by omega)) (d' := d - 1) (As := []) (by omega) rfl wm9_344 wwX9_spark shM_0 rfl (Nat.le_of_ble_eq_true rfl) dX9_told_46 (fun y3 u4 => ?_)
      exact G_iret C dX9_told_49
    · refine G_if (fun h5 => ?_) (fun h5 => ?_)
      · refine G_tsIn (v := 2) (off := 49) (tgt := 50) C dX9_told_1 h5 (by decide) (by decide) rfl (by decide) ?_
        refine G_aload_n C 0 dX9_told_50 rfl rfl ?_
        refine G_getI C 3 shM_0 rfl rfl (by decide) wf9_19 dX9_told_51 ?_
        exact G_iret C dX9_told_54
      · refine G_if (fun h6 => ?_) (fun h6 => ?_)
        · refine G_tsIn (v := 3) (off := 54) (tgt := 55) C dX9_told_1 h6 (by decide) (by decide) rfl (by decide) ?_
          refine G_aload_n C 0 dX9_told_55 rfl rfl ?_
          refine G_callVi C (m_X9_doneSet u (d - 1) (by omega)) (d' := d - 1) (As := []) (by omega) rfl wm9_347 wwX9_doneSet shM_0 rfl (Nat.le_of_ble_eq_true rfl) dX9_told_56 (fun y7 u8 => ?_)
          exact G_iret C dX9_told_59
        · refine G_if (fun h9 => ?_) (fun h9 => ?_)
          · refine G_tsIn (v := 4) (off := 59) (tgt := 60) C dX9_told_1 h9 (by decide) (by decide) rfl (by decide) ?_
            refine G_aload_n C 0 dX9_told_60 rfl rfl ?_
            refine G_callVi C (m_X9_hottest u (d - 1) (by omega)) (d' := d - 1) (As := []) (by omega) rfl wm9_350 wwX9_hottest shM_0 rfl (Nat.le_of_ble_eq_true rfl) dX9_told_61 (fun y10 u11 => ?_)
            exact G_iret C dX9_told_64
          · refine G_if (fun h12 => ?_) (fun h12 => ?_)
            · refine G_tsIn (v := 5) (off := 64) (tgt := 65) C dX9_told_1 h12 (by decide) (by decide) rfl (by decide) ?_
              refine G_aload_n C 0 dX9_told_65 rfl rfl ?_
              refine G_callVi C (m_X9_allHeat u (d - 1) (by omega)) (d' := d - 1) (As := []) (by omega) rfl wm9_353 wwX9_allHeat shM_0 rfl (Nat.le_of_ble_eq_true rfl) dX9_told_66 (fun y13 u14 => ?_)
              exact G_iret C dX9_told_69
            · refine G_tsOut (tgt := 70) C dX9_told_1 (by have e0 := lv_neT (a := 0) h1 rfl; have e1 := lv_neT (a := 1) h2 rfl; have e2 := lv_neT (a := 2) h5 rfl; have e3 := lv_neT (a := 3) h6 rfl; have e4 := lv_neT (a := 4) h9 rfl; have e5 := lv_neT (a := 5) h12 rfl; omega) (by decide) ?_
              refine G_iconst (v := -1) C dX9_told_70 (by decide) ?_
              exact G_iret C dX9_told_71
theorem m_X9_told   (p1 : Int32) (u : zM) (d : Nat) (hd : 3 ≤ d) : zMet zQi SHM yX9_told cX9_told 2 ((some FieldType.int)) d [.ref 0, .int p1] u (f_X9_told p1 u) :=
  zMet_of (by decide +kernel) (fun as => Nat.le_of_ble_eq_true rfl) wwX9_told.2.2.2.1 (by omega) (fun p l e s m args below meth c as dA D C => go_X9_told C hd u)
/-! private void goMinute() -/
def f_X9_goMinute_L147_b  (rc : Int32 → zM → Option (Unit × zM)) (x3 : Int32) (u : zM) : Option (Unit × zM) :=
  (if (gI u 0 0) ≤ x3 then zlet (sI u 0 4 ((gI u 0 4) + (1 : Int32))) fun u3 => some ((), u3) else zck (inB x3 6) <| zck (inB x3 6) <| zlet (sI u 3 x3.toNatClampNeg (gI u 18 x3.toNatClampNeg)) fun u5 => rc (x3 + (1 : Int32)) u5)
def f_X9_goMinute_L147  : Nat → Int32 → zM → Option (Unit × zM)
  | 0 => fun _ _ => none
  | fn + 1 => f_X9_goMinute_L147_b  (f_X9_goMinute_L147  fn)
def f_X9_goMinute_L35_b  (rc : Int32 → Int32 → Int32 → zM → Option (Unit × zM)) (x1 : Int32) (x2 : Int32) (x3 : Int32) (u : zM) : Option (Unit × zM) :=
  (if (gI u 0 0) ≤ x3 then (if x1 < (0 : Int32) then f_X9_goMinute_L147 400 (0 : Int32) u else zck (inB (gI u 0 3) 4) <| zck (inB x1 6) <| zb (f_X9_least ((gI u 7 (gI u 0 3).toNatClampNeg) + (gI u 3 x1.toNatClampNeg)) (9999 : Int32) u) fun y8 u9 => zck (inB (gI u 0 3) 4) <| zlet (sI u9 7 (gI u 0 3).toNatClampNeg y8) fun u10 => zck (inB x1 6) <| zlet (sI u10 18 x1.toNatClampNeg (0 : Int32)) fun u11 => f_X9_goMinute_L147 400 (0 : Int32) u11) else zb (f_X9_has (gI u 0 1) x3 u) fun y12 u13 => (if y12 = (0 : Int32) then zck (inB x3 6) <| zb (f_X9_rise x3 u13) fun y15 u16 => zb (f_X9_beside x3 x2 u16) fun y17 u18 => zb (f_X9_held (((gI u13 3 x3.toNatClampNeg) + y15) + ((10 : Int32) * y17)) u18) fun y19 u20 => zck (inB x3 6) <| zlet (sI u20 18 x3.toNatClampNeg y19) fun u21 => rc x1 x2 (x3 + (1 : Int32)) u21 else zck (inB x3 6) <| zck (inB x3 6) <| zlet (sI u13 18 x3.toNatClampNeg (gI u13 3 x3.toNatClampNeg)) fun u23 => rc x1 x2 (x3 + (1 : Int32)) u23))
def f_X9_goMinute_L35  : Nat → Int32 → Int32 → Int32 → zM → Option (Unit × zM)
  | 0 => fun _ _ _ _ => none
  | fn + 1 => f_X9_goMinute_L35_b  (f_X9_goMinute_L35  fn)
def f_X9_goMinute (u : zM) : Option (Unit × zM) :=
  (if (gI u 0 3) < (0 : Int32) then zb (f_X9_spark u) fun y1 u2 => f_X9_goMinute_L35 400 (-5 : Int32) y1 (0 : Int32) u2 else zb (f_X9_isDone (gI u 0 3) u) fun y24 u25 => (if y24 = (0 : Int32) then zb (f_X9_hottest u25) fun y28 u29 => zb (f_X9_spark u29) fun y30 u31 => f_X9_goMinute_L35 400 y28 y30 (0 : Int32) u31 else zb (f_X9_spark u25) fun y26 u27 => f_X9_goMinute_L35 400 (-5 : Int32) y26 (0 : Int32) u27))
set_option maxRecDepth 20000 in
theorem go_X9_goMinute_L147 {p : Program} {l : Launch} {e : Env} {s : State} {m : MethodId} {args : Array Value} {below : List Frame} {meth : Method} {c : Code} {as : Nat → Nat} {dA : Nat → ClassId} {D : va_G} {d : Nat}  (C : zCx p s m args meth c as dA D SHM d 4 yX9_goMinute.cls cX9_goMinute (none)) (hd : 7 ≤ d) : ∀ (fn : Nat) (x3 : Int32) (u : zM), Go p l e s m args below meth c as dA D SHM d 4 zQv 147 [(0, .ref 0), (3, .int x3)] [] u (f_X9_goMinute_L147 fn x3 u) := by
  intro fn
  induction fn with
  | zero => intro x3 u; exact G_none
  | succ fn ih =>
    intro x3 u
    show Go p l e s m args below meth c as dA D SHM d 4 zQv 147 [(0, .ref 0), (3, .int x3)] [] u (f_X9_goMinute_L147_b  (f_X9_goMinute_L147  fn) x3 u)
    unfold f_X9_goMinute_L147_b
    refine G_iload_n C 1 dX9_goMinute_147 rfl rfl ?_
    refine G_aload_n C 0 dX9_goMinute_148 rfl rfl ?_
    refine G_getI C 0 shM_0 rfl rfl (by decide) wf9_7 dX9_goMinute_149 ?_
    refine G_icmp_ge (tgt := 173) C dX9_goMinute_152 (by decide) (fun _ => ?_) (fun _ => ?_)
    · refine G_aload_n C 0 dX9_goMinute_173 rfl rfl ?_
      refine G_dup C dX9_goMinute_174 rfl ?_
      refine G_getI C 4 shM_0 rfl rfl (by decide) wf9_22 dX9_goMinute_175 ?_
      refine G_iconst (v := 1) C dX9_goMinute_178 (by decide) ?_
      refine G_iadd C dX9_goMinute_179 ?_
      refine G_putI (ty := .int) C 4 shM_0 rfl rfl (by decide) wf9_22 rfl (by decide +kernel) rfl rfl dX9_goMinute_180 (fun u3 => ?_)
      exact G_vret C dX9_goMinute_183
    · refine G_aload_n C 0 dX9_goMinute_155 rfl rfl ?_
      refine G_getR (j := 3) C 7 shM_0 rfl rfl (by decide) wf9_32 dX9_goMinute_156 ?_
      refine G_iload_n C 1 dX9_goMinute_159 rfl rfl ?_
      refine G_aload_n C 0 dX9_goMinute_160 rfl rfl ?_
      refine G_getR (j := 18) C 30 shM_0 rfl rfl (by decide) wf9_102 dX9_goMinute_161 ?_
      refine G_iload_n C 1 dX9_goMinute_164 rfl rfl ?_
      refine G_iald C shM_18 dX9_goMinute_165 (fun hb4 => ?_)
      refine G_iast C shM_3 dX9_goMinute_166 (fun _ u5 => ?_)
      refine G_iinc (v := 1) (L' := [(3, .int (x3 + (1 : Int32))), (0, .ref 0)]) C 1 dX9_goMinute_167 rfl (by decide) (by decide) rfl ?_
      refine G_goto (tgt := 147) C dX9_goMinute_170 (by decide) ?_
      refine G_locals [1, 0] rfl ?_
      exact ih (x3 + (1 : Int32)) u5
set_option maxRecDepth 20000 in
theorem go_X9_goMinute_L35 {p : Program} {l : Launch} {e : Env} {s : State} {m : MethodId} {args : Array Value} {below : List Frame} {meth : Method} {c : Code} {as : Nat → Nat} {dA : Nat → ClassId} {D : va_G} {d : Nat}  (C : zCx p s m args meth c as dA D SHM d 4 yX9_goMinute.cls cX9_goMinute (none)) (hd : 7 ≤ d) : ∀ (fn : Nat) (x1 : Int32) (x2 : Int32) (x3 : Int32) (u : zM), Go p l e s m args below meth c as dA D SHM d 4 zQv 35 [(0, .ref 0), (1, .int x1), (2, .int x2), (3, .int x3)] [] u (f_X9_goMinute_L35 fn x1 x2 x3 u) := by
  intro fn
  induction fn with
  | zero => intro x1 x2 x3 u; exact G_none
  | succ fn ih =>
    intro x1 x2 x3 u
    show Go p l e s m args below meth c as dA D SHM d 4 zQv 35 [(0, .ref 0), (1, .int x1), (2, .int x2), (3, .int x3)] [] u (f_X9_goMinute_L35_b  (f_X9_goMinute_L35  fn) x1 x2 x3 u)
    unfold f_X9_goMinute_L35_b
    refine G_iload_n C 3 dX9_goMinute_35 rfl rfl ?_
    refine G_aload_n C 0 dX9_goMinute_36 rfl rfl ?_
    refine G_getI C 0 shM_0 rfl rfl (by decide) wf9_7 dX9_goMinute_37 ?_
    refine G_icmp_ge (tgt := 102) C dX9_goMinute_40 (by decide) (fun _ => ?_) (fun _ => ?_)
    · refine G_iload_n C 1 dX9_goMinute_102 rfl rfl ?_
      refine G_if_lt (tgt := 145) C dX9_goMinute_103 (by decide) (fun _ => ?_) (fun _ => ?_)
      · refine G_iconst (v := 0) C dX9_goMinute_145 (by decide) ?_
        refine G_istore_n (L' := [(3, .int (0 : Int32)), (0, .ref 0), (1, .int x1), (2, .int x2)]) C dX9_goMinute_146 rfl (by decide) rfl ?_
        refine G_locals [1, 0] rfl ?_
        exact go_X9_goMinute_L147 C hd 400 (0 : Int32) u
      · refine G_aload_n C 0 dX9_goMinute_106 rfl rfl ?_
        refine G_getR (j := 7) C 11 shM_0 rfl rfl (by decide) wf9_44 dX9_goMinute_107 ?_
        refine G_aload_n C 0 dX9_goMinute_110 rfl rfl ?_
        refine G_getI C 3 shM_0 rfl rfl (by decide) wf9_19 dX9_goMinute_111 ?_
        refine G_aload_n C 0 dX9_goMinute_114 rfl rfl ?_
        refine G_aload_n C 0 dX9_goMinute_115 rfl rfl ?_
        refine G_getR (j := 7) C 11 shM_0 rfl rfl (by decide) wf9_44 dX9_goMinute_116 ?_
        refine G_aload_n C 0 dX9_goMinute_119 rfl rfl ?_
        refine G_getI C 3 shM_0 rfl rfl (by decide) wf9_19 dX9_goMinute_120 ?_
        refine G_iald C shM_7 dX9_goMinute_123 (fun hb6 => ?_)
        refine G_aload_n C 0 dX9_goMinute_124 rfl rfl ?_
        refine G_getR (j := 3) C 7 shM_0 rfl rfl (by decide) wf9_32 dX9_goMinute_125 ?_
        refine G_iload_n C 1 dX9_goMinute_128 rfl rfl ?_
        refine G_iald C shM_3 dX9_goMinute_129 (fun hb7 => ?_)
        refine G_iadd C dX9_goMinute_130 ?_
        refine G_sipush (v := 9999) C dX9_goMinute_131 (by decide) ?_
        refine G_callVi C (m_X9_least ((gI u 7 (gI u 0 3).toNatClampNeg) + (gI u 3 x1.toNatClampNeg)) (9999 : Int32) u (d - 1) (by omega)) (d' := d - 1) (As := [.int ((gI u 7 (gI u 0 3).toNatClampNeg) + (gI u 3 x1.toNatClampNeg)), .int (9999 : Int32)]) (by omega) rfl wm9_248 wwX9_least shM_0 rfl (Nat.le_of_ble_eq_true rfl) dX9_goMinute_134 (fun y8 u9 => ?_)
        refine G_iast C shM_7 dX9_goMinute_137 (fun _ u10 => ?_)
        refine G_aload_n C 0 dX9_goMinute_138 rfl rfl ?_
        refine G_getR (j := 18) C 30 shM_0 rfl rfl (by decide) wf9_102 dX9_goMinute_139 ?_
        refine G_iload_n C 1 dX9_goMinute_142 rfl rfl ?_
        refine G_iconst (v := 0) C dX9_goMinute_143 (by decide) ?_
        refine G_iast C shM_18 dX9_goMinute_144 (fun _ u11 => ?_)
        refine G_iconst (v := 0) C dX9_goMinute_145 (by decide) ?_
        refine G_istore_n (L' := [(3, .int (0 : Int32)), (0, .ref 0), (1, .int x1), (2, .int x2)]) C dX9_goMinute_146 rfl (by decide) rfl ?_
        refine G_locals [1, 0] rfl ?_
        exact go_X9_goMinute_L147 C hd 400 (0 : Int32) u11
    · refine G_aload_n C 0 dX9_goMinute_43 rfl rfl ?_
      refine G_getR (j := 18) C 30 shM_0 rfl rfl (by decide) wf9_102 dX9_goMinute_44 ?_
      refine G_iload_n C 3 dX9_goMinute_47 rfl rfl ?_
      refine G_aload_n C 0 dX9_goMinute_48 rfl rfl ?_
      refine G_aload_n C 0 dX9_goMinute_49 rfl rfl ?_
      refine G_getI C 1 shM_0 rfl rfl (by decide) wf9_13 dX9_goMinute_50 ?_
      refine G_iload_n C 3 dX9_goMinute_53 rfl rfl ?_
      refine G_callVi C (m_X9_has (gI u 0 1) x3 u (d - 1) (by omega)) (d' := d - 1) (As := [.int (gI u 0 1), .int x3]) (by omega) rfl wm9_263 wwX9_has shM_0 rfl (Nat.le_of_ble_eq_true rfl) dX9_goMinute_54 (fun y12 u13 => ?_)
      refine G_if_eq (tgt := 69) C dX9_goMinute_57 (by decide) (fun _ => ?_) (fun _ => ?_)
      · refine G_aload_n C 0 dX9_goMinute_69 rfl rfl ?_
        refine G_aload_n C 0 dX9_goMinute_70 rfl rfl ?_
        refine G_getR (j := 3) C 7 shM_0 rfl rfl (by decide) wf9_32 dX9_goMinute_71 ?_
        refine G_iload_n C 3 dX9_goMinute_74 rfl rfl ?_
        refine G_iald C shM_3 dX9_goMinute_75 (fun hb14 => ?_)
        refine G_aload_n C 0 dX9_goMinute_76 rfl rfl ?_
        refine G_iload_n C 3 dX9_goMinute_77 rfl rfl ?_
        refine G_callVi C (m_X9_rise x3 u13 (d - 1) (by omega)) (d' := d - 1) (As := [.int x3]) (by omega) rfl wm9_338 wwX9_rise shM_0 rfl (Nat.le_of_ble_eq_true rfl) dX9_goMinute_78 (fun y15 u16 => ?_)
        refine G_iadd C dX9_goMinute_81 ?_
        refine G_bipush (v := 10) C dX9_goMinute_82 (by decide) ?_
        refine G_aload_n C 0 dX9_goMinute_84 rfl rfl ?_
        refine G_iload_n C 3 dX9_goMinute_85 rfl rfl ?_
        refine G_iload_n C 2 dX9_goMinute_86 rfl rfl ?_
        refine G_callVi C (m_X9_beside x3 x2 u16 (d - 1) (by omega)) (d' := d - 1) (As := [.int x3, .int x2]) (by omega) rfl wm9_326 wwX9_beside shM_0 rfl (Nat.le_of_ble_eq_true rfl) dX9_goMinute_87 (fun y17 u18 => ?_)
        refine G_imul C dX9_goMinute_90 ?_
        refine G_iadd C dX9_goMinute_91 ?_
        refine G_callVi C (m_X9_held (((gI u13 3 x3.toNatClampNeg) + y15) + ((10 : Int32) * y17)) u18 (d - 1) (by omega)) (d' := d - 1) (As := [.int (((gI u13 3 x3.toNatClampNeg) + y15) + ((10 : Int32) * y17))]) (by omega) rfl wm9_356 wwX9_held shM_0 rfl (Nat.le_of_ble_eq_true rfl) dX9_goMinute_92 (fun y19 u20 => ?_)
        refine G_iast C shM_18 dX9_goMinute_95 (fun _ u21 => ?_)
        refine G_iinc (v := 1) (L' := [(3, .int (x3 + (1 : Int32))), (0, .ref 0), (1, .int x1), (2, .int x2)]) C 3 dX9_goMinute_96 rfl (by decide) (by decide) rfl ?_
        refine G_goto (tgt := 35) C dX9_goMinute_99 (by decide) ?_
        refine G_locals [1, 2, 3, 0] rfl ?_
        exact ih x1 x2 (x3 + (1 : Int32)) u21
      · refine G_aload_n C 0 dX9_goMinute_60 rfl rfl ?_
        refine G_getR (j := 3) C 7 shM_0 rfl rfl (by decide) wf9_32 dX9_goMinute_61 ?_
        refine G_iload_n C 3 dX9_goMinute_64 rfl rfl ?_
        refine G_iald C shM_3 dX9_goMinute_65 (fun hb22 => ?_)
        refine G_goto (tgt := 95) C dX9_goMinute_66 (by decide) ?_
        refine G_iast C shM_18 dX9_goMinute_95 (fun _ u23 => ?_)
        refine G_iinc (v := 1) (L' := [(3, .int (x3 + (1 : Int32))), (0, .ref 0), (1, .int x1), (2, .int x2)]) C 3 dX9_goMinute_96 rfl (by decide) (by decide) rfl ?_
        refine G_goto (tgt := 35) C dX9_goMinute_99 (by decide) ?_
        refine G_locals [1, 2, 3, 0] rfl ?_
        exact ih x1 x2 (x3 + (1 : Int32)) u23
set_option maxRecDepth 20000 in
theorem go_X9_goMinute {p : Program} {l : Launch} {e : Env} {s : State} {m : MethodId} {args : Array Value} {below : List Frame} {meth : Method} {c : Code} {as : Nat → Nat} {dA : Nat → ClassId} {D : va_G} {d : Nat}  (C : zCx p s m args meth c as dA D SHM d 4 yX9_goMinute.cls cX9_goMinute (none)) (hd : 7 ≤ d) : ∀ (u : zM), Go p l e s m args below meth c as dA D SHM d 4 zQv 0 [(0, .ref 0)] [] u (f_X9_goMinute  u) := by
  intro u
  unfold f_X9_goMinute
  refine G_aload_n C 0 dX9_goMinute_0 rfl rfl ?_
  refine G_getI C 3 shM_0 rfl rfl (by decide) wf9_19 dX9_goMinute_1 ?_
  refine G_if_lt (tgt := 25) C dX9_goMinute_4 (by decide) (fun _ => ?_) (fun _ => ?_)
  · refine G_bipush (v := -5) C dX9_goMinute_25 (by decide) ?_
    refine G_istore_n (L' := [(1, .int (-5 : Int32)), (0, .ref 0)]) C dX9_goMinute_27 rfl (by decide) rfl ?_
    refine G_aload_n C 1 dX9_goMinute_28 rfl rfl ?_
    refine G_callVi C (m_X9_spark u (d - 1) (by omega)) (d' := d - 1) (As := []) (by omega) rfl wm9_344 wwX9_spark shM_0 rfl (Nat.le_of_ble_eq_true rfl) dX9_goMinute_29 (fun y1 u2 => ?_)
    refine G_istore_n (L' := [(2, .int y1), (1, .int (-5 : Int32)), (0, .ref 0)]) C dX9_goMinute_32 rfl (by decide) rfl ?_
    refine G_iconst (v := 0) C dX9_goMinute_33 (by decide) ?_
    refine G_istore_n (L' := [(3, .int (0 : Int32)), (2, .int y1), (1, .int (-5 : Int32)), (0, .ref 0)]) C dX9_goMinute_34 rfl (by decide) rfl ?_
    refine G_locals [3, 2, 1, 0] rfl ?_
    exact go_X9_goMinute_L35 C hd 400 (-5 : Int32) y1 (0 : Int32) u2
  · refine G_aload_n C 0 dX9_goMinute_7 rfl rfl ?_
    refine G_aload_n C 0 dX9_goMinute_8 rfl rfl ?_
    refine G_getI C 3 shM_0 rfl rfl (by decide) wf9_19 dX9_goMinute_9 ?_
    refine G_callVi C (m_X9_isDone (gI u 0 3) u (d - 1) (by omega)) (d' := d - 1) (As := [.int (gI u 0 3)]) (by omega) rfl wm9_341 wwX9_isDone shM_0 rfl (Nat.le_of_ble_eq_true rfl) dX9_goMinute_12 (fun y24 u25 => ?_)
    refine G_if_ne (tgt := 25) C dX9_goMinute_15 (by decide) (fun _ => ?_) (fun _ => ?_)
    · refine G_bipush (v := -5) C dX9_goMinute_25 (by decide) ?_
      refine G_istore_n (L' := [(1, .int (-5 : Int32)), (0, .ref 0)]) C dX9_goMinute_27 rfl (by decide) rfl ?_
      refine G_aload_n C 1 dX9_goMinute_28 rfl rfl ?_
      refine G_callVi C (m_X9_spark u25 (d - 1) (by omega)) (d' := d - 1) (As := []) (by omega) rfl wm9_344 wwX9_spark shM_0 rfl (Nat.le_of_ble_eq_true rfl) dX9_goMinute_29 (fun y26 u27 => ?_)
      refine G_istore_n (L' := [(2, .int y26), (1, .int (-5 : Int32)), (0, .ref 0)]) C dX9_goMinute_32 rfl (by decide) rfl ?_
      refine G_iconst (v := 0) C dX9_goMinute_33 (by decide) ?_
      refine G_istore_n (L' := [(3, .int (0 : Int32)), (2, .int y26), (1, .int (-5 : Int32)), (0, .ref 0)]) C dX9_goMinute_34 rfl (by decide) rfl ?_
      refine G_locals [3, 2, 1, 0] rfl ?_
      exact go_X9_goMinute_L35 C hd 400 (-5 : Int32) y26 (0 : Int32) u27
    · refine G_aload_n C 0 dX9_goMinute_18 rfl rfl ?_
      refine G_callVi C (m_X9_hottest u25 (d - 1) (by omega)) (d' := d - 1) (As := []) (by omega) rfl wm9_350 wwX9_hottest shM_0 rfl (Nat.le_of_ble_eq_true rfl) dX9_goMinute_19 (fun y28 u29 => ?_)
      refine G_goto (tgt := 27) C dX9_goMinute_22 (by decide) ?_
      refine G_istore_n (L' := [(1, .int y28), (0, .ref 0)]) C dX9_goMinute_27 rfl (by decide) rfl ?_
      refine G_aload_n C 1 dX9_goMinute_28 rfl rfl ?_
      refine G_callVi C (m_X9_spark u29 (d - 1) (by omega)) (d' := d - 1) (As := []) (by omega) rfl wm9_344 wwX9_spark shM_0 rfl (Nat.le_of_ble_eq_true rfl) dX9_goMinute_29 (fun y30 u31 => ?_)
      refine G_istore_n (L' := [(2, .int y30), (1, .int y28), (0, .ref 0)]) C dX9_goMinute_32 rfl (by decide) rfl ?_
      refine G_iconst (v := 0) C dX9_goMinute_33 (by decide) ?_
      refine G_istore_n (L' := [(3, .int (0 : Int32)), (2, .int y30), (1, .int y28), (0, .ref 0)]) C dX9_goMinute_34 rfl (by decide) rfl ?_
      refine G_locals [3, 2, 1, 0] rfl ?_
      exact go_X9_goMinute_L35 C hd 400 y28 y30 (0 : Int32) u31
theorem m_X9_goMinute    (u : zM) (d : Nat) (hd : 7 ≤ d) : zMet zQv SHM yX9_goMinute cX9_goMinute 4 (none) d [.ref 0] u (f_X9_goMinute  u) :=
  zMet_of (by decide +kernel) (fun as => Nat.le_of_ble_eq_true rfl) wwX9_goMinute.2.2.2.1 (by omega) (fun p l e s m args below meth c as dA D C => go_X9_goMinute C hd u)
/-! private void goMinutes(int) -/
def f_X9_goMinutes_L2_b (p1 : Int32) (rc : Int32 → zM → Option (Unit × zM)) (x2 : Int32) (u : zM) : Option (Unit × zM) :=
  (if p1 ≤ x2 then some ((), u) else zb (f_X9_goMinute u) fun _ u2 => rc (x2 + (1 : Int32)) u2)
def f_X9_goMinutes_L2 (p1 : Int32) : Nat → Int32 → zM → Option (Unit × zM)
  | 0 => fun _ _ => none
  | fn + 1 => f_X9_goMinutes_L2_b p1 (f_X9_goMinutes_L2 p1 fn)
def f_X9_goMinutes (p1 : Int32) (u : zM) : Option (Unit × zM) :=
  f_X9_goMinutes_L2 p1 400 (0 : Int32) u
set_option maxRecDepth 20000 in
theorem go_X9_goMinutes_L2 {p : Program} {l : Launch} {e : Env} {s : State} {m : MethodId} {args : Array Value} {below : List Frame} {meth : Method} {c : Code} {as : Nat → Nat} {dA : Nat → ClassId} {D : va_G} {d : Nat} {p1 : Int32} (C : zCx p s m args meth c as dA D SHM d 3 yX9_goMinutes.cls cX9_goMinutes (none)) (hd : 8 ≤ d) : ∀ (fn : Nat) (x2 : Int32) (u : zM), Go p l e s m args below meth c as dA D SHM d 3 zQv 2 [(0, .ref 0), (1, .int p1), (2, .int x2)] [] u (f_X9_goMinutes_L2 p1 fn x2 u) := by
  intro fn
  induction fn with
  | zero => intro x2 u; exact G_none
  | succ fn ih =>
    intro x2 u
    show Go p l e s m args below meth c as dA D SHM d 3 zQv 2 [(0, .ref 0), (1, .int p1), (2, .int x2)] [] u (f_X9_goMinutes_L2_b p1 (f_X9_goMinutes_L2 p1 fn) x2 u)
    unfold f_X9_goMinutes_L2_b
    refine G_iload_n C 2 dX9_goMinutes_2 rfl rfl ?_
    refine G_iload_n C 1 dX9_goMinutes_3 rfl rfl ?_
    refine G_icmp_ge (tgt := 17) C dX9_goMinutes_4 (by decide) (fun _ => ?_) (fun _ => ?_)
    · exact G_vret C dX9_goMinutes_17
    · refine G_aload_n C 0 dX9_goMinutes_7 rfl rfl ?_
      refine G_callVv C (m_X9_goMinute u (d - 1) (by omega)) (d' := d - 1) (As := []) (by omega) rfl wm9_359 wwX9_goMinute shM_0 rfl (Nat.le_of_ble_eq_true rfl) dX9_goMinutes_8 (fun y1 u2 => ?_)
      refine G_iinc (v := 1) (L' := [(2, .int (x2 + (1 : Int32))), (0, .ref 0), (1, .int p1)]) C 2 dX9_goMinutes_11 rfl (by decide) (by decide) rfl ?_
      refine G_goto (tgt := 2) C dX9_goMinutes_14 (by decide) ?_
      refine G_locals [1, 2, 0] rfl ?_
      exact ih (x2 + (1 : Int32)) u2
set_option maxRecDepth 20000 in
theorem go_X9_goMinutes {p : Program} {l : Launch} {e : Env} {s : State} {m : MethodId} {args : Array Value} {below : List Frame} {meth : Method} {c : Code} {as : Nat → Nat} {dA : Nat → ClassId} {D : va_G} {d : Nat} {p1 : Int32} (C : zCx p s m args meth c as dA D SHM d 3 yX9_goMinutes.cls cX9_goMinutes (none)) (hd : 8 ≤ d) : ∀ (u : zM), Go p l e s m args below meth c as dA D SHM d 3 zQv 0 [(0, .ref 0), (1, .int p1)] [] u (f_X9_goMinutes p1 u) := by
  intro u
  unfold f_X9_goMinutes
  refine G_iconst (v := 0) C dX9_goMinutes_0 (by decide) ?_
  refine G_istore_n (L' := [(2, .int (0 : Int32)), (0, .ref 0), (1, .int p1)]) C dX9_goMinutes_1 rfl (by decide) rfl ?_
  refine G_locals [1, 2, 0] rfl ?_
  exact go_X9_goMinutes_L2 C hd 400 (0 : Int32) u
theorem m_X9_goMinutes   (p1 : Int32) (u : zM) (d : Nat) (hd : 8 ≤ d) : zMet zQv SHM yX9_goMinutes cX9_goMinutes 3 (none) d [.ref 0, .int p1] u (f_X9_goMinutes p1 u) :=
  zMet_of (by decide +kernel) (fun as => Nat.le_of_ble_eq_true rfl) wwX9_goMinutes.2.2.2.1 (by omega) (fun p l e s m args below meth c as dA D C => go_X9_goMinutes C hd u)
/-! public int pass(int) -/
def f_X9_pass (p1 : Int32) (u : zM) : Option (Int32 × zM) :=
  zb (f_X9_isMinutes p1 u) fun y1 u2 => (if y1 = (0 : Int32) then some ((-2 : Int32), u2) else (if ((gI u2 0 4) + p1) ≤ (9999 : Int32) then zb (f_X9_goMinutes p1 u2) fun _ u4 => some ((gI u4 0 4), u4) else some ((-3 : Int32), u2)))
set_option maxRecDepth 20000 in
theorem go_X9_pass {p : Program} {l : Launch} {e : Env} {s : State} {m : MethodId} {args : Array Value} {below : List Frame} {meth : Method} {c : Code} {as : Nat → Nat} {dA : Nat → ClassId} {D : va_G} {d : Nat} {p1 : Int32} (C : zCx p s m args meth c as dA D SHM d 2 yX9_pass.cls cX9_pass ((some FieldType.int))) (hd : 9 ≤ d) : ∀ (u : zM), Go p l e s m args below meth c as dA D SHM d 2 zQi 0 [(0, .ref 0), (1, .int p1)] [] u (f_X9_pass p1 u) := by
  intro u
  unfold f_X9_pass
  refine G_aload_n C 0 dX9_pass_0 rfl rfl ?_
  refine G_iload_n C 1 dX9_pass_1 rfl rfl ?_
  refine G_callVi C (m_X9_isMinutes p1 u (d - 1) (by omega)) (d' := d - 1) (As := [.int p1]) (by omega) rfl wm9_362 wwX9_isMinutes shM_0 rfl (Nat.le_of_ble_eq_true rfl) dX9_pass_2 (fun y1 u2 => ?_)
  refine G_if_ne (tgt := 11) C dX9_pass_5 (by decide) (fun _ => ?_) (fun _ => ?_)
  · refine G_aload_n C 0 dX9_pass_11 rfl rfl ?_
    refine G_getI C 4 shM_0 rfl rfl (by decide) wf9_22 dX9_pass_12 ?_
    refine G_iload_n C 1 dX9_pass_15 rfl rfl ?_
    refine G_iadd C dX9_pass_16 ?_
    refine G_sipush (v := 9999) C dX9_pass_17 (by decide) ?_
    refine G_icmp_le (tgt := 26) C dX9_pass_20 (by decide) (fun _ => ?_) (fun _ => ?_)
    · refine G_aload_n C 0 dX9_pass_26 rfl rfl ?_
      refine G_iload_n C 1 dX9_pass_27 rfl rfl ?_
      refine G_callVv C (m_X9_goMinutes p1 u2 (d - 1) (by omega)) (d' := d - 1) (As := [.int p1]) (by omega) rfl wm9_365 wwX9_goMinutes shM_0 rfl (Nat.le_of_ble_eq_true rfl) dX9_pass_28 (fun y3 u4 => ?_)
      refine G_aload_n C 0 dX9_pass_31 rfl rfl ?_
      refine G_getI C 4 shM_0 rfl rfl (by decide) wf9_22 dX9_pass_32 ?_
      exact G_iret C dX9_pass_35
    · refine G_bipush (v := -3) C dX9_pass_23 (by decide) ?_
      exact G_iret C dX9_pass_25
  · refine G_bipush (v := -2) C dX9_pass_8 (by decide) ?_
    exact G_iret C dX9_pass_10
theorem m_X9_pass   (p1 : Int32) (u : zM) (d : Nat) (hd : 9 ≤ d) : zMet zQi SHM yX9_pass cX9_pass 2 ((some FieldType.int)) d [.ref 0, .int p1] u (f_X9_pass p1 u) :=
  zMet_of (by decide +kernel) (fun as => Nat.le_of_ble_eq_true rfl) wwX9_pass.2.2.2.1 (by omega) (fun p l e s m args below meth c as dA D C => go_X9_pass C hd u)
/-! private void save() -/
def f_X9_save_L52_b  (rc : Int32 → zM → Option (Unit × zM)) (x1 : Int32) (u : zM) : Option (Unit × zM) :=
  (if (4 : Int32) ≤ x1 then some ((), u) else zck (inB x1 4) <| zck (inB x1 4) <| zlet (sI u 20 x1.toNatClampNeg (gI u 7 x1.toNatClampNeg)) fun u5 => rc (x1 + (1 : Int32)) u5)
def f_X9_save_L52  : Nat → Int32 → zM → Option (Unit × zM)
  | 0 => fun _ _ => none
  | fn + 1 => f_X9_save_L52_b  (f_X9_save_L52  fn)
def f_X9_save_L26_b  (rc : Int32 → zM → Option (Unit × zM)) (x1 : Int32) (u : zM) : Option (Unit × zM) :=
  (if (6 : Int32) ≤ x1 then f_X9_save_L52 400 (0 : Int32) u else zck (inB x1 6) <| zck (inB x1 6) <| zlet (sI u 19 x1.toNatClampNeg (gI u 3 x1.toNatClampNeg)) fun u7 => rc (x1 + (1 : Int32)) u7)
def f_X9_save_L26  : Nat → Int32 → zM → Option (Unit × zM)
  | 0 => fun _ _ => none
  | fn + 1 => f_X9_save_L26_b  (f_X9_save_L26  fn)
def f_X9_save (u : zM) : Option (Unit × zM) :=
  zlet (sI u 0 31 (gI u 0 1)) fun u1 => zlet (sI u1 0 32 (gI u1 0 3)) fun u2 => zlet (sI u2 0 33 (gI u2 0 4)) fun u3 => f_X9_save_L26 400 (0 : Int32) u3
set_option maxRecDepth 20000 in
theorem go_X9_save_L52 {p : Program} {l : Launch} {e : Env} {s : State} {m : MethodId} {args : Array Value} {below : List Frame} {meth : Method} {c : Code} {as : Nat → Nat} {dA : Nat → ClassId} {D : va_G} {d : Nat}  (C : zCx p s m args meth c as dA D SHM d 2 yX9_save.cls cX9_save (none)) (hd : 1 ≤ d) : ∀ (fn : Nat) (x1 : Int32) (u : zM), Go p l e s m args below meth c as dA D SHM d 2 zQv 52 [(0, .ref 0), (1, .int x1)] [] u (f_X9_save_L52 fn x1 u) := by
  intro fn
  induction fn with
  | zero => intro x1 u; exact G_none
  | succ fn ih =>
    intro x1 u
    show Go p l e s m args below meth c as dA D SHM d 2 zQv 52 [(0, .ref 0), (1, .int x1)] [] u (f_X9_save_L52_b  (f_X9_save_L52  fn) x1 u)
    unfold f_X9_save_L52_b
    refine G_iload_n C 1 dX9_save_52 rfl rfl ?_
    refine G_iconst (v := 4) C dX9_save_53 (by decide) ?_
    refine G_icmp_ge (tgt := 75) C dX9_save_54 (by decide) (fun _ => ?_) (fun _ => ?_)
    · exact G_vret C dX9_save_75
    · refine G_aload_n C 0 dX9_save_57 rfl rfl ?_
      refine G_getR (j := 20) C 35 shM_0 rfl rfl (by decide) wf9_117 dX9_save_58 ?_
      refine G_iload_n C 1 dX9_save_61 rfl rfl ?_
      refine G_aload_n C 0 dX9_save_62 rfl rfl ?_
      refine G_getR (j := 7) C 11 shM_0 rfl rfl (by decide) wf9_44 dX9_save_63 ?_
      refine G_iload_n C 1 dX9_save_66 rfl rfl ?_
      refine G_iald C shM_7 dX9_save_67 (fun hb4 => ?_)
      refine G_iast C shM_20 dX9_save_68 (fun _ u5 => ?_)
      refine G_iinc (v := 1) (L' := [(1, .int (x1 + (1 : Int32))), (0, .ref 0)]) C 1 dX9_save_69 rfl (by decide) (by decide) rfl ?_
      refine G_goto (tgt := 52) C dX9_save_72 (by decide) ?_
      refine G_locals [1, 0] rfl ?_
      exact ih (x1 + (1 : Int32)) u5
set_option maxRecDepth 20000 in
theorem go_X9_save_L26 {p : Program} {l : Launch} {e : Env} {s : State} {m : MethodId} {args : Array Value} {below : List Frame} {meth : Method} {c : Code} {as : Nat → Nat} {dA : Nat → ClassId} {D : va_G} {d : Nat}  (C : zCx p s m args meth c as dA D SHM d 2 yX9_save.cls cX9_save (none)) (hd : 1 ≤ d) : ∀ (fn : Nat) (x1 : Int32) (u : zM), Go p l e s m args below meth c as dA D SHM d 2 zQv 26 [(0, .ref 0), (1, .int x1)] [] u (f_X9_save_L26 fn x1 u) := by
  intro fn
  induction fn with
  | zero => intro x1 u; exact G_none
  | succ fn ih =>
    intro x1 u
    show Go p l e s m args below meth c as dA D SHM d 2 zQv 26 [(0, .ref 0), (1, .int x1)] [] u (f_X9_save_L26_b  (f_X9_save_L26  fn) x1 u)
    unfold f_X9_save_L26_b
    refine G_iload_n C 1 dX9_save_26 rfl rfl ?_
    refine G_bipush (v := 6) C dX9_save_27 (by decide) ?_
    refine G_icmp_ge (tgt := 50) C dX9_save_29 (by decide) (fun _ => ?_) (fun _ => ?_)
    · refine G_iconst (v := 0) C dX9_save_50 (by decide) ?_
      refine G_istore_n (L' := [(1, .int (0 : Int32)), (0, .ref 0)]) C dX9_save_51 rfl (by decide) rfl ?_
      refine G_locals [1, 0] rfl ?_
      exact go_X9_save_L52 C hd 400 (0 : Int32) u
    · refine G_aload_n C 0 dX9_save_32 rfl rfl ?_
      refine G_getR (j := 19) C 34 shM_0 rfl rfl (by decide) wf9_114 dX9_save_33 ?_
      refine G_iload_n C 1 dX9_save_36 rfl rfl ?_
      refine G_aload_n C 0 dX9_save_37 rfl rfl ?_
      refine G_getR (j := 3) C 7 shM_0 rfl rfl (by decide) wf9_32 dX9_save_38 ?_
      refine G_iload_n C 1 dX9_save_41 rfl rfl ?_
      refine G_iald C shM_3 dX9_save_42 (fun hb6 => ?_)
      refine G_iast C shM_19 dX9_save_43 (fun _ u7 => ?_)
      refine G_iinc (v := 1) (L' := [(1, .int (x1 + (1 : Int32))), (0, .ref 0)]) C 1 dX9_save_44 rfl (by decide) (by decide) rfl ?_
      refine G_goto (tgt := 26) C dX9_save_47 (by decide) ?_
      refine G_locals [1, 0] rfl ?_
      exact ih (x1 + (1 : Int32)) u7
set_option maxRecDepth 20000 in
theorem go_X9_save {p : Program} {l : Launch} {e : Env} {s : State} {m : MethodId} {args : Array Value} {below : List Frame} {meth : Method} {c : Code} {as : Nat → Nat} {dA : Nat → ClassId} {D : va_G} {d : Nat}  (C : zCx p s m args meth c as dA D SHM d 2 yX9_save.cls cX9_save (none)) (hd : 1 ≤ d) : ∀ (u : zM), Go p l e s m args below meth c as dA D SHM d 2 zQv 0 [(0, .ref 0)] [] u (f_X9_save  u) := by
  intro u
  unfold f_X9_save
  refine G_aload_n C 0 dX9_save_0 rfl rfl ?_
  refine G_aload_n C 0 dX9_save_1 rfl rfl ?_
  refine G_getI C 1 shM_0 rfl rfl (by decide) wf9_13 dX9_save_2 ?_
  refine G_putI (ty := .int) C 31 shM_0 rfl rfl (by decide) wf9_105 rfl (by decide +kernel) rfl rfl dX9_save_5 (fun u1 => ?_)
  refine G_aload_n C 0 dX9_save_8 rfl rfl ?_
  refine G_aload_n C 0 dX9_save_9 rfl rfl ?_
  refine G_getI C 3 shM_0 rfl rfl (by decide) wf9_19 dX9_save_10 ?_
  refine G_putI (ty := .int) C 32 shM_0 rfl rfl (by decide) wf9_108 rfl (by decide +kernel) rfl rfl dX9_save_13 (fun u2 => ?_)
  refine G_aload_n C 0 dX9_save_16 rfl rfl ?_
  refine G_aload_n C 0 dX9_save_17 rfl rfl ?_
  refine G_getI C 4 shM_0 rfl rfl (by decide) wf9_22 dX9_save_18 ?_
  refine G_putI (ty := .int) C 33 shM_0 rfl rfl (by decide) wf9_111 rfl (by decide +kernel) rfl rfl dX9_save_21 (fun u3 => ?_)
  refine G_iconst (v := 0) C dX9_save_24 (by decide) ?_
  refine G_istore_n (L' := [(1, .int (0 : Int32)), (0, .ref 0)]) C dX9_save_25 rfl (by decide) rfl ?_
  refine G_locals [1, 0] rfl ?_
  exact go_X9_save_L26 C hd 400 (0 : Int32) u3
theorem m_X9_save    (u : zM) (d : Nat) (hd : 1 ≤ d) : zMet zQv SHM yX9_save cX9_save 2 (none) d [.ref 0] u (f_X9_save  u) :=
  zMet_of (by decide +kernel) (fun as => Nat.le_of_ble_eq_true rfl) wwX9_save.2.2.2.1 (by omega) (fun p l e s m args below meth c as dA D C => go_X9_save C hd u)
/-! private void putBack() -/
def f_X9_putBack_L52_b  (rc : Int32 → zM → Option (Unit × zM)) (x1 : Int32) (u : zM) : Option (Unit × zM) :=
  (if (4 : Int32) ≤ x1 then some ((), u) else zck (inB x1 4) <| zck (inB x1 4) <| zlet (sI u 7 x1.toNatClampNeg (gI u 20 x1.toNatClampNeg)) fun u5 => rc (x1 + (1 : Int32)) u5)
def f_X9_putBack_L52  : Nat → Int32 → zM → Option (Unit × zM)
  | 0 => fun _ _ => none
  | fn + 1 => f_X9_putBack_L52_b  (f_X9_putBack_L52  fn)
def f_X9_putBack_L26_b  (rc : Int32 → zM → Option (Unit × zM)) (x1 : Int32) (u : zM) : Option (Unit × zM) :=
  (if (6 : Int32) ≤ x1 then f_X9_putBack_L52 400 (0 : Int32) u else zck (inB x1 6) <| zck (inB x1 6) <| zlet (sI u 3 x1.toNatClampNeg (gI u 19 x1.toNatClampNeg)) fun u7 => rc (x1 + (1 : Int32)) u7)
def f_X9_putBack_L26  : Nat → Int32 → zM → Option (Unit × zM)
  | 0 => fun _ _ => none
  | fn + 1 => f_X9_putBack_L26_b  (f_X9_putBack_L26  fn)
def f_X9_putBack (u : zM) : Option (Unit × zM) :=
  zlet (sI u 0 1 (gI u 0 31)) fun u1 => zlet (sI u1 0 3 (gI u1 0 32)) fun u2 => zlet (sI u2 0 4 (gI u2 0 33)) fun u3 => f_X9_putBack_L26 400 (0 : Int32) u3
set_option maxRecDepth 20000 in
theorem go_X9_putBack_L52 {p : Program} {l : Launch} {e : Env} {s : State} {m : MethodId} {args : Array Value} {below : List Frame} {meth : Method} {c : Code} {as : Nat → Nat} {dA : Nat → ClassId} {D : va_G} {d : Nat}  (C : zCx p s m args meth c as dA D SHM d 2 yX9_putBack.cls cX9_putBack (none)) (hd : 1 ≤ d) : ∀ (fn : Nat) (x1 : Int32) (u : zM), Go p l e s m args below meth c as dA D SHM d 2 zQv 52 [(0, .ref 0), (1, .int x1)] [] u (f_X9_putBack_L52 fn x1 u) := by
  intro fn
  induction fn with
  | zero => intro x1 u; exact G_none
  | succ fn ih =>
    intro x1 u
    show Go p l e s m args below meth c as dA D SHM d 2 zQv 52 [(0, .ref 0), (1, .int x1)] [] u (f_X9_putBack_L52_b  (f_X9_putBack_L52  fn) x1 u)
    unfold f_X9_putBack_L52_b
    refine G_iload_n C 1 dX9_putBack_52 rfl rfl ?_
    refine G_iconst (v := 4) C dX9_putBack_53 (by decide) ?_
    refine G_icmp_ge (tgt := 75) C dX9_putBack_54 (by decide) (fun _ => ?_) (fun _ => ?_)
    · exact G_vret C dX9_putBack_75
    · refine G_aload_n C 0 dX9_putBack_57 rfl rfl ?_
      refine G_getR (j := 7) C 11 shM_0 rfl rfl (by decide) wf9_44 dX9_putBack_58 ?_
      refine G_iload_n C 1 dX9_putBack_61 rfl rfl ?_
      refine G_aload_n C 0 dX9_putBack_62 rfl rfl ?_
      refine G_getR (j := 20) C 35 shM_0 rfl rfl (by decide) wf9_117 dX9_putBack_63 ?_
      refine G_iload_n C 1 dX9_putBack_66 rfl rfl ?_
      refine G_iald C shM_20 dX9_putBack_67 (fun hb4 => ?_)
      refine G_iast C shM_7 dX9_putBack_68 (fun _ u5 => ?_)
      refine G_iinc (v := 1) (L' := [(1, .int (x1 + (1 : Int32))), (0, .ref 0)]) C 1 dX9_putBack_69 rfl (by decide) (by decide) rfl ?_
      refine G_goto (tgt := 52) C dX9_putBack_72 (by decide) ?_
      refine G_locals [1, 0] rfl ?_
      exact ih (x1 + (1 : Int32)) u5
set_option maxRecDepth 20000 in
theorem go_X9_putBack_L26 {p : Program} {l : Launch} {e : Env} {s : State} {m : MethodId} {args : Array Value} {below : List Frame} {meth : Method} {c : Code} {as : Nat → Nat} {dA : Nat → ClassId} {D : va_G} {d : Nat}  (C : zCx p s m args meth c as dA D SHM d 2 yX9_putBack.cls cX9_putBack (none)) (hd : 1 ≤ d) : ∀ (fn : Nat) (x1 : Int32) (u : zM), Go p l e s m args below meth c as dA D SHM d 2 zQv 26 [(0, .ref 0), (1, .int x1)] [] u (f_X9_putBack_L26 fn x1 u) := by
  intro fn
  induction fn with
  | zero => intro x1 u; exact G_none
  | succ fn ih =>
    intro x1 u
    show Go p l e s m args below meth c as dA D SHM d 2 zQv 26 [(0, .ref 0), (1, .int x1)] [] u (f_X9_putBack_L26_b  (f_X9_putBack_L26  fn) x1 u)
    unfold f_X9_putBack_L26_b
    refine G_iload_n C 1 dX9_putBack_26 rfl rfl ?_
    refine G_bipush (v := 6) C dX9_putBack_27 (by decide) ?_
    refine G_icmp_ge (tgt := 50) C dX9_putBack_29 (by decide) (fun _ => ?_) (fun _ => ?_)
    · refine G_iconst (v := 0) C dX9_putBack_50 (by decide) ?_
      refine G_istore_n (L' := [(1, .int (0 : Int32)), (0, .ref 0)]) C dX9_putBack_51 rfl (by decide) rfl ?_
      refine G_locals [1, 0] rfl ?_
      exact go_X9_putBack_L52 C hd 400 (0 : Int32) u
    · refine G_aload_n C 0 dX9_putBack_32 rfl rfl ?_
      refine G_getR (j := 3) C 7 shM_0 rfl rfl (by decide) wf9_32 dX9_putBack_33 ?_
      refine G_iload_n C 1 dX9_putBack_36 rfl rfl ?_
      refine G_aload_n C 0 dX9_putBack_37 rfl rfl ?_
      refine G_getR (j := 19) C 34 shM_0 rfl rfl (by decide) wf9_114 dX9_putBack_38 ?_
      refine G_iload_n C 1 dX9_putBack_41 rfl rfl ?_
      refine G_iald C shM_19 dX9_putBack_42 (fun hb6 => ?_)
      refine G_iast C shM_3 dX9_putBack_43 (fun _ u7 => ?_)
      refine G_iinc (v := 1) (L' := [(1, .int (x1 + (1 : Int32))), (0, .ref 0)]) C 1 dX9_putBack_44 rfl (by decide) (by decide) rfl ?_
      refine G_goto (tgt := 26) C dX9_putBack_47 (by decide) ?_
      refine G_locals [1, 0] rfl ?_
      exact ih (x1 + (1 : Int32)) u7
set_option maxRecDepth 20000 in
theorem go_X9_putBack {p : Program} {l : Launch} {e : Env} {s : State} {m : MethodId} {args : Array Value} {below : List Frame} {meth : Method} {c : Code} {as : Nat → Nat} {dA : Nat → ClassId} {D : va_G} {d : Nat}  (C : zCx p s m args meth c as dA D SHM d 2 yX9_putBack.cls cX9_putBack (none)) (hd : 1 ≤ d) : ∀ (u : zM), Go p l e s m args below meth c as dA D SHM d 2 zQv 0 [(0, .ref 0)] [] u (f_X9_putBack  u) := by
  intro u
  unfold f_X9_putBack
  refine G_aload_n C 0 dX9_putBack_0 rfl rfl ?_
  refine G_aload_n C 0 dX9_putBack_1 rfl rfl ?_
  refine G_getI C 31 shM_0 rfl rfl (by decide) wf9_105 dX9_putBack_2 ?_
  refine G_putI (ty := .int) C 1 shM_0 rfl rfl (by decide) wf9_13 rfl (by decide +kernel) rfl rfl dX9_putBack_5 (fun u1 => ?_)
  refine G_aload_n C 0 dX9_putBack_8 rfl rfl ?_
  refine G_aload_n C 0 dX9_putBack_9 rfl rfl ?_
  refine G_getI C 32 shM_0 rfl rfl (by decide) wf9_108 dX9_putBack_10 ?_
  refine G_putI (ty := .int) C 3 shM_0 rfl rfl (by decide) wf9_19 rfl (by decide +kernel) rfl rfl dX9_putBack_13 (fun u2 => ?_)
  refine G_aload_n C 0 dX9_putBack_16 rfl rfl ?_
  refine G_aload_n C 0 dX9_putBack_17 rfl rfl ?_
  refine G_getI C 33 shM_0 rfl rfl (by decide) wf9_111 dX9_putBack_18 ?_
  refine G_putI (ty := .int) C 4 shM_0 rfl rfl (by decide) wf9_22 rfl (by decide +kernel) rfl rfl dX9_putBack_21 (fun u3 => ?_)
  refine G_iconst (v := 0) C dX9_putBack_24 (by decide) ?_
  refine G_istore_n (L' := [(1, .int (0 : Int32)), (0, .ref 0)]) C dX9_putBack_25 rfl (by decide) rfl ?_
  refine G_locals [1, 0] rfl ?_
  exact go_X9_putBack_L26 C hd 400 (0 : Int32) u3
theorem m_X9_putBack    (u : zM) (d : Nat) (hd : 1 ≤ d) : zMet zQv SHM yX9_putBack cX9_putBack 2 (none) d [.ref 0] u (f_X9_putBack  u) :=
  zMet_of (by decide +kernel) (fun as => Nat.le_of_ble_eq_true rfl) wwX9_putBack.2.2.2.1 (by omega) (fun p l e s m args below meth c as dA D C => go_X9_putBack C hd u)
/-! private int ready(int) -/
def f_X9_ready_L35 (p1 : Int32) (x2 : Int32) (u : zM) : Option (Int32 × zM) :=
  zb (f_X9_putBack u) fun _ u5 => (if (61 : Int32) ≤ x2 then some ((-5 : Int32), u5) else some (x2, u5))
def f_X9_ready_L11_b (p1 : Int32) (rc : Int32 → zM → Option (Int32 × zM)) (x2 : Int32) (u : zM) : Option (Int32 × zM) :=
  (if (61 : Int32) ≤ x2 then f_X9_ready_L35 p1 x2 u else zb (f_X9_isDone p1 u) fun y6 u7 => (if y6 = (0 : Int32) then zb (f_X9_goMinute u7) fun _ u9 => rc (x2 + (1 : Int32)) u9 else f_X9_ready_L35 p1 x2 u7))
def f_X9_ready_L11 (p1 : Int32) : Nat → Int32 → zM → Option (Int32 × zM)
  | 0 => fun _ _ => none
  | fn + 1 => f_X9_ready_L11_b p1 (f_X9_ready_L11 p1 fn)
def f_X9_ready (p1 : Int32) (u : zM) : Option (Int32 × zM) :=
  zb (f_X9_save u) fun _ u2 => zlet (sI u2 0 3 p1) fun u3 => f_X9_ready_L11 p1 400 (0 : Int32) u3
set_option maxRecDepth 20000 in
theorem go_X9_ready_L35 {p : Program} {l : Launch} {e : Env} {s : State} {m : MethodId} {args : Array Value} {below : List Frame} {meth : Method} {c : Code} {as : Nat → Nat} {dA : Nat → ClassId} {D : va_G} {d : Nat} {p1 : Int32} (C : zCx p s m args meth c as dA D SHM d 3 yX9_ready.cls cX9_ready ((some FieldType.int))) (hd : 8 ≤ d) : ∀ (x2 : Int32) (u : zM), Go p l e s m args below meth c as dA D SHM d 3 zQi 35 [(0, .ref 0), (1, .int p1), (2, .int x2)] [] u (f_X9_ready_L35 p1 x2 u) := by
  intro x2 u
  unfold f_X9_ready_L35
  refine G_aload_n C 0 dX9_ready_35 rfl rfl ?_
  refine G_callVv C (m_X9_putBack u (d - 1) (by omega)) (d' := d - 1) (As := []) (by omega) rfl wm9_371 wwX9_putBack shM_0 rfl (Nat.le_of_ble_eq_true rfl) dX9_ready_36 (fun y4 u5 => ?_)
  refine G_iload_n C 2 dX9_ready_39 rfl rfl ?_
  refine G_bipush (v := 61) C dX9_ready_40 (by decide) ?_
  refine G_icmp_ge (tgt := 49) C dX9_ready_42 (by decide) (fun _ => ?_) (fun _ => ?_)
  · refine G_bipush (v := -5) C dX9_ready_49 (by decide) ?_
    exact G_iret C dX9_ready_51
  · refine G_iload_n C 2 dX9_ready_45 rfl rfl ?_
    refine G_goto (tgt := 51) C dX9_ready_46 (by decide) ?_
    exact G_iret C dX9_ready_51
set_option maxRecDepth 20000 in
theorem go_X9_ready_L11 {p : Program} {l : Launch} {e : Env} {s : State} {m : MethodId} {args : Array Value} {below : List Frame} {meth : Method} {c : Code} {as : Nat → Nat} {dA : Nat → ClassId} {D : va_G} {d : Nat} {p1 : Int32} (C : zCx p s m args meth c as dA D SHM d 3 yX9_ready.cls cX9_ready ((some FieldType.int))) (hd : 8 ≤ d) : ∀ (fn : Nat) (x2 : Int32) (u : zM), Go p l e s m args below meth c as dA D SHM d 3 zQi 11 [(0, .ref 0), (1, .int p1), (2, .int x2)] [] u (f_X9_ready_L11 p1 fn x2 u) := by
  intro fn
  induction fn with
  | zero => intro x2 u; exact G_none
  | succ fn ih =>
    intro x2 u
    show Go p l e s m args below meth c as dA D SHM d 3 zQi 11 [(0, .ref 0), (1, .int p1), (2, .int x2)] [] u (f_X9_ready_L11_b p1 (f_X9_ready_L11 p1 fn) x2 u)
    unfold f_X9_ready_L11_b
    refine G_iload_n C 2 dX9_ready_11 rfl rfl ?_
    refine G_bipush (v := 61) C dX9_ready_12 (by decide) ?_
    refine G_icmp_ge (tgt := 35) C dX9_ready_14 (by decide) (fun _ => ?_) (fun _ => ?_)
    · refine G_locals [0, 1, 2] rfl ?_
      exact go_X9_ready_L35 C hd x2 u
    · refine G_aload_n C 0 dX9_ready_17 rfl rfl ?_
      refine G_iload_n C 1 dX9_ready_18 rfl rfl ?_
      refine G_callVi C (m_X9_isDone p1 u (d - 1) (by omega)) (d' := d - 1) (As := [.int p1]) (by omega) rfl wm9_341 wwX9_isDone shM_0 rfl (Nat.le_of_ble_eq_true rfl) dX9_ready_19 (fun y6 u7 => ?_)
      refine G_if_ne (tgt := 35) C dX9_ready_22 (by decide) (fun _ => ?_) (fun _ => ?_)
      · refine G_locals [0, 1, 2] rfl ?_
        exact go_X9_ready_L35 C hd x2 u7
      · refine G_aload_n C 0 dX9_ready_25 rfl rfl ?_
        refine G_callVv C (m_X9_goMinute u7 (d - 1) (by omega)) (d' := d - 1) (As := []) (by omega) rfl wm9_359 wwX9_goMinute shM_0 rfl (Nat.le_of_ble_eq_true rfl) dX9_ready_26 (fun y8 u9 => ?_)
        refine G_iinc (v := 1) (L' := [(2, .int (x2 + (1 : Int32))), (0, .ref 0), (1, .int p1)]) C 2 dX9_ready_29 rfl (by decide) (by decide) rfl ?_
        refine G_goto (tgt := 11) C dX9_ready_32 (by decide) ?_
        refine G_locals [1, 2, 0] rfl ?_
        exact ih (x2 + (1 : Int32)) u9
set_option maxRecDepth 20000 in
theorem go_X9_ready {p : Program} {l : Launch} {e : Env} {s : State} {m : MethodId} {args : Array Value} {below : List Frame} {meth : Method} {c : Code} {as : Nat → Nat} {dA : Nat → ClassId} {D : va_G} {d : Nat} {p1 : Int32} (C : zCx p s m args meth c as dA D SHM d 3 yX9_ready.cls cX9_ready ((some FieldType.int))) (hd : 8 ≤ d) : ∀ (u : zM), Go p l e s m args below meth c as dA D SHM d 3 zQi 0 [(0, .ref 0), (1, .int p1)] [] u (f_X9_ready p1 u) := by
  intro u
  unfold f_X9_ready
  refine G_aload_n C 0 dX9_ready_0 rfl rfl ?_
  refine G_callVv C (m_X9_save u (d - 1) (by omega)) (d' := d - 1) (As := []) (by omega) rfl wm9_368 wwX9_save shM_0 rfl (Nat.le_of_ble_eq_true rfl) dX9_ready_1 (fun y1 u2 => ?_)
  refine G_aload_n C 0 dX9_ready_4 rfl rfl ?_
  refine G_iload_n C 1 dX9_ready_5 rfl rfl ?_
  refine G_putI (ty := .int) C 3 shM_0 rfl rfl (by decide) wf9_19 rfl (by decide +kernel) rfl rfl dX9_ready_6 (fun u3 => ?_)
  refine G_iconst (v := 0) C dX9_ready_9 (by decide) ?_
  refine G_istore_n (L' := [(2, .int (0 : Int32)), (0, .ref 0), (1, .int p1)]) C dX9_ready_10 rfl (by decide) rfl ?_
  refine G_locals [1, 2, 0] rfl ?_
  exact go_X9_ready_L11 C hd 400 (0 : Int32) u3
theorem m_X9_ready   (p1 : Int32) (u : zM) (d : Nat) (hd : 8 ≤ d) : zMet zQi SHM yX9_ready cX9_ready 3 ((some FieldType.int)) d [.ref 0, .int p1] u (f_X9_ready p1 u) :=
  zMet_of (by decide +kernel) (fun as => Nat.le_of_ble_eq_true rfl) wwX9_ready.2.2.2.1 (by omega) (fun p l e s m args below meth c as dA D C => go_X9_ready C hd u)
/-! public int piece(int, int) -/
def f_X9_piece (p1 : Int32) (p2 : Int32) (u : zM) : Option (Int32 × zM) :=
  zb (f_X9_isWork p1 u) fun y1 u2 => (if y1 = (0 : Int32) then some ((-1 : Int32), u2) else (if p2 = (0 : Int32) then zck (inB p1 4) <| some ((gI u2 5 p1.toNatClampNeg), u2) else if p2 = (1 : Int32) then zck (inB p1 4) <| some ((gI u2 6 p1.toNatClampNeg), u2) else if p2 = (2 : Int32) then zck (inB p1 4) <| some ((gI u2 7 p1.toNatClampNeg), u2) else if p2 = (3 : Int32) then zb (f_X9_isDone p1 u2) fun y10 u11 => (if y10 = (0 : Int32) then some ((0 : Int32), u11) else some ((1 : Int32), u11)) else if p2 = (4 : Int32) then zb (f_X9_ready p1 u2) fun y13 u14 => some (y13, u14) else some ((-1 : Int32), u2)))
set_option maxRecDepth 20000 in
theorem go_X9_piece {p : Program} {l : Launch} {e : Env} {s : State} {m : MethodId} {args : Array Value} {below : List Frame} {meth : Method} {c : Code} {as : Nat → Nat} {dA : Nat → ClassId} {D : va_G} {d : Nat} {p1 : Int32} {p2 : Int32} (C : zCx p s m args meth c as dA D SHM d 3 yX9_piece.cls cX9_piece ((some FieldType.int))) (hd : 9 ≤ d) : ∀ (u : zM), Go p l e s m args below meth c as dA D SHM d 3 zQi 0 [(0, .ref 0), (1, .int p1), (2, .int p2)] [] u (f_X9_piece p1 p2 u) := by
  intro u
  unfold f_X9_piece
  refine G_aload_n C 0 dX9_piece_0 rfl rfl ?_
  refine G_iload_n C 1 dX9_piece_1 rfl rfl ?_
  refine G_callVi C (m_X9_isWork p1 u (d - 1) (by omega)) (d' := d - 1) (As := [.int p1]) (by omega) rfl wm9_271 wwX9_isWork shM_0 rfl (Nat.le_of_ble_eq_true rfl) dX9_piece_2 (fun y1 u2 => ?_)
  refine G_if_ne (tgt := 10) C dX9_piece_5 (by decide) (fun _ => ?_) (fun _ => ?_)
  · refine G_iload_n C 2 dX9_piece_10 rfl rfl ?_
    refine G_if (fun h3 => ?_) (fun h3 => ?_)
    · refine G_tsIn (v := 0) (off := 33) (tgt := 44) C dX9_piece_11 h3 (by decide) (by decide) rfl (by decide) ?_
      refine G_aload_n C 0 dX9_piece_44 rfl rfl ?_
      refine G_getR (j := 5) C 9 shM_0 rfl rfl (by decide) wf9_38 dX9_piece_45 ?_
      refine G_iload_n C 1 dX9_piece_48 rfl rfl ?_
      refine G_iald C shM_5 dX9_piece_49 (fun hb4 => ?_)
      exact G_iret C dX9_piece_50
    · refine G_if (fun h5 => ?_) (fun h5 => ?_)
      · refine G_tsIn (v := 1) (off := 40) (tgt := 51) C dX9_piece_11 h5 (by decide) (by decide) rfl (by decide) ?_
        refine G_aload_n C 0 dX9_piece_51 rfl rfl ?_
        refine G_getR (j := 6) C 10 shM_0 rfl rfl (by decide) wf9_41 dX9_piece_52 ?_
        refine G_iload_n C 1 dX9_piece_55 rfl rfl ?_
        refine G_iald C shM_6 dX9_piece_56 (fun hb6 => ?_)
        exact G_iret C dX9_piece_57
      · refine G_if (fun h7 => ?_) (fun h7 => ?_)
        · refine G_tsIn (v := 2) (off := 47) (tgt := 58) C dX9_piece_11 h7 (by decide) (by decide) rfl (by decide) ?_
          refine G_aload_n C 0 dX9_piece_58 rfl rfl ?_
          refine G_getR (j := 7) C 11 shM_0 rfl rfl (by decide) wf9_44 dX9_piece_59 ?_
          refine G_iload_n C 1 dX9_piece_62 rfl rfl ?_
          refine G_iald C shM_7 dX9_piece_63 (fun hb8 => ?_)
          exact G_iret C dX9_piece_64
        · refine G_if (fun h9 => ?_) (fun h9 => ?_)
          · refine G_tsIn (v := 3) (off := 54) (tgt := 65) C dX9_piece_11 h9 (by decide) (by decide) rfl (by decide) ?_
            refine G_aload_n C 0 dX9_piece_65 rfl rfl ?_
            refine G_iload_n C 1 dX9_piece_66 rfl rfl ?_
            refine G_callVi C (m_X9_isDone p1 u2 (d - 1) (by omega)) (d' := d - 1) (As := [.int p1]) (by omega) rfl wm9_341 wwX9_isDone shM_0 rfl (Nat.le_of_ble_eq_true rfl) dX9_piece_67 (fun y10 u11 => ?_)
            refine G_if_eq (tgt := 77) C dX9_piece_70 (by decide) (fun _ => ?_) (fun _ => ?_)
            · refine G_iconst (v := 0) C dX9_piece_77 (by decide) ?_
              exact G_iret C dX9_piece_78
            · refine G_iconst (v := 1) C dX9_piece_73 (by decide) ?_
              refine G_goto (tgt := 78) C dX9_piece_74 (by decide) ?_
              exact G_iret C dX9_piece_78
          · refine G_if (fun h12 => ?_) (fun h12 => ?_)
            · refine G_tsIn (v := 4) (off := 68) (tgt := 79) C dX9_piece_11 h12 (by decide) (by decide) rfl (by decide) ?_
              refine G_aload_n C 0 dX9_piece_79 rfl rfl ?_
              refine G_iload_n C 1 dX9_piece_80 rfl rfl ?_
              refine G_callVi C (m_X9_ready p1 u2 (d - 1) (by omega)) (d' := d - 1) (As := [.int p1]) (by omega) rfl wm9_374 wwX9_ready shM_0 rfl (Nat.le_of_ble_eq_true rfl) dX9_piece_81 (fun y13 u14 => ?_)
              exact G_iret C dX9_piece_84
            · refine G_tsOut (tgt := 85) C dX9_piece_11 (by have e0 := lv_neT (a := 0) h3 rfl; have e1 := lv_neT (a := 1) h5 rfl; have e2 := lv_neT (a := 2) h7 rfl; have e3 := lv_neT (a := 3) h9 rfl; have e4 := lv_neT (a := 4) h12 rfl; omega) (by decide) ?_
              refine G_iconst (v := -1) C dX9_piece_85 (by decide) ?_
              exact G_iret C dX9_piece_86
  · refine G_iconst (v := -1) C dX9_piece_8 (by decide) ?_
    exact G_iret C dX9_piece_9
theorem m_X9_piece   (p1 : Int32) (p2 : Int32) (u : zM) (d : Nat) (hd : 9 ≤ d) : zMet zQi SHM yX9_piece cX9_piece 3 ((some FieldType.int)) d [.ref 0, .int p1, .int p2] u (f_X9_piece p1 p2 u) :=
  zMet_of (by decide +kernel) (fun as => Nat.le_of_ble_eq_true rfl) wwX9_piece.2.2.2.1 (by omega) (fun p l e s m args below meth c as dA D C => go_X9_piece C hd u)
/-! public int on(int, int) -/
def f_X9_on_L40 (p1 : Int32) (p2 : Int32) (u : zM) : Option (Int32 × zM) :=
  zb (f_X9_isMinutes p1 u) fun y1 u2 => (if y1 = (0 : Int32) then some ((-2 : Int32), u2) else zb (f_X9_save u2) fun _ u4 => zb (f_X9_goMinutes p1 u4) fun _ u6 => (if p2 = (0 : Int32) then zb (f_X9_doneSet u6) fun y15 u16 => zb (f_X9_putBack u16) fun _ u18 => some (y15, u18) else (if (20 : Int32) ≤ p2 then zck (inB (p2 - (20 : Int32)) 4) <| zlx (gI u6 7 (p2 - (20 : Int32)).toNatClampNeg) fun v8 => zb (f_X9_putBack u6) fun _ u10 => some (v8, u10) else zck (inB (p2 - (10 : Int32)) 6) <| zlx (gI u6 3 (p2 - (10 : Int32)).toNatClampNeg) fun v12 => zb (f_X9_putBack u6) fun _ u14 => some (v12, u14))))
def f_X9_on (p1 : Int32) (p2 : Int32) (u : zM) : Option (Int32 × zM) :=
  (if p2 = (0 : Int32) then f_X9_on_L40 p1 p2 u else zb (f_X9_in p2 (10 : Int32) ((9 : Int32) + (gI u 0 0)) u) fun y19 u20 => (if y19 = (0 : Int32) then zb (f_X9_in p2 (20 : Int32) ((19 : Int32) + (gI u20 0 2)) u20) fun y21 u22 => (if y21 = (0 : Int32) then some ((-1 : Int32), u22) else f_X9_on_L40 p1 p2 u22) else f_X9_on_L40 p1 p2 u20))
set_option maxRecDepth 20000 in
theorem go_X9_on_L40 {p : Program} {l : Launch} {e : Env} {s : State} {m : MethodId} {args : Array Value} {below : List Frame} {meth : Method} {c : Code} {as : Nat → Nat} {dA : Nat → ClassId} {D : va_G} {d : Nat} {p1 : Int32} {p2 : Int32} (C : zCx p s m args meth c as dA D SHM d 4 yX9_on.cls cX9_on ((some FieldType.int))) (hd : 9 ≤ d) : ∀ (u : zM), Go p l e s m args below meth c as dA D SHM d 4 zQi 40 [(0, .ref 0), (1, .int p1), (2, .int p2)] [] u (f_X9_on_L40 p1 p2 u) := by
  intro u
  unfold f_X9_on_L40
  refine G_aload_n C 0 dX9_on_40 rfl rfl ?_
  refine G_iload_n C 1 dX9_on_41 rfl rfl ?_
  refine G_callVi C (m_X9_isMinutes p1 u (d - 1) (by omega)) (d' := d - 1) (As := [.int p1]) (by omega) rfl wm9_362 wwX9_isMinutes shM_0 rfl (Nat.le_of_ble_eq_true rfl) dX9_on_42 (fun y1 u2 => ?_)
  refine G_if_ne (tgt := 51) C dX9_on_45 (by decide) (fun _ => ?_) (fun _ => ?_)
  · refine G_aload_n C 0 dX9_on_51 rfl rfl ?_
    refine G_callVv C (m_X9_save u2 (d - 1) (by omega)) (d' := d - 1) (As := []) (by omega) rfl wm9_368 wwX9_save shM_0 rfl (Nat.le_of_ble_eq_true rfl) dX9_on_52 (fun y3 u4 => ?_)
    refine G_aload_n C 0 dX9_on_55 rfl rfl ?_
    refine G_iload_n C 1 dX9_on_56 rfl rfl ?_
    refine G_callVv C (m_X9_goMinutes p1 u4 (d - 1) (by omega)) (d' := d - 1) (As := [.int p1]) (by omega) rfl wm9_365 wwX9_goMinutes shM_0 rfl (Nat.le_of_ble_eq_true rfl) dX9_on_57 (fun y5 u6 => ?_)
    refine G_iload_n C 2 dX9_on_60 rfl rfl ?_
    refine G_if_ne (tgt := 71) C dX9_on_61 (by decide) (fun _ => ?_) (fun _ => ?_)
    · refine G_iload_n C 2 dX9_on_71 rfl rfl ?_
      refine G_bipush (v := 20) C dX9_on_72 (by decide) ?_
      refine G_icmp_ge (tgt := 89) C dX9_on_74 (by decide) (fun _ => ?_) (fun _ => ?_)
      · refine G_aload_n C 0 dX9_on_89 rfl rfl ?_
        refine G_getR (j := 7) C 11 shM_0 rfl rfl (by decide) wf9_44 dX9_on_90 ?_
        refine G_iload_n C 2 dX9_on_93 rfl rfl ?_
        refine G_bipush (v := 20) C dX9_on_94 (by decide) ?_
        refine G_isub C dX9_on_96 ?_
        refine G_iald C shM_7 dX9_on_97 (fun hb7 => ?_)
        refine G_topi (fun v8 => ?_)
        refine G_istore_n (L' := [(3, .int v8), (0, .ref 0), (1, .int p1), (2, .int p2)]) C dX9_on_98 rfl (by decide) rfl ?_
        refine G_aload_n C 1 dX9_on_99 rfl rfl ?_
        refine G_callVv C (m_X9_putBack u6 (d - 1) (by omega)) (d' := d - 1) (As := []) (by omega) rfl wm9_371 wwX9_putBack shM_0 rfl (Nat.le_of_ble_eq_true rfl) dX9_on_100 (fun y9 u10 => ?_)
        refine G_iload_n C 0 dX9_on_103 rfl rfl ?_
        exact G_iret C dX9_on_104
      · refine G_aload_n C 0 dX9_on_77 rfl rfl ?_
        refine G_getR (j := 3) C 7 shM_0 rfl rfl (by decide) wf9_32 dX9_on_78 ?_
        refine G_iload_n C 2 dX9_on_81 rfl rfl ?_
        refine G_bipush (v := 10) C dX9_on_82 (by decide) ?_
        refine G_isub C dX9_on_84 ?_
        refine G_iald C shM_3 dX9_on_85 (fun hb11 => ?_)
        refine G_goto (tgt := 98) C dX9_on_86 (by decide) ?_
        refine G_topi (fun v12 => ?_)
        refine G_istore_n (L' := [(3, .int v12), (0, .ref 0), (1, .int p1), (2, .int p2)]) C dX9_on_98 rfl (by decide) rfl ?_
        refine G_aload_n C 1 dX9_on_99 rfl rfl ?_
        refine G_callVv C (m_X9_putBack u6 (d - 1) (by omega)) (d' := d - 1) (As := []) (by omega) rfl wm9_371 wwX9_putBack shM_0 rfl (Nat.le_of_ble_eq_true rfl) dX9_on_100 (fun y13 u14 => ?_)
        refine G_iload_n C 0 dX9_on_103 rfl rfl ?_
        exact G_iret C dX9_on_104
    · refine G_aload_n C 0 dX9_on_64 rfl rfl ?_
      refine G_callVi C (m_X9_doneSet u6 (d - 1) (by omega)) (d' := d - 1) (As := []) (by omega) rfl wm9_347 wwX9_doneSet shM_0 rfl (Nat.le_of_ble_eq_true rfl) dX9_on_65 (fun y15 u16 => ?_)
      refine G_goto (tgt := 98) C dX9_on_68 (by decide) ?_
      refine G_istore_n (L' := [(3, .int y15), (0, .ref 0), (1, .int p1), (2, .int p2)]) C dX9_on_98 rfl (by decide) rfl ?_
      refine G_aload_n C 1 dX9_on_99 rfl rfl ?_
      refine G_callVv C (m_X9_putBack u16 (d - 1) (by omega)) (d' := d - 1) (As := []) (by omega) rfl wm9_371 wwX9_putBack shM_0 rfl (Nat.le_of_ble_eq_true rfl) dX9_on_100 (fun y17 u18 => ?_)
      refine G_iload_n C 0 dX9_on_103 rfl rfl ?_
      exact G_iret C dX9_on_104
  · refine G_bipush (v := -2) C dX9_on_48 (by decide) ?_
    exact G_iret C dX9_on_50
set_option maxRecDepth 20000 in
theorem go_X9_on {p : Program} {l : Launch} {e : Env} {s : State} {m : MethodId} {args : Array Value} {below : List Frame} {meth : Method} {c : Code} {as : Nat → Nat} {dA : Nat → ClassId} {D : va_G} {d : Nat} {p1 : Int32} {p2 : Int32} (C : zCx p s m args meth c as dA D SHM d 4 yX9_on.cls cX9_on ((some FieldType.int))) (hd : 9 ≤ d) : ∀ (u : zM), Go p l e s m args below meth c as dA D SHM d 4 zQi 0 [(0, .ref 0), (1, .int p1), (2, .int p2)] [] u (f_X9_on p1 p2 u) := by
  intro u
  unfold f_X9_on
  refine G_iload_n C 2 dX9_on_0 rfl rfl ?_
  refine G_if_eq (tgt := 40) C dX9_on_1 (by decide) (fun _ => ?_) (fun _ => ?_)
  · refine G_locals [0, 1, 2] rfl ?_
    exact go_X9_on_L40 C hd u
  · refine G_aload_n C 0 dX9_on_4 rfl rfl ?_
    refine G_iload_n C 2 dX9_on_5 rfl rfl ?_
    refine G_bipush (v := 10) C dX9_on_6 (by decide) ?_
    refine G_bipush (v := 9) C dX9_on_8 (by decide) ?_
    refine G_aload_n C 0 dX9_on_10 rfl rfl ?_
    refine G_getI C 0 shM_0 rfl rfl (by decide) wf9_7 dX9_on_11 ?_
    refine G_iadd C dX9_on_14 ?_
    refine G_callVi C (m_X9_in p2 (10 : Int32) ((9 : Int32) + (gI u 0 0)) u (d - 1) (by omega)) (d' := d - 1) (As := [.int p2, .int (10 : Int32), .int ((9 : Int32) + (gI u 0 0))]) (by omega) rfl wm9_252 wwX9_in shM_0 rfl (Nat.le_of_ble_eq_true rfl) dX9_on_15 (fun y19 u20 => ?_)
    refine G_if_ne (tgt := 40) C dX9_on_18 (by decide) (fun _ => ?_) (fun _ => ?_)
    · refine G_locals [0, 1, 2] rfl ?_
      exact go_X9_on_L40 C hd u20
    · refine G_aload_n C 0 dX9_on_21 rfl rfl ?_
      refine G_iload_n C 2 dX9_on_22 rfl rfl ?_
      refine G_bipush (v := 20) C dX9_on_23 (by decide) ?_
      refine G_bipush (v := 19) C dX9_on_25 (by decide) ?_
      refine G_aload_n C 0 dX9_on_27 rfl rfl ?_
      refine G_getI C 2 shM_0 rfl rfl (by decide) wf9_16 dX9_on_28 ?_
      refine G_iadd C dX9_on_31 ?_
      refine G_callVi C (m_X9_in p2 (20 : Int32) ((19 : Int32) + (gI u20 0 2)) u20 (d - 1) (by omega)) (d' := d - 1) (As := [.int p2, .int (20 : Int32), .int ((19 : Int32) + (gI u20 0 2))]) (by omega) rfl wm9_252 wwX9_in shM_0 rfl (Nat.le_of_ble_eq_true rfl) dX9_on_32 (fun y21 u22 => ?_)
      refine G_if_ne (tgt := 40) C dX9_on_35 (by decide) (fun _ => ?_) (fun _ => ?_)
      · refine G_locals [0, 1, 2] rfl ?_
        exact go_X9_on_L40 C hd u22
      · refine G_iconst (v := -1) C dX9_on_38 (by decide) ?_
        exact G_iret C dX9_on_39
theorem m_X9_on   (p1 : Int32) (p2 : Int32) (u : zM) (d : Nat) (hd : 9 ≤ d) : zMet zQi SHM yX9_on cX9_on 4 ((some FieldType.int)) d [.ref 0, .int p1, .int p2] u (f_X9_on p1 p2 u) :=
  zMet_of (by decide +kernel) (fun as => Nat.le_of_ble_eq_true rfl) wwX9_on.2.2.2.1 (by omega) (fun p l e s m args below meth c as dA D C => go_X9_on C hd u)
/-! private boolean layLine(int) -/
def f_X9_layLine_L12_b (p1 : Int32) (rc : Int32 → Int32 → Int32 → zM → Option (Int32 × zM)) (x2 : Int32) (x3 : Int32) (x4 : Int32) (u : zM) : Option (Int32 × zM) :=
  (if x4 < (0 : Int32) then some ((1 : Int32), u) else if (gI u 0 2) = (0 : Int32) then none else zck (inB x4 4) <| zlet (sI u 21 x4.toNatClampNeg (zrem x2 (gI u 0 2))) fun u3 => if (gI u3 0 2) = (0 : Int32) then none else zlx (x2 / (gI u3 0 2)) fun v5 => zck (inB x4 4) <| zb (f_X9_has x3 (gI u3 21 x4.toNatClampNeg) u3) fun y7 u8 => (if y7 = (0 : Int32) then zck (inB x4 4) <| zlx (x3 ||| ((1 : Int32) <<< ((gI u8 21 x4.toNatClampNeg) &&& 31))) fun v10 => rc v5 v10 (x4 + (-1 : Int32)) u8 else some ((0 : Int32), u8)))
def f_X9_layLine_L12 (p1 : Int32) : Nat → Int32 → Int32 → Int32 → zM → Option (Int32 × zM)
  | 0 => fun _ _ _ _ => none
  | fn + 1 => f_X9_layLine_L12_b p1 (f_X9_layLine_L12 p1 fn)
def f_X9_layLine (p1 : Int32) (u : zM) : Option (Int32 × zM) :=
  zlx ((gI u 0 2) - (1 : Int32)) fun v1 => f_X9_layLine_L12 p1 400 p1 (0 : Int32) v1 u
set_option maxRecDepth 20000 in
theorem go_X9_layLine_L12 {p : Program} {l : Launch} {e : Env} {s : State} {m : MethodId} {args : Array Value} {below : List Frame} {meth : Method} {c : Code} {as : Nat → Nat} {dA : Nat → ClassId} {D : va_G} {d : Nat} {p1 : Int32} (C : zCx p s m args meth c as dA D SHM d 5 yX9_layLine.cls cX9_layLine ((some FieldType.boolean))) (hd : 2 ≤ d) : ∀ (fn : Nat) (x2 : Int32) (x3 : Int32) (x4 : Int32) (u : zM), Go p l e s m args below meth c as dA D SHM d 5 zQi 12 [(0, .ref 0), (1, .int p1), (2, .int x2), (3, .int x3), (4, .int x4)] [] u (f_X9_layLine_L12 p1 fn x2 x3 x4 u) := by
  intro fn
  induction fn with
  | zero => intro x2 x3 x4 u; exact G_none
  | succ fn ih =>
    intro x2 x3 x4 u
    show Go p l e s m args below meth c as dA D SHM d 5 zQi 12 [(0, .ref 0), (1, .int p1), (2, .int x2), (3, .int x3), (4, .int x4)] [] u (f_X9_layLine_L12_b p1 (f_X9_layLine_L12 p1 fn) x2 x3 x4 u)
    unfold f_X9_layLine_L12_b
    refine G_iload C 4 dX9_layLine_12 rfl ?_
    refine G_if_lt (tgt := 72) C dX9_layLine_14 (by decide) (fun _ => ?_) (fun _ => ?_)
    · refine G_iconst (v := 1) C dX9_layLine_72 (by decide) ?_
      exact G_zret C rfl dX9_layLine_73
    · refine G_aload_n C 0 dX9_layLine_17 rfl rfl ?_
      refine G_getR (j := 21) C 36 shM_0 rfl rfl (by decide) wf9_120 dX9_layLine_18 ?_
      refine G_iload C 4 dX9_layLine_21 rfl ?_
      refine G_iload_n C 2 dX9_layLine_23 rfl rfl ?_
      refine G_aload_n C 0 dX9_layLine_24 rfl rfl ?_
      refine G_getI C 2 shM_0 rfl rfl (by decide) wf9_16 dX9_layLine_25 ?_
      refine G_if (fun _ => G_none) (fun hne2 => ?_)
      refine G_irem C dX9_layLine_28 hne2 ?_
      refine G_iast C shM_21 dX9_layLine_29 (fun _ u3 => ?_)
      refine G_iload_n C 2 dX9_layLine_30 rfl rfl ?_
      refine G_aload_n C 0 dX9_layLine_31 rfl rfl ?_
      refine G_getI C 2 shM_0 rfl rfl (by decide) wf9_16 dX9_layLine_32 ?_
      refine G_if (fun _ => G_none) (fun hne4 => ?_)
      refine G_idiv C dX9_layLine_35 hne4 ?_
      refine G_topi (fun v5 => ?_)
      refine G_istore_n (L' := [(2, .int v5), (0, .ref 0), (1, .int p1), (3, .int x3), (4, .int x4)]) C dX9_layLine_36 rfl (by decide) rfl ?_
      refine G_aload_n C 1 dX9_layLine_37 rfl rfl ?_
      refine G_iload_n C 3 dX9_layLine_38 rfl rfl ?_
      refine G_aload_n C 1 dX9_layLine_39 rfl rfl ?_
      refine G_getR (j := 21) C 36 shM_0 rfl rfl (by decide) wf9_120 dX9_layLine_40 ?_
      refine G_iload C 4 dX9_layLine_43 rfl ?_
      refine G_iald C shM_21 dX9_layLine_45 (fun hb6 => ?_)
      refine G_callVi C (m_X9_has x3 (gI u3 21 x4.toNatClampNeg) u3 (d - 1) (by omega)) (d' := d - 1) (As := [.int x3, .int (gI u3 21 x4.toNatClampNeg)]) (by omega) rfl wm9_263 wwX9_has shM_0 rfl (Nat.le_of_ble_eq_true rfl) dX9_layLine_46 (fun y7 u8 => ?_)
      refine G_if_eq (tgt := 54) C dX9_layLine_49 (by decide) (fun _ => ?_) (fun _ => ?_)
      · refine G_iload_n C 3 dX9_layLine_54 rfl rfl ?_
        refine G_iconst (v := 1) C dX9_layLine_55 (by decide) ?_
        refine G_aload_n C 1 dX9_layLine_56 rfl rfl ?_
        refine G_getR (j := 21) C 36 shM_0 rfl rfl (by decide) wf9_120 dX9_layLine_57 ?_
        refine G_iload C 4 dX9_layLine_60 rfl ?_
        refine G_iald C shM_21 dX9_layLine_62 (fun hb9 => ?_)
        refine G_ishl C dX9_layLine_63 ?_
        refine G_ior C dX9_layLine_64 ?_
        refine G_topi (fun v10 => ?_)
        refine G_istore_n (L' := [(3, .int v10), (2, .int v5), (0, .ref 0), (1, .int p1), (4, .int x4)]) C dX9_layLine_65 rfl (by decide) rfl ?_
        refine G_iinc (v := -1) (L' := [(4, .int (x4 + (-1 : Int32))), (3, .int v10), (2, .int v5), (0, .ref 0), (1, .int p1)]) C 4 dX9_layLine_66 rfl (by decide) (by decide) rfl ?_
        refine G_goto (tgt := 12) C dX9_layLine_69 (by decide) ?_
        refine G_locals [3, 4, 2, 1, 0] rfl ?_
        exact ih v5 v10 (x4 + (-1 : Int32)) u8
      · refine G_iconst (v := 0) C dX9_layLine_52 (by decide) ?_
        exact G_zret C rfl dX9_layLine_53
set_option maxRecDepth 20000 in
theorem go_X9_layLine {p : Program} {l : Launch} {e : Env} {s : State} {m : MethodId} {args : Array Value} {below : List Frame} {meth : Method} {c : Code} {as : Nat → Nat} {dA : Nat → ClassId} {D : va_G} {d : Nat} {p1 : Int32} (C : zCx p s m args meth c as dA D SHM d 5 yX9_layLine.cls cX9_layLine ((some FieldType.boolean))) (hd : 2 ≤ d) : ∀ (u : zM), Go p l e s m args below meth c as dA D SHM d 5 zQi 0 [(0, .ref 0), (1, .int p1)] [] u (f_X9_layLine p1 u) := by
  intro u
  unfold f_X9_layLine
  refine G_iload_n C 1 dX9_layLine_0 rfl rfl ?_
  refine G_istore_n (L' := [(2, .int p1), (0, .ref 0), (1, .int p1)]) C dX9_layLine_1 rfl (by decide) rfl ?_
  refine G_iconst (v := 0) C dX9_layLine_2 (by decide) ?_
  refine G_istore_n (L' := [(3, .int (0 : Int32)), (2, .int p1), (0, .ref 0), (1, .int p1)]) C dX9_layLine_3 rfl (by decide) rfl ?_
  refine G_aload_n C 2 dX9_layLine_4 rfl rfl ?_
  refine G_getI C 2 shM_0 rfl rfl (by decide) wf9_16 dX9_layLine_5 ?_
  refine G_iconst (v := 1) C dX9_layLine_8 (by decide) ?_
  refine G_isub C dX9_layLine_9 ?_
  refine G_topi (fun v1 => ?_)
  refine G_istore (L' := [(4, .int v1), (3, .int (0 : Int32)), (2, .int p1), (0, .ref 0), (1, .int p1)]) C dX9_layLine_10 (by decide) rfl ?_
  refine G_locals [3, 4, 2, 1, 0] rfl ?_
  exact go_X9_layLine_L12 C hd 400 p1 (0 : Int32) v1 u
theorem m_X9_layLine   (p1 : Int32) (u : zM) (d : Nat) (hd : 2 ≤ d) : zMet zQi SHM yX9_layLine cX9_layLine 5 ((some FieldType.boolean)) d [.ref 0, .int p1] u (f_X9_layLine p1 u) :=
  zMet_of (by decide +kernel) (fun as => Nat.le_of_ble_eq_true rfl) wwX9_layLine.2.2.2.1 (by omega) (fun p l e s m args below meth c as dA D C => go_X9_layLine C hd u)
/-! private int firstOfLine() -/
def f_X9_firstOfLine_L2_b  (rc : Int32 → zM → Option (Int32 × zM)) (x1 : Int32) (u : zM) : Option (Int32 × zM) :=
  (if (gI u 0 2) ≤ x1 then some ((-5 : Int32), u) else zck (inB x1 4) <| zb (f_X9_isDone (gI u 21 x1.toNatClampNeg) u) fun y2 u3 => (if y2 = (0 : Int32) then zck (inB x1 4) <| some ((gI u3 21 x1.toNatClampNeg), u3) else rc (x1 + (1 : Int32)) u3))
def f_X9_firstOfLine_L2  : Nat → Int32 → zM → Option (Int32 × zM)
  | 0 => fun _ _ => none
  | fn + 1 => f_X9_firstOfLine_L2_b  (f_X9_firstOfLine_L2  fn)
def f_X9_firstOfLine (u : zM) : Option (Int32 × zM) :=
  f_X9_firstOfLine_L2 400 (0 : Int32) u
set_option maxRecDepth 20000 in
theorem go_X9_firstOfLine_L2 {p : Program} {l : Launch} {e : Env} {s : State} {m : MethodId} {args : Array Value} {below : List Frame} {meth : Method} {c : Code} {as : Nat → Nat} {dA : Nat → ClassId} {D : va_G} {d : Nat}  (C : zCx p s m args meth c as dA D SHM d 2 yX9_firstOfLine.cls cX9_firstOfLine ((some FieldType.int))) (hd : 2 ≤ d) : ∀ (fn : Nat) (x1 : Int32) (u : zM), Go p l e s m args below meth c as dA D SHM d 2 zQi 2 [(0, .ref 0), (1, .int x1)] [] u (f_X9_firstOfLine_L2 fn x1 u) := by
  intro fn
  induction fn with
  | zero => intro x1 u; exact G_none
  | succ fn ih =>
    intro x1 u
    show Go p l e s m args below meth c as dA D SHM d 2 zQi 2 [(0, .ref 0), (1, .int x1)] [] u (f_X9_firstOfLine_L2_b  (f_X9_firstOfLine_L2  fn) x1 u)
    unfold f_X9_firstOfLine_L2_b
    refine G_iload_n C 1 dX9_firstOfLine_2 rfl rfl ?_
    refine G_aload_n C 0 dX9_firstOfLine_3 rfl rfl ?_
    refine G_getI C 2 shM_0 rfl rfl (by decide) wf9_16 dX9_firstOfLine_4 ?_
    refine G_icmp_ge (tgt := 36) C dX9_firstOfLine_7 (by decide) (fun _ => ?_) (fun _ => ?_)
    · refine G_bipush (v := -5) C dX9_firstOfLine_36 (by decide) ?_
      exact G_iret C dX9_firstOfLine_38
    · refine G_aload_n C 0 dX9_firstOfLine_10 rfl rfl ?_
      refine G_aload_n C 0 dX9_firstOfLine_11 rfl rfl ?_
      refine G_getR (j := 21) C 36 shM_0 rfl rfl (by decide) wf9_120 dX9_firstOfLine_12 ?_
      refine G_iload_n C 1 dX9_firstOfLine_15 rfl rfl ?_
      refine G_iald C shM_21 dX9_firstOfLine_16 (fun hb1 => ?_)
      refine G_callVi C (m_X9_isDone (gI u 21 x1.toNatClampNeg) u (d - 1) (by omega)) (d' := d - 1) (As := [.int (gI u 21 x1.toNatClampNeg)]) (by omega) rfl wm9_341 wwX9_isDone shM_0 rfl (Nat.le_of_ble_eq_true rfl) dX9_firstOfLine_17 (fun y2 u3 => ?_)
      refine G_if_ne (tgt := 30) C dX9_firstOfLine_20 (by decide) (fun _ => ?_) (fun _ => ?_)
      · refine G_iinc (v := 1) (L' := [(1, .int (x1 + (1 : Int32))), (0, .ref 0)]) C 1 dX9_firstOfLine_30 rfl (by decide) (by decide) rfl ?_
        refine G_goto (tgt := 2) C dX9_firstOfLine_33 (by decide) ?_
        refine G_locals [1, 0] rfl ?_
        exact ih (x1 + (1 : Int32)) u3
      · refine G_aload_n C 0 dX9_firstOfLine_23 rfl rfl ?_
        refine G_getR (j := 21) C 36 shM_0 rfl rfl (by decide) wf9_120 dX9_firstOfLine_24 ?_
        refine G_iload_n C 1 dX9_firstOfLine_27 rfl rfl ?_
        refine G_iald C shM_21 dX9_firstOfLine_28 (fun hb4 => ?_)
        exact G_iret C dX9_firstOfLine_29
set_option maxRecDepth 20000 in
theorem go_X9_firstOfLine {p : Program} {l : Launch} {e : Env} {s : State} {m : MethodId} {args : Array Value} {below : List Frame} {meth : Method} {c : Code} {as : Nat → Nat} {dA : Nat → ClassId} {D : va_G} {d : Nat}  (C : zCx p s m args meth c as dA D SHM d 2 yX9_firstOfLine.cls cX9_firstOfLine ((some FieldType.int))) (hd : 2 ≤ d) : ∀ (u : zM), Go p l e s m args below meth c as dA D SHM d 2 zQi 0 [(0, .ref 0)] [] u (f_X9_firstOfLine  u) := by
  intro u
  unfold f_X9_firstOfLine
  refine G_iconst (v := 0) C dX9_firstOfLine_0 (by decide) ?_
  refine G_istore_n (L' := [(1, .int (0 : Int32)), (0, .ref 0)]) C dX9_firstOfLine_1 rfl (by decide) rfl ?_
  refine G_locals [1, 0] rfl ?_
  exact go_X9_firstOfLine_L2 C hd 400 (0 : Int32) u
theorem m_X9_firstOfLine    (u : zM) (d : Nat) (hd : 2 ≤ d) : zMet zQi SHM yX9_firstOfLine cX9_firstOfLine 2 ((some FieldType.int)) d [.ref 0] u (f_X9_firstOfLine  u) :=
  zMet_of (by decide +kernel) (fun as => Nat.le_of_ble_eq_true rfl) wwX9_firstOfLine.2.2.2.1 (by omega) (fun p l e s m args below meth c as dA D C => go_X9_firstOfLine C hd u)
/-! private int doneInTime(int) -/
def f_X9_doneInTime_L109_b (p1 : Int32) (rc : Int32 → Int32 → Int32 → zM → Option (Int32 × zM)) (x2 : Int32) (x3 : Int32) (x4 : Int32) (u : zM) : Option (Int32 × zM) :=
  (if (gI u 0 2) ≤ x4 then some (x3, u) else zb (f_X9_has x2 x4 u) fun y7 u8 => (if y7 = (0 : Int32) then zlx (x3 + (0 : Int32)) fun v9 => rc x2 v9 (x4 + (1 : Int32)) u8 else zlx (x3 + (1 : Int32)) fun v10 => rc x2 v10 (x4 + (1 : Int32)) u8))
def f_X9_doneInTime_L109 (p1 : Int32) : Nat → Int32 → Int32 → Int32 → zM → Option (Int32 × zM)
  | 0 => fun _ _ _ _ => none
  | fn + 1 => f_X9_doneInTime_L109_b p1 (f_X9_doneInTime_L109 p1 fn)
def f_X9_doneInTime_L37_b (p1 : Int32) (k11 : Int32 → Int32 → zM → Option (Int32 × zM)) (rc : Int32 → Int32 → Int32 → Int32 → zM → Option (Int32 × zM)) (x2 : Int32) (x3 : Int32) (x4 : Int32) (x5 : Int32) (u : zM) : Option (Int32 × zM) :=
  (if (gI u 0 2) ≤ x5 then k11 x2 (x3 + (1 : Int32)) u else zb (f_X9_isDone x5 u) fun y18 u19 => (if y18 = (0 : Int32) then zlx (x2 ||| (0 : Int32)) fun v20 => rc v20 x3 x4 (x5 + (1 : Int32)) u19 else zb (f_X9_has x4 x5 u19) fun y21 u22 => (if y21 = (0 : Int32) then zck (inB x5 4) <| (if (gI u22 6 x5.toNatClampNeg) < x3 then zlx (x2 ||| (0 : Int32)) fun v25 => rc v25 x3 x4 (x5 + (1 : Int32)) u22 else zlx (x2 ||| ((1 : Int32) <<< (x5 &&& 31))) fun v26 => rc v26 x3 x4 (x5 + (1 : Int32)) u22) else zlx (x2 ||| (0 : Int32)) fun v23 => rc v23 x3 x4 (x5 + (1 : Int32)) u22)))
def f_X9_doneInTime_L37 (p1 : Int32) (k11 : Int32 → Int32 → zM → Option (Int32 × zM)) : Nat → Int32 → Int32 → Int32 → Int32 → zM → Option (Int32 × zM)
  | 0 => fun _ _ _ _ _ => none
  | fn + 1 => f_X9_doneInTime_L37_b p1 k11 (f_X9_doneInTime_L37 p1 k11 fn)
def f_X9_doneInTime_L11_b (p1 : Int32) (rc : Int32 → Int32 → zM → Option (Int32 × zM)) (x2 : Int32) (x3 : Int32) (u : zM) : Option (Int32 × zM) :=
  (if p1 < x3 then zb (f_X9_putBack u) fun _ u6 => f_X9_doneInTime_L109 p1 400 x2 (0 : Int32) (0 : Int32) u6 else zb (f_X9_doneSet u) fun y11 u12 => zb (f_X9_firstOfLine u12) fun y13 u14 => zlet (sI u14 0 3 y13) fun u15 => zb (f_X9_goMinute u15) fun _ u17 => f_X9_doneInTime_L37 p1 rc 400 x2 x3 y11 (0 : Int32) u17)
def f_X9_doneInTime_L11 (p1 : Int32) : Nat → Int32 → Int32 → zM → Option (Int32 × zM)
  | 0 => fun _ _ _ => none
  | fn + 1 => f_X9_doneInTime_L11_b p1 (f_X9_doneInTime_L11 p1 fn)
def f_X9_doneInTime (p1 : Int32) (u : zM) : Option (Int32 × zM) :=
  zb (f_X9_save u) fun _ u2 => zb (f_X9_doneSet u2) fun y3 u4 => f_X9_doneInTime_L11 p1 400 y3 (1 : Int32) u4
set_option maxRecDepth 20000 in
theorem go_X9_doneInTime_L109 {p : Program} {l : Launch} {e : Env} {s : State} {m : MethodId} {args : Array Value} {below : List Frame} {meth : Method} {c : Code} {as : Nat → Nat} {dA : Nat → ClassId} {D : va_G} {d : Nat} {p1 : Int32} (C : zCx p s m args meth c as dA D SHM d 6 yX9_doneInTime.cls cX9_doneInTime ((some FieldType.int))) (hd : 8 ≤ d) : ∀ (fn : Nat) (x2 : Int32) (x3 : Int32) (x4 : Int32) (u : zM), Go p l e s m args below meth c as dA D SHM d 6 zQi 109 [(0, .ref 0), (1, .int p1), (2, .int x2), (3, .int x3), (4, .int x4)] [] u (f_X9_doneInTime_L109 p1 fn x2 x3 x4 u) := by
  intro fn
  induction fn with
  | zero => intro x2 x3 x4 u; exact G_none
  | succ fn ih =>
    intro x2 x3 x4 u
    show Go p l e s m args below meth c as dA D SHM d 6 zQi 109 [(0, .ref 0), (1, .int p1), (2, .int x2), (3, .int x3), (4, .int x4)] [] u (f_X9_doneInTime_L109_b p1 (f_X9_doneInTime_L109 p1 fn) x2 x3 x4 u)
    unfold f_X9_doneInTime_L109_b
    refine G_iload C 4 dX9_doneInTime_109 rfl ?_
    refine G_aload_n C 0 dX9_doneInTime_111 rfl rfl ?_
    refine G_getI C 2 shM_0 rfl rfl (by decide) wf9_16 dX9_doneInTime_112 ?_
    refine G_icmp_ge (tgt := 142) C dX9_doneInTime_115 (by decide) (fun _ => ?_) (fun _ => ?_)
    · refine G_iload_n C 3 dX9_doneInTime_142 rfl rfl ?_
      exact G_iret C dX9_doneInTime_143
    · refine G_iload_n C 3 dX9_doneInTime_118 rfl rfl ?_
      refine G_aload_n C 0 dX9_doneInTime_119 rfl rfl ?_
      refine G_iload_n C 2 dX9_doneInTime_120 rfl rfl ?_
      refine G_iload C 4 dX9_doneInTime_121 rfl ?_
      refine G_callVi C (m_X9_has x2 x4 u (d - 1) (by omega)) (d' := d - 1) (As := [.int x2, .int x4]) (by omega) rfl wm9_263 wwX9_has shM_0 rfl (Nat.le_of_ble_eq_true rfl) dX9_doneInTime_123 (fun y7 u8 => ?_)
      refine G_if_eq (tgt := 133) C dX9_doneInTime_126 (by decide) (fun _ => ?_) (fun _ => ?_)
      · refine G_iconst (v := 0) C dX9_doneInTime_133 (by decide) ?_
        refine G_iadd C dX9_doneInTime_134 ?_
        refine G_topi (fun v9 => ?_)
        refine G_istore_n (L' := [(3, .int v9), (0, .ref 0), (1, .int p1), (2, .int x2), (4, .int x4)]) C dX9_doneInTime_135 rfl (by decide) rfl ?_
        refine G_iinc (v := 1) (L' := [(4, .int (x4 + (1 : Int32))), (3, .int v9), (0, .ref 0), (1, .int p1), (2, .int x2)]) C 4 dX9_doneInTime_136 rfl (by decide) (by decide) rfl ?_
        refine G_goto (tgt := 109) C dX9_doneInTime_139 (by decide) ?_
        refine G_locals [2, 3, 4, 1, 0] rfl ?_
        exact ih x2 v9 (x4 + (1 : Int32)) u8
      · refine G_iconst (v := 1) C dX9_doneInTime_129 (by decide) ?_
        refine G_goto (tgt := 134) C dX9_doneInTime_130 (by decide) ?_
        refine G_iadd C dX9_doneInTime_134 ?_
        refine G_topi (fun v10 => ?_)
        refine G_istore_n (L' := [(3, .int v10), (0, .ref 0), (1, .int p1), (2, .int x2), (4, .int x4)]) C dX9_doneInTime_135 rfl (by decide) rfl ?_
        refine G_iinc (v := 1) (L' := [(4, .int (x4 + (1 : Int32))), (3, .int v10), (0, .ref 0), (1, .int p1), (2, .int x2)]) C 4 dX9_doneInTime_136 rfl (by decide) (by decide) rfl ?_
        refine G_goto (tgt := 109) C dX9_doneInTime_139 (by decide) ?_
        refine G_locals [2, 3, 4, 1, 0] rfl ?_
        exact ih x2 v10 (x4 + (1 : Int32)) u8
set_option maxRecDepth 20000 in
theorem go_X9_doneInTime_L37 {p : Program} {l : Launch} {e : Env} {s : State} {m : MethodId} {args : Array Value} {below : List Frame} {meth : Method} {c : Code} {as : Nat → Nat} {dA : Nat → ClassId} {D : va_G} {d : Nat} {p1 : Int32} (C : zCx p s m args meth c as dA D SHM d 6 yX9_doneInTime.cls cX9_doneInTime ((some FieldType.int))) (hd : 8 ≤ d) {k11 : Int32 → Int32 → zM → Option (Int32 × zM)} (hk11 : ∀ (x2 : Int32) (x3 : Int32) (u : zM), Go p l e s m args below meth c as dA D SHM d 6 zQi 11 [(0, .ref 0), (1, .int p1), (2, .int x2), (3, .int x3)] [] u (k11 x2 x3 u)) : ∀ (fn : Nat) (x2 : Int32) (x3 : Int32) (x4 : Int32) (x5 : Int32) (u : zM), Go p l e s m args below meth c as dA D SHM d 6 zQi 37 [(0, .ref 0), (1, .int p1), (2, .int x2), (3, .int x3), (4, .int x4), (5, .int x5)] [] u (f_X9_doneInTime_L37 p1 k11 fn x2 x3 x4 x5 u) := by
  intro fn
  induction fn with
  | zero => intro x2 x3 x4 x5 u; exact G_none
  | succ fn ih =>
    intro x2 x3 x4 x5 u
    show Go p l e s m args below meth c as dA D SHM d 6 zQi 37 [(0, .ref 0), (1, .int p1), (2, .int x2), (3, .int x3), (4, .int x4), (5, .int x5)] [] u (f_X9_doneInTime_L37_b p1 k11 (f_X9_doneInTime_L37 p1 k11 fn) x2 x3 x4 x5 u)
    unfold f_X9_doneInTime_L37_b
    refine G_iload C 5 dX9_doneInTime_37 rfl ?_
    refine G_aload_n C 0 dX9_doneInTime_39 rfl rfl ?_
    refine G_getI C 2 shM_0 rfl rfl (by decide) wf9_16 dX9_doneInTime_40 ?_
    refine G_icmp_ge (tgt := 94) C dX9_doneInTime_43 (by decide) (fun _ => ?_) (fun _ => ?_)
    · refine G_iinc (v := 1) (L' := [(3, .int (x3 + (1 : Int32))), (0, .ref 0), (1, .int p1), (2, .int x2), (4, .int x4), (5, .int x5)]) C 3 dX9_doneInTime_94 rfl (by decide) (by decide) rfl ?_
      refine G_goto (tgt := 11) C dX9_doneInTime_97 (by decide) ?_
      refine G_locals [1, 2, 3, 0] rfl ?_
      exact hk11 x2 (x3 + (1 : Int32)) u
    · refine G_iload_n C 2 dX9_doneInTime_46 rfl rfl ?_
      refine G_aload_n C 0 dX9_doneInTime_47 rfl rfl ?_
      refine G_iload C 5 dX9_doneInTime_48 rfl ?_
      refine G_callVi C (m_X9_isDone x5 u (d - 1) (by omega)) (d' := d - 1) (As := [.int x5]) (by omega) rfl wm9_341 wwX9_isDone shM_0 rfl (Nat.le_of_ble_eq_true rfl) dX9_doneInTime_50 (fun y18 u19 => ?_)
      refine G_if_eq (tgt := 85) C dX9_doneInTime_53 (by decide) (fun _ => ?_) (fun _ => ?_)
      · refine G_iconst (v := 0) C dX9_doneInTime_85 (by decide) ?_
        refine G_ior C dX9_doneInTime_86 ?_
        refine G_topi (fun v20 => ?_)
        refine G_istore_n (L' := [(2, .int v20), (0, .ref 0), (1, .int p1), (3, .int x3), (4, .int x4), (5, .int x5)]) C dX9_doneInTime_87 rfl (by decide) rfl ?_
        refine G_iinc (v := 1) (L' := [(5, .int (x5 + (1 : Int32))), (2, .int v20), (0, .ref 0), (1, .int p1), (3, .int x3), (4, .int x4)]) C 5 dX9_doneInTime_88 rfl (by decide) (by decide) rfl ?_
        refine G_goto (tgt := 37) C dX9_doneInTime_91 (by decide) ?_
        refine G_locals [2, 3, 1, 4, 5, 0] rfl ?_
        exact ih v20 x3 x4 (x5 + (1 : Int32)) u19
      · refine G_aload_n C 0 dX9_doneInTime_56 rfl rfl ?_
        refine G_iload C 4 dX9_doneInTime_57 rfl ?_
        refine G_iload C 5 dX9_doneInTime_59 rfl ?_
        refine G_callVi C (m_X9_has x4 x5 u19 (d - 1) (by omega)) (d' := d - 1) (As := [.int x4, .int x5]) (by omega) rfl wm9_263 wwX9_has shM_0 rfl (Nat.le_of_ble_eq_true rfl) dX9_doneInTime_61 (fun y21 u22 => ?_)
        refine G_if_ne (tgt := 85) C dX9_doneInTime_64 (by decide) (fun _ => ?_) (fun _ => ?_)
        · refine G_iconst (v := 0) C dX9_doneInTime_85 (by decide) ?_
          refine G_ior C dX9_doneInTime_86 ?_
          refine G_topi (fun v23 => ?_)
          refine G_istore_n (L' := [(2, .int v23), (0, .ref 0), (1, .int p1), (3, .int x3), (4, .int x4), (5, .int x5)]) C dX9_doneInTime_87 rfl (by decide) rfl ?_
          refine G_iinc (v := 1) (L' := [(5, .int (x5 + (1 : Int32))), (2, .int v23), (0, .ref 0), (1, .int p1), (3, .int x3), (4, .int x4)]) C 5 dX9_doneInTime_88 rfl (by decide) (by decide) rfl ?_
          refine G_goto (tgt := 37) C dX9_doneInTime_91 (by decide) ?_
          refine G_locals [2, 3, 1, 4, 5, 0] rfl ?_
          exact ih v23 x3 x4 (x5 + (1 : Int32)) u22
        · refine G_iload_n C 3 dX9_doneInTime_67 rfl rfl ?_
          refine G_aload_n C 0 dX9_doneInTime_68 rfl rfl ?_
          refine G_getR (j := 6) C 10 shM_0 rfl rfl (by decide) wf9_41 dX9_doneInTime_69 ?_
          refine G_iload C 5 dX9_doneInTime_72 rfl ?_
          refine G_iald C shM_6 dX9_doneInTime_74 (fun hb24 => ?_)
          refine G_icmp_gt (tgt := 85) C dX9_doneInTime_75 (by decide) (fun _ => ?_) (fun _ => ?_)
          · refine G_iconst (v := 0) C dX9_doneInTime_85 (by decide) ?_
            refine G_ior C dX9_doneInTime_86 ?_
            refine G_topi (fun v25 => ?_)
            refine G_istore_n (L' := [(2, .int v25), (0, .ref 0), (1, .int p1), (3, .int x3), (4, .int x4), (5, .int x5)]) C dX9_doneInTime_87 rfl (by decide) rfl ?_
            refine G_iinc (v := 1) (L' := [(5, .int (x5 + (1 : Int32))), (2, .int v25), (0, .ref 0), (1, .int p1), (3, .int x3), (4, .int x4)]) C 5 dX9_doneInTime_88 rfl (by decide) (by decide) rfl ?_
            refine G_goto (tgt := 37) C dX9_doneInTime_91 (by decide) ?_
            refine G_locals [2, 3, 1, 4, 5, 0] rfl ?_
            exact ih v25 x3 x4 (x5 + (1 : Int32)) u22
          · refine G_iconst (v := 1) C dX9_doneInTime_78 (by decide) ?_
            refine G_iload C 5 dX9_doneInTime_79 rfl ?_
            refine G_ishl C dX9_doneInTime_81 ?_
            refine G_goto (tgt := 86) C dX9_doneInTime_82 (by decide) ?_
            refine G_ior C dX9_doneInTime_86 ?_
            refine G_topi (fun v26 => ?_)
            refine G_istore_n (L' := [(2, .int v26), (0, .ref 0), (1, .int p1), (3, .int x3), (4, .int x4), (5, .int x5)]) C dX9_doneInTime_87 rfl (by decide) rfl ?_
            refine G_iinc (v := 1) (L' := [(5, .int (x5 + (1 : Int32))), (2, .int v26), (0, .ref 0), (1, .int p1), (3, .int x3), (4, .int x4)]) C 5 dX9_doneInTime_88 rfl (by decide) (by decide) rfl ?_
            refine G_goto (tgt := 37) C dX9_doneInTime_91 (by decide) ?_
            refine G_locals [2, 3, 1, 4, 5, 0] rfl ?_
            exact ih v26 x3 x4 (x5 + (1 : Int32)) u22
set_option maxRecDepth 20000 in
theorem go_X9_doneInTime_L11 {p : Program} {l : Launch} {e : Env} {s : State} {m : MethodId} {args : Array Value} {below : List Frame} {meth : Method} {c : Code} {as : Nat → Nat} {dA : Nat → ClassId} {D : va_G} {d : Nat} {p1 : Int32} (C : zCx p s m args meth c as dA D SHM d 6 yX9_doneInTime.cls cX9_doneInTime ((some FieldType.int))) (hd : 8 ≤ d) : ∀ (fn : Nat) (x2 : Int32) (x3 : Int32) (u : zM), Go p l e s m args below meth c as dA D SHM d 6 zQi 11 [(0, .ref 0), (1, .int p1), (2, .int x2), (3, .int x3)] [] u (f_X9_doneInTime_L11 p1 fn x2 x3 u) := by
  intro fn
  induction fn with
  | zero => intro x2 x3 u; exact G_none
  | succ fn ih =>
    intro x2 x3 u
    show Go p l e s m args below meth c as dA D SHM d 6 zQi 11 [(0, .ref 0), (1, .int p1), (2, .int x2), (3, .int x3)] [] u (f_X9_doneInTime_L11_b p1 (f_X9_doneInTime_L11 p1 fn) x2 x3 u)
    unfold f_X9_doneInTime_L11_b
    refine G_iload_n C 3 dX9_doneInTime_11 rfl rfl ?_
    refine G_iload_n C 1 dX9_doneInTime_12 rfl rfl ?_
    refine G_icmp_gt (tgt := 100) C dX9_doneInTime_13 (by decide) (fun _ => ?_) (fun _ => ?_)
    · refine G_aload_n C 0 dX9_doneInTime_100 rfl rfl ?_
      refine G_callVv C (m_X9_putBack u (d - 1) (by omega)) (d' := d - 1) (As := []) (by omega) rfl wm9_371 wwX9_putBack shM_0 rfl (Nat.le_of_ble_eq_true rfl) dX9_doneInTime_101 (fun y5 u6 => ?_)
      refine G_iconst (v := 0) C dX9_doneInTime_104 (by decide) ?_
      refine G_istore_n (L' := [(3, .int (0 : Int32)), (0, .ref 0), (1, .int p1), (2, .int x2)]) C dX9_doneInTime_105 rfl (by decide) rfl ?_
      refine G_iconst (v := 0) C dX9_doneInTime_106 (by decide) ?_
      refine G_istore (L' := [(4, .int (0 : Int32)), (3, .int (0 : Int32)), (0, .ref 0), (1, .int p1), (2, .int x2)]) C dX9_doneInTime_107 (by decide) rfl ?_
      refine G_locals [2, 3, 4, 1, 0] rfl ?_
      exact go_X9_doneInTime_L109 C hd 400 x2 (0 : Int32) (0 : Int32) u6
    · refine G_aload_n C 0 dX9_doneInTime_16 rfl rfl ?_
      refine G_callVi C (m_X9_doneSet u (d - 1) (by omega)) (d' := d - 1) (As := []) (by omega) rfl wm9_347 wwX9_doneSet shM_0 rfl (Nat.le_of_ble_eq_true rfl) dX9_doneInTime_17 (fun y11 u12 => ?_)
      refine G_istore (L' := [(4, .int y11), (0, .ref 0), (1, .int p1), (2, .int x2), (3, .int x3)]) C dX9_doneInTime_20 (by decide) rfl ?_
      refine G_aload_n C 1 dX9_doneInTime_22 rfl rfl ?_
      refine G_aload_n C 1 dX9_doneInTime_23 rfl rfl ?_
      refine G_callVi C (m_X9_firstOfLine u12 (d - 1) (by omega)) (d' := d - 1) (As := []) (by omega) rfl wm9_377 wwX9_firstOfLine shM_0 rfl (Nat.le_of_ble_eq_true rfl) dX9_doneInTime_24 (fun y13 u14 => ?_)
      refine G_putI (ty := .int) C 3 shM_0 rfl rfl (by decide) wf9_19 rfl (by decide +kernel) rfl rfl dX9_doneInTime_27 (fun u15 => ?_)
      refine G_aload_n C 1 dX9_doneInTime_30 rfl rfl ?_
      refine G_callVv C (m_X9_goMinute u15 (d - 1) (by omega)) (d' := d - 1) (As := []) (by omega) rfl wm9_359 wwX9_goMinute shM_0 rfl (Nat.le_of_ble_eq_true rfl) dX9_doneInTime_31 (fun y16 u17 => ?_)
      refine G_iconst (v := 0) C dX9_doneInTime_34 (by decide) ?_
      refine G_istore (L' := [(5, .int (0 : Int32)), (4, .int y11), (0, .ref 0), (1, .int p1), (2, .int x2), (3, .int x3)]) C dX9_doneInTime_35 (by decide) rfl ?_
      refine G_locals [2, 3, 4, 5, 1, 0] rfl ?_
      exact go_X9_doneInTime_L37 C hd ih 400 x2 x3 y11 (0 : Int32) u17
set_option maxRecDepth 20000 in
theorem go_X9_doneInTime {p : Program} {l : Launch} {e : Env} {s : State} {m : MethodId} {args : Array Value} {below : List Frame} {meth : Method} {c : Code} {as : Nat → Nat} {dA : Nat → ClassId} {D : va_G} {d : Nat} {p1 : Int32} (C : zCx p s m args meth c as dA D SHM d 6 yX9_doneInTime.cls cX9_doneInTime ((some FieldType.int))) (hd : 8 ≤ d) : ∀ (u : zM), Go p l e s m args below meth c as dA D SHM d 6 zQi 0 [(0, .ref 0), (1, .int p1)] [] u (f_X9_doneInTime p1 u) := by
  intro u
  unfold f_X9_doneInTime
  refine G_aload_n C 0 dX9_doneInTime_0 rfl rfl ?_
  refine G_callVv C (m_X9_save u (d - 1) (by omega)) (d' := d - 1) (As := []) (by omega) rfl wm9_368 wwX9_save shM_0 rfl (Nat.le_of_ble_eq_true rfl) dX9_doneInTime_1 (fun y1 u2 => ?_)
  refine G_aload_n C 0 dX9_doneInTime_4 rfl rfl ?_
  refine G_callVi C (m_X9_doneSet u2 (d - 1) (by omega)) (d' := d - 1) (As := []) (by omega) rfl wm9_347 wwX9_doneSet shM_0 rfl (Nat.le_of_ble_eq_true rfl) dX9_doneInTime_5 (fun y3 u4 => ?_)
  refine G_istore_n (L' := [(2, .int y3), (0, .ref 0), (1, .int p1)]) C dX9_doneInTime_8 rfl (by decide) rfl ?_
  refine G_iconst (v := 1) C dX9_doneInTime_9 (by decide) ?_
  refine G_istore_n (L' := [(3, .int (1 : Int32)), (2, .int y3), (0, .ref 0), (1, .int p1)]) C dX9_doneInTime_10 rfl (by decide) rfl ?_
  refine G_locals [2, 3, 1, 0] rfl ?_
  exact go_X9_doneInTime_L11 C hd 400 y3 (1 : Int32) u4
theorem m_X9_doneInTime   (p1 : Int32) (u : zM) (d : Nat) (hd : 8 ≤ d) : zMet zQi SHM yX9_doneInTime cX9_doneInTime 6 ((some FieldType.int)) d [.ref 0, .int p1] u (f_X9_doneInTime p1 u) :=
  zMet_of (by decide +kernel) (fun as => Nat.le_of_ble_eq_true rfl) wwX9_doneInTime.2.2.2.1 (by omega) (fun p l e s m args below meth c as dA D C => go_X9_doneInTime C hd u)
/-! public int best(int, int) -/
def f_X9_best_L101_b (p1 : Int32) (p2 : Int32) (k59 : Int32 → Int32 → Int32 → zM → Option (Int32 × zM)) (rc : Int32 → Int32 → Int32 → Int32 → zM → Option (Int32 × zM)) (x3 : Int32) (x4 : Int32) (x5 : Int32) (x7 : Int32) (u : zM) : Option (Int32 × zM) :=
  (if (4 : Int32) ≤ x7 then k59 x3 x4 (x5 + (1 : Int32)) u else zck (inB x7 4) <| zck (inB x7 4) <| zlet (sI u 22 x7.toNatClampNeg (gI u 21 x7.toNatClampNeg)) fun u11 => rc x3 x4 x5 (x7 + (1 : Int32)) u11)
def f_X9_best_L101 (p1 : Int32) (p2 : Int32) (k59 : Int32 → Int32 → Int32 → zM → Option (Int32 × zM)) : Nat → Int32 → Int32 → Int32 → Int32 → zM → Option (Int32 × zM)
  | 0 => fun _ _ _ _ _ => none
  | fn + 1 => f_X9_best_L101_b p1 p2 k59 (f_X9_best_L101 p1 p2 k59 fn)
def f_X9_best_L59_b (p1 : Int32) (p2 : Int32) (rc : Int32 → Int32 → Int32 → zM → Option (Int32 × zM)) (x3 : Int32) (x4 : Int32) (x5 : Int32) (u : zM) : Option (Int32 × zM) :=
  (if x3 ≤ x5 then (if (0 : Int32) ≤ p2 then (if (gI u 0 2) ≤ p2 then some ((-5 : Int32), u) else zck (inB p2 4) <| some ((gI u 22 p2.toNatClampNeg), u)) else some (x4, u)) else zb (f_X9_layLine x5 u) fun y6 u7 => (if y6 = (0 : Int32) then rc x3 x4 (x5 + (1 : Int32)) u7 else zb (f_X9_doneInTime p1 u7) fun y8 u9 => (if x4 < y8 then f_X9_best_L101 p1 p2 rc 400 x3 y8 x5 (0 : Int32) u9 else rc x3 x4 (x5 + (1 : Int32)) u9)))
def f_X9_best_L59 (p1 : Int32) (p2 : Int32) : Nat → Int32 → Int32 → Int32 → zM → Option (Int32 × zM)
  | 0 => fun _ _ _ _ => none
  | fn + 1 => f_X9_best_L59_b p1 p2 (f_X9_best_L59 p1 p2 fn)
def f_X9_best_L31_b (p1 : Int32) (p2 : Int32) (rc : Int32 → Int32 → zM → Option (Int32 × zM)) (x3 : Int32) (x4 : Int32) (u : zM) : Option (Int32 × zM) :=
  (if (gI u 0 2) ≤ x4 then f_X9_best_L59 p1 p2 400 x3 (-1 : Int32) (0 : Int32) u else zlx (x3 * (gI u 0 2)) fun v12 => rc v12 (x4 + (1 : Int32)) u)
def f_X9_best_L31 (p1 : Int32) (p2 : Int32) : Nat → Int32 → Int32 → zM → Option (Int32 × zM)
  | 0 => fun _ _ _ => none
  | fn + 1 => f_X9_best_L31_b p1 p2 (f_X9_best_L31 p1 p2 fn)
def f_X9_best (p1 : Int32) (p2 : Int32) (u : zM) : Option (Int32 × zM) :=
  zb (f_X9_in p2 (-1 : Int32) (3 : Int32) u) fun y1 u2 => (if y1 = (0 : Int32) then some ((-1 : Int32), u2) else zb (f_X9_in p1 (0 : Int32) (40 : Int32) u2) fun y3 u4 => (if y3 = (0 : Int32) then some ((-2 : Int32), u4) else f_X9_best_L31 p1 p2 400 (1 : Int32) (0 : Int32) u4))
set_option maxRecDepth 20000 in
theorem go_X9_best_L101 {p : Program} {l : Launch} {e : Env} {s : State} {m : MethodId} {args : Array Value} {below : List Frame} {meth : Method} {c : Code} {as : Nat → Nat} {dA : Nat → ClassId} {D : va_G} {d : Nat} {p1 : Int32} {p2 : Int32} (C : zCx p s m args meth c as dA D SHM d 8 yX9_best.cls cX9_best ((some FieldType.int))) (hd : 9 ≤ d) {k59 : Int32 → Int32 → Int32 → zM → Option (Int32 × zM)} (hk59 : ∀ (x3 : Int32) (x4 : Int32) (x5 : Int32) (u : zM), Go p l e s m args below meth c as dA D SHM d 8 zQi 59 [(0, .ref 0), (1, .int p1), (2, .int p2), (3, .int x3), (4, .int x4), (5, .int x5)] [] u (k59 x3 x4 x5 u)) : ∀ (fn : Nat) (x3 : Int32) (x4 : Int32) (x5 : Int32) (x7 : Int32) (u : zM), Go p l e s m args below meth c as dA D SHM d 8 zQi 101 [(0, .ref 0), (1, .int p1), (2, .int p2), (3, .int x3), (4, .int x4), (5, .int x5), (7, .int x7)] [] u (f_X9_best_L101 p1 p2 k59 fn x3 x4 x5 x7 u) := by
  intro fn
  induction fn with
  | zero => intro x3 x4 x5 x7 u; exact G_none
  | succ fn ih =>
    intro x3 x4 x5 x7 u
    show Go p l e s m args below meth c as dA D SHM d 8 zQi 101 [(0, .ref 0), (1, .int p1), (2, .int p2), (3, .int x3), (4, .int x4), (5, .int x5), (7, .int x7)] [] u (f_X9_best_L101_b p1 p2 k59 (f_X9_best_L101 p1 p2 k59 fn) x3 x4 x5 x7 u)
    unfold f_X9_best_L101_b
    refine G_iload C 6 dX9_best_101 rfl ?_
    refine G_iconst (v := 4) C dX9_best_103 (by decide) ?_
    refine G_icmp_ge (tgt := 127) C dX9_best_104 (by decide) (fun _ => ?_) (fun _ => ?_)
    · refine G_iinc (v := 1) (L' := [(5, .int (x5 + (1 : Int32))), (0, .ref 0), (1, .int p1), (2, .int p2), (3, .int x3), (4, .int x4), (7, .int x7)]) C 5 dX9_best_127 rfl (by decide) (by decide) rfl ?_
      refine G_goto (tgt := 59) C dX9_best_130 (by decide) ?_
      refine G_locals [1, 2, 3, 4, 5, 0] rfl ?_
      exact hk59 x3 x4 (x5 + (1 : Int32)) u
    · refine G_aload_n C 0 dX9_best_107 rfl rfl ?_
      refine G_getR (j := 22) C 37 shM_0 rfl rfl (by decide) wf9_123 dX9_best_108 ?_
      refine G_iload C 6 dX9_best_111 rfl ?_
      refine G_aload_n C 0 dX9_best_113 rfl rfl ?_
      refine G_getR (j := 21) C 36 shM_0 rfl rfl (by decide) wf9_120 dX9_best_114 ?_
      refine G_iload C 6 dX9_best_117 rfl ?_
      refine G_iald C shM_21 dX9_best_119 (fun hb10 => ?_)
      refine G_iast C shM_22 dX9_best_120 (fun _ u11 => ?_)
      refine G_iinc (v := 1) (L' := [(7, .int (x7 + (1 : Int32))), (0, .ref 0), (1, .int p1), (2, .int p2), (3, .int x3), (4, .int x4), (5, .int x5)]) C 6 dX9_best_121 rfl (by decide) (by decide) rfl ?_
      refine G_goto (tgt := 101) C dX9_best_124 (by decide) ?_
      refine G_locals [1, 2, 3, 4, 5, 6, 0] rfl ?_
      exact ih x3 x4 x5 (x7 + (1 : Int32)) u11
set_option maxRecDepth 20000 in
theorem go_X9_best_L59 {p : Program} {l : Launch} {e : Env} {s : State} {m : MethodId} {args : Array Value} {below : List Frame} {meth : Method} {c : Code} {as : Nat → Nat} {dA : Nat → ClassId} {D : va_G} {d : Nat} {p1 : Int32} {p2 : Int32} (C : zCx p s m args meth c as dA D SHM d 8 yX9_best.cls cX9_best ((some FieldType.int))) (hd : 9 ≤ d) : ∀ (fn : Nat) (x3 : Int32) (x4 : Int32) (x5 : Int32) (u : zM), Go p l e s m args below meth c as dA D SHM d 8 zQi 59 [(0, .ref 0), (1, .int p1), (2, .int p2), (3, .int x3), (4, .int x4), (5, .int x5)] [] u (f_X9_best_L59 p1 p2 fn x3 x4 x5 u) := by
  intro fn
  induction fn with
  | zero => intro x3 x4 x5 u; exact G_none
  | succ fn ih =>
    intro x3 x4 x5 u
    show Go p l e s m args below meth c as dA D SHM d 8 zQi 59 [(0, .ref 0), (1, .int p1), (2, .int p2), (3, .int x3), (4, .int x4), (5, .int x5)] [] u (f_X9_best_L59_b p1 p2 (f_X9_best_L59 p1 p2 fn) x3 x4 x5 u)
    unfold f_X9_best_L59_b
    refine G_iload C 5 dX9_best_59 rfl ?_
    refine G_iload_n C 3 dX9_best_61 rfl rfl ?_
    refine G_icmp_ge (tgt := 133) C dX9_best_62 (by decide) (fun _ => ?_) (fun _ => ?_)
    · refine G_iload_n C 2 dX9_best_133 rfl rfl ?_
      refine G_if_ge (tgt := 140) C dX9_best_134 (by decide) (fun _ => ?_) (fun _ => ?_)
      · refine G_iload_n C 2 dX9_best_140 rfl rfl ?_
        refine G_aload_n C 0 dX9_best_141 rfl rfl ?_
        refine G_getI C 2 shM_0 rfl rfl (by decide) wf9_16 dX9_best_142 ?_
        refine G_icmp_ge (tgt := 157) C dX9_best_145 (by decide) (fun _ => ?_) (fun _ => ?_)
        · refine G_bipush (v := -5) C dX9_best_157 (by decide) ?_
          exact G_iret C dX9_best_159
        · refine G_aload_n C 0 dX9_best_148 rfl rfl ?_
          refine G_getR (j := 22) C 37 shM_0 rfl rfl (by decide) wf9_123 dX9_best_149 ?_
          refine G_iload_n C 2 dX9_best_152 rfl rfl ?_
          refine G_iald C shM_22 dX9_best_153 (fun hb5 => ?_)
          refine G_goto (tgt := 159) C dX9_best_154 (by decide) ?_
          exact G_iret C dX9_best_159
      · refine G_iload C 4 dX9_best_137 rfl ?_
        exact G_iret C dX9_best_139
    · refine G_aload_n C 0 dX9_best_65 rfl rfl ?_
      refine G_iload C 5 dX9_best_66 rfl ?_
      refine G_callVi C (m_X9_layLine x5 u (d - 1) (by omega)) (d' := d - 1) (As := [.int x5]) (by omega) rfl wm9_380 wwX9_layLine shM_0 rfl (Nat.le_of_ble_eq_true rfl) dX9_best_68 (fun y6 u7 => ?_)
      refine G_if_ne (tgt := 77) C dX9_best_71 (by decide) (fun _ => ?_) (fun _ => ?_)
      · refine G_aload_n C 0 dX9_best_77 rfl rfl ?_
        refine G_iload_n C 1 dX9_best_78 rfl rfl ?_
        refine G_callVi C (m_X9_doneInTime p1 u7 (d - 1) (by omega)) (d' := d - 1) (As := [.int p1]) (by omega) rfl wm9_383 wwX9_doneInTime shM_0 rfl (Nat.le_of_ble_eq_true rfl) dX9_best_79 (fun y8 u9 => ?_)
        refine G_istore (L' := [(6, .int y8), (0, .ref 0), (1, .int p1), (2, .int p2), (3, .int x3), (4, .int x4), (5, .int x5)]) C dX9_best_82 (by decide) rfl ?_
        refine G_iload C 0 dX9_best_84 rfl ?_
        refine G_iload C 5 dX9_best_86 rfl ?_
        refine G_icmp_gt (tgt := 94) C dX9_best_88 (by decide) (fun _ => ?_) (fun _ => ?_)
        · refine G_iload C 0 dX9_best_94 rfl ?_
          refine G_istore (L' := [(4, .int y8), (6, .int y8), (0, .ref 0), (1, .int p1), (2, .int p2), (3, .int x3), (5, .int x5)]) C dX9_best_96 (by decide) rfl ?_
          refine G_iconst (v := 0) C dX9_best_98 (by decide) ?_
          refine G_istore (L' := [(7, .int (0 : Int32)), (4, .int y8), (6, .int y8), (0, .ref 0), (1, .int p1), (2, .int p2), (3, .int x3), (5, .int x5)]) C dX9_best_99 (by decide) rfl ?_
          refine G_locals [3, 4, 5, 6, 1, 7, 0] rfl ?_
          exact go_X9_best_L101 C hd ih 400 x3 y8 x5 (0 : Int32) u9
        · refine G_goto (tgt := 127) C dX9_best_91 (by decide) ?_
          refine G_iinc (v := 1) (L' := [(5, .int (x5 + (1 : Int32))), (6, .int y8), (0, .ref 0), (1, .int p1), (2, .int p2), (3, .int x3), (4, .int x4)]) C 6 dX9_best_127 rfl (by decide) (by decide) rfl ?_
          refine G_goto (tgt := 59) C dX9_best_130 (by decide) ?_
          refine G_locals [2, 3, 4, 5, 6, 0] rfl ?_
          exact ih x3 x4 (x5 + (1 : Int32)) u9
      · refine G_goto (tgt := 127) C dX9_best_74 (by decide) ?_
        refine G_iinc (v := 1) (L' := [(5, .int (x5 + (1 : Int32))), (0, .ref 0), (1, .int p1), (2, .int p2), (3, .int x3), (4, .int x4)]) C 5 dX9_best_127 rfl (by decide) (by decide) rfl ?_
        refine G_goto (tgt := 59) C dX9_best_130 (by decide) ?_
        refine G_locals [1, 2, 3, 4, 5, 0] rfl ?_
        exact ih x3 x4 (x5 + (1 : Int32)) u7
set_option maxRecDepth 20000 in
theorem go_X9_best_L31 {p : Program} {l : Launch} {e : Env} {s : State} {m : MethodId} {args : Array Value} {below : List Frame} {meth : Method} {c : Code} {as : Nat → Nat} {dA : Nat → ClassId} {D : va_G} {d : Nat} {p1 : Int32} {p2 : Int32} (C : zCx p s m args meth c as dA D SHM d 8 yX9_best.cls cX9_best ((some FieldType.int))) (hd : 9 ≤ d) : ∀ (fn : Nat) (x3 : Int32) (x4 : Int32) (u : zM), Go p l e s m args below meth c as dA D SHM d 8 zQi 31 [(0, .ref 0), (1, .int p1), (2, .int p2), (3, .int x3), (4, .int x4)] [] u (f_X9_best_L31 p1 p2 fn x3 x4 u) := by
  intro fn
  induction fn with
  | zero => intro x3 x4 u; exact G_none
  | succ fn ih =>
    intro x3 x4 u
    show Go p l e s m args below meth c as dA D SHM d 8 zQi 31 [(0, .ref 0), (1, .int p1), (2, .int p2), (3, .int x3), (4, .int x4)] [] u (f_X9_best_L31_b p1 p2 (f_X9_best_L31 p1 p2 fn) x3 x4 u)
    unfold f_X9_best_L31_b
    refine G_iload C 4 dX9_best_31 rfl ?_
    refine G_aload_n C 0 dX9_best_33 rfl rfl ?_
    refine G_getI C 2 shM_0 rfl rfl (by decide) wf9_16 dX9_best_34 ?_
    refine G_icmp_ge (tgt := 53) C dX9_best_37 (by decide) (fun _ => ?_) (fun _ => ?_)
    · refine G_iconst (v := -1) C dX9_best_53 (by decide) ?_
      refine G_istore (L' := [(4, .int (-1 : Int32)), (0, .ref 0), (1, .int p1), (2, .int p2), (3, .int x3)]) C dX9_best_54 (by decide) rfl ?_
      refine G_iconst (v := 0) C dX9_best_56 (by decide) ?_
      refine G_istore (L' := [(5, .int (0 : Int32)), (4, .int (-1 : Int32)), (0, .ref 0), (1, .int p1), (2, .int p2), (3, .int x3)]) C dX9_best_57 (by decide) rfl ?_
      refine G_locals [2, 3, 4, 5, 1, 0] rfl ?_
      exact go_X9_best_L59 C hd 400 x3 (-1 : Int32) (0 : Int32) u
    · refine G_iload_n C 3 dX9_best_40 rfl rfl ?_
      refine G_aload_n C 0 dX9_best_41 rfl rfl ?_
      refine G_getI C 2 shM_0 rfl rfl (by decide) wf9_16 dX9_best_42 ?_
      refine G_imul C dX9_best_45 ?_
      refine G_topi (fun v12 => ?_)
      refine G_istore_n (L' := [(3, .int v12), (0, .ref 0), (1, .int p1), (2, .int p2), (4, .int x4)]) C dX9_best_46 rfl (by decide) rfl ?_
      refine G_iinc (v := 1) (L' := [(4, .int (x4 + (1 : Int32))), (3, .int v12), (0, .ref 0), (1, .int p1), (2, .int p2)]) C 4 dX9_best_47 rfl (by decide) (by decide) rfl ?_
      refine G_goto (tgt := 31) C dX9_best_50 (by decide) ?_
      refine G_locals [2, 3, 4, 1, 0] rfl ?_
      exact ih v12 (x4 + (1 : Int32)) u
set_option maxRecDepth 20000 in
theorem go_X9_best {p : Program} {l : Launch} {e : Env} {s : State} {m : MethodId} {args : Array Value} {below : List Frame} {meth : Method} {c : Code} {as : Nat → Nat} {dA : Nat → ClassId} {D : va_G} {d : Nat} {p1 : Int32} {p2 : Int32} (C : zCx p s m args meth c as dA D SHM d 8 yX9_best.cls cX9_best ((some FieldType.int))) (hd : 9 ≤ d) : ∀ (u : zM), Go p l e s m args below meth c as dA D SHM d 8 zQi 0 [(0, .ref 0), (1, .int p1), (2, .int p2)] [] u (f_X9_best p1 p2 u) := by
  intro u
  unfold f_X9_best
  refine G_aload_n C 0 dX9_best_0 rfl rfl ?_
  refine G_iload_n C 2 dX9_best_1 rfl rfl ?_
  refine G_iconst (v := -1) C dX9_best_2 (by decide) ?_
  refine G_iconst (v := 3) C dX9_best_3 (by decide) ?_
  refine G_callVi C (m_X9_in p2 (-1 : Int32) (3 : Int32) u (d - 1) (by omega)) (d' := d - 1) (As := [.int p2, .int (-1 : Int32), .int (3 : Int32)]) (by omega) rfl wm9_252 wwX9_in shM_0 rfl (Nat.le_of_ble_eq_true rfl) dX9_best_4 (fun y1 u2 => ?_)
  refine G_if_ne (tgt := 12) C dX9_best_7 (by decide) (fun _ => ?_) (fun _ => ?_)
  · refine G_aload_n C 0 dX9_best_12 rfl rfl ?_
    refine G_iload_n C 1 dX9_best_13 rfl rfl ?_
    refine G_iconst (v := 0) C dX9_best_14 (by decide) ?_
    refine G_bipush (v := 40) C dX9_best_15 (by decide) ?_
    refine G_callVi C (m_X9_in p1 (0 : Int32) (40 : Int32) u2 (d - 1) (by omega)) (d' := d - 1) (As := [.int p1, .int (0 : Int32), .int (40 : Int32)]) (by omega) rfl wm9_252 wwX9_in shM_0 rfl (Nat.le_of_ble_eq_true rfl) dX9_best_17 (fun y3 u4 => ?_)
    refine G_if_ne (tgt := 26) C dX9_best_20 (by decide) (fun _ => ?_) (fun _ => ?_)
    · refine G_iconst (v := 1) C dX9_best_26 (by decide) ?_
      refine G_istore_n (L' := [(3, .int (1 : Int32)), (0, .ref 0), (1, .int p1), (2, .int p2)]) C dX9_best_27 rfl (by decide) rfl ?_
      refine G_iconst (v := 0) C dX9_best_28 (by decide) ?_
      refine G_istore (L' := [(4, .int (0 : Int32)), (3, .int (1 : Int32)), (0, .ref 0), (1, .int p1), (2, .int p2)]) C dX9_best_29 (by decide) rfl ?_
      refine G_locals [2, 3, 4, 1, 0] rfl ?_
      exact go_X9_best_L31 C hd 400 (1 : Int32) (0 : Int32) u4
    · refine G_bipush (v := -2) C dX9_best_23 (by decide) ?_
      exact G_iret C dX9_best_25
  · refine G_iconst (v := -1) C dX9_best_10 (by decide) ?_
    exact G_iret C dX9_best_11
theorem m_X9_best   (p1 : Int32) (p2 : Int32) (u : zM) (d : Nat) (hd : 9 ≤ d) : zMet zQi SHM yX9_best cX9_best 8 ((some FieldType.int)) d [.ref 0, .int p1, .int p2] u (f_X9_best p1 p2 u) :=
  zMet_of (by decide +kernel) (fun as => Nat.le_of_ble_eq_true rfl) wwX9_best.2.2.2.1 (by omega) (fun p l e s m args below meth c as dA D C => go_X9_best C hd u)
/-! private int hottestIf(int, int) -/
def f_X9_hottestIf (p1 : Int32) (p2 : Int32) (u : zM) : Option (Int32 × zM) :=
  zb (f_X9_save u) fun _ u2 => zlet (sI u2 0 3 (-5 : Int32)) fun u3 => zck (inB p1 6) <| zb (f_X9_least ((gI u3 3 p1.toNatClampNeg) + p2) (99 : Int32) u3) fun y5 u6 => zck (inB p1 6) <| zlet (sI u6 3 p1.toNatClampNeg y5) fun u7 => zb (f_X9_goMinutes (3 : Int32) u7) fun _ u9 => zb (f_X9_hottest u9) fun y10 u11 => zck (inB y10 6) <| zlx (gI u11 3 y10.toNatClampNeg) fun v13 => zb (f_X9_putBack u11) fun _ u15 => some (v13, u15)
set_option maxRecDepth 20000 in
theorem go_X9_hottestIf {p : Program} {l : Launch} {e : Env} {s : State} {m : MethodId} {args : Array Value} {below : List Frame} {meth : Method} {c : Code} {as : Nat → Nat} {dA : Nat → ClassId} {D : va_G} {d : Nat} {p1 : Int32} {p2 : Int32} (C : zCx p s m args meth c as dA D SHM d 4 yX9_hottestIf.cls cX9_hottestIf ((some FieldType.int))) (hd : 9 ≤ d) : ∀ (u : zM), Go p l e s m args below meth c as dA D SHM d 4 zQi 0 [(0, .ref 0), (1, .int p1), (2, .int p2)] [] u (f_X9_hottestIf p1 p2 u) := by
  intro u
  unfold f_X9_hottestIf
  refine G_aload_n C 0 dX9_hottestIf_0 rfl rfl ?_
  refine G_callVv C (m_X9_save u (d - 1) (by omega)) (d' := d - 1) (As := []) (by omega) rfl wm9_368 wwX9_save shM_0 rfl (Nat.le_of_ble_eq_true rfl) dX9_hottestIf_1 (fun y1 u2 => ?_)
  refine G_aload_n C 0 dX9_hottestIf_4 rfl rfl ?_
  refine G_bipush (v := -5) C dX9_hottestIf_5 (by decide) ?_
  refine G_putI (ty := .int) C 3 shM_0 rfl rfl (by decide) wf9_19 rfl (by decide +kernel) rfl rfl dX9_hottestIf_7 (fun u3 => ?_)
  refine G_aload_n C 0 dX9_hottestIf_10 rfl rfl ?_
  refine G_getR (j := 3) C 7 shM_0 rfl rfl (by decide) wf9_32 dX9_hottestIf_11 ?_
  refine G_iload_n C 1 dX9_hottestIf_14 rfl rfl ?_
  refine G_aload_n C 0 dX9_hottestIf_15 rfl rfl ?_
  refine G_aload_n C 0 dX9_hottestIf_16 rfl rfl ?_
  refine G_getR (j := 3) C 7 shM_0 rfl rfl (by decide) wf9_32 dX9_hottestIf_17 ?_
  refine G_iload_n C 1 dX9_hottestIf_20 rfl rfl ?_
  refine G_iald C shM_3 dX9_hottestIf_21 (fun hb4 => ?_)
  refine G_iload_n C 2 dX9_hottestIf_22 rfl rfl ?_
  refine G_iadd C dX9_hottestIf_23 ?_
  refine G_bipush (v := 99) C dX9_hottestIf_24 (by decide) ?_
  refine G_callVi C (m_X9_least ((gI u3 3 p1.toNatClampNeg) + p2) (99 : Int32) u3 (d - 1) (by omega)) (d' := d - 1) (As := [.int ((gI u3 3 p1.toNatClampNeg) + p2), .int (99 : Int32)]) (by omega) rfl wm9_248 wwX9_least shM_0 rfl (Nat.le_of_ble_eq_true rfl) dX9_hottestIf_26 (fun y5 u6 => ?_)
  refine G_iast C shM_3 dX9_hottestIf_29 (fun _ u7 => ?_)
  refine G_aload_n C 0 dX9_hottestIf_30 rfl rfl ?_
  refine G_iconst (v := 3) C dX9_hottestIf_31 (by decide) ?_
  refine G_callVv C (m_X9_goMinutes (3 : Int32) u7 (d - 1) (by omega)) (d' := d - 1) (As := [.int (3 : Int32)]) (by omega) rfl wm9_365 wwX9_goMinutes shM_0 rfl (Nat.le_of_ble_eq_true rfl) dX9_hottestIf_32 (fun y8 u9 => ?_)
  refine G_aload_n C 0 dX9_hottestIf_35 rfl rfl ?_
  refine G_getR (j := 3) C 7 shM_0 rfl rfl (by decide) wf9_32 dX9_hottestIf_36 ?_
  refine G_aload_n C 0 dX9_hottestIf_39 rfl rfl ?_
  refine G_callVi C (m_X9_hottest u9 (d - 1) (by omega)) (d' := d - 1) (As := []) (by omega) rfl wm9_350 wwX9_hottest shM_0 rfl (Nat.le_of_ble_eq_true rfl) dX9_hottestIf_40 (fun y10 u11 => ?_)
  refine G_iald C shM_3 dX9_hottestIf_43 (fun hb12 => ?_)
  refine G_topi (fun v13 => ?_)
  refine G_istore_n (L' := [(3, .int v13), (0, .ref 0), (1, .int p1), (2, .int p2)]) C dX9_hottestIf_44 rfl (by decide) rfl ?_
  refine G_aload_n C 1 dX9_hottestIf_45 rfl rfl ?_
  refine G_callVv C (m_X9_putBack u11 (d - 1) (by omega)) (d' := d - 1) (As := []) (by omega) rfl wm9_371 wwX9_putBack shM_0 rfl (Nat.le_of_ble_eq_true rfl) dX9_hottestIf_46 (fun y14 u15 => ?_)
  refine G_iload_n C 0 dX9_hottestIf_49 rfl rfl ?_
  exact G_iret C dX9_hottestIf_50
theorem m_X9_hottestIf   (p1 : Int32) (p2 : Int32) (u : zM) (d : Nat) (hd : 9 ≤ d) : zMet zQi SHM yX9_hottestIf cX9_hottestIf 4 ((some FieldType.int)) d [.ref 0, .int p1, .int p2] u (f_X9_hottestIf p1 p2 u) :=
  zMet_of (by decide +kernel) (fun as => Nat.le_of_ble_eq_true rfl) wwX9_hottestIf.2.2.2.1 (by omega) (fun p l e s m args below meth c as dA D C => go_X9_hottestIf C hd u)
/-! public int talk(int, int) -/
def f_X9_talk_L33_b (p1 : Int32) (p2 : Int32) (rc : Int32 → Int32 → Int32 → zM → Option (Int32 × zM)) (x3 : Int32) (x4 : Int32) (x5 : Int32) (u : zM) : Option (Int32 × zM) :=
  (if (gI u 0 0) ≤ x5 then (if p2 = (0 : Int32) then some (x3, u) else some (x4, u)) else zb (f_X9_has (gI u 0 1) x5 u) fun y5 u6 => (if y5 = (0 : Int32) then zb (f_X9_hottestIf x5 p1 u6) fun y7 u8 => (if x4 < y7 then rc x5 y7 (x5 + (1 : Int32)) u8 else rc x3 x4 (x5 + (1 : Int32)) u8) else rc x3 x4 (x5 + (1 : Int32)) u6))
def f_X9_talk_L33 (p1 : Int32) (p2 : Int32) : Nat → Int32 → Int32 → Int32 → zM → Option (Int32 × zM)
  | 0 => fun _ _ _ _ => none
  | fn + 1 => f_X9_talk_L33_b p1 p2 (f_X9_talk_L33 p1 p2 fn)
def f_X9_talk (p1 : Int32) (p2 : Int32) (u : zM) : Option (Int32 × zM) :=
  zb (f_X9_in p2 (0 : Int32) (1 : Int32) u) fun y1 u2 => (if y1 = (0 : Int32) then some ((-1 : Int32), u2) else zb (f_X9_isHeat p1 u2) fun y3 u4 => (if y3 = (0 : Int32) then some ((-2 : Int32), u4) else f_X9_talk_L33 p1 p2 400 (-5 : Int32) (-5 : Int32) (0 : Int32) u4))
set_option maxRecDepth 20000 in
theorem go_X9_talk_L33 {p : Program} {l : Launch} {e : Env} {s : State} {m : MethodId} {args : Array Value} {below : List Frame} {meth : Method} {c : Code} {as : Nat → Nat} {dA : Nat → ClassId} {D : va_G} {d : Nat} {p1 : Int32} {p2 : Int32} (C : zCx p s m args meth c as dA D SHM d 7 yX9_talk.cls cX9_talk ((some FieldType.int))) (hd : 10 ≤ d) : ∀ (fn : Nat) (x3 : Int32) (x4 : Int32) (x5 : Int32) (u : zM), Go p l e s m args below meth c as dA D SHM d 7 zQi 33 [(0, .ref 0), (1, .int p1), (2, .int p2), (3, .int x3), (4, .int x4), (5, .int x5)] [] u (f_X9_talk_L33 p1 p2 fn x3 x4 x5 u) := by
  intro fn
  induction fn with
  | zero => intro x3 x4 x5 u; exact G_none
  | succ fn ih =>
    intro x3 x4 x5 u
    show Go p l e s m args below meth c as dA D SHM d 7 zQi 33 [(0, .ref 0), (1, .int p1), (2, .int p2), (3, .int x3), (4, .int x4), (5, .int x5)] [] u (f_X9_talk_L33_b p1 p2 (f_X9_talk_L33 p1 p2 fn) x3 x4 x5 u)
    unfold f_X9_talk_L33_b
    refine G_iload C 5 dX9_talk_33 rfl ?_
    refine G_aload_n C 0 dX9_talk_35 rfl rfl ?_
    refine G_getI C 0 shM_0 rfl rfl (by decide) wf9_7 dX9_talk_36 ?_
    refine G_icmp_ge (tgt := 90) C dX9_talk_39 (by decide) (fun _ => ?_) (fun _ => ?_)
    · refine G_iload_n C 2 dX9_talk_90 rfl rfl ?_
      refine G_if_ne (tgt := 98) C dX9_talk_91 (by decide) (fun _ => ?_) (fun _ => ?_)
      · refine G_iload C 4 dX9_talk_98 rfl ?_
        exact G_iret C dX9_talk_100
      · refine G_iload_n C 3 dX9_talk_94 rfl rfl ?_
        refine G_goto (tgt := 100) C dX9_talk_95 (by decide) ?_
        exact G_iret C dX9_talk_100
    · refine G_aload_n C 0 dX9_talk_42 rfl rfl ?_
      refine G_aload_n C 0 dX9_talk_43 rfl rfl ?_
      refine G_getI C 1 shM_0 rfl rfl (by decide) wf9_13 dX9_talk_44 ?_
      refine G_iload C 5 dX9_talk_47 rfl ?_
      refine G_callVi C (m_X9_has (gI u 0 1) x5 u (d - 1) (by omega)) (d' := d - 1) (As := [.int (gI u 0 1), .int x5]) (by omega) rfl wm9_263 wwX9_has shM_0 rfl (Nat.le_of_ble_eq_true rfl) dX9_talk_49 (fun y5 u6 => ?_)
      refine G_if_eq (tgt := 58) C dX9_talk_52 (by decide) (fun _ => ?_) (fun _ => ?_)
      · refine G_aload_n C 0 dX9_talk_58 rfl rfl ?_
        refine G_iload C 5 dX9_talk_59 rfl ?_
        refine G_iload_n C 1 dX9_talk_61 rfl rfl ?_
        refine G_callVi C (m_X9_hottestIf x5 p1 u6 (d - 1) (by omega)) (d' := d - 1) (As := [.int x5, .int p1]) (by omega) rfl wm9_386 wwX9_hottestIf shM_0 rfl (Nat.le_of_ble_eq_true rfl) dX9_talk_62 (fun y7 u8 => ?_)
        refine G_istore (L' := [(6, .int y7), (0, .ref 0), (1, .int p1), (2, .int p2), (3, .int x3), (4, .int x4), (5, .int x5)]) C dX9_talk_65 (by decide) rfl ?_
        refine G_iload C 0 dX9_talk_67 rfl ?_
        refine G_iload C 5 dX9_talk_69 rfl ?_
        refine G_icmp_gt (tgt := 77) C dX9_talk_71 (by decide) (fun _ => ?_) (fun _ => ?_)
        · refine G_iload C 6 dX9_talk_77 rfl ?_
          refine G_istore_n (L' := [(3, .int x5), (6, .int y7), (0, .ref 0), (1, .int p1), (2, .int p2), (4, .int x4), (5, .int x5)]) C dX9_talk_79 rfl (by decide) rfl ?_
          refine G_iload C 1 dX9_talk_80 rfl ?_
          refine G_istore (L' := [(4, .int y7), (3, .int x5), (6, .int y7), (0, .ref 0), (1, .int p1), (2, .int p2), (5, .int x5)]) C dX9_talk_82 (by decide) rfl ?_
          refine G_iinc (v := 1) (L' := [(5, .int (x5 + (1 : Int32))), (4, .int y7), (3, .int x5), (6, .int y7), (0, .ref 0), (1, .int p1), (2, .int p2)]) C 6 dX9_talk_84 rfl (by decide) (by decide) rfl ?_
          refine G_goto (tgt := 33) C dX9_talk_87 (by decide) ?_
          refine G_locals [4, 5, 6, 2, 1, 0] rfl ?_
          exact ih x5 y7 (x5 + (1 : Int32)) u8
        · refine G_goto (tgt := 84) C dX9_talk_74 (by decide) ?_
          refine G_iinc (v := 1) (L' := [(5, .int (x5 + (1 : Int32))), (6, .int y7), (0, .ref 0), (1, .int p1), (2, .int p2), (3, .int x3), (4, .int x4)]) C 6 dX9_talk_84 rfl (by decide) (by decide) rfl ?_
          refine G_goto (tgt := 33) C dX9_talk_87 (by decide) ?_
          refine G_locals [2, 3, 4, 5, 6, 0] rfl ?_
          exact ih x3 x4 (x5 + (1 : Int32)) u8
      · refine G_goto (tgt := 84) C dX9_talk_55 (by decide) ?_
        refine G_iinc (v := 1) (L' := [(5, .int (x5 + (1 : Int32))), (0, .ref 0), (1, .int p1), (2, .int p2), (3, .int x3), (4, .int x4)]) C 5 dX9_talk_84 rfl (by decide) (by decide) rfl ?_
        refine G_goto (tgt := 33) C dX9_talk_87 (by decide) ?_
        refine G_locals [1, 2, 3, 4, 5, 0] rfl ?_
        exact ih x3 x4 (x5 + (1 : Int32)) u6
set_option maxRecDepth 20000 in
theorem go_X9_talk {p : Program} {l : Launch} {e : Env} {s : State} {m : MethodId} {args : Array Value} {below : List Frame} {meth : Method} {c : Code} {as : Nat → Nat} {dA : Nat → ClassId} {D : va_G} {d : Nat} {p1 : Int32} {p2 : Int32} (C : zCx p s m args meth c as dA D SHM d 7 yX9_talk.cls cX9_talk ((some FieldType.int))) (hd : 10 ≤ d) : ∀ (u : zM), Go p l e s m args below meth c as dA D SHM d 7 zQi 0 [(0, .ref 0), (1, .int p1), (2, .int p2)] [] u (f_X9_talk p1 p2 u) := by
  intro u
  unfold f_X9_talk
  refine G_aload_n C 0 dX9_talk_0 rfl rfl ?_
  refine G_iload_n C 2 dX9_talk_1 rfl rfl ?_
  refine G_iconst (v := 0) C dX9_talk_2 (by decide) ?_
  refine G_iconst (v := 1) C dX9_talk_3 (by decide) ?_
  refine G_callVi C (m_X9_in p2 (0 : Int32) (1 : Int32) u (d - 1) (by omega)) (d' := d - 1) (As := [.int p2, .int (0 : Int32), .int (1 : Int32)]) (by omega) rfl wm9_252 wwX9_in shM_0 rfl (Nat.le_of_ble_eq_true rfl) dX9_talk_4 (fun y1 u2 => ?_)
  refine G_if_ne (tgt := 12) C dX9_talk_7 (by decide) (fun _ => ?_) (fun _ => ?_)
  · refine G_aload_n C 0 dX9_talk_12 rfl rfl ?_
    refine G_iload_n C 1 dX9_talk_13 rfl rfl ?_
    refine G_callVi C (m_X9_isHeat p1 u2 (d - 1) (by omega)) (d' := d - 1) (As := [.int p1]) (by omega) rfl wm9_256 wwX9_isHeat shM_0 rfl (Nat.le_of_ble_eq_true rfl) dX9_talk_14 (fun y3 u4 => ?_)
    refine G_if_ne (tgt := 23) C dX9_talk_17 (by decide) (fun _ => ?_) (fun _ => ?_)
    · refine G_bipush (v := -5) C dX9_talk_23 (by decide) ?_
      refine G_istore_n (L' := [(3, .int (-5 : Int32)), (0, .ref 0), (1, .int p1), (2, .int p2)]) C dX9_talk_25 rfl (by decide) rfl ?_
      refine G_bipush (v := -5) C dX9_talk_26 (by decide) ?_
      refine G_istore (L' := [(4, .int (-5 : Int32)), (3, .int (-5 : Int32)), (0, .ref 0), (1, .int p1), (2, .int p2)]) C dX9_talk_28 (by decide) rfl ?_
      refine G_iconst (v := 0) C dX9_talk_30 (by decide) ?_
      refine G_istore (L' := [(5, .int (0 : Int32)), (4, .int (-5 : Int32)), (3, .int (-5 : Int32)), (0, .ref 0), (1, .int p1), (2, .int p2)]) C dX9_talk_31 (by decide) rfl ?_
      refine G_locals [3, 4, 5, 2, 1, 0] rfl ?_
      exact go_X9_talk_L33 C hd 400 (-5 : Int32) (-5 : Int32) (0 : Int32) u4
    · refine G_bipush (v := -2) C dX9_talk_20 (by decide) ?_
      exact G_iret C dX9_talk_22
  · refine G_iconst (v := -1) C dX9_talk_10 (by decide) ?_
    exact G_iret C dX9_talk_11
theorem m_X9_talk   (p1 : Int32) (p2 : Int32) (u : zM) (d : Nat) (hd : 10 ≤ d) : zMet zQi SHM yX9_talk cX9_talk 7 ((some FieldType.int)) d [.ref 0, .int p1, .int p2] u (f_X9_talk p1 p2 u) :=
  zMet_of (by decide +kernel) (fun as => Nat.le_of_ble_eq_true rfl) wwX9_talk.2.2.2.1 (by omega) (fun p l e s m args below meth c as dA D C => go_X9_talk C hd u)
/-! public int see(int, int, boolean) -/
def f_X9_see (p1 : Int32) (p2 : Int32) (p3 : Int32) (u : zM) : Option (Int32 × zM) :=
  (if p1 = (-1 : Int32) then zlet (sI u 0 38 (0 : Int32)) fun u9 => some ((0 : Int32), u9) else zb (f_X9_isOne p1 u) fun y1 u2 => (if y1 = (0 : Int32) then some ((-1 : Int32), u2) else zb (f_X9_in p2 (0 : Int32) (12 : Int32) u2) fun y3 u4 => (if y3 = (0 : Int32) then some ((-2 : Int32), u4) else (if (gI u4 0 38) = (5 : Int32) then some ((-4 : Int32), u4) else zck (inB (gI u4 0 38) 5) <| zlet (sI u4 23 (gI u4 0 38).toNatClampNeg p1) fun u5 => zck (inB (gI u5 0 38) 5) <| zlet (sI u5 24 (gI u5 0 38).toNatClampNeg p2) fun u6 => zck (inB (gI u6 0 38) 5) <| zlet (sI u6 25 (gI u6 0 38).toNatClampNeg (vp_nar .boolean p3)) fun u7 => zlet (sI u7 0 38 ((gI u7 0 38) + (1 : Int32))) fun u8 => some ((gI u8 0 38), u8)))))
set_option maxRecDepth 20000 in
theorem go_X9_see {p : Program} {l : Launch} {e : Env} {s : State} {m : MethodId} {args : Array Value} {below : List Frame} {meth : Method} {c : Code} {as : Nat → Nat} {dA : Nat → ClassId} {D : va_G} {d : Nat} {p1 : Int32} {p2 : Int32} {p3 : Int32} (C : zCx p s m args meth c as dA D SHM d 4 yX9_see.cls cX9_see ((some FieldType.int))) (hd : 3 ≤ d) : ∀ (u : zM), Go p l e s m args below meth c as dA D SHM d 4 zQi 0 [(0, .ref 0), (1, .int p1), (2, .int p2), (3, .int p3)] [] u (f_X9_see p1 p2 p3 u) := by
  intro u
  unfold f_X9_see
  refine G_iload_n C 1 dX9_see_0 rfl rfl ?_
  refine G_iconst (v := -1) C dX9_see_1 (by decide) ?_
  refine G_icmp_ne (tgt := 12) C dX9_see_2 (by decide) (fun _ => ?_) (fun _ => ?_)
  · refine G_aload_n C 0 dX9_see_12 rfl rfl ?_
    refine G_iload_n C 1 dX9_see_13 rfl rfl ?_
    refine G_callVi C (m_X9_isOne p1 u (d - 1) (by omega)) (d' := d - 1) (As := [.int p1]) (by omega) rfl wm9_260 wwX9_isOne shM_0 rfl (Nat.le_of_ble_eq_true rfl) dX9_see_14 (fun y1 u2 => ?_)
    refine G_if_ne (tgt := 22) C dX9_see_17 (by decide) (fun _ => ?_) (fun _ => ?_)
    · refine G_aload_n C 0 dX9_see_22 rfl rfl ?_
      refine G_iload_n C 2 dX9_see_23 rfl rfl ?_
      refine G_iconst (v := 0) C dX9_see_24 (by decide) ?_
      refine G_bipush (v := 12) C dX9_see_25 (by decide) ?_
      refine G_callVi C (m_X9_in p2 (0 : Int32) (12 : Int32) u2 (d - 1) (by omega)) (d' := d - 1) (As := [.int p2, .int (0 : Int32), .int (12 : Int32)]) (by omega) rfl wm9_252 wwX9_in shM_0 rfl (Nat.le_of_ble_eq_true rfl) dX9_see_27 (fun y3 u4 => ?_)
      refine G_if_ne (tgt := 36) C dX9_see_30 (by decide) (fun _ => ?_) (fun _ => ?_)
      · refine G_aload_n C 0 dX9_see_36 rfl rfl ?_
        refine G_getI C 38 shM_0 rfl rfl (by decide) wf9_126 dX9_see_37 ?_
        refine G_iconst (v := 5) C dX9_see_40 (by decide) ?_
        refine G_icmp_ne (tgt := 47) C dX9_see_41 (by decide) (fun _ => ?_) (fun _ => ?_)
        · refine G_aload_n C 0 dX9_see_47 rfl rfl ?_
          refine G_getR (j := 23) C 39 shM_0 rfl rfl (by decide) wf9_129 dX9_see_48 ?_
          refine G_aload_n C 0 dX9_see_51 rfl rfl ?_
          refine G_getI C 38 shM_0 rfl rfl (by decide) wf9_126 dX9_see_52 ?_
          refine G_iload_n C 1 dX9_see_55 rfl rfl ?_
          refine G_iast C shM_23 dX9_see_56 (fun _ u5 => ?_)
          refine G_aload_n C 0 dX9_see_57 rfl rfl ?_
          refine G_getR (j := 24) C 40 shM_0 rfl rfl (by decide) wf9_132 dX9_see_58 ?_
          refine G_aload_n C 0 dX9_see_61 rfl rfl ?_
          refine G_getI C 38 shM_0 rfl rfl (by decide) wf9_126 dX9_see_62 ?_
          refine G_iload_n C 2 dX9_see_65 rfl rfl ?_
          refine G_iast C shM_24 dX9_see_66 (fun _ u6 => ?_)
          refine G_aload_n C 0 dX9_see_67 rfl rfl ?_
          refine G_getR (j := 25) C 41 shM_0 rfl rfl (by decide) wf9_135 dX9_see_68 ?_
          refine G_aload_n C 0 dX9_see_71 rfl rfl ?_
          refine G_getI C 38 shM_0 rfl rfl (by decide) wf9_126 dX9_see_72 ?_
          refine G_iload_n C 3 dX9_see_75 rfl rfl ?_
          refine G_zast C shM_25 dX9_see_76 (fun _ u7 => ?_)
          refine G_aload_n C 0 dX9_see_77 rfl rfl ?_
          refine G_dup C dX9_see_78 rfl ?_
          refine G_getI C 38 shM_0 rfl rfl (by decide) wf9_126 dX9_see_79 ?_
          refine G_iconst (v := 1) C dX9_see_82 (by decide) ?_
          refine G_iadd C dX9_see_83 ?_
          refine G_putI (ty := .int) C 38 shM_0 rfl rfl (by decide) wf9_126 rfl (by decide +kernel) rfl rfl dX9_see_84 (fun u8 => ?_)
          refine G_aload_n C 0 dX9_see_87 rfl rfl ?_
          refine G_getI C 38 shM_0 rfl rfl (by decide) wf9_126 dX9_see_88 ?_
          exact G_iret C dX9_see_91
        · refine G_bipush (v := -4) C dX9_see_44 (by decide) ?_
          exact G_iret C dX9_see_46
      · refine G_bipush (v := -2) C dX9_see_33 (by decide) ?_
        exact G_iret C dX9_see_35
    · refine G_iconst (v := -1) C dX9_see_20 (by decide) ?_
      exact G_iret C dX9_see_21
  · refine G_aload_n C 0 dX9_see_5 rfl rfl ?_
    refine G_iconst (v := 0) C dX9_see_6 (by decide) ?_
    refine G_putI (ty := .int) C 38 shM_0 rfl rfl (by decide) wf9_126 rfl (by decide +kernel) rfl rfl dX9_see_7 (fun u9 => ?_)
    refine G_iconst (v := 0) C dX9_see_10 (by decide) ?_
    exact G_iret C dX9_see_11
theorem m_X9_see   (p1 : Int32) (p2 : Int32) (p3 : Int32) (u : zM) (d : Nat) (hd : 3 ≤ d) : zMet zQi SHM yX9_see cX9_see 4 ((some FieldType.int)) d [.ref 0, .int p1, .int p2, .int p3] u (f_X9_see p1 p2 p3 u) :=
  zMet_of (by decide +kernel) (fun as => Nat.le_of_ble_eq_true rfl) wwX9_see.2.2.2.1 (by omega) (fun p l e s m args below meth c as dA D C => go_X9_see C hd u)
/-! private boolean isSeen() -/
def f_X9_isSeen_L57 (k4 : Int32 → Int32 → zM → Option (Int32 × zM)) (x2 : Int32) (s0 : Int32) (u : zM) : Option (Int32 × zM) :=
  zck (inB x2 5) <| (if s0 = (gI u 25 x2.toNatClampNeg) then zb (f_X9_putBack u) fun _ u15 => k4 (1 : Int32) (x2 + (1 : Int32)) u15 else zb (f_X9_putBack u) fun _ u13 => k4 (0 : Int32) (x2 + (1 : Int32)) u13)
def f_X9_isSeen_L4_b  (rc : Int32 → Int32 → zM → Option (Int32 × zM)) (x1 : Int32) (x2 : Int32) (u : zM) : Option (Int32 × zM) :=
  (if (gI u 0 38) ≤ x2 then zck (z01 x1) <| some (x1, u) else (if x1 = (0 : Int32) then zck (z01 x1) <| some (x1, u) else zb (f_X9_save u) fun _ u4 => zlet (sI u4 0 3 (-5 : Int32)) fun u5 => zck (inB x2 5) <| zb (f_X9_goMinutes (gI u5 24 x2.toNatClampNeg) u5) fun _ u8 => zck (inB x2 5) <| zck (inB (gI u8 23 x2.toNatClampNeg) 6) <| (if (gI u8 3 (gI u8 23 x2.toNatClampNeg).toNatClampNeg) < (50 : Int32) then f_X9_isSeen_L57 rc x2 (0 : Int32) u8 else f_X9_isSeen_L57 rc x2 (1 : Int32) u8)))
def f_X9_isSeen_L4  : Nat → Int32 → Int32 → zM → Option (Int32 × zM)
  | 0 => fun _ _ _ => none
  | fn + 1 => f_X9_isSeen_L4_b  (f_X9_isSeen_L4  fn)
def f_X9_isSeen (u : zM) : Option (Int32 × zM) :=
  f_X9_isSeen_L4 400 (1 : Int32) (0 : Int32) u
set_option maxRecDepth 20000 in
theorem go_X9_isSeen_L57 {p : Program} {l : Launch} {e : Env} {s : State} {m : MethodId} {args : Array Value} {below : List Frame} {meth : Method} {c : Code} {as : Nat → Nat} {dA : Nat → ClassId} {D : va_G} {d : Nat}  (C : zCx p s m args meth c as dA D SHM d 3 yX9_isSeen.cls cX9_isSeen ((some FieldType.boolean))) (hd : 9 ≤ d) {k4 : Int32 → Int32 → zM → Option (Int32 × zM)} (hk4 : ∀ (x1 : Int32) (x2 : Int32) (u : zM), Go p l e s m args below meth c as dA D SHM d 3 zQi 4 [(0, .ref 0), (1, .int x1), (2, .int x2)] [] u (k4 x1 x2 u)) : ∀ (x2 : Int32) (s0 : Int32) (u : zM), Go p l e s m args below meth c as dA D SHM d 3 zQi 57 [(0, .ref 0), (2, .int x2)] [.int s0] u (f_X9_isSeen_L57 k4 x2 s0 u) := by
  intro x2 s0 u
  unfold f_X9_isSeen_L57
  refine G_aload_n C 0 dX9_isSeen_57 rfl rfl ?_
  refine G_getR (j := 25) C 41 shM_0 rfl rfl (by decide) wf9_135 dX9_isSeen_58 ?_
  refine G_iload_n C 1 dX9_isSeen_61 rfl rfl ?_
  refine G_zald C shM_25 dX9_isSeen_62 (fun hb11 => ?_)
  refine G_icmp_ne (tgt := 70) C dX9_isSeen_63 (by decide) (fun _ => ?_) (fun _ => ?_)
  · refine G_iconst (v := 0) C dX9_isSeen_70 (by decide) ?_
    refine G_istore_n (L' := [(1, .int (0 : Int32)), (0, .ref 0), (2, .int x2)]) C dX9_isSeen_71 rfl (by decide) rfl ?_
    refine G_aload_n C 1 dX9_isSeen_72 rfl rfl ?_
    refine G_callVv C (m_X9_putBack u (d - 1) (by omega)) (d' := d - 1) (As := []) (by omega) rfl wm9_371 wwX9_putBack shM_0 rfl (Nat.le_of_ble_eq_true rfl) dX9_isSeen_73 (fun y12 u13 => ?_)
    refine G_iinc (v := 1) (L' := [(2, .int (x2 + (1 : Int32))), (1, .int (0 : Int32)), (0, .ref 0)]) C 2 dX9_isSeen_76 rfl (by decide) (by decide) rfl ?_
    refine G_goto (tgt := 4) C dX9_isSeen_79 (by decide) ?_
    refine G_locals [2, 1, 0] rfl ?_
    exact hk4 (0 : Int32) (x2 + (1 : Int32)) u13
  · refine G_iconst (v := 1) C dX9_isSeen_66 (by decide) ?_
    refine G_goto (tgt := 71) C dX9_isSeen_67 (by decide) ?_
    refine G_istore_n (L' := [(1, .int (1 : Int32)), (0, .ref 0), (2, .int x2)]) C dX9_isSeen_71 rfl (by decide) rfl ?_
    refine G_aload_n C 1 dX9_isSeen_72 rfl rfl ?_
    refine G_callVv C (m_X9_putBack u (d - 1) (by omega)) (d' := d - 1) (As := []) (by omega) rfl wm9_371 wwX9_putBack shM_0 rfl (Nat.le_of_ble_eq_true rfl) dX9_isSeen_73 (fun y14 u15 => ?_)
    refine G_iinc (v := 1) (L' := [(2, .int (x2 + (1 : Int32))), (1, .int (1 : Int32)), (0, .ref 0)]) C 2 dX9_isSeen_76 rfl (by decide) (by decide) rfl ?_
    refine G_goto (tgt := 4) C dX9_isSeen_79 (by decide) ?_
    refine G_locals [2, 1, 0] rfl ?_
    exact hk4 (1 : Int32) (x2 + (1 : Int32)) u15
set_option maxRecDepth 20000 in
theorem go_X9_isSeen_L4 {p : Program} {l : Launch} {e : Env} {s : State} {m : MethodId} {args : Array Value} {below : List Frame} {meth : Method} {c : Code} {as : Nat → Nat} {dA : Nat → ClassId} {D : va_G} {d : Nat}  (C : zCx p s m args meth c as dA D SHM d 3 yX9_isSeen.cls cX9_isSeen ((some FieldType.boolean))) (hd : 9 ≤ d) : ∀ (fn : Nat) (x1 : Int32) (x2 : Int32) (u : zM), Go p l e s m args below meth c as dA D SHM d 3 zQi 4 [(0, .ref 0), (1, .int x1), (2, .int x2)] [] u (f_X9_isSeen_L4 fn x1 x2 u) := by
  intro fn
  induction fn with
  | zero => intro x1 x2 u; exact G_none
  | succ fn ih =>
    intro x1 x2 u
    show Go p l e s m args below meth c as dA D SHM d 3 zQi 4 [(0, .ref 0), (1, .int x1), (2, .int x2)] [] u (f_X9_isSeen_L4_b  (f_X9_isSeen_L4  fn) x1 x2 u)
    unfold f_X9_isSeen_L4_b
    refine G_iload_n C 2 dX9_isSeen_4 rfl rfl ?_
    refine G_aload_n C 0 dX9_isSeen_5 rfl rfl ?_
    refine G_getI C 38 shM_0 rfl rfl (by decide) wf9_126 dX9_isSeen_6 ?_
    refine G_icmp_ge (tgt := 82) C dX9_isSeen_9 (by decide) (fun _ => ?_) (fun _ => ?_)
    · refine G_iload_n C 1 dX9_isSeen_82 rfl rfl ?_
      refine G_ck (fun hz1 => ?_)
      exact G_zret C (z01_nar hz1) dX9_isSeen_83
    · refine G_iload_n C 1 dX9_isSeen_12 rfl rfl ?_
      refine G_if_eq (tgt := 82) C dX9_isSeen_13 (by decide) (fun _ => ?_) (fun _ => ?_)
      · refine G_iload_n C 1 dX9_isSeen_82 rfl rfl ?_
        refine G_ck (fun hz2 => ?_)
        exact G_zret C (z01_nar hz2) dX9_isSeen_83
      · refine G_aload_n C 0 dX9_isSeen_16 rfl rfl ?_
        refine G_callVv C (m_X9_save u (d - 1) (by omega)) (d' := d - 1) (As := []) (by omega) rfl wm9_368 wwX9_save shM_0 rfl (Nat.le_of_ble_eq_true rfl) dX9_isSeen_17 (fun y3 u4 => ?_)
        refine G_aload_n C 0 dX9_isSeen_20 rfl rfl ?_
        refine G_bipush (v := -5) C dX9_isSeen_21 (by decide) ?_
        refine G_putI (ty := .int) C 3 shM_0 rfl rfl (by decide) wf9_19 rfl (by decide +kernel) rfl rfl dX9_isSeen_23 (fun u5 => ?_)
        refine G_aload_n C 0 dX9_isSeen_26 rfl rfl ?_
        refine G_aload_n C 0 dX9_isSeen_27 rfl rfl ?_
        refine G_getR (j := 24) C 40 shM_0 rfl rfl (by decide) wf9_132 dX9_isSeen_28 ?_
        refine G_iload_n C 2 dX9_isSeen_31 rfl rfl ?_
        refine G_iald C shM_24 dX9_isSeen_32 (fun hb6 => ?_)
        refine G_callVv C (m_X9_goMinutes (gI u5 24 x2.toNatClampNeg) u5 (d - 1) (by omega)) (d' := d - 1) (As := [.int (gI u5 24 x2.toNatClampNeg)]) (by omega) rfl wm9_365 wwX9_goMinutes shM_0 rfl (Nat.le_of_ble_eq_true rfl) dX9_isSeen_33 (fun y7 u8 => ?_)
        refine G_aload_n C 0 dX9_isSeen_36 rfl rfl ?_
        refine G_getR (j := 3) C 7 shM_0 rfl rfl (by decide) wf9_32 dX9_isSeen_37 ?_
        refine G_aload_n C 0 dX9_isSeen_40 rfl rfl ?_
        refine G_getR (j := 23) C 39 shM_0 rfl rfl (by decide) wf9_129 dX9_isSeen_41 ?_
        refine G_iload_n C 2 dX9_isSeen_44 rfl rfl ?_
        refine G_iald C shM_23 dX9_isSeen_45 (fun hb9 => ?_)
        refine G_iald C shM_3 dX9_isSeen_46 (fun hb10 => ?_)
        refine G_bipush (v := 50) C dX9_isSeen_47 (by decide) ?_
        refine G_icmp_lt (tgt := 56) C dX9_isSeen_49 (by decide) (fun _ => ?_) (fun _ => ?_)
        · refine G_iconst (v := 0) C dX9_isSeen_56 (by decide) ?_
          refine G_locals [0, 2] rfl ?_
          exact go_X9_isSeen_L57 C hd ih x2 (0 : Int32) u8
        · refine G_iconst (v := 1) C dX9_isSeen_52 (by decide) ?_
          refine G_goto (tgt := 57) C dX9_isSeen_53 (by decide) ?_
          refine G_locals [0, 2] rfl ?_
          exact go_X9_isSeen_L57 C hd ih x2 (1 : Int32) u8
set_option maxRecDepth 20000 in
theorem go_X9_isSeen {p : Program} {l : Launch} {e : Env} {s : State} {m : MethodId} {args : Array Value} {below : List Frame} {meth : Method} {c : Code} {as : Nat → Nat} {dA : Nat → ClassId} {D : va_G} {d : Nat}  (C : zCx p s m args meth c as dA D SHM d 3 yX9_isSeen.cls cX9_isSeen ((some FieldType.boolean))) (hd : 9 ≤ d) : ∀ (u : zM), Go p l e s m args below meth c as dA D SHM d 3 zQi 0 [(0, .ref 0)] [] u (f_X9_isSeen  u) := by
  intro u
  unfold f_X9_isSeen
  refine G_iconst (v := 1) C dX9_isSeen_0 (by decide) ?_
  refine G_istore_n (L' := [(1, .int (1 : Int32)), (0, .ref 0)]) C dX9_isSeen_1 rfl (by decide) rfl ?_
  refine G_iconst (v := 0) C dX9_isSeen_2 (by decide) ?_
  refine G_istore_n (L' := [(2, .int (0 : Int32)), (1, .int (1 : Int32)), (0, .ref 0)]) C dX9_isSeen_3 rfl (by decide) rfl ?_
  refine G_locals [2, 1, 0] rfl ?_
  exact go_X9_isSeen_L4 C hd 400 (1 : Int32) (0 : Int32) u
theorem m_X9_isSeen    (u : zM) (d : Nat) (hd : 9 ≤ d) : zMet zQi SHM yX9_isSeen cX9_isSeen 3 ((some FieldType.boolean)) d [.ref 0] u (f_X9_isSeen  u) :=
  zMet_of (by decide +kernel) (fun as => Nat.le_of_ble_eq_true rfl) wwX9_isSeen.2.2.2.1 (by omega) (fun p l e s m args below meth c as dA D C => go_X9_isSeen C hd u)
/-! private int heats(int, int) -/
def f_X9_heats_L18_b (p1 : Int32) (p2 : Int32) (rc : Int32 → Int32 → Int32 → Int32 → zM → Option (Int32 × zM)) (x3 : Int32) (x4 : Int32) (x5 : Int32) (x6 : Int32) (u : zM) : Option (Int32 × zM) :=
  (if x6 < (0 : Int32) then zck (inB p1 6) <| zlet (sI u 3 p1.toNatClampNeg x3) fun u3 => (if p2 = (0 : Int32) then some (x4, u3) else some (x5, u3)) else zck (inB p1 6) <| zlet (sI u 3 p1.toNatClampNeg x6) fun u4 => zb (f_X9_isSeen u4) fun y5 u6 => (if y5 = (0 : Int32) then rc x3 x4 x5 (x6 + (-1 : Int32)) u6 else rc x3 (x4 + (1 : Int32)) x6 (x6 + (-1 : Int32)) u6))
def f_X9_heats_L18 (p1 : Int32) (p2 : Int32) : Nat → Int32 → Int32 → Int32 → Int32 → zM → Option (Int32 × zM)
  | 0 => fun _ _ _ _ _ => none
  | fn + 1 => f_X9_heats_L18_b p1 p2 (f_X9_heats_L18 p1 p2 fn)
def f_X9_heats (p1 : Int32) (p2 : Int32) (u : zM) : Option (Int32 × zM) :=
  zck (inB p1 6) <| zlx (gI u 3 p1.toNatClampNeg) fun v2 => f_X9_heats_L18 p1 p2 400 v2 (0 : Int32) (-5 : Int32) (99 : Int32) u
set_option maxRecDepth 20000 in
theorem go_X9_heats_L18 {p : Program} {l : Launch} {e : Env} {s : State} {m : MethodId} {args : Array Value} {below : List Frame} {meth : Method} {c : Code} {as : Nat → Nat} {dA : Nat → ClassId} {D : va_G} {d : Nat} {p1 : Int32} {p2 : Int32} (C : zCx p s m args meth c as dA D SHM d 7 yX9_heats.cls cX9_heats ((some FieldType.int))) (hd : 10 ≤ d) : ∀ (fn : Nat) (x3 : Int32) (x4 : Int32) (x5 : Int32) (x6 : Int32) (u : zM), Go p l e s m args below meth c as dA D SHM d 7 zQi 18 [(0, .ref 0), (1, .int p1), (2, .int p2), (3, .int x3), (4, .int x4), (5, .int x5), (6, .int x6)] [] u (f_X9_heats_L18 p1 p2 fn x3 x4 x5 x6 u) := by
  intro fn
  induction fn with
  | zero => intro x3 x4 x5 x6 u; exact G_none
  | succ fn ih =>
    intro x3 x4 x5 x6 u
    show Go p l e s m args below meth c as dA D SHM d 7 zQi 18 [(0, .ref 0), (1, .int p1), (2, .int p2), (3, .int x3), (4, .int x4), (5, .int x5), (6, .int x6)] [] u (f_X9_heats_L18_b p1 p2 (f_X9_heats_L18 p1 p2 fn) x3 x4 x5 x6 u)
    unfold f_X9_heats_L18_b
    refine G_iload C 6 dX9_heats_18 rfl ?_
    refine G_if_lt (tgt := 54) C dX9_heats_20 (by decide) (fun _ => ?_) (fun _ => ?_)
    · refine G_aload_n C 0 dX9_heats_54 rfl rfl ?_
      refine G_getR (j := 3) C 7 shM_0 rfl rfl (by decide) wf9_32 dX9_heats_55 ?_
      refine G_iload_n C 1 dX9_heats_58 rfl rfl ?_
      refine G_iload_n C 3 dX9_heats_59 rfl rfl ?_
      refine G_iast C shM_3 dX9_heats_60 (fun _ u3 => ?_)
      refine G_iload_n C 2 dX9_heats_61 rfl rfl ?_
      refine G_if_ne (tgt := 70) C dX9_heats_62 (by decide) (fun _ => ?_) (fun _ => ?_)
      · refine G_iload C 5 dX9_heats_70 rfl ?_
        exact G_iret C dX9_heats_72
      · refine G_iload C 4 dX9_heats_65 rfl ?_
        refine G_goto (tgt := 72) C dX9_heats_67 (by decide) ?_
        exact G_iret C dX9_heats_72
    · refine G_aload_n C 0 dX9_heats_23 rfl rfl ?_
      refine G_getR (j := 3) C 7 shM_0 rfl rfl (by decide) wf9_32 dX9_heats_24 ?_
      refine G_iload_n C 1 dX9_heats_27 rfl rfl ?_
      refine G_iload C 6 dX9_heats_28 rfl ?_
      refine G_iast C shM_3 dX9_heats_30 (fun _ u4 => ?_)
      refine G_aload_n C 0 dX9_heats_31 rfl rfl ?_
      refine G_callVi C (m_X9_isSeen u4 (d - 1) (by omega)) (d' := d - 1) (As := []) (by omega) rfl wm9_389 wwX9_isSeen shM_0 rfl (Nat.le_of_ble_eq_true rfl) dX9_heats_32 (fun y5 u6 => ?_)
      refine G_if_ne (tgt := 41) C dX9_heats_35 (by decide) (fun _ => ?_) (fun _ => ?_)
      · refine G_iinc (v := 1) (L' := [(4, .int (x4 + (1 : Int32))), (0, .ref 0), (1, .int p1), (2, .int p2), (3, .int x3), (5, .int x5), (6, .int x6)]) C 4 dX9_heats_41 rfl (by decide) (by decide) rfl ?_
        refine G_iload C 6 dX9_heats_44 rfl ?_
        refine G_istore (L' := [(5, .int x6), (4, .int (x4 + (1 : Int32))), (0, .ref 0), (1, .int p1), (2, .int p2), (3, .int x3), (6, .int x6)]) C dX9_heats_46 (by decide) rfl ?_
        refine G_iinc (v := -1) (L' := [(6, .int (x6 + (-1 : Int32))), (5, .int x6), (4, .int (x4 + (1 : Int32))), (0, .ref 0), (1, .int p1), (2, .int p2), (3, .int x3)]) C 6 dX9_heats_48 rfl (by decide) (by decide) rfl ?_
        refine G_goto (tgt := 18) C dX9_heats_51 (by decide) ?_
        refine G_locals [3, 4, 5, 6, 2, 1, 0] rfl ?_
        exact ih x3 (x4 + (1 : Int32)) x6 (x6 + (-1 : Int32)) u6
      · refine G_goto (tgt := 48) C dX9_heats_38 (by decide) ?_
        refine G_iinc (v := -1) (L' := [(6, .int (x6 + (-1 : Int32))), (0, .ref 0), (1, .int p1), (2, .int p2), (3, .int x3), (4, .int x4), (5, .int x5)]) C 6 dX9_heats_48 rfl (by decide) (by decide) rfl ?_
        refine G_goto (tgt := 18) C dX9_heats_51 (by decide) ?_
        refine G_locals [1, 2, 3, 4, 5, 6, 0] rfl ?_
        exact ih x3 x4 x5 (x6 + (-1 : Int32)) u6
set_option maxRecDepth 20000 in
theorem go_X9_heats {p : Program} {l : Launch} {e : Env} {s : State} {m : MethodId} {args : Array Value} {below : List Frame} {meth : Method} {c : Code} {as : Nat → Nat} {dA : Nat → ClassId} {D : va_G} {d : Nat} {p1 : Int32} {p2 : Int32} (C : zCx p s m args meth c as dA D SHM d 7 yX9_heats.cls cX9_heats ((some FieldType.int))) (hd : 10 ≤ d) : ∀ (u : zM), Go p l e s m args below meth c as dA D SHM d 7 zQi 0 [(0, .ref 0), (1, .int p1), (2, .int p2)] [] u (f_X9_heats p1 p2 u) := by
  intro u
  unfold f_X9_heats
  refine G_aload_n C 0 dX9_heats_0 rfl rfl ?_
  refine G_getR (j := 3) C 7 shM_0 rfl rfl (by decide) wf9_32 dX9_heats_1 ?_
  refine G_iload_n C 1 dX9_heats_4 rfl rfl ?_
  refine G_iald C shM_3 dX9_heats_5 (fun hb1 => ?_)
  refine G_topi (fun v2 => ?_)
  refine G_istore_n (L' := [(3, .int v2), (0, .ref 0), (1, .int p1), (2, .int p2)]) C dX9_heats_6 rfl (by decide) rfl ?_
  refine G_iconst (v := 0) C dX9_heats_7 (by decide) ?_
  refine G_istore (L' := [(4, .int (0 : Int32)), (3, .int v2), (0, .ref 0), (1, .int p1), (2, .int p2)]) C dX9_heats_8 (by decide) rfl ?_
  refine G_bipush (v := -5) C dX9_heats_10 (by decide) ?_
  refine G_istore (L' := [(5, .int (-5 : Int32)), (4, .int (0 : Int32)), (3, .int v2), (0, .ref 0), (1, .int p1), (2, .int p2)]) C dX9_heats_12 (by decide) rfl ?_
  refine G_bipush (v := 99) C dX9_heats_14 (by decide) ?_
  refine G_istore (L' := [(6, .int (99 : Int32)), (5, .int (-5 : Int32)), (4, .int (0 : Int32)), (3, .int v2), (0, .ref 0), (1, .int p1), (2, .int p2)]) C dX9_heats_16 (by decide) rfl ?_
  refine G_locals [4, 5, 6, 3, 2, 1, 0] rfl ?_
  exact go_X9_heats_L18 C hd 400 v2 (0 : Int32) (-5 : Int32) (99 : Int32) u
theorem m_X9_heats   (p1 : Int32) (p2 : Int32) (u : zM) (d : Nat) (hd : 10 ≤ d) : zMet zQi SHM yX9_heats cX9_heats 7 ((some FieldType.int)) d [.ref 0, .int p1, .int p2] u (f_X9_heats p1 p2 u) :=
  zMet_of (by decide +kernel) (fun as => Nat.le_of_ble_eq_true rfl) wwX9_heats.2.2.2.1 (by omega) (fun p l e s m args below meth c as dA D C => go_X9_heats C hd u)
/-! private int canBe(int, int) -/
def f_X9_canBe_L18_b (p1 : Int32) (p2 : Int32) (rc : Int32 → Int32 → Int32 → Int32 → zM → Option (Int32 × zM)) (x3 : Int32) (x4 : Int32) (x5 : Int32) (x6 : Int32) (u : zM) : Option (Int32 × zM) :=
  (if x6 < (0 : Int32) then zck (inB p1 6) <| zlet (sI u 2 p1.toNatClampNeg x3) fun u3 => (if p2 = (0 : Int32) then some (x4, u3) else some (x5, u3)) else zck (inB p1 6) <| zlet (sI u 2 p1.toNatClampNeg x6) fun u4 => zb (f_X9_isSeen u4) fun y5 u6 => (if y5 = (0 : Int32) then rc x3 x4 x5 (x6 + (-1 : Int32)) u6 else rc x3 (x4 + (1 : Int32)) x6 (x6 + (-1 : Int32)) u6))
def f_X9_canBe_L18 (p1 : Int32) (p2 : Int32) : Nat → Int32 → Int32 → Int32 → Int32 → zM → Option (Int32 × zM)
  | 0 => fun _ _ _ _ _ => none
  | fn + 1 => f_X9_canBe_L18_b p1 p2 (f_X9_canBe_L18 p1 p2 fn)
def f_X9_canBe (p1 : Int32) (p2 : Int32) (u : zM) : Option (Int32 × zM) :=
  zck (inB p1 6) <| zlx (gI u 2 p1.toNatClampNeg) fun v2 => f_X9_canBe_L18 p1 p2 400 v2 (0 : Int32) (-5 : Int32) (9 : Int32) u
set_option maxRecDepth 20000 in
theorem go_X9_canBe_L18 {p : Program} {l : Launch} {e : Env} {s : State} {m : MethodId} {args : Array Value} {below : List Frame} {meth : Method} {c : Code} {as : Nat → Nat} {dA : Nat → ClassId} {D : va_G} {d : Nat} {p1 : Int32} {p2 : Int32} (C : zCx p s m args meth c as dA D SHM d 7 yX9_canBe.cls cX9_canBe ((some FieldType.int))) (hd : 10 ≤ d) : ∀ (fn : Nat) (x3 : Int32) (x4 : Int32) (x5 : Int32) (x6 : Int32) (u : zM), Go p l e s m args below meth c as dA D SHM d 7 zQi 18 [(0, .ref 0), (1, .int p1), (2, .int p2), (3, .int x3), (4, .int x4), (5, .int x5), (6, .int x6)] [] u (f_X9_canBe_L18 p1 p2 fn x3 x4 x5 x6 u) := by
  intro fn
  induction fn with
  | zero => intro x3 x4 x5 x6 u; exact G_none
  | succ fn ih =>
    intro x3 x4 x5 x6 u
    show Go p l e s m args below meth c as dA D SHM d 7 zQi 18 [(0, .ref 0), (1, .int p1), (2, .int p2), (3, .int x3), (4, .int x4), (5, .int x5), (6, .int x6)] [] u (f_X9_canBe_L18_b p1 p2 (f_X9_canBe_L18 p1 p2 fn) x3 x4 x5 x6 u)
    unfold f_X9_canBe_L18_b
    refine G_iload C 6 dX9_canBe_18 rfl ?_
    refine G_if_lt (tgt := 54) C dX9_canBe_20 (by decide) (fun _ => ?_) (fun _ => ?_)
    · refine G_aload_n C 0 dX9_canBe_54 rfl rfl ?_
      refine G_getR (j := 2) C 6 shM_0 rfl rfl (by decide) wf9_29 dX9_canBe_55 ?_
      refine G_iload_n C 1 dX9_canBe_58 rfl rfl ?_
      refine G_iload_n C 3 dX9_canBe_59 rfl rfl ?_
      refine G_iast C shM_2 dX9_canBe_60 (fun _ u3 => ?_)
      refine G_iload_n C 2 dX9_canBe_61 rfl rfl ?_
      refine G_if_ne (tgt := 70) C dX9_canBe_62 (by decide) (fun _ => ?_) (fun _ => ?_)
      · refine G_iload C 5 dX9_canBe_70 rfl ?_
        exact G_iret C dX9_canBe_72
      · refine G_iload C 4 dX9_canBe_65 rfl ?_
        refine G_goto (tgt := 72) C dX9_canBe_67 (by decide) ?_
        exact G_iret C dX9_canBe_72
    · refine G_aload_n C 0 dX9_canBe_23 rfl rfl ?_
      refine G_getR (j := 2) C 6 shM_0 rfl rfl (by decide) wf9_29 dX9_canBe_24 ?_
      refine G_iload_n C 1 dX9_canBe_27 rfl rfl ?_
      refine G_iload C 6 dX9_canBe_28 rfl ?_
      refine G_iast C shM_2 dX9_canBe_30 (fun _ u4 => ?_)
      refine G_aload_n C 0 dX9_canBe_31 rfl rfl ?_
      refine G_callVi C (m_X9_isSeen u4 (d - 1) (by omega)) (d' := d - 1) (As := []) (by omega) rfl wm9_389 wwX9_isSeen shM_0 rfl (Nat.le_of_ble_eq_true rfl) dX9_canBe_32 (fun y5 u6 => ?_)
      refine G_if_ne (tgt := 41) C dX9_canBe_35 (by decide) (fun _ => ?_) (fun _ => ?_)
      · refine G_iinc (v := 1) (L' := [(4, .int (x4 + (1 : Int32))), (0, .ref 0), (1, .int p1), (2, .int p2), (3, .int x3), (5, .int x5), (6, .int x6)]) C 4 dX9_canBe_41 rfl (by decide) (by decide) rfl ?_
        refine G_iload C 6 dX9_canBe_44 rfl ?_
        refine G_istore (L' := [(5, .int x6), (4, .int (x4 + (1 : Int32))), (0, .ref 0), (1, .int p1), (2, .int p2), (3, .int x3), (6, .int x6)]) C dX9_canBe_46 (by decide) rfl ?_
        refine G_iinc (v := -1) (L' := [(6, .int (x6 + (-1 : Int32))), (5, .int x6), (4, .int (x4 + (1 : Int32))), (0, .ref 0), (1, .int p1), (2, .int p2), (3, .int x3)]) C 6 dX9_canBe_48 rfl (by decide) (by decide) rfl ?_
        refine G_goto (tgt := 18) C dX9_canBe_51 (by decide) ?_
        refine G_locals [3, 4, 5, 6, 2, 1, 0] rfl ?_
        exact ih x3 (x4 + (1 : Int32)) x6 (x6 + (-1 : Int32)) u6
      · refine G_goto (tgt := 48) C dX9_canBe_38 (by decide) ?_
        refine G_iinc (v := -1) (L' := [(6, .int (x6 + (-1 : Int32))), (0, .ref 0), (1, .int p1), (2, .int p2), (3, .int x3), (4, .int x4), (5, .int x5)]) C 6 dX9_canBe_48 rfl (by decide) (by decide) rfl ?_
        refine G_goto (tgt := 18) C dX9_canBe_51 (by decide) ?_
        refine G_locals [1, 2, 3, 4, 5, 6, 0] rfl ?_
        exact ih x3 x4 x5 (x6 + (-1 : Int32)) u6
set_option maxRecDepth 20000 in
theorem go_X9_canBe {p : Program} {l : Launch} {e : Env} {s : State} {m : MethodId} {args : Array Value} {below : List Frame} {meth : Method} {c : Code} {as : Nat → Nat} {dA : Nat → ClassId} {D : va_G} {d : Nat} {p1 : Int32} {p2 : Int32} (C : zCx p s m args meth c as dA D SHM d 7 yX9_canBe.cls cX9_canBe ((some FieldType.int))) (hd : 10 ≤ d) : ∀ (u : zM), Go p l e s m args below meth c as dA D SHM d 7 zQi 0 [(0, .ref 0), (1, .int p1), (2, .int p2)] [] u (f_X9_canBe p1 p2 u) := by
  intro u
  unfold f_X9_canBe
  refine G_aload_n C 0 dX9_canBe_0 rfl rfl ?_
  refine G_getR (j := 2) C 6 shM_0 rfl rfl (by decide) wf9_29 dX9_canBe_1 ?_
  refine G_iload_n C 1 dX9_canBe_4 rfl rfl ?_
  refine G_iald C shM_2 dX9_canBe_5 (fun hb1 => ?_)
  refine G_topi (fun v2 => ?_)
  refine G_istore_n (L' := [(3, .int v2), (0, .ref 0), (1, .int p1), (2, .int p2)]) C dX9_canBe_6 rfl (by decide) rfl ?_
  refine G_iconst (v := 0) C dX9_canBe_7 (by decide) ?_
  refine G_istore (L' := [(4, .int (0 : Int32)), (3, .int v2), (0, .ref 0), (1, .int p1), (2, .int p2)]) C dX9_canBe_8 (by decide) rfl ?_
  refine G_bipush (v := -5) C dX9_canBe_10 (by decide) ?_
  refine G_istore (L' := [(5, .int (-5 : Int32)), (4, .int (0 : Int32)), (3, .int v2), (0, .ref 0), (1, .int p1), (2, .int p2)]) C dX9_canBe_12 (by decide) rfl ?_
  refine G_bipush (v := 9) C dX9_canBe_14 (by decide) ?_
  refine G_istore (L' := [(6, .int (9 : Int32)), (5, .int (-5 : Int32)), (4, .int (0 : Int32)), (3, .int v2), (0, .ref 0), (1, .int p1), (2, .int p2)]) C dX9_canBe_16 (by decide) rfl ?_
  refine G_locals [4, 5, 6, 3, 2, 1, 0] rfl ?_
  exact go_X9_canBe_L18 C hd 400 v2 (0 : Int32) (-5 : Int32) (9 : Int32) u
theorem m_X9_canBe   (p1 : Int32) (p2 : Int32) (u : zM) (d : Nat) (hd : 10 ≤ d) : zMet zQi SHM yX9_canBe cX9_canBe 7 ((some FieldType.int)) d [.ref 0, .int p1, .int p2] u (f_X9_canBe p1 p2 u) :=
  zMet_of (by decide +kernel) (fun as => Nat.le_of_ble_eq_true rfl) wwX9_canBe.2.2.2.1 (by omega) (fun p l e s m args below meth c as dA D C => go_X9_canBe C hd u)
/-! public int can(int, int, int) -/
def f_X9_can (p1 : Int32) (p2 : Int32) (p3 : Int32) (u : zM) : Option (Int32 × zM) :=
  zb (f_X9_isOne p1 u) fun y1 u2 => (if y1 = (0 : Int32) then some ((-1 : Int32), u2) else zb (f_X9_in p2 (0 : Int32) (1 : Int32) u2) fun y3 u4 => (if y3 = (0 : Int32) then some ((-1 : Int32), u4) else zb (f_X9_in p3 (0 : Int32) (1 : Int32) u4) fun y5 u6 => (if y5 = (0 : Int32) then some ((-1 : Int32), u6) else (if p2 = (0 : Int32) then zb (f_X9_heats p1 p3 u6) fun y9 u10 => some (y9, u10) else zb (f_X9_canBe p1 p3 u6) fun y7 u8 => some (y7, u8)))))
set_option maxRecDepth 20000 in
theorem go_X9_can {p : Program} {l : Launch} {e : Env} {s : State} {m : MethodId} {args : Array Value} {below : List Frame} {meth : Method} {c : Code} {as : Nat → Nat} {dA : Nat → ClassId} {D : va_G} {d : Nat} {p1 : Int32} {p2 : Int32} {p3 : Int32} (C : zCx p s m args meth c as dA D SHM d 4 yX9_can.cls cX9_can ((some FieldType.int))) (hd : 11 ≤ d) : ∀ (u : zM), Go p l e s m args below meth c as dA D SHM d 4 zQi 0 [(0, .ref 0), (1, .int p1), (2, .int p2), (3, .int p3)] [] u (f_X9_can p1 p2 p3 u) := by
  intro u
  unfold f_X9_can
  refine G_aload_n C 0 dX9_can_0 rfl rfl ?_
  refine G_iload_n C 1 dX9_can_1 rfl rfl ?_
  refine G_callVi C (m_X9_isOne p1 u (d - 1) (by omega)) (d' := d - 1) (As := [.int p1]) (by omega) rfl wm9_260 wwX9_isOne shM_0 rfl (Nat.le_of_ble_eq_true rfl) dX9_can_2 (fun y1 u2 => ?_)
  refine G_if_eq (tgt := 28) C dX9_can_5 (by decide) (fun _ => ?_) (fun _ => ?_)
  · refine G_iconst (v := -1) C dX9_can_28 (by decide) ?_
    exact G_iret C dX9_can_29
  · refine G_aload_n C 0 dX9_can_8 rfl rfl ?_
    refine G_iload_n C 2 dX9_can_9 rfl rfl ?_
    refine G_iconst (v := 0) C dX9_can_10 (by decide) ?_
    refine G_iconst (v := 1) C dX9_can_11 (by decide) ?_
    refine G_callVi C (m_X9_in p2 (0 : Int32) (1 : Int32) u2 (d - 1) (by omega)) (d' := d - 1) (As := [.int p2, .int (0 : Int32), .int (1 : Int32)]) (by omega) rfl wm9_252 wwX9_in shM_0 rfl (Nat.le_of_ble_eq_true rfl) dX9_can_12 (fun y3 u4 => ?_)
    refine G_if_eq (tgt := 28) C dX9_can_15 (by decide) (fun _ => ?_) (fun _ => ?_)
    · refine G_iconst (v := -1) C dX9_can_28 (by decide) ?_
      exact G_iret C dX9_can_29
    · refine G_aload_n C 0 dX9_can_18 rfl rfl ?_
      refine G_iload_n C 3 dX9_can_19 rfl rfl ?_
      refine G_iconst (v := 0) C dX9_can_20 (by decide) ?_
      refine G_iconst (v := 1) C dX9_can_21 (by decide) ?_
      refine G_callVi C (m_X9_in p3 (0 : Int32) (1 : Int32) u4 (d - 1) (by omega)) (d' := d - 1) (As := [.int p3, .int (0 : Int32), .int (1 : Int32)]) (by omega) rfl wm9_252 wwX9_in shM_0 rfl (Nat.le_of_ble_eq_true rfl) dX9_can_22 (fun y5 u6 => ?_)
      refine G_if_ne (tgt := 30) C dX9_can_25 (by decide) (fun _ => ?_) (fun _ => ?_)
      · refine G_iload_n C 2 dX9_can_30 rfl rfl ?_
        refine G_if_ne (tgt := 43) C dX9_can_31 (by decide) (fun _ => ?_) (fun _ => ?_)
        · refine G_aload_n C 0 dX9_can_43 rfl rfl ?_
          refine G_iload_n C 1 dX9_can_44 rfl rfl ?_
          refine G_iload_n C 3 dX9_can_45 rfl rfl ?_
          refine G_callVi C (m_X9_canBe p1 p3 u6 (d - 1) (by omega)) (d' := d - 1) (As := [.int p1, .int p3]) (by omega) rfl wm9_395 wwX9_canBe shM_0 rfl (Nat.le_of_ble_eq_true rfl) dX9_can_46 (fun y7 u8 => ?_)
          exact G_iret C dX9_can_49
        · refine G_aload_n C 0 dX9_can_34 rfl rfl ?_
          refine G_iload_n C 1 dX9_can_35 rfl rfl ?_
          refine G_iload_n C 3 dX9_can_36 rfl rfl ?_
          refine G_callVi C (m_X9_heats p1 p3 u6 (d - 1) (by omega)) (d' := d - 1) (As := [.int p1, .int p3]) (by omega) rfl wm9_392 wwX9_heats shM_0 rfl (Nat.le_of_ble_eq_true rfl) dX9_can_37 (fun y9 u10 => ?_)
          refine G_goto (tgt := 49) C dX9_can_40 (by decide) ?_
          exact G_iret C dX9_can_49
      · refine G_iconst (v := -1) C dX9_can_28 (by decide) ?_
        exact G_iret C dX9_can_29
theorem m_X9_can   (p1 : Int32) (p2 : Int32) (p3 : Int32) (u : zM) (d : Nat) (hd : 11 ≤ d) : zMet zQi SHM yX9_can cX9_can 4 ((some FieldType.int)) d [.ref 0, .int p1, .int p2, .int p3] u (f_X9_can p1 p2 p3 u) :=
  zMet_of (by decide +kernel) (fun as => Nat.le_of_ble_eq_true rfl) wwX9_can.2.2.2.1 (by omega) (fun p l e s m args below meth c as dA D C => go_X9_can C hd u)
