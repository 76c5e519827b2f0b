/-! private boolean in(int, int, int) -/
def f_X9_in (p1 : Int32) (p2 : Int32) (p3 : Int32) (u : zM) : Option (Int32 × zM) :=
  (if p1 < p2 then some ((0 : Int32), u) else (if p3 < p1 then some ((0 : Int32), u) else some ((1 : Int32), u)))
set_option maxRecDepth 20000 in
theorem go_X9_in {p : Program} {l : Launch} {e : Env} {s : State} {m : MethodId} {args : Array Value} {below : List Frame} {meth : Method} {c : Code} {as : Nat → Nat} {dA : Nat → ClassId} {D : va_G} {d : Nat} {p1 : Int32} {p2 : Int32} {p3 : Int32} (C : zCx p s m args meth c as dA D SHM d 4 yX9_in.cls cX9_in ((some FieldType.boolean))) (hd : 1 ≤ d) : ∀ (u : zM), Go p l e s m args below meth c as dA D SHM d 4 zQi 0 [(0, .ref 0), (1, .int p1), (2, .int p2), (3, .int p3)] [] u (f_X9_in p1 p2 p3 u) := by
  intro u
  unfold f_X9_in
  refine G_iload_n C 1 dX9_in_0 rfl rfl ?_
  refine G_iload_n C 2 dX9_in_1 rfl rfl ?_
  refine G_icmp_lt (tgt := 14) C dX9_in_2 (by decide) (fun _ => ?_) (fun _ => ?_)
  · refine G_iconst (v := 0) C dX9_in_14 (by decide) ?_
    exact G_zret C rfl dX9_in_15
  · refine G_iload_n C 1 dX9_in_5 rfl rfl ?_
    refine G_iload_n C 3 dX9_in_6 rfl rfl ?_
    refine G_icmp_gt (tgt := 14) C dX9_in_7 (by decide) (fun _ => ?_) (fun _ => ?_)
    · refine G_iconst (v := 0) C dX9_in_14 (by decide) ?_
      exact G_zret C rfl dX9_in_15
    · refine G_iconst (v := 1) C dX9_in_10 (by decide) ?_
      refine G_goto (tgt := 15) C dX9_in_11 (by decide) ?_
      exact G_zret C rfl dX9_in_15
theorem m_X9_in   (p1 : Int32) (p2 : Int32) (p3 : Int32) (u : zM) (d : Nat) (hd : 1 ≤ d) : zMet zQi SHM yX9_in cX9_in 4 ((some FieldType.boolean)) d [.ref 0, .int p1, .int p2, .int p3] u (f_X9_in p1 p2 p3 u) :=
  zMet_of (by decide +kernel) (fun as => Nat.le_of_ble_eq_true rfl) wwX9_in.2.2.2.1 (by omega) (fun p l e s m args below meth c as dA D C => go_X9_in C hd u)
/-! private boolean has(int, int) -/
def f_X9_has (p1 : Int32) (p2 : Int32) (u : zM) : Option (Int32 × zM) :=
  (if ((p1 >>> (p2 &&& 31)) &&& (1 : Int32)) = (1 : Int32) then some ((1 : Int32), u) else some ((0 : Int32), u))
set_option maxRecDepth 20000 in
theorem go_X9_has {p : Program} {l : Launch} {e : Env} {s : State} {m : MethodId} {args : Array Value} {below : List Frame} {meth : Method} {c : Code} {as : Nat → Nat} {dA : Nat → ClassId} {D : va_G} {d : Nat} {p1 : Int32} {p2 : Int32} (C : zCx p s m args meth c as dA D SHM d 3 yX9_has.cls cX9_has ((some FieldType.boolean))) (hd : 1 ≤ d) : ∀ (u : zM), Go p l e s m args below meth c as dA D SHM d 3 zQi 0 [(0, .ref 0), (1, .int p1), (2, .int p2)] [] u (f_X9_has p1 p2 u) := by
  intro u
  unfold f_X9_has
  refine G_iload_n C 1 dX9_has_0 rfl rfl ?_
  refine G_iload_n C 2 dX9_has_1 rfl rfl ?_
  refine G_ishr C dX9_has_2 ?_
  refine G_iconst (v := 1) C dX9_has_3 (by decide) ?_
  refine G_iand C dX9_has_4 ?_
  refine G_iconst (v := 1) C dX9_has_5 (by decide) ?_
  refine G_icmp_ne (tgt := 13) C dX9_has_6 (by decide) (fun _ => ?_) (fun _ => ?_)
  · refine G_iconst (v := 0) C dX9_has_13 (by decide) ?_
    exact G_zret C rfl dX9_has_14
  · refine G_iconst (v := 1) C dX9_has_9 (by decide) ?_
    refine G_goto (tgt := 14) C dX9_has_10 (by decide) ?_
    exact G_zret C rfl dX9_has_14
theorem m_X9_has   (p1 : Int32) (p2 : Int32) (u : zM) (d : Nat) (hd : 1 ≤ d) : zMet zQi SHM yX9_has cX9_has 3 ((some FieldType.boolean)) d [.ref 0, .int p1, .int p2] u (f_X9_has p1 p2 u) :=
  zMet_of (by decide +kernel) (fun as => Nat.le_of_ble_eq_true rfl) wwX9_has.2.2.2.1 (by omega) (fun p l e s m args below meth c as dA D C => go_X9_has C hd u)
/-! private int least(int, int) -/
def f_X9_least (p1 : Int32) (p2 : Int32) (u : zM) : Option (Int32 × zM) :=
  (if p2 ≤ p1 then some (p2, u) else some (p1, u))
set_option maxRecDepth 20000 in
theorem go_X9_least {p : Program} {l : Launch} {e : Env} {s : State} {m : MethodId} {args : Array Value} {below : List Frame} {meth : Method} {c : Code} {as : Nat → Nat} {dA : Nat → ClassId} {D : va_G} {d : Nat} {p1 : Int32} {p2 : Int32} (C : zCx p s m args meth c as dA D SHM d 3 yX9_least.cls cX9_least ((some FieldType.int))) (hd : 1 ≤ d) : ∀ (u : zM), Go p l e s m args below meth c as dA D SHM d 3 zQi 0 [(0, .ref 0), (1, .int p1), (2, .int p2)] [] u (f_X9_least p1 p2 u) := by
  intro u
  unfold f_X9_least
  refine G_iload_n C 1 dX9_least_0 rfl rfl ?_
  refine G_iload_n C 2 dX9_least_1 rfl rfl ?_
  refine G_icmp_ge (tgt := 9) C dX9_least_2 (by decide) (fun _ => ?_) (fun _ => ?_)
  · refine G_iload_n C 2 dX9_least_9 rfl rfl ?_
    exact G_iret C dX9_least_10
  · refine G_iload_n C 1 dX9_least_5 rfl rfl ?_
    refine G_goto (tgt := 10) C dX9_least_6 (by decide) ?_
    exact G_iret C dX9_least_10
theorem m_X9_least   (p1 : Int32) (p2 : Int32) (u : zM) (d : Nat) (hd : 1 ≤ d) : zMet zQi SHM yX9_least cX9_least 3 ((some FieldType.int)) d [.ref 0, .int p1, .int p2] u (f_X9_least p1 p2 u) :=
  zMet_of (by decide +kernel) (fun as => Nat.le_of_ble_eq_true rfl) wwX9_least.2.2.2.1 (by omega) (fun p l e s m args below meth c as dA D C => go_X9_least C hd u)
/-! private int held(int) -/
def f_X9_held (p1 : Int32) (u : zM) : Option (Int32 × zM) :=
  (if (0 : Int32) ≤ p1 then zb (f_X9_least p1 (99 : Int32) u) fun y1 u2 => some (y1, u2) else some ((0 : Int32), u))
set_option maxRecDepth 20000 in
theorem go_X9_held {p : Program} {l : Launch} {e : Env} {s : State} {m : MethodId} {args : Array Value} {below : List Frame} {meth : Method} {c : Code} {as : Nat → Nat} {dA : Nat → ClassId} {D : va_G} {d : Nat} {p1 : Int32} (C : zCx p s m args meth c as dA D SHM d 2 yX9_held.cls cX9_held ((some FieldType.int))) (hd : 2 ≤ d) : ∀ (u : zM), Go p l e s m args below meth c as dA D SHM d 2 zQi 0 [(0, .ref 0), (1, .int p1)] [] u (f_X9_held p1 u) := by
  intro u
  unfold f_X9_held
  refine G_iload_n C 1 dX9_held_0 rfl rfl ?_
  refine G_if_ge (tgt := 8) C dX9_held_1 (by decide) (fun _ => ?_) (fun _ => ?_)
  · refine G_aload_n C 0 dX9_held_8 rfl rfl ?_
    refine G_iload_n C 1 dX9_held_9 rfl rfl ?_
    refine G_bipush (v := 99) C dX9_held_10 (by decide) ?_
    refine G_callVi C (m_X9_least p1 (99 : Int32) u (d - 1) (by omega)) (d' := d - 1) (As := [.int p1, .int (99 : Int32)]) (by omega) rfl wm9_248 wwX9_least shM_0 rfl (Nat.le_of_ble_eq_true rfl) dX9_held_12 (fun y1 u2 => ?_)
    exact G_iret C dX9_held_15
  · refine G_iconst (v := 0) C dX9_held_4 (by decide) ?_
    refine G_goto (tgt := 15) C dX9_held_5 (by decide) ?_
    exact G_iret C dX9_held_15
theorem m_X9_held   (p1 : Int32) (u : zM) (d : Nat) (hd : 2 ≤ d) : zMet zQi SHM yX9_held cX9_held 2 ((some FieldType.int)) d [.ref 0, .int p1] u (f_X9_held p1 u) :=
  zMet_of (by decide +kernel) (fun as => Nat.le_of_ble_eq_true rfl) wwX9_held.2.2.2.1 (by omega) (fun p l e s m args below meth c as dA D C => go_X9_held C hd u)
/-! private boolean isOne(int) -/
def f_X9_isOne (p1 : Int32) (u : zM) : Option (Int32 × zM) :=
  zb (f_X9_in p1 (0 : Int32) ((gI u 0 0) - (1 : Int32)) u) fun y1 u2 => zck (z01 y1) <| some (y1, u2)
set_option maxRecDepth 20000 in
theorem go_X9_isOne {p : Program} {l : Launch} {e : Env} {s : State} {m : MethodId} {args : Array Value} {below : List Frame} {meth : Method} {c : Code} {as : Nat → Nat} {dA : Nat → ClassId} {D : va_G} {d : Nat} {p1 : Int32} (C : zCx p s m args meth c as dA D SHM d 2 yX9_isOne.cls cX9_isOne ((some FieldType.boolean))) (hd : 2 ≤ d) : ∀ (u : zM), Go p l e s m args below meth c as dA D SHM d 2 zQi 0 [(0, .ref 0), (1, .int p1)] [] u (f_X9_isOne p1 u) := by
  intro u
  unfold f_X9_isOne
  refine G_aload_n C 0 dX9_isOne_0 rfl rfl ?_
  refine G_iload_n C 1 dX9_isOne_1 rfl rfl ?_
  refine G_iconst (v := 0) C dX9_isOne_2 (by decide) ?_
  refine G_aload_n C 0 dX9_isOne_3 rfl rfl ?_
  refine G_getI C 0 shM_0 rfl rfl (by decide) wf9_7 dX9_isOne_4 ?_
  refine G_iconst (v := 1) C dX9_isOne_7 (by decide) ?_
  refine G_isub C dX9_isOne_8 ?_
  refine G_callVi C (m_X9_in p1 (0 : Int32) ((gI u 0 0) - (1 : Int32)) u (d - 1) (by omega)) (d' := d - 1) (As := [.int p1, .int (0 : Int32), .int ((gI u 0 0) - (1 : Int32))]) (by omega) rfl wm9_252 wwX9_in shM_0 rfl (Nat.le_of_ble_eq_true rfl) dX9_isOne_9 (fun y1 u2 => ?_)
  refine G_ck (fun hz3 => ?_)
  exact G_zret C (z01_nar hz3) dX9_isOne_12
theorem m_X9_isOne   (p1 : Int32) (u : zM) (d : Nat) (hd : 2 ≤ d) : zMet zQi SHM yX9_isOne cX9_isOne 2 ((some FieldType.boolean)) d [.ref 0, .int p1] u (f_X9_isOne p1 u) :=
  zMet_of (by decide +kernel) (fun as => Nat.le_of_ble_eq_true rfl) wwX9_isOne.2.2.2.1 (by omega) (fun p l e s m args below meth c as dA D C => go_X9_isOne C hd u)
/-! private boolean isWork(int) -/
def f_X9_isWork (p1 : Int32) (u : zM) : Option (Int32 × zM) :=
  zb (f_X9_in p1 (0 : Int32) ((gI u 0 2) - (1 : Int32)) u) fun y1 u2 => zck (z01 y1) <| some (y1, u2)
set_option maxRecDepth 20000 in
theorem go_X9_isWork {p : Program} {l : Launch} {e : Env} {s : State} {m : MethodId} {args : Array Value} {below : List Frame} {meth : Method} {c : Code} {as : Nat → Nat} {dA : Nat → ClassId} {D : va_G} {d : Nat} {p1 : Int32} (C : zCx p s m args meth c as dA D SHM d 2 yX9_isWork.cls cX9_isWork ((some FieldType.boolean))) (hd : 2 ≤ d) : ∀ (u : zM), Go p l e s m args below meth c as dA D SHM d 2 zQi 0 [(0, .ref 0), (1, .int p1)] [] u (f_X9_isWork p1 u) := by
  intro u
  unfold f_X9_isWork
  refine G_aload_n C 0 dX9_isWork_0 rfl rfl ?_
  refine G_iload_n C 1 dX9_isWork_1 rfl rfl ?_
  refine G_iconst (v := 0) C dX9_isWork_2 (by decide) ?_
  refine G_aload_n C 0 dX9_isWork_3 rfl rfl ?_
  refine G_getI C 2 shM_0 rfl rfl (by decide) wf9_16 dX9_isWork_4 ?_
  refine G_iconst (v := 1) C dX9_isWork_7 (by decide) ?_
  refine G_isub C dX9_isWork_8 ?_
  refine G_callVi C (m_X9_in p1 (0 : Int32) ((gI u 0 2) - (1 : Int32)) u (d - 1) (by omega)) (d' := d - 1) (As := [.int p1, .int (0 : Int32), .int ((gI u 0 2) - (1 : Int32))]) (by omega) rfl wm9_252 wwX9_in shM_0 rfl (Nat.le_of_ble_eq_true rfl) dX9_isWork_9 (fun y1 u2 => ?_)
  refine G_ck (fun hz3 => ?_)
  exact G_zret C (z01_nar hz3) dX9_isWork_12
theorem m_X9_isWork   (p1 : Int32) (u : zM) (d : Nat) (hd : 2 ≤ d) : zMet zQi SHM yX9_isWork cX9_isWork 2 ((some FieldType.boolean)) d [.ref 0, .int p1] u (f_X9_isWork p1 u) :=
  zMet_of (by decide +kernel) (fun as => Nat.le_of_ble_eq_true rfl) wwX9_isWork.2.2.2.1 (by omega) (fun p l e s m args below meth c as dA D C => go_X9_isWork C hd u)
/-! private boolean isHeat(int) -/
def f_X9_isHeat (p1 : Int32) (u : zM) : Option (Int32 × zM) :=
  zb (f_X9_in p1 (0 : Int32) (99 : Int32) u) fun y1 u2 => zck (z01 y1) <| some (y1, u2)
set_option maxRecDepth 20000 in
theorem go_X9_isHeat {p : Program} {l : Launch} {e : Env} {s : State} {m : MethodId} {args : Array Value} {below : List Frame} {meth : Method} {c : Code} {as : Nat → Nat} {dA : Nat → ClassId} {D : va_G} {d : Nat} {p1 : Int32} (C : zCx p s m args meth c as dA D SHM d 2 yX9_isHeat.cls cX9_isHeat ((some FieldType.boolean))) (hd : 2 ≤ d) : ∀ (u : zM), Go p l e s m args below meth c as dA D SHM d 2 zQi 0 [(0, .ref 0), (1, .int p1)] [] u (f_X9_isHeat p1 u) := by
  intro u
  unfold f_X9_isHeat
  refine G_aload_n C 0 dX9_isHeat_0 rfl rfl ?_
  refine G_iload_n C 1 dX9_isHeat_1 rfl rfl ?_
  refine G_iconst (v := 0) C dX9_isHeat_2 (by decide) ?_
  refine G_bipush (v := 99) C dX9_isHeat_3 (by decide) ?_
  refine G_callVi C (m_X9_in p1 (0 : Int32) (99 : Int32) u (d - 1) (by omega)) (d' := d - 1) (As := [.int p1, .int (0 : Int32), .int (99 : Int32)]) (by omega) rfl wm9_252 wwX9_in shM_0 rfl (Nat.le_of_ble_eq_true rfl) dX9_isHeat_5 (fun y1 u2 => ?_)
  refine G_ck (fun hz3 => ?_)
  exact G_zret C (z01_nar hz3) dX9_isHeat_8
theorem m_X9_isHeat   (p1 : Int32) (u : zM) (d : Nat) (hd : 2 ≤ d) : zMet zQi SHM yX9_isHeat cX9_isHeat 2 ((some FieldType.boolean)) d [.ref 0, .int p1] u (f_X9_isHeat p1 u) :=
  zMet_of (by decide +kernel) (fun as => Nat.le_of_ble_eq_true rfl) wwX9_isHeat.2.2.2.1 (by omega) (fun p l e s m args below meth c as dA D C => go_X9_isHeat C hd u)
/-! private boolean isMinutes(int) -/
def f_X9_isMinutes (p1 : Int32) (u : zM) : Option (Int32 × zM) :=
  zb (f_X9_in p1 (0 : Int32) (60 : Int32) u) fun y1 u2 => zck (z01 y1) <| some (y1, u2)
set_option maxRecDepth 20000 in
theorem go_X9_isMinutes {p : Program} {l : Launch} {e : Env} {s : State} {m : MethodId} {args : Array Value} {below : List Frame} {meth : Method} {c : Code} {as : Nat → Nat} {dA : Nat → ClassId} {D : va_G} {d : Nat} {p1 : Int32} (C : zCx p s m args meth c as dA D SHM d 2 yX9_isMinutes.cls cX9_isMinutes ((some FieldType.boolean))) (hd : 2 ≤ d) : ∀ (u : zM), Go p l e s m args below meth c as dA D SHM d 2 zQi 0 [(0, .ref 0), (1, .int p1)] [] u (f_X9_isMinutes p1 u) := by
  intro u
  unfold f_X9_isMinutes
  refine G_aload_n C 0 dX9_isMinutes_0 rfl rfl ?_
  refine G_iload_n C 1 dX9_isMinutes_1 rfl rfl ?_
  refine G_iconst (v := 0) C dX9_isMinutes_2 (by decide) ?_
  refine G_bipush (v := 60) C dX9_isMinutes_3 (by decide) ?_
  refine G_callVi C (m_X9_in p1 (0 : Int32) (60 : Int32) u (d - 1) (by omega)) (d' := d - 1) (As := [.int p1, .int (0 : Int32), .int (60 : Int32)]) (by omega) rfl wm9_252 wwX9_in shM_0 rfl (Nat.le_of_ble_eq_true rfl) dX9_isMinutes_5 (fun y1 u2 => ?_)
  refine G_ck (fun hz3 => ?_)
  exact G_zret C (z01_nar hz3) dX9_isMinutes_8
theorem m_X9_isMinutes   (p1 : Int32) (u : zM) (d : Nat) (hd : 2 ≤ d) : zMet zQi SHM yX9_isMinutes cX9_isMinutes 2 ((some FieldType.boolean)) d [.ref 0, .int p1] u (f_X9_isMinutes p1 u) :=
  zMet_of (by decide +kernel) (fun as => Nat.le_of_ble_eq_true rfl) wwX9_isMinutes.2.2.2.1 (by omega) (fun p l e s m args below meth c as dA D C => go_X9_isMinutes C hd u)
/-! public int one(int, int, int) -/
def f_X9_one_L97_b (p1 : Int32) (p2 : Int32) (p3 : Int32) (rc : Int32 → zM → Option (Int32 × zM)) (x4 : Int32) (u : zM) : Option (Int32 × zM) :=
  (if (4 : Int32) ≤ x4 then zlet (sI u 0 0 ((gI u 0 0) + (1 : Int32))) fun u11 => some (((gI u11 0 0) - (1 : Int32)), u11) else zck (inB (((4 : Int32) * (gI u 0 0)) + x4) 24) <| zlet (sI u 4 (((4 : Int32) * (gI u 0 0)) + x4).toNatClampNeg (0 : Int32)) fun u12 => rc (x4 + (1 : Int32)) u12)
def f_X9_one_L97 (p1 : Int32) (p2 : Int32) (p3 : Int32) : Nat → Int32 → zM → Option (Int32 × zM)
  | 0 => fun _ _ => none
  | fn + 1 => f_X9_one_L97_b p1 p2 p3 (f_X9_one_L97 p1 p2 p3 fn)
def f_X9_one (p1 : Int32) (p2 : Int32) (p3 : Int32) (u : zM) : Option (Int32 × zM) :=
  zb (f_X9_in p1 (0 : Int32) (6 : Int32) u) fun y1 u2 => (if y1 = (0 : Int32) then some ((-1 : Int32), u2) else zb (f_X9_in p2 (0 : Int32) (9 : Int32) u2) fun y3 u4 => (if y3 = (0 : Int32) then some ((-2 : Int32), u4) else zb (f_X9_isHeat p3 u4) fun y5 u6 => (if y5 = (0 : Int32) then some ((-2 : Int32), u6) else (if (gI u6 0 0) = (6 : Int32) then some ((-4 : Int32), u6) else zck (inB (gI u6 0 0) 6) <| zlet (sI u6 1 (gI u6 0 0).toNatClampNeg p1) fun u7 => zck (inB (gI u7 0 0) 6) <| zlet (sI u7 2 (gI u7 0 0).toNatClampNeg p2) fun u8 => zck (inB (gI u8 0 0) 6) <| zlet (sI u8 3 (gI u8 0 0).toNatClampNeg p3) fun u9 => zlet (sI u9 0 1 ((gI u9 0 1) &&& (((1 : Int32) <<< ((gI u9 0 0) &&& 31)) ^^^ (-1 : Int32)))) fun u10 => f_X9_one_L97 p1 p2 p3 400 (0 : Int32) u10))))
set_option maxRecDepth 20000 in
theorem go_X9_one_L97 {p : Program} {l : Launch} {e : Env} {s : State} {m : MethodId} {args : Array Value} {below : List Frame} {meth : Method} {c : Code} {as : Nat → Nat} {dA : Nat → ClassId} {D : va_G} {d : Nat} {p1 : Int32} {p2 : Int32} {p3 : Int32} (C : zCx p s m args meth c as dA D SHM d 5 yX9_one.cls cX9_one ((some FieldType.int))) (hd : 3 ≤ d) : ∀ (fn : Nat) (x4 : Int32) (u : zM), Go p l e s m args below meth c as dA D SHM d 5 zQi 97 [(0, .ref 0), (1, .int p1), (2, .int p2), (3, .int p3), (4, .int x4)] [] u (f_X9_one_L97 p1 p2 p3 fn x4 u) := by
  intro fn
  induction fn with
  | zero => intro x4 u; exact G_none
  | succ fn ih =>
    intro x4 u
    show Go p l e s m args below meth c as dA D SHM d 5 zQi 97 [(0, .ref 0), (1, .int p1), (2, .int p2), (3, .int p3), (4, .int x4)] [] u (f_X9_one_L97_b p1 p2 p3 (f_X9_one_L97 p1 p2 p3 fn) x4 u)
    unfold f_X9_one_L97_b
    refine G_iload C 4 dX9_one_97 rfl ?_
    refine G_iconst (v := 4) C dX9_one_99 (by decide) ?_
    refine G_icmp_ge (tgt := 124) C dX9_one_100 (by decide) (fun _ => ?_) (fun _ => ?_)
    · refine G_aload_n C 0 dX9_one_124 rfl rfl ?_
      refine G_dup C dX9_one_125 rfl ?_
      refine G_getI C 0 shM_0 rfl rfl (by decide) wf9_7 dX9_one_126 ?_
      refine G_iconst (v := 1) C dX9_one_129 (by decide) ?_
      refine G_iadd C dX9_one_130 ?_
      refine G_putI (ty := .int) C 0 shM_0 rfl rfl (by decide) wf9_7 rfl (by decide +kernel) rfl rfl dX9_one_131 (fun u11 => ?_)
      refine G_aload_n C 0 dX9_one_134 rfl rfl ?_
      refine G_getI C 0 shM_0 rfl rfl (by decide) wf9_7 dX9_one_135 ?_
      refine G_iconst (v := 1) C dX9_one_138 (by decide) ?_
      refine G_isub C dX9_one_139 ?_
      exact G_iret C dX9_one_140
    · refine G_aload_n C 0 dX9_one_103 rfl rfl ?_
      refine G_getR (j := 4) C 8 shM_0 rfl rfl (by decide) wf9_35 dX9_one_104 ?_
      refine G_iconst (v := 4) C dX9_one_107 (by decide) ?_
      refine G_aload_n C 0 dX9_one_108 rfl rfl ?_
      refine G_getI C 0 shM_0 rfl rfl (by decide) wf9_7 dX9_one_109 ?_
      refine G_imul C dX9_one_112 ?_
      refine G_iload C 4 dX9_one_113 rfl ?_
      refine G_iadd C dX9_one_115 ?_
      refine G_iconst (v := 0) C dX9_one_116 (by decide) ?_
      refine G_iast C shM_4 dX9_one_117 (fun _ u12 => ?_)
      refine G_iinc (v := 1) (L' := [(4, .int (x4 + (1 : Int32))), (0, .ref 0), (1, .int p1), (2, .int p2), (3, .int p3)]) C 4 dX9_one_118 rfl (by decide) (by decide) rfl ?_
      refine G_goto (tgt := 97) C dX9_one_121 (by decide) ?_
      refine G_locals [1, 2, 3, 4, 0] rfl ?_
      exact ih (x4 + (1 : Int32)) u12
set_option maxRecDepth 20000 in
theorem go_X9_one {p : Program} {l : Launch} {e : Env} {s : State} {m : MethodId} {args : Array Value} {below : List Frame} {meth : Method} {c : Code} {as : Nat → Nat} {dA : Nat → ClassId} {D : va_G} {d : Nat} {p1 : Int32} {p2 : Int32} {p3 : Int32} (C : zCx p s m args meth c as dA D SHM d 5 yX9_one.cls cX9_one ((some FieldType.int))) (hd : 3 ≤ d) : ∀ (u : zM), Go p l e s m args below meth c as dA D SHM d 5 zQi 0 [(0, .ref 0), (1, .int p1), (2, .int p2), (3, .int p3)] [] u (f_X9_one p1 p2 p3 u) := by
  intro u
  unfold f_X9_one
  refine G_aload_n C 0 dX9_one_0 rfl rfl ?_
  refine G_iload_n C 1 dX9_one_1 rfl rfl ?_
  refine G_iconst (v := 0) C dX9_one_2 (by decide) ?_
  refine G_bipush (v := 6) C dX9_one_3 (by decide) ?_
  refine G_callVi C (m_X9_in p1 (0 : Int32) (6 : Int32) u (d - 1) (by omega)) (d' := d - 1) (As := [.int p1, .int (0 : Int32), .int (6 : Int32)]) (by omega) rfl wm9_252 wwX9_in shM_0 rfl (Nat.le_of_ble_eq_true rfl) dX9_one_5 (fun y1 u2 => ?_)
  refine G_if_ne (tgt := 13) C dX9_one_8 (by decide) (fun _ => ?_) (fun _ => ?_)
  · refine G_aload_n C 0 dX9_one_13 rfl rfl ?_
    refine G_iload_n C 2 dX9_one_14 rfl rfl ?_
    refine G_iconst (v := 0) C dX9_one_15 (by decide) ?_
    refine G_bipush (v := 9) C dX9_one_16 (by decide) ?_
    refine G_callVi C (m_X9_in p2 (0 : Int32) (9 : Int32) u2 (d - 1) (by omega)) (d' := d - 1) (As := [.int p2, .int (0 : Int32), .int (9 : Int32)]) (by omega) rfl wm9_252 wwX9_in shM_0 rfl (Nat.le_of_ble_eq_true rfl) dX9_one_18 (fun y3 u4 => ?_)
    refine G_if_eq (tgt := 32) C dX9_one_21 (by decide) (fun _ => ?_) (fun _ => ?_)
    · refine G_bipush (v := -2) C dX9_one_32 (by decide) ?_
      exact G_iret C dX9_one_34
    · refine G_aload_n C 0 dX9_one_24 rfl rfl ?_
      refine G_iload_n C 3 dX9_one_25 rfl rfl ?_
      refine G_callVi C (m_X9_isHeat p3 u4 (d - 1) (by omega)) (d' := d - 1) (As := [.int p3]) (by omega) rfl wm9_256 wwX9_isHeat shM_0 rfl (Nat.le_of_ble_eq_true rfl) dX9_one_26 (fun y5 u6 => ?_)
      refine G_if_ne (tgt := 35) C dX9_one_29 (by decide) (fun _ => ?_) (fun _ => ?_)
      · refine G_aload_n C 0 dX9_one_35 rfl rfl ?_
        refine G_getI C 0 shM_0 rfl rfl (by decide) wf9_7 dX9_one_36 ?_
        refine G_bipush (v := 6) C dX9_one_39 (by decide) ?_
        refine G_icmp_ne (tgt := 47) C dX9_one_41 (by decide) (fun _ => ?_) (fun _ => ?_)
        · refine G_aload_n C 0 dX9_one_47 rfl rfl ?_
          refine G_getR (j := 1) C 5 shM_0 rfl rfl (by decide) wf9_25 dX9_one_48 ?_
          refine G_aload_n C 0 dX9_one_51 rfl rfl ?_
          refine G_getI C 0 shM_0 rfl rfl (by decide) wf9_7 dX9_one_52 ?_
          refine G_iload_n C 1 dX9_one_55 rfl rfl ?_
          refine G_iast C shM_1 dX9_one_56 (fun _ u7 => ?_)
          refine G_aload_n C 0 dX9_one_57 rfl rfl ?_
          refine G_getR (j := 2) C 6 shM_0 rfl rfl (by decide) wf9_29 dX9_one_58 ?_
          refine G_aload_n C 0 dX9_one_61 rfl rfl ?_
          refine G_getI C 0 shM_0 rfl rfl (by decide) wf9_7 dX9_one_62 ?_
          refine G_iload_n C 2 dX9_one_65 rfl rfl ?_
          refine G_iast C shM_2 dX9_one_66 (fun _ u8 => ?_)
          refine G_aload_n C 0 dX9_one_67 rfl rfl ?_
          refine G_getR (j := 3) C 7 shM_0 rfl rfl (by decide) wf9_32 dX9_one_68 ?_
          refine G_aload_n C 0 dX9_one_71 rfl rfl ?_
          refine G_getI C 0 shM_0 rfl rfl (by decide) wf9_7 dX9_one_72 ?_
          refine G_iload_n C 3 dX9_one_75 rfl rfl ?_
          refine G_iast C shM_3 dX9_one_76 (fun _ u9 => ?_)
          refine G_aload_n C 0 dX9_one_77 rfl rfl ?_
          refine G_dup C dX9_one_78 rfl ?_
          refine G_getI C 1 shM_0 rfl rfl (by decide) wf9_13 dX9_one_79 ?_
          refine G_iconst (v := 1) C dX9_one_82 (by decide) ?_
          refine G_aload_n C 0 dX9_one_83 rfl rfl ?_
          refine G_getI C 0 shM_0 rfl rfl (by decide) wf9_7 dX9_one_84 ?_
          refine G_ishl C dX9_one_87 ?_
          refine G_iconst (v := -1) C dX9_one_88 (by decide) ?_
          refine G_ixor C dX9_one_89 ?_
          refine G_iand C dX9_one_90 ?_
          refine G_putI (ty := .int) C 1 shM_0 rfl rfl (by decide) wf9_13 rfl (by decide +kernel) rfl rfl dX9_one_91 (fun u10 => ?_)
          refine G_iconst (v := 0) C dX9_one_94 (by decide) ?_
          refine G_istore (L' := [(4, .int (0 : Int32)), (0, .ref 0), (1, .int p1), (2, .int p2), (3, .int p3)]) C dX9_one_95 (by decide) rfl ?_
          refine G_locals [1, 2, 3, 4, 0] rfl ?_
          exact go_X9_one_L97 C hd 400 (0 : Int32) u10
        · refine G_bipush (v := -4) C dX9_one_44 (by decide) ?_
          exact G_iret C dX9_one_46
      · refine G_bipush (v := -2) C dX9_one_32 (by decide) ?_
        exact G_iret C dX9_one_34
  · refine G_iconst (v := -1) C dX9_one_11 (by decide) ?_
    exact G_iret C dX9_one_12
theorem m_X9_one   (p1 : Int32) (p2 : Int32) (p3 : Int32) (u : zM) (d : Nat) (hd : 3 ≤ d) : zMet zQi SHM yX9_one cX9_one 5 ((some FieldType.int)) d [.ref 0, .int p1, .int p2, .int p3] u (f_X9_one p1 p2 p3 u) :=
  zMet_of (by decide +kernel) (fun as => Nat.le_of_ble_eq_true rfl) wwX9_one.2.2.2.1 (by omega) (fun p l e s m args below meth c as dA D C => go_X9_one C hd u)
/-! public int heat(int, int) -/
def f_X9_heat (p1 : Int32) (p2 : Int32) (u : zM) : Option (Int32 × zM) :=
  zb (f_X9_isOne p1 u) fun y1 u2 => (if y1 = (0 : Int32) then some ((-1 : Int32), u2) else zb (f_X9_isHeat p2 u2) fun y3 u4 => (if y3 = (0 : Int32) then some ((-2 : Int32), u4) else zck (inB p1 6) <| zlx (gI u4 3 p1.toNatClampNeg) fun v6 => zck (inB p1 6) <| zlet (sI u4 3 p1.toNatClampNeg p2) fun u7 => some (v6, u7)))
set_option maxRecDepth 20000 in
theorem go_X9_heat {p : Program} {l : Launch} {e : Env} {s : State} {m : MethodId} {args : Array Value} {below : List Frame} {meth : Method} {c : Code} {as : Nat → Nat} {dA : Nat → ClassId} {D : va_G} {d : Nat} {p1 : Int32} {p2 : Int32} (C : zCx p s m args meth c as dA D SHM d 4 yX9_heat.cls cX9_heat ((some FieldType.int))) (hd : 3 ≤ d) : ∀ (u : zM), Go p l e s m args below meth c as dA D SHM d 4 zQi 0 [(0, .ref 0), (1, .int p1), (2, .int p2)] [] u (f_X9_heat p1 p2 u) := by
  intro u
  unfold f_X9_heat
  refine G_aload_n C 0 dX9_heat_0 rfl rfl ?_
  refine G_iload_n C 1 dX9_heat_1 rfl rfl ?_
  refine G_callVi C (m_X9_isOne p1 u (d - 1) (by omega)) (d' := d - 1) (As := [.int p1]) (by omega) rfl wm9_260 wwX9_isOne shM_0 rfl (Nat.le_of_ble_eq_true rfl) dX9_heat_2 (fun y1 u2 => ?_)
  refine G_if_ne (tgt := 10) C dX9_heat_5 (by decide) (fun _ => ?_) (fun _ => ?_)
  · refine G_aload_n C 0 dX9_heat_10 rfl rfl ?_
    refine G_iload_n C 2 dX9_heat_11 rfl rfl ?_
    refine G_callVi C (m_X9_isHeat p2 u2 (d - 1) (by omega)) (d' := d - 1) (As := [.int p2]) (by omega) rfl wm9_256 wwX9_isHeat shM_0 rfl (Nat.le_of_ble_eq_true rfl) dX9_heat_12 (fun y3 u4 => ?_)
    refine G_if_ne (tgt := 21) C dX9_heat_15 (by decide) (fun _ => ?_) (fun _ => ?_)
    · refine G_aload_n C 0 dX9_heat_21 rfl rfl ?_
      refine G_getR (j := 3) C 7 shM_0 rfl rfl (by decide) wf9_32 dX9_heat_22 ?_
      refine G_iload_n C 1 dX9_heat_25 rfl rfl ?_
      refine G_iald C shM_3 dX9_heat_26 (fun hb5 => ?_)
      refine G_topi (fun v6 => ?_)
      refine G_istore_n (L' := [(3, .int v6), (0, .ref 0), (1, .int p1), (2, .int p2)]) C dX9_heat_27 rfl (by decide) rfl ?_
      refine G_aload_n C 1 dX9_heat_28 rfl rfl ?_
      refine G_getR (j := 3) C 7 shM_0 rfl rfl (by decide) wf9_32 dX9_heat_29 ?_
      refine G_iload_n C 2 dX9_heat_32 rfl rfl ?_
      refine G_iload_n C 3 dX9_heat_33 rfl rfl ?_
      refine G_iast C shM_3 dX9_heat_34 (fun _ u7 => ?_)
      refine G_iload_n C 0 dX9_heat_35 rfl rfl ?_
      exact G_iret C dX9_heat_36
    · refine G_bipush (v := -2) C dX9_heat_18 (by decide) ?_
      exact G_iret C dX9_heat_20
  · refine G_iconst (v := -1) C dX9_heat_8 (by decide) ?_
    exact G_iret C dX9_heat_9
theorem m_X9_heat   (p1 : Int32) (p2 : Int32) (u : zM) (d : Nat) (hd : 3 ≤ d) : zMet zQi SHM yX9_heat cX9_heat 4 ((some FieldType.int)) d [.ref 0, .int p1, .int p2] u (f_X9_heat p1 p2 u) :=
  zMet_of (by decide +kernel) (fun as => Nat.le_of_ble_eq_true rfl) wwX9_heat.2.2.2.1 (by omega) (fun p l e s m args below meth c as dA D C => go_X9_heat C hd u)
/-! private void goes(int, boolean) -/
def f_X9_goes (p1 : Int32) (p2 : Int32) (u : zM) : Option (Unit × zM) :=
  (if p2 = (0 : Int32) then zlet (sI u 0 1 ((gI u 0 1) &&& (((1 : Int32) <<< (p1 &&& 31)) ^^^ (-1 : Int32)))) fun u1 => some ((), u1) else zlet (sI u 0 1 ((gI u 0 1) ||| ((1 : Int32) <<< (p1 &&& 31)))) fun u2 => some ((), u2))
set_option maxRecDepth 20000 in
theorem go_X9_goes {p : Program} {l : Launch} {e : Env} {s : State} {m : MethodId} {args : Array Value} {below : List Frame} {meth : Method} {c : Code} {as : Nat → Nat} {dA : Nat → ClassId} {D : va_G} {d : Nat} {p1 : Int32} {p2 : Int32} (C : zCx p s m args meth c as dA D SHM d 3 yX9_goes.cls cX9_goes (none)) (hd : 1 ≤ d) : ∀ (u : zM), Go p l e s m args below meth c as dA D SHM d 3 zQv 0 [(0, .ref 0), (1, .int p1), (2, .int p2)] [] u (f_X9_goes p1 p2 u) := by
  intro u
  unfold f_X9_goes
  refine G_aload_n C 0 dX9_goes_0 rfl rfl ?_
  refine G_iload_n C 2 dX9_goes_1 rfl rfl ?_
  refine G_if_eq (tgt := 16) C dX9_goes_2 (by decide) (fun _ => ?_) (fun _ => ?_)
  · refine G_aload_n C 0 dX9_goes_16 rfl rfl ?_
    refine G_getI C 1 shM_0 rfl rfl (by decide) wf9_13 dX9_goes_17 ?_
    refine G_iconst (v := 1) C dX9_goes_20 (by decide) ?_
    refine G_iload_n C 1 dX9_goes_21 rfl rfl ?_
    refine G_ishl C dX9_goes_22 ?_
    refine G_iconst (v := -1) C dX9_goes_23 (by decide) ?_
    refine G_ixor C dX9_goes_24 ?_
    refine G_iand C dX9_goes_25 ?_
    refine G_putI (ty := .int) C 1 shM_0 rfl rfl (by decide) wf9_13 rfl (by decide +kernel) rfl rfl dX9_goes_26 (fun u1 => ?_)
    exact G_vret C dX9_goes_29
  · refine G_aload_n C 0 dX9_goes_5 rfl rfl ?_
    refine G_getI C 1 shM_0 rfl rfl (by decide) wf9_13 dX9_goes_6 ?_
    refine G_iconst (v := 1) C dX9_goes_9 (by decide) ?_
    refine G_iload_n C 1 dX9_goes_10 rfl rfl ?_
    refine G_ishl C dX9_goes_11 ?_
    refine G_ior C dX9_goes_12 ?_
    refine G_goto (tgt := 26) C dX9_goes_13 (by decide) ?_
    refine G_putI (ty := .int) C 1 shM_0 rfl rfl (by decide) wf9_13 rfl (by decide +kernel) rfl rfl dX9_goes_26 (fun u2 => ?_)
    exact G_vret C dX9_goes_29
theorem m_X9_goes   (p1 : Int32) (p2 : Int32) (u : zM) (d : Nat) (hd : 1 ≤ d) : zMet zQv SHM yX9_goes cX9_goes 3 (none) d [.ref 0, .int p1, .int p2] u (f_X9_goes p1 p2 u) :=
  zMet_of (by decide +kernel) (fun as => Nat.le_of_ble_eq_true rfl) wwX9_goes.2.2.2.1 (by omega) (fun p l e s m args below meth c as dA D C => go_X9_goes C hd u)
/-! public int away(int, boolean) -/
def f_X9_away (p1 : Int32) (p2 : Int32) (u : zM) : Option (Int32 × zM) :=
  zb (f_X9_isOne p1 u) fun y1 u2 => (if y1 = (0 : Int32) then some ((-1 : Int32), u2) else zb (f_X9_has (gI u2 0 1) p1 u2) fun y3 u4 => (if y3 = (0 : Int32) then zb (f_X9_goes p1 p2 u4) fun _ u6 => some ((0 : Int32), u6) else zb (f_X9_goes p1 p2 u4) fun _ u8 => some ((1 : Int32), u8)))
set_option maxRecDepth 20000 in
theorem go_X9_away {p : Program} {l : Launch} {e : Env} {s : State} {m : MethodId} {args : Array Value} {below : List Frame} {meth : Method} {c : Code} {as : Nat → Nat} {dA : Nat → ClassId} {D : va_G} {d : Nat} {p1 : Int32} {p2 : Int32} (C : zCx p s m args meth c as dA D SHM d 4 yX9_away.cls cX9_away ((some FieldType.int))) (hd : 3 ≤ d) : ∀ (u : zM), Go p l e s m args below meth c as dA D SHM d 4 zQi 0 [(0, .ref 0), (1, .int p1), (2, .int p2)] [] u (f_X9_away p1 p2 u) := by
  intro u
  unfold f_X9_away
  refine G_aload_n C 0 dX9_away_0 rfl rfl ?_
  refine G_iload_n C 1 dX9_away_1 rfl rfl ?_
  refine G_callVi C (m_X9_isOne p1 u (d - 1) (by omega)) (d' := d - 1) (As := [.int p1]) (by omega) rfl wm9_260 wwX9_isOne shM_0 rfl (Nat.le_of_ble_eq_true rfl) dX9_away_2 (fun y1 u2 => ?_)
  refine G_if_ne (tgt := 10) C dX9_away_5 (by decide) (fun _ => ?_) (fun _ => ?_)
  · refine G_aload_n C 0 dX9_away_10 rfl rfl ?_
    refine G_aload_n C 0 dX9_away_11 rfl rfl ?_
    refine G_getI C 1 shM_0 rfl rfl (by decide) wf9_13 dX9_away_12 ?_
    refine G_iload_n C 1 dX9_away_15 rfl rfl ?_
    refine G_callVi C (m_X9_has (gI u2 0 1) p1 u2 (d - 1) (by omega)) (d' := d - 1) (As := [.int (gI u2 0 1), .int p1]) (by omega) rfl wm9_263 wwX9_has shM_0 rfl (Nat.le_of_ble_eq_true rfl) dX9_away_16 (fun y3 u4 => ?_)
    refine G_if_eq (tgt := 26) C dX9_away_19 (by decide) (fun _ => ?_) (fun _ => ?_)
    · refine G_iconst (v := 0) C dX9_away_26 (by decide) ?_
      refine G_istore_n (L' := [(3, .int (0 : Int32)), (0, .ref 0), (1, .int p1), (2, .int p2)]) C dX9_away_27 rfl (by decide) rfl ?_
      refine G_aload_n C 1 dX9_away_28 rfl rfl ?_
      refine G_iload_n C 2 dX9_away_29 rfl rfl ?_
      refine G_iload_n C 3 dX9_away_30 rfl rfl ?_
      refine G_callVv C (m_X9_goes p1 p2 u4 (d - 1) (by omega)) (d' := d - 1) (As := [.int p1, .int p2]) (by omega) rfl wm9_267 wwX9_goes shM_0 rfl (Nat.le_of_ble_eq_true rfl) dX9_away_31 (fun y5 u6 => ?_)
      refine G_iload_n C 0 dX9_away_34 rfl rfl ?_
      exact G_iret C dX9_away_35
    · refine G_iconst (v := 1) C dX9_away_22 (by decide) ?_
      refine G_goto (tgt := 27) C dX9_away_23 (by decide) ?_
      refine G_istore_n (L' := [(3, .int (1 : Int32)), (0, .ref 0), (1, .int p1), (2, .int p2)]) C dX9_away_27 rfl (by decide) rfl ?_
      refine G_aload_n C 1 dX9_away_28 rfl rfl ?_
      refine G_iload_n C 2 dX9_away_29 rfl rfl ?_
      refine G_iload_n C 3 dX9_away_30 rfl rfl ?_
      refine G_callVv C (m_X9_goes p1 p2 u4 (d - 1) (by omega)) (d' := d - 1) (As := [.int p1, .int p2]) (by omega) rfl wm9_267 wwX9_goes shM_0 rfl (Nat.le_of_ble_eq_true rfl) dX9_away_31 (fun y7 u8 => ?_)
      refine G_iload_n C 0 dX9_away_34 rfl rfl ?_
      exact G_iret C dX9_away_35
  · refine G_iconst (v := -1) C dX9_away_8 (by decide) ?_
    exact G_iret C dX9_away_9
theorem m_X9_away   (p1 : Int32) (p2 : Int32) (u : zM) (d : Nat) (hd : 3 ≤ d) : zMet zQi SHM yX9_away cX9_away 4 ((some FieldType.int)) d [.ref 0, .int p1, .int p2] u (f_X9_away p1 p2 u) :=
  zMet_of (by decide +kernel) (fun as => Nat.le_of_ble_eq_true rfl) wwX9_away.2.2.2.1 (by omega) (fun p l e s m args below meth c as dA D C => go_X9_away C hd u)
/-! public int work(int, int) -/
def f_X9_work (p1 : Int32) (p2 : Int32) (u : zM) : Option (Int32 × zM) :=
  zb (f_X9_in p1 (1 : Int32) (999 : Int32) u) fun y1 u2 => (if y1 = (0 : Int32) then some ((-2 : Int32), u2) else zb (f_X9_in p2 (0 : Int32) (60 : Int32) u2) fun y3 u4 => (if y3 = (0 : Int32) then some ((-2 : Int32), u4) else (if (gI u4 0 2) = (4 : Int32) then some ((-4 : Int32), u4) else zck (inB (gI u4 0 2) 4) <| zlet (sI u4 5 (gI u4 0 2).toNatClampNeg p1) fun u5 => zck (inB (gI u5 0 2) 4) <| zlet (sI u5 6 (gI u5 0 2).toNatClampNeg p2) fun u6 => zck (inB (gI u6 0 2) 4) <| zlet (sI u6 7 (gI u6 0 2).toNatClampNeg (0 : Int32)) fun u7 => zlet (sI u7 0 2 ((gI u7 0 2) + (1 : Int32))) fun u8 => some (((gI u8 0 2) - (1 : Int32)), u8))))
set_option maxRecDepth 20000 in
theorem go_X9_work {p : Program} {l : Launch} {e : Env} {s : State} {m : MethodId} {args : Array Value} {below : List Frame} {meth : Method} {c : Code} {as : Nat → Nat} {dA : Nat → ClassId} {D : va_G} {d : Nat} {p1 : Int32} {p2 : Int32} (C : zCx p s m args meth c as dA D SHM d 3 yX9_work.cls cX9_work ((some FieldType.int))) (hd : 2 ≤ d) : ∀ (u : zM), Go p l e s m args below meth c as dA D SHM d 3 zQi 0 [(0, .ref 0), (1, .int p1), (2, .int p2)] [] u (f_X9_work p1 p2 u) := by
  intro u
  unfold f_X9_work
  refine G_aload_n C 0 dX9_work_0 rfl rfl ?_
  refine G_iload_n C 1 dX9_work_1 rfl rfl ?_
  refine G_iconst (v := 1) C dX9_work_2 (by decide) ?_
  refine G_sipush (v := 999) C dX9_work_3 (by decide) ?_
  refine G_callVi C (m_X9_in p1 (1 : Int32) (999 : Int32) u (d - 1) (by omega)) (d' := d - 1) (As := [.int p1, .int (1 : Int32), .int (999 : Int32)]) (by omega) rfl wm9_252 wwX9_in shM_0 rfl (Nat.le_of_ble_eq_true rfl) dX9_work_6 (fun y1 u2 => ?_)
  refine G_if_eq (tgt := 23) C dX9_work_9 (by decide) (fun _ => ?_) (fun _ => ?_)
  · refine G_bipush (v := -2) C dX9_work_23 (by decide) ?_
    exact G_iret C dX9_work_25
  · refine G_aload_n C 0 dX9_work_12 rfl rfl ?_
    refine G_iload_n C 2 dX9_work_13 rfl rfl ?_
    refine G_iconst (v := 0) C dX9_work_14 (by decide) ?_
    refine G_bipush (v := 60) C dX9_work_15 (by decide) ?_
    refine G_callVi C (m_X9_in p2 (0 : Int32) (60 : Int32) u2 (d - 1) (by omega)) (d' := d - 1) (As := [.int p2, .int (0 : Int32), .int (60 : Int32)]) (by omega) rfl wm9_252 wwX9_in shM_0 rfl (Nat.le_of_ble_eq_true rfl) dX9_work_17 (fun y3 u4 => ?_)
    refine G_if_ne (tgt := 26) C dX9_work_20 (by decide) (fun _ => ?_) (fun _ => ?_)
    · refine G_aload_n C 0 dX9_work_26 rfl rfl ?_
      refine G_getI C 2 shM_0 rfl rfl (by decide) wf9_16 dX9_work_27 ?_
      refine G_iconst (v := 4) C dX9_work_30 (by decide) ?_
      refine G_icmp_ne (tgt := 37) C dX9_work_31 (by decide) (fun _ => ?_) (fun _ => ?_)
      · refine G_aload_n C 0 dX9_work_37 rfl rfl ?_
        refine G_getR (j := 5) C 9 shM_0 rfl rfl (by decide) wf9_38 dX9_work_38 ?_
        refine G_aload_n C 0 dX9_work_41 rfl rfl ?_
        refine G_getI C 2 shM_0 rfl rfl (by decide) wf9_16 dX9_work_42 ?_
        refine G_iload_n C 1 dX9_work_45 rfl rfl ?_
        refine G_iast C shM_5 dX9_work_46 (fun _ u5 => ?_)
        refine G_aload_n C 0 dX9_work_47 rfl rfl ?_
        refine G_getR (j := 6) C 10 shM_0 rfl rfl (by decide) wf9_41 dX9_work_48 ?_
        refine G_aload_n C 0 dX9_work_51 rfl rfl ?_
        refine G_getI C 2 shM_0 rfl rfl (by decide) wf9_16 dX9_work_52 ?_
        refine G_iload_n C 2 dX9_work_55 rfl rfl ?_
        refine G_iast C shM_6 dX9_work_56 (fun _ u6 => ?_)
        refine G_aload_n C 0 dX9_work_57 rfl rfl ?_
        refine G_getR (j := 7) C 11 shM_0 rfl rfl (by decide) wf9_44 dX9_work_58 ?_
        refine G_aload_n C 0 dX9_work_61 rfl rfl ?_
        refine G_getI C 2 shM_0 rfl rfl (by decide) wf9_16 dX9_work_62 ?_
        refine G_iconst (v := 0) C dX9_work_65 (by decide) ?_
        refine G_iast C shM_7 dX9_work_66 (fun _ u7 => ?_)
        refine G_aload_n C 0 dX9_work_67 rfl rfl ?_
        refine G_dup C dX9_work_68 rfl ?_
        refine G_getI C 2 shM_0 rfl rfl (by decide) wf9_16 dX9_work_69 ?_
        refine G_iconst (v := 1) C dX9_work_72 (by decide) ?_
        refine G_iadd C dX9_work_73 ?_
        refine G_putI (ty := .int) C 2 shM_0 rfl rfl (by decide) wf9_16 rfl (by decide +kernel) rfl rfl dX9_work_74 (fun u8 => ?_)
        refine G_aload_n C 0 dX9_work_77 rfl rfl ?_
        refine G_getI C 2 shM_0 rfl rfl (by decide) wf9_16 dX9_work_78 ?_
        refine G_iconst (v := 1) C dX9_work_81 (by decide) ?_
        refine G_isub C dX9_work_82 ?_
        exact G_iret C dX9_work_83
      · refine G_bipush (v := -4) C dX9_work_34 (by decide) ?_
        exact G_iret C dX9_work_36
    · refine G_bipush (v := -2) C dX9_work_23 (by decide) ?_
      exact G_iret C dX9_work_25
theorem m_X9_work   (p1 : Int32) (p2 : Int32) (u : zM) (d : Nat) (hd : 2 ≤ d) : zMet zQi SHM yX9_work cX9_work 3 ((some FieldType.int)) d [.ref 0, .int p1, .int p2] u (f_X9_work p1 p2 u) :=
  zMet_of (by decide +kernel) (fun as => Nat.le_of_ble_eq_true rfl) wwX9_work.2.2.2.1 (by omega) (fun p l e s m args below meth c as dA D C => go_X9_work C hd u)
/-! public int anvil(int) -/
def f_X9_anvil_L15 (p1 : Int32) (u : zM) : Option (Int32 × zM) :=
  zlx (gI u 0 3) fun v1 => (if (0 : Int32) ≤ p1 then zlet (sI u 0 3 p1) fun u2 => some (v1, u2) else zlet (sI u 0 3 (-5 : Int32)) fun u3 => some (v1, u3))
def f_X9_anvil (p1 : Int32) (u : zM) : Option (Int32 × zM) :=
  (if p1 = (-1 : Int32) then f_X9_anvil_L15 p1 u else zb (f_X9_isWork p1 u) fun y4 u5 => (if y4 = (0 : Int32) then some ((-1 : Int32), u5) else f_X9_anvil_L15 p1 u5))
set_option maxRecDepth 20000 in
theorem go_X9_anvil_L15 {p : Program} {l : Launch} {e : Env} {s : State} {m : MethodId} {args : Array Value} {below : List Frame} {meth : Method} {c : Code} {as : Nat → Nat} {dA : Nat → ClassId} {D : va_G} {d : Nat} {p1 : Int32} (C : zCx p s m args meth c as dA D SHM d 3 yX9_anvil.cls cX9_anvil ((some FieldType.int))) (hd : 3 ≤ d) : ∀ (u : zM), Go p l e s m args below meth c as dA D SHM d 3 zQi 15 [(0, .ref 0), (1, .int p1)] [] u (f_X9_anvil_L15 p1 u) := by
  intro u
  unfold f_X9_anvil_L15
  refine G_aload_n C 0 dX9_anvil_15 rfl rfl ?_
  refine G_getI C 3 shM_0 rfl rfl (by decide) wf9_19 dX9_anvil_16 ?_
  refine G_topi (fun v1 => ?_)
  refine G_istore_n (L' := [(2, .int v1), (0, .ref 0), (1, .int p1)]) C dX9_anvil_19 rfl (by decide) rfl ?_
  refine G_aload_n C 1 dX9_anvil_20 rfl rfl ?_
  refine G_iload_n C 2 dX9_anvil_21 rfl rfl ?_
  refine G_if_ge (tgt := 30) C dX9_anvil_22 (by decide) (fun _ => ?_) (fun _ => ?_)
  · refine G_iload_n C 2 dX9_anvil_30 rfl rfl ?_
    refine G_putI (ty := .int) C 3 shM_0 rfl rfl (by decide) wf9_19 rfl (by decide +kernel) rfl rfl dX9_anvil_31 (fun u2 => ?_)
    refine G_iload_n C 0 dX9_anvil_34 rfl rfl ?_
    exact G_iret C dX9_anvil_35
  · refine G_bipush (v := -5) C dX9_anvil_25 (by decide) ?_
    refine G_goto (tgt := 31) C dX9_anvil_27 (by decide) ?_
    refine G_putI (ty := .int) C 3 shM_0 rfl rfl (by decide) wf9_19 rfl (by decide +kernel) rfl rfl dX9_anvil_31 (fun u3 => ?_)
    refine G_iload_n C 0 dX9_anvil_34 rfl rfl ?_
    exact G_iret C dX9_anvil_35
set_option maxRecDepth 20000 in
theorem go_X9_anvil {p : Program} {l : Launch} {e : Env} {s : State} {m : MethodId} {args : Array Value} {below : List Frame} {meth : Method} {c : Code} {as : Nat → Nat} {dA : Nat → ClassId} {D : va_G} {d : Nat} {p1 : Int32} (C : zCx p s m args meth c as dA D SHM d 3 yX9_anvil.cls cX9_anvil ((some FieldType.int))) (hd : 3 ≤ d) : ∀ (u : zM), Go p l e s m args below meth c as dA D SHM d 3 zQi 0 [(0, .ref 0), (1, .int p1)] [] u (f_X9_anvil p1 u) := by
  intro u
  unfold f_X9_anvil
  refine G_iload_n C 1 dX9_anvil_0 rfl rfl ?_
  refine G_iconst (v := -1) C dX9_anvil_1 (by decide) ?_
  refine G_icmp_eq (tgt := 15) C dX9_anvil_2 (by decide) (fun _ => ?_) (fun _ => ?_)
  · refine G_locals [0, 1] rfl ?_
    exact go_X9_anvil_L15 C hd u
  · refine G_aload_n C 0 dX9_anvil_5 rfl rfl ?_
    refine G_iload_n C 1 dX9_anvil_6 rfl rfl ?_
    refine G_callVi C (m_X9_isWork p1 u (d - 1) (by omega)) (d' := d - 1) (As := [.int p1]) (by omega) rfl wm9_271 wwX9_isWork shM_0 rfl (Nat.le_of_ble_eq_true rfl) dX9_anvil_7 (fun y4 u5 => ?_)
    refine G_if_ne (tgt := 15) C dX9_anvil_10 (by decide) (fun _ => ?_) (fun _ => ?_)
    · refine G_locals [0, 1] rfl ?_
      exact go_X9_anvil_L15 C hd u5
    · refine G_iconst (v := -1) C dX9_anvil_13 (by decide) ?_
      exact G_iret C dX9_anvil_14
theorem m_X9_anvil   (p1 : Int32) (u : zM) (d : Nat) (hd : 3 ≤ d) : zMet zQi SHM yX9_anvil cX9_anvil 3 ((some FieldType.int)) d [.ref 0, .int p1] u (f_X9_anvil p1 u) :=
  zMet_of (by decide +kernel) (fun as => Nat.le_of_ble_eq_true rfl) wwX9_anvil.2.2.2.1 (by omega) (fun p l e s m args below meth c as dA D C => go_X9_anvil C hd u)
/-! public int row(int, int, int) -/
def f_X9_row (p1 : Int32) (p2 : Int32) (p3 : Int32) (u : zM) : Option (Int32 × zM) :=
  zb (f_X9_isOne p1 u) fun y1 u2 => (if y1 = (0 : Int32) then some ((-1 : Int32), u2) else zb (f_X9_in p2 (0 : Int32) (3 : Int32) u2) fun y3 u4 => (if y3 = (0 : Int32) then some ((-1 : Int32), u4) else zb (f_X9_in p3 (0 : Int32) (9 : Int32) u4) fun y5 u6 => (if y5 = (0 : Int32) then some ((-2 : Int32), u6) else zck (inB p1 6) <| (if (gI u6 1 p1.toNatClampNeg) = (6 : Int32) then zck (inB (((4 : Int32) * p1) + p2) 24) <| zlx (gI u6 4 (((4 : Int32) * p1) + p2).toNatClampNeg) fun v9 => zck (inB (((4 : Int32) * p1) + p2) 24) <| zlet (sI u6 4 (((4 : Int32) * p1) + p2).toNatClampNeg p3) fun u10 => some (v9, u10) else some ((-3 : Int32), u6)))))
set_option maxRecDepth 20000 in
theorem go_X9_row {p : Program} {l : Launch} {e : Env} {s : State} {m : MethodId} {args : Array Value} {below : List Frame} {meth : Method} {c : Code} {as : Nat → Nat} {dA : Nat → ClassId} {D : va_G} {d : Nat} {p1 : Int32} {p2 : Int32} {p3 : Int32} (C : zCx p s m args meth c as dA D SHM d 5 yX9_row.cls cX9_row ((some FieldType.int))) (hd : 3 ≤ d) : ∀ (u : zM), Go p l e s m args below meth c as dA D SHM d 5 zQi 0 [(0, .ref 0), (1, .int p1), (2, .int p2), (3, .int p3)] [] u (f_X9_row p1 p2 p3 u) := by
  intro u
  unfold f_X9_row
  refine G_aload_n C 0 dX9_row_0 rfl rfl ?_
  refine G_iload_n C 1 dX9_row_1 rfl rfl ?_
  refine G_callVi C (m_X9_isOne p1 u (d - 1) (by omega)) (d' := d - 1) (As := [.int p1]) (by omega) rfl wm9_260 wwX9_isOne shM_0 rfl (Nat.le_of_ble_eq_true rfl) dX9_row_2 (fun y1 u2 => ?_)
  refine G_if_eq (tgt := 18) C dX9_row_5 (by decide) (fun _ => ?_) (fun _ => ?_)
  · refine G_iconst (v := -1) C dX9_row_18 (by decide) ?_
    exact G_iret C dX9_row_19
  · refine G_aload_n C 0 dX9_row_8 rfl rfl ?_
    refine G_iload_n C 2 dX9_row_9 rfl rfl ?_
    refine G_iconst (v := 0) C dX9_row_10 (by decide) ?_
    refine G_iconst (v := 3) C dX9_row_11 (by decide) ?_
    refine G_callVi C (m_X9_in p2 (0 : Int32) (3 : Int32) u2 (d - 1) (by omega)) (d' := d - 1) (As := [.int p2, .int (0 : Int32), .int (3 : Int32)]) (by omega) rfl wm9_252 wwX9_in shM_0 rfl (Nat.le_of_ble_eq_true rfl) dX9_row_12 (fun y3 u4 => ?_)
    refine G_if_ne (tgt := 20) C dX9_row_15 (by decide) (fun _ => ?_) (fun _ => ?_)
    · refine G_aload_n C 0 dX9_row_20 rfl rfl ?_
      refine G_iload_n C 3 dX9_row_21 rfl rfl ?_
      refine G_iconst (v := 0) C dX9_row_22 (by decide) ?_
      refine G_bipush (v := 9) C dX9_row_23 (by decide) ?_
      refine G_callVi C (m_X9_in p3 (0 : Int32) (9 : Int32) u4 (d - 1) (by omega)) (d' := d - 1) (As := [.int p3, .int (0 : Int32), .int (9 : Int32)]) (by omega) rfl wm9_252 wwX9_in shM_0 rfl (Nat.le_of_ble_eq_true rfl) dX9_row_25 (fun y5 u6 => ?_)
      refine G_if_ne (tgt := 34) C dX9_row_28 (by decide) (fun _ => ?_) (fun _ => ?_)
      · refine G_aload_n C 0 dX9_row_34 rfl rfl ?_
        refine G_getR (j := 1) C 5 shM_0 rfl rfl (by decide) wf9_25 dX9_row_35 ?_
        refine G_iload_n C 1 dX9_row_38 rfl rfl ?_
        refine G_iald C shM_1 dX9_row_39 (fun hb7 => ?_)
        refine G_bipush (v := 6) C dX9_row_40 (by decide) ?_
        refine G_icmp_eq (tgt := 48) C dX9_row_42 (by decide) (fun _ => ?_) (fun _ => ?_)
        · refine G_aload_n C 0 dX9_row_48 rfl rfl ?_
          refine G_getR (j := 4) C 8 shM_0 rfl rfl (by decide) wf9_35 dX9_row_49 ?_
          refine G_iconst (v := 4) C dX9_row_52 (by decide) ?_
          refine G_iload_n C 1 dX9_row_53 rfl rfl ?_
          refine G_imul C dX9_row_54 ?_
          refine G_iload_n C 2 dX9_row_55 rfl rfl ?_
          refine G_iadd C dX9_row_56 ?_
          refine G_iald C shM_4 dX9_row_57 (fun hb8 => ?_)
          refine G_topi (fun v9 => ?_)
          refine G_istore (L' := [(4, .int v9), (0, .ref 0), (1, .int p1), (2, .int p2), (3, .int p3)]) C dX9_row_58 (by decide) rfl ?_
          refine G_aload_n C 1 dX9_row_60 rfl rfl ?_
          refine G_getR (j := 4) C 8 shM_0 rfl rfl (by decide) wf9_35 dX9_row_61 ?_
          refine G_iconst (v := 4) C dX9_row_64 (by decide) ?_
          refine G_iload_n C 2 dX9_row_65 rfl rfl ?_
          refine G_imul C dX9_row_66 ?_
          refine G_iload_n C 3 dX9_row_67 rfl rfl ?_
          refine G_iadd C dX9_row_68 ?_
          refine G_iload_n C 4 dX9_row_69 rfl rfl ?_
          refine G_iast C shM_4 dX9_row_70 (fun _ u10 => ?_)
          refine G_iload C 0 dX9_row_71 rfl ?_
          exact G_iret C dX9_row_73
        · refine G_bipush (v := -3) C dX9_row_45 (by decide) ?_
          exact G_iret C dX9_row_47
      · refine G_bipush (v := -2) C dX9_row_31 (by decide) ?_
        exact G_iret C dX9_row_33
    · refine G_iconst (v := -1) C dX9_row_18 (by decide) ?_
      exact G_iret C dX9_row_19
theorem m_X9_row   (p1 : Int32) (p2 : Int32) (p3 : Int32) (u : zM) (d : Nat) (hd : 3 ≤ d) : zMet zQi SHM yX9_row cX9_row 5 ((some FieldType.int)) d [.ref 0, .int p1, .int p2, .int p3] u (f_X9_row p1 p2 p3 u) :=
  zMet_of (by decide +kernel) (fun as => Nat.le_of_ble_eq_true rfl) wwX9_row.2.2.2.1 (by omega) (fun p l e s m args below meth c as dA D C => go_X9_row C hd u)
/-! public int feed(int) -/
def f_X9_feed (p1 : Int32) (u : zM) : Option (Int32 × zM) :=
  zb (f_X9_in p1 (0 : Int32) (127 : Int32) u) fun y1 u2 => (if y1 = (0 : Int32) then some ((-2 : Int32), u2) else (if (gI u2 0 14) = (100 : Int32) then some ((-4 : Int32), u2) else zck (inB (gI u2 0 14) 100) <| zlet (sI u2 8 (gI u2 0 14).toNatClampNeg p1) fun u3 => zlet (sI u3 0 14 ((gI u3 0 14) + (1 : Int32))) fun u4 => some ((gI u4 0 14), u4)))
set_option maxRecDepth 20000 in
theorem go_X9_feed {p : Program} {l : Launch} {e : Env} {s : State} {m : MethodId} {args : Array Value} {below : List Frame} {meth : Method} {c : Code} {as : Nat → Nat} {dA : Nat → ClassId} {D : va_G} {d : Nat} {p1 : Int32} (C : zCx p s m args meth c as dA D SHM d 2 yX9_feed.cls cX9_feed ((some FieldType.int))) (hd : 2 ≤ d) : ∀ (u : zM), Go p l e s m args below meth c as dA D SHM d 2 zQi 0 [(0, .ref 0), (1, .int p1)] [] u (f_X9_feed p1 u) := by
  intro u
  unfold f_X9_feed
  refine G_aload_n C 0 dX9_feed_0 rfl rfl ?_
  refine G_iload_n C 1 dX9_feed_1 rfl rfl ?_
  refine G_iconst (v := 0) C dX9_feed_2 (by decide) ?_
  refine G_bipush (v := 127) C dX9_feed_3 (by decide) ?_
  refine G_callVi C (m_X9_in p1 (0 : Int32) (127 : Int32) u (d - 1) (by omega)) (d' := d - 1) (As := [.int p1, .int (0 : Int32), .int (127 : Int32)]) (by omega) rfl wm9_252 wwX9_in shM_0 rfl (Nat.le_of_ble_eq_true rfl) dX9_feed_5 (fun y1 u2 => ?_)
  refine G_if_ne (tgt := 14) C dX9_feed_8 (by decide) (fun _ => ?_) (fun _ => ?_)
  · refine G_aload_n C 0 dX9_feed_14 rfl rfl ?_
    refine G_getI C 14 shM_0 rfl rfl (by decide) wf9_53 dX9_feed_15 ?_
    refine G_bipush (v := 100) C dX9_feed_18 (by decide) ?_
    refine G_icmp_ne (tgt := 26) C dX9_feed_20 (by decide) (fun _ => ?_) (fun _ => ?_)
    · refine G_aload_n C 0 dX9_feed_26 rfl rfl ?_
      refine G_getR (j := 8) C 17 shM_0 rfl rfl (by decide) wf9_62 dX9_feed_27 ?_
      refine G_aload_n C 0 dX9_feed_30 rfl rfl ?_
      refine G_getI C 14 shM_0 rfl rfl (by decide) wf9_53 dX9_feed_31 ?_
      refine G_iload_n C 1 dX9_feed_34 rfl rfl ?_
      refine G_iast C shM_8 dX9_feed_35 (fun _ u3 => ?_)
      refine G_aload_n C 0 dX9_feed_36 rfl rfl ?_
      refine G_dup C dX9_feed_37 rfl ?_
      refine G_getI C 14 shM_0 rfl rfl (by decide) wf9_53 dX9_feed_38 ?_
      refine G_iconst (v := 1) C dX9_feed_41 (by decide) ?_
      refine G_iadd C dX9_feed_42 ?_
      refine G_putI (ty := .int) C 14 shM_0 rfl rfl (by decide) wf9_53 rfl (by decide +kernel) rfl rfl dX9_feed_43 (fun u4 => ?_)
      refine G_aload_n C 0 dX9_feed_46 rfl rfl ?_
      refine G_getI C 14 shM_0 rfl rfl (by decide) wf9_53 dX9_feed_47 ?_
      exact G_iret C dX9_feed_50
    · refine G_bipush (v := -4) C dX9_feed_23 (by decide) ?_
      exact G_iret C dX9_feed_25
  · refine G_bipush (v := -2) C dX9_feed_11 (by decide) ?_
    exact G_iret C dX9_feed_13
theorem m_X9_feed   (p1 : Int32) (u : zM) (d : Nat) (hd : 2 ≤ d) : zMet zQi SHM yX9_feed cX9_feed 2 ((some FieldType.int)) d [.ref 0, .int p1] u (f_X9_feed p1 u) :=
  zMet_of (by decide +kernel) (fun as => Nat.le_of_ble_eq_true rfl) wwX9_feed.2.2.2.1 (by omega) (fun p l e s m args below meth c as dA D C => go_X9_feed C hd u)
/-! private int next() -/
def f_X9_next (u : zM) : Option (Int32 × zM) :=
  (if (gI u 0 14) ≤ (gI u 0 15) then some ((-1 : Int32), u) else zck (inB (gI u 0 15) 100) <| some ((gI u 8 (gI u 0 15).toNatClampNeg), u))
set_option maxRecDepth 20000 in
theorem go_X9_next {p : Program} {l : Launch} {e : Env} {s : State} {m : MethodId} {args : Array Value} {below : List Frame} {meth : Method} {c : Code} {as : Nat → Nat} {dA : Nat → ClassId} {D : va_G} {d : Nat}  (C : zCx p s m args meth c as dA D SHM d 1 yX9_next.cls cX9_next ((some FieldType.int))) (hd : 1 ≤ d) : ∀ (u : zM), Go p l e s m args below meth c as dA D SHM d 1 zQi 0 [(0, .ref 0)] [] u (f_X9_next  u) := by
  intro u
  unfold f_X9_next
  refine G_aload_n C 0 dX9_next_0 rfl rfl ?_
  refine G_getI C 15 shM_0 rfl rfl (by decide) wf9_56 dX9_next_1 ?_
  refine G_aload_n C 0 dX9_next_4 rfl rfl ?_
  refine G_getI C 14 shM_0 rfl rfl (by decide) wf9_53 dX9_next_5 ?_
  refine G_icmp_ge (tgt := 23) C dX9_next_8 (by decide) (fun _ => ?_) (fun _ => ?_)
  · refine G_iconst (v := -1) C dX9_next_23 (by decide) ?_
    exact G_iret C dX9_next_24
  · refine G_aload_n C 0 dX9_next_11 rfl rfl ?_
    refine G_getR (j := 8) C 17 shM_0 rfl rfl (by decide) wf9_62 dX9_next_12 ?_
    refine G_aload_n C 0 dX9_next_15 rfl rfl ?_
    refine G_getI C 15 shM_0 rfl rfl (by decide) wf9_56 dX9_next_16 ?_
    refine G_iald C shM_8 dX9_next_19 (fun hb1 => ?_)
    refine G_goto (tgt := 24) C dX9_next_20 (by decide) ?_
    exact G_iret C dX9_next_24
theorem m_X9_next    (u : zM) (d : Nat) (hd : 1 ≤ d) : zMet zQi SHM yX9_next cX9_next 1 ((some FieldType.int)) d [.ref 0] u (f_X9_next  u) :=
  zMet_of (by decide +kernel) (fun as => Nat.le_of_ble_eq_true rfl) wwX9_next.2.2.2.1 (by omega) (fun p l e s m args below meth c as dA D C => go_X9_next C hd u)
/-! private boolean takes(int) -/
def f_X9_takes (p1 : Int32) (u : zM) : Option (Int32 × zM) :=
  zb (f_X9_next u) fun y1 u2 => (if y1 = p1 then zlet (sI u2 0 15 ((gI u2 0 15) + (1 : Int32))) fun u3 => some ((1 : Int32), u3) else some ((0 : Int32), u2))
set_option maxRecDepth 20000 in
theorem go_X9_takes {p : Program} {l : Launch} {e : Env} {s : State} {m : MethodId} {args : Array Value} {below : List Frame} {meth : Method} {c : Code} {as : Nat → Nat} {dA : Nat → ClassId} {D : va_G} {d : Nat} {p1 : Int32} (C : zCx p s m args meth c as dA D SHM d 2 yX9_takes.cls cX9_takes ((some FieldType.boolean))) (hd : 2 ≤ d) : ∀ (u : zM), Go p l e s m args below meth c as dA D SHM d 2 zQi 0 [(0, .ref 0), (1, .int p1)] [] u (f_X9_takes p1 u) := by
  intro u
  unfold f_X9_takes
  refine G_aload_n C 0 dX9_takes_0 rfl rfl ?_
  refine G_callVi C (m_X9_next u (d - 1) (by omega)) (d' := d - 1) (As := []) (by omega) rfl wm9_274 wwX9_next shM_0 rfl (Nat.le_of_ble_eq_true rfl) dX9_takes_1 (fun y1 u2 => ?_)
  refine G_iload_n C 1 dX9_takes_4 rfl rfl ?_
  refine G_icmp_eq (tgt := 10) C dX9_takes_5 (by decide) (fun _ => ?_) (fun _ => ?_)
  · refine G_aload_n C 0 dX9_takes_10 rfl rfl ?_
    refine G_dup C dX9_takes_11 rfl ?_
    refine G_getI C 15 shM_0 rfl rfl (by decide) wf9_56 dX9_takes_12 ?_
    refine G_iconst (v := 1) C dX9_takes_15 (by decide) ?_
    refine G_iadd C dX9_takes_16 ?_
    refine G_putI (ty := .int) C 15 shM_0 rfl rfl (by decide) wf9_56 rfl (by decide +kernel) rfl rfl dX9_takes_17 (fun u3 => ?_)
    refine G_iconst (v := 1) C dX9_takes_20 (by decide) ?_
    exact G_zret C rfl dX9_takes_21
  · refine G_iconst (v := 0) C dX9_takes_8 (by decide) ?_
    exact G_zret C rfl dX9_takes_9
theorem m_X9_takes   (p1 : Int32) (u : zM) (d : Nat) (hd : 2 ≤ d) : zMet zQi SHM yX9_takes cX9_takes 2 ((some FieldType.boolean)) d [.ref 0, .int p1] u (f_X9_takes p1 u) :=
  zMet_of (by decide +kernel) (fun as => Nat.le_of_ble_eq_true rfl) wwX9_takes.2.2.2.1 (by omega) (fun p l e s m args below meth c as dA D C => go_X9_takes C hd u)
/-! private boolean takesWord(int, int) -/
def f_X9_takesWord_L2_b (p1 : Int32) (p2 : Int32) (rc : Int32 → zM → Option (Int32 × zM)) (x3 : Int32) (u : zM) : Option (Int32 × zM) :=
  (if p2 ≤ x3 then zb (f_X9_takes (32 : Int32) u) fun y1 u2 => zck (z01 y1) <| some (y1, u2) else zck (inB (p1 + x3) 13) <| zb (f_X9_takes (gI u 16 (p1 + x3).toNatClampNeg) u) fun y5 u6 => (if y5 = (0 : Int32) then some ((0 : Int32), u6) else rc (x3 + (1 : Int32)) u6))
def f_X9_takesWord_L2 (p1 : Int32) (p2 : Int32) : Nat → Int32 → zM → Option (Int32 × zM)
  | 0 => fun _ _ => none
  | fn + 1 => f_X9_takesWord_L2_b p1 p2 (f_X9_takesWord_L2 p1 p2 fn)
def f_X9_takesWord (p1 : Int32) (p2 : Int32) (u : zM) : Option (Int32 × zM) :=
  f_X9_takesWord_L2 p1 p2 400 (0 : Int32) u
set_option maxRecDepth 20000 in
theorem go_X9_takesWord_L2 {p : Program} {l : Launch} {e : Env} {s : State} {m : MethodId} {args : Array Value} {below : List Frame} {meth : Method} {c : Code} {as : Nat → Nat} {dA : Nat → ClassId} {D : va_G} {d : Nat} {p1 : Int32} {p2 : Int32} (C : zCx p s m args meth c as dA D SHM d 4 yX9_takesWord.cls cX9_takesWord ((some FieldType.boolean))) (hd : 3 ≤ d) : ∀ (fn : Nat) (x3 : Int32) (u : zM), Go p l e s m args below meth c as dA D SHM d 4 zQi 2 [(0, .ref 0), (1, .int p1), (2, .int p2), (3, .int x3)] [] u (f_X9_takesWord_L2 p1 p2 fn x3 u) := by
  intro fn
  induction fn with
  | zero => intro x3 u; exact G_none
  | succ fn ih =>
    intro x3 u
    show Go p l e s m args below meth c as dA D SHM d 4 zQi 2 [(0, .ref 0), (1, .int p1), (2, .int p2), (3, .int x3)] [] u (f_X9_takesWord_L2_b p1 p2 (f_X9_takesWord_L2 p1 p2 fn) x3 u)
    unfold f_X9_takesWord_L2_b
    refine G_iload_n C 3 dX9_takesWord_2 rfl rfl ?_
    refine G_iload_n C 2 dX9_takesWord_3 rfl rfl ?_
    refine G_icmp_ge (tgt := 30) C dX9_takesWord_4 (by decide) (fun _ => ?_) (fun _ => ?_)
    · refine G_aload_n C 0 dX9_takesWord_30 rfl rfl ?_
      refine G_bipush (v := 32) C dX9_takesWord_31 (by decide) ?_
      refine G_callVi C (m_X9_takes (32 : Int32) u (d - 1) (by omega)) (d' := d - 1) (As := [.int (32 : Int32)]) (by omega) rfl wm9_278 wwX9_takes shM_0 rfl (Nat.le_of_ble_eq_true rfl) dX9_takesWord_33 (fun y1 u2 => ?_)
      refine G_ck (fun hz3 => ?_)
      exact G_zret C (z01_nar hz3) dX9_takesWord_36
    · refine G_aload_n C 0 dX9_takesWord_7 rfl rfl ?_
      refine G_aload_n C 0 dX9_takesWord_8 rfl rfl ?_
      refine G_getR (j := 16) C 28 shM_0 rfl rfl (by decide) wf9_95 dX9_takesWord_9 ?_
      refine G_iload_n C 1 dX9_takesWord_12 rfl rfl ?_
      refine G_iload_n C 3 dX9_takesWord_13 rfl rfl ?_
      refine G_iadd C dX9_takesWord_14 ?_
      refine G_iald C shM_16 dX9_takesWord_15 (fun hb4 => ?_)
      refine G_callVi C (m_X9_takes (gI u 16 (p1 + x3).toNatClampNeg) u (d - 1) (by omega)) (d' := d - 1) (As := [.int (gI u 16 (p1 + x3).toNatClampNeg)]) (by omega) rfl wm9_278 wwX9_takes shM_0 rfl (Nat.le_of_ble_eq_true rfl) dX9_takesWord_16 (fun y5 u6 => ?_)
      refine G_if_ne (tgt := 24) C dX9_takesWord_19 (by decide) (fun _ => ?_) (fun _ => ?_)
      · refine G_iinc (v := 1) (L' := [(3, .int (x3 + (1 : Int32))), (0, .ref 0), (1, .int p1), (2, .int p2)]) C 3 dX9_takesWord_24 rfl (by decide) (by decide) rfl ?_
        refine G_goto (tgt := 2) C dX9_takesWord_27 (by decide) ?_
        refine G_locals [1, 2, 3, 0] rfl ?_
        exact ih (x3 + (1 : Int32)) u6
      · refine G_iconst (v := 0) C dX9_takesWord_22 (by decide) ?_
        exact G_zret C rfl dX9_takesWord_23
set_option maxRecDepth 20000 in
theorem go_X9_takesWord {p : Program} {l : Launch} {e : Env} {s : State} {m : MethodId} {args : Array Value} {below : List Frame} {meth : Method} {c : Code} {as : Nat → Nat} {dA : Nat → ClassId} {D : va_G} {d : Nat} {p1 : Int32} {p2 : Int32} (C : zCx p s m args meth c as dA D SHM d 4 yX9_takesWord.cls cX9_takesWord ((some FieldType.boolean))) (hd : 3 ≤ d) : ∀ (u : zM), Go p l e s m args below meth c as dA D SHM d 4 zQi 0 [(0, .ref 0), (1, .int p1), (2, .int p2)] [] u (f_X9_takesWord p1 p2 u) := by
  intro u
  unfold f_X9_takesWord
  refine G_iconst (v := 0) C dX9_takesWord_0 (by decide) ?_
  refine G_istore_n (L' := [(3, .int (0 : Int32)), (0, .ref 0), (1, .int p1), (2, .int p2)]) C dX9_takesWord_1 rfl (by decide) rfl ?_
  refine G_locals [1, 2, 3, 0] rfl ?_
  exact go_X9_takesWord_L2 C hd 400 (0 : Int32) u
theorem m_X9_takesWord   (p1 : Int32) (p2 : Int32) (u : zM) (d : Nat) (hd : 3 ≤ d) : zMet zQi SHM yX9_takesWord cX9_takesWord 4 ((some FieldType.boolean)) d [.ref 0, .int p1, .int p2] u (f_X9_takesWord p1 p2 u) :=
  zMet_of (by decide +kernel) (fun as => Nat.le_of_ble_eq_true rfl) wwX9_takesWord.2.2.2.1 (by omega) (fun p l e s m args below meth c as dA D C => go_X9_takesWord C hd u)
/-! private boolean isDigit() -/
def f_X9_isDigit (u : zM) : Option (Int32 × zM) :=
  zb (f_X9_next u) fun y1 u2 => zb (f_X9_in y1 (48 : Int32) (57 : Int32) u2) fun y3 u4 => zck (z01 y3) <| some (y3, u4)
set_option maxRecDepth 20000 in
theorem go_X9_isDigit {p : Program} {l : Launch} {e : Env} {s : State} {m : MethodId} {args : Array Value} {below : List Frame} {meth : Method} {c : Code} {as : Nat → Nat} {dA : Nat → ClassId} {D : va_G} {d : Nat}  (C : zCx p s m args meth c as dA D SHM d 1 yX9_isDigit.cls cX9_isDigit ((some FieldType.boolean))) (hd : 2 ≤ d) : ∀ (u : zM), Go p l e s m args below meth c as dA D SHM d 1 zQi 0 [(0, .ref 0)] [] u (f_X9_isDigit  u) := by
  intro u
  unfold f_X9_isDigit
  refine G_aload_n C 0 dX9_isDigit_0 rfl rfl ?_
  refine G_aload_n C 0 dX9_isDigit_1 rfl rfl ?_
  refine G_callVi C (m_X9_next u (d - 1) (by omega)) (d' := d - 1) (As := []) (by omega) rfl wm9_274 wwX9_next shM_0 rfl (Nat.le_of_ble_eq_true rfl) dX9_isDigit_2 (fun y1 u2 => ?_)
  refine G_bipush (v := 48) C dX9_isDigit_5 (by decide) ?_
  refine G_bipush (v := 57) C dX9_isDigit_7 (by decide) ?_
  refine G_callVi C (m_X9_in y1 (48 : Int32) (57 : Int32) u2 (d - 1) (by omega)) (d' := d - 1) (As := [.int y1, .int (48 : Int32), .int (57 : Int32)]) (by omega) rfl wm9_252 wwX9_in shM_0 rfl (Nat.le_of_ble_eq_true rfl) dX9_isDigit_9 (fun y3 u4 => ?_)
  refine G_ck (fun hz5 => ?_)
  exact G_zret C (z01_nar hz5) dX9_isDigit_12
theorem m_X9_isDigit    (u : zM) (d : Nat) (hd : 2 ≤ d) : zMet zQi SHM yX9_isDigit cX9_isDigit 1 ((some FieldType.boolean)) d [.ref 0] u (f_X9_isDigit  u) :=
  zMet_of (by decide +kernel) (fun as => Nat.le_of_ble_eq_true rfl) wwX9_isDigit.2.2.2.1 (by omega) (fun p l e s m args below meth c as dA D C => go_X9_isDigit C hd u)
/-! private boolean takesNumber() -/
def f_X9_takesNumber_L16_b  (rc : Int32 → zM → Option (Int32 × zM)) (x1 : Int32) (u : zM) : Option (Int32 × zM) :=
  (if (2 : Int32) ≤ x1 then some ((1 : Int32), u) else zb (f_X9_isDigit u) fun y4 u5 => (if y4 = (0 : Int32) then some ((1 : Int32), u5) else zb (f_X9_next u5) fun y6 u7 => zlet (sI u7 0 16 ((((10 : Int32) * (gI u5 0 16)) + y6) - (48 : Int32))) fun u8 => zlet (sI u8 0 15 ((gI u8 0 15) + (1 : Int32))) fun u9 => rc (x1 + (1 : Int32)) u9))
def f_X9_takesNumber_L16  : Nat → Int32 → zM → Option (Int32 × zM)
  | 0 => fun _ _ => none
  | fn + 1 => f_X9_takesNumber_L16_b  (f_X9_takesNumber_L16  fn)
def f_X9_takesNumber (u : zM) : Option (Int32 × zM) :=
  zb (f_X9_isDigit u) fun y1 u2 => (if y1 = (0 : Int32) then some ((0 : Int32), u2) else zlet (sI u2 0 16 (0 : Int32)) fun u3 => f_X9_takesNumber_L16 400 (0 : Int32) u3)
set_option maxRecDepth 20000 in
theorem go_X9_takesNumber_L16 {p : Program} {l : Launch} {e : Env} {s : State} {m : MethodId} {args : Array Value} {below : List Frame} {meth : Method} {c : Code} {as : Nat → Nat} {dA : Nat → ClassId} {D : va_G} {d : Nat}  (C : zCx p s m args meth c as dA D SHM d 2 yX9_takesNumber.cls cX9_takesNumber ((some FieldType.boolean))) (hd : 3 ≤ d) : ∀ (fn : Nat) (x1 : Int32) (u : zM), Go p l e s m args below meth c as dA D SHM d 2 zQi 16 [(0, .ref 0), (1, .int x1)] [] u (f_X9_takesNumber_L16 fn x1 u) := by
  intro fn
  induction fn with
  | zero => intro x1 u; exact G_none
  | succ fn ih =>
    intro x1 u
    show Go p l e s m args below meth c as dA D SHM d 2 zQi 16 [(0, .ref 0), (1, .int x1)] [] u (f_X9_takesNumber_L16_b  (f_X9_takesNumber_L16  fn) x1 u)
    unfold f_X9_takesNumber_L16_b
    refine G_iload_n C 1 dX9_takesNumber_16 rfl rfl ?_
    refine G_iconst (v := 2) C dX9_takesNumber_17 (by decide) ?_
    refine G_icmp_ge (tgt := 63) C dX9_takesNumber_18 (by decide) (fun _ => ?_) (fun _ => ?_)
    · refine G_iconst (v := 1) C dX9_takesNumber_63 (by decide) ?_
      exact G_zret C rfl dX9_takesNumber_64
    · refine G_aload_n C 0 dX9_takesNumber_21 rfl rfl ?_
      refine G_callVi C (m_X9_isDigit u (d - 1) (by omega)) (d' := d - 1) (As := []) (by omega) rfl wm9_281 wwX9_isDigit shM_0 rfl (Nat.le_of_ble_eq_true rfl) dX9_takesNumber_22 (fun y4 u5 => ?_)
      refine G_if_eq (tgt := 63) C dX9_takesNumber_25 (by decide) (fun _ => ?_) (fun _ => ?_)
      · refine G_iconst (v := 1) C dX9_takesNumber_63 (by decide) ?_
        exact G_zret C rfl dX9_takesNumber_64
      · refine G_aload_n C 0 dX9_takesNumber_28 rfl rfl ?_
        refine G_bipush (v := 10) C dX9_takesNumber_29 (by decide) ?_
        refine G_aload_n C 0 dX9_takesNumber_31 rfl rfl ?_
        refine G_getI C 16 shM_0 rfl rfl (by decide) wf9_59 dX9_takesNumber_32 ?_
        refine G_imul C dX9_takesNumber_35 ?_
        refine G_aload_n C 0 dX9_takesNumber_36 rfl rfl ?_
        refine G_callVi C (m_X9_next u5 (d - 1) (by omega)) (d' := d - 1) (As := []) (by omega) rfl wm9_274 wwX9_next shM_0 rfl (Nat.le_of_ble_eq_true rfl) dX9_takesNumber_37 (fun y6 u7 => ?_)
        refine G_iadd C dX9_takesNumber_40 ?_
        refine G_bipush (v := 48) C dX9_takesNumber_41 (by decide) ?_
        refine G_isub C dX9_takesNumber_43 ?_
        refine G_putI (ty := .int) C 16 shM_0 rfl rfl (by decide) wf9_59 rfl (by decide +kernel) rfl rfl dX9_takesNumber_44 (fun u8 => ?_)
        refine G_aload_n C 0 dX9_takesNumber_47 rfl rfl ?_
        refine G_dup C dX9_takesNumber_48 rfl ?_
        refine G_getI C 15 shM_0 rfl rfl (by decide) wf9_56 dX9_takesNumber_49 ?_
        refine G_iconst (v := 1) C dX9_takesNumber_52 (by decide) ?_
        refine G_iadd C dX9_takesNumber_53 ?_
        refine G_putI (ty := .int) C 15 shM_0 rfl rfl (by decide) wf9_56 rfl (by decide +kernel) rfl rfl dX9_takesNumber_54 (fun u9 => ?_)
        refine G_iinc (v := 1) (L' := [(1, .int (x1 + (1 : Int32))), (0, .ref 0)]) C 1 dX9_takesNumber_57 rfl (by decide) (by decide) rfl ?_
        refine G_goto (tgt := 16) C dX9_takesNumber_60 (by decide) ?_
        refine G_locals [1, 0] rfl ?_
        exact ih (x1 + (1 : Int32)) u9
set_option maxRecDepth 20000 in
theorem go_X9_takesNumber {p : Program} {l : Launch} {e : Env} {s : State} {m : MethodId} {args : Array Value} {below : List Frame} {meth : Method} {c : Code} {as : Nat → Nat} {dA : Nat → ClassId} {D : va_G} {d : Nat}  (C : zCx p s m args meth c as dA D SHM d 2 yX9_takesNumber.cls cX9_takesNumber ((some FieldType.boolean))) (hd : 3 ≤ d) : ∀ (u : zM), Go p l e s m args below meth c as dA D SHM d 2 zQi 0 [(0, .ref 0)] [] u (f_X9_takesNumber  u) := by
  intro u
  unfold f_X9_takesNumber
  refine G_aload_n C 0 dX9_takesNumber_0 rfl rfl ?_
  refine G_callVi C (m_X9_isDigit u (d - 1) (by omega)) (d' := d - 1) (As := []) (by omega) rfl wm9_281 wwX9_isDigit shM_0 rfl (Nat.le_of_ble_eq_true rfl) dX9_takesNumber_1 (fun y1 u2 => ?_)
  refine G_if_ne (tgt := 9) C dX9_takesNumber_4 (by decide) (fun _ => ?_) (fun _ => ?_)
  · refine G_aload_n C 0 dX9_takesNumber_9 rfl rfl ?_
    refine G_iconst (v := 0) C dX9_takesNumber_10 (by decide) ?_
    refine G_putI (ty := .int) C 16 shM_0 rfl rfl (by decide) wf9_59 rfl (by decide +kernel) rfl rfl dX9_takesNumber_11 (fun u3 => ?_)
    refine G_iconst (v := 0) C dX9_takesNumber_14 (by decide) ?_
    refine G_istore_n (L' := [(1, .int (0 : Int32)), (0, .ref 0)]) C dX9_takesNumber_15 rfl (by decide) rfl ?_
    refine G_locals [1, 0] rfl ?_
    exact go_X9_takesNumber_L16 C hd 400 (0 : Int32) u3
  · refine G_iconst (v := 0) C dX9_takesNumber_7 (by decide) ?_
    exact G_zret C rfl dX9_takesNumber_8
theorem m_X9_takesNumber    (u : zM) (d : Nat) (hd : 3 ≤ d) : zMet zQi SHM yX9_takesNumber cX9_takesNumber 2 ((some FieldType.boolean)) d [.ref 0] u (f_X9_takesNumber  u) :=
  zMet_of (by decide +kernel) (fun as => Nat.le_of_ble_eq_true rfl) wwX9_takesNumber.2.2.2.1 (by omega) (fun p l e s m args below meth c as dA D C => go_X9_takesNumber C hd u)
/-! private void emits(int) -/
def f_X9_emits (p1 : Int32) (u : zM) : Option (Unit × zM) :=
  zck (inB (gI u 0 25) 600) <| zlet (sI u 14 (gI u 0 25).toNatClampNeg p1) fun u1 => zlet (sI u1 0 25 ((gI u1 0 25) + (1 : Int32))) fun u2 => some ((), u2)
set_option maxRecDepth 20000 in
theorem go_X9_emits {p : Program} {l : Launch} {e : Env} {s : State} {m : MethodId} {args : Array Value} {below : List Frame} {meth : Method} {c : Code} {as : Nat → Nat} {dA : Nat → ClassId} {D : va_G} {d : Nat} {p1 : Int32} (C : zCx p s m args meth c as dA D SHM d 2 yX9_emits.cls cX9_emits (none)) (hd : 1 ≤ d) : ∀ (u : zM), Go p l e s m args below meth c as dA D SHM d 2 zQv 0 [(0, .ref 0), (1, .int p1)] [] u (f_X9_emits p1 u) := by
  intro u
  unfold f_X9_emits
  refine G_aload_n C 0 dX9_emits_0 rfl rfl ?_
  refine G_getR (j := 14) C 23 shM_0 rfl rfl (by decide) wf9_80 dX9_emits_1 ?_
  refine G_aload_n C 0 dX9_emits_4 rfl rfl ?_
  refine G_getI C 25 shM_0 rfl rfl (by decide) wf9_86 dX9_emits_5 ?_
  refine G_iload_n C 1 dX9_emits_8 rfl rfl ?_
  refine G_iast C shM_14 dX9_emits_9 (fun _ u1 => ?_)
  refine G_aload_n C 0 dX9_emits_10 rfl rfl ?_
  refine G_dup C dX9_emits_11 rfl ?_
  refine G_getI C 25 shM_0 rfl rfl (by decide) wf9_86 dX9_emits_12 ?_
  refine G_iconst (v := 1) C dX9_emits_15 (by decide) ?_
  refine G_iadd C dX9_emits_16 ?_
  refine G_putI (ty := .int) C 25 shM_0 rfl rfl (by decide) wf9_86 rfl (by decide +kernel) rfl rfl dX9_emits_17 (fun u2 => ?_)
  exact G_vret C dX9_emits_20
theorem m_X9_emits   (p1 : Int32) (u : zM) (d : Nat) (hd : 1 ≤ d) : zMet zQv SHM yX9_emits cX9_emits 2 (none) d [.ref 0, .int p1] u (f_X9_emits p1 u) :=
  zMet_of (by decide +kernel) (fun as => Nat.le_of_ble_eq_true rfl) wwX9_emits.2.2.2.1 (by omega) (fun p l e s m args below meth c as dA D C => go_X9_emits C hd u)
/-! private void whole() -/
def f_X9_whole_L0_b  (rc : zM → Option (Unit × zM)) (u : zM) : Option (Unit × zM) :=
  (if (gI u 0 26) ≤ (0 : Int32) then some ((), u) else zck (inB ((gI u 0 26) - (1 : Int32)) 101) <| (if (gI u 15 ((gI u 0 26) - (1 : Int32)).toNatClampNeg) = (33 : Int32) then zb (f_X9_emits (-33 : Int32) u) fun _ u3 => zlet (sI u3 0 26 ((gI u3 0 26) - (1 : Int32))) fun u4 => zlet (sI u4 0 27 ((gI u4 0 27) - (1 : Int32))) fun u5 => rc u5 else some ((), u)))
def f_X9_whole_L0  : Nat → zM → Option (Unit × zM)
  | 0 => fun _ => none
  | fn + 1 => f_X9_whole_L0_b  (f_X9_whole_L0  fn)
def f_X9_whole (u : zM) : Option (Unit × zM) :=
  f_X9_whole_L0 400 u
set_option maxRecDepth 20000 in
theorem go_X9_whole_L0 {p : Program} {l : Launch} {e : Env} {s : State} {m : MethodId} {args : Array Value} {below : List Frame} {meth : Method} {c : Code} {as : Nat → Nat} {dA : Nat → ClassId} {D : va_G} {d : Nat}  (C : zCx p s m args meth c as dA D SHM d 1 yX9_whole.cls cX9_whole (none)) (hd : 2 ≤ d) : ∀ (fn : Nat) (u : zM), Go p l e s m args below meth c as dA D SHM d 1 zQv 0 [(0, .ref 0)] [] u (f_X9_whole_L0 fn u) := by
  intro fn
  induction fn with
  | zero => intro u; exact G_none
  | succ fn ih =>
    intro u
    show Go p l e s m args below meth c as dA D SHM d 1 zQv 0 [(0, .ref 0)] [] u (f_X9_whole_L0_b  (f_X9_whole_L0  fn)  u)
    unfold f_X9_whole_L0_b
    refine G_aload_n C 0 dX9_whole_0 rfl rfl ?_
    refine G_getI C 26 shM_0 rfl rfl (by decide) wf9_89 dX9_whole_1 ?_
    refine G_if_le (tgt := 52) C dX9_whole_4 (by decide) (fun _ => ?_) (fun _ => ?_)
    · exact G_vret C dX9_whole_52
    · refine G_aload_n C 0 dX9_whole_7 rfl rfl ?_
      refine G_getR (j := 15) C 24 shM_0 rfl rfl (by decide) wf9_83 dX9_whole_8 ?_
      refine G_aload_n C 0 dX9_whole_11 rfl rfl ?_
      refine G_getI C 26 shM_0 rfl rfl (by decide) wf9_89 dX9_whole_12 ?_
      refine G_iconst (v := 1) C dX9_whole_15 (by decide) ?_
      refine G_isub C dX9_whole_16 ?_
      refine G_iald C shM_15 dX9_whole_17 (fun hb1 => ?_)
      refine G_bipush (v := 33) C dX9_whole_18 (by decide) ?_
      refine G_icmp_ne (tgt := 52) C dX9_whole_20 (by decide) (fun _ => ?_) (fun _ => ?_)
      · exact G_vret C dX9_whole_52
      · refine G_aload_n C 0 dX9_whole_23 rfl rfl ?_
        refine G_bipush (v := -33) C dX9_whole_24 (by decide) ?_
        refine G_callVv C (m_X9_emits (-33 : Int32) u (d - 1) (by omega)) (d' := d - 1) (As := [.int (-33 : Int32)]) (by omega) rfl wm9_285 wwX9_emits shM_0 rfl (Nat.le_of_ble_eq_true rfl) dX9_whole_26 (fun y2 u3 => ?_)
        refine G_aload_n C 0 dX9_whole_29 rfl rfl ?_
        refine G_dup C dX9_whole_30 rfl ?_
        refine G_getI C 26 shM_0 rfl rfl (by decide) wf9_89 dX9_whole_31 ?_
        refine G_iconst (v := 1) C dX9_whole_34 (by decide) ?_
        refine G_isub C dX9_whole_35 ?_
        refine G_putI (ty := .int) C 26 shM_0 rfl rfl (by decide) wf9_89 rfl (by decide +kernel) rfl rfl dX9_whole_36 (fun u4 => ?_)
        refine G_aload_n C 0 dX9_whole_39 rfl rfl ?_
        refine G_dup C dX9_whole_40 rfl ?_
        refine G_getI C 27 shM_0 rfl rfl (by decide) wf9_92 dX9_whole_41 ?_
        refine G_iconst (v := 1) C dX9_whole_44 (by decide) ?_
        refine G_isub C dX9_whole_45 ?_
        refine G_putI (ty := .int) C 27 shM_0 rfl rfl (by decide) wf9_92 rfl (by decide +kernel) rfl rfl dX9_whole_46 (fun u5 => ?_)
        refine G_goto (tgt := 0) C dX9_whole_49 (by decide) ?_
        refine G_locals [0] rfl ?_
        exact ih  u5
set_option maxRecDepth 20000 in
theorem go_X9_whole {p : Program} {l : Launch} {e : Env} {s : State} {m : MethodId} {args : Array Value} {below : List Frame} {meth : Method} {c : Code} {as : Nat → Nat} {dA : Nat → ClassId} {D : va_G} {d : Nat}  (C : zCx p s m args meth c as dA D SHM d 1 yX9_whole.cls cX9_whole (none)) (hd : 2 ≤ d) : ∀ (u : zM), Go p l e s m args below meth c as dA D SHM d 1 zQv 0 [(0, .ref 0)] [] u (f_X9_whole  u) := by
  intro u
  unfold f_X9_whole
  refine G_locals [0] rfl ?_
  exact go_X9_whole_L0 C hd 400 u
theorem m_X9_whole    (u : zM) (d : Nat) (hd : 2 ≤ d) : zMet zQv SHM yX9_whole cX9_whole 1 (none) d [.ref 0] u (f_X9_whole  u) :=
  zMet_of (by decide +kernel) (fun as => Nat.le_of_ble_eq_true rfl) wwX9_whole.2.2.2.1 (by omega) (fun p l e s m args below meth c as dA D C => go_X9_whole C hd u)
/-! private void settle(int) -/
def f_X9_settle_L45 (p1 : Int32) (k0 : zM → Option (Unit × zM)) (u : zM) : Option (Unit × zM) :=
  zlet (sI u 0 26 ((gI u 0 26) - (1 : Int32))) fun u2 => zck (inB (gI u2 0 26) 101) <| zb (f_X9_emits (-(gI u2 15 (gI u2 0 26).toNatClampNeg)) u2) fun _ u5 => k0 u5
def f_X9_settle_L0_b (p1 : Int32) (rc : zM → Option (Unit × zM)) (u : zM) : Option (Unit × zM) :=
  (if (gI u 0 26) ≤ (0 : Int32) then some ((), u) else zck (inB ((gI u 0 26) - (1 : Int32)) 101) <| (if (gI u 15 ((gI u 0 26) - (1 : Int32)).toNatClampNeg) = (38 : Int32) then f_X9_settle_L45 p1 rc u else zck (inB ((gI u 0 26) - (1 : Int32)) 101) <| (if (gI u 15 ((gI u 0 26) - (1 : Int32)).toNatClampNeg) = (124 : Int32) then (if p1 = (38 : Int32) then some ((), u) else f_X9_settle_L45 p1 rc u) else some ((), u))))
def f_X9_settle_L0 (p1 : Int32) : Nat → zM → Option (Unit × zM)
  | 0 => fun _ => none
  | fn + 1 => f_X9_settle_L0_b p1 (f_X9_settle_L0 p1 fn)
def f_X9_settle (p1 : Int32) (u : zM) : Option (Unit × zM) :=
  f_X9_settle_L0 p1 400 u
set_option maxRecDepth 20000 in
theorem go_X9_settle_L45 {p : Program} {l : Launch} {e : Env} {s : State} {m : MethodId} {args : Array Value} {below : List Frame} {meth : Method} {c : Code} {as : Nat → Nat} {dA : Nat → ClassId} {D : va_G} {d : Nat} {p1 : Int32} (C : zCx p s m args meth c as dA D SHM d 2 yX9_settle.cls cX9_settle (none)) (hd : 2 ≤ d) {k0 : zM → Option (Unit × zM)} (hk0 : ∀ (u : zM), Go p l e s m args below meth c as dA D SHM d 2 zQv 0 [(0, .ref 0), (1, .int p1)] [] u (k0  u)) : ∀ (u : zM), Go p l e s m args below meth c as dA D SHM d 2 zQv 45 [(0, .ref 0), (1, .int p1)] [] u (f_X9_settle_L45 p1 k0 u) := by
  intro u
  unfold f_X9_settle_L45
  refine G_aload_n C 0 dX9_settle_45 rfl rfl ?_
  refine G_dup C dX9_settle_46 rfl ?_
  refine G_getI C 26 shM_0 rfl rfl (by decide) wf9_89 dX9_settle_47 ?_
  refine G_iconst (v := 1) C dX9_settle_50 (by decide) ?_
  refine G_isub C dX9_settle_51 ?_
  refine G_putI (ty := .int) C 26 shM_0 rfl rfl (by decide) wf9_89 rfl (by decide +kernel) rfl rfl dX9_settle_52 (fun u2 => ?_)
  refine G_aload_n C 0 dX9_settle_55 rfl rfl ?_
  refine G_aload_n C 0 dX9_settle_56 rfl rfl ?_
  refine G_getR (j := 15) C 24 shM_0 rfl rfl (by decide) wf9_83 dX9_settle_57 ?_
  refine G_aload_n C 0 dX9_settle_60 rfl rfl ?_
  refine G_getI C 26 shM_0 rfl rfl (by decide) wf9_89 dX9_settle_61 ?_
  refine G_iald C shM_15 dX9_settle_64 (fun hb3 => ?_)
  refine G_ineg C dX9_settle_65 ?_
  refine G_callVv C (m_X9_emits (-(gI u2 15 (gI u2 0 26).toNatClampNeg)) u2 (d - 1) (by omega)) (d' := d - 1) (As := [.int (-(gI u2 15 (gI u2 0 26).toNatClampNeg))]) (by omega) rfl wm9_285 wwX9_emits shM_0 rfl (Nat.le_of_ble_eq_true rfl) dX9_settle_66 (fun y4 u5 => ?_)
  refine G_goto (tgt := 0) C dX9_settle_69 (by decide) ?_
  refine G_locals [0, 1] rfl ?_
  exact hk0  u5
set_option maxRecDepth 20000 in
theorem go_X9_settle_L0 {p : Program} {l : Launch} {e : Env} {s : State} {m : MethodId} {args : Array Value} {below : List Frame} {meth : Method} {c : Code} {as : Nat → Nat} {dA : Nat → ClassId} {D : va_G} {d : Nat} {p1 : Int32} (C : zCx p s m args meth c as dA D SHM d 2 yX9_settle.cls cX9_settle (none)) (hd : 2 ≤ d) : ∀ (fn : Nat) (u : zM), Go p l e s m args below meth c as dA D SHM d 2 zQv 0 [(0, .ref 0), (1, .int p1)] [] u (f_X9_settle_L0 p1 fn u) := by
  intro fn
  induction fn with
  | zero => intro u; exact G_none
  | succ fn ih =>
    intro u
    show Go p l e s m args below meth c as dA D SHM d 2 zQv 0 [(0, .ref 0), (1, .int p1)] [] u (f_X9_settle_L0_b p1 (f_X9_settle_L0 p1 fn)  u)
    unfold f_X9_settle_L0_b
    refine G_aload_n C 0 dX9_settle_0 rfl rfl ?_
    refine G_getI C 26 shM_0 rfl rfl (by decide) wf9_89 dX9_settle_1 ?_
    refine G_if_le (tgt := 72) C dX9_settle_4 (by decide) (fun _ => ?_) (fun _ => ?_)
    · exact G_vret C dX9_settle_72
    · refine G_aload_n C 0 dX9_settle_7 rfl rfl ?_
      refine G_getR (j := 15) C 24 shM_0 rfl rfl (by decide) wf9_83 dX9_settle_8 ?_
      refine G_aload_n C 0 dX9_settle_11 rfl rfl ?_
      refine G_getI C 26 shM_0 rfl rfl (by decide) wf9_89 dX9_settle_12 ?_
      refine G_iconst (v := 1) C dX9_settle_15 (by decide) ?_
      refine G_isub C dX9_settle_16 ?_
      refine G_iald C shM_15 dX9_settle_17 (fun hb1 => ?_)
      refine G_bipush (v := 38) C dX9_settle_18 (by decide) ?_
      refine G_icmp_eq (tgt := 45) C dX9_settle_20 (by decide) (fun _ => ?_) (fun _ => ?_)
      · refine G_locals [0, 1] rfl ?_
        exact go_X9_settle_L45 C hd ih u
      · refine G_aload_n C 0 dX9_settle_23 rfl rfl ?_
        refine G_getR (j := 15) C 24 shM_0 rfl rfl (by decide) wf9_83 dX9_settle_24 ?_
        refine G_aload_n C 0 dX9_settle_27 rfl rfl ?_
        refine G_getI C 26 shM_0 rfl rfl (by decide) wf9_89 dX9_settle_28 ?_
        refine G_iconst (v := 1) C dX9_settle_31 (by decide) ?_
        refine G_isub C dX9_settle_32 ?_
        refine G_iald C shM_15 dX9_settle_33 (fun hb6 => ?_)
        refine G_bipush (v := 124) C dX9_settle_34 (by decide) ?_
        refine G_icmp_ne (tgt := 72) C dX9_settle_36 (by decide) (fun _ => ?_) (fun _ => ?_)
        · exact G_vret C dX9_settle_72
        · refine G_iload_n C 1 dX9_settle_39 rfl rfl ?_
          refine G_bipush (v := 38) C dX9_settle_40 (by decide) ?_
          refine G_icmp_eq (tgt := 72) C dX9_settle_42 (by decide) (fun _ => ?_) (fun _ => ?_)
          · exact G_vret C dX9_settle_72
          · refine G_locals [0, 1] rfl ?_
            exact go_X9_settle_L45 C hd ih u
set_option maxRecDepth 20000 in
theorem go_X9_settle {p : Program} {l : Launch} {e : Env} {s : State} {m : MethodId} {args : Array Value} {below : List Frame} {meth : Method} {c : Code} {as : Nat → Nat} {dA : Nat → ClassId} {D : va_G} {d : Nat} {p1 : Int32} (C : zCx p s m args meth c as dA D SHM d 2 yX9_settle.cls cX9_settle (none)) (hd : 2 ≤ d) : ∀ (u : zM), Go p l e s m args below meth c as dA D SHM d 2 zQv 0 [(0, .ref 0), (1, .int p1)] [] u (f_X9_settle p1 u) := by
  intro u
  unfold f_X9_settle
  refine G_locals [0, 1] rfl ?_
  exact go_X9_settle_L0 C hd 400 u
theorem m_X9_settle   (p1 : Int32) (u : zM) (d : Nat) (hd : 2 ≤ d) : zMet zQv SHM yX9_settle cX9_settle 2 (none) d [.ref 0, .int p1] u (f_X9_settle p1 u) :=
  zMet_of (by decide +kernel) (fun as => Nat.le_of_ble_eq_true rfl) wwX9_settle.2.2.2.1 (by omega) (fun p l e s m args below meth c as dA D C => go_X9_settle C hd u)
/-! private int place(int) -/
def f_X9_place (p1 : Int32) (u : zM) : Option (Int32 × zM) :=
  (if p1 = (104 : Int32) then some ((3 : Int32), u) else if p1 = (105 : Int32) then some ((-1 : Int32), u) else if p1 = (106 : Int32) then some ((-1 : Int32), u) else if p1 = (107 : Int32) then some ((1 : Int32), u) else if p1 = (108 : Int32) then some ((-1 : Int32), u) else if p1 = (109 : Int32) then some ((5 : Int32), u) else if p1 = (110 : Int32) then some ((4 : Int32), u) else if p1 = (111 : Int32) then some ((-1 : Int32), u) else if p1 = (112 : Int32) then some ((0 : Int32), u) else if p1 = (113 : Int32) then some ((-1 : Int32), u) else if p1 = (114 : Int32) then some ((-1 : Int32), u) else if p1 = (115 : Int32) then some ((-1 : Int32), u) else if p1 = (116 : Int32) then some ((-1 : Int32), u) else if p1 = (117 : Int32) then some ((-1 : Int32), u) else if p1 = (118 : Int32) then some ((2 : Int32), u) else some ((-1 : Int32), u))
set_option maxRecDepth 20000 in
theorem go_X9_place {p : Program} {l : Launch} {e : Env} {s : State} {m : MethodId} {args : Array Value} {below : List Frame} {meth : Method} {c : Code} {as : Nat → Nat} {dA : Nat → ClassId} {D : va_G} {d : Nat} {p1 : Int32} (C : zCx p s m args meth c as dA D SHM d 2 yX9_place.cls cX9_place ((some FieldType.int))) (hd : 1 ≤ d) : ∀ (u : zM), Go p l e s m args below meth c as dA D SHM d 2 zQi 0 [(0, .ref 0), (1, .int p1)] [] u (f_X9_place p1 u) := by
  intro u
  unfold f_X9_place
  refine G_iload_n C 1 dX9_place_0 rfl rfl ?_
  refine G_if (fun h1 => ?_) (fun h1 => ?_)
  · refine G_tsIn (v := 104) (off := 81) (tgt := 82) C dX9_place_1 h1 (by decide) (by decide) rfl (by decide) ?_
    refine G_iconst (v := 3) C dX9_place_82 (by decide) ?_
    exact G_iret C dX9_place_83
  · refine G_if (fun h2 => ?_) (fun h2 => ?_)
    · refine G_tsIn (v := 105) (off := 87) (tgt := 88) C dX9_place_1 h2 (by decide) (by decide) rfl (by decide) ?_
      refine G_iconst (v := -1) C dX9_place_88 (by decide) ?_
      exact G_iret C dX9_place_89
    · refine G_if (fun h3 => ?_) (fun h3 => ?_)
      · refine G_tsIn (v := 106) (off := 87) (tgt := 88) C dX9_place_1 h3 (by decide) (by decide) rfl (by decide) ?_
        refine G_iconst (v := -1) C dX9_place_88 (by decide) ?_
        exact G_iret C dX9_place_89
      · refine G_if (fun h4 => ?_) (fun h4 => ?_)
        · refine G_tsIn (v := 107) (off := 77) (tgt := 78) C dX9_place_1 h4 (by decide) (by decide) rfl (by decide) ?_
          refine G_iconst (v := 1) C dX9_place_78 (by decide) ?_
          exact G_iret C dX9_place_79
        · refine G_if (fun h5 => ?_) (fun h5 => ?_)
          · refine G_tsIn (v := 108) (off := 87) (tgt := 88) C dX9_place_1 h5 (by decide) (by decide) rfl (by decide) ?_
            refine G_iconst (v := -1) C dX9_place_88 (by decide) ?_
            exact G_iret C dX9_place_89
          · refine G_if (fun h6 => ?_) (fun h6 => ?_)
            · refine G_tsIn (v := 109) (off := 85) (tgt := 86) C dX9_place_1 h6 (by decide) (by decide) rfl (by decide) ?_
              refine G_iconst (v := 5) C dX9_place_86 (by decide) ?_
              exact G_iret C dX9_place_87
            · refine G_if (fun h7 => ?_) (fun h7 => ?_)
              · refine G_tsIn (v := 110) (off := 83) (tgt := 84) C dX9_place_1 h7 (by decide) (by decide) rfl (by decide) ?_
                refine G_iconst (v := 4) C dX9_place_84 (by decide) ?_
                exact G_iret C dX9_place_85
              · refine G_if (fun h8 => ?_) (fun h8 => ?_)
                · refine G_tsIn (v := 111) (off := 87) (tgt := 88) C dX9_place_1 h8 (by decide) (by decide) rfl (by decide) ?_
                  refine G_iconst (v := -1) C dX9_place_88 (by decide) ?_
                  exact G_iret C dX9_place_89
                · refine G_if (fun h9 => ?_) (fun h9 => ?_)
                  · refine G_tsIn (v := 112) (off := 75) (tgt := 76) C dX9_place_1 h9 (by decide) (by decide) rfl (by decide) ?_
                    refine G_iconst (v := 0) C dX9_place_76 (by decide) ?_
                    exact G_iret C dX9_place_77
                  · refine G_if (fun h10 => ?_) (fun h10 => ?_)
                    · refine G_tsIn (v := 113) (off := 87) (tgt := 88) C dX9_place_1 h10 (by decide) (by decide) rfl (by decide) ?_
                      refine G_iconst (v := -1) C dX9_place_88 (by decide) ?_
                      exact G_iret C dX9_place_89
                    · refine G_if (fun h11 => ?_) (fun h11 => ?_)
                      · refine G_tsIn (v := 114) (off := 87) (tgt := 88) C dX9_place_1 h11 (by decide) (by decide) rfl (by decide) ?_
                        refine G_iconst (v := -1) C dX9_place_88 (by decide) ?_
                        exact G_iret C dX9_place_89
                      · refine G_if (fun h12 => ?_) (fun h12 => ?_)
                        · refine G_tsIn (v := 115) (off := 87) (tgt := 88) C dX9_place_1 h12 (by decide) (by decide) rfl (by decide) ?_
                          refine G_iconst (v := -1) C dX9_place_88 (by decide) ?_
                          exact G_iret C dX9_place_89
                        · refine G_if (fun h13 => ?_) (fun h13 => ?_)
                          · refine G_tsIn (v := 116) (off := 87) (tgt := 88) C dX9_place_1 h13 (by decide) (by decide) rfl (by decide) ?_
                            refine G_iconst (v := -1) C dX9_place_88 (by decide) ?_
                            exact G_iret C dX9_place_89
                          · refine G_if (fun h14 => ?_) (fun h14 => ?_)
                            · refine G_tsIn (v := 117) (off := 87) (tgt := 88) C dX9_place_1 h14 (by decide) (by decide) rfl (by decide) ?_
                              refine G_iconst (v := -1) C dX9_place_88 (by decide) ?_
                              exact G_iret C dX9_place_89
                            · refine G_if (fun h15 => ?_) (fun h15 => ?_)
                              · refine G_tsIn (v := 118) (off := 79) (tgt := 80) C dX9_place_1 h15 (by decide) (by decide) rfl (by decide) ?_
                                refine G_iconst (v := 2) C dX9_place_80 (by decide) ?_
                                exact G_iret C dX9_place_81
                              · refine G_tsOut (tgt := 88) C dX9_place_1 (by have e0 := lv_neT (a := 104) h1 rfl; have e1 := lv_neT (a := 105) h2 rfl; have e2 := lv_neT (a := 106) h3 rfl; have e3 := lv_neT (a := 107) h4 rfl; have e4 := lv_neT (a := 108) h5 rfl; have e5 := lv_neT (a := 109) h6 rfl; have e6 := lv_neT (a := 110) h7 rfl; have e7 := lv_neT (a := 111) h8 rfl; have e8 := lv_neT (a := 112) h9 rfl; have e9 := lv_neT (a := 113) h10 rfl; have e10 := lv_neT (a := 114) h11 rfl; have e11 := lv_neT (a := 115) h12 rfl; have e12 := lv_neT (a := 116) h13 rfl; have e13 := lv_neT (a := 117) h14 rfl; have e14 := lv_neT (a := 118) h15 rfl; omega) (by decide) ?_
                                refine G_iconst (v := -1) C dX9_place_88 (by decide) ?_
                                exact G_iret C dX9_place_89
theorem m_X9_place   (p1 : Int32) (u : zM) (d : Nat) (hd : 1 ≤ d) : zMet zQi SHM yX9_place cX9_place 2 ((some FieldType.int)) d [.ref 0, .int p1] u (f_X9_place p1 u) :=
  zMet_of (by decide +kernel) (fun as => Nat.le_of_ble_eq_true rfl) wwX9_place.2.2.2.1 (by omega) (fun p l e s m args below meth c as dA D C => go_X9_place C hd u)
/-! private boolean takesTest() -/
def f_X9_takesTest (u : zM) : Option (Int32 × zM) :=
  zb (f_X9_next u) fun y1 u2 => zb (f_X9_place y1 u2) fun y3 u4 => (if (0 : Int32) ≤ y3 then zlet (sI u4 0 15 ((gI u4 0 15) + (1 : Int32))) fun u5 => zb (f_X9_next u5) fun y6 u7 => zb (f_X9_in y6 (60 : Int32) (62 : Int32) u7) fun y8 u9 => (if y8 = (0 : Int32) then some ((0 : Int32), u9) else zlet (sI u9 0 15 ((gI u9 0 15) + (1 : Int32))) fun u10 => zb (f_X9_takesNumber u10) fun y11 u12 => (if y11 = (0 : Int32) then some ((0 : Int32), u12) else zb (f_X9_emits ((((1000 : Int32) * y3) + ((100 : Int32) * (y6 - (60 : Int32)))) + (gI u12 0 16)) u12) fun _ u14 => zb (f_X9_whole u14) fun _ u16 => some ((1 : Int32), u16))) else some ((0 : Int32), u4))
set_option maxRecDepth 20000 in
theorem go_X9_takesTest {p : Program} {l : Launch} {e : Env} {s : State} {m : MethodId} {args : Array Value} {below : List Frame} {meth : Method} {c : Code} {as : Nat → Nat} {dA : Nat → ClassId} {D : va_G} {d : Nat}  (C : zCx p s m args meth c as dA D SHM d 3 yX9_takesTest.cls cX9_takesTest ((some FieldType.boolean))) (hd : 4 ≤ d) : ∀ (u : zM), Go p l e s m args below meth c as dA D SHM d 3 zQi 0 [(0, .ref 0)] [] u (f_X9_takesTest  u) := by
  intro u
  unfold f_X9_takesTest
  refine G_aload_n C 0 dX9_takesTest_0 rfl rfl ?_
  refine G_aload_n C 0 dX9_takesTest_1 rfl rfl ?_
  refine G_callVi C (m_X9_next u (d - 1) (by omega)) (d' := d - 1) (As := []) (by omega) rfl wm9_274 wwX9_next shM_0 rfl (Nat.le_of_ble_eq_true rfl) dX9_takesTest_2 (fun y1 u2 => ?_)
  refine G_callVi C (m_X9_place y1 u2 (d - 1) (by omega)) (d' := d - 1) (As := [.int y1]) (by omega) rfl wm9_289 wwX9_place shM_0 rfl (Nat.le_of_ble_eq_true rfl) dX9_takesTest_5 (fun y3 u4 => ?_)
  refine G_istore_n (L' := [(1, .int y3), (0, .ref 0)]) C dX9_takesTest_8 rfl (by decide) rfl ?_
  refine G_iload_n C 0 dX9_takesTest_9 rfl rfl ?_
  refine G_if_ge (tgt := 15) C dX9_takesTest_10 (by decide) (fun _ => ?_) (fun _ => ?_)
  · refine G_aload_n C 1 dX9_takesTest_15 rfl rfl ?_
    refine G_dup C dX9_takesTest_16 rfl ?_
    refine G_getI C 15 shM_0 rfl rfl (by decide) wf9_56 dX9_takesTest_17 ?_
    refine G_iconst (v := 1) C dX9_takesTest_20 (by decide) ?_
    refine G_iadd C dX9_takesTest_21 ?_
    refine G_putI (ty := .int) C 15 shM_0 rfl rfl (by decide) wf9_56 rfl (by decide +kernel) rfl rfl dX9_takesTest_22 (fun u5 => ?_)
    refine G_aload_n C 1 dX9_takesTest_25 rfl rfl ?_
    refine G_callVi C (m_X9_next u5 (d - 1) (by omega)) (d' := d - 1) (As := []) (by omega) rfl wm9_274 wwX9_next shM_0 rfl (Nat.le_of_ble_eq_true rfl) dX9_takesTest_26 (fun y6 u7 => ?_)
    refine G_istore_n (L' := [(2, .int y6), (1, .int y3), (0, .ref 0)]) C dX9_takesTest_29 rfl (by decide) rfl ?_
    refine G_aload_n C 2 dX9_takesTest_30 rfl rfl ?_
    refine G_iload_n C 0 dX9_takesTest_31 rfl rfl ?_
    refine G_bipush (v := 60) C dX9_takesTest_32 (by decide) ?_
    refine G_bipush (v := 62) C dX9_takesTest_34 (by decide) ?_
    refine G_callVi C (m_X9_in y6 (60 : Int32) (62 : Int32) u7 (d - 1) (by omega)) (d' := d - 1) (As := [.int y6, .int (60 : Int32), .int (62 : Int32)]) (by omega) rfl wm9_252 wwX9_in shM_0 rfl (Nat.le_of_ble_eq_true rfl) dX9_takesTest_36 (fun y8 u9 => ?_)
    refine G_if_ne (tgt := 44) C dX9_takesTest_39 (by decide) (fun _ => ?_) (fun _ => ?_)
    · refine G_aload_n C 2 dX9_takesTest_44 rfl rfl ?_
      refine G_dup C dX9_takesTest_45 rfl ?_
      refine G_getI C 15 shM_0 rfl rfl (by decide) wf9_56 dX9_takesTest_46 ?_
      refine G_iconst (v := 1) C dX9_takesTest_49 (by decide) ?_
      refine G_iadd C dX9_takesTest_50 ?_
      refine G_putI (ty := .int) C 15 shM_0 rfl rfl (by decide) wf9_56 rfl (by decide +kernel) rfl rfl dX9_takesTest_51 (fun u10 => ?_)
      refine G_aload_n C 2 dX9_takesTest_54 rfl rfl ?_
      refine G_callVi C (m_X9_takesNumber u10 (d - 1) (by omega)) (d' := d - 1) (As := []) (by omega) rfl wm9_293 wwX9_takesNumber shM_0 rfl (Nat.le_of_ble_eq_true rfl) dX9_takesTest_55 (fun y11 u12 => ?_)
      refine G_if_ne (tgt := 63) C dX9_takesTest_58 (by decide) (fun _ => ?_) (fun _ => ?_)
      · refine G_aload_n C 2 dX9_takesTest_63 rfl rfl ?_
        refine G_sipush (v := 1000) C dX9_takesTest_64 (by decide) ?_
        refine G_iload_n C 1 dX9_takesTest_67 rfl rfl ?_
        refine G_imul C dX9_takesTest_68 ?_
        refine G_bipush (v := 100) C dX9_takesTest_69 (by decide) ?_
        refine G_iload_n C 0 dX9_takesTest_71 rfl rfl ?_
        refine G_bipush (v := 60) C dX9_takesTest_72 (by decide) ?_
        refine G_isub C dX9_takesTest_74 ?_
        refine G_imul C dX9_takesTest_75 ?_
        refine G_iadd C dX9_takesTest_76 ?_
        refine G_aload_n C 2 dX9_takesTest_77 rfl rfl ?_
        refine G_getI C 16 shM_0 rfl rfl (by decide) wf9_59 dX9_takesTest_78 ?_
        refine G_iadd C dX9_takesTest_81 ?_
        refine G_callVv C (m_X9_emits ((((1000 : Int32) * y3) + ((100 : Int32) * (y6 - (60 : Int32)))) + (gI u12 0 16)) u12 (d - 1) (by omega)) (d' := d - 1) (As := [.int ((((1000 : Int32) * y3) + ((100 : Int32) * (y6 - (60 : Int32)))) + (gI u12 0 16))]) (by omega) rfl wm9_285 wwX9_emits shM_0 rfl (Nat.le_of_ble_eq_true rfl) dX9_takesTest_82 (fun y13 u14 => ?_)
        refine G_aload_n C 2 dX9_takesTest_85 rfl rfl ?_
        refine G_callVv C (m_X9_whole u14 (d - 1) (by omega)) (d' := d - 1) (As := []) (by omega) rfl wm9_296 wwX9_whole shM_0 rfl (Nat.le_of_ble_eq_true rfl) dX9_takesTest_86 (fun y15 u16 => ?_)
        refine G_iconst (v := 1) C dX9_takesTest_89 (by decide) ?_
        exact G_zret C rfl dX9_takesTest_90
      · refine G_iconst (v := 0) C dX9_takesTest_61 (by decide) ?_
        exact G_zret C rfl dX9_takesTest_62
    · refine G_iconst (v := 0) C dX9_takesTest_42 (by decide) ?_
      exact G_zret C rfl dX9_takesTest_43
  · refine G_iconst (v := 0) C dX9_takesTest_13 (by decide) ?_
    exact G_zret C rfl dX9_takesTest_14
theorem m_X9_takesTest    (u : zM) (d : Nat) (hd : 4 ≤ d) : zMet zQi SHM yX9_takesTest cX9_takesTest 3 ((some FieldType.boolean)) d [.ref 0] u (f_X9_takesTest  u) :=
  zMet_of (by decide +kernel) (fun as => Nat.le_of_ble_eq_true rfl) wwX9_takesTest.2.2.2.1 (by omega) (fun p l e s m args below meth c as dA D C => go_X9_takesTest C hd u)
/-! private boolean takesE(int) -/
def f_X9_takesE_L122 (p1 : Int32) (k22 : Int32 → zM → Option (Int32 × zM)) (x3 : Int32) (u : zM) : Option (Int32 × zM) :=
  zb (f_X9_settle x3 u) fun _ u7 => zck (inB (gI u7 0 26) 101) <| zlet (sI u7 15 (gI u7 0 26).toNatClampNeg x3) fun u8 => zlet (sI u8 0 26 ((gI u8 0 26) + (1 : Int32))) fun u9 => zlet (sI u9 0 15 ((gI u9 0 15) + (1 : Int32))) fun u10 => k22 (1 : Int32) u10
def f_X9_takesE_L43 (p1 : Int32) (k22 : Int32 → zM → Option (Int32 × zM)) (x2 : Int32) (x3 : Int32) (u : zM) : Option (Int32 × zM) :=
  (if (gI u 0 27) = (4 : Int32) then some ((0 : Int32), u) else zlet (sI u 0 27 ((gI u 0 27) + (1 : Int32))) fun u19 => zck (inB (gI u19 0 26) 101) <| zlet (sI u19 15 (gI u19 0 26).toNatClampNeg x3) fun u20 => zlet (sI u20 0 26 ((gI u20 0 26) + (1 : Int32))) fun u21 => zlet (sI u21 0 15 ((gI u21 0 15) + (1 : Int32))) fun u22 => k22 x2 u22)
def f_X9_takesE_L22_b (p1 : Int32) (rc : Int32 → zM → Option (Int32 × zM)) (x2 : Int32) (u : zM) : Option (Int32 × zM) :=
  zb (f_X9_next u) fun y4 u5 => (if x2 = (0 : Int32) then (if y4 = (38 : Int32) then f_X9_takesE_L122 p1 rc y4 u5 else (if y4 = (124 : Int32) then f_X9_takesE_L122 p1 rc y4 u5 else zb (f_X9_settle (124 : Int32) u5) fun _ u12 => zck (inB p1 60) <| zlet (sI u12 13 p1.toNatClampNeg (gI u12 0 25)) fun u13 => (if (gI u13 0 26) = (0 : Int32) then some ((1 : Int32), u13) else (if y4 = (41 : Int32) then zlet (sI u13 0 26 ((gI u13 0 26) - (1 : Int32))) fun u14 => zlet (sI u14 0 27 ((gI u14 0 27) - (1 : Int32))) fun u15 => zlet (sI u15 0 15 ((gI u15 0 15) + (1 : Int32))) fun u16 => zb (f_X9_whole u16) fun _ u18 => rc x2 u18 else some ((0 : Int32), u13))))) else (if y4 = (33 : Int32) then f_X9_takesE_L43 p1 rc x2 y4 u5 else (if y4 = (40 : Int32) then f_X9_takesE_L43 p1 rc x2 y4 u5 else zb (f_X9_takesTest u5) fun y23 u24 => (if y23 = (0 : Int32) then some ((0 : Int32), u24) else rc (0 : Int32) u24))))
def f_X9_takesE_L22 (p1 : Int32) : Nat → Int32 → zM → Option (Int32 × zM)
  | 0 => fun _ _ => none
  | fn + 1 => f_X9_takesE_L22_b p1 (f_X9_takesE_L22 p1 fn)
def f_X9_takesE (p1 : Int32) (u : zM) : Option (Int32 × zM) :=
  zlet (sI u 0 26 (0 : Int32)) fun u1 => zlet (sI u1 0 27 (0 : Int32)) fun u2 => zck (inB p1 60) <| zlet (sI u2 12 p1.toNatClampNeg (gI u2 0 25)) fun u3 => f_X9_takesE_L22 p1 400 (1 : Int32) u3
set_option maxRecDepth 20000 in
theorem go_X9_takesE_L122 {p : Program} {l : Launch} {e : Env} {s : State} {m : MethodId} {args : Array Value} {below : List Frame} {meth : Method} {c : Code} {as : Nat → Nat} {dA : Nat → ClassId} {D : va_G} {d : Nat} {p1 : Int32} (C : zCx p s m args meth c as dA D SHM d 4 yX9_takesE.cls cX9_takesE ((some FieldType.boolean))) (hd : 5 ≤ d) {k22 : Int32 → zM → Option (Int32 × zM)} (hk22 : ∀ (x2 : Int32) (u : zM), Go p l e s m args below meth c as dA D SHM d 4 zQi 22 [(0, .ref 0), (1, .int p1), (2, .int x2)] [] u (k22 x2 u)) : ∀ (x3 : Int32) (u : zM), Go p l e s m args below meth c as dA D SHM d 4 zQi 122 [(0, .ref 0), (1, .int p1), (3, .int x3)] [] u (f_X9_takesE_L122 p1 k22 x3 u) := by
  intro x3 u
  unfold f_X9_takesE_L122
  refine G_aload_n C 0 dX9_takesE_122 rfl rfl ?_
  refine G_iload_n C 2 dX9_takesE_123 rfl rfl ?_
  refine G_callVv C (m_X9_settle x3 u (d - 1) (by omega)) (d' := d - 1) (As := [.int x3]) (by omega) rfl wm9_302 wwX9_settle shM_0 rfl (Nat.le_of_ble_eq_true rfl) dX9_takesE_124 (fun y6 u7 => ?_)
  refine G_aload_n C 0 dX9_takesE_127 rfl rfl ?_
  refine G_getR (j := 15) C 24 shM_0 rfl rfl (by decide) wf9_83 dX9_takesE_128 ?_
  refine G_aload_n C 0 dX9_takesE_131 rfl rfl ?_
  refine G_getI C 26 shM_0 rfl rfl (by decide) wf9_89 dX9_takesE_132 ?_
  refine G_iload_n C 2 dX9_takesE_135 rfl rfl ?_
  refine G_iast C shM_15 dX9_takesE_136 (fun _ u8 => ?_)
  refine G_aload_n C 0 dX9_takesE_137 rfl rfl ?_
  refine G_dup C dX9_takesE_138 rfl ?_
  refine G_getI C 26 shM_0 rfl rfl (by decide) wf9_89 dX9_takesE_139 ?_
  refine G_iconst (v := 1) C dX9_takesE_142 (by decide) ?_
  refine G_iadd C dX9_takesE_143 ?_
  refine G_putI (ty := .int) C 26 shM_0 rfl rfl (by decide) wf9_89 rfl (by decide +kernel) rfl rfl dX9_takesE_144 (fun u9 => ?_)
  refine G_iconst (v := 1) C dX9_takesE_147 (by decide) ?_
  refine G_istore_n (L' := [(2, .int (1 : Int32)), (0, .ref 0), (1, .int p1), (3, .int x3)]) C dX9_takesE_148 rfl (by decide) rfl ?_
  refine G_aload_n C 1 dX9_takesE_149 rfl rfl ?_
  refine G_dup C dX9_takesE_150 rfl ?_
  refine G_getI C 15 shM_0 rfl rfl (by decide) wf9_56 dX9_takesE_151 ?_
  refine G_iconst (v := 1) C dX9_takesE_154 (by decide) ?_
  refine G_iadd C dX9_takesE_155 ?_
  refine G_putI (ty := .int) C 15 shM_0 rfl rfl (by decide) wf9_56 rfl (by decide +kernel) rfl rfl dX9_takesE_156 (fun u10 => ?_)
  refine G_goto (tgt := 22) C dX9_takesE_159 (by decide) ?_
  refine G_locals [1, 2, 0] rfl ?_
  exact hk22 (1 : Int32) u10
set_option maxRecDepth 20000 in
theorem go_X9_takesE_L43 {p : Program} {l : Launch} {e : Env} {s : State} {m : MethodId} {args : Array Value} {below : List Frame} {meth : Method} {c : Code} {as : Nat → Nat} {dA : Nat → ClassId} {D : va_G} {d : Nat} {p1 : Int32} (C : zCx p s m args meth c as dA D SHM d 4 yX9_takesE.cls cX9_takesE ((some FieldType.boolean))) (hd : 5 ≤ d) {k22 : Int32 → zM → Option (Int32 × zM)} (hk22 : ∀ (x2 : Int32) (u : zM), Go p l e s m args below meth c as dA D SHM d 4 zQi 22 [(0, .ref 0), (1, .int p1), (2, .int x2)] [] u (k22 x2 u)) : ∀ (x2 : Int32) (x3 : Int32) (u : zM), Go p l e s m args below meth c as dA D SHM d 4 zQi 43 [(0, .ref 0), (1, .int p1), (2, .int x2), (3, .int x3)] [] u (f_X9_takesE_L43 p1 k22 x2 x3 u) := by
  intro x2 x3 u
  unfold f_X9_takesE_L43
  refine G_aload_n C 0 dX9_takesE_43 rfl rfl ?_
  refine G_getI C 27 shM_0 rfl rfl (by decide) wf9_92 dX9_takesE_44 ?_
  refine G_iconst (v := 4) C dX9_takesE_47 (by decide) ?_
  refine G_icmp_ne (tgt := 53) C dX9_takesE_48 (by decide) (fun _ => ?_) (fun _ => ?_)
  · refine G_aload_n C 0 dX9_takesE_53 rfl rfl ?_
    refine G_dup C dX9_takesE_54 rfl ?_
    refine G_getI C 27 shM_0 rfl rfl (by decide) wf9_92 dX9_takesE_55 ?_
    refine G_iconst (v := 1) C dX9_takesE_58 (by decide) ?_
    refine G_iadd C dX9_takesE_59 ?_
    refine G_putI (ty := .int) C 27 shM_0 rfl rfl (by decide) wf9_92 rfl (by decide +kernel) rfl rfl dX9_takesE_60 (fun u19 => ?_)
    refine G_aload_n C 0 dX9_takesE_63 rfl rfl ?_
    refine G_getR (j := 15) C 24 shM_0 rfl rfl (by decide) wf9_83 dX9_takesE_64 ?_
    refine G_aload_n C 0 dX9_takesE_67 rfl rfl ?_
    refine G_getI C 26 shM_0 rfl rfl (by decide) wf9_89 dX9_takesE_68 ?_
    refine G_iload_n C 3 dX9_takesE_71 rfl rfl ?_
    refine G_iast C shM_15 dX9_takesE_72 (fun _ u20 => ?_)
    refine G_aload_n C 0 dX9_takesE_73 rfl rfl ?_
    refine G_dup C dX9_takesE_74 rfl ?_
    refine G_getI C 26 shM_0 rfl rfl (by decide) wf9_89 dX9_takesE_75 ?_
    refine G_iconst (v := 1) C dX9_takesE_78 (by decide) ?_
    refine G_iadd C dX9_takesE_79 ?_
    refine G_putI (ty := .int) C 26 shM_0 rfl rfl (by decide) wf9_89 rfl (by decide +kernel) rfl rfl dX9_takesE_80 (fun u21 => ?_)
    refine G_aload_n C 0 dX9_takesE_83 rfl rfl ?_
    refine G_dup C dX9_takesE_84 rfl ?_
    refine G_getI C 15 shM_0 rfl rfl (by decide) wf9_56 dX9_takesE_85 ?_
    refine G_iconst (v := 1) C dX9_takesE_88 (by decide) ?_
    refine G_iadd C dX9_takesE_89 ?_
    refine G_putI (ty := .int) C 15 shM_0 rfl rfl (by decide) wf9_56 rfl (by decide +kernel) rfl rfl dX9_takesE_90 (fun u22 => ?_)
    refine G_goto (tgt := 22) C dX9_takesE_93 (by decide) ?_
    refine G_locals [0, 1, 2] rfl ?_
    exact hk22 x2 u22
  · refine G_iconst (v := 0) C dX9_takesE_51 (by decide) ?_
    exact G_zret C rfl dX9_takesE_52
set_option maxRecDepth 20000 in
theorem go_X9_takesE_L22 {p : Program} {l : Launch} {e : Env} {s : State} {m : MethodId} {args : Array Value} {below : List Frame} {meth : Method} {c : Code} {as : Nat → Nat} {dA : Nat → ClassId} {D : va_G} {d : Nat} {p1 : Int32} (C : zCx p s m args meth c as dA D SHM d 4 yX9_takesE.cls cX9_takesE ((some FieldType.boolean))) (hd : 5 ≤ d) : ∀ (fn : Nat) (x2 : Int32) (u : zM), Go p l e s m args below meth c as dA D SHM d 4 zQi 22 [(0, .ref 0), (1, .int p1), (2, .int x2)] [] u (f_X9_takesE_L22 p1 fn x2 u) := by
  intro fn
  induction fn with
  | zero => intro x2 u; exact G_none
  | succ fn ih =>
    intro x2 u
    show Go p l e s m args below meth c as dA D SHM d 4 zQi 22 [(0, .ref 0), (1, .int p1), (2, .int x2)] [] u (f_X9_takesE_L22_b p1 (f_X9_takesE_L22 p1 fn) x2 u)
    unfold f_X9_takesE_L22_b
    refine G_aload_n C 0 dX9_takesE_22 rfl rfl ?_
    refine G_callVi C (m_X9_next u (d - 1) (by omega)) (d' := d - 1) (As := []) (by omega) rfl wm9_274 wwX9_next shM_0 rfl (Nat.le_of_ble_eq_true rfl) dX9_takesE_23 (fun y4 u5 => ?_)
    refine G_istore_n (L' := [(3, .int y4), (0, .ref 0), (1, .int p1), (2, .int x2)]) C dX9_takesE_26 rfl (by decide) rfl ?_
    refine G_iload_n C 3 dX9_takesE_27 rfl rfl ?_
    refine G_if_eq (tgt := 110) C dX9_takesE_28 (by decide) (fun _ => ?_) (fun _ => ?_)
    · refine G_iload_n C 0 dX9_takesE_110 rfl rfl ?_
      refine G_bipush (v := 38) C dX9_takesE_111 (by decide) ?_
      refine G_icmp_eq (tgt := 122) C dX9_takesE_113 (by decide) (fun _ => ?_) (fun _ => ?_)
      · refine G_locals [1, 2, 0] rfl ?_
        exact go_X9_takesE_L122 C hd ih y4 u5
      · refine G_iload_n C 0 dX9_takesE_116 rfl rfl ?_
        refine G_bipush (v := 124) C dX9_takesE_117 (by decide) ?_
        refine G_icmp_ne (tgt := 162) C dX9_takesE_119 (by decide) (fun _ => ?_) (fun _ => ?_)
        · refine G_aload_n C 1 dX9_takesE_162 rfl rfl ?_
          refine G_bipush (v := 124) C dX9_takesE_163 (by decide) ?_
          refine G_callVv C (m_X9_settle (124 : Int32) u5 (d - 1) (by omega)) (d' := d - 1) (As := [.int (124 : Int32)]) (by omega) rfl wm9_302 wwX9_settle shM_0 rfl (Nat.le_of_ble_eq_true rfl) dX9_takesE_165 (fun y11 u12 => ?_)
          refine G_aload_n C 1 dX9_takesE_168 rfl rfl ?_
          refine G_getR (j := 13) C 22 shM_0 rfl rfl (by decide) wf9_77 dX9_takesE_169 ?_
          refine G_iload_n C 2 dX9_takesE_172 rfl rfl ?_
          refine G_aload_n C 1 dX9_takesE_173 rfl rfl ?_
          refine G_getI C 25 shM_0 rfl rfl (by decide) wf9_86 dX9_takesE_174 ?_
          refine G_iast C shM_13 dX9_takesE_177 (fun _ u13 => ?_)
          refine G_aload_n C 1 dX9_takesE_178 rfl rfl ?_
          refine G_getI C 26 shM_0 rfl rfl (by decide) wf9_89 dX9_takesE_179 ?_
          refine G_if_ne (tgt := 187) C dX9_takesE_182 (by decide) (fun _ => ?_) (fun _ => ?_)
          · refine G_iload_n C 0 dX9_takesE_187 rfl rfl ?_
            refine G_bipush (v := 41) C dX9_takesE_188 (by decide) ?_
            refine G_icmp_eq (tgt := 195) C dX9_takesE_190 (by decide) (fun _ => ?_) (fun _ => ?_)
            · refine G_aload_n C 1 dX9_takesE_195 rfl rfl ?_
              refine G_dup C dX9_takesE_196 rfl ?_
              refine G_getI C 26 shM_0 rfl rfl (by decide) wf9_89 dX9_takesE_197 ?_
              refine G_iconst (v := 1) C dX9_takesE_200 (by decide) ?_
              refine G_isub C dX9_takesE_201 ?_
              refine G_putI (ty := .int) C 26 shM_0 rfl rfl (by decide) wf9_89 rfl (by decide +kernel) rfl rfl dX9_takesE_202 (fun u14 => ?_)
              refine G_aload_n C 1 dX9_takesE_205 rfl rfl ?_
              refine G_dup C dX9_takesE_206 rfl ?_
              refine G_getI C 27 shM_0 rfl rfl (by decide) wf9_92 dX9_takesE_207 ?_
              refine G_iconst (v := 1) C dX9_takesE_210 (by decide) ?_
              refine G_isub C dX9_takesE_211 ?_
              refine G_putI (ty := .int) C 27 shM_0 rfl rfl (by decide) wf9_92 rfl (by decide +kernel) rfl rfl dX9_takesE_212 (fun u15 => ?_)
              refine G_aload_n C 1 dX9_takesE_215 rfl rfl ?_
              refine G_dup C dX9_takesE_216 rfl ?_
              refine G_getI C 15 shM_0 rfl rfl (by decide) wf9_56 dX9_takesE_217 ?_
              refine G_iconst (v := 1) C dX9_takesE_220 (by decide) ?_
              refine G_iadd C dX9_takesE_221 ?_
              refine G_putI (ty := .int) C 15 shM_0 rfl rfl (by decide) wf9_56 rfl (by decide +kernel) rfl rfl dX9_takesE_222 (fun u16 => ?_)
              refine G_aload_n C 1 dX9_takesE_225 rfl rfl ?_
              refine G_callVv C (m_X9_whole u16 (d - 1) (by omega)) (d' := d - 1) (As := []) (by omega) rfl wm9_296 wwX9_whole shM_0 rfl (Nat.le_of_ble_eq_true rfl) dX9_takesE_226 (fun y17 u18 => ?_)
              refine G_goto (tgt := 22) C dX9_takesE_229 (by decide) ?_
              refine G_locals [1, 2, 3] rfl ?_
              exact ih x2 u18
            · refine G_iconst (v := 0) C dX9_takesE_193 (by decide) ?_
              exact G_zret C rfl dX9_takesE_194
          · refine G_iconst (v := 1) C dX9_takesE_185 (by decide) ?_
            exact G_zret C rfl dX9_takesE_186
        · refine G_locals [1, 2, 0] rfl ?_
          exact go_X9_takesE_L122 C hd ih y4 u5
    · refine G_iload_n C 0 dX9_takesE_31 rfl rfl ?_
      refine G_bipush (v := 33) C dX9_takesE_32 (by decide) ?_
      refine G_icmp_eq (tgt := 43) C dX9_takesE_34 (by decide) (fun _ => ?_) (fun _ => ?_)
      · refine G_locals [1, 2, 3, 0] rfl ?_
        exact go_X9_takesE_L43 C hd ih x2 y4 u5
      · refine G_iload_n C 0 dX9_takesE_37 rfl rfl ?_
        refine G_bipush (v := 40) C dX9_takesE_38 (by decide) ?_
        refine G_icmp_ne (tgt := 96) C dX9_takesE_40 (by decide) (fun _ => ?_) (fun _ => ?_)
        · refine G_aload_n C 1 dX9_takesE_96 rfl rfl ?_
          refine G_callVi C (m_X9_takesTest u5 (d - 1) (by omega)) (d' := d - 1) (As := []) (by omega) rfl wm9_299 wwX9_takesTest shM_0 rfl (Nat.le_of_ble_eq_true rfl) dX9_takesE_97 (fun y23 u24 => ?_)
          refine G_if_eq (tgt := 108) C dX9_takesE_100 (by decide) (fun _ => ?_) (fun _ => ?_)
          · refine G_iconst (v := 0) C dX9_takesE_108 (by decide) ?_
            exact G_zret C rfl dX9_takesE_109
          · refine G_iconst (v := 0) C dX9_takesE_103 (by decide) ?_
            refine G_istore_n (L' := [(2, .int (0 : Int32)), (3, .int y4), (0, .ref 0), (1, .int p1)]) C dX9_takesE_104 rfl (by decide) rfl ?_
            refine G_goto (tgt := 22) C dX9_takesE_105 (by decide) ?_
            refine G_locals [2, 3, 0] rfl ?_
            exact ih (0 : Int32) u24
        · refine G_locals [1, 2, 3, 0] rfl ?_
          exact go_X9_takesE_L43 C hd ih x2 y4 u5
set_option maxRecDepth 20000 in
theorem go_X9_takesE {p : Program} {l : Launch} {e : Env} {s : State} {m : MethodId} {args : Array Value} {below : List Frame} {meth : Method} {c : Code} {as : Nat → Nat} {dA : Nat → ClassId} {D : va_G} {d : Nat} {p1 : Int32} (C : zCx p s m args meth c as dA D SHM d 4 yX9_takesE.cls cX9_takesE ((some FieldType.boolean))) (hd : 5 ≤ d) : ∀ (u : zM), Go p l e s m args below meth c as dA D SHM d 4 zQi 0 [(0, .ref 0), (1, .int p1)] [] u (f_X9_takesE p1 u) := by
  intro u
  unfold f_X9_takesE
  refine G_aload_n C 0 dX9_takesE_0 rfl rfl ?_
  refine G_iconst (v := 0) C dX9_takesE_1 (by decide) ?_
  refine G_putI (ty := .int) C 26 shM_0 rfl rfl (by decide) wf9_89 rfl (by decide +kernel) rfl rfl dX9_takesE_2 (fun u1 => ?_)
  refine G_aload_n C 0 dX9_takesE_5 rfl rfl ?_
  refine G_iconst (v := 0) C dX9_takesE_6 (by decide) ?_
  refine G_putI (ty := .int) C 27 shM_0 rfl rfl (by decide) wf9_92 rfl (by decide +kernel) rfl rfl dX9_takesE_7 (fun u2 => ?_)
  refine G_aload_n C 0 dX9_takesE_10 rfl rfl ?_
  refine G_getR (j := 12) C 21 shM_0 rfl rfl (by decide) wf9_74 dX9_takesE_11 ?_
  refine G_iload_n C 1 dX9_takesE_14 rfl rfl ?_
  refine G_aload_n C 0 dX9_takesE_15 rfl rfl ?_
  refine G_getI C 25 shM_0 rfl rfl (by decide) wf9_86 dX9_takesE_16 ?_
  refine G_iast C shM_12 dX9_takesE_19 (fun _ u3 => ?_)
  refine G_iconst (v := 1) C dX9_takesE_20 (by decide) ?_
  refine G_istore_n (L' := [(2, .int (1 : Int32)), (0, .ref 0), (1, .int p1)]) C dX9_takesE_21 rfl (by decide) rfl ?_
  refine G_locals [1, 2, 0] rfl ?_
  exact go_X9_takesE_L22 C hd 400 (1 : Int32) u3
theorem m_X9_takesE   (p1 : Int32) (u : zM) (d : Nat) (hd : 5 ≤ d) : zMet zQi SHM yX9_takesE cX9_takesE 4 ((some FieldType.boolean)) d [.ref 0, .int p1] u (f_X9_takesE p1 u) :=
  zMet_of (by decide +kernel) (fun as => Nat.le_of_ble_eq_true rfl) wwX9_takesE.2.2.2.1 (by omega) (fun p l e s m args below meth c as dA D C => go_X9_takesE C hd u)
/-! private boolean takesHead(int) -/
def f_X9_takesHead (p1 : Int32) (u : zM) : Option (Int32 × zM) :=
  zb (f_X9_next u) fun y1 u2 => (if y1 = (99 : Int32) then zck (inB p1 60) <| zlet (sI u2 10 p1.toNatClampNeg (1 : Int32)) fun u4 => zb (f_X9_takesWord (4 : Int32) (4 : Int32) u4) fun y5 u6 => zck (z01 y5) <| some (y5, u6) else if y1 = (104 : Int32) then zck (inB p1 60) <| zlet (sI u2 10 p1.toNatClampNeg (0 : Int32)) fun u9 => zb (f_X9_takesWord (0 : Int32) (4 : Int32) u9) fun y10 u11 => zck (z01 y10) <| some (y10, u11) else zck (inB p1 60) <| zlet (sI u2 10 p1.toNatClampNeg (2 : Int32)) fun u13 => zb (f_X9_takesWord (8 : Int32) (5 : Int32) u13) fun y14 u15 => zck (z01 y14) <| some (y14, u15))
set_option maxRecDepth 20000 in
theorem go_X9_takesHead {p : Program} {l : Launch} {e : Env} {s : State} {m : MethodId} {args : Array Value} {below : List Frame} {meth : Method} {c : Code} {as : Nat → Nat} {dA : Nat → ClassId} {D : va_G} {d : Nat} {p1 : Int32} (C : zCx p s m args meth c as dA D SHM d 2 yX9_takesHead.cls cX9_takesHead ((some FieldType.boolean))) (hd : 4 ≤ d) : ∀ (u : zM), Go p l e s m args below meth c as dA D SHM d 2 zQi 0 [(0, .ref 0), (1, .int p1)] [] u (f_X9_takesHead p1 u) := by
  intro u
  unfold f_X9_takesHead
  refine G_aload_n C 0 dX9_takesHead_0 rfl rfl ?_
  refine G_callVi C (m_X9_next u (d - 1) (by omega)) (d' := d - 1) (As := []) (by omega) rfl wm9_274 wwX9_next shM_0 rfl (Nat.le_of_ble_eq_true rfl) dX9_takesHead_1 (fun y1 u2 => ?_)
  refine G_if (fun h3 => ?_) (fun h3 => ?_)
  · refine G_lsw (off := 42) (tgt := 46) C dX9_takesHead_4 (by decide) (by rw [h3]; rfl) (by decide) ?_
    refine G_aload_n C 0 dX9_takesHead_46 rfl rfl ?_
    refine G_getR (j := 10) C 19 shM_0 rfl rfl (by decide) wf9_68 dX9_takesHead_47 ?_
    refine G_iload_n C 1 dX9_takesHead_50 rfl rfl ?_
    refine G_iconst (v := 1) C dX9_takesHead_51 (by decide) ?_
    refine G_iast C shM_10 dX9_takesHead_52 (fun _ u4 => ?_)
    refine G_aload_n C 0 dX9_takesHead_53 rfl rfl ?_
    refine G_iconst (v := 4) C dX9_takesHead_54 (by decide) ?_
    refine G_iconst (v := 4) C dX9_takesHead_55 (by decide) ?_
    refine G_callVi C (m_X9_takesWord (4 : Int32) (4 : Int32) u4 (d - 1) (by omega)) (d' := d - 1) (As := [.int (4 : Int32), .int (4 : Int32)]) (by omega) rfl wm9_305 wwX9_takesWord shM_0 rfl (Nat.le_of_ble_eq_true rfl) dX9_takesHead_56 (fun y5 u6 => ?_)
    refine G_ck (fun hz7 => ?_)
    exact G_zret C (z01_nar hz7) dX9_takesHead_59
  · refine G_if (fun h8 => ?_) (fun h8 => ?_)
    · refine G_lsw (off := 28) (tgt := 32) C dX9_takesHead_4 (by decide) (by rw [h8]; rfl) (by decide) ?_
      refine G_aload_n C 0 dX9_takesHead_32 rfl rfl ?_
      refine G_getR (j := 10) C 19 shM_0 rfl rfl (by decide) wf9_68 dX9_takesHead_33 ?_
      refine G_iload_n C 1 dX9_takesHead_36 rfl rfl ?_
      refine G_iconst (v := 0) C dX9_takesHead_37 (by decide) ?_
      refine G_iast C shM_10 dX9_takesHead_38 (fun _ u9 => ?_)
      refine G_aload_n C 0 dX9_takesHead_39 rfl rfl ?_
      refine G_iconst (v := 0) C dX9_takesHead_40 (by decide) ?_
      refine G_iconst (v := 4) C dX9_takesHead_41 (by decide) ?_
      refine G_callVi C (m_X9_takesWord (0 : Int32) (4 : Int32) u9 (d - 1) (by omega)) (d' := d - 1) (As := [.int (0 : Int32), .int (4 : Int32)]) (by omega) rfl wm9_305 wwX9_takesWord shM_0 rfl (Nat.le_of_ble_eq_true rfl) dX9_takesHead_42 (fun y10 u11 => ?_)
      refine G_ck (fun hz12 => ?_)
      exact G_zret C (z01_nar hz12) dX9_takesHead_45
    · refine G_lsw (off := 56) (tgt := 60) C dX9_takesHead_4 (by decide) ((lv_osw h3 rfl).trans ((lv_osw h8 rfl).trans (rfl))) (by decide) ?_
      refine G_aload_n C 0 dX9_takesHead_60 rfl rfl ?_
      refine G_getR (j := 10) C 19 shM_0 rfl rfl (by decide) wf9_68 dX9_takesHead_61 ?_
      refine G_iload_n C 1 dX9_takesHead_64 rfl rfl ?_
      refine G_iconst (v := 2) C dX9_takesHead_65 (by decide) ?_
      refine G_iast C shM_10 dX9_takesHead_66 (fun _ u13 => ?_)
      refine G_aload_n C 0 dX9_takesHead_67 rfl rfl ?_
      refine G_bipush (v := 8) C dX9_takesHead_68 (by decide) ?_
      refine G_iconst (v := 5) C dX9_takesHead_70 (by decide) ?_
      refine G_callVi C (m_X9_takesWord (8 : Int32) (5 : Int32) u13 (d - 1) (by omega)) (d' := d - 1) (As := [.int (8 : Int32), .int (5 : Int32)]) (by omega) rfl wm9_305 wwX9_takesWord shM_0 rfl (Nat.le_of_ble_eq_true rfl) dX9_takesHead_71 (fun y14 u15 => ?_)
      refine G_ck (fun hz16 => ?_)
      exact G_zret C (z01_nar hz16) dX9_takesHead_74
theorem m_X9_takesHead   (p1 : Int32) (u : zM) (d : Nat) (hd : 4 ≤ d) : zMet zQi SHM yX9_takesHead cX9_takesHead 2 ((some FieldType.boolean)) d [.ref 0, .int p1] u (f_X9_takesHead p1 u) :=
  zMet_of (by decide +kernel) (fun as => Nat.le_of_ble_eq_true rfl) wwX9_takesHead.2.2.2.1 (by omega) (fun p l e s m args below meth c as dA D C => go_X9_takesHead C hd u)
/-! private boolean takesClause(int) -/
def f_X9_takesClause (p1 : Int32) (u : zM) : Option (Int32 × zM) :=
  zb (f_X9_takesHead p1 u) fun y1 u2 => (if y1 = (0 : Int32) then some ((0 : Int32), u2) else zb (f_X9_takesNumber u2) fun y3 u4 => (if y3 = (0 : Int32) then some ((0 : Int32), u4) else zck (inB p1 60) <| zlet (sI u4 11 p1.toNatClampNeg (gI u4 0 16)) fun u5 => zck (inB p1 60) <| (if (gI u5 10 p1.toNatClampNeg) = (2 : Int32) then some ((1 : Int32), u5) else zb (f_X9_takes (32 : Int32) u5) fun y7 u8 => (if y7 = (0 : Int32) then some ((0 : Int32), u8) else zb (f_X9_takesE p1 u8) fun y9 u10 => (if y9 = (0 : Int32) then some ((0 : Int32), u10) else some ((1 : Int32), u10))))))
set_option maxRecDepth 20000 in
theorem go_X9_takesClause {p : Program} {l : Launch} {e : Env} {s : State} {m : MethodId} {args : Array Value} {below : List Frame} {meth : Method} {c : Code} {as : Nat → Nat} {dA : Nat → ClassId} {D : va_G} {d : Nat} {p1 : Int32} (C : zCx p s m args meth c as dA D SHM d 2 yX9_takesClause.cls cX9_takesClause ((some FieldType.boolean))) (hd : 6 ≤ d) : ∀ (u : zM), Go p l e s m args below meth c as dA D SHM d 2 zQi 0 [(0, .ref 0), (1, .int p1)] [] u (f_X9_takesClause p1 u) := by
  intro u
  unfold f_X9_takesClause
  refine G_aload_n C 0 dX9_takesClause_0 rfl rfl ?_
  refine G_iload_n C 1 dX9_takesClause_1 rfl rfl ?_
  refine G_callVi C (m_X9_takesHead p1 u (d - 1) (by omega)) (d' := d - 1) (As := [.int p1]) (by omega) rfl wm9_308 wwX9_takesHead shM_0 rfl (Nat.le_of_ble_eq_true rfl) dX9_takesClause_2 (fun y1 u2 => ?_)
  refine G_if_eq (tgt := 15) C dX9_takesClause_5 (by decide) (fun _ => ?_) (fun _ => ?_)
  · refine G_iconst (v := 0) C dX9_takesClause_15 (by decide) ?_
    exact G_zret C rfl dX9_takesClause_16
  · refine G_aload_n C 0 dX9_takesClause_8 rfl rfl ?_
    refine G_callVi C (m_X9_takesNumber u2 (d - 1) (by omega)) (d' := d - 1) (As := []) (by omega) rfl wm9_293 wwX9_takesNumber shM_0 rfl (Nat.le_of_ble_eq_true rfl) dX9_takesClause_9 (fun y3 u4 => ?_)
    refine G_if_ne (tgt := 17) C dX9_takesClause_12 (by decide) (fun _ => ?_) (fun _ => ?_)
    · refine G_aload_n C 0 dX9_takesClause_17 rfl rfl ?_
      refine G_getR (j := 11) C 20 shM_0 rfl rfl (by decide) wf9_71 dX9_takesClause_18 ?_
      refine G_iload_n C 1 dX9_takesClause_21 rfl rfl ?_
      refine G_aload_n C 0 dX9_takesClause_22 rfl rfl ?_
      refine G_getI C 16 shM_0 rfl rfl (by decide) wf9_59 dX9_takesClause_23 ?_
      refine G_iast C shM_11 dX9_takesClause_26 (fun _ u5 => ?_)
      refine G_aload_n C 0 dX9_takesClause_27 rfl rfl ?_
      refine G_getR (j := 10) C 19 shM_0 rfl rfl (by decide) wf9_68 dX9_takesClause_28 ?_
      refine G_iload_n C 1 dX9_takesClause_31 rfl rfl ?_
      refine G_iald C shM_10 dX9_takesClause_32 (fun hb6 => ?_)
      refine G_iconst (v := 2) C dX9_takesClause_33 (by decide) ?_
      refine G_icmp_eq (tgt := 54) C dX9_takesClause_34 (by decide) (fun _ => ?_) (fun _ => ?_)
      · refine G_iconst (v := 1) C dX9_takesClause_54 (by decide) ?_
        refine G_goto (tgt := 59) C dX9_takesClause_55 (by decide) ?_
        exact G_zret C rfl dX9_takesClause_59
      · refine G_aload_n C 0 dX9_takesClause_37 rfl rfl ?_
        refine G_bipush (v := 32) C dX9_takesClause_38 (by decide) ?_
        refine G_callVi C (m_X9_takes (32 : Int32) u5 (d - 1) (by omega)) (d' := d - 1) (As := [.int (32 : Int32)]) (by omega) rfl wm9_278 wwX9_takes shM_0 rfl (Nat.le_of_ble_eq_true rfl) dX9_takesClause_40 (fun y7 u8 => ?_)
        refine G_if_eq (tgt := 58) C dX9_takesClause_43 (by decide) (fun _ => ?_) (fun _ => ?_)
        · refine G_iconst (v := 0) C dX9_takesClause_58 (by decide) ?_
          exact G_zret C rfl dX9_takesClause_59
        · refine G_aload_n C 0 dX9_takesClause_46 rfl rfl ?_
          refine G_iload_n C 1 dX9_takesClause_47 rfl rfl ?_
          refine G_callVi C (m_X9_takesE p1 u8 (d - 1) (by omega)) (d' := d - 1) (As := [.int p1]) (by omega) rfl wm9_311 wwX9_takesE shM_0 rfl (Nat.le_of_ble_eq_true rfl) dX9_takesClause_48 (fun y9 u10 => ?_)
          refine G_if_eq (tgt := 58) C dX9_takesClause_51 (by decide) (fun _ => ?_) (fun _ => ?_)
          · refine G_iconst (v := 0) C dX9_takesClause_58 (by decide) ?_
            exact G_zret C rfl dX9_takesClause_59
          · refine G_iconst (v := 1) C dX9_takesClause_54 (by decide) ?_
            refine G_goto (tgt := 59) C dX9_takesClause_55 (by decide) ?_
            exact G_zret C rfl dX9_takesClause_59
    · refine G_iconst (v := 0) C dX9_takesClause_15 (by decide) ?_
      exact G_zret C rfl dX9_takesClause_16
theorem m_X9_takesClause   (p1 : Int32) (u : zM) (d : Nat) (hd : 6 ≤ d) : zMet zQi SHM yX9_takesClause cX9_takesClause 2 ((some FieldType.boolean)) d [.ref 0, .int p1] u (f_X9_takesClause p1 u) :=
  zMet_of (by decide +kernel) (fun as => Nat.le_of_ble_eq_true rfl) wwX9_takesClause.2.2.2.1 (by omega) (fun p l e s m args below meth c as dA D C => go_X9_takesClause C hd u)
/-! private boolean goesText(int) -/
def f_X9_goesText_L15_b (p1 : Int32) (rc : Int32 → zM → Option (Int32 × zM)) (x2 : Int32) (u : zM) : Option (Int32 × zM) :=
  zb (f_X9_takesClause (((10 : Int32) * p1) + x2) u) fun y3 u4 => (if y3 = (0 : Int32) then some ((0 : Int32), u4) else zck (inB p1 6) <| zlet (sI u4 9 p1.toNatClampNeg (x2 + (1 : Int32))) fun u5 => (if (gI u5 0 15) = (gI u5 0 14) then some ((1 : Int32), u5) else (if (x2 + (1 : Int32)) = (10 : Int32) then some ((0 : Int32), u5) else zb (f_X9_takes (59 : Int32) u5) fun y6 u7 => (if y6 = (0 : Int32) then some ((0 : Int32), u7) else rc (x2 + (1 : Int32)) u7))))
def f_X9_goesText_L15 (p1 : Int32) : Nat → Int32 → zM → Option (Int32 × zM)
  | 0 => fun _ _ => none
  | fn + 1 => f_X9_goesText_L15_b p1 (f_X9_goesText_L15 p1 fn)
def f_X9_goesText (p1 : Int32) (u : zM) : Option (Int32 × zM) :=
  zlet (sI u 0 15 (0 : Int32)) fun u1 => zlet (sI u1 0 25 ((100 : Int32) * p1)) fun u2 => f_X9_goesText_L15 p1 400 (0 : Int32) u2
set_option maxRecDepth 20000 in
theorem go_X9_goesText_L15 {p : Program} {l : Launch} {e : Env} {s : State} {m : MethodId} {args : Array Value} {below : List Frame} {meth : Method} {c : Code} {as : Nat → Nat} {dA : Nat → ClassId} {D : va_G} {d : Nat} {p1 : Int32} (C : zCx p s m args meth c as dA D SHM d 3 yX9_goesText.cls cX9_goesText ((some FieldType.boolean))) (hd : 7 ≤ d) : ∀ (fn : Nat) (x2 : Int32) (u : zM), Go p l e s m args below meth c as dA D SHM d 3 zQi 15 [(0, .ref 0), (1, .int p1), (2, .int x2)] [] u (f_X9_goesText_L15 p1 fn x2 u) := by
  intro fn
  induction fn with
  | zero => intro x2 u; exact G_none
  | succ fn ih =>
    intro x2 u
    show Go p l e s m args below meth c as dA D SHM d 3 zQi 15 [(0, .ref 0), (1, .int p1), (2, .int x2)] [] u (f_X9_goesText_L15_b p1 (f_X9_goesText_L15 p1 fn) x2 u)
    unfold f_X9_goesText_L15_b
    refine G_aload_n C 0 dX9_goesText_15 rfl rfl ?_
    refine G_bipush (v := 10) C dX9_goesText_16 (by decide) ?_
    refine G_iload_n C 1 dX9_goesText_18 rfl rfl ?_
    refine G_imul C dX9_goesText_19 ?_
    refine G_iload_n C 2 dX9_goesText_20 rfl rfl ?_
    refine G_iadd C dX9_goesText_21 ?_
    refine G_callVi C (m_X9_takesClause (((10 : Int32) * p1) + x2) u (d - 1) (by omega)) (d' := d - 1) (As := [.int (((10 : Int32) * p1) + x2)]) (by omega) rfl wm9_314 wwX9_takesClause shM_0 rfl (Nat.le_of_ble_eq_true rfl) dX9_goesText_22 (fun y3 u4 => ?_)
    refine G_if_ne (tgt := 30) C dX9_goesText_25 (by decide) (fun _ => ?_) (fun _ => ?_)
    · refine G_iinc (v := 1) (L' := [(2, .int (x2 + (1 : Int32))), (0, .ref 0), (1, .int p1)]) C 2 dX9_goesText_30 rfl (by decide) (by decide) rfl ?_
      refine G_aload_n C 1 dX9_goesText_33 rfl rfl ?_
      refine G_getR (j := 9) C 18 shM_0 rfl rfl (by decide) wf9_65 dX9_goesText_34 ?_
      refine G_iload_n C 2 dX9_goesText_37 rfl rfl ?_
      refine G_iload_n C 0 dX9_goesText_38 rfl rfl ?_
      refine G_iast C shM_9 dX9_goesText_39 (fun _ u5 => ?_)
      refine G_aload_n C 1 dX9_goesText_40 rfl rfl ?_
      refine G_getI C 15 shM_0 rfl rfl (by decide) wf9_56 dX9_goesText_41 ?_
      refine G_aload_n C 1 dX9_goesText_44 rfl rfl ?_
      refine G_getI C 14 shM_0 rfl rfl (by decide) wf9_53 dX9_goesText_45 ?_
      refine G_icmp_ne (tgt := 53) C dX9_goesText_48 (by decide) (fun _ => ?_) (fun _ => ?_)
      · refine G_iload_n C 0 dX9_goesText_53 rfl rfl ?_
        refine G_bipush (v := 10) C dX9_goesText_54 (by decide) ?_
        refine G_icmp_eq (tgt := 68) C dX9_goesText_56 (by decide) (fun _ => ?_) (fun _ => ?_)
        · refine G_iconst (v := 0) C dX9_goesText_68 (by decide) ?_
          exact G_zret C rfl dX9_goesText_69
        · refine G_aload_n C 1 dX9_goesText_59 rfl rfl ?_
          refine G_bipush (v := 59) C dX9_goesText_60 (by decide) ?_
          refine G_callVi C (m_X9_takes (59 : Int32) u5 (d - 1) (by omega)) (d' := d - 1) (As := [.int (59 : Int32)]) (by omega) rfl wm9_278 wwX9_takes shM_0 rfl (Nat.le_of_ble_eq_true rfl) dX9_goesText_62 (fun y6 u7 => ?_)
          refine G_if_ne (tgt := 15) C dX9_goesText_65 (by decide) (fun _ => ?_) (fun _ => ?_)
          · refine G_locals [1, 2, 0] rfl ?_
            exact ih (x2 + (1 : Int32)) u7
          · refine G_iconst (v := 0) C dX9_goesText_68 (by decide) ?_
            exact G_zret C rfl dX9_goesText_69
      · refine G_iconst (v := 1) C dX9_goesText_51 (by decide) ?_
        exact G_zret C rfl dX9_goesText_52
    · refine G_iconst (v := 0) C dX9_goesText_28 (by decide) ?_
      exact G_zret C rfl dX9_goesText_29
set_option maxRecDepth 20000 in
theorem go_X9_goesText {p : Program} {l : Launch} {e : Env} {s : State} {m : MethodId} {args : Array Value} {below : List Frame} {meth : Method} {c : Code} {as : Nat → Nat} {dA : Nat → ClassId} {D : va_G} {d : Nat} {p1 : Int32} (C : zCx p s m args meth c as dA D SHM d 3 yX9_goesText.cls cX9_goesText ((some FieldType.boolean))) (hd : 7 ≤ d) : ∀ (u : zM), Go p l e s m args below meth c as dA D SHM d 3 zQi 0 [(0, .ref 0), (1, .int p1)] [] u (f_X9_goesText p1 u) := by
  intro u
  unfold f_X9_goesText
  refine G_aload_n C 0 dX9_goesText_0 rfl rfl ?_
  refine G_iconst (v := 0) C dX9_goesText_1 (by decide) ?_
  refine G_putI (ty := .int) C 15 shM_0 rfl rfl (by decide) wf9_56 rfl (by decide +kernel) rfl rfl dX9_goesText_2 (fun u1 => ?_)
  refine G_aload_n C 0 dX9_goesText_5 rfl rfl ?_
  refine G_bipush (v := 100) C dX9_goesText_6 (by decide) ?_
  refine G_iload_n C 1 dX9_goesText_8 rfl rfl ?_
  refine G_imul C dX9_goesText_9 ?_
  refine G_putI (ty := .int) C 25 shM_0 rfl rfl (by decide) wf9_86 rfl (by decide +kernel) rfl rfl dX9_goesText_10 (fun u2 => ?_)
  refine G_iconst (v := 0) C dX9_goesText_13 (by decide) ?_
  refine G_istore_n (L' := [(2, .int (0 : Int32)), (0, .ref 0), (1, .int p1)]) C dX9_goesText_14 rfl (by decide) rfl ?_
  refine G_locals [1, 2, 0] rfl ?_
  exact go_X9_goesText_L15 C hd 400 (0 : Int32) u2
theorem m_X9_goesText   (p1 : Int32) (u : zM) (d : Nat) (hd : 7 ≤ d) : zMet zQi SHM yX9_goesText cX9_goesText 3 ((some FieldType.boolean)) d [.ref 0, .int p1] u (f_X9_goesText p1 u) :=
  zMet_of (by decide +kernel) (fun as => Nat.le_of_ble_eq_true rfl) wwX9_goesText.2.2.2.1 (by omega) (fun p l e s m args below meth c as dA D C => go_X9_goesText C hd u)
/-! public int square() -/
def f_X9_square (u : zM) : Option (Int32 × zM) :=
  (if (gI u 0 12) = (6 : Int32) then some ((-4 : Int32), u) else zb (f_X9_goesText (gI u 0 12) u) fun y1 u2 => zlet (sI u2 0 14 (0 : Int32)) fun u3 => (if y1 = (0 : Int32) then some (((-10 : Int32) - (gI u3 0 15)), u3) else zlet (sI u3 0 13 (gI u3 0 12)) fun u4 => zlet (sI u4 0 12 ((gI u4 0 12) + (1 : Int32))) fun u5 => some ((gI u5 0 13), u5)))
set_option maxRecDepth 20000 in
theorem go_X9_square {p : Program} {l : Launch} {e : Env} {s : State} {m : MethodId} {args : Array Value} {below : List Frame} {meth : Method} {c : Code} {as : Nat → Nat} {dA : Nat → ClassId} {D : va_G} {d : Nat}  (C : zCx p s m args meth c as dA D SHM d 2 yX9_square.cls cX9_square ((some FieldType.int))) (hd : 8 ≤ d) : ∀ (u : zM), Go p l e s m args below meth c as dA D SHM d 2 zQi 0 [(0, .ref 0)] [] u (f_X9_square  u) := by
  intro u
  unfold f_X9_square
  refine G_aload_n C 0 dX9_square_0 rfl rfl ?_
  refine G_getI C 12 shM_0 rfl rfl (by decide) wf9_47 dX9_square_1 ?_
  refine G_bipush (v := 6) C dX9_square_4 (by decide) ?_
  refine G_icmp_ne (tgt := 12) C dX9_square_6 (by decide) (fun _ => ?_) (fun _ => ?_)
  · refine G_aload_n C 0 dX9_square_12 rfl rfl ?_
    refine G_aload_n C 0 dX9_square_13 rfl rfl ?_
    refine G_getI C 12 shM_0 rfl rfl (by decide) wf9_47 dX9_square_14 ?_
    refine G_callVi C (m_X9_goesText (gI u 0 12) u (d - 1) (by omega)) (d' := d - 1) (As := [.int (gI u 0 12)]) (by omega) rfl wm9_317 wwX9_goesText shM_0 rfl (Nat.le_of_ble_eq_true rfl) dX9_square_17 (fun y1 u2 => ?_)
    refine G_istore_n (L' := [(1, .int y1), (0, .ref 0)]) C dX9_square_20 rfl (by decide) rfl ?_
    refine G_aload_n C 1 dX9_square_21 rfl rfl ?_
    refine G_iconst (v := 0) C dX9_square_22 (by decide) ?_
    refine G_putI (ty := .int) C 14 shM_0 rfl rfl (by decide) wf9_53 rfl (by decide +kernel) rfl rfl dX9_square_23 (fun u3 => ?_)
    refine G_iload_n C 0 dX9_square_26 rfl rfl ?_
    refine G_if_ne (tgt := 38) C dX9_square_27 (by decide) (fun _ => ?_) (fun _ => ?_)
    · refine G_aload_n C 1 dX9_square_38 rfl rfl ?_
      refine G_aload_n C 1 dX9_square_39 rfl rfl ?_
      refine G_getI C 12 shM_0 rfl rfl (by decide) wf9_47 dX9_square_40 ?_
      refine G_putI (ty := .int) C 13 shM_0 rfl rfl (by decide) wf9_50 rfl (by decide +kernel) rfl rfl dX9_square_43 (fun u4 => ?_)
      refine G_aload_n C 1 dX9_square_46 rfl rfl ?_
      refine G_dup C dX9_square_47 rfl ?_
      refine G_getI C 12 shM_0 rfl rfl (by decide) wf9_47 dX9_square_48 ?_
      refine G_iconst (v := 1) C dX9_square_51 (by decide) ?_
      refine G_iadd C dX9_square_52 ?_
      refine G_putI (ty := .int) C 12 shM_0 rfl rfl (by decide) wf9_47 rfl (by decide +kernel) rfl rfl dX9_square_53 (fun u5 => ?_)
      refine G_aload_n C 1 dX9_square_56 rfl rfl ?_
      refine G_getI C 13 shM_0 rfl rfl (by decide) wf9_50 dX9_square_57 ?_
      exact G_iret C dX9_square_60
    · refine G_bipush (v := -10) C dX9_square_30 (by decide) ?_
      refine G_aload_n C 1 dX9_square_32 rfl rfl ?_
      refine G_getI C 15 shM_0 rfl rfl (by decide) wf9_56 dX9_square_33 ?_
      refine G_isub C dX9_square_36 ?_
      exact G_iret C dX9_square_37
  · refine G_bipush (v := -4) C dX9_square_9 (by decide) ?_
    exact G_iret C dX9_square_11
theorem m_X9_square    (u : zM) (d : Nat) (hd : 8 ≤ d) : zMet zQi SHM yX9_square cX9_square 2 ((some FieldType.int)) d [.ref 0] u (f_X9_square  u) :=
  zMet_of (by decide +kernel) (fun as => Nat.le_of_ble_eq_true rfl) wwX9_square.2.2.2.1 (by omega) (fun p l e s m args below meth c as dA D C => go_X9_square C hd u)
/-! private int begin() -/
def f_X9_begin (u : zM) : Option (Int32 × zM) :=
  (if (0 : Int32) ≤ (gI u 0 13) then some (((10 : Int32) * (gI u 0 13)), u) else some ((0 : Int32), u))
set_option maxRecDepth 20000 in
theorem go_X9_begin {p : Program} {l : Launch} {e : Env} {s : State} {m : MethodId} {args : Array Value} {below : List Frame} {meth : Method} {c : Code} {as : Nat → Nat} {dA : Nat → ClassId} {D : va_G} {d : Nat}  (C : zCx p s m args meth c as dA D SHM d 1 yX9_begin.cls cX9_begin ((some FieldType.int))) (hd : 1 ≤ d) : ∀ (u : zM), Go p l e s m args below meth c as dA D SHM d 1 zQi 0 [(0, .ref 0)] [] u (f_X9_begin  u) := by
  intro u
  unfold f_X9_begin
  refine G_aload_n C 0 dX9_begin_0 rfl rfl ?_
  refine G_getI C 13 shM_0 rfl rfl (by decide) wf9_50 dX9_begin_1 ?_
  refine G_if_ge (tgt := 11) C dX9_begin_4 (by decide) (fun _ => ?_) (fun _ => ?_)
  · refine G_bipush (v := 10) C dX9_begin_11 (by decide) ?_
    refine G_aload_n C 0 dX9_begin_13 rfl rfl ?_
    refine G_getI C 13 shM_0 rfl rfl (by decide) wf9_50 dX9_begin_14 ?_
    refine G_imul C dX9_begin_17 ?_
    exact G_iret C dX9_begin_18
  · refine G_iconst (v := 0) C dX9_begin_7 (by decide) ?_
    refine G_goto (tgt := 18) C dX9_begin_8 (by decide) ?_
    exact G_iret C dX9_begin_18
theorem m_X9_begin    (u : zM) (d : Nat) (hd : 1 ≤ d) : zMet zQi SHM yX9_begin cX9_begin 1 ((some FieldType.int)) d [.ref 0] u (f_X9_begin  u) :=
  zMet_of (by decide +kernel) (fun as => Nat.le_of_ble_eq_true rfl) wwX9_begin.2.2.2.1 (by omega) (fun p l e s m args below meth c as dA D C => go_X9_begin C hd u)
