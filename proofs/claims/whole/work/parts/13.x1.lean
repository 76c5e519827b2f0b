/-! private static boolean isWithin(int, int, int) -/
def f_X8_isWithin (p0 : Int32) (p1 : Int32) (p2 : Int32) (u : zM) : Option (Int32 × zM) :=
  (if p0 < p1 then some ((0 : Int32), u) else (if p2 < p0 then some ((0 : Int32), u) else some ((1 : Int32), u)))
set_option maxRecDepth 20000 in
theorem go_X8_isWithin {p : Program} {l : Launch} {e : Env} {s : State} {m : MethodId} {args : Array Value} {below : List Frame} {meth : Method} {c : Code} {as : Nat → Nat} {dA : Nat → ClassId} {D : va_G} {d : Nat} {p0 : Int32} {p1 : Int32} {p2 : Int32} (C : zCx p s m args meth c as dA D SHX d 3 yX8_isWithin.cls cX8_isWithin ((some FieldType.boolean))) (hd : 1 ≤ d) : ∀ (u : zM), Go p l e s m args below meth c as dA D SHX d 3 zQi 0 [(0, .int p0), (1, .int p1), (2, .int p2)] [] u (f_X8_isWithin p0 p1 p2 u) := by
  intro u
  unfold f_X8_isWithin
  refine G_iload_n C 0 dX8_isWithin_0 rfl rfl ?_
  refine G_iload_n C 1 dX8_isWithin_1 rfl rfl ?_
  refine G_icmp_lt (tgt := 14) C dX8_isWithin_2 (by decide) (fun _ => ?_) (fun _ => ?_)
  · refine G_iconst (v := 0) C dX8_isWithin_14 (by decide) ?_
    exact G_zret C rfl dX8_isWithin_15
  · refine G_iload_n C 0 dX8_isWithin_5 rfl rfl ?_
    refine G_iload_n C 2 dX8_isWithin_6 rfl rfl ?_
    refine G_icmp_gt (tgt := 14) C dX8_isWithin_7 (by decide) (fun _ => ?_) (fun _ => ?_)
    · refine G_iconst (v := 0) C dX8_isWithin_14 (by decide) ?_
      exact G_zret C rfl dX8_isWithin_15
    · refine G_iconst (v := 1) C dX8_isWithin_10 (by decide) ?_
      refine G_goto (tgt := 15) C dX8_isWithin_11 (by decide) ?_
      exact G_zret C rfl dX8_isWithin_15
theorem m_X8_isWithin   (p0 : Int32) (p1 : Int32) (p2 : Int32) (u : zM) (d : Nat) (hd : 1 ≤ d) : zMet zQi SHX yX8_isWithin cX8_isWithin 3 ((some FieldType.boolean)) d [.int p0, .int p1, .int p2] u (f_X8_isWithin p0 p1 p2 u) :=
  zMet_of (by decide +kernel) (fun as => Nat.le_of_ble_eq_true rfl) wwX8_isWithin.2.2.1 (by omega) (fun p l e s m args below meth c as dA D C => go_X8_isWithin C hd u)
/-! private static int asNumber(boolean) -/
def f_X8_asNumber (p0 : Int32) (u : zM) : Option (Int32 × zM) :=
  (if p0 = (0 : Int32) then some ((0 : Int32), u) else some ((1 : Int32), u))
set_option maxRecDepth 20000 in
theorem go_X8_asNumber {p : Program} {l : Launch} {e : Env} {s : State} {m : MethodId} {args : Array Value} {below : List Frame} {meth : Method} {c : Code} {as : Nat → Nat} {dA : Nat → ClassId} {D : va_G} {d : Nat} {p0 : Int32} (C : zCx p s m args meth c as dA D SHX d 1 yX8_asNumber.cls cX8_asNumber ((some FieldType.int))) (hd : 1 ≤ d) : ∀ (u : zM), Go p l e s m args below meth c as dA D SHX d 1 zQi 0 [(0, .int p0)] [] u (f_X8_asNumber p0 u) := by
  intro u
  unfold f_X8_asNumber
  refine G_iload_n C 0 dX8_asNumber_0 rfl rfl ?_
  refine G_if_eq (tgt := 8) C dX8_asNumber_1 (by decide) (fun _ => ?_) (fun _ => ?_)
  · refine G_iconst (v := 0) C dX8_asNumber_8 (by decide) ?_
    exact G_iret C dX8_asNumber_9
  · refine G_iconst (v := 1) C dX8_asNumber_4 (by decide) ?_
    refine G_goto (tgt := 9) C dX8_asNumber_5 (by decide) ?_
    exact G_iret C dX8_asNumber_9
theorem m_X8_asNumber   (p0 : Int32) (u : zM) (d : Nat) (hd : 1 ≤ d) : zMet zQi SHX yX8_asNumber cX8_asNumber 1 ((some FieldType.int)) d [.int p0] u (f_X8_asNumber p0 u) :=
  zMet_of (by decide +kernel) (fun as => Nat.le_of_ble_eq_true rfl) wwX8_asNumber.2.2.1 (by omega) (fun p l e s m args below meth c as dA D C => go_X8_asNumber C hd u)
/-! private static int orLacks(int) -/
def f_X8_orLacks (p0 : Int32) (u : zM) : Option (Int32 × zM) :=
  (if (0 : Int32) ≤ p0 then some (p0, u) else some ((-5 : Int32), u))
set_option maxRecDepth 20000 in
theorem go_X8_orLacks {p : Program} {l : Launch} {e : Env} {s : State} {m : MethodId} {args : Array Value} {below : List Frame} {meth : Method} {c : Code} {as : Nat → Nat} {dA : Nat → ClassId} {D : va_G} {d : Nat} {p0 : Int32} (C : zCx p s m args meth c as dA D SHX d 1 yX8_orLacks.cls cX8_orLacks ((some FieldType.int))) (hd : 1 ≤ d) : ∀ (u : zM), Go p l e s m args below meth c as dA D SHX d 1 zQi 0 [(0, .int p0)] [] u (f_X8_orLacks p0 u) := by
  intro u
  unfold f_X8_orLacks
  refine G_iload_n C 0 dX8_orLacks_0 rfl rfl ?_
  refine G_if_ge (tgt := 9) C dX8_orLacks_1 (by decide) (fun _ => ?_) (fun _ => ?_)
  · refine G_iload_n C 0 dX8_orLacks_9 rfl rfl ?_
    exact G_iret C dX8_orLacks_10
  · refine G_bipush (v := -5) C dX8_orLacks_4 (by decide) ?_
    refine G_goto (tgt := 10) C dX8_orLacks_6 (by decide) ?_
    exact G_iret C dX8_orLacks_10
theorem m_X8_orLacks   (p0 : Int32) (u : zM) (d : Nat) (hd : 1 ≤ d) : zMet zQi SHX yX8_orLacks cX8_orLacks 1 ((some FieldType.int)) d [.int p0] u (f_X8_orLacks p0 u) :=
  zMet_of (by decide +kernel) (fun as => Nat.le_of_ble_eq_true rfl) wwX8_orLacks.2.2.1 (by omega) (fun p l e s m args below meth c as dA D C => go_X8_orLacks C hd u)
/-! boolean isFull() -/
def f_X3_isFull (t n : Nat) (u : zM) : Option (Int32 × zM) :=
  (if (gI u t 3) < (Int32.ofNat n) then some ((0 : Int32), u) else some ((1 : Int32), u))
set_option maxRecDepth 20000 in
theorem go_X3_isFull {p : Program} {l : Launch} {e : Env} {s : State} {m : MethodId} {args : Array Value} {below : List Frame} {meth : Method} {c : Code} {as : Nat → Nat} {dA : Nat → ClassId} {D : va_G} {d : Nat} {t n : Nat} (C : zCx p s m args meth c as dA D SHX d 1 yX3_isFull.cls cX3_isFull ((some FieldType.boolean))) (hd : 1 ≤ d) (ht : zSn t n) : ∀ (u : zM), Go p l e s m args below meth c as dA D SHX d 1 zQi 0 [(0, .ref t)] [] u (f_X3_isFull t n u) := by
  intro u
  unfold f_X3_isFull
  refine G_aload_n C 0 dX3_isFull_0 rfl rfl ?_
  refine G_getI C 3 ht.1 rfl rfl (by decide) wf3_19 dX3_isFull_1 ?_
  refine G_aload_n C 0 dX3_isFull_4 rfl rfl ?_
  refine G_getR (j := (t + 1)) C 0 ht.1 rfl rfl (by decide) wf3_7 dX3_isFull_5 ?_
  refine G_alen 0 C ht.2.1 rfl rfl rfl dX3_isFull_8 ?_
  refine G_icmp_lt (tgt := 16) C dX3_isFull_9 (by decide) (fun _ => ?_) (fun _ => ?_)
  · refine G_iconst (v := 0) C dX3_isFull_16 (by decide) ?_
    exact G_zret C rfl dX3_isFull_17
  · refine G_iconst (v := 1) C dX3_isFull_12 (by decide) ?_
    refine G_goto (tgt := 17) C dX3_isFull_13 (by decide) ?_
    exact G_zret C rfl dX3_isFull_17
theorem m_X3_isFull {t n : Nat} (ht : zSn t n)  (u : zM) (d : Nat) (hd : 1 ≤ d) : zMet zQi SHX yX3_isFull cX3_isFull 1 ((some FieldType.boolean)) d [.ref t] u (f_X3_isFull t n u) :=
  zMet_of (by decide +kernel) (fun as => Nat.le_of_ble_eq_true rfl) wwX3_isFull.2.2.2.1 (by omega) (fun p l e s m args below meth c as dA D C => go_X3_isFull C hd ht u)
/-! int add(int, int, int) -/
def f_X3_add (t n : Nat) (p1 : Int32) (p2 : Int32) (p3 : Int32) (u : zM) : Option (Int32 × zM) :=
  zb (f_X3_isFull t n u) fun y1 u2 => (if y1 = (0 : Int32) then zck (inB (gI u2 t 3) n) <| zlet (sI u2 (t + 1) (gI u2 t 3).toNatClampNeg p1) fun u3 => zck (inB (gI u3 t 3) n) <| zlet (sI u3 (t + 2) (gI u3 t 3).toNatClampNeg p2) fun u4 => zck (inB (gI u4 t 3) n) <| zlet (sI u4 (t + 3) (gI u4 t 3).toNatClampNeg p3) fun u5 => zlet (sI u5 t 3 ((gI u5 t 3) + (1 : Int32))) fun u6 => some ((gI u6 t 3), u6) else some ((gI u2 t 3), u2))
set_option maxRecDepth 20000 in
theorem go_X3_add {p : Program} {l : Launch} {e : Env} {s : State} {m : MethodId} {args : Array Value} {below : List Frame} {meth : Method} {c : Code} {as : Nat → Nat} {dA : Nat → ClassId} {D : va_G} {d : Nat} {t n : Nat} {p1 : Int32} {p2 : Int32} {p3 : Int32} (C : zCx p s m args meth c as dA D SHX d 4 yX3_add.cls cX3_add ((some FieldType.int))) (hd : 2 ≤ d) (ht : zSn t n) : ∀ (u : zM), Go p l e s m args below meth c as dA D SHX d 4 zQi 0 [(0, .ref t), (1, .int p1), (2, .int p2), (3, .int p3)] [] u (f_X3_add t n p1 p2 p3 u) := by
  intro u
  unfold f_X3_add
  refine G_aload_n C 0 dX3_add_0 rfl rfl ?_
  refine G_callVi C (m_X3_isFull ht u (d - 1) (by omega)) (d' := d - 1) (As := []) (by omega) rfl wm3_23 wwX3_isFull ht.1 rfl (Nat.le_of_ble_eq_true rfl) dX3_add_1 (fun y1 u2 => ?_)
  refine G_if_ne (tgt := 47) C dX3_add_4 (by decide) (fun _ => ?_) (fun _ => ?_)
  · refine G_aload_n C 0 dX3_add_47 rfl rfl ?_
    refine G_getI C 3 ht.1 rfl rfl (by decide) wf3_19 dX3_add_48 ?_
    exact G_iret C dX3_add_51
  · refine G_aload_n C 0 dX3_add_7 rfl rfl ?_
    refine G_getR (j := (t + 1)) C 0 ht.1 rfl rfl (by decide) wf3_7 dX3_add_8 ?_
    refine G_aload_n C 0 dX3_add_11 rfl rfl ?_
    refine G_getI C 3 ht.1 rfl rfl (by decide) wf3_19 dX3_add_12 ?_
    refine G_iload_n C 1 dX3_add_15 rfl rfl ?_
    refine G_iast C ht.2.1 dX3_add_16 (fun _ u3 => ?_)
    refine G_aload_n C 0 dX3_add_17 rfl rfl ?_
    refine G_getR (j := (t + 2)) C 1 ht.1 rfl rfl (by decide) wf3_13 dX3_add_18 ?_
    refine G_aload_n C 0 dX3_add_21 rfl rfl ?_
    refine G_getI C 3 ht.1 rfl rfl (by decide) wf3_19 dX3_add_22 ?_
    refine G_iload_n C 2 dX3_add_25 rfl rfl ?_
    refine G_iast C ht.2.2.1 dX3_add_26 (fun _ u4 => ?_)
    refine G_aload_n C 0 dX3_add_27 rfl rfl ?_
    refine G_getR (j := (t + 3)) C 2 ht.1 rfl rfl (by decide) wf3_16 dX3_add_28 ?_
    refine G_aload_n C 0 dX3_add_31 rfl rfl ?_
    refine G_getI C 3 ht.1 rfl rfl (by decide) wf3_19 dX3_add_32 ?_
    refine G_iload_n C 3 dX3_add_35 rfl rfl ?_
    refine G_iast C ht.2.2.2 dX3_add_36 (fun _ u5 => ?_)
    refine G_aload_n C 0 dX3_add_37 rfl rfl ?_
    refine G_dup C dX3_add_38 rfl ?_
    refine G_getI C 3 ht.1 rfl rfl (by decide) wf3_19 dX3_add_39 ?_
    refine G_iconst (v := 1) C dX3_add_42 (by decide) ?_
    refine G_iadd C dX3_add_43 ?_
    refine G_putI (ty := .int) C 3 ht.1 rfl rfl (by decide) wf3_19 rfl (by decide +kernel) rfl rfl dX3_add_44 (fun u6 => ?_)
    refine G_aload_n C 0 dX3_add_47 rfl rfl ?_
    refine G_getI C 3 ht.1 rfl rfl (by decide) wf3_19 dX3_add_48 ?_
    exact G_iret C dX3_add_51
theorem m_X3_add {t n : Nat} (ht : zSn t n) (p1 : Int32) (p2 : Int32) (p3 : Int32) (u : zM) (d : Nat) (hd : 2 ≤ d) : zMet zQi SHX yX3_add cX3_add 4 ((some FieldType.int)) d [.ref t, .int p1, .int p2, .int p3] u (f_X3_add t n p1 p2 p3 u) :=
  zMet_of (by decide +kernel) (fun as => Nat.le_of_ble_eq_true rfl) wwX3_add.2.2.2.1 (by omega) (fun p l e s m args below meth c as dA D C => go_X3_add C hd ht u)
/-! int empty() -/
def f_X3_empty (t n : Nat) (u : zM) : Option (Int32 × zM) :=
  zlet (sI u t 3 (0 : Int32)) fun u1 => some ((gI u1 t 3), u1)
set_option maxRecDepth 20000 in
theorem go_X3_empty {p : Program} {l : Launch} {e : Env} {s : State} {m : MethodId} {args : Array Value} {below : List Frame} {meth : Method} {c : Code} {as : Nat → Nat} {dA : Nat → ClassId} {D : va_G} {d : Nat} {t n : Nat} (C : zCx p s m args meth c as dA D SHX d 1 yX3_empty.cls cX3_empty ((some FieldType.int))) (hd : 1 ≤ d) (ht : zSn t n) : ∀ (u : zM), Go p l e s m args below meth c as dA D SHX d 1 zQi 0 [(0, .ref t)] [] u (f_X3_empty t n u) := by
  intro u
  unfold f_X3_empty
  refine G_aload_n C 0 dX3_empty_0 rfl rfl ?_
  refine G_iconst (v := 0) C dX3_empty_1 (by decide) ?_
  refine G_putI (ty := .int) C 3 ht.1 rfl rfl (by decide) wf3_19 rfl (by decide +kernel) rfl rfl dX3_empty_2 (fun u1 => ?_)
  refine G_aload_n C 0 dX3_empty_5 rfl rfl ?_
  refine G_getI C 3 ht.1 rfl rfl (by decide) wf3_19 dX3_empty_6 ?_
  exact G_iret C dX3_empty_9
theorem m_X3_empty {t n : Nat} (ht : zSn t n)  (u : zM) (d : Nat) (hd : 1 ≤ d) : zMet zQi SHX yX3_empty cX3_empty 1 ((some FieldType.int)) d [.ref t] u (f_X3_empty t n u) :=
  zMet_of (by decide +kernel) (fun as => Nat.le_of_ble_eq_true rfl) wwX3_empty.2.2.2.1 (by omega) (fun p l e s m args below meth c as dA D C => go_X3_empty C hd ht u)
/-! void become(StruckWhile$Sheet) -/
def f_X3_become_L10_b (t n : Nat) (o : Nat) (rc : Int32 → zM → Option (Unit × zM)) (x2 : Int32) (u : zM) : Option (Unit × zM) :=
  (if (gI u t 3) ≤ x2 then some ((), u) else (if (Int32.ofNat n) ≤ x2 then some ((), u) else zck (inB x2 n) <| zck (inB x2 n) <| zlet (sI u (t + 1) x2.toNatClampNeg (gI u (o + 1) x2.toNatClampNeg)) fun u3 => zck (inB x2 n) <| zck (inB x2 n) <| zlet (sI u3 (t + 2) x2.toNatClampNeg (gI u3 (o + 2) x2.toNatClampNeg)) fun u5 => zck (inB x2 n) <| zck (inB x2 n) <| zlet (sI u5 (t + 3) x2.toNatClampNeg (gI u5 (o + 3) x2.toNatClampNeg)) fun u7 => rc (x2 + (1 : Int32)) u7))
def f_X3_become_L10 (t n : Nat) (o : Nat) : Nat → Int32 → zM → Option (Unit × zM)
  | 0 => fun _ _ => none
  | fn + 1 => f_X3_become_L10_b t n o (f_X3_become_L10 t n o fn)
def f_X3_become (t n : Nat) (o : Nat) (u : zM) : Option (Unit × zM) :=
  zlet (sI u t 3 (gI u o 3)) fun u1 => f_X3_become_L10 t n o 400 (0 : Int32) u1
set_option maxRecDepth 20000 in
theorem go_X3_become_L10 {p : Program} {l : Launch} {e : Env} {s : State} {m : MethodId} {args : Array Value} {below : List Frame} {meth : Method} {c : Code} {as : Nat → Nat} {dA : Nat → ClassId} {D : va_G} {d : Nat} {t n : Nat} {o : Nat} (C : zCx p s m args meth c as dA D SHX d 3 yX3_become.cls cX3_become (none)) (hd : 1 ≤ d) (ht : zSn t n) (ho : zSn o n) : ∀ (fn : Nat) (x2 : Int32) (u : zM), Go p l e s m args below meth c as dA D SHX d 3 zQv 10 [(0, .ref t), (1, .ref o), (2, .int x2)] [] u (f_X3_become_L10 t n o fn x2 u) := by
  intro fn
  induction fn with
  | zero => intro x2 u; exact G_none
  | succ fn ih =>
    intro x2 u
    show Go p l e s m args below meth c as dA D SHX d 3 zQv 10 [(0, .ref t), (1, .ref o), (2, .int x2)] [] u (f_X3_become_L10_b t n o (f_X3_become_L10 t n o fn) x2 u)
    unfold f_X3_become_L10_b
    refine G_iload_n C 2 dX3_become_10 rfl rfl ?_
    refine G_aload_n C 0 dX3_become_11 rfl rfl ?_
    refine G_getI C 3 ht.1 rfl rfl (by decide) wf3_19 dX3_become_12 ?_
    refine G_icmp_ge (tgt := 69) C dX3_become_15 (by decide) (fun _ => ?_) (fun _ => ?_)
    · exact G_vret C dX3_become_69
    · refine G_iload_n C 2 dX3_become_18 rfl rfl ?_
      refine G_aload_n C 0 dX3_become_19 rfl rfl ?_
      refine G_getR (j := (t + 1)) C 0 ht.1 rfl rfl (by decide) wf3_7 dX3_become_20 ?_
      refine G_alen 0 C ht.2.1 rfl rfl rfl dX3_become_23 ?_
      refine G_icmp_ge (tgt := 69) C dX3_become_24 (by decide) (fun _ => ?_) (fun _ => ?_)
      · exact G_vret C dX3_become_69
      · refine G_aload_n C 0 dX3_become_27 rfl rfl ?_
        refine G_getR (j := (t + 1)) C 0 ht.1 rfl rfl (by decide) wf3_7 dX3_become_28 ?_
        refine G_iload_n C 2 dX3_become_31 rfl rfl ?_
        refine G_aload_n C 1 dX3_become_32 rfl rfl ?_
        refine G_getR (j := (o + 1)) C 0 ho.1 rfl rfl (by decide) wf3_7 dX3_become_33 ?_
        refine G_iload_n C 2 dX3_become_36 rfl rfl ?_
        refine G_iald C ho.2.1 dX3_become_37 (fun hb2 => ?_)
        refine G_iast C ht.2.1 dX3_become_38 (fun _ u3 => ?_)
        refine G_aload_n C 0 dX3_become_39 rfl rfl ?_
        refine G_getR (j := (t + 2)) C 1 ht.1 rfl rfl (by decide) wf3_13 dX3_become_40 ?_
        refine G_iload_n C 2 dX3_become_43 rfl rfl ?_
        refine G_aload_n C 1 dX3_become_44 rfl rfl ?_
        refine G_getR (j := (o + 2)) C 1 ho.1 rfl rfl (by decide) wf3_13 dX3_become_45 ?_
        refine G_iload_n C 2 dX3_become_48 rfl rfl ?_
        refine G_iald C ho.2.2.1 dX3_become_49 (fun hb4 => ?_)
        refine G_iast C ht.2.2.1 dX3_become_50 (fun _ u5 => ?_)
        refine G_aload_n C 0 dX3_become_51 rfl rfl ?_
        refine G_getR (j := (t + 3)) C 2 ht.1 rfl rfl (by decide) wf3_16 dX3_become_52 ?_
        refine G_iload_n C 2 dX3_become_55 rfl rfl ?_
        refine G_aload_n C 1 dX3_become_56 rfl rfl ?_
        refine G_getR (j := (o + 3)) C 2 ho.1 rfl rfl (by decide) wf3_16 dX3_become_57 ?_
        refine G_iload_n C 2 dX3_become_60 rfl rfl ?_
        refine G_iald C ho.2.2.2 dX3_become_61 (fun hb6 => ?_)
        refine G_iast C ht.2.2.2 dX3_become_62 (fun _ u7 => ?_)
        refine G_iinc (v := 1) (L' := [(2, .int (x2 + (1 : Int32))), (0, .ref t), (1, .ref o)]) C 2 dX3_become_63 rfl (by decide) (by decide) rfl ?_
        refine G_goto (tgt := 10) C dX3_become_66 (by decide) ?_
        refine G_locals [1, 2, 0] rfl ?_
        exact ih (x2 + (1 : Int32)) u7
set_option maxRecDepth 20000 in
theorem go_X3_become {p : Program} {l : Launch} {e : Env} {s : State} {m : MethodId} {args : Array Value} {below : List Frame} {meth : Method} {c : Code} {as : Nat → Nat} {dA : Nat → ClassId} {D : va_G} {d : Nat} {t n : Nat} {o : Nat} (C : zCx p s m args meth c as dA D SHX d 3 yX3_become.cls cX3_become (none)) (hd : 1 ≤ d) (ht : zSn t n) (ho : zSn o n) : ∀ (u : zM), Go p l e s m args below meth c as dA D SHX d 3 zQv 0 [(0, .ref t), (1, .ref o)] [] u (f_X3_become t n o u) := by
  intro u
  unfold f_X3_become
  refine G_aload_n C 0 dX3_become_0 rfl rfl ?_
  refine G_aload_n C 1 dX3_become_1 rfl rfl ?_
  refine G_getI C 3 ho.1 rfl rfl (by decide) wf3_19 dX3_become_2 ?_
  refine G_putI (ty := .int) C 3 ht.1 rfl rfl (by decide) wf3_19 rfl (by decide +kernel) rfl rfl dX3_become_5 (fun u1 => ?_)
  refine G_iconst (v := 0) C dX3_become_8 (by decide) ?_
  refine G_istore_n (L' := [(2, .int (0 : Int32)), (0, .ref t), (1, .ref o)]) C dX3_become_9 rfl (by decide) rfl ?_
  refine G_locals [1, 2, 0] rfl ?_
  exact go_X3_become_L10 C hd ht ho 400 (0 : Int32) u1
theorem m_X3_become {t n : Nat} {o : Nat} (ht : zSn t n) (ho : zSn o n)  (u : zM) (d : Nat) (hd : 1 ≤ d) : zMet zQv SHX yX3_become cX3_become 3 (none) d [.ref t, .ref o] u (f_X3_become t n o u) :=
  zMet_of (by decide +kernel) (fun as => Nat.le_of_ble_eq_true rfl) wwX3_become.2.2.2.1 (by omega) (fun p l e s m args below meth c as dA D C => go_X3_become C hd ht ho u)
/-! void empty() -/
def f_X4_empty (t : Nat) (u : zM) : Option (Unit × zM) :=
  zlet (sI u t 0 (80 : Int32)) fun u1 => zlet (sI u1 t 2 (0 : Int32)) fun u2 => zlet (sI u2 t 4 (0 : Int32)) fun u3 => some ((), u3)
set_option maxRecDepth 20000 in
theorem go_X4_empty {p : Program} {l : Launch} {e : Env} {s : State} {m : MethodId} {args : Array Value} {below : List Frame} {meth : Method} {c : Code} {as : Nat → Nat} {dA : Nat → ClassId} {D : va_G} {d : Nat} {t : Nat} (C : zCx p s m args meth c as dA D SHX d 1 yX4_empty.cls cX4_empty (none)) (hd : 1 ≤ d) (ht : zSq t) : ∀ (u : zM), Go p l e s m args below meth c as dA D SHX d 1 zQv 0 [(0, .ref t)] [] u (f_X4_empty t u) := by
  intro u
  unfold f_X4_empty
  refine G_aload_n C 0 dX4_empty_0 rfl rfl ?_
  refine G_bipush (v := 80) C dX4_empty_1 (by decide) ?_
  refine G_putI (ty := .int) C 0 ht.1 rfl rfl (by decide) wf4_9 rfl (by decide +kernel) rfl rfl dX4_empty_3 (fun u1 => ?_)
  refine G_aload_n C 0 dX4_empty_6 rfl rfl ?_
  refine G_iconst (v := 0) C dX4_empty_7 (by decide) ?_
  refine G_putI (ty := .int) C 2 ht.1 rfl rfl (by decide) wf4_22 rfl (by decide +kernel) rfl rfl dX4_empty_8 (fun u2 => ?_)
  refine G_aload_n C 0 dX4_empty_11 rfl rfl ?_
  refine G_iconst (v := 0) C dX4_empty_12 (by decide) ?_
  refine G_putI (ty := .int) C 4 ht.1 rfl rfl (by decide) wf4_25 rfl (by decide +kernel) rfl rfl dX4_empty_13 (fun u3 => ?_)
  exact G_vret C dX4_empty_16
theorem m_X4_empty {t : Nat} (ht : zSq t)  (u : zM) (d : Nat) (hd : 1 ≤ d) : zMet zQv SHX yX4_empty cX4_empty 1 (none) d [.ref t] u (f_X4_empty t u) :=
  zMet_of (by decide +kernel) (fun as => Nat.le_of_ble_eq_true rfl) wwX4_empty.2.2.2.1 (by omega) (fun p l e s m args below meth c as dA D C => go_X4_empty C hd ht u)
/-! void addStep(int) -/
def f_X4_addStep (t : Nat) (p1 : Int32) (u : zM) : Option (Unit × zM) :=
  (if (100 : Int32) ≤ (gI u t 2) then some ((), u) else zck (inB (gI u t 2) 100) <| zlet (sI u (t + 1) (gI u t 2).toNatClampNeg p1) fun u1 => zlet (sI u1 t 2 ((gI u1 t 2) + (1 : Int32))) fun u2 => some ((), u2))
set_option maxRecDepth 20000 in
theorem go_X4_addStep {p : Program} {l : Launch} {e : Env} {s : State} {m : MethodId} {args : Array Value} {below : List Frame} {meth : Method} {c : Code} {as : Nat → Nat} {dA : Nat → ClassId} {D : va_G} {d : Nat} {t : Nat} {p1 : Int32} (C : zCx p s m args meth c as dA D SHX d 2 yX4_addStep.cls cX4_addStep (none)) (hd : 1 ≤ d) (ht : zSq t) : ∀ (u : zM), Go p l e s m args below meth c as dA D SHX d 2 zQv 0 [(0, .ref t), (1, .int p1)] [] u (f_X4_addStep t p1 u) := by
  intro u
  unfold f_X4_addStep
  refine G_aload_n C 0 dX4_addStep_0 rfl rfl ?_
  refine G_getI C 2 ht.1 rfl rfl (by decide) wf4_22 dX4_addStep_1 ?_
  refine G_aload_n C 0 dX4_addStep_4 rfl rfl ?_
  refine G_getR (j := (t + 1)) C 1 ht.1 rfl rfl (by decide) wf4_15 dX4_addStep_5 ?_
  refine G_alen (v := 100) 0 C ht.2.1 rfl rfl (by decide) dX4_addStep_8 ?_
  refine G_icmp_ge (tgt := 32) C dX4_addStep_9 (by decide) (fun _ => ?_) (fun _ => ?_)
  · exact G_vret C dX4_addStep_32
  · refine G_aload_n C 0 dX4_addStep_12 rfl rfl ?_
    refine G_getR (j := (t + 1)) C 1 ht.1 rfl rfl (by decide) wf4_15 dX4_addStep_13 ?_
    refine G_aload_n C 0 dX4_addStep_16 rfl rfl ?_
    refine G_getI C 2 ht.1 rfl rfl (by decide) wf4_22 dX4_addStep_17 ?_
    refine G_iload_n C 1 dX4_addStep_20 rfl rfl ?_
    refine G_iast C ht.2.1 dX4_addStep_21 (fun _ u1 => ?_)
    refine G_aload_n C 0 dX4_addStep_22 rfl rfl ?_
    refine G_dup C dX4_addStep_23 rfl ?_
    refine G_getI C 2 ht.1 rfl rfl (by decide) wf4_22 dX4_addStep_24 ?_
    refine G_iconst (v := 1) C dX4_addStep_27 (by decide) ?_
    refine G_iadd C dX4_addStep_28 ?_
    refine G_putI (ty := .int) C 2 ht.1 rfl rfl (by decide) wf4_22 rfl (by decide +kernel) rfl rfl dX4_addStep_29 (fun u2 => ?_)
    exact G_vret C dX4_addStep_32
theorem m_X4_addStep {t : Nat} (ht : zSq t) (p1 : Int32) (u : zM) (d : Nat) (hd : 1 ≤ d) : zMet zQv SHX yX4_addStep cX4_addStep 2 (none) d [.ref t, .int p1] u (f_X4_addStep t p1 u) :=
  zMet_of (by decide +kernel) (fun as => Nat.le_of_ble_eq_true rfl) wwX4_addStep.2.2.2.1 (by omega) (fun p l e s m args below meth c as dA D C => go_X4_addStep C hd ht u)
/-! void addTest(int, int, int) -/
def f_X4_addTest (t : Nat) (p1 : Int32) (p2 : Int32) (p3 : Int32) (u : zM) : Option (Unit × zM) :=
  zb (f_X4_addStep t (((p3 <<< ((5 : Int32) &&& 31)) ||| (p2 <<< ((3 : Int32) &&& 31))) ||| p1) u) fun _ u2 => some ((), u2)
set_option maxRecDepth 20000 in
theorem go_X4_addTest {p : Program} {l : Launch} {e : Env} {s : State} {m : MethodId} {args : Array Value} {below : List Frame} {meth : Method} {c : Code} {as : Nat → Nat} {dA : Nat → ClassId} {D : va_G} {d : Nat} {t : Nat} {p1 : Int32} {p2 : Int32} {p3 : Int32} (C : zCx p s m args meth c as dA D SHX d 4 yX4_addTest.cls cX4_addTest (none)) (hd : 2 ≤ d) (ht : zSq t) : ∀ (u : zM), Go p l e s m args below meth c as dA D SHX d 4 zQv 0 [(0, .ref t), (1, .int p1), (2, .int p2), (3, .int p3)] [] u (f_X4_addTest t p1 p2 p3 u) := by
  intro u
  unfold f_X4_addTest
  refine G_aload_n C 0 dX4_addTest_0 rfl rfl ?_
  refine G_iload_n C 3 dX4_addTest_1 rfl rfl ?_
  refine G_iconst (v := 5) C dX4_addTest_2 (by decide) ?_
  refine G_ishl C dX4_addTest_3 ?_
  refine G_iload_n C 2 dX4_addTest_4 rfl rfl ?_
  refine G_iconst (v := 3) C dX4_addTest_5 (by decide) ?_
  refine G_ishl C dX4_addTest_6 ?_
  refine G_ior C dX4_addTest_7 ?_
  refine G_iload_n C 1 dX4_addTest_8 rfl rfl ?_
  refine G_ior C dX4_addTest_9 ?_
  refine G_callVv C (m_X4_addStep ht (((p3 <<< ((5 : Int32) &&& 31)) ||| (p2 <<< ((3 : Int32) &&& 31))) ||| p1) u (d - 1) (by omega)) (d' := d - 1) (As := [.int (((p3 <<< ((5 : Int32) &&& 31)) ||| (p2 <<< ((3 : Int32) &&& 31))) ||| p1)]) (by omega) rfl wm4_28 wwX4_addStep ht.1 rfl (Nat.le_of_ble_eq_true rfl) dX4_addTest_10 (fun y1 u2 => ?_)
  exact G_vret C dX4_addTest_13
theorem m_X4_addTest {t : Nat} (ht : zSq t) (p1 : Int32) (p2 : Int32) (p3 : Int32) (u : zM) (d : Nat) (hd : 2 ≤ d) : zMet zQv SHX yX4_addTest cX4_addTest 4 (none) d [.ref t, .int p1, .int p2, .int p3] u (f_X4_addTest t p1 p2 p3 u) :=
  zMet_of (by decide +kernel) (fun as => Nat.le_of_ble_eq_true rfl) wwX4_addTest.2.2.2.1 (by omega) (fun p l e s m args below meth c as dA D C => go_X4_addTest C hd ht u)
/-! void addClause(int) -/
def f_X4_addClause (t : Nat) (p1 : Int32) (u : zM) : Option (Unit × zM) :=
  (if (10 : Int32) ≤ (gI u t 4) then some ((), u) else zck (inB (gI u t 4) 10) <| zlet (sI u (t + 2) (gI u t 4).toNatClampNeg p1) fun u1 => zlet (sI u1 t 4 ((gI u1 t 4) + (1 : Int32))) fun u2 => zb (f_X4_addStep t (-4 : Int32) u2) fun _ u4 => some ((), u4))
set_option maxRecDepth 20000 in
theorem go_X4_addClause {p : Program} {l : Launch} {e : Env} {s : State} {m : MethodId} {args : Array Value} {below : List Frame} {meth : Method} {c : Code} {as : Nat → Nat} {dA : Nat → ClassId} {D : va_G} {d : Nat} {t : Nat} {p1 : Int32} (C : zCx p s m args meth c as dA D SHX d 2 yX4_addClause.cls cX4_addClause (none)) (hd : 2 ≤ d) (ht : zSq t) : ∀ (u : zM), Go p l e s m args below meth c as dA D SHX d 2 zQv 0 [(0, .ref t), (1, .int p1)] [] u (f_X4_addClause t p1 u) := by
  intro u
  unfold f_X4_addClause
  refine G_aload_n C 0 dX4_addClause_0 rfl rfl ?_
  refine G_getI C 4 ht.1 rfl rfl (by decide) wf4_25 dX4_addClause_1 ?_
  refine G_aload_n C 0 dX4_addClause_4 rfl rfl ?_
  refine G_getR (j := (t + 2)) C 3 ht.1 rfl rfl (by decide) wf4_19 dX4_addClause_5 ?_
  refine G_alen (v := 10) 0 C ht.2.2 rfl rfl (by decide) dX4_addClause_8 ?_
  refine G_icmp_ge (tgt := 38) C dX4_addClause_9 (by decide) (fun _ => ?_) (fun _ => ?_)
  · exact G_vret C dX4_addClause_38
  · refine G_aload_n C 0 dX4_addClause_12 rfl rfl ?_
    refine G_getR (j := (t + 2)) C 3 ht.1 rfl rfl (by decide) wf4_19 dX4_addClause_13 ?_
    refine G_aload_n C 0 dX4_addClause_16 rfl rfl ?_
    refine G_getI C 4 ht.1 rfl rfl (by decide) wf4_25 dX4_addClause_17 ?_
    refine G_iload_n C 1 dX4_addClause_20 rfl rfl ?_
    refine G_iast C ht.2.2 dX4_addClause_21 (fun _ u1 => ?_)
    refine G_aload_n C 0 dX4_addClause_22 rfl rfl ?_
    refine G_dup C dX4_addClause_23 rfl ?_
    refine G_getI C 4 ht.1 rfl rfl (by decide) wf4_25 dX4_addClause_24 ?_
    refine G_iconst (v := 1) C dX4_addClause_27 (by decide) ?_
    refine G_iadd C dX4_addClause_28 ?_
    refine G_putI (ty := .int) C 4 ht.1 rfl rfl (by decide) wf4_25 rfl (by decide +kernel) rfl rfl dX4_addClause_29 (fun u2 => ?_)
    refine G_aload_n C 0 dX4_addClause_32 rfl rfl ?_
    refine G_bipush (v := -4) C dX4_addClause_33 (by decide) ?_
    refine G_callVv C (m_X4_addStep ht (-4 : Int32) u2 (d - 1) (by omega)) (d' := d - 1) (As := [.int (-4 : Int32)]) (by omega) rfl wm4_28 wwX4_addStep ht.1 rfl (Nat.le_of_ble_eq_true rfl) dX4_addClause_35 (fun y3 u4 => ?_)
    exact G_vret C dX4_addClause_38
theorem m_X4_addClause {t : Nat} (ht : zSq t) (p1 : Int32) (u : zM) (d : Nat) (hd : 2 ≤ d) : zMet zQv SHX yX4_addClause cX4_addClause 2 (none) d [.ref t, .int p1] u (f_X4_addClause t p1 u) :=
  zMet_of (by decide +kernel) (fun as => Nat.le_of_ble_eq_true rfl) wwX4_addClause.2.2.2.1 (by omega) (fun p l e s m args below meth c as dA D C => go_X4_addClause C hd ht u)
/-! private static int test(int, int) -/
def f_X4_test (p0 : Int32) (p1 : Int32) (u : zM) : Option (Int32 × zM) :=
  zlx (p0 >>> ((5 : Int32) &&& 31)) fun v1 => zlx ((p0 >>> ((3 : Int32) &&& 31)) &&& (3 : Int32)) fun v2 => (if v2 = (0 : Int32) then (if v1 ≤ p1 then some ((0 : Int32), u) else some ((1 : Int32), u)) else if v2 = (1 : Int32) then (if p1 = v1 then some ((1 : Int32), u) else some ((0 : Int32), u)) else (if p1 ≤ v1 then some ((0 : Int32), u) else some ((1 : Int32), u)))
set_option maxRecDepth 20000 in
theorem go_X4_test {p : Program} {l : Launch} {e : Env} {s : State} {m : MethodId} {args : Array Value} {below : List Frame} {meth : Method} {c : Code} {as : Nat → Nat} {dA : Nat → ClassId} {D : va_G} {d : Nat} {p0 : Int32} {p1 : Int32} (C : zCx p s m args meth c as dA D SHX d 3 yX4_test.cls cX4_test ((some FieldType.int))) (hd : 1 ≤ d) : ∀ (u : zM), Go p l e s m args below meth c as dA D SHX d 3 zQi 0 [(0, .int p0), (1, .int p1)] [] u (f_X4_test p0 p1 u) := by
  intro u
  unfold f_X4_test
  refine G_iload_n C 0 dX4_test_0 rfl rfl ?_
  refine G_iconst (v := 5) C dX4_test_1 (by decide) ?_
  refine G_ishr C dX4_test_2 ?_
  refine G_topi (fun v1 => ?_)
  refine G_istore_n (L' := [(2, .int v1), (0, .int p0), (1, .int p1)]) C dX4_test_3 rfl (by decide) rfl ?_
  refine G_iload_n C 1 dX4_test_4 rfl rfl ?_
  refine G_iconst (v := 3) C dX4_test_5 (by decide) ?_
  refine G_ishr C dX4_test_6 ?_
  refine G_iconst (v := 3) C dX4_test_7 (by decide) ?_
  refine G_iand C dX4_test_8 ?_
  refine G_topi (fun v2 => ?_)
  refine G_if (fun h3 => ?_) (fun h3 => ?_)
  · refine G_lsw (off := 27) (tgt := 36) C dX4_test_9 (by decide) (by rw [h3]; rfl) (by decide) ?_
    refine G_iload_n C 2 dX4_test_36 rfl rfl ?_
    refine G_iload_n C 0 dX4_test_37 rfl rfl ?_
    refine G_icmp_ge (tgt := 45) C dX4_test_38 (by decide) (fun _ => ?_) (fun _ => ?_)
    · refine G_iconst (v := 0) C dX4_test_45 (by decide) ?_
      exact G_iret C dX4_test_46
    · refine G_iconst (v := 1) C dX4_test_41 (by decide) ?_
      refine G_goto (tgt := 46) C dX4_test_42 (by decide) ?_
      exact G_iret C dX4_test_46
  · refine G_if (fun h4 => ?_) (fun h4 => ?_)
    · refine G_lsw (off := 38) (tgt := 47) C dX4_test_9 (by decide) (by rw [h4]; rfl) (by decide) ?_
      refine G_iload_n C 2 dX4_test_47 rfl rfl ?_
      refine G_iload_n C 0 dX4_test_48 rfl rfl ?_
      refine G_icmp_ne (tgt := 56) C dX4_test_49 (by decide) (fun _ => ?_) (fun _ => ?_)
      · refine G_iconst (v := 0) C dX4_test_56 (by decide) ?_
        exact G_iret C dX4_test_57
      · refine G_iconst (v := 1) C dX4_test_52 (by decide) ?_
        refine G_goto (tgt := 57) C dX4_test_53 (by decide) ?_
        exact G_iret C dX4_test_57
    · refine G_lsw (off := 49) (tgt := 58) C dX4_test_9 (by decide) ((lv_osw h3 rfl).trans ((lv_osw h4 rfl).trans (rfl))) (by decide) ?_
      refine G_iload_n C 2 dX4_test_58 rfl rfl ?_
      refine G_iload_n C 0 dX4_test_59 rfl rfl ?_
      refine G_icmp_le (tgt := 67) C dX4_test_60 (by decide) (fun _ => ?_) (fun _ => ?_)
      · refine G_iconst (v := 0) C dX4_test_67 (by decide) ?_
        exact G_iret C dX4_test_68
      · refine G_iconst (v := 1) C dX4_test_63 (by decide) ?_
        refine G_goto (tgt := 68) C dX4_test_64 (by decide) ?_
        exact G_iret C dX4_test_68
theorem m_X4_test   (p0 : Int32) (p1 : Int32) (u : zM) (d : Nat) (hd : 1 ≤ d) : zMet zQi SHX yX4_test cX4_test 3 ((some FieldType.int)) d [.int p0, .int p1] u (f_X4_test p0 p1 u) :=
  zMet_of (by decide +kernel) (fun as => Nat.le_of_ble_eq_true rfl) wwX4_test.2.2.1 (by omega) (fun p l e s m args below meth c as dA D C => go_X4_test C hd u)
/-! int sum(int[]) -/
def f_X4_sum_L10_b (t : Nat) (o : Nat) (rc : Int32 → Int32 → Int32 → Int32 → zM → Option (Int32 × zM)) (x2 : Int32) (x3 : Int32) (x4 : Int32) (x5 : Int32) (u : zM) : Option (Int32 × zM) :=
  (if (gI u t 2) ≤ x5 then some (x2, u) else zck (inB x5 100) <| zlx (gI u (t + 1) x5.toNatClampNeg) fun v2 => zlx (x4 &&& (1 : Int32)) fun v3 => (if v2 < (0 : Int32) then (if v2 = (-1 : Int32) then zlx (x4 ^^^ (1 : Int32)) fun v9 => rc x2 x3 v9 (x5 + (1 : Int32)) u else (if v2 = (-2 : Int32) then zlx ((x4 >>> ((1 : Int32) &&& 31)) &&& (v3 ||| (-2 : Int32))) fun v8 => rc x2 x3 v8 (x5 + (1 : Int32)) u else (if v2 = (-3 : Int32) then zlx ((x4 >>> ((1 : Int32) &&& 31)) ||| v3) fun v7 => rc x2 x3 v7 (x5 + (1 : Int32)) u else (if (gI u t 4) ≤ x3 then rc x2 x3 x4 (x5 + (1 : Int32)) u else (if v3 = (1 : Int32) then zck (inB x3 10) <| zlx (x2 + (gI u (t + 2) x3.toNatClampNeg)) fun v6 => rc v6 (x3 + (1 : Int32)) (0 : Int32) (x5 + (1 : Int32)) u else zlx (x2 + (0 : Int32)) fun v4 => rc v4 (x3 + (1 : Int32)) (0 : Int32) (x5 + (1 : Int32)) u))))) else zck (inB (v2 &&& (7 : Int32)) 8) <| zb (f_X4_test v2 (gI u o (v2 &&& (7 : Int32)).toNatClampNeg) u) fun y11 u12 => zlx ((x4 <<< ((1 : Int32) &&& 31)) ||| y11) fun v13 => rc x2 x3 v13 (x5 + (1 : Int32)) u12))
def f_X4_sum_L10 (t : Nat) (o : Nat) : Nat → Int32 → Int32 → Int32 → Int32 → zM → Option (Int32 × zM)
  | 0 => fun _ _ _ _ _ => none
  | fn + 1 => f_X4_sum_L10_b t o (f_X4_sum_L10 t o fn)
def f_X4_sum (t : Nat) (o : Nat) (u : zM) : Option (Int32 × zM) :=
  f_X4_sum_L10 t o 400 (0 : Int32) (0 : Int32) (0 : Int32) (0 : Int32) u
set_option maxRecDepth 20000 in
theorem go_X4_sum_L10 {p : Program} {l : Launch} {e : Env} {s : State} {m : MethodId} {args : Array Value} {below : List Frame} {meth : Method} {c : Code} {as : Nat → Nat} {dA : Nat → ClassId} {D : va_G} {d : Nat} {t : Nat} {o : Nat} (C : zCx p s m args meth c as dA D SHX d 8 yX4_sum.cls cX4_sum ((some FieldType.int))) (hd : 2 ≤ d) (ht : zSq t) (ho : SHX[o]? = some (.inr (0, 8, 0, 0))) : ∀ (fn : Nat) (x2 : Int32) (x3 : Int32) (x4 : Int32) (x5 : Int32) (u : zM), Go p l e s m args below meth c as dA D SHX d 8 zQi 10 [(0, .ref t), (1, .ref o), (2, .int x2), (3, .int x3), (4, .int x4), (5, .int x5)] [] u (f_X4_sum_L10 t o fn x2 x3 x4 x5 u) := by
  intro fn
  induction fn with
  | zero => intro x2 x3 x4 x5 u; exact G_none
  | succ fn ih =>
    intro x2 x3 x4 x5 u
    show Go p l e s m args below meth c as dA D SHX d 8 zQi 10 [(0, .ref t), (1, .ref o), (2, .int x2), (3, .int x3), (4, .int x4), (5, .int x5)] [] u (f_X4_sum_L10_b t o (f_X4_sum_L10 t o fn) x2 x3 x4 x5 u)
    unfold f_X4_sum_L10_b
    refine G_iload C 5 dX4_sum_10 rfl ?_
    refine G_aload_n C 0 dX4_sum_12 rfl rfl ?_
    refine G_getI C 2 ht.1 rfl rfl (by decide) wf4_22 dX4_sum_13 ?_
    refine G_icmp_ge (tgt := 156) C dX4_sum_16 (by decide) (fun _ => ?_) (fun _ => ?_)
    · refine G_iload_n C 2 dX4_sum_156 rfl rfl ?_
      exact G_iret C dX4_sum_157
    · refine G_aload_n C 0 dX4_sum_19 rfl rfl ?_
      refine G_getR (j := (t + 1)) C 1 ht.1 rfl rfl (by decide) wf4_15 dX4_sum_20 ?_
      refine G_iload C 5 dX4_sum_23 rfl ?_
      refine G_iald C ht.2.1 dX4_sum_25 (fun hb1 => ?_)
      refine G_topi (fun v2 => ?_)
      refine G_istore (L' := [(6, .int v2), (0, .ref t), (1, .ref o), (2, .int x2), (3, .int x3), (4, .int x4), (5, .int x5)]) C dX4_sum_26 (by decide) rfl ?_
      refine G_iload C 5 dX4_sum_28 rfl ?_
      refine G_iconst (v := 1) C dX4_sum_30 (by decide) ?_
      refine G_iand C dX4_sum_31 ?_
      refine G_topi (fun v3 => ?_)
      refine G_istore (L' := [(7, .int v3), (6, .int v2), (0, .ref t), (1, .ref o), (2, .int x2), (3, .int x3), (4, .int x4), (5, .int x5)]) C dX4_sum_32 (by decide) rfl ?_
      refine G_iload C 1 dX4_sum_34 rfl ?_
      refine G_if_lt (tgt := 61) C dX4_sum_36 (by decide) (fun _ => ?_) (fun _ => ?_)
      · refine G_iload C 1 dX4_sum_61 rfl ?_
        refine G_iconst (v := -1) C dX4_sum_63 (by decide) ?_
        refine G_icmp_ne (tgt := 76) C dX4_sum_64 (by decide) (fun _ => ?_) (fun _ => ?_)
        · refine G_iload C 1 dX4_sum_76 rfl ?_
          refine G_bipush (v := -2) C dX4_sum_78 (by decide) ?_
          refine G_icmp_ne (tgt := 98) C dX4_sum_80 (by decide) (fun _ => ?_) (fun _ => ?_)
          · refine G_iload C 1 dX4_sum_98 rfl ?_
            refine G_bipush (v := -3) C dX4_sum_100 (by decide) ?_
            refine G_icmp_ne (tgt := 117) C dX4_sum_102 (by decide) (fun _ => ?_) (fun _ => ?_)
            · refine G_iload_n C 5 dX4_sum_117 rfl rfl ?_
              refine G_aload_n C 2 dX4_sum_118 rfl rfl ?_
              refine G_getI C 4 ht.1 rfl rfl (by decide) wf4_25 dX4_sum_119 ?_
              refine G_icmp_ge (tgt := 150) C dX4_sum_122 (by decide) (fun _ => ?_) (fun _ => ?_)
              · refine G_iinc (v := 1) (L' := [(5, .int (x5 + (1 : Int32))), (7, .int v3), (6, .int v2), (0, .ref t), (1, .ref o), (2, .int x2), (3, .int x3), (4, .int x4)]) C 7 dX4_sum_150 rfl (by decide) (by decide) rfl ?_
                refine G_goto (tgt := 10) C dX4_sum_153 (by decide) ?_
                refine G_locals [3, 4, 5, 6, 7, 0] rfl ?_
                exact ih x2 x3 x4 (x5 + (1 : Int32)) u
              · refine G_iload_n C 4 dX4_sum_125 rfl rfl ?_
                refine G_iload C 0 dX4_sum_126 rfl ?_
                refine G_iconst (v := 1) C dX4_sum_128 (by decide) ?_
                refine G_icmp_ne (tgt := 141) C dX4_sum_129 (by decide) (fun _ => ?_) (fun _ => ?_)
                · refine G_iconst (v := 0) C dX4_sum_141 (by decide) ?_
                  refine G_iadd C dX4_sum_142 ?_
                  refine G_topi (fun v4 => ?_)
                  refine G_istore_n (L' := [(2, .int v4), (7, .int v3), (6, .int v2), (0, .ref t), (1, .ref o), (3, .int x3), (4, .int x4), (5, .int x5)]) C dX4_sum_143 rfl (by decide) rfl ?_
                  refine G_iinc (v := 1) (L' := [(3, .int (x3 + (1 : Int32))), (2, .int v4), (7, .int v3), (6, .int v2), (0, .ref t), (1, .ref o), (4, .int x4), (5, .int x5)]) C 5 dX4_sum_144 rfl (by decide) (by decide) rfl ?_
                  refine G_iconst (v := 0) C dX4_sum_147 (by decide) ?_
                  refine G_istore (L' := [(4, .int (0 : Int32)), (3, .int (x3 + (1 : Int32))), (2, .int v4), (7, .int v3), (6, .int v2), (0, .ref t), (1, .ref o), (5, .int x5)]) C dX4_sum_148 (by decide) rfl ?_
                  refine G_iinc (v := 1) (L' := [(5, .int (x5 + (1 : Int32))), (4, .int (0 : Int32)), (3, .int (x3 + (1 : Int32))), (2, .int v4), (7, .int v3), (6, .int v2), (0, .ref t), (1, .ref o)]) C 7 dX4_sum_150 rfl (by decide) (by decide) rfl ?_
                  refine G_goto (tgt := 10) C dX4_sum_153 (by decide) ?_
                  refine G_locals [6, 7, 3, 2, 1, 0] rfl ?_
                  exact ih v4 (x3 + (1 : Int32)) (0 : Int32) (x5 + (1 : Int32)) u
                · refine G_aload_n C 2 dX4_sum_132 rfl rfl ?_
                  refine G_getR (j := (t + 2)) C 3 ht.1 rfl rfl (by decide) wf4_19 dX4_sum_133 ?_
                  refine G_iload_n C 5 dX4_sum_136 rfl rfl ?_
                  refine G_iald C ht.2.2 dX4_sum_137 (fun hb5 => ?_)
                  refine G_goto (tgt := 142) C dX4_sum_138 (by decide) ?_
                  refine G_iadd C dX4_sum_142 ?_
                  refine G_topi (fun v6 => ?_)
                  refine G_istore_n (L' := [(2, .int v6), (7, .int v3), (6, .int v2), (0, .ref t), (1, .ref o), (3, .int x3), (4, .int x4), (5, .int x5)]) C dX4_sum_143 rfl (by decide) rfl ?_
                  refine G_iinc (v := 1) (L' := [(3, .int (x3 + (1 : Int32))), (2, .int v6), (7, .int v3), (6, .int v2), (0, .ref t), (1, .ref o), (4, .int x4), (5, .int x5)]) C 5 dX4_sum_144 rfl (by decide) (by decide) rfl ?_
                  refine G_iconst (v := 0) C dX4_sum_147 (by decide) ?_
                  refine G_istore (L' := [(4, .int (0 : Int32)), (3, .int (x3 + (1 : Int32))), (2, .int v6), (7, .int v3), (6, .int v2), (0, .ref t), (1, .ref o), (5, .int x5)]) C dX4_sum_148 (by decide) rfl ?_
                  refine G_iinc (v := 1) (L' := [(5, .int (x5 + (1 : Int32))), (4, .int (0 : Int32)), (3, .int (x3 + (1 : Int32))), (2, .int v6), (7, .int v3), (6, .int v2), (0, .ref t), (1, .ref o)]) C 7 dX4_sum_150 rfl (by decide) (by decide) rfl ?_
                  refine G_goto (tgt := 10) C dX4_sum_153 (by decide) ?_
                  refine G_locals [6, 7, 3, 2, 1, 0] rfl ?_
                  exact ih v6 (x3 + (1 : Int32)) (0 : Int32) (x5 + (1 : Int32)) u
            · refine G_iload C 6 dX4_sum_105 rfl ?_
              refine G_iconst (v := 1) C dX4_sum_107 (by decide) ?_
              refine G_ishr C dX4_sum_108 ?_
              refine G_iload C 0 dX4_sum_109 rfl ?_
              refine G_ior C dX4_sum_111 ?_
              refine G_topi (fun v7 => ?_)
              refine G_istore (L' := [(4, .int v7), (7, .int v3), (6, .int v2), (0, .ref t), (1, .ref o), (2, .int x2), (3, .int x3), (5, .int x5)]) C dX4_sum_112 (by decide) rfl ?_
              refine G_goto (tgt := 150) C dX4_sum_114 (by decide) ?_
              refine G_iinc (v := 1) (L' := [(5, .int (x5 + (1 : Int32))), (4, .int v7), (7, .int v3), (6, .int v2), (0, .ref t), (1, .ref o), (2, .int x2), (3, .int x3)]) C 7 dX4_sum_150 rfl (by decide) (by decide) rfl ?_
              refine G_goto (tgt := 10) C dX4_sum_153 (by decide) ?_
              refine G_locals [4, 5, 6, 7, 1, 0] rfl ?_
              exact ih x2 x3 v7 (x5 + (1 : Int32)) u
          · refine G_iload C 6 dX4_sum_83 rfl ?_
            refine G_iconst (v := 1) C dX4_sum_85 (by decide) ?_
            refine G_ishr C dX4_sum_86 ?_
            refine G_iload C 0 dX4_sum_87 rfl ?_
            refine G_bipush (v := -2) C dX4_sum_89 (by decide) ?_
            refine G_ior C dX4_sum_91 ?_
            refine G_iand C dX4_sum_92 ?_
            refine G_topi (fun v8 => ?_)
            refine G_istore (L' := [(4, .int v8), (7, .int v3), (6, .int v2), (0, .ref t), (1, .ref o), (2, .int x2), (3, .int x3), (5, .int x5)]) C dX4_sum_93 (by decide) rfl ?_
            refine G_goto (tgt := 150) C dX4_sum_95 (by decide) ?_
            refine G_iinc (v := 1) (L' := [(5, .int (x5 + (1 : Int32))), (4, .int v8), (7, .int v3), (6, .int v2), (0, .ref t), (1, .ref o), (2, .int x2), (3, .int x3)]) C 7 dX4_sum_150 rfl (by decide) (by decide) rfl ?_
            refine G_goto (tgt := 10) C dX4_sum_153 (by decide) ?_
            refine G_locals [4, 5, 6, 7, 1, 0] rfl ?_
            exact ih x2 x3 v8 (x5 + (1 : Int32)) u
        · refine G_iload C 6 dX4_sum_67 rfl ?_
          refine G_iconst (v := 1) C dX4_sum_69 (by decide) ?_
          refine G_ixor C dX4_sum_70 ?_
          refine G_topi (fun v9 => ?_)
          refine G_istore (L' := [(4, .int v9), (7, .int v3), (6, .int v2), (0, .ref t), (1, .ref o), (2, .int x2), (3, .int x3), (5, .int x5)]) C dX4_sum_71 (by decide) rfl ?_
          refine G_goto (tgt := 150) C dX4_sum_73 (by decide) ?_
          refine G_iinc (v := 1) (L' := [(5, .int (x5 + (1 : Int32))), (4, .int v9), (7, .int v3), (6, .int v2), (0, .ref t), (1, .ref o), (2, .int x2), (3, .int x3)]) C 7 dX4_sum_150 rfl (by decide) (by decide) rfl ?_
          refine G_goto (tgt := 10) C dX4_sum_153 (by decide) ?_
          refine G_locals [4, 5, 6, 7, 1, 0] rfl ?_
          exact ih x2 x3 v9 (x5 + (1 : Int32)) u
      · refine G_iload C 6 dX4_sum_39 rfl ?_
        refine G_iconst (v := 1) C dX4_sum_41 (by decide) ?_
        refine G_ishl C dX4_sum_42 ?_
        refine G_iload C 1 dX4_sum_43 rfl ?_
        refine G_aload_n C 3 dX4_sum_45 rfl rfl ?_
        refine G_iload C 1 dX4_sum_46 rfl ?_
        refine G_bipush (v := 7) C dX4_sum_48 (by decide) ?_
        refine G_iand C dX4_sum_50 ?_
        refine G_iald C ho dX4_sum_51 (fun hb10 => ?_)
        refine G_callSi C (m_X4_test v2 (gI u o (v2 &&& (7 : Int32)).toNatClampNeg) u (d - 1) (by omega)) (d' := d - 1) (As := [.int v2, .int (gI u o (v2 &&& (7 : Int32)).toNatClampNeg)]) (by omega) rfl wm4_32 wwX4_test (Nat.le_of_ble_eq_true rfl) dX4_sum_52 (fun y11 u12 => ?_)
        refine G_ior C dX4_sum_55 ?_
        refine G_topi (fun v13 => ?_)
        refine G_istore (L' := [(4, .int v13), (7, .int v3), (6, .int v2), (0, .ref t), (1, .ref o), (2, .int x2), (3, .int x3), (5, .int x5)]) C dX4_sum_56 (by decide) rfl ?_
        refine G_goto (tgt := 150) C dX4_sum_58 (by decide) ?_
        refine G_iinc (v := 1) (L' := [(5, .int (x5 + (1 : Int32))), (4, .int v13), (7, .int v3), (6, .int v2), (0, .ref t), (1, .ref o), (2, .int x2), (3, .int x3)]) C 7 dX4_sum_150 rfl (by decide) (by decide) rfl ?_
        refine G_goto (tgt := 10) C dX4_sum_153 (by decide) ?_
        refine G_locals [4, 5, 6, 7, 1, 0] rfl ?_
        exact ih x2 x3 v13 (x5 + (1 : Int32)) u12
set_option maxRecDepth 20000 in
theorem go_X4_sum {p : Program} {l : Launch} {e : Env} {s : State} {m : MethodId} {args : Array Value} {below : List Frame} {meth : Method} {c : Code} {as : Nat → Nat} {dA : Nat → ClassId} {D : va_G} {d : Nat} {t : Nat} {o : Nat} (C : zCx p s m args meth c as dA D SHX d 8 yX4_sum.cls cX4_sum ((some FieldType.int))) (hd : 2 ≤ d) (ht : zSq t) (ho : SHX[o]? = some (.inr (0, 8, 0, 0))) : ∀ (u : zM), Go p l e s m args below meth c as dA D SHX d 8 zQi 0 [(0, .ref t), (1, .ref o)] [] u (f_X4_sum t o u) := by
  intro u
  unfold f_X4_sum
  refine G_iconst (v := 0) C dX4_sum_0 (by decide) ?_
  refine G_istore_n (L' := [(2, .int (0 : Int32)), (0, .ref t), (1, .ref o)]) C dX4_sum_1 rfl (by decide) rfl ?_
  refine G_iconst (v := 0) C dX4_sum_2 (by decide) ?_
  refine G_istore_n (L' := [(3, .int (0 : Int32)), (2, .int (0 : Int32)), (0, .ref t), (1, .ref o)]) C dX4_sum_3 rfl (by decide) rfl ?_
  refine G_iconst (v := 0) C dX4_sum_4 (by decide) ?_
  refine G_istore (L' := [(4, .int (0 : Int32)), (3, .int (0 : Int32)), (2, .int (0 : Int32)), (0, .ref t), (1, .ref o)]) C dX4_sum_5 (by decide) rfl ?_
  refine G_iconst (v := 0) C dX4_sum_7 (by decide) ?_
  refine G_istore (L' := [(5, .int (0 : Int32)), (4, .int (0 : Int32)), (3, .int (0 : Int32)), (2, .int (0 : Int32)), (0, .ref t), (1, .ref o)]) C dX4_sum_8 (by decide) rfl ?_
  refine G_locals [4, 5, 3, 2, 1, 0] rfl ?_
  exact go_X4_sum_L10 C hd ht ho 400 (0 : Int32) (0 : Int32) (0 : Int32) (0 : Int32) u
theorem m_X4_sum {t : Nat} {o : Nat} (ht : zSq t) (ho : SHX[o]? = some (.inr (0, 8, 0, 0)))  (u : zM) (d : Nat) (hd : 2 ≤ d) : zMet zQi SHX yX4_sum cX4_sum 8 ((some FieldType.int)) d [.ref t, .ref o] u (f_X4_sum t o u) :=
  zMet_of (by decide +kernel) (fun as => Nat.le_of_ble_eq_true rfl) wwX4_sum.2.2.2.1 (by omega) (fun p l e s m args below meth c as dA D C => go_X4_sum C hd ht ho u)
/-! boolean hasOne(int) -/
def f_X6_hasOne (t : Nat) (p1 : Int32) (u : zM) : Option (Int32 × zM) :=
  (if p1 < (0 : Int32) then some ((0 : Int32), u) else (if (gI u t 0) ≤ p1 then some ((0 : Int32), u) else some ((1 : Int32), u)))
set_option maxRecDepth 20000 in
theorem go_X6_hasOne {p : Program} {l : Launch} {e : Env} {s : State} {m : MethodId} {args : Array Value} {below : List Frame} {meth : Method} {c : Code} {as : Nat → Nat} {dA : Nat → ClassId} {D : va_G} {d : Nat} {t : Nat} {p1 : Int32} (C : zCx p s m args meth c as dA D SHX d 2 yX6_hasOne.cls cX6_hasOne ((some FieldType.boolean))) (hd : 1 ≤ d) (ht : zTn t) : ∀ (u : zM), Go p l e s m args below meth c as dA D SHX d 2 zQi 0 [(0, .ref t), (1, .int p1)] [] u (f_X6_hasOne t p1 u) := by
  intro u
  unfold f_X6_hasOne
  refine G_iload_n C 1 dX6_hasOne_0 rfl rfl ?_
  refine G_if_lt (tgt := 16) C dX6_hasOne_1 (by decide) (fun _ => ?_) (fun _ => ?_)
  · refine G_iconst (v := 0) C dX6_hasOne_16 (by decide) ?_
    exact G_zret C rfl dX6_hasOne_17
  · refine G_iload_n C 1 dX6_hasOne_4 rfl rfl ?_
    refine G_aload_n C 0 dX6_hasOne_5 rfl rfl ?_
    refine G_getI C 0 ht.1 rfl rfl (by decide) wf6_49 dX6_hasOne_6 ?_
    refine G_icmp_ge (tgt := 16) C dX6_hasOne_9 (by decide) (fun _ => ?_) (fun _ => ?_)
    · refine G_iconst (v := 0) C dX6_hasOne_16 (by decide) ?_
      exact G_zret C rfl dX6_hasOne_17
    · refine G_iconst (v := 1) C dX6_hasOne_12 (by decide) ?_
      refine G_goto (tgt := 17) C dX6_hasOne_13 (by decide) ?_
      exact G_zret C rfl dX6_hasOne_17
theorem m_X6_hasOne {t : Nat} (ht : zTn t) (p1 : Int32) (u : zM) (d : Nat) (hd : 1 ≤ d) : zMet zQi SHX yX6_hasOne cX6_hasOne 2 ((some FieldType.boolean)) d [.ref t, .int p1] u (f_X6_hasOne t p1 u) :=
  zMet_of (by decide +kernel) (fun as => Nat.le_of_ble_eq_true rfl) wwX6_hasOne.2.2.2.1 (by omega) (fun p l e s m args below meth c as dA D C => go_X6_hasOne C hd ht u)
/-! boolean hasWork(int) -/
def f_X6_hasWork (t : Nat) (p1 : Int32) (u : zM) : Option (Int32 × zM) :=
  (if p1 < (0 : Int32) then some ((0 : Int32), u) else (if (gI u t 6) ≤ p1 then some ((0 : Int32), u) else some ((1 : Int32), u)))
set_option maxRecDepth 20000 in
theorem go_X6_hasWork {p : Program} {l : Launch} {e : Env} {s : State} {m : MethodId} {args : Array Value} {below : List Frame} {meth : Method} {c : Code} {as : Nat → Nat} {dA : Nat → ClassId} {D : va_G} {d : Nat} {t : Nat} {p1 : Int32} (C : zCx p s m args meth c as dA D SHX d 2 yX6_hasWork.cls cX6_hasWork ((some FieldType.boolean))) (hd : 1 ≤ d) (ht : zTn t) : ∀ (u : zM), Go p l e s m args below meth c as dA D SHX d 2 zQi 0 [(0, .ref t), (1, .int p1)] [] u (f_X6_hasWork t p1 u) := by
  intro u
  unfold f_X6_hasWork
  refine G_iload_n C 1 dX6_hasWork_0 rfl rfl ?_
  refine G_if_lt (tgt := 16) C dX6_hasWork_1 (by decide) (fun _ => ?_) (fun _ => ?_)
  · refine G_iconst (v := 0) C dX6_hasWork_16 (by decide) ?_
    exact G_zret C rfl dX6_hasWork_17
  · refine G_iload_n C 1 dX6_hasWork_4 rfl rfl ?_
    refine G_aload_n C 0 dX6_hasWork_5 rfl rfl ?_
    refine G_getI C 6 ht.1 rfl rfl (by decide) wf6_52 dX6_hasWork_6 ?_
    refine G_icmp_ge (tgt := 16) C dX6_hasWork_9 (by decide) (fun _ => ?_) (fun _ => ?_)
    · refine G_iconst (v := 0) C dX6_hasWork_16 (by decide) ?_
      exact G_zret C rfl dX6_hasWork_17
    · refine G_iconst (v := 1) C dX6_hasWork_12 (by decide) ?_
      refine G_goto (tgt := 17) C dX6_hasWork_13 (by decide) ?_
      exact G_zret C rfl dX6_hasWork_17
theorem m_X6_hasWork {t : Nat} (ht : zTn t) (p1 : Int32) (u : zM) (d : Nat) (hd : 1 ≤ d) : zMet zQi SHX yX6_hasWork cX6_hasWork 2 ((some FieldType.boolean)) d [.ref t, .int p1] u (f_X6_hasWork t p1 u) :=
  zMet_of (by decide +kernel) (fun as => Nat.le_of_ble_eq_true rfl) wwX6_hasWork.2.2.2.1 (by omega) (fun p l e s m args below meth c as dA D C => go_X6_hasWork C hd ht u)
/-! int addOne(int, int, int) -/
def f_X6_addOne_L41_b (t : Nat) (p1 : Int32) (p2 : Int32) (p3 : Int32) (rc : Int32 → Int32 → zM → Option (Int32 × zM)) (x4 : Int32) (x5 : Int32) (u : zM) : Option (Int32 × zM) :=
  (if (4 : Int32) ≤ x5 then zlet (sI u t 0 ((gI u t 0) + (1 : Int32))) fun u6 => some (x4, u6) else zck (inB ((x4 * (4 : Int32)) + x5) 24) <| zlet (sI u (t + 5) ((x4 * (4 : Int32)) + x5).toNatClampNeg (0 : Int32)) fun u7 => rc x4 (x5 + (1 : Int32)) u7)
def f_X6_addOne_L41 (t : Nat) (p1 : Int32) (p2 : Int32) (p3 : Int32) : Nat → Int32 → Int32 → zM → Option (Int32 × zM)
  | 0 => fun _ _ _ => none
  | fn + 1 => f_X6_addOne_L41_b t p1 p2 p3 (f_X6_addOne_L41 t p1 p2 p3 fn)
def f_X6_addOne (t : Nat) (p1 : Int32) (p2 : Int32) (p3 : Int32) (u : zM) : Option (Int32 × zM) :=
  zlx (gI u t 0) fun v1 => zck (inB v1 6) <| zlet (sI u (t + 1) v1.toNatClampNeg p1) fun u2 => zck (inB v1 6) <| zlet (sI u2 (t + 2) v1.toNatClampNeg p2) fun u3 => zck (inB v1 6) <| zlet (sI u3 (t + 3) v1.toNatClampNeg p3) fun u4 => zck (inB v1 6) <| zlet (sI u4 (t + 4) v1.toNatClampNeg (vp_nar .boolean (0 : Int32))) fun u5 => f_X6_addOne_L41 t p1 p2 p3 400 v1 (0 : Int32) u5
set_option maxRecDepth 20000 in
theorem go_X6_addOne_L41 {p : Program} {l : Launch} {e : Env} {s : State} {m : MethodId} {args : Array Value} {below : List Frame} {meth : Method} {c : Code} {as : Nat → Nat} {dA : Nat → ClassId} {D : va_G} {d : Nat} {t : Nat} {p1 : Int32} {p2 : Int32} {p3 : Int32} (C : zCx p s m args meth c as dA D SHX d 6 yX6_addOne.cls cX6_addOne ((some FieldType.int))) (hd : 1 ≤ d) (ht : zTn t) : ∀ (fn : Nat) (x4 : Int32) (x5 : Int32) (u : zM), Go p l e s m args below meth c as dA D SHX d 6 zQi 41 [(0, .ref t), (1, .int p1), (2, .int p2), (3, .int p3), (4, .int x4), (5, .int x5)] [] u (f_X6_addOne_L41 t p1 p2 p3 fn x4 x5 u) := by
  intro fn
  induction fn with
  | zero => intro x4 x5 u; exact G_none
  | succ fn ih =>
    intro x4 x5 u
    show Go p l e s m args below meth c as dA D SHX d 6 zQi 41 [(0, .ref t), (1, .int p1), (2, .int p2), (3, .int p3), (4, .int x4), (5, .int x5)] [] u (f_X6_addOne_L41_b t p1 p2 p3 (f_X6_addOne_L41 t p1 p2 p3 fn) x4 x5 u)
    unfold f_X6_addOne_L41_b
    refine G_iload C 5 dX6_addOne_41 rfl ?_
    refine G_iconst (v := 4) C dX6_addOne_43 (by decide) ?_
    refine G_icmp_ge (tgt := 66) C dX6_addOne_44 (by decide) (fun _ => ?_) (fun _ => ?_)
    · refine G_aload_n C 0 dX6_addOne_66 rfl rfl ?_
      refine G_dup C dX6_addOne_67 rfl ?_
      refine G_getI C 0 ht.1 rfl rfl (by decide) wf6_49 dX6_addOne_68 ?_
      refine G_iconst (v := 1) C dX6_addOne_71 (by decide) ?_
      refine G_iadd C dX6_addOne_72 ?_
      refine G_putI (ty := .int) C 0 ht.1 rfl rfl (by decide) wf6_49 rfl (by decide +kernel) rfl rfl dX6_addOne_73 (fun u6 => ?_)
      refine G_iload C 4 dX6_addOne_76 rfl ?_
      exact G_iret C dX6_addOne_78
    · refine G_aload_n C 0 dX6_addOne_47 rfl rfl ?_
      refine G_getR (j := (t + 5)) C 5 ht.1 rfl rfl (by decide) wf6_25 dX6_addOne_48 ?_
      refine G_iload C 4 dX6_addOne_51 rfl ?_
      refine G_iconst (v := 4) C dX6_addOne_53 (by decide) ?_
      refine G_imul C dX6_addOne_54 ?_
      refine G_iload C 5 dX6_addOne_55 rfl ?_
      refine G_iadd C dX6_addOne_57 ?_
      refine G_iconst (v := 0) C dX6_addOne_58 (by decide) ?_
      refine G_iast C ht.2.2.2.2.2.1 dX6_addOne_59 (fun _ u7 => ?_)
      refine G_iinc (v := 1) (L' := [(5, .int (x5 + (1 : Int32))), (0, .ref t), (1, .int p1), (2, .int p2), (3, .int p3), (4, .int x4)]) C 5 dX6_addOne_60 rfl (by decide) (by decide) rfl ?_
      refine G_goto (tgt := 41) C dX6_addOne_63 (by decide) ?_
      refine G_locals [1, 2, 3, 4, 5, 0] rfl ?_
      exact ih x4 (x5 + (1 : Int32)) u7
set_option maxRecDepth 20000 in
theorem go_X6_addOne {p : Program} {l : Launch} {e : Env} {s : State} {m : MethodId} {args : Array Value} {below : List Frame} {meth : Method} {c : Code} {as : Nat → Nat} {dA : Nat → ClassId} {D : va_G} {d : Nat} {t : Nat} {p1 : Int32} {p2 : Int32} {p3 : Int32} (C : zCx p s m args meth c as dA D SHX d 6 yX6_addOne.cls cX6_addOne ((some FieldType.int))) (hd : 1 ≤ d) (ht : zTn t) : ∀ (u : zM), Go p l e s m args below meth c as dA D SHX d 6 zQi 0 [(0, .ref t), (1, .int p1), (2, .int p2), (3, .int p3)] [] u (f_X6_addOne t p1 p2 p3 u) := by
  intro u
  unfold f_X6_addOne
  refine G_aload_n C 0 dX6_addOne_0 rfl rfl ?_
  refine G_getI C 0 ht.1 rfl rfl (by decide) wf6_49 dX6_addOne_1 ?_
  refine G_topi (fun v1 => ?_)
  refine G_istore (L' := [(4, .int v1), (0, .ref t), (1, .int p1), (2, .int p2), (3, .int p3)]) C dX6_addOne_4 (by decide) rfl ?_
  refine G_aload_n C 1 dX6_addOne_6 rfl rfl ?_
  refine G_getR (j := (t + 1)) C 1 ht.1 rfl rfl (by decide) wf6_9 dX6_addOne_7 ?_
  refine G_iload C 0 dX6_addOne_10 rfl ?_
  refine G_iload_n C 2 dX6_addOne_12 rfl rfl ?_
  refine G_iast C ht.2.1 dX6_addOne_13 (fun _ u2 => ?_)
  refine G_aload_n C 1 dX6_addOne_14 rfl rfl ?_
  refine G_getR (j := (t + 2)) C 2 ht.1 rfl rfl (by decide) wf6_15 dX6_addOne_15 ?_
  refine G_iload C 0 dX6_addOne_18 rfl ?_
  refine G_iload_n C 3 dX6_addOne_20 rfl rfl ?_
  refine G_iast C ht.2.2.1 dX6_addOne_21 (fun _ u3 => ?_)
  refine G_aload_n C 1 dX6_addOne_22 rfl rfl ?_
  refine G_getR (j := (t + 3)) C 3 ht.1 rfl rfl (by decide) wf6_18 dX6_addOne_23 ?_
  refine G_iload C 0 dX6_addOne_26 rfl ?_
  refine G_iload_n C 4 dX6_addOne_28 rfl rfl ?_
  refine G_iast C ht.2.2.2.1 dX6_addOne_29 (fun _ u4 => ?_)
  refine G_aload_n C 1 dX6_addOne_30 rfl rfl ?_
  refine G_getR (j := (t + 4)) C 4 ht.1 rfl rfl (by decide) wf6_21 dX6_addOne_31 ?_
  refine G_iload C 0 dX6_addOne_34 rfl ?_
  refine G_iconst (v := 0) C dX6_addOne_36 (by decide) ?_
  refine G_zast C ht.2.2.2.2.1 dX6_addOne_37 (fun _ u5 => ?_)
  refine G_iconst (v := 0) C dX6_addOne_38 (by decide) ?_
  refine G_istore (L' := [(5, .int (0 : Int32)), (4, .int v1), (0, .ref t), (1, .int p1), (2, .int p2), (3, .int p3)]) C dX6_addOne_39 (by decide) rfl ?_
  refine G_locals [2, 3, 4, 5, 1, 0] rfl ?_
  exact go_X6_addOne_L41 C hd ht 400 v1 (0 : Int32) u5
theorem m_X6_addOne {t : Nat} (ht : zTn t) (p1 : Int32) (p2 : Int32) (p3 : Int32) (u : zM) (d : Nat) (hd : 1 ≤ d) : zMet zQi SHX yX6_addOne cX6_addOne 6 ((some FieldType.int)) d [.ref t, .int p1, .int p2, .int p3] u (f_X6_addOne t p1 p2 p3 u) :=
  zMet_of (by decide +kernel) (fun as => Nat.le_of_ble_eq_true rfl) wwX6_addOne.2.2.2.1 (by omega) (fun p l e s m args below meth c as dA D C => go_X6_addOne C hd ht u)
/-! int addWork(int, int) -/
def f_X6_addWork (t : Nat) (p1 : Int32) (p2 : Int32) (u : zM) : Option (Int32 × zM) :=
  zlx (gI u t 6) fun v1 => zck (inB v1 4) <| zlet (sI u (t + 6) v1.toNatClampNeg p1) fun u2 => zck (inB v1 4) <| zlet (sI u2 (t + 7) v1.toNatClampNeg p2) fun u3 => zck (inB v1 4) <| zlet (sI u3 (t + 8) v1.toNatClampNeg (0 : Int32)) fun u4 => zlet (sI u4 t 6 ((gI u4 t 6) + (1 : Int32))) fun u5 => some (v1, u5)
set_option maxRecDepth 20000 in
theorem go_X6_addWork {p : Program} {l : Launch} {e : Env} {s : State} {m : MethodId} {args : Array Value} {below : List Frame} {meth : Method} {c : Code} {as : Nat → Nat} {dA : Nat → ClassId} {D : va_G} {d : Nat} {t : Nat} {p1 : Int32} {p2 : Int32} (C : zCx p s m args meth c as dA D SHX d 4 yX6_addWork.cls cX6_addWork ((some FieldType.int))) (hd : 1 ≤ d) (ht : zTn t) : ∀ (u : zM), Go p l e s m args below meth c as dA D SHX d 4 zQi 0 [(0, .ref t), (1, .int p1), (2, .int p2)] [] u (f_X6_addWork t p1 p2 u) := by
  intro u
  unfold f_X6_addWork
  refine G_aload_n C 0 dX6_addWork_0 rfl rfl ?_
  refine G_getI C 6 ht.1 rfl rfl (by decide) wf6_52 dX6_addWork_1 ?_
  refine G_topi (fun v1 => ?_)
  refine G_istore_n (L' := [(3, .int v1), (0, .ref t), (1, .int p1), (2, .int p2)]) C dX6_addWork_4 rfl (by decide) rfl ?_
  refine G_aload_n C 1 dX6_addWork_5 rfl rfl ?_
  refine G_getR (j := (t + 6)) C 7 ht.1 rfl rfl (by decide) wf6_28 dX6_addWork_6 ?_
  refine G_iload_n C 0 dX6_addWork_9 rfl rfl ?_
  refine G_iload_n C 2 dX6_addWork_10 rfl rfl ?_
  refine G_iast C ht.2.2.2.2.2.2.1 dX6_addWork_11 (fun _ u2 => ?_)
  refine G_aload_n C 1 dX6_addWork_12 rfl rfl ?_
  refine G_getR (j := (t + 7)) C 8 ht.1 rfl rfl (by decide) wf6_31 dX6_addWork_13 ?_
  refine G_iload_n C 0 dX6_addWork_16 rfl rfl ?_
  refine G_iload_n C 3 dX6_addWork_17 rfl rfl ?_
  refine G_iast C ht.2.2.2.2.2.2.2.1 dX6_addWork_18 (fun _ u3 => ?_)
  refine G_aload_n C 1 dX6_addWork_19 rfl rfl ?_
  refine G_getR (j := (t + 8)) C 9 ht.1 rfl rfl (by decide) wf6_34 dX6_addWork_20 ?_
  refine G_iload_n C 0 dX6_addWork_23 rfl rfl ?_
  refine G_iconst (v := 0) C dX6_addWork_24 (by decide) ?_
  refine G_iast C ht.2.2.2.2.2.2.2.2.1 dX6_addWork_25 (fun _ u4 => ?_)
  refine G_aload_n C 1 dX6_addWork_26 rfl rfl ?_
  refine G_dup C dX6_addWork_27 rfl ?_
  refine G_getI C 6 ht.1 rfl rfl (by decide) wf6_52 dX6_addWork_28 ?_
  refine G_iconst (v := 1) C dX6_addWork_31 (by decide) ?_
  refine G_iadd C dX6_addWork_32 ?_
  refine G_putI (ty := .int) C 6 ht.1 rfl rfl (by decide) wf6_52 rfl (by decide +kernel) rfl rfl dX6_addWork_33 (fun u5 => ?_)
  refine G_iload_n C 0 dX6_addWork_36 rfl rfl ?_
  exact G_iret C dX6_addWork_37
theorem m_X6_addWork {t : Nat} (ht : zTn t) (p1 : Int32) (p2 : Int32) (u : zM) (d : Nat) (hd : 1 ≤ d) : zMet zQi SHX yX6_addWork cX6_addWork 4 ((some FieldType.int)) d [.ref t, .int p1, .int p2] u (f_X6_addWork t p1 p2 u) :=
  zMet_of (by decide +kernel) (fun as => Nat.le_of_ble_eq_true rfl) wwX6_addWork.2.2.2.1 (by omega) (fun p l e s m args below meth c as dA D C => go_X6_addWork C hd ht u)
/-! void become(StruckWhile$Town) -/
def f_X6_become_L55_b (t : Nat) (o : Nat) (rc : Int32 → zM → Option (Unit × zM)) (x2 : Int32) (u : zM) : Option (Unit × zM) :=
  (if (6 : Int32) ≤ x2 then zck (cpB (0 : Int32) (0 : Int32) (24 : Int32) 24 24) <| zlet (cpI u (o + 5) (0 : Int32).toNatClampNeg (t + 5) (0 : Int32).toNatClampNeg (24 : Int32).toNatClampNeg) fun u5 => zlet (sI u5 t 6 (gI u5 o 6)) fun u6 => zck (cpB (0 : Int32) (0 : Int32) (4 : Int32) 4 4) <| zlet (cpI u6 (o + 6) (0 : Int32).toNatClampNeg (t + 6) (0 : Int32).toNatClampNeg (4 : Int32).toNatClampNeg) fun u7 => zck (cpB (0 : Int32) (0 : Int32) (4 : Int32) 4 4) <| zlet (cpI u7 (o + 7) (0 : Int32).toNatClampNeg (t + 7) (0 : Int32).toNatClampNeg (4 : Int32).toNatClampNeg) fun u8 => zck (cpB (0 : Int32) (0 : Int32) (4 : Int32) 4 4) <| zlet (cpI u8 (o + 8) (0 : Int32).toNatClampNeg (t + 8) (0 : Int32).toNatClampNeg (4 : Int32).toNatClampNeg) fun u9 => zlet (sI u9 t 10 (gI u9 o 10)) fun u10 => zlet (sI u10 t 11 (gI u10 o 11)) fun u11 => (zmo (gO u11 o 12) (zlet (sO u11 t 12 none) fun u14 => some ((), u14)) fun q12 => zck (isQ q12) (zlet (sO u11 t 12 (some q12)) fun u15 => some ((), u15))) else zck (inB x2 6) <| zck (inB x2 6) <| zlet (sI u (t + 4) x2.toNatClampNeg (vp_nar .boolean (gI u (o + 4) x2.toNatClampNeg))) fun u17 => rc (x2 + (1 : Int32)) u17)
def f_X6_become_L55 (t : Nat) (o : Nat) : Nat → Int32 → zM → Option (Unit × zM)
  | 0 => fun _ _ => none
  | fn + 1 => f_X6_become_L55_b t o (f_X6_become_L55 t o fn)
def f_X6_become (t : Nat) (o : Nat) (u : zM) : Option (Unit × zM) :=
  zlet (sI u t 0 (gI u o 0)) fun u1 => zck (cpB (0 : Int32) (0 : Int32) (6 : Int32) 6 6) <| zlet (cpI u1 (o + 1) (0 : Int32).toNatClampNeg (t + 1) (0 : Int32).toNatClampNeg (6 : Int32).toNatClampNeg) fun u2 => zck (cpB (0 : Int32) (0 : Int32) (6 : Int32) 6 6) <| zlet (cpI u2 (o + 2) (0 : Int32).toNatClampNeg (t + 2) (0 : Int32).toNatClampNeg (6 : Int32).toNatClampNeg) fun u3 => zck (cpB (0 : Int32) (0 : Int32) (6 : Int32) 6 6) <| zlet (cpI u3 (o + 3) (0 : Int32).toNatClampNeg (t + 3) (0 : Int32).toNatClampNeg (6 : Int32).toNatClampNeg) fun u4 => f_X6_become_L55 t o 400 (0 : Int32) u4
set_option maxRecDepth 20000 in
theorem go_X6_become_L55 {p : Program} {l : Launch} {e : Env} {s : State} {m : MethodId} {args : Array Value} {below : List Frame} {meth : Method} {c : Code} {as : Nat → Nat} {dA : Nat → ClassId} {D : va_G} {d : Nat} {t : Nat} {o : Nat} (C : zCx p s m args meth c as dA D SHX d 3 yX6_become.cls cX6_become (none)) (hd : 1 ≤ d) (ht : zTn t) (ho : zTn o) : ∀ (fn : Nat) (x2 : Int32) (u : zM), Go p l e s m args below meth c as dA D SHX d 3 zQv 55 [(0, .ref t), (1, .ref o), (2, .int x2)] [] u (f_X6_become_L55 t o fn x2 u) := by
  intro fn
  induction fn with
  | zero => intro x2 u; exact G_none
  | succ fn ih =>
    intro x2 u
    show Go p l e s m args below meth c as dA D SHX d 3 zQv 55 [(0, .ref t), (1, .ref o), (2, .int x2)] [] u (f_X6_become_L55_b t o (f_X6_become_L55 t o fn) x2 u)
    unfold f_X6_become_L55_b
    refine G_iload_n C 2 dX6_become_55 rfl rfl ?_
    refine G_bipush (v := 6) C dX6_become_56 (by decide) ?_
    refine G_icmp_ge (tgt := 79) C dX6_become_58 (by decide) (fun _ => ?_) (fun _ => ?_)
    · refine G_aload_n C 1 dX6_become_79 rfl rfl ?_
      refine G_getR (j := (o + 5)) C 5 ho.1 rfl rfl (by decide) wf6_25 dX6_become_80 ?_
      refine G_iconst (v := 0) C dX6_become_83 (by decide) ?_
      refine G_aload_n C 0 dX6_become_84 rfl rfl ?_
      refine G_getR (j := (t + 5)) C 5 ht.1 rfl rfl (by decide) wf6_25 dX6_become_85 ?_
      refine G_iconst (v := 0) C dX6_become_88 (by decide) ?_
      refine G_aload_n C 0 dX6_become_89 rfl rfl ?_
      refine G_getR (j := (t + 5)) C 5 ht.1 rfl rfl (by decide) wf6_25 dX6_become_90 ?_
      refine G_alen (v := 24) 0 C ht.2.2.2.2.2.1 rfl rfl (by decide) dX6_become_93 ?_
      refine G_copyI C ho.2.2.2.2.2.1 ht.2.2.2.2.2.1 wm6_55 wAcN wAcS wSys (Nat.le_of_ble_eq_true rfl) dX6_become_94 (fun _ u5 => ?_)
      refine G_aload_n C 0 dX6_become_97 rfl rfl ?_
      refine G_aload_n C 1 dX6_become_98 rfl rfl ?_
      refine G_getI C 6 ho.1 rfl rfl (by decide) wf6_52 dX6_become_99 ?_
      refine G_putI (ty := .int) C 6 ht.1 rfl rfl (by decide) wf6_52 rfl (by decide +kernel) rfl rfl dX6_become_102 (fun u6 => ?_)
      refine G_aload_n C 1 dX6_become_105 rfl rfl ?_
      refine G_getR (j := (o + 6)) C 7 ho.1 rfl rfl (by decide) wf6_28 dX6_become_106 ?_
      refine G_iconst (v := 0) C dX6_become_109 (by decide) ?_
      refine G_aload_n C 0 dX6_become_110 rfl rfl ?_
      refine G_getR (j := (t + 6)) C 7 ht.1 rfl rfl (by decide) wf6_28 dX6_become_111 ?_
      refine G_iconst (v := 0) C dX6_become_114 (by decide) ?_
      refine G_iconst (v := 4) C dX6_become_115 (by decide) ?_
      refine G_copyI C ho.2.2.2.2.2.2.1 ht.2.2.2.2.2.2.1 wm6_55 wAcN wAcS wSys (Nat.le_of_ble_eq_true rfl) dX6_become_116 (fun _ u7 => ?_)
      refine G_aload_n C 1 dX6_become_119 rfl rfl ?_
      refine G_getR (j := (o + 7)) C 8 ho.1 rfl rfl (by decide) wf6_31 dX6_become_120 ?_
      refine G_iconst (v := 0) C dX6_become_123 (by decide) ?_
      refine G_aload_n C 0 dX6_become_124 rfl rfl ?_
      refine G_getR (j := (t + 7)) C 8 ht.1 rfl rfl (by decide) wf6_31 dX6_become_125 ?_
      refine G_iconst (v := 0) C dX6_become_128 (by decide) ?_
      refine G_iconst (v := 4) C dX6_become_129 (by decide) ?_
      refine G_copyI C ho.2.2.2.2.2.2.2.1 ht.2.2.2.2.2.2.2.1 wm6_55 wAcN wAcS wSys (Nat.le_of_ble_eq_true rfl) dX6_become_130 (fun _ u8 => ?_)
      refine G_aload_n C 1 dX6_become_133 rfl rfl ?_
      refine G_getR (j := (o + 8)) C 9 ho.1 rfl rfl (by decide) wf6_34 dX6_become_134 ?_
      refine G_iconst (v := 0) C dX6_become_137 (by decide) ?_
      refine G_aload_n C 0 dX6_become_138 rfl rfl ?_
      refine G_getR (j := (t + 8)) C 9 ht.1 rfl rfl (by decide) wf6_34 dX6_become_139 ?_
      refine G_iconst (v := 0) C dX6_become_142 (by decide) ?_
      refine G_iconst (v := 4) C dX6_become_143 (by decide) ?_
      refine G_copyI C ho.2.2.2.2.2.2.2.2.1 ht.2.2.2.2.2.2.2.2.1 wm6_55 wAcN wAcS wSys (Nat.le_of_ble_eq_true rfl) dX6_become_144 (fun _ u9 => ?_)
      refine G_aload_n C 0 dX6_become_147 rfl rfl ?_
      refine G_aload_n C 1 dX6_become_148 rfl rfl ?_
      refine G_getI C 10 ho.1 rfl rfl (by decide) wf6_37 dX6_become_149 ?_
      refine G_putI (ty := .int) C 10 ht.1 rfl rfl (by decide) wf6_37 rfl (by decide +kernel) rfl rfl dX6_become_152 (fun u10 => ?_)
      refine G_aload_n C 0 dX6_become_155 rfl rfl ?_
      refine G_aload_n C 1 dX6_become_156 rfl rfl ?_
      refine G_getI C 11 ho.1 rfl rfl (by decide) wf6_61 dX6_become_157 ?_
      refine G_putI (ty := .int) C 11 ht.1 rfl rfl (by decide) wf6_61 rfl (by decide +kernel) rfl rfl dX6_become_160 (fun u11 => ?_)
      refine G_aload_n C 0 dX6_become_163 rfl rfl ?_
      refine G_aload_n C 1 dX6_become_164 rfl rfl ?_
      refine G_getO C 12 ho.1 rfl rfl (by decide) wf6_64 dX6_become_165 (fun _ => ?_) (fun q12 _ => ?_)
      · refine G_putON (C2 := "StruckWhile$Square") C 12 ht.1 rfl rfl (by decide) wf6_64 rfl (by decide +kernel) dX6_become_168 (fun u14 => ?_)
        exact G_vret C dX6_become_171
      · refine G_ck (fun hq13 => ?_)
        refine G_putO (C2 := "StruckWhile$Square") C 12 ht.1 rfl rfl (by decide) wf6_64 rfl (by decide +kernel) dX6_become_168 (fun u15 => ?_)
        exact G_vret C dX6_become_171
    · refine G_aload_n C 0 dX6_become_61 rfl rfl ?_
      refine G_getR (j := (t + 4)) C 4 ht.1 rfl rfl (by decide) wf6_21 dX6_become_62 ?_
      refine G_iload_n C 2 dX6_become_65 rfl rfl ?_
      refine G_aload_n C 1 dX6_become_66 rfl rfl ?_
      refine G_getR (j := (o + 4)) C 4 ho.1 rfl rfl (by decide) wf6_21 dX6_become_67 ?_
      refine G_iload_n C 2 dX6_become_70 rfl rfl ?_
      refine G_zald C ho.2.2.2.2.1 dX6_become_71 (fun hb16 => ?_)
      refine G_zast C ht.2.2.2.2.1 dX6_become_72 (fun _ u17 => ?_)
      refine G_iinc (v := 1) (L' := [(2, .int (x2 + (1 : Int32))), (0, .ref t), (1, .ref o)]) C 2 dX6_become_73 rfl (by decide) (by decide) rfl ?_
      refine G_goto (tgt := 55) C dX6_become_76 (by decide) ?_
      refine G_locals [1, 2, 0] rfl ?_
      exact ih (x2 + (1 : Int32)) u17
set_option maxRecDepth 20000 in
theorem go_X6_become {p : Program} {l : Launch} {e : Env} {s : State} {m : MethodId} {args : Array Value} {below : List Frame} {meth : Method} {c : Code} {as : Nat → Nat} {dA : Nat → ClassId} {D : va_G} {d : Nat} {t : Nat} {o : Nat} (C : zCx p s m args meth c as dA D SHX d 3 yX6_become.cls cX6_become (none)) (hd : 1 ≤ d) (ht : zTn t) (ho : zTn o) : ∀ (u : zM), Go p l e s m args below meth c as dA D SHX d 3 zQv 0 [(0, .ref t), (1, .ref o)] [] u (f_X6_become t o u) := by
  intro u
  unfold f_X6_become
  refine G_aload_n C 0 dX6_become_0 rfl rfl ?_
  refine G_aload_n C 1 dX6_become_1 rfl rfl ?_
  refine G_getI C 0 ho.1 rfl rfl (by decide) wf6_49 dX6_become_2 ?_
  refine G_putI (ty := .int) C 0 ht.1 rfl rfl (by decide) wf6_49 rfl (by decide +kernel) rfl rfl dX6_become_5 (fun u1 => ?_)
  refine G_aload_n C 1 dX6_become_8 rfl rfl ?_
  refine G_getR (j := (o + 1)) C 1 ho.1 rfl rfl (by decide) wf6_9 dX6_become_9 ?_
  refine G_iconst (v := 0) C dX6_become_12 (by decide) ?_
  refine G_aload_n C 0 dX6_become_13 rfl rfl ?_
  refine G_getR (j := (t + 1)) C 1 ht.1 rfl rfl (by decide) wf6_9 dX6_become_14 ?_
  refine G_iconst (v := 0) C dX6_become_17 (by decide) ?_
  refine G_bipush (v := 6) C dX6_become_18 (by decide) ?_
  refine G_copyI C ho.2.1 ht.2.1 wm6_55 wAcN wAcS wSys (Nat.le_of_ble_eq_true rfl) dX6_become_20 (fun _ u2 => ?_)
  refine G_aload_n C 1 dX6_become_23 rfl rfl ?_
  refine G_getR (j := (o + 2)) C 2 ho.1 rfl rfl (by decide) wf6_15 dX6_become_24 ?_
  refine G_iconst (v := 0) C dX6_become_27 (by decide) ?_
  refine G_aload_n C 0 dX6_become_28 rfl rfl ?_
  refine G_getR (j := (t + 2)) C 2 ht.1 rfl rfl (by decide) wf6_15 dX6_become_29 ?_
  refine G_iconst (v := 0) C dX6_become_32 (by decide) ?_
  refine G_bipush (v := 6) C dX6_become_33 (by decide) ?_
  refine G_copyI C ho.2.2.1 ht.2.2.1 wm6_55 wAcN wAcS wSys (Nat.le_of_ble_eq_true rfl) dX6_become_35 (fun _ u3 => ?_)
  refine G_aload_n C 1 dX6_become_38 rfl rfl ?_
  refine G_getR (j := (o + 3)) C 3 ho.1 rfl rfl (by decide) wf6_18 dX6_become_39 ?_
  refine G_iconst (v := 0) C dX6_become_42 (by decide) ?_
  refine G_aload_n C 0 dX6_become_43 rfl rfl ?_
  refine G_getR (j := (t + 3)) C 3 ht.1 rfl rfl (by decide) wf6_18 dX6_become_44 ?_
  refine G_iconst (v := 0) C dX6_become_47 (by decide) ?_
  refine G_bipush (v := 6) C dX6_become_48 (by decide) ?_
  refine G_copyI C ho.2.2.2.1 ht.2.2.2.1 wm6_55 wAcN wAcS wSys (Nat.le_of_ble_eq_true rfl) dX6_become_50 (fun _ u4 => ?_)
  refine G_iconst (v := 0) C dX6_become_53 (by decide) ?_
  refine G_istore_n (L' := [(2, .int (0 : Int32)), (0, .ref t), (1, .ref o)]) C dX6_become_54 rfl (by decide) rfl ?_
  refine G_locals [1, 2, 0] rfl ?_
  exact go_X6_become_L55 C hd ht ho 400 (0 : Int32) u4
theorem m_X6_become {t : Nat} {o : Nat} (ht : zTn t) (ho : zTn o)  (u : zM) (d : Nat) (hd : 1 ≤ d) : zMet zQv SHX yX6_become cX6_become 3 (none) d [.ref t, .ref o] u (f_X6_become t o u) :=
  zMet_of (by decide +kernel) (fun as => Nat.le_of_ble_eq_true rfl) wwX6_become.2.2.2.1 (by omega) (fun p l e s m args below meth c as dA D C => go_X6_become C hd ht ho u)
/-! boolean isHot(int) -/
def f_X6_isHot (t : Nat) (p1 : Int32) (u : zM) : Option (Int32 × zM) :=
  zb (f_X6_hasOne t p1 u) fun y1 u2 => (if y1 = (0 : Int32) then some ((0 : Int32), u2) else zck (inB p1 6) <| (if (gI u2 (t + 3) p1.toNatClampNeg) < (50 : Int32) then some ((0 : Int32), u2) else some ((1 : Int32), u2)))
set_option maxRecDepth 20000 in
theorem go_X6_isHot {p : Program} {l : Launch} {e : Env} {s : State} {m : MethodId} {args : Array Value} {below : List Frame} {meth : Method} {c : Code} {as : Nat → Nat} {dA : Nat → ClassId} {D : va_G} {d : Nat} {t : Nat} {p1 : Int32} (C : zCx p s m args meth c as dA D SHX d 2 yX6_isHot.cls cX6_isHot ((some FieldType.boolean))) (hd : 2 ≤ d) (ht : zTn t) : ∀ (u : zM), Go p l e s m args below meth c as dA D SHX d 2 zQi 0 [(0, .ref t), (1, .int p1)] [] u (f_X6_isHot t p1 u) := by
  intro u
  unfold f_X6_isHot
  refine G_aload_n C 0 dX6_isHot_0 rfl rfl ?_
  refine G_iload_n C 1 dX6_isHot_1 rfl rfl ?_
  refine G_callVi C (m_X6_hasOne ht p1 u (d - 1) (by omega)) (d' := d - 1) (As := [.int p1]) (by omega) rfl wm6_68 wwX6_hasOne ht.1 rfl (Nat.le_of_ble_eq_true rfl) dX6_isHot_2 (fun y1 u2 => ?_)
  refine G_if_eq (tgt := 23) C dX6_isHot_5 (by decide) (fun _ => ?_) (fun _ => ?_)
  · refine G_iconst (v := 0) C dX6_isHot_23 (by decide) ?_
    exact G_zret C rfl dX6_isHot_24
  · refine G_aload_n C 0 dX6_isHot_8 rfl rfl ?_
    refine G_getR (j := (t + 3)) C 3 ht.1 rfl rfl (by decide) wf6_18 dX6_isHot_9 ?_
    refine G_iload_n C 1 dX6_isHot_12 rfl rfl ?_
    refine G_iald C ht.2.2.2.1 dX6_isHot_13 (fun hb3 => ?_)
    refine G_bipush (v := 50) C dX6_isHot_14 (by decide) ?_
    refine G_icmp_lt (tgt := 23) C dX6_isHot_16 (by decide) (fun _ => ?_) (fun _ => ?_)
    · refine G_iconst (v := 0) C dX6_isHot_23 (by decide) ?_
      exact G_zret C rfl dX6_isHot_24
    · refine G_iconst (v := 1) C dX6_isHot_19 (by decide) ?_
      refine G_goto (tgt := 24) C dX6_isHot_20 (by decide) ?_
      exact G_zret C rfl dX6_isHot_24
theorem m_X6_isHot {t : Nat} (ht : zTn t) (p1 : Int32) (u : zM) (d : Nat) (hd : 2 ≤ d) : zMet zQi SHX yX6_isHot cX6_isHot 2 ((some FieldType.boolean)) d [.ref t, .int p1] u (f_X6_isHot t p1 u) :=
  zMet_of (by decide +kernel) (fun as => Nat.le_of_ble_eq_true rfl) wwX6_isHot.2.2.2.1 (by omega) (fun p l e s m args below meth c as dA D C => go_X6_isHot C hd ht u)
/-! boolean isDone(int) -/
def f_X6_isDone (t : Nat) (p1 : Int32) (u : zM) : Option (Int32 × zM) :=
  zb (f_X6_hasWork t p1 u) fun y1 u2 => (if y1 = (0 : Int32) then some ((0 : Int32), u2) else zck (inB p1 4) <| zck (inB p1 4) <| (if (gI u2 (t + 8) p1.toNatClampNeg) < (gI u2 (t + 6) p1.toNatClampNeg) then some ((0 : Int32), u2) else some ((1 : Int32), u2)))
set_option maxRecDepth 20000 in
theorem go_X6_isDone {p : Program} {l : Launch} {e : Env} {s : State} {m : MethodId} {args : Array Value} {below : List Frame} {meth : Method} {c : Code} {as : Nat → Nat} {dA : Nat → ClassId} {D : va_G} {d : Nat} {t : Nat} {p1 : Int32} (C : zCx p s m args meth c as dA D SHX d 2 yX6_isDone.cls cX6_isDone ((some FieldType.boolean))) (hd : 2 ≤ d) (ht : zTn t) : ∀ (u : zM), Go p l e s m args below meth c as dA D SHX d 2 zQi 0 [(0, .ref t), (1, .int p1)] [] u (f_X6_isDone t p1 u) := by
  intro u
  unfold f_X6_isDone
  refine G_aload_n C 0 dX6_isDone_0 rfl rfl ?_
  refine G_iload_n C 1 dX6_isDone_1 rfl rfl ?_
  refine G_callVi C (m_X6_hasWork ht p1 u (d - 1) (by omega)) (d' := d - 1) (As := [.int p1]) (by omega) rfl wm6_72 wwX6_hasWork ht.1 rfl (Nat.le_of_ble_eq_true rfl) dX6_isDone_2 (fun y1 u2 => ?_)
  refine G_if_eq (tgt := 27) C dX6_isDone_5 (by decide) (fun _ => ?_) (fun _ => ?_)
  · refine G_iconst (v := 0) C dX6_isDone_27 (by decide) ?_
    exact G_zret C rfl dX6_isDone_28
  · refine G_aload_n C 0 dX6_isDone_8 rfl rfl ?_
    refine G_getR (j := (t + 8)) C 9 ht.1 rfl rfl (by decide) wf6_34 dX6_isDone_9 ?_
    refine G_iload_n C 1 dX6_isDone_12 rfl rfl ?_
    refine G_iald C ht.2.2.2.2.2.2.2.2.1 dX6_isDone_13 (fun hb3 => ?_)
    refine G_aload_n C 0 dX6_isDone_14 rfl rfl ?_
    refine G_getR (j := (t + 6)) C 7 ht.1 rfl rfl (by decide) wf6_28 dX6_isDone_15 ?_
    refine G_iload_n C 1 dX6_isDone_18 rfl rfl ?_
    refine G_iald C ht.2.2.2.2.2.2.1 dX6_isDone_19 (fun hb4 => ?_)
    refine G_icmp_lt (tgt := 27) C dX6_isDone_20 (by decide) (fun _ => ?_) (fun _ => ?_)
    · refine G_iconst (v := 0) C dX6_isDone_27 (by decide) ?_
      exact G_zret C rfl dX6_isDone_28
    · refine G_iconst (v := 1) C dX6_isDone_23 (by decide) ?_
      refine G_goto (tgt := 28) C dX6_isDone_24 (by decide) ?_
      exact G_zret C rfl dX6_isDone_28
theorem m_X6_isDone {t : Nat} (ht : zTn t) (p1 : Int32) (u : zM) (d : Nat) (hd : 2 ≤ d) : zMet zQi SHX yX6_isDone cX6_isDone 2 ((some FieldType.boolean)) d [.ref t, .int p1] u (f_X6_isDone t p1 u) :=
  zMet_of (by decide +kernel) (fun as => Nat.le_of_ble_eq_true rfl) wwX6_isDone.2.2.2.1 (by omega) (fun p l e s m args below meth c as dA D C => go_X6_isDone C hd ht u)
/-! int doneBits() -/
def f_X6_doneBits_L4_b (t : Nat) (rc : Int32 → Int32 → zM → Option (Int32 × zM)) (x1 : Int32) (x2 : Int32) (u : zM) : Option (Int32 × zM) :=
  (if (gI u t 6) ≤ x2 then some (x1, u) else zb (f_X6_isDone t x2 u) fun y1 u2 => (if y1 = (0 : Int32) then rc x1 (x2 + (1 : Int32)) u2 else zlx (x1 ||| ((1 : Int32) <<< (x2 &&& 31))) fun v3 => rc v3 (x2 + (1 : Int32)) u2))
def f_X6_doneBits_L4 (t : Nat) : Nat → Int32 → Int32 → zM → Option (Int32 × zM)
  | 0 => fun _ _ _ => none
  | fn + 1 => f_X6_doneBits_L4_b t (f_X6_doneBits_L4 t fn)
def f_X6_doneBits (t : Nat) (u : zM) : Option (Int32 × zM) :=
  f_X6_doneBits_L4 t 400 (0 : Int32) (0 : Int32) u
set_option maxRecDepth 20000 in
theorem go_X6_doneBits_L4 {p : Program} {l : Launch} {e : Env} {s : State} {m : MethodId} {args : Array Value} {below : List Frame} {meth : Method} {c : Code} {as : Nat → Nat} {dA : Nat → ClassId} {D : va_G} {d : Nat} {t : Nat} (C : zCx p s m args meth c as dA D SHX d 3 yX6_doneBits.cls cX6_doneBits ((some FieldType.int))) (hd : 3 ≤ d) (ht : zTn t) : ∀ (fn : Nat) (x1 : Int32) (x2 : Int32) (u : zM), Go p l e s m args below meth c as dA D SHX d 3 zQi 4 [(0, .ref t), (1, .int x1), (2, .int x2)] [] u (f_X6_doneBits_L4 t fn x1 x2 u) := by
  intro fn
  induction fn with
  | zero => intro x1 x2 u; exact G_none
  | succ fn ih =>
    intro x1 x2 u
    show Go p l e s m args below meth c as dA D SHX d 3 zQi 4 [(0, .ref t), (1, .int x1), (2, .int x2)] [] u (f_X6_doneBits_L4_b t (f_X6_doneBits_L4 t fn) x1 x2 u)
    unfold f_X6_doneBits_L4_b
    refine G_iload_n C 2 dX6_doneBits_4 rfl rfl ?_
    refine G_aload_n C 0 dX6_doneBits_5 rfl rfl ?_
    refine G_getI C 6 ht.1 rfl rfl (by decide) wf6_52 dX6_doneBits_6 ?_
    refine G_icmp_ge (tgt := 32) C dX6_doneBits_9 (by decide) (fun _ => ?_) (fun _ => ?_)
    · refine G_iload_n C 1 dX6_doneBits_32 rfl rfl ?_
      exact G_iret C dX6_doneBits_33
    · refine G_aload_n C 0 dX6_doneBits_12 rfl rfl ?_
      refine G_iload_n C 2 dX6_doneBits_13 rfl rfl ?_
      refine G_callVi C (m_X6_isDone ht x2 u (d - 1) (by omega)) (d' := d - 1) (As := [.int x2]) (by omega) rfl wm6_75 wwX6_isDone ht.1 rfl (Nat.le_of_ble_eq_true rfl) dX6_doneBits_14 (fun y1 u2 => ?_)
      refine G_if_eq (tgt := 26) C dX6_doneBits_17 (by decide) (fun _ => ?_) (fun _ => ?_)
      · refine G_iinc (v := 1) (L' := [(2, .int (x2 + (1 : Int32))), (0, .ref t), (1, .int x1)]) C 2 dX6_doneBits_26 rfl (by decide) (by decide) rfl ?_
        refine G_goto (tgt := 4) C dX6_doneBits_29 (by decide) ?_
        refine G_locals [1, 2, 0] rfl ?_
        exact ih x1 (x2 + (1 : Int32)) u2
      · refine G_iload_n C 1 dX6_doneBits_20 rfl rfl ?_
        refine G_iconst (v := 1) C dX6_doneBits_21 (by decide) ?_
        refine G_iload_n C 2 dX6_doneBits_22 rfl rfl ?_
        refine G_ishl C dX6_doneBits_23 ?_
        refine G_ior C dX6_doneBits_24 ?_
        refine G_topi (fun v3 => ?_)
        refine G_istore_n (L' := [(1, .int v3), (0, .ref t), (2, .int x2)]) C dX6_doneBits_25 rfl (by decide) rfl ?_
        refine G_iinc (v := 1) (L' := [(2, .int (x2 + (1 : Int32))), (1, .int v3), (0, .ref t)]) C 2 dX6_doneBits_26 rfl (by decide) (by decide) rfl ?_
        refine G_goto (tgt := 4) C dX6_doneBits_29 (by decide) ?_
        refine G_locals [2, 1, 0] rfl ?_
        exact ih v3 (x2 + (1 : Int32)) u2
set_option maxRecDepth 20000 in
theorem go_X6_doneBits {p : Program} {l : Launch} {e : Env} {s : State} {m : MethodId} {args : Array Value} {below : List Frame} {meth : Method} {c : Code} {as : Nat → Nat} {dA : Nat → ClassId} {D : va_G} {d : Nat} {t : Nat} (C : zCx p s m args meth c as dA D SHX d 3 yX6_doneBits.cls cX6_doneBits ((some FieldType.int))) (hd : 3 ≤ d) (ht : zTn t) : ∀ (u : zM), Go p l e s m args below meth c as dA D SHX d 3 zQi 0 [(0, .ref t)] [] u (f_X6_doneBits t u) := by
  intro u
  unfold f_X6_doneBits
  refine G_iconst (v := 0) C dX6_doneBits_0 (by decide) ?_
  refine G_istore_n (L' := [(1, .int (0 : Int32)), (0, .ref t)]) C dX6_doneBits_1 rfl (by decide) rfl ?_
  refine G_iconst (v := 0) C dX6_doneBits_2 (by decide) ?_
  refine G_istore_n (L' := [(2, .int (0 : Int32)), (1, .int (0 : Int32)), (0, .ref t)]) C dX6_doneBits_3 rfl (by decide) rfl ?_
  refine G_locals [2, 1, 0] rfl ?_
  exact go_X6_doneBits_L4 C hd ht 400 (0 : Int32) (0 : Int32) u
theorem m_X6_doneBits {t : Nat} (ht : zTn t)  (u : zM) (d : Nat) (hd : 3 ≤ d) : zMet zQi SHX yX6_doneBits cX6_doneBits 3 ((some FieldType.int)) d [.ref t] u (f_X6_doneBits t u) :=
  zMet_of (by decide +kernel) (fun as => Nat.le_of_ble_eq_true rfl) wwX6_doneBits.2.2.2.1 (by omega) (fun p l e s m args below meth c as dA D C => go_X6_doneBits C hd ht u)
/-! int heatOfAll() -/
def f_X6_heatOfAll_L4_b (t : Nat) (rc : Int32 → Int32 → zM → Option (Int32 × zM)) (x1 : Int32) (x2 : Int32) (u : zM) : Option (Int32 × zM) :=
  (if (gI u t 0) ≤ x2 then some (x1, u) else zck (inB x2 6) <| zlx (x1 + (gI u (t + 3) x2.toNatClampNeg)) fun v2 => rc v2 (x2 + (1 : Int32)) u)
def f_X6_heatOfAll_L4 (t : Nat) : Nat → Int32 → Int32 → zM → Option (Int32 × zM)
  | 0 => fun _ _ _ => none
  | fn + 1 => f_X6_heatOfAll_L4_b t (f_X6_heatOfAll_L4 t fn)
def f_X6_heatOfAll (t : Nat) (u : zM) : Option (Int32 × zM) :=
  f_X6_heatOfAll_L4 t 400 (0 : Int32) (0 : Int32) u
set_option maxRecDepth 20000 in
theorem go_X6_heatOfAll_L4 {p : Program} {l : Launch} {e : Env} {s : State} {m : MethodId} {args : Array Value} {below : List Frame} {meth : Method} {c : Code} {as : Nat → Nat} {dA : Nat → ClassId} {D : va_G} {d : Nat} {t : Nat} (C : zCx p s m args meth c as dA D SHX d 3 yX6_heatOfAll.cls cX6_heatOfAll ((some FieldType.int))) (hd : 1 ≤ d) (ht : zTn t) : ∀ (fn : Nat) (x1 : Int32) (x2 : Int32) (u : zM), Go p l e s m args below meth c as dA D SHX d 3 zQi 4 [(0, .ref t), (1, .int x1), (2, .int x2)] [] u (f_X6_heatOfAll_L4 t fn x1 x2 u) := by
  intro fn
  induction fn with
  | zero => intro x1 x2 u; exact G_none
  | succ fn ih =>
    intro x1 x2 u
    show Go p l e s m args below meth c as dA D SHX d 3 zQi 4 [(0, .ref t), (1, .int x1), (2, .int x2)] [] u (f_X6_heatOfAll_L4_b t (f_X6_heatOfAll_L4 t fn) x1 x2 u)
    unfold f_X6_heatOfAll_L4_b
    refine G_iload_n C 2 dX6_heatOfAll_4 rfl rfl ?_
    refine G_aload_n C 0 dX6_heatOfAll_5 rfl rfl ?_
    refine G_getI C 0 ht.1 rfl rfl (by decide) wf6_49 dX6_heatOfAll_6 ?_
    refine G_icmp_ge (tgt := 27) C dX6_heatOfAll_9 (by decide) (fun _ => ?_) (fun _ => ?_)
    · refine G_iload_n C 1 dX6_heatOfAll_27 rfl rfl ?_
      exact G_iret C dX6_heatOfAll_28
    · refine G_iload_n C 1 dX6_heatOfAll_12 rfl rfl ?_
      refine G_aload_n C 0 dX6_heatOfAll_13 rfl rfl ?_
      refine G_getR (j := (t + 3)) C 3 ht.1 rfl rfl (by decide) wf6_18 dX6_heatOfAll_14 ?_
      refine G_iload_n C 2 dX6_heatOfAll_17 rfl rfl ?_
      refine G_iald C ht.2.2.2.1 dX6_heatOfAll_18 (fun hb1 => ?_)
      refine G_iadd C dX6_heatOfAll_19 ?_
      refine G_topi (fun v2 => ?_)
      refine G_istore_n (L' := [(1, .int v2), (0, .ref t), (2, .int x2)]) C dX6_heatOfAll_20 rfl (by decide) rfl ?_
      refine G_iinc (v := 1) (L' := [(2, .int (x2 + (1 : Int32))), (1, .int v2), (0, .ref t)]) C 2 dX6_heatOfAll_21 rfl (by decide) (by decide) rfl ?_
      refine G_goto (tgt := 4) C dX6_heatOfAll_24 (by decide) ?_
      refine G_locals [2, 1, 0] rfl ?_
      exact ih v2 (x2 + (1 : Int32)) u
set_option maxRecDepth 20000 in
theorem go_X6_heatOfAll {p : Program} {l : Launch} {e : Env} {s : State} {m : MethodId} {args : Array Value} {below : List Frame} {meth : Method} {c : Code} {as : Nat → Nat} {dA : Nat → ClassId} {D : va_G} {d : Nat} {t : Nat} (C : zCx p s m args meth c as dA D SHX d 3 yX6_heatOfAll.cls cX6_heatOfAll ((some FieldType.int))) (hd : 1 ≤ d) (ht : zTn t) : ∀ (u : zM), Go p l e s m args below meth c as dA D SHX d 3 zQi 0 [(0, .ref t)] [] u (f_X6_heatOfAll t u) := by
  intro u
  unfold f_X6_heatOfAll
  refine G_iconst (v := 0) C dX6_heatOfAll_0 (by decide) ?_
  refine G_istore_n (L' := [(1, .int (0 : Int32)), (0, .ref t)]) C dX6_heatOfAll_1 rfl (by decide) rfl ?_
  refine G_iconst (v := 0) C dX6_heatOfAll_2 (by decide) ?_
  refine G_istore_n (L' := [(2, .int (0 : Int32)), (1, .int (0 : Int32)), (0, .ref t)]) C dX6_heatOfAll_3 rfl (by decide) rfl ?_
  refine G_locals [2, 1, 0] rfl ?_
  exact go_X6_heatOfAll_L4 C hd ht 400 (0 : Int32) (0 : Int32) u
theorem m_X6_heatOfAll {t : Nat} (ht : zTn t)  (u : zM) (d : Nat) (hd : 1 ≤ d) : zMet zQi SHX yX6_heatOfAll cX6_heatOfAll 3 ((some FieldType.int)) d [.ref t] u (f_X6_heatOfAll t u) :=
  zMet_of (by decide +kernel) (fun as => Nat.le_of_ble_eq_true rfl) wwX6_heatOfAll.2.2.2.1 (by omega) (fun p l e s m args below meth c as dA D C => go_X6_heatOfAll C hd ht u)
/-! int countHere() -/
def f_X6_countHere_L4_b (t : Nat) (rc : Int32 → Int32 → zM → Option (Int32 × zM)) (x1 : Int32) (x2 : Int32) (u : zM) : Option (Int32 × zM) :=
  (if (gI u t 0) ≤ x2 then some (x1, u) else zck (inB x2 6) <| (if (gI u (t + 4) x2.toNatClampNeg) = (0 : Int32) then rc (x1 + (1 : Int32)) (x2 + (1 : Int32)) u else rc x1 (x2 + (1 : Int32)) u))
def f_X6_countHere_L4 (t : Nat) : Nat → Int32 → Int32 → zM → Option (Int32 × zM)
  | 0 => fun _ _ _ => none
  | fn + 1 => f_X6_countHere_L4_b t (f_X6_countHere_L4 t fn)
def f_X6_countHere (t : Nat) (u : zM) : Option (Int32 × zM) :=
  f_X6_countHere_L4 t 400 (0 : Int32) (0 : Int32) u
set_option maxRecDepth 20000 in
theorem go_X6_countHere_L4 {p : Program} {l : Launch} {e : Env} {s : State} {m : MethodId} {args : Array Value} {below : List Frame} {meth : Method} {c : Code} {as : Nat → Nat} {dA : Nat → ClassId} {D : va_G} {d : Nat} {t : Nat} (C : zCx p s m args meth c as dA D SHX d 3 yX6_countHere.cls cX6_countHere ((some FieldType.int))) (hd : 1 ≤ d) (ht : zTn t) : ∀ (fn : Nat) (x1 : Int32) (x2 : Int32) (u : zM), Go p l e s m args below meth c as dA D SHX d 3 zQi 4 [(0, .ref t), (1, .int x1), (2, .int x2)] [] u (f_X6_countHere_L4 t fn x1 x2 u) := by
  intro fn
  induction fn with
  | zero => intro x1 x2 u; exact G_none
  | succ fn ih =>
    intro x1 x2 u
    show Go p l e s m args below meth c as dA D SHX d 3 zQi 4 [(0, .ref t), (1, .int x1), (2, .int x2)] [] u (f_X6_countHere_L4_b t (f_X6_countHere_L4 t fn) x1 x2 u)
    unfold f_X6_countHere_L4_b
    refine G_iload_n C 2 dX6_countHere_4 rfl rfl ?_
    refine G_aload_n C 0 dX6_countHere_5 rfl rfl ?_
    refine G_getI C 0 ht.1 rfl rfl (by decide) wf6_49 dX6_countHere_6 ?_
    refine G_icmp_ge (tgt := 30) C dX6_countHere_9 (by decide) (fun _ => ?_) (fun _ => ?_)
    · refine G_iload_n C 1 dX6_countHere_30 rfl rfl ?_
      exact G_iret C dX6_countHere_31
    · refine G_aload_n C 0 dX6_countHere_12 rfl rfl ?_
      refine G_getR (j := (t + 4)) C 4 ht.1 rfl rfl (by decide) wf6_21 dX6_countHere_13 ?_
      refine G_iload_n C 2 dX6_countHere_16 rfl rfl ?_
      refine G_zald C ht.2.2.2.2.1 dX6_countHere_17 (fun hb1 => ?_)
      refine G_if_ne (tgt := 24) C dX6_countHere_18 (by decide) (fun _ => ?_) (fun _ => ?_)
      · refine G_iinc (v := 1) (L' := [(2, .int (x2 + (1 : Int32))), (0, .ref t), (1, .int x1)]) C 2 dX6_countHere_24 rfl (by decide) (by decide) rfl ?_
        refine G_goto (tgt := 4) C dX6_countHere_27 (by decide) ?_
        refine G_locals [1, 2, 0] rfl ?_
        exact ih x1 (x2 + (1 : Int32)) u
      · refine G_iinc (v := 1) (L' := [(1, .int (x1 + (1 : Int32))), (0, .ref t), (2, .int x2)]) C 1 dX6_countHere_21 rfl (by decide) (by decide) rfl ?_
        refine G_iinc (v := 1) (L' := [(2, .int (x2 + (1 : Int32))), (1, .int (x1 + (1 : Int32))), (0, .ref t)]) C 2 dX6_countHere_24 rfl (by decide) (by decide) rfl ?_
        refine G_goto (tgt := 4) C dX6_countHere_27 (by decide) ?_
        refine G_locals [2, 1, 0] rfl ?_
        exact ih (x1 + (1 : Int32)) (x2 + (1 : Int32)) u
set_option maxRecDepth 20000 in
theorem go_X6_countHere {p : Program} {l : Launch} {e : Env} {s : State} {m : MethodId} {args : Array Value} {below : List Frame} {meth : Method} {c : Code} {as : Nat → Nat} {dA : Nat → ClassId} {D : va_G} {d : Nat} {t : Nat} (C : zCx p s m args meth c as dA D SHX d 3 yX6_countHere.cls cX6_countHere ((some FieldType.int))) (hd : 1 ≤ d) (ht : zTn t) : ∀ (u : zM), Go p l e s m args below meth c as dA D SHX d 3 zQi 0 [(0, .ref t)] [] u (f_X6_countHere t u) := by
  intro u
  unfold f_X6_countHere
  refine G_iconst (v := 0) C dX6_countHere_0 (by decide) ?_
  refine G_istore_n (L' := [(1, .int (0 : Int32)), (0, .ref t)]) C dX6_countHere_1 rfl (by decide) rfl ?_
  refine G_iconst (v := 0) C dX6_countHere_2 (by decide) ?_
  refine G_istore_n (L' := [(2, .int (0 : Int32)), (1, .int (0 : Int32)), (0, .ref t)]) C dX6_countHere_3 rfl (by decide) rfl ?_
  refine G_locals [2, 1, 0] rfl ?_
  exact go_X6_countHere_L4 C hd ht 400 (0 : Int32) (0 : Int32) u
theorem m_X6_countHere {t : Nat} (ht : zTn t)  (u : zM) (d : Nat) (hd : 1 ≤ d) : zMet zQi SHX yX6_countHere cX6_countHere 3 ((some FieldType.int)) d [.ref t] u (f_X6_countHere t u) :=
  zMet_of (by decide +kernel) (fun as => Nat.le_of_ble_eq_true rfl) wwX6_countHere.2.2.2.1 (by omega) (fun p l e s m args below meth c as dA D C => go_X6_countHere C hd ht u)
/-! int hottest() -/
def f_X6_hottest_L4_b (t : Nat) (rc : Int32 → Int32 → zM → Option (Int32 × zM)) (x1 : Int32) (x2 : Int32) (u : zM) : Option (Int32 × zM) :=
  (if (gI u t 0) ≤ x2 then some (x1, u) else zck (inB x2 6) <| (if (gI u (t + 4) x2.toNatClampNeg) = (0 : Int32) then (if x1 < (0 : Int32) then rc x2 (x2 + (1 : Int32)) u else zck (inB x2 6) <| zck (inB x1 6) <| (if (gI u (t + 3) x2.toNatClampNeg) ≤ (gI u (t + 3) x1.toNatClampNeg) then rc x1 (x2 + (1 : Int32)) u else rc x2 (x2 + (1 : Int32)) u)) else rc x1 (x2 + (1 : Int32)) u))
def f_X6_hottest_L4 (t : Nat) : Nat → Int32 → Int32 → zM → Option (Int32 × zM)
  | 0 => fun _ _ _ => none
  | fn + 1 => f_X6_hottest_L4_b t (f_X6_hottest_L4 t fn)
def f_X6_hottest (t : Nat) (u : zM) : Option (Int32 × zM) :=
  f_X6_hottest_L4 t 400 (-1 : Int32) (0 : Int32) u
set_option maxRecDepth 20000 in
theorem go_X6_hottest_L4 {p : Program} {l : Launch} {e : Env} {s : State} {m : MethodId} {args : Array Value} {below : List Frame} {meth : Method} {c : Code} {as : Nat → Nat} {dA : Nat → ClassId} {D : va_G} {d : Nat} {t : Nat} (C : zCx p s m args meth c as dA D SHX d 3 yX6_hottest.cls cX6_hottest ((some FieldType.int))) (hd : 1 ≤ d) (ht : zTn t) : ∀ (fn : Nat) (x1 : Int32) (x2 : Int32) (u : zM), Go p l e s m args below meth c as dA D SHX d 3 zQi 4 [(0, .ref t), (1, .int x1), (2, .int x2)] [] u (f_X6_hottest_L4 t fn x1 x2 u) := by
  intro fn
  induction fn with
  | zero => intro x1 x2 u; exact G_none
  | succ fn ih =>
    intro x1 x2 u
    show Go p l e s m args below meth c as dA D SHX d 3 zQi 4 [(0, .ref t), (1, .int x1), (2, .int x2)] [] u (f_X6_hottest_L4_b t (f_X6_hottest_L4 t fn) x1 x2 u)
    unfold f_X6_hottest_L4_b
    refine G_iload_n C 2 dX6_hottest_4 rfl rfl ?_
    refine G_aload_n C 0 dX6_hottest_5 rfl rfl ?_
    refine G_getI C 0 ht.1 rfl rfl (by decide) wf6_49 dX6_hottest_6 ?_
    refine G_icmp_ge (tgt := 48) C dX6_hottest_9 (by decide) (fun _ => ?_) (fun _ => ?_)
    · refine G_iload_n C 1 dX6_hottest_48 rfl rfl ?_
      exact G_iret C dX6_hottest_49
    · refine G_aload_n C 0 dX6_hottest_12 rfl rfl ?_
      refine G_getR (j := (t + 4)) C 4 ht.1 rfl rfl (by decide) wf6_21 dX6_hottest_13 ?_
      refine G_iload_n C 2 dX6_hottest_16 rfl rfl ?_
      refine G_zald C ht.2.2.2.2.1 dX6_hottest_17 (fun hb1 => ?_)
      refine G_if_ne (tgt := 42) C dX6_hottest_18 (by decide) (fun _ => ?_) (fun _ => ?_)
      · refine G_iinc (v := 1) (L' := [(2, .int (x2 + (1 : Int32))), (0, .ref t), (1, .int x1)]) C 2 dX6_hottest_42 rfl (by decide) (by decide) rfl ?_
        refine G_goto (tgt := 4) C dX6_hottest_45 (by decide) ?_
        refine G_locals [1, 2, 0] rfl ?_
        exact ih x1 (x2 + (1 : Int32)) u
      · refine G_iload_n C 1 dX6_hottest_21 rfl rfl ?_
        refine G_if_lt (tgt := 40) C dX6_hottest_22 (by decide) (fun _ => ?_) (fun _ => ?_)
        · refine G_iload_n C 2 dX6_hottest_40 rfl rfl ?_
          refine G_istore_n (L' := [(1, .int x2), (0, .ref t), (2, .int x2)]) C dX6_hottest_41 rfl (by decide) rfl ?_
          refine G_iinc (v := 1) (L' := [(2, .int (x2 + (1 : Int32))), (1, .int x2), (0, .ref t)]) C 2 dX6_hottest_42 rfl (by decide) (by decide) rfl ?_
          refine G_goto (tgt := 4) C dX6_hottest_45 (by decide) ?_
          refine G_locals [2, 1, 0] rfl ?_
          exact ih x2 (x2 + (1 : Int32)) u
        · refine G_aload_n C 0 dX6_hottest_25 rfl rfl ?_
          refine G_getR (j := (t + 3)) C 3 ht.1 rfl rfl (by decide) wf6_18 dX6_hottest_26 ?_
          refine G_iload_n C 2 dX6_hottest_29 rfl rfl ?_
          refine G_iald C ht.2.2.2.1 dX6_hottest_30 (fun hb2 => ?_)
          refine G_aload_n C 0 dX6_hottest_31 rfl rfl ?_
          refine G_getR (j := (t + 3)) C 3 ht.1 rfl rfl (by decide) wf6_18 dX6_hottest_32 ?_
          refine G_iload_n C 1 dX6_hottest_35 rfl rfl ?_
          refine G_iald C ht.2.2.2.1 dX6_hottest_36 (fun hb3 => ?_)
          refine G_icmp_le (tgt := 42) C dX6_hottest_37 (by decide) (fun _ => ?_) (fun _ => ?_)
          · refine G_iinc (v := 1) (L' := [(2, .int (x2 + (1 : Int32))), (0, .ref t), (1, .int x1)]) C 2 dX6_hottest_42 rfl (by decide) (by decide) rfl ?_
            refine G_goto (tgt := 4) C dX6_hottest_45 (by decide) ?_
            refine G_locals [1, 2, 0] rfl ?_
            exact ih x1 (x2 + (1 : Int32)) u
          · refine G_iload_n C 2 dX6_hottest_40 rfl rfl ?_
            refine G_istore_n (L' := [(1, .int x2), (0, .ref t), (2, .int x2)]) C dX6_hottest_41 rfl (by decide) rfl ?_
            refine G_iinc (v := 1) (L' := [(2, .int (x2 + (1 : Int32))), (1, .int x2), (0, .ref t)]) C 2 dX6_hottest_42 rfl (by decide) (by decide) rfl ?_
            refine G_goto (tgt := 4) C dX6_hottest_45 (by decide) ?_
            refine G_locals [2, 1, 0] rfl ?_
            exact ih x2 (x2 + (1 : Int32)) u
set_option maxRecDepth 20000 in
theorem go_X6_hottest {p : Program} {l : Launch} {e : Env} {s : State} {m : MethodId} {args : Array Value} {below : List Frame} {meth : Method} {c : Code} {as : Nat → Nat} {dA : Nat → ClassId} {D : va_G} {d : Nat} {t : Nat} (C : zCx p s m args meth c as dA D SHX d 3 yX6_hottest.cls cX6_hottest ((some FieldType.int))) (hd : 1 ≤ d) (ht : zTn t) : ∀ (u : zM), Go p l e s m args below meth c as dA D SHX d 3 zQi 0 [(0, .ref t)] [] u (f_X6_hottest t u) := by
  intro u
  unfold f_X6_hottest
  refine G_iconst (v := -1) C dX6_hottest_0 (by decide) ?_
  refine G_istore_n (L' := [(1, .int (-1 : Int32)), (0, .ref t)]) C dX6_hottest_1 rfl (by decide) rfl ?_
  refine G_iconst (v := 0) C dX6_hottest_2 (by decide) ?_
  refine G_istore_n (L' := [(2, .int (0 : Int32)), (1, .int (-1 : Int32)), (0, .ref t)]) C dX6_hottest_3 rfl (by decide) rfl ?_
  refine G_locals [2, 1, 0] rfl ?_
  exact go_X6_hottest_L4 C hd ht 400 (-1 : Int32) (0 : Int32) u
theorem m_X6_hottest {t : Nat} (ht : zTn t)  (u : zM) (d : Nat) (hd : 1 ≤ d) : zMet zQi SHX yX6_hottest cX6_hottest 3 ((some FieldType.int)) d [.ref t] u (f_X6_hottest t u) :=
  zMet_of (by decide +kernel) (fun as => Nat.le_of_ble_eq_true rfl) wwX6_hottest.2.2.2.1 (by omega) (fun p l e s m args below meth c as dA D C => go_X6_hottest C hd ht u)
/-! int countBeside(int, int) -/
def f_X6_countBeside_L38 (t : Nat) (p1 : Int32) (p2 : Int32) (x3 : Int32) (u : zM) : Option (Int32 × zM) :=
  zb (f_X6_hasOne t (p1 + (1 : Int32)) u) fun y3 u4 => (if y3 = (0 : Int32) then some (x3, u4) else zck (inB (p1 + (1 : Int32)) 6) <| (if (gI u4 (t + 4) (p1 + (1 : Int32)).toNatClampNeg) = (0 : Int32) then zck (inB (p1 + (1 : Int32)) 6) <| (if (gI u4 (t + 3) (p1 + (1 : Int32)).toNatClampNeg) < p2 then some (x3, u4) else some ((x3 + (1 : Int32)), u4)) else some (x3, u4)))
def f_X6_countBeside (t : Nat) (p1 : Int32) (p2 : Int32) (u : zM) : Option (Int32 × zM) :=
  zb (f_X6_hasOne t (p1 - (1 : Int32)) u) fun y1 u2 => (if y1 = (0 : Int32) then f_X6_countBeside_L38 t p1 p2 (0 : Int32) u2 else zck (inB (p1 - (1 : Int32)) 6) <| (if (gI u2 (t + 4) (p1 - (1 : Int32)).toNatClampNeg) = (0 : Int32) then zck (inB (p1 - (1 : Int32)) 6) <| (if (gI u2 (t + 3) (p1 - (1 : Int32)).toNatClampNeg) < p2 then f_X6_countBeside_L38 t p1 p2 (0 : Int32) u2 else f_X6_countBeside_L38 t p1 p2 ((0 : Int32) + (1 : Int32)) u2) else f_X6_countBeside_L38 t p1 p2 (0 : Int32) u2))
set_option maxRecDepth 20000 in
theorem go_X6_countBeside_L38 {p : Program} {l : Launch} {e : Env} {s : State} {m : MethodId} {args : Array Value} {below : List Frame} {meth : Method} {c : Code} {as : Nat → Nat} {dA : Nat → ClassId} {D : va_G} {d : Nat} {t : Nat} {p1 : Int32} {p2 : Int32} (C : zCx p s m args meth c as dA D SHX d 4 yX6_countBeside.cls cX6_countBeside ((some FieldType.int))) (hd : 2 ≤ d) (ht : zTn t) : ∀ (x3 : Int32) (u : zM), Go p l e s m args below meth c as dA D SHX d 4 zQi 38 [(0, .ref t), (1, .int p1), (2, .int p2), (3, .int x3)] [] u (f_X6_countBeside_L38 t p1 p2 x3 u) := by
  intro x3 u
  unfold f_X6_countBeside_L38
  refine G_aload_n C 0 dX6_countBeside_38 rfl rfl ?_
  refine G_iload_n C 1 dX6_countBeside_39 rfl rfl ?_
  refine G_iconst (v := 1) C dX6_countBeside_40 (by decide) ?_
  refine G_iadd C dX6_countBeside_41 ?_
  refine G_callVi C (m_X6_hasOne ht (p1 + (1 : Int32)) u (d - 1) (by omega)) (d' := d - 1) (As := [.int (p1 + (1 : Int32))]) (by omega) rfl wm6_68 wwX6_hasOne ht.1 rfl (Nat.le_of_ble_eq_true rfl) dX6_countBeside_42 (fun y3 u4 => ?_)
  refine G_if_eq (tgt := 74) C dX6_countBeside_45 (by decide) (fun _ => ?_) (fun _ => ?_)
  · refine G_iload_n C 3 dX6_countBeside_74 rfl rfl ?_
    exact G_iret C dX6_countBeside_75
  · refine G_aload_n C 0 dX6_countBeside_48 rfl rfl ?_
    refine G_getR (j := (t + 4)) C 4 ht.1 rfl rfl (by decide) wf6_21 dX6_countBeside_49 ?_
    refine G_iload_n C 1 dX6_countBeside_52 rfl rfl ?_
    refine G_iconst (v := 1) C dX6_countBeside_53 (by decide) ?_
    refine G_iadd C dX6_countBeside_54 ?_
    refine G_zald C ht.2.2.2.2.1 dX6_countBeside_55 (fun hb5 => ?_)
    refine G_if_ne (tgt := 74) C dX6_countBeside_56 (by decide) (fun _ => ?_) (fun _ => ?_)
    · refine G_iload_n C 3 dX6_countBeside_74 rfl rfl ?_
      exact G_iret C dX6_countBeside_75
    · refine G_aload_n C 0 dX6_countBeside_59 rfl rfl ?_
      refine G_getR (j := (t + 3)) C 3 ht.1 rfl rfl (by decide) wf6_18 dX6_countBeside_60 ?_
      refine G_iload_n C 1 dX6_countBeside_63 rfl rfl ?_
      refine G_iconst (v := 1) C dX6_countBeside_64 (by decide) ?_
      refine G_iadd C dX6_countBeside_65 ?_
      refine G_iald C ht.2.2.2.1 dX6_countBeside_66 (fun hb6 => ?_)
      refine G_iload_n C 2 dX6_countBeside_67 rfl rfl ?_
      refine G_icmp_lt (tgt := 74) C dX6_countBeside_68 (by decide) (fun _ => ?_) (fun _ => ?_)
      · refine G_iload_n C 3 dX6_countBeside_74 rfl rfl ?_
        exact G_iret C dX6_countBeside_75
      · refine G_iinc (v := 1) (L' := [(3, .int (x3 + (1 : Int32))), (0, .ref t), (1, .int p1), (2, .int p2)]) C 3 dX6_countBeside_71 rfl (by decide) (by decide) rfl ?_
        refine G_iload_n C 0 dX6_countBeside_74 rfl rfl ?_
        exact G_iret C dX6_countBeside_75
set_option maxRecDepth 20000 in
theorem go_X6_countBeside {p : Program} {l : Launch} {e : Env} {s : State} {m : MethodId} {args : Array Value} {below : List Frame} {meth : Method} {c : Code} {as : Nat → Nat} {dA : Nat → ClassId} {D : va_G} {d : Nat} {t : Nat} {p1 : Int32} {p2 : Int32} (C : zCx p s m args meth c as dA D SHX d 4 yX6_countBeside.cls cX6_countBeside ((some FieldType.int))) (hd : 2 ≤ d) (ht : zTn t) : ∀ (u : zM), Go p l e s m args below meth c as dA D SHX d 4 zQi 0 [(0, .ref t), (1, .int p1), (2, .int p2)] [] u (f_X6_countBeside t p1 p2 u) := by
  intro u
  unfold f_X6_countBeside
  refine G_iconst (v := 0) C dX6_countBeside_0 (by decide) ?_
  refine G_istore_n (L' := [(3, .int (0 : Int32)), (0, .ref t), (1, .int p1), (2, .int p2)]) C dX6_countBeside_1 rfl (by decide) rfl ?_
  refine G_aload_n C 1 dX6_countBeside_2 rfl rfl ?_
  refine G_iload_n C 2 dX6_countBeside_3 rfl rfl ?_
  refine G_iconst (v := 1) C dX6_countBeside_4 (by decide) ?_
  refine G_isub C dX6_countBeside_5 ?_
  refine G_callVi C (m_X6_hasOne ht (p1 - (1 : Int32)) u (d - 1) (by omega)) (d' := d - 1) (As := [.int (p1 - (1 : Int32))]) (by omega) rfl wm6_68 wwX6_hasOne ht.1 rfl (Nat.le_of_ble_eq_true rfl) dX6_countBeside_6 (fun y1 u2 => ?_)
  refine G_if_eq (tgt := 38) C dX6_countBeside_9 (by decide) (fun _ => ?_) (fun _ => ?_)
  · refine G_locals [1, 2, 3, 0] rfl ?_
    exact go_X6_countBeside_L38 C hd ht (0 : Int32) u2
  · refine G_aload_n C 1 dX6_countBeside_12 rfl rfl ?_
    refine G_getR (j := (t + 4)) C 4 ht.1 rfl rfl (by decide) wf6_21 dX6_countBeside_13 ?_
    refine G_iload_n C 2 dX6_countBeside_16 rfl rfl ?_
    refine G_iconst (v := 1) C dX6_countBeside_17 (by decide) ?_
    refine G_isub C dX6_countBeside_18 ?_
    refine G_zald C ht.2.2.2.2.1 dX6_countBeside_19 (fun hb7 => ?_)
    refine G_if_ne (tgt := 38) C dX6_countBeside_20 (by decide) (fun _ => ?_) (fun _ => ?_)
    · refine G_locals [1, 2, 3, 0] rfl ?_
      exact go_X6_countBeside_L38 C hd ht (0 : Int32) u2
    · refine G_aload_n C 1 dX6_countBeside_23 rfl rfl ?_
      refine G_getR (j := (t + 3)) C 3 ht.1 rfl rfl (by decide) wf6_18 dX6_countBeside_24 ?_
      refine G_iload_n C 2 dX6_countBeside_27 rfl rfl ?_
      refine G_iconst (v := 1) C dX6_countBeside_28 (by decide) ?_
      refine G_isub C dX6_countBeside_29 ?_
      refine G_iald C ht.2.2.2.1 dX6_countBeside_30 (fun hb8 => ?_)
      refine G_iload_n C 3 dX6_countBeside_31 rfl rfl ?_
      refine G_icmp_lt (tgt := 38) C dX6_countBeside_32 (by decide) (fun _ => ?_) (fun _ => ?_)
      · refine G_locals [1, 2, 3, 0] rfl ?_
        exact go_X6_countBeside_L38 C hd ht (0 : Int32) u2
      · refine G_iinc (v := 1) (L' := [(3, .int ((0 : Int32) + (1 : Int32))), (0, .ref t), (1, .int p1), (2, .int p2)]) C 0 dX6_countBeside_35 rfl (by decide) (by decide) rfl ?_
        refine G_locals [1, 2, 3, 0] rfl ?_
        exact go_X6_countBeside_L38 C hd ht ((0 : Int32) + (1 : Int32)) u2
theorem m_X6_countBeside {t : Nat} (ht : zTn t) (p1 : Int32) (p2 : Int32) (u : zM) (d : Nat) (hd : 2 ≤ d) : zMet zQi SHX yX6_countBeside cX6_countBeside 4 ((some FieldType.int)) d [.ref t, .int p1, .int p2] u (f_X6_countBeside t p1 p2 u) :=
  zMet_of (by decide +kernel) (fun as => Nat.le_of_ble_eq_true rfl) wwX6_countBeside.2.2.2.1 (by omega) (fun p l e s m args below meth c as dA D C => go_X6_countBeside C hd ht u)
/-! int spark() -/
def f_X6_spark (t : Nat) (u : zM) : Option (Int32 × zM) :=
  (zmo (gO u t 12) (some ((80 : Int32), u)) fun q1 => zck (isQ q1) (zmo (gO u t 12) none fun q3 => zck (isQ q3) (some ((gI u q3 0), u))))
set_option maxRecDepth 20000 in
theorem go_X6_spark {p : Program} {l : Launch} {e : Env} {s : State} {m : MethodId} {args : Array Value} {below : List Frame} {meth : Method} {c : Code} {as : Nat → Nat} {dA : Nat → ClassId} {D : va_G} {d : Nat} {t : Nat} (C : zCx p s m args meth c as dA D SHX d 1 yX6_spark.cls cX6_spark ((some FieldType.int))) (hd : 1 ≤ d) (ht : zTn t) : ∀ (u : zM), Go p l e s m args below meth c as dA D SHX d 1 zQi 0 [(0, .ref t)] [] u (f_X6_spark t u) := by
  intro u
  unfold f_X6_spark
  refine G_aload_n C 0 dX6_spark_0 rfl rfl ?_
  refine G_getO C 12 ht.1 rfl rfl (by decide) wf6_64 dX6_spark_1 (fun _ => ?_) (fun q1 _ => ?_)
  · refine G_ifnonnullN C dX6_spark_4 ?_
    refine G_bipush (v := 80) C dX6_spark_7 (by decide) ?_
    refine G_goto (tgt := 19) C dX6_spark_9 (by decide) ?_
    exact G_iret C dX6_spark_19
  · refine G_ck (fun hq2 => ?_)
    refine G_ifnonnull (tgt := 12) C dX6_spark_4 (by decide) ?_
    refine G_aload_n C 0 dX6_spark_12 rfl rfl ?_
    refine G_getO C 12 ht.1 rfl rfl (by decide) wf6_64 dX6_spark_13 (fun _ => ?_) (fun q3 _ => ?_)
    · exact G_none
    · refine G_ck (fun hq4 => ?_)
      refine G_getI C 0 (isQ_sh hq4).1 rfl rfl (by decide) wf6_78 dX6_spark_16 ?_
      exact G_iret C dX6_spark_19
theorem m_X6_spark {t : Nat} (ht : zTn t)  (u : zM) (d : Nat) (hd : 1 ≤ d) : zMet zQi SHX yX6_spark cX6_spark 1 ((some FieldType.int)) d [.ref t] u (f_X6_spark t u) :=
  zMet_of (by decide +kernel) (fun as => Nat.le_of_ble_eq_true rfl) wwX6_spark.2.2.2.1 (by omega) (fun p l e s m args below meth c as dA D C => go_X6_spark C hd ht u)
/-! private void setLetters(int, int) -/
def f_X6_setLetters (t : Nat) (p1 : Int32) (p2 : Int32) (u : zM) : Option (Unit × zM) :=
  zck (inB (0 : Int32) 8) <| zlet (sI u (t + 10) (0 : Int32).toNatClampNeg p1) fun u1 => zck (inB p1 6) <| zck (inB (1 : Int32) 8) <| zlet (sI u1 (t + 10) (1 : Int32).toNatClampNeg (gI u1 (t + 1) p1.toNatClampNeg)) fun u3 => zck (inB p1 6) <| zck (inB (2 : Int32) 8) <| zlet (sI u3 (t + 10) (2 : Int32).toNatClampNeg (gI u3 (t + 2) p1.toNatClampNeg)) fun u5 => zck (inB p1 6) <| zck (inB (3 : Int32) 8) <| zlet (sI u5 (t + 10) (3 : Int32).toNatClampNeg ((gI u5 (t + 3) p1.toNatClampNeg) / (10 : Int32))) fun u7 => zck (inB (4 : Int32) 8) <| zlet (sI u7 (t + 10) (4 : Int32).toNatClampNeg p2) fun u8 => zck (inB (5 : Int32) 8) <| zlet (sI u8 (t + 10) (5 : Int32).toNatClampNeg (zrem (gI u8 t 11) (10 : Int32))) fun u9 => some ((), u9)
set_option maxRecDepth 20000 in
theorem go_X6_setLetters {p : Program} {l : Launch} {e : Env} {s : State} {m : MethodId} {args : Array Value} {below : List Frame} {meth : Method} {c : Code} {as : Nat → Nat} {dA : Nat → ClassId} {D : va_G} {d : Nat} {t : Nat} {p1 : Int32} {p2 : Int32} (C : zCx p s m args meth c as dA D SHX d 3 yX6_setLetters.cls cX6_setLetters (none)) (hd : 1 ≤ d) (ht : zTn t) : ∀ (u : zM), Go p l e s m args below meth c as dA D SHX d 3 zQv 0 [(0, .ref t), (1, .int p1), (2, .int p2)] [] u (f_X6_setLetters t p1 p2 u) := by
  intro u
  unfold f_X6_setLetters
  refine G_aload_n C 0 dX6_setLetters_0 rfl rfl ?_
  refine G_getR (j := (t + 10)) C 14 ht.1 rfl rfl (by decide) wf6_46 dX6_setLetters_1 ?_
  refine G_iconst (v := 0) C dX6_setLetters_4 (by decide) ?_
  refine G_iload_n C 1 dX6_setLetters_5 rfl rfl ?_
  refine G_iast C ht.2.2.2.2.2.2.2.2.2.2 dX6_setLetters_6 (fun _ u1 => ?_)
  refine G_aload_n C 0 dX6_setLetters_7 rfl rfl ?_
  refine G_getR (j := (t + 10)) C 14 ht.1 rfl rfl (by decide) wf6_46 dX6_setLetters_8 ?_
  refine G_iconst (v := 1) C dX6_setLetters_11 (by decide) ?_
  refine G_aload_n C 0 dX6_setLetters_12 rfl rfl ?_
  refine G_getR (j := (t + 1)) C 1 ht.1 rfl rfl (by decide) wf6_9 dX6_setLetters_13 ?_
  refine G_iload_n C 1 dX6_setLetters_16 rfl rfl ?_
  refine G_iald C ht.2.1 dX6_setLetters_17 (fun hb2 => ?_)
  refine G_iast C ht.2.2.2.2.2.2.2.2.2.2 dX6_setLetters_18 (fun _ u3 => ?_)
  refine G_aload_n C 0 dX6_setLetters_19 rfl rfl ?_
  refine G_getR (j := (t + 10)) C 14 ht.1 rfl rfl (by decide) wf6_46 dX6_setLetters_20 ?_
  refine G_iconst (v := 2) C dX6_setLetters_23 (by decide) ?_
  refine G_aload_n C 0 dX6_setLetters_24 rfl rfl ?_
  refine G_getR (j := (t + 2)) C 2 ht.1 rfl rfl (by decide) wf6_15 dX6_setLetters_25 ?_
  refine G_iload_n C 1 dX6_setLetters_28 rfl rfl ?_
  refine G_iald C ht.2.2.1 dX6_setLetters_29 (fun hb4 => ?_)
  refine G_iast C ht.2.2.2.2.2.2.2.2.2.2 dX6_setLetters_30 (fun _ u5 => ?_)
  refine G_aload_n C 0 dX6_setLetters_31 rfl rfl ?_
  refine G_getR (j := (t + 10)) C 14 ht.1 rfl rfl (by decide) wf6_46 dX6_setLetters_32 ?_
  refine G_iconst (v := 3) C dX6_setLetters_35 (by decide) ?_
  refine G_aload_n C 0 dX6_setLetters_36 rfl rfl ?_
  refine G_getR (j := (t + 3)) C 3 ht.1 rfl rfl (by decide) wf6_18 dX6_setLetters_37 ?_
  refine G_iload_n C 1 dX6_setLetters_40 rfl rfl ?_
  refine G_iald C ht.2.2.2.1 dX6_setLetters_41 (fun hb6 => ?_)
  refine G_bipush (v := 10) C dX6_setLetters_42 (by decide) ?_
  refine G_idiv C dX6_setLetters_44 (by decide) ?_
  refine G_iast C ht.2.2.2.2.2.2.2.2.2.2 dX6_setLetters_45 (fun _ u7 => ?_)
  refine G_aload_n C 0 dX6_setLetters_46 rfl rfl ?_
  refine G_getR (j := (t + 10)) C 14 ht.1 rfl rfl (by decide) wf6_46 dX6_setLetters_47 ?_
  refine G_iconst (v := 4) C dX6_setLetters_50 (by decide) ?_
  refine G_iload_n C 2 dX6_setLetters_51 rfl rfl ?_
  refine G_iast C ht.2.2.2.2.2.2.2.2.2.2 dX6_setLetters_52 (fun _ u8 => ?_)
  refine G_aload_n C 0 dX6_setLetters_53 rfl rfl ?_
  refine G_getR (j := (t + 10)) C 14 ht.1 rfl rfl (by decide) wf6_46 dX6_setLetters_54 ?_
  refine G_iconst (v := 5) C dX6_setLetters_57 (by decide) ?_
  refine G_aload_n C 0 dX6_setLetters_58 rfl rfl ?_
  refine G_getI C 11 ht.1 rfl rfl (by decide) wf6_61 dX6_setLetters_59 ?_
  refine G_bipush (v := 10) C dX6_setLetters_62 (by decide) ?_
  refine G_irem C dX6_setLetters_64 (by decide) ?_
  refine G_iast C ht.2.2.2.2.2.2.2.2.2.2 dX6_setLetters_65 (fun _ u9 => ?_)
  exact G_vret C dX6_setLetters_66
theorem m_X6_setLetters {t : Nat} (ht : zTn t) (p1 : Int32) (p2 : Int32) (u : zM) (d : Nat) (hd : 1 ≤ d) : zMet zQv SHX yX6_setLetters cX6_setLetters 3 (none) d [.ref t, .int p1, .int p2] u (f_X6_setLetters t p1 p2 u) :=
  zMet_of (by decide +kernel) (fun as => Nat.le_of_ble_eq_true rfl) wwX6_setLetters.2.2.2.1 (by omega) (fun p l e s m args below meth c as dA D C => go_X6_setLetters C hd ht u)
/-! int riseOf(int) -/
def f_X6_riseOf_L73 (t : Nat) (p1 : Int32) (x2 : Int32) (x3 : Int32) (x4 : Int32) (s0 : Int32) (u : zM) : Option (Int32 × zM) :=
  zck (inB p1 6) <| zlx (gI u (t + 1) p1.toNatClampNeg) fun v9 => (if v9 = (1 : Int32) then some (s0, u) else if v9 = (2 : Int32) then some (x4, u) else if v9 = (3 : Int32) then some ((x3 / (2 : Int32)), u) else if v9 = (4 : Int32) then zck (inB p1 6) <| some ((s0 + (gI u (t + 2) p1.toNatClampNeg)), u) else if v9 = (5 : Int32) then some ((x4 + ((2 : Int32) * x2)), u) else if v9 = (6 : Int32) then zck (inB ((p1 * (4 : Int32)) + (zrem (gI u t 11) (4 : Int32))) 24) <| some (((x3 / (2 : Int32)) + (gI u (t + 5) ((p1 * (4 : Int32)) + (zrem (gI u t 11) (4 : Int32))).toNatClampNeg)), u) else some (x3, u))
def f_X6_riseOf_L53 (t : Nat) (p1 : Int32) (x2 : Int32) (x3 : Int32) (s0 : Int32) (u : zM) : Option (Int32 × zM) :=
  zck (inB p1 6) <| (if (gI u (t + 3) p1.toNatClampNeg) < (50 : Int32) then f_X6_riseOf_L73 t p1 x2 x3 s0 x3 u else f_X6_riseOf_L73 t p1 x2 x3 s0 (x3 - (3 : Int32)) u)
def f_X6_riseOf_L36 (t : Nat) (p1 : Int32) (x2 : Int32) (s0 : Int32) (u : zM) : Option (Int32 × zM) :=
  (if (zrem (gI u t 11) (3 : Int32)) = (0 : Int32) then f_X6_riseOf_L53 t p1 x2 s0 (s0 + (5 : Int32)) u else f_X6_riseOf_L53 t p1 x2 s0 s0 u)
def f_X6_riseOf (t : Nat) (p1 : Int32) (u : zM) : Option (Int32 × zM) :=
  zb (f_X6_countBeside t p1 (50 : Int32) u) fun y1 u2 => zb (f_X6_setLetters t p1 y1 u2) fun _ u4 => (zmo (gO u4 t 12) (f_X6_riseOf_L36 t p1 y1 (0 : Int32) u4) fun q5 => zck (isQ q5) (zmo (gO u4 t 12) none fun q18 => zck (isQ q18) (zb (f_X4_sum q18 (t + 10) u4) fun y20 u21 => f_X6_riseOf_L36 t p1 y1 y20 u21)))
set_option maxRecDepth 20000 in
theorem go_X6_riseOf_L73 {p : Program} {l : Launch} {e : Env} {s : State} {m : MethodId} {args : Array Value} {below : List Frame} {meth : Method} {c : Code} {as : Nat → Nat} {dA : Nat → ClassId} {D : va_G} {d : Nat} {t : Nat} {p1 : Int32} (C : zCx p s m args meth c as dA D SHX d 6 yX6_riseOf.cls cX6_riseOf ((some FieldType.int))) (hd : 3 ≤ d) (ht : zTn t) : ∀ (x2 : Int32) (x3 : Int32) (x4 : Int32) (s0 : Int32) (u : zM), Go p l e s m args below meth c as dA D SHX d 6 zQi 73 [(0, .ref t), (1, .int p1), (2, .int x2), (3, .int x3), (4, .int x4)] [.int s0] u (f_X6_riseOf_L73 t p1 x2 x3 x4 s0 u) := by
  intro x2 x3 x4 s0 u
  unfold f_X6_riseOf_L73
  refine G_istore (L' := [(5, .int s0), (0, .ref t), (1, .int p1), (2, .int x2), (3, .int x3), (4, .int x4)]) C dX6_riseOf_73 (by decide) rfl ?_
  refine G_aload_n C 1 dX6_riseOf_75 rfl rfl ?_
  refine G_getR (j := (t + 1)) C 1 ht.1 rfl rfl (by decide) wf6_9 dX6_riseOf_76 ?_
  refine G_iload_n C 2 dX6_riseOf_79 rfl rfl ?_
  refine G_iald C ht.2.1 dX6_riseOf_80 (fun hb8 => ?_)
  refine G_topi (fun v9 => ?_)
  refine G_if (fun h10 => ?_) (fun h10 => ?_)
  · refine G_tsIn (v := 1) (off := 39) (tgt := 120) C dX6_riseOf_81 h10 (by decide) (by decide) rfl (by decide) ?_
    refine G_iload C 0 dX6_riseOf_120 rfl ?_
    exact G_iret C dX6_riseOf_122
  · refine G_if (fun h11 => ?_) (fun h11 => ?_)
    · refine G_tsIn (v := 2) (off := 42) (tgt := 123) C dX6_riseOf_81 h11 (by decide) (by decide) rfl (by decide) ?_
      refine G_iload C 5 dX6_riseOf_123 rfl ?_
      exact G_iret C dX6_riseOf_125
    · refine G_if (fun h12 => ?_) (fun h12 => ?_)
      · refine G_tsIn (v := 3) (off := 45) (tgt := 126) C dX6_riseOf_81 h12 (by decide) (by decide) rfl (by decide) ?_
        refine G_iload_n C 4 dX6_riseOf_126 rfl rfl ?_
        refine G_iconst (v := 2) C dX6_riseOf_127 (by decide) ?_
        refine G_idiv C dX6_riseOf_128 (by decide) ?_
        exact G_iret C dX6_riseOf_129
      · refine G_if (fun h13 => ?_) (fun h13 => ?_)
        · refine G_tsIn (v := 4) (off := 49) (tgt := 130) C dX6_riseOf_81 h13 (by decide) (by decide) rfl (by decide) ?_
          refine G_iload C 0 dX6_riseOf_130 rfl ?_
          refine G_aload_n C 1 dX6_riseOf_132 rfl rfl ?_
          refine G_getR (j := (t + 2)) C 2 ht.1 rfl rfl (by decide) wf6_15 dX6_riseOf_133 ?_
          refine G_iload_n C 2 dX6_riseOf_136 rfl rfl ?_
          refine G_iald C ht.2.2.1 dX6_riseOf_137 (fun hb14 => ?_)
          refine G_iadd C dX6_riseOf_138 ?_
          exact G_iret C dX6_riseOf_139
        · refine G_if (fun h15 => ?_) (fun h15 => ?_)
          · refine G_tsIn (v := 5) (off := 59) (tgt := 140) C dX6_riseOf_81 h15 (by decide) (by decide) rfl (by decide) ?_
            refine G_iload C 5 dX6_riseOf_140 rfl ?_
            refine G_iconst (v := 2) C dX6_riseOf_142 (by decide) ?_
            refine G_iload_n C 3 dX6_riseOf_143 rfl rfl ?_
            refine G_imul C dX6_riseOf_144 ?_
            refine G_iadd C dX6_riseOf_145 ?_
            exact G_iret C dX6_riseOf_146
          · refine G_if (fun h16 => ?_) (fun h16 => ?_)
            · refine G_tsIn (v := 6) (off := 66) (tgt := 147) C dX6_riseOf_81 h16 (by decide) (by decide) rfl (by decide) ?_
              refine G_iload_n C 4 dX6_riseOf_147 rfl rfl ?_
              refine G_iconst (v := 2) C dX6_riseOf_148 (by decide) ?_
              refine G_idiv C dX6_riseOf_149 (by decide) ?_
              refine G_aload_n C 1 dX6_riseOf_150 rfl rfl ?_
              refine G_getR (j := (t + 5)) C 5 ht.1 rfl rfl (by decide) wf6_25 dX6_riseOf_151 ?_
              refine G_iload_n C 2 dX6_riseOf_154 rfl rfl ?_
              refine G_iconst (v := 4) C dX6_riseOf_155 (by decide) ?_
              refine G_imul C dX6_riseOf_156 ?_
              refine G_aload_n C 1 dX6_riseOf_157 rfl rfl ?_
              refine G_getI C 11 ht.1 rfl rfl (by decide) wf6_61 dX6_riseOf_158 ?_
              refine G_iconst (v := 4) C dX6_riseOf_161 (by decide) ?_
              refine G_irem C dX6_riseOf_162 (by decide) ?_
              refine G_iadd C dX6_riseOf_163 ?_
              refine G_iald C ht.2.2.2.2.2.1 dX6_riseOf_164 (fun hb17 => ?_)
              refine G_iadd C dX6_riseOf_165 ?_
              exact G_iret C dX6_riseOf_166
            · refine G_tsOut (tgt := 167) C dX6_riseOf_81 (by have e0 := lv_neT (a := 1) h10 rfl; have e1 := lv_neT (a := 2) h11 rfl; have e2 := lv_neT (a := 3) h12 rfl; have e3 := lv_neT (a := 4) h13 rfl; have e4 := lv_neT (a := 5) h15 rfl; have e5 := lv_neT (a := 6) h16 rfl; omega) (by decide) ?_
              refine G_iload_n C 4 dX6_riseOf_167 rfl rfl ?_
              exact G_iret C dX6_riseOf_168
set_option maxRecDepth 20000 in
theorem go_X6_riseOf_L53 {p : Program} {l : Launch} {e : Env} {s : State} {m : MethodId} {args : Array Value} {below : List Frame} {meth : Method} {c : Code} {as : Nat → Nat} {dA : Nat → ClassId} {D : va_G} {d : Nat} {t : Nat} {p1 : Int32} (C : zCx p s m args meth c as dA D SHX d 6 yX6_riseOf.cls cX6_riseOf ((some FieldType.int))) (hd : 3 ≤ d) (ht : zTn t) : ∀ (x2 : Int32) (x3 : Int32) (s0 : Int32) (u : zM), Go p l e s m args below meth c as dA D SHX d 6 zQi 53 [(0, .ref t), (1, .int p1), (2, .int x2), (3, .int x3)] [.int s0] u (f_X6_riseOf_L53 t p1 x2 x3 s0 u) := by
  intro x2 x3 s0 u
  unfold f_X6_riseOf_L53
  refine G_istore (L' := [(4, .int s0), (0, .ref t), (1, .int p1), (2, .int x2), (3, .int x3)]) C dX6_riseOf_53 (by decide) rfl ?_
  refine G_aload_n C 1 dX6_riseOf_55 rfl rfl ?_
  refine G_getR (j := (t + 3)) C 3 ht.1 rfl rfl (by decide) wf6_18 dX6_riseOf_56 ?_
  refine G_iload_n C 2 dX6_riseOf_59 rfl rfl ?_
  refine G_iald C ht.2.2.2.1 dX6_riseOf_60 (fun hb7 => ?_)
  refine G_bipush (v := 50) C dX6_riseOf_61 (by decide) ?_
  refine G_icmp_lt (tgt := 72) C dX6_riseOf_63 (by decide) (fun _ => ?_) (fun _ => ?_)
  · refine G_iload_n C 4 dX6_riseOf_72 rfl rfl ?_
    refine G_locals [1, 2, 3, 4, 0] rfl ?_
    exact go_X6_riseOf_L73 C hd ht x2 x3 s0 x3 u
  · refine G_iload_n C 4 dX6_riseOf_66 rfl rfl ?_
    refine G_iconst (v := 3) C dX6_riseOf_67 (by decide) ?_
    refine G_isub C dX6_riseOf_68 ?_
    refine G_goto (tgt := 73) C dX6_riseOf_69 (by decide) ?_
    refine G_locals [1, 2, 3, 4, 0] rfl ?_
    exact go_X6_riseOf_L73 C hd ht x2 x3 s0 (x3 - (3 : Int32)) u
set_option maxRecDepth 20000 in
theorem go_X6_riseOf_L36 {p : Program} {l : Launch} {e : Env} {s : State} {m : MethodId} {args : Array Value} {below : List Frame} {meth : Method} {c : Code} {as : Nat → Nat} {dA : Nat → ClassId} {D : va_G} {d : Nat} {t : Nat} {p1 : Int32} (C : zCx p s m args meth c as dA D SHX d 6 yX6_riseOf.cls cX6_riseOf ((some FieldType.int))) (hd : 3 ≤ d) (ht : zTn t) : ∀ (x2 : Int32) (s0 : Int32) (u : zM), Go p l e s m args below meth c as dA D SHX d 6 zQi 36 [(0, .ref t), (1, .int p1), (2, .int x2)] [.int s0] u (f_X6_riseOf_L36 t p1 x2 s0 u) := by
  intro x2 s0 u
  unfold f_X6_riseOf_L36
  refine G_istore_n (L' := [(3, .int s0), (0, .ref t), (1, .int p1), (2, .int x2)]) C dX6_riseOf_36 rfl (by decide) rfl ?_
  refine G_aload_n C 1 dX6_riseOf_37 rfl rfl ?_
  refine G_getI C 11 ht.1 rfl rfl (by decide) wf6_61 dX6_riseOf_38 ?_
  refine G_iconst (v := 3) C dX6_riseOf_41 (by decide) ?_
  refine G_irem C dX6_riseOf_42 (by decide) ?_
  refine G_if_ne (tgt := 52) C dX6_riseOf_43 (by decide) (fun _ => ?_) (fun _ => ?_)
  · refine G_iload_n C 0 dX6_riseOf_52 rfl rfl ?_
    refine G_locals [1, 2, 3, 0] rfl ?_
    exact go_X6_riseOf_L53 C hd ht x2 s0 s0 u
  · refine G_iload_n C 0 dX6_riseOf_46 rfl rfl ?_
    refine G_iconst (v := 5) C dX6_riseOf_47 (by decide) ?_
    refine G_iadd C dX6_riseOf_48 ?_
    refine G_goto (tgt := 53) C dX6_riseOf_49 (by decide) ?_
    refine G_locals [1, 2, 3, 0] rfl ?_
    exact go_X6_riseOf_L53 C hd ht x2 s0 (s0 + (5 : Int32)) u
set_option maxRecDepth 20000 in
theorem go_X6_riseOf {p : Program} {l : Launch} {e : Env} {s : State} {m : MethodId} {args : Array Value} {below : List Frame} {meth : Method} {c : Code} {as : Nat → Nat} {dA : Nat → ClassId} {D : va_G} {d : Nat} {t : Nat} {p1 : Int32} (C : zCx p s m args meth c as dA D SHX d 6 yX6_riseOf.cls cX6_riseOf ((some FieldType.int))) (hd : 3 ≤ d) (ht : zTn t) : ∀ (u : zM), Go p l e s m args below meth c as dA D SHX d 6 zQi 0 [(0, .ref t), (1, .int p1)] [] u (f_X6_riseOf t p1 u) := by
  intro u
  unfold f_X6_riseOf
  refine G_aload_n C 0 dX6_riseOf_0 rfl rfl ?_
  refine G_iload_n C 1 dX6_riseOf_1 rfl rfl ?_
  refine G_bipush (v := 50) C dX6_riseOf_2 (by decide) ?_
  refine G_callVi C (m_X6_countBeside ht p1 (50 : Int32) u (d - 1) (by omega)) (d' := d - 1) (As := [.int p1, .int (50 : Int32)]) (by omega) rfl wm6_81 wwX6_countBeside ht.1 rfl (Nat.le_of_ble_eq_true rfl) dX6_riseOf_4 (fun y1 u2 => ?_)
  refine G_istore_n (L' := [(2, .int y1), (0, .ref t), (1, .int p1)]) C dX6_riseOf_7 rfl (by decide) rfl ?_
  refine G_aload_n C 1 dX6_riseOf_8 rfl rfl ?_
  refine G_iload_n C 2 dX6_riseOf_9 rfl rfl ?_
  refine G_iload_n C 0 dX6_riseOf_10 rfl rfl ?_
  refine G_callVv C (m_X6_setLetters ht p1 y1 u2 (d - 1) (by omega)) (d' := d - 1) (As := [.int p1, .int y1]) (by omega) rfl wm6_85 wwX6_setLetters ht.1 rfl (Nat.le_of_ble_eq_true rfl) dX6_riseOf_11 (fun y3 u4 => ?_)
  refine G_aload_n C 1 dX6_riseOf_14 rfl rfl ?_
  refine G_getO C 12 ht.1 rfl rfl (by decide) wf6_64 dX6_riseOf_15 (fun _ => ?_) (fun q5 _ => ?_)
  · refine G_ifnonnullN C dX6_riseOf_18 ?_
    refine G_iconst (v := 0) C dX6_riseOf_21 (by decide) ?_
    refine G_goto (tgt := 36) C dX6_riseOf_22 (by decide) ?_
    refine G_locals [1, 2, 0] rfl ?_
    exact go_X6_riseOf_L36 C hd ht y1 (0 : Int32) u4
  · refine G_ck (fun hq6 => ?_)
    refine G_ifnonnull (tgt := 25) C dX6_riseOf_18 (by decide) ?_
    refine G_aload_n C 1 dX6_riseOf_25 rfl rfl ?_
    refine G_getO C 12 ht.1 rfl rfl (by decide) wf6_64 dX6_riseOf_26 (fun _ => ?_) (fun q18 _ => ?_)
    · refine G_aload_n C 1 dX6_riseOf_29 rfl rfl ?_
      refine G_getR (j := (t + 10)) C 14 ht.1 rfl rfl (by decide) wf6_46 dX6_riseOf_30 ?_
      exact G_none
    · refine G_ck (fun hq19 => ?_)
      refine G_aload_n C 1 dX6_riseOf_29 rfl rfl ?_
      refine G_getR (j := (t + 10)) C 14 ht.1 rfl rfl (by decide) wf6_46 dX6_riseOf_30 ?_
      refine G_callVi C (m_X4_sum (isQ_sh hq19) ht.2.2.2.2.2.2.2.2.2.2 u4 (d - 1) (by omega)) (d' := d - 1) (As := [.ref (t + 10)]) (by omega) rfl wm6_89 wwX4_sum (isQ_sh hq19).1 rfl (Nat.le_of_ble_eq_true rfl) dX6_riseOf_33 (fun y20 u21 => ?_)
      refine G_locals [1, 2, 0] rfl ?_
      exact go_X6_riseOf_L36 C hd ht y1 y20 u21
theorem m_X6_riseOf {t : Nat} (ht : zTn t) (p1 : Int32) (u : zM) (d : Nat) (hd : 3 ≤ d) : zMet zQi SHX yX6_riseOf cX6_riseOf 6 ((some FieldType.int)) d [.ref t, .int p1] u (f_X6_riseOf t p1 u) :=
  zMet_of (by decide +kernel) (fun as => Nat.le_of_ble_eq_true rfl) wwX6_riseOf.2.2.2.1 (by omega) (fun p l e s m args below meth c as dA D C => go_X6_riseOf C hd ht u)
/-! void goOneMinute() -/
def f_X6_goOneMinute_L161 (t : Nat) (u : zM) : Option (Unit × zM) :=
  zck (cpB (0 : Int32) (0 : Int32) (6 : Int32) 6 6) <| zlet (cpI u (t + 9) (0 : Int32).toNatClampNeg (t + 3) (0 : Int32).toNatClampNeg (6 : Int32).toNatClampNeg) fun u5 => zlet (sI u5 t 11 ((gI u5 t 11) + (1 : Int32))) fun u6 => some ((), u6)
def f_X6_goOneMinute_L38_b (t : Nat) (rc : Int32 → Int32 → Int32 → zM → Option (Unit × zM)) (x1 : Int32) (x2 : Int32) (x3 : Int32) (u : zM) : Option (Unit × zM) :=
  (if (gI u t 0) ≤ x3 then (if x1 < (0 : Int32) then f_X6_goOneMinute_L161 t u else zck (inB (gI u t 10) 4) <| zck (inB x1 6) <| zck (inB (gI u t 10) 4) <| zlet (sI u (t + 8) (gI u t 10).toNatClampNeg (if ((gI u (t + 8) (gI u t 10).toNatClampNeg) + (gI u (t + 3) x1.toNatClampNeg)) < (9999 : Int32) then ((gI u (t + 8) (gI u t 10).toNatClampNeg) + (gI u (t + 3) x1.toNatClampNeg)) else (9999 : Int32))) fun u9 => zck (inB x1 6) <| zlet (sI u9 (t + 9) x1.toNatClampNeg (0 : Int32)) fun u10 => f_X6_goOneMinute_L161 t u10) else zck (inB x3 6) <| zck (inB x3 6) <| zlet (sI u (t + 9) x3.toNatClampNeg (gI u (t + 3) x3.toNatClampNeg)) fun u12 => zck (inB x3 6) <| (if (gI u12 (t + 4) x3.toNatClampNeg) = (0 : Int32) then (if x3 = x1 then rc x1 x2 (x3 + (1 : Int32)) u12 else zb (f_X6_riseOf t x3 u12) fun y14 u15 => zb (f_X6_countBeside t x3 x2 u15) fun y16 u17 => zlx (y14 + ((10 : Int32) * y16)) fun v18 => zck (inB x3 6) <| zck (inB x3 6) <| zlet (sI u17 (t + 9) x3.toNatClampNeg (if (0 : Int32) < (if ((gI u17 (t + 3) x3.toNatClampNeg) + v18) < (99 : Int32) then ((gI u17 (t + 3) x3.toNatClampNeg) + v18) else (99 : Int32)) then (if ((gI u17 (t + 3) x3.toNatClampNeg) + v18) < (99 : Int32) then ((gI u17 (t + 3) x3.toNatClampNeg) + v18) else (99 : Int32)) else (0 : Int32))) fun u20 => rc x1 x2 (x3 + (1 : Int32)) u20) else rc x1 x2 (x3 + (1 : Int32)) u12))
def f_X6_goOneMinute_L38 (t : Nat) : Nat → Int32 → Int32 → Int32 → zM → Option (Unit × zM)
  | 0 => fun _ _ _ _ => none
  | fn + 1 => f_X6_goOneMinute_L38_b t (f_X6_goOneMinute_L38 t fn)
def f_X6_goOneMinute (t : Nat) (u : zM) : Option (Unit × zM) :=
  zb (f_X6_hasWork t (gI u t 10) u) fun y1 u2 => (if y1 = (0 : Int32) then zb (f_X6_spark t u2) fun y3 u4 => f_X6_goOneMinute_L38 t 400 (-1 : Int32) y3 (0 : Int32) u4 else zb (f_X6_isDone t (gI u2 t 10) u2) fun y21 u22 => (if y21 = (0 : Int32) then zb (f_X6_hottest t u22) fun y25 u26 => zb (f_X6_spark t u26) fun y27 u28 => f_X6_goOneMinute_L38 t 400 y25 y27 (0 : Int32) u28 else zb (f_X6_spark t u22) fun y23 u24 => f_X6_goOneMinute_L38 t 400 (-1 : Int32) y23 (0 : Int32) u24))
set_option maxRecDepth 20000 in
theorem go_X6_goOneMinute_L161 {p : Program} {l : Launch} {e : Env} {s : State} {m : MethodId} {args : Array Value} {below : List Frame} {meth : Method} {c : Code} {as : Nat → Nat} {dA : Nat → ClassId} {D : va_G} {d : Nat} {t : Nat} (C : zCx p s m args meth c as dA D SHX d 5 yX6_goOneMinute.cls cX6_goOneMinute (none)) (hd : 4 ≤ d) (ht : zTn t) : ∀ (u : zM), Go p l e s m args below meth c as dA D SHX d 5 zQv 161 [(0, .ref t)] [] u (f_X6_goOneMinute_L161 t u) := by
  intro u
  unfold f_X6_goOneMinute_L161
  refine G_aload_n C 0 dX6_goOneMinute_161 rfl rfl ?_
  refine G_getR (j := (t + 9)) C 13 ht.1 rfl rfl (by decide) wf6_41 dX6_goOneMinute_162 ?_
  refine G_iconst (v := 0) C dX6_goOneMinute_165 (by decide) ?_
  refine G_aload_n C 0 dX6_goOneMinute_166 rfl rfl ?_
  refine G_getR (j := (t + 3)) C 3 ht.1 rfl rfl (by decide) wf6_18 dX6_goOneMinute_167 ?_
  refine G_iconst (v := 0) C dX6_goOneMinute_170 (by decide) ?_
  refine G_bipush (v := 6) C dX6_goOneMinute_171 (by decide) ?_
  refine G_copyI C ht.2.2.2.2.2.2.2.2.2.1 ht.2.2.2.1 wm6_55 wAcN wAcS wSys (Nat.le_of_ble_eq_true rfl) dX6_goOneMinute_173 (fun _ u5 => ?_)
  refine G_aload_n C 0 dX6_goOneMinute_176 rfl rfl ?_
  refine G_dup C dX6_goOneMinute_177 rfl ?_
  refine G_getI C 11 ht.1 rfl rfl (by decide) wf6_61 dX6_goOneMinute_178 ?_
  refine G_iconst (v := 1) C dX6_goOneMinute_181 (by decide) ?_
  refine G_iadd C dX6_goOneMinute_182 ?_
  refine G_putI (ty := .int) C 11 ht.1 rfl rfl (by decide) wf6_61 rfl (by decide +kernel) rfl rfl dX6_goOneMinute_183 (fun u6 => ?_)
  exact G_vret C dX6_goOneMinute_186
set_option maxRecDepth 20000 in
theorem go_X6_goOneMinute_L38 {p : Program} {l : Launch} {e : Env} {s : State} {m : MethodId} {args : Array Value} {below : List Frame} {meth : Method} {c : Code} {as : Nat → Nat} {dA : Nat → ClassId} {D : va_G} {d : Nat} {t : Nat} (C : zCx p s m args meth c as dA D SHX d 5 yX6_goOneMinute.cls cX6_goOneMinute (none)) (hd : 4 ≤ d) (ht : zTn t) : ∀ (fn : Nat) (x1 : Int32) (x2 : Int32) (x3 : Int32) (u : zM), Go p l e s m args below meth c as dA D SHX d 5 zQv 38 [(0, .ref t), (1, .int x1), (2, .int x2), (3, .int x3)] [] u (f_X6_goOneMinute_L38 t fn x1 x2 x3 u) := by
  intro fn
  induction fn with
  | zero => intro x1 x2 x3 u; exact G_none
  | succ fn ih =>
    intro x1 x2 x3 u
    show Go p l e s m args below meth c as dA D SHX d 5 zQv 38 [(0, .ref t), (1, .int x1), (2, .int x2), (3, .int x3)] [] u (f_X6_goOneMinute_L38_b t (f_X6_goOneMinute_L38 t fn) x1 x2 x3 u)
    unfold f_X6_goOneMinute_L38_b
    refine G_iload_n C 3 dX6_goOneMinute_38 rfl rfl ?_
    refine G_aload_n C 0 dX6_goOneMinute_39 rfl rfl ?_
    refine G_getI C 0 ht.1 rfl rfl (by decide) wf6_49 dX6_goOneMinute_40 ?_
    refine G_icmp_ge (tgt := 119) C dX6_goOneMinute_43 (by decide) (fun _ => ?_) (fun _ => ?_)
    · refine G_iload_n C 1 dX6_goOneMinute_119 rfl rfl ?_
      refine G_if_lt (tgt := 161) C dX6_goOneMinute_120 (by decide) (fun _ => ?_) (fun _ => ?_)
      · refine G_locals [0] rfl ?_
        exact go_X6_goOneMinute_L161 C hd ht u
      · refine G_aload_n C 0 dX6_goOneMinute_123 rfl rfl ?_
        refine G_getR (j := (t + 8)) C 9 ht.1 rfl rfl (by decide) wf6_34 dX6_goOneMinute_124 ?_
        refine G_aload_n C 0 dX6_goOneMinute_127 rfl rfl ?_
        refine G_getI C 10 ht.1 rfl rfl (by decide) wf6_37 dX6_goOneMinute_128 ?_
        refine G_sipush (v := 9999) C dX6_goOneMinute_131 (by decide) ?_
        refine G_aload_n C 0 dX6_goOneMinute_134 rfl rfl ?_
        refine G_getR (j := (t + 8)) C 9 ht.1 rfl rfl (by decide) wf6_34 dX6_goOneMinute_135 ?_
        refine G_aload_n C 0 dX6_goOneMinute_138 rfl rfl ?_
        refine G_getI C 10 ht.1 rfl rfl (by decide) wf6_37 dX6_goOneMinute_139 ?_
        refine G_iald C ht.2.2.2.2.2.2.2.2.1 dX6_goOneMinute_142 (fun hb7 => ?_)
        refine G_aload_n C 0 dX6_goOneMinute_143 rfl rfl ?_
        refine G_getR (j := (t + 3)) C 3 ht.1 rfl rfl (by decide) wf6_18 dX6_goOneMinute_144 ?_
        refine G_iload_n C 1 dX6_goOneMinute_147 rfl rfl ?_
        refine G_iald C ht.2.2.2.1 dX6_goOneMinute_148 (fun hb8 => ?_)
        refine G_iadd C dX6_goOneMinute_149 ?_
        refine G_mmin C wm6_106 wMmin_s wMath wMmin_c (Nat.le_of_ble_eq_true rfl) dX6_goOneMinute_150 ?_
        refine G_iast C ht.2.2.2.2.2.2.2.2.1 dX6_goOneMinute_153 (fun _ u9 => ?_)
        refine G_aload_n C 0 dX6_goOneMinute_154 rfl rfl ?_
        refine G_getR (j := (t + 9)) C 13 ht.1 rfl rfl (by decide) wf6_41 dX6_goOneMinute_155 ?_
        refine G_iload_n C 1 dX6_goOneMinute_158 rfl rfl ?_
        refine G_iconst (v := 0) C dX6_goOneMinute_159 (by decide) ?_
        refine G_iast C ht.2.2.2.2.2.2.2.2.2.1 dX6_goOneMinute_160 (fun _ u10 => ?_)
        refine G_locals [0] rfl ?_
        exact go_X6_goOneMinute_L161 C hd ht u10
    · refine G_aload_n C 0 dX6_goOneMinute_46 rfl rfl ?_
      refine G_getR (j := (t + 9)) C 13 ht.1 rfl rfl (by decide) wf6_41 dX6_goOneMinute_47 ?_
      refine G_iload_n C 3 dX6_goOneMinute_50 rfl rfl ?_
      refine G_aload_n C 0 dX6_goOneMinute_51 rfl rfl ?_
      refine G_getR (j := (t + 3)) C 3 ht.1 rfl rfl (by decide) wf6_18 dX6_goOneMinute_52 ?_
      refine G_iload_n C 3 dX6_goOneMinute_55 rfl rfl ?_
      refine G_iald C ht.2.2.2.1 dX6_goOneMinute_56 (fun hb11 => ?_)
      refine G_iast C ht.2.2.2.2.2.2.2.2.2.1 dX6_goOneMinute_57 (fun _ u12 => ?_)
      refine G_aload_n C 0 dX6_goOneMinute_58 rfl rfl ?_
      refine G_getR (j := (t + 4)) C 4 ht.1 rfl rfl (by decide) wf6_21 dX6_goOneMinute_59 ?_
      refine G_iload_n C 3 dX6_goOneMinute_62 rfl rfl ?_
      refine G_zald C ht.2.2.2.2.1 dX6_goOneMinute_63 (fun hb13 => ?_)
      refine G_if_ne (tgt := 113) C dX6_goOneMinute_64 (by decide) (fun _ => ?_) (fun _ => ?_)
      · refine G_iinc (v := 1) (L' := [(3, .int (x3 + (1 : Int32))), (0, .ref t), (1, .int x1), (2, .int x2)]) C 3 dX6_goOneMinute_113 rfl (by decide) (by decide) rfl ?_
        refine G_goto (tgt := 38) C dX6_goOneMinute_116 (by decide) ?_
        refine G_locals [1, 2, 3, 0] rfl ?_
        exact ih x1 x2 (x3 + (1 : Int32)) u12
      · refine G_iload_n C 3 dX6_goOneMinute_67 rfl rfl ?_
        refine G_iload_n C 1 dX6_goOneMinute_68 rfl rfl ?_
        refine G_icmp_eq (tgt := 113) C dX6_goOneMinute_69 (by decide) (fun _ => ?_) (fun _ => ?_)
        · refine G_iinc (v := 1) (L' := [(3, .int (x3 + (1 : Int32))), (0, .ref t), (1, .int x1), (2, .int x2)]) C 3 dX6_goOneMinute_113 rfl (by decide) (by decide) rfl ?_
          refine G_goto (tgt := 38) C dX6_goOneMinute_116 (by decide) ?_
          refine G_locals [1, 2, 3, 0] rfl ?_
          exact ih x1 x2 (x3 + (1 : Int32)) u12
        · refine G_aload_n C 0 dX6_goOneMinute_72 rfl rfl ?_
          refine G_iload_n C 3 dX6_goOneMinute_73 rfl rfl ?_
          refine G_callVi C (m_X6_riseOf ht x3 u12 (d - 1) (by omega)) (d' := d - 1) (As := [.int x3]) (by omega) rfl wm6_102 wwX6_riseOf ht.1 rfl (Nat.le_of_ble_eq_true rfl) dX6_goOneMinute_74 (fun y14 u15 => ?_)
          refine G_bipush (v := 10) C dX6_goOneMinute_77 (by decide) ?_
          refine G_aload_n C 0 dX6_goOneMinute_79 rfl rfl ?_
          refine G_iload_n C 3 dX6_goOneMinute_80 rfl rfl ?_
          refine G_iload_n C 2 dX6_goOneMinute_81 rfl rfl ?_
          refine G_callVi C (m_X6_countBeside ht x3 x2 u15 (d - 1) (by omega)) (d' := d - 1) (As := [.int x3, .int x2]) (by omega) rfl wm6_81 wwX6_countBeside ht.1 rfl (Nat.le_of_ble_eq_true rfl) dX6_goOneMinute_82 (fun y16 u17 => ?_)
          refine G_imul C dX6_goOneMinute_85 ?_
          refine G_iadd C dX6_goOneMinute_86 ?_
          refine G_topi (fun v18 => ?_)
          refine G_istore (L' := [(4, .int v18), (0, .ref t), (1, .int x1), (2, .int x2), (3, .int x3)]) C dX6_goOneMinute_87 (by decide) rfl ?_
          refine G_aload_n C 1 dX6_goOneMinute_89 rfl rfl ?_
          refine G_getR (j := (t + 9)) C 13 ht.1 rfl rfl (by decide) wf6_41 dX6_goOneMinute_90 ?_
          refine G_iload_n C 4 dX6_goOneMinute_93 rfl rfl ?_
          refine G_iconst (v := 0) C dX6_goOneMinute_94 (by decide) ?_
          refine G_bipush (v := 99) C dX6_goOneMinute_95 (by decide) ?_
          refine G_aload_n C 1 dX6_goOneMinute_97 rfl rfl ?_
          refine G_getR (j := (t + 3)) C 3 ht.1 rfl rfl (by decide) wf6_18 dX6_goOneMinute_98 ?_
          refine G_iload_n C 4 dX6_goOneMinute_101 rfl rfl ?_
          refine G_iald C ht.2.2.2.1 dX6_goOneMinute_102 (fun hb19 => ?_)
          refine G_iload C 0 dX6_goOneMinute_103 rfl ?_
          refine G_iadd C dX6_goOneMinute_105 ?_
          refine G_mmin C wm6_106 wMmin_s wMath wMmin_c (Nat.le_of_ble_eq_true rfl) dX6_goOneMinute_106 ?_
          refine G_mmax C wm6_111 wMmax_s wMath wMmax_c (Nat.le_of_ble_eq_true rfl) dX6_goOneMinute_109 ?_
          refine G_iast C ht.2.2.2.2.2.2.2.2.2.1 dX6_goOneMinute_112 (fun _ u20 => ?_)
          refine G_iinc (v := 1) (L' := [(3, .int (x3 + (1 : Int32))), (4, .int v18), (0, .ref t), (1, .int x1), (2, .int x2)]) C 4 dX6_goOneMinute_113 rfl (by decide) (by decide) rfl ?_
          refine G_goto (tgt := 38) C dX6_goOneMinute_116 (by decide) ?_
          refine G_locals [2, 3, 4, 0] rfl ?_
          exact ih x1 x2 (x3 + (1 : Int32)) u20
set_option maxRecDepth 20000 in
theorem go_X6_goOneMinute {p : Program} {l : Launch} {e : Env} {s : State} {m : MethodId} {args : Array Value} {below : List Frame} {meth : Method} {c : Code} {as : Nat → Nat} {dA : Nat → ClassId} {D : va_G} {d : Nat} {t : Nat} (C : zCx p s m args meth c as dA D SHX d 5 yX6_goOneMinute.cls cX6_goOneMinute (none)) (hd : 4 ≤ d) (ht : zTn t) : ∀ (u : zM), Go p l e s m args below meth c as dA D SHX d 5 zQv 0 [(0, .ref t)] [] u (f_X6_goOneMinute t u) := by
  intro u
  unfold f_X6_goOneMinute
  refine G_aload_n C 0 dX6_goOneMinute_0 rfl rfl ?_
  refine G_aload_n C 0 dX6_goOneMinute_1 rfl rfl ?_
  refine G_getI C 10 ht.1 rfl rfl (by decide) wf6_37 dX6_goOneMinute_2 ?_
  refine G_callVi C (m_X6_hasWork ht (gI u t 10) u (d - 1) (by omega)) (d' := d - 1) (As := [.int (gI u t 10)]) (by omega) rfl wm6_72 wwX6_hasWork ht.1 rfl (Nat.le_of_ble_eq_true rfl) dX6_goOneMinute_5 (fun y1 u2 => ?_)
  refine G_if_eq (tgt := 29) C dX6_goOneMinute_8 (by decide) (fun _ => ?_) (fun _ => ?_)
  · refine G_iconst (v := -1) C dX6_goOneMinute_29 (by decide) ?_
    refine G_istore_n (L' := [(1, .int (-1 : Int32)), (0, .ref t)]) C dX6_goOneMinute_30 rfl (by decide) rfl ?_
    refine G_aload_n C 1 dX6_goOneMinute_31 rfl rfl ?_
    refine G_callVi C (m_X6_spark ht u2 (d - 1) (by omega)) (d' := d - 1) (As := []) (by omega) rfl wm6_100 wwX6_spark ht.1 rfl (Nat.le_of_ble_eq_true rfl) dX6_goOneMinute_32 (fun y3 u4 => ?_)
    refine G_istore_n (L' := [(2, .int y3), (1, .int (-1 : Int32)), (0, .ref t)]) C dX6_goOneMinute_35 rfl (by decide) rfl ?_
    refine G_iconst (v := 0) C dX6_goOneMinute_36 (by decide) ?_
    refine G_istore_n (L' := [(3, .int (0 : Int32)), (2, .int y3), (1, .int (-1 : Int32)), (0, .ref t)]) C dX6_goOneMinute_37 rfl (by decide) rfl ?_
    refine G_locals [3, 2, 1, 0] rfl ?_
    exact go_X6_goOneMinute_L38 C hd ht 400 (-1 : Int32) y3 (0 : Int32) u4
  · refine G_aload_n C 0 dX6_goOneMinute_11 rfl rfl ?_
    refine G_aload_n C 0 dX6_goOneMinute_12 rfl rfl ?_
    refine G_getI C 10 ht.1 rfl rfl (by decide) wf6_37 dX6_goOneMinute_13 ?_
    refine G_callVi C (m_X6_isDone ht (gI u2 t 10) u2 (d - 1) (by omega)) (d' := d - 1) (As := [.int (gI u2 t 10)]) (by omega) rfl wm6_75 wwX6_isDone ht.1 rfl (Nat.le_of_ble_eq_true rfl) dX6_goOneMinute_16 (fun y21 u22 => ?_)
    refine G_if_ne (tgt := 29) C dX6_goOneMinute_19 (by decide) (fun _ => ?_) (fun _ => ?_)
    · refine G_iconst (v := -1) C dX6_goOneMinute_29 (by decide) ?_
      refine G_istore_n (L' := [(1, .int (-1 : Int32)), (0, .ref t)]) C dX6_goOneMinute_30 rfl (by decide) rfl ?_
      refine G_aload_n C 1 dX6_goOneMinute_31 rfl rfl ?_
      refine G_callVi C (m_X6_spark ht u22 (d - 1) (by omega)) (d' := d - 1) (As := []) (by omega) rfl wm6_100 wwX6_spark ht.1 rfl (Nat.le_of_ble_eq_true rfl) dX6_goOneMinute_32 (fun y23 u24 => ?_)
      refine G_istore_n (L' := [(2, .int y23), (1, .int (-1 : Int32)), (0, .ref t)]) C dX6_goOneMinute_35 rfl (by decide) rfl ?_
      refine G_iconst (v := 0) C dX6_goOneMinute_36 (by decide) ?_
      refine G_istore_n (L' := [(3, .int (0 : Int32)), (2, .int y23), (1, .int (-1 : Int32)), (0, .ref t)]) C dX6_goOneMinute_37 rfl (by decide) rfl ?_
      refine G_locals [3, 2, 1, 0] rfl ?_
      exact go_X6_goOneMinute_L38 C hd ht 400 (-1 : Int32) y23 (0 : Int32) u24
    · refine G_aload_n C 0 dX6_goOneMinute_22 rfl rfl ?_
      refine G_callVi C (m_X6_hottest ht u22 (d - 1) (by omega)) (d' := d - 1) (As := []) (by omega) rfl wm6_96 wwX6_hottest ht.1 rfl (Nat.le_of_ble_eq_true rfl) dX6_goOneMinute_23 (fun y25 u26 => ?_)
      refine G_goto (tgt := 30) C dX6_goOneMinute_26 (by decide) ?_
      refine G_istore_n (L' := [(1, .int y25), (0, .ref t)]) C dX6_goOneMinute_30 rfl (by decide) rfl ?_
      refine G_aload_n C 1 dX6_goOneMinute_31 rfl rfl ?_
      refine G_callVi C (m_X6_spark ht u26 (d - 1) (by omega)) (d' := d - 1) (As := []) (by omega) rfl wm6_100 wwX6_spark ht.1 rfl (Nat.le_of_ble_eq_true rfl) dX6_goOneMinute_32 (fun y27 u28 => ?_)
      refine G_istore_n (L' := [(2, .int y27), (1, .int y25), (0, .ref t)]) C dX6_goOneMinute_35 rfl (by decide) rfl ?_
      refine G_iconst (v := 0) C dX6_goOneMinute_36 (by decide) ?_
      refine G_istore_n (L' := [(3, .int (0 : Int32)), (2, .int y27), (1, .int y25), (0, .ref t)]) C dX6_goOneMinute_37 rfl (by decide) rfl ?_
      refine G_locals [3, 2, 1, 0] rfl ?_
      exact go_X6_goOneMinute_L38 C hd ht 400 y25 y27 (0 : Int32) u28
theorem m_X6_goOneMinute {t : Nat} (ht : zTn t)  (u : zM) (d : Nat) (hd : 4 ≤ d) : zMet zQv SHX yX6_goOneMinute cX6_goOneMinute 5 (none) d [.ref t] u (f_X6_goOneMinute t u) :=
  zMet_of (by decide +kernel) (fun as => Nat.le_of_ble_eq_true rfl) wwX6_goOneMinute.2.2.2.1 (by omega) (fun p l e s m args below meth c as dA D C => go_X6_goOneMinute C hd ht u)
/-! void goOn(int) -/
def f_X6_goOn_L2_b (t : Nat) (p1 : Int32) (rc : Int32 → zM → Option (Unit × zM)) (x2 : Int32) (u : zM) : Option (Unit × zM) :=
  (if p1 ≤ x2 then some ((), u) else zb (f_X6_goOneMinute t u) fun _ u2 => rc (x2 + (1 : Int32)) u2)
def f_X6_goOn_L2 (t : Nat) (p1 : Int32) : Nat → Int32 → zM → Option (Unit × zM)
  | 0 => fun _ _ => none
  | fn + 1 => f_X6_goOn_L2_b t p1 (f_X6_goOn_L2 t p1 fn)
def f_X6_goOn (t : Nat) (p1 : Int32) (u : zM) : Option (Unit × zM) :=
  f_X6_goOn_L2 t p1 400 (0 : Int32) u
set_option maxRecDepth 20000 in
theorem go_X6_goOn_L2 {p : Program} {l : Launch} {e : Env} {s : State} {m : MethodId} {args : Array Value} {below : List Frame} {meth : Method} {c : Code} {as : Nat → Nat} {dA : Nat → ClassId} {D : va_G} {d : Nat} {t : Nat} {p1 : Int32} (C : zCx p s m args meth c as dA D SHX d 3 yX6_goOn.cls cX6_goOn (none)) (hd : 5 ≤ d) (ht : zTn t) : ∀ (fn : Nat) (x2 : Int32) (u : zM), Go p l e s m args below meth c as dA D SHX d 3 zQv 2 [(0, .ref t), (1, .int p1), (2, .int x2)] [] u (f_X6_goOn_L2 t p1 fn x2 u) := by
  intro fn
  induction fn with
  | zero => intro x2 u; exact G_none
  | succ fn ih =>
    intro x2 u
    show Go p l e s m args below meth c as dA D SHX d 3 zQv 2 [(0, .ref t), (1, .int p1), (2, .int x2)] [] u (f_X6_goOn_L2_b t p1 (f_X6_goOn_L2 t p1 fn) x2 u)
    unfold f_X6_goOn_L2_b
    refine G_iload_n C 2 dX6_goOn_2 rfl rfl ?_
    refine G_iload_n C 1 dX6_goOn_3 rfl rfl ?_
    refine G_icmp_ge (tgt := 17) C dX6_goOn_4 (by decide) (fun _ => ?_) (fun _ => ?_)
    · exact G_vret C dX6_goOn_17
    · refine G_aload_n C 0 dX6_goOn_7 rfl rfl ?_
      refine G_callVv C (m_X6_goOneMinute ht u (d - 1) (by omega)) (d' := d - 1) (As := []) (by omega) rfl wm6_93 wwX6_goOneMinute ht.1 rfl (Nat.le_of_ble_eq_true rfl) dX6_goOn_8 (fun y1 u2 => ?_)
      refine G_iinc (v := 1) (L' := [(2, .int (x2 + (1 : Int32))), (0, .ref t), (1, .int p1)]) C 2 dX6_goOn_11 rfl (by decide) (by decide) rfl ?_
      refine G_goto (tgt := 2) C dX6_goOn_14 (by decide) ?_
      refine G_locals [1, 2, 0] rfl ?_
      exact ih (x2 + (1 : Int32)) u2
set_option maxRecDepth 20000 in
theorem go_X6_goOn {p : Program} {l : Launch} {e : Env} {s : State} {m : MethodId} {args : Array Value} {below : List Frame} {meth : Method} {c : Code} {as : Nat → Nat} {dA : Nat → ClassId} {D : va_G} {d : Nat} {t : Nat} {p1 : Int32} (C : zCx p s m args meth c as dA D SHX d 3 yX6_goOn.cls cX6_goOn (none)) (hd : 5 ≤ d) (ht : zTn t) : ∀ (u : zM), Go p l e s m args below meth c as dA D SHX d 3 zQv 0 [(0, .ref t), (1, .int p1)] [] u (f_X6_goOn t p1 u) := by
  intro u
  unfold f_X6_goOn
  refine G_iconst (v := 0) C dX6_goOn_0 (by decide) ?_
  refine G_istore_n (L' := [(2, .int (0 : Int32)), (0, .ref t), (1, .int p1)]) C dX6_goOn_1 rfl (by decide) rfl ?_
  refine G_locals [1, 2, 0] rfl ?_
  exact go_X6_goOn_L2 C hd ht 400 (0 : Int32) u
theorem m_X6_goOn {t : Nat} (ht : zTn t) (p1 : Int32) (u : zM) (d : Nat) (hd : 5 ≤ d) : zMet zQv SHX yX6_goOn cX6_goOn 3 (none) d [.ref t, .int p1] u (f_X6_goOn t p1 u) :=
  zMet_of (by decide +kernel) (fun as => Nat.le_of_ble_eq_true rfl) wwX6_goOn.2.2.2.1 (by omega) (fun p l e s m args below meth c as dA D C => go_X6_goOn C hd ht u)
/-! void become(StruckWhile$Whole) -/
def f_X7_become (t : Nat) (o : Nat) (u : zM) : Option (Unit × zM) :=
  zb (f_X6_become (t + 1) (o + 1) u) fun _ u2 => zb (f_X3_become (t + 12) 5 (o + 12) u2) fun _ u4 => zb (f_X3_become (t + 16) 10 (o + 16) u4) fun _ u6 => zb (f_X3_become (t + 20) 8 (o + 20) u6) fun _ u8 => some ((), u8)
set_option maxRecDepth 20000 in
theorem go_X7_become {p : Program} {l : Launch} {e : Env} {s : State} {m : MethodId} {args : Array Value} {below : List Frame} {meth : Method} {c : Code} {as : Nat → Nat} {dA : Nat → ClassId} {D : va_G} {d : Nat} {t : Nat} {o : Nat} (C : zCx p s m args meth c as dA D SHX d 2 yX7_become.cls cX7_become (none)) (hd : 2 ≤ d) (ht : zWh t) (ho : zWh o) : ∀ (u : zM), Go p l e s m args below meth c as dA D SHX d 2 zQv 0 [(0, .ref t), (1, .ref o)] [] u (f_X7_become t o u) := by
  intro u
  unfold f_X7_become
  refine G_aload_n C 0 dX7_become_0 rfl rfl ?_
  refine G_getR (j := (t + 1)) C 0 ht.1 rfl rfl (by decide) wf7_12 dX7_become_1 ?_
  refine G_aload_n C 1 dX7_become_4 rfl rfl ?_
  refine G_getR (j := (o + 1)) C 0 ho.1 rfl rfl (by decide) wf7_12 dX7_become_5 ?_
  refine G_callVv C (m_X6_become ht.2.1 ho.2.1 u (d - 1) (by omega)) (d' := d - 1) (As := [.ref (o + 1)]) (by omega) rfl wm7_33 wwX6_become ht.2.1.1 rfl (Nat.le_of_ble_eq_true rfl) dX7_become_8 (fun y1 u2 => ?_)
  refine G_aload_n C 0 dX7_become_11 rfl rfl ?_
  refine G_getR (j := (t + 12)) C 1 ht.1 rfl rfl (by decide) wf7_23 dX7_become_12 ?_
  refine G_aload_n C 1 dX7_become_15 rfl rfl ?_
  refine G_getR (j := (o + 12)) C 1 ho.1 rfl rfl (by decide) wf7_23 dX7_become_16 ?_
  refine G_callVv C (m_X3_become ht.2.2.1 ho.2.2.1 u2 (d - 1) (by omega)) (d' := d - 1) (As := [.ref (o + 12)]) (by omega) rfl wm7_37 wwX3_become ht.2.2.1.1 rfl (Nat.le_of_ble_eq_true rfl) dX7_become_19 (fun y3 u4 => ?_)
  refine G_aload_n C 0 dX7_become_22 rfl rfl ?_
  refine G_getR (j := (t + 16)) C 2 ht.1 rfl rfl (by decide) wf7_27 dX7_become_23 ?_
  refine G_aload_n C 1 dX7_become_26 rfl rfl ?_
  refine G_getR (j := (o + 16)) C 2 ho.1 rfl rfl (by decide) wf7_27 dX7_become_27 ?_
  refine G_callVv C (m_X3_become ht.2.2.2.1 ho.2.2.2.1 u4 (d - 1) (by omega)) (d' := d - 1) (As := [.ref (o + 16)]) (by omega) rfl wm7_37 wwX3_become ht.2.2.2.1.1 rfl (Nat.le_of_ble_eq_true rfl) dX7_become_30 (fun y5 u6 => ?_)
  refine G_aload_n C 0 dX7_become_33 rfl rfl ?_
  refine G_getR (j := (t + 20)) C 3 ht.1 rfl rfl (by decide) wf7_30 dX7_become_34 ?_
  refine G_aload_n C 1 dX7_become_37 rfl rfl ?_
  refine G_getR (j := (o + 20)) C 3 ho.1 rfl rfl (by decide) wf7_30 dX7_become_38 ?_
  refine G_callVv C (m_X3_become ht.2.2.2.2 ho.2.2.2.2 u6 (d - 1) (by omega)) (d' := d - 1) (As := [.ref (o + 20)]) (by omega) rfl wm7_37 wwX3_become ht.2.2.2.2.1 rfl (Nat.le_of_ble_eq_true rfl) dX7_become_41 (fun y7 u8 => ?_)
  exact G_vret C dX7_become_44
theorem m_X7_become {t : Nat} {o : Nat} (ht : zWh t) (ho : zWh o)  (u : zM) (d : Nat) (hd : 2 ≤ d) : zMet zQv SHX yX7_become cX7_become 2 (none) d [.ref t, .ref o] u (f_X7_become t o u) :=
  zMet_of (by decide +kernel) (fun as => Nat.le_of_ble_eq_true rfl) wwX7_become.2.2.2.1 (by omega) (fun p l e s m args below meth c as dA D C => go_X7_become C hd ht ho u)
/-! boolean has(int) -/
def f_X5_has (p1 : Int32) (u : zM) : Option (Int32 × zM) :=
  (if p1 < (0 : Int32) then some ((0 : Int32), u) else (if (6 : Int32) ≤ p1 then some ((0 : Int32), u) else some ((1 : Int32), u)))
set_option maxRecDepth 20000 in
theorem go_X5_has {p : Program} {l : Launch} {e : Env} {s : State} {m : MethodId} {args : Array Value} {below : List Frame} {meth : Method} {c : Code} {as : Nat → Nat} {dA : Nat → ClassId} {D : va_G} {d : Nat} {p1 : Int32} (C : zCx p s m args meth c as dA D SHX d 2 yX5_has.cls cX5_has ((some FieldType.boolean))) (hd : 1 ≤ d) : ∀ (u : zM), Go p l e s m args below meth c as dA D SHX d 2 zQi 0 [(0, .ref 68), (1, .int p1)] [] u (f_X5_has p1 u) := by
  intro u
  unfold f_X5_has
  refine G_iload_n C 1 dX5_has_0 rfl rfl ?_
  refine G_if_lt (tgt := 14) C dX5_has_1 (by decide) (fun _ => ?_) (fun _ => ?_)
  · refine G_iconst (v := 0) C dX5_has_14 (by decide) ?_
    exact G_zret C rfl dX5_has_15
  · refine G_iload_n C 1 dX5_has_4 rfl rfl ?_
    refine G_bipush (v := 6) C dX5_has_5 (by decide) ?_
    refine G_icmp_ge (tgt := 14) C dX5_has_7 (by decide) (fun _ => ?_) (fun _ => ?_)
    · refine G_iconst (v := 0) C dX5_has_14 (by decide) ?_
      exact G_zret C rfl dX5_has_15
    · refine G_iconst (v := 1) C dX5_has_10 (by decide) ?_
      refine G_goto (tgt := 15) C dX5_has_11 (by decide) ?_
      exact G_zret C rfl dX5_has_15
theorem m_X5_has   (p1 : Int32) (u : zM) (d : Nat) (hd : 1 ≤ d) : zMet zQi SHX yX5_has cX5_has 2 ((some FieldType.boolean)) d [.ref 68, .int p1] u (f_X5_has p1 u) :=
  zMet_of (by decide +kernel) (fun as => Nat.le_of_ble_eq_true rfl) wwX5_has.2.2.2.1 (by omega) (fun p l e s m args below meth c as dA D C => go_X5_has C hd u)
/-! boolean holds(int) -/
def f_X5_holds (p1 : Int32) (u : zM) : Option (Int32 × zM) :=
  zck (inB p1 6) <| (if (gI u 69 p1.toNatClampNeg) = (-1 : Int32) then some ((0 : Int32), u) else some ((1 : Int32), u))
set_option maxRecDepth 20000 in
theorem go_X5_holds {p : Program} {l : Launch} {e : Env} {s : State} {m : MethodId} {args : Array Value} {below : List Frame} {meth : Method} {c : Code} {as : Nat → Nat} {dA : Nat → ClassId} {D : va_G} {d : Nat} {p1 : Int32} (C : zCx p s m args meth c as dA D SHX d 2 yX5_holds.cls cX5_holds ((some FieldType.boolean))) (hd : 1 ≤ d) : ∀ (u : zM), Go p l e s m args below meth c as dA D SHX d 2 zQi 0 [(0, .ref 68), (1, .int p1)] [] u (f_X5_holds p1 u) := by
  intro u
  unfold f_X5_holds
  refine G_aload_n C 0 dX5_holds_0 rfl rfl ?_
  refine G_getR (j := 69) C 0 shX_68 rfl rfl (by decide) wf5_9 dX5_holds_1 ?_
  refine G_iload_n C 1 dX5_holds_4 rfl rfl ?_
  refine G_iald C shX_69 dX5_holds_5 (fun hb1 => ?_)
  refine G_iconst (v := -1) C dX5_holds_6 (by decide) ?_
  refine G_icmp_eq (tgt := 14) C dX5_holds_7 (by decide) (fun _ => ?_) (fun _ => ?_)
  · refine G_iconst (v := 0) C dX5_holds_14 (by decide) ?_
    exact G_zret C rfl dX5_holds_15
  · refine G_iconst (v := 1) C dX5_holds_10 (by decide) ?_
    refine G_goto (tgt := 15) C dX5_holds_11 (by decide) ?_
    exact G_zret C rfl dX5_holds_15
theorem m_X5_holds   (p1 : Int32) (u : zM) (d : Nat) (hd : 1 ≤ d) : zMet zQi SHX yX5_holds cX5_holds 2 ((some FieldType.boolean)) d [.ref 68, .int p1] u (f_X5_holds p1 u) :=
  zMet_of (by decide +kernel) (fun as => Nat.le_of_ble_eq_true rfl) wwX5_holds.2.2.2.1 (by omega) (fun p l e s m args below meth c as dA D C => go_X5_holds C hd u)
/-! boolean hasItems(int, int, int) -/
def f_X5_hasItems (p1 : Int32) (p2 : Int32) (p3 : Int32) (u : zM) : Option (Int32 × zM) :=
  (if p3 < (0 : Int32) then some ((0 : Int32), u) else zck (inB p1 6) <| (if (gI u 70 p1.toNatClampNeg) < p3 then some ((0 : Int32), u) else (if p2 < (0 : Int32) then some ((0 : Int32), u) else zck (inB p1 6) <| (if ((gI u 70 p1.toNatClampNeg) - p3) < p2 then some ((0 : Int32), u) else some ((1 : Int32), u)))))
set_option maxRecDepth 20000 in
theorem go_X5_hasItems {p : Program} {l : Launch} {e : Env} {s : State} {m : MethodId} {args : Array Value} {below : List Frame} {meth : Method} {c : Code} {as : Nat → Nat} {dA : Nat → ClassId} {D : va_G} {d : Nat} {p1 : Int32} {p2 : Int32} {p3 : Int32} (C : zCx p s m args meth c as dA D SHX d 4 yX5_hasItems.cls cX5_hasItems ((some FieldType.boolean))) (hd : 1 ≤ d) : ∀ (u : zM), Go p l e s m args below meth c as dA D SHX d 4 zQi 0 [(0, .ref 68), (1, .int p1), (2, .int p2), (3, .int p3)] [] u (f_X5_hasItems p1 p2 p3 u) := by
  intro u
  unfold f_X5_hasItems
  refine G_iload_n C 3 dX5_hasItems_0 rfl rfl ?_
  refine G_if_lt (tgt := 34) C dX5_hasItems_1 (by decide) (fun _ => ?_) (fun _ => ?_)
  · refine G_iconst (v := 0) C dX5_hasItems_34 (by decide) ?_
    exact G_zret C rfl dX5_hasItems_35
  · refine G_iload_n C 3 dX5_hasItems_4 rfl rfl ?_
    refine G_aload_n C 0 dX5_hasItems_5 rfl rfl ?_
    refine G_getR (j := 70) C 1 shX_68 rfl rfl (by decide) wf5_15 dX5_hasItems_6 ?_
    refine G_iload_n C 1 dX5_hasItems_9 rfl rfl ?_
    refine G_iald C shX_70 dX5_hasItems_10 (fun hb1 => ?_)
    refine G_icmp_gt (tgt := 34) C dX5_hasItems_11 (by decide) (fun _ => ?_) (fun _ => ?_)
    · refine G_iconst (v := 0) C dX5_hasItems_34 (by decide) ?_
      exact G_zret C rfl dX5_hasItems_35
    · refine G_iload_n C 2 dX5_hasItems_14 rfl rfl ?_
      refine G_if_lt (tgt := 34) C dX5_hasItems_15 (by decide) (fun _ => ?_) (fun _ => ?_)
      · refine G_iconst (v := 0) C dX5_hasItems_34 (by decide) ?_
        exact G_zret C rfl dX5_hasItems_35
      · refine G_iload_n C 2 dX5_hasItems_18 rfl rfl ?_
        refine G_aload_n C 0 dX5_hasItems_19 rfl rfl ?_
        refine G_getR (j := 70) C 1 shX_68 rfl rfl (by decide) wf5_15 dX5_hasItems_20 ?_
        refine G_iload_n C 1 dX5_hasItems_23 rfl rfl ?_
        refine G_iald C shX_70 dX5_hasItems_24 (fun hb2 => ?_)
        refine G_iload_n C 3 dX5_hasItems_25 rfl rfl ?_
        refine G_isub C dX5_hasItems_26 ?_
        refine G_icmp_gt (tgt := 34) C dX5_hasItems_27 (by decide) (fun _ => ?_) (fun _ => ?_)
        · refine G_iconst (v := 0) C dX5_hasItems_34 (by decide) ?_
          exact G_zret C rfl dX5_hasItems_35
        · refine G_iconst (v := 1) C dX5_hasItems_30 (by decide) ?_
          refine G_goto (tgt := 35) C dX5_hasItems_31 (by decide) ?_
          exact G_zret C rfl dX5_hasItems_35
theorem m_X5_hasItems   (p1 : Int32) (p2 : Int32) (p3 : Int32) (u : zM) (d : Nat) (hd : 1 ≤ d) : zMet zQi SHX yX5_hasItems cX5_hasItems 4 ((some FieldType.boolean)) d [.ref 68, .int p1, .int p2, .int p3] u (f_X5_hasItems p1 p2 p3 u) :=
  zMet_of (by decide +kernel) (fun as => Nat.le_of_ble_eq_true rfl) wwX5_hasItems.2.2.2.1 (by omega) (fun p l e s m args below meth c as dA D C => go_X5_hasItems C hd u)
/-! int become(int, int, int) -/
def f_X5_become_L17_b (p1 : Int32) (p2 : Int32) (p3 : Int32) (rc : Int32 → zM → Option (Int32 × zM)) (x4 : Int32) (u : zM) : Option (Int32 × zM) :=
  (if p3 ≤ x4 then some ((1 : Int32), u) else zck (inB p1 6) <| zck (inB x4 60) <| zlet (sJ u (72 + 1 * p1.toNatClampNeg) x4.toNatClampNeg (0 : Int64)) fun u4 => rc (x4 + (1 : Int32)) u4)
def f_X5_become_L17 (p1 : Int32) (p2 : Int32) (p3 : Int32) : Nat → Int32 → zM → Option (Int32 × zM)
  | 0 => fun _ _ => none
  | fn + 1 => f_X5_become_L17_b p1 p2 p3 (f_X5_become_L17 p1 p2 p3 fn)
def f_X5_become (p1 : Int32) (p2 : Int32) (p3 : Int32) (u : zM) : Option (Int32 × zM) :=
  zck (inB p1 6) <| zlet (sI u 69 p1.toNatClampNeg p2) fun u1 => zck (inB p1 6) <| zlet (sI u1 70 p1.toNatClampNeg p3) fun u2 => f_X5_become_L17 p1 p2 p3 400 (0 : Int32) u2
set_option maxRecDepth 20000 in
theorem go_X5_become_L17 {p : Program} {l : Launch} {e : Env} {s : State} {m : MethodId} {args : Array Value} {below : List Frame} {meth : Method} {c : Code} {as : Nat → Nat} {dA : Nat → ClassId} {D : va_G} {d : Nat} {p1 : Int32} {p2 : Int32} {p3 : Int32} (C : zCx p s m args meth c as dA D SHX d 5 yX5_become.cls cX5_become ((some FieldType.int))) (hd : 1 ≤ d) : ∀ (fn : Nat) (x4 : Int32) (u : zM), Go p l e s m args below meth c as dA D SHX d 5 zQi 17 [(0, .ref 68), (1, .int p1), (2, .int p2), (3, .int p3), (4, .int x4)] [] u (f_X5_become_L17 p1 p2 p3 fn x4 u) := by
  intro fn
  induction fn with
  | zero => intro x4 u; exact G_none
  | succ fn ih =>
    intro x4 u
    show Go p l e s m args below meth c as dA D SHX d 5 zQi 17 [(0, .ref 68), (1, .int p1), (2, .int p2), (3, .int p3), (4, .int x4)] [] u (f_X5_become_L17_b p1 p2 p3 (f_X5_become_L17 p1 p2 p3 fn) x4 u)
    unfold f_X5_become_L17_b
    refine G_iload C 4 dX5_become_17 rfl ?_
    refine G_iload_n C 3 dX5_become_19 rfl rfl ?_
    refine G_icmp_ge (tgt := 39) C dX5_become_20 (by decide) (fun _ => ?_) (fun _ => ?_)
    · refine G_iconst (v := 1) C dX5_become_39 (by decide) ?_
      exact G_iret C dX5_become_40
    · refine G_aload_n C 0 dX5_become_23 rfl rfl ?_
      refine G_getR (j := 71) C 2 shX_68 rfl rfl (by decide) wf5_20 dX5_become_24 ?_
      refine G_iload_n C 1 dX5_become_27 rfl rfl ?_
      refine G_aald5 C shX_71 dX5_become_28 (fun hb3 => ?_)
      refine G_iload C 4 dX5_become_29 rfl ?_
      refine G_lconst (v := 0) C dX5_become_31 (by decide) ?_
      refine G_last C (zIt_at hb3) dX5_become_32 (fun _ u4 => ?_)
      refine G_iinc (v := 1) (L' := [(4, .int (x4 + (1 : Int32))), (0, .ref 68), (1, .int p1), (2, .int p2), (3, .int p3)]) C 4 dX5_become_33 rfl (by decide) (by decide) rfl ?_
      refine G_goto (tgt := 17) C dX5_become_36 (by decide) ?_
      refine G_locals [1, 2, 3, 4, 0] rfl ?_
      exact ih (x4 + (1 : Int32)) u4
set_option maxRecDepth 20000 in
theorem go_X5_become {p : Program} {l : Launch} {e : Env} {s : State} {m : MethodId} {args : Array Value} {below : List Frame} {meth : Method} {c : Code} {as : Nat → Nat} {dA : Nat → ClassId} {D : va_G} {d : Nat} {p1 : Int32} {p2 : Int32} {p3 : Int32} (C : zCx p s m args meth c as dA D SHX d 5 yX5_become.cls cX5_become ((some FieldType.int))) (hd : 1 ≤ d) : ∀ (u : zM), Go p l e s m args below meth c as dA D SHX d 5 zQi 0 [(0, .ref 68), (1, .int p1), (2, .int p2), (3, .int p3)] [] u (f_X5_become p1 p2 p3 u) := by
  intro u
  unfold f_X5_become
  refine G_aload_n C 0 dX5_become_0 rfl rfl ?_
  refine G_getR (j := 69) C 0 shX_68 rfl rfl (by decide) wf5_9 dX5_become_1 ?_
  refine G_iload_n C 1 dX5_become_4 rfl rfl ?_
  refine G_iload_n C 2 dX5_become_5 rfl rfl ?_
  refine G_iast C shX_69 dX5_become_6 (fun _ u1 => ?_)
  refine G_aload_n C 0 dX5_become_7 rfl rfl ?_
  refine G_getR (j := 70) C 1 shX_68 rfl rfl (by decide) wf5_15 dX5_become_8 ?_
  refine G_iload_n C 1 dX5_become_11 rfl rfl ?_
  refine G_iload_n C 3 dX5_become_12 rfl rfl ?_
  refine G_iast C shX_70 dX5_become_13 (fun _ u2 => ?_)
  refine G_iconst (v := 0) C dX5_become_14 (by decide) ?_
  refine G_istore (L' := [(4, .int (0 : Int32)), (0, .ref 68), (1, .int p1), (2, .int p2), (3, .int p3)]) C dX5_become_15 (by decide) rfl ?_
  refine G_locals [1, 2, 3, 4, 0] rfl ?_
  exact go_X5_become_L17 C hd 400 (0 : Int32) u2
theorem m_X5_become   (p1 : Int32) (p2 : Int32) (p3 : Int32) (u : zM) (d : Nat) (hd : 1 ≤ d) : zMet zQi SHX yX5_become cX5_become 5 ((some FieldType.int)) d [.ref 68, .int p1, .int p2, .int p3] u (f_X5_become p1 p2 p3 u) :=
  zMet_of (by decide +kernel) (fun as => Nat.le_of_ble_eq_true rfl) wwX5_become.2.2.2.1 (by omega) (fun p l e s m args below meth c as dA D C => go_X5_become C hd u)
/-! private static long cut(int, long) -/
def f_X5_cut (p0 : Int32) (p1 : Int64) (u : zM) : Option (Int64 × zM) :=
  (if p0 = (0 : Int32) then some ((p1.toInt32.toInt8.toInt32).toInt64, u) else if p0 = (1 : Int32) then some ((p1.toInt32.toInt16.toInt32).toInt64, u) else if p0 = (2 : Int32) then some (p1.toInt32.toInt64, u) else if p0 = (3 : Int32) then some (p1, u) else (if (lg_cmp p1 (0 : Int64)) = (0 : Int32) then zb (f_X8_asNumber (0 : Int32) u) fun y5 u6 => some (y5.toInt64, u6) else zb (f_X8_asNumber (1 : Int32) u) fun y7 u8 => some (y7.toInt64, u8)))
set_option maxRecDepth 20000 in
theorem go_X5_cut {p : Program} {l : Launch} {e : Env} {s : State} {m : MethodId} {args : Array Value} {below : List Frame} {meth : Method} {c : Code} {as : Nat → Nat} {dA : Nat → ClassId} {D : va_G} {d : Nat} {p0 : Int32} {p1 : Int64} (C : zCx p s m args meth c as dA D SHX d 3 yX5_cut.cls cX5_cut ((some FieldType.long))) (hd : 2 ≤ d) : ∀ (u : zM), Go p l e s m args below meth c as dA D SHX d 3 zQl 0 [(0, .int p0), (1, .long p1)] [] u (f_X5_cut p0 p1 u) := by
  intro u
  unfold f_X5_cut
  refine G_iload_n C 0 dX5_cut_0 rfl rfl ?_
  refine G_if (fun h1 => ?_) (fun h1 => ?_)
  · refine G_tsIn (v := 0) (off := 31) (tgt := 32) C dX5_cut_1 h1 (by decide) (by decide) rfl (by decide) ?_
    refine G_lload_n C 1 dX5_cut_32 rfl rfl ?_
    refine G_l2i C dX5_cut_33 ?_
    refine G_i2b C dX5_cut_34 ?_
    refine G_i2l C dX5_cut_35 ?_
    exact G_lret C dX5_cut_36
  · refine G_if (fun h2 => ?_) (fun h2 => ?_)
    · refine G_tsIn (v := 1) (off := 36) (tgt := 37) C dX5_cut_1 h2 (by decide) (by decide) rfl (by decide) ?_
      refine G_lload_n C 1 dX5_cut_37 rfl rfl ?_
      refine G_l2i C dX5_cut_38 ?_
      refine G_i2s C dX5_cut_39 ?_
      refine G_i2l C dX5_cut_40 ?_
      exact G_lret C dX5_cut_41
    · refine G_if (fun h3 => ?_) (fun h3 => ?_)
      · refine G_tsIn (v := 2) (off := 41) (tgt := 42) C dX5_cut_1 h3 (by decide) (by decide) rfl (by decide) ?_
        refine G_lload_n C 1 dX5_cut_42 rfl rfl ?_
        refine G_l2i C dX5_cut_43 ?_
        refine G_i2l C dX5_cut_44 ?_
        exact G_lret C dX5_cut_45
      · refine G_if (fun h4 => ?_) (fun h4 => ?_)
        · refine G_tsIn (v := 3) (off := 45) (tgt := 46) C dX5_cut_1 h4 (by decide) (by decide) rfl (by decide) ?_
          refine G_lload_n C 1 dX5_cut_46 rfl rfl ?_
          exact G_lret C dX5_cut_47
        · refine G_tsOut (tgt := 48) C dX5_cut_1 (by have e0 := lv_neT (a := 0) h1 rfl; have e1 := lv_neT (a := 1) h2 rfl; have e2 := lv_neT (a := 2) h3 rfl; have e3 := lv_neT (a := 3) h4 rfl; omega) (by decide) ?_
          refine G_lload_n C 1 dX5_cut_48 rfl rfl ?_
          refine G_lconst (v := 0) C dX5_cut_49 (by decide) ?_
          refine G_lcmp C dX5_cut_50 ?_
          refine G_if_eq (tgt := 58) C dX5_cut_51 (by decide) (fun _ => ?_) (fun _ => ?_)
          · refine G_iconst (v := 0) C dX5_cut_58 (by decide) ?_
            refine G_callNi C (m_X8_asNumber (0 : Int32) u (d - 1) (by omega)) (d' := d - 1) (As := [.int (0 : Int32)]) (by omega) rfl wn5_27 wwX8_asNumber (Nat.le_of_ble_eq_true rfl) dX5_cut_59 (fun y5 u6 => ?_)
            refine G_i2l C dX5_cut_62 ?_
            exact G_lret C dX5_cut_63
          · refine G_iconst (v := 1) C dX5_cut_54 (by decide) ?_
            refine G_goto (tgt := 59) C dX5_cut_55 (by decide) ?_
            refine G_callNi C (m_X8_asNumber (1 : Int32) u (d - 1) (by omega)) (d' := d - 1) (As := [.int (1 : Int32)]) (by omega) rfl wn5_27 wwX8_asNumber (Nat.le_of_ble_eq_true rfl) dX5_cut_59 (fun y7 u8 => ?_)
            refine G_i2l C dX5_cut_62 ?_
            exact G_lret C dX5_cut_63
theorem m_X5_cut   (p0 : Int32) (p1 : Int64) (u : zM) (d : Nat) (hd : 2 ≤ d) : zMet zQl SHX yX5_cut cX5_cut 3 ((some FieldType.long)) d [.int p0, .long p1] u (f_X5_cut p0 p1 u) :=
  zMet_of (by decide +kernel) (fun as => Nat.le_of_ble_eq_true rfl) wwX5_cut.2.2.1 (by omega) (fun p l e s m args below meth c as dA D C => go_X5_cut C hd u)
/-! int put(int, int, long) -/
def f_X5_put (p1 : Int32) (p2 : Int32) (p3 : Int64) (u : zM) : Option (Int32 × zM) :=
  zck (inB p1 6) <| zck (inB p1 6) <| zb (f_X5_cut (gI u 69 p1.toNatClampNeg) p3 u) fun y3 u4 => zck (inB p2 60) <| zlet (sJ u4 (72 + 1 * p1.toNatClampNeg) p2.toNatClampNeg y3) fun u5 => some ((1 : Int32), u5)
set_option maxRecDepth 20000 in
theorem go_X5_put {p : Program} {l : Launch} {e : Env} {s : State} {m : MethodId} {args : Array Value} {below : List Frame} {meth : Method} {c : Code} {as : Nat → Nat} {dA : Nat → ClassId} {D : va_G} {d : Nat} {p1 : Int32} {p2 : Int32} {p3 : Int64} (C : zCx p s m args meth c as dA D SHX d 5 yX5_put.cls cX5_put ((some FieldType.int))) (hd : 3 ≤ d) : ∀ (u : zM), Go p l e s m args below meth c as dA D SHX d 5 zQi 0 [(0, .ref 68), (1, .int p1), (2, .int p2), (3, .long p3)] [] u (f_X5_put p1 p2 p3 u) := by
  intro u
  unfold f_X5_put
  refine G_aload_n C 0 dX5_put_0 rfl rfl ?_
  refine G_getR (j := 71) C 2 shX_68 rfl rfl (by decide) wf5_20 dX5_put_1 ?_
  refine G_iload_n C 1 dX5_put_4 rfl rfl ?_
  refine G_aald5 C shX_71 dX5_put_5 (fun hb1 => ?_)
  refine G_iload_n C 2 dX5_put_6 rfl rfl ?_
  refine G_aload_n C 0 dX5_put_7 rfl rfl ?_
  refine G_getR (j := 69) C 0 shX_68 rfl rfl (by decide) wf5_9 dX5_put_8 ?_
  refine G_iload_n C 1 dX5_put_11 rfl rfl ?_
  refine G_iald C shX_69 dX5_put_12 (fun hb2 => ?_)
  refine G_lload_n C 3 dX5_put_13 rfl rfl ?_
  refine G_callSl C (m_X5_cut (gI u 69 p1.toNatClampNeg) p3 u (d - 1) (by omega)) (d' := d - 1) (As := [.int (gI u 69 p1.toNatClampNeg), .long p3]) (by omega) rfl wm5_23 wwX5_cut (Nat.le_of_ble_eq_true rfl) dX5_put_14 (fun y3 u4 => ?_)
  refine G_last C (zIt_at hb1) dX5_put_17 (fun _ u5 => ?_)
  refine G_iconst (v := 1) C dX5_put_18 (by decide) ?_
  exact G_iret C dX5_put_19
theorem m_X5_put   (p1 : Int32) (p2 : Int32) (p3 : Int64) (u : zM) (d : Nat) (hd : 3 ≤ d) : zMet zQi SHX yX5_put cX5_put 5 ((some FieldType.int)) d [.ref 68, .int p1, .int p2, .long p3] u (f_X5_put p1 p2 p3 u) :=
  zMet_of (by decide +kernel) (fun as => Nat.le_of_ble_eq_true rfl) wwX5_put.2.2.2.1 (by omega) (fun p l e s m args below meth c as dA D C => go_X5_put C hd u)
