/-! int add(byte) -/
def f_X2_add (p1 : Int32) (u : zM) : Option (Int32 × zM) :=
  (if (100 : Int32) ≤ (gI u 63 0) then some ((gI u 63 0), u) else zck (inB (gI u 63 0) 100) <| zlet (sI u 64 (gI u 63 0).toNatClampNeg (vp_nar .byte p1)) fun u1 => zlet (sI u1 63 0 ((gI u1 63 0) + (1 : Int32))) fun u2 => some ((gI u2 63 0), u2))
set_option maxRecDepth 20000 in
theorem go_X2_add {p : Program} {l : Launch} {e : Env} {s : State} {m : MethodId} {args : Array Value} {below : List Frame} {meth : Method} {c : Code} {as : Nat → Nat} {dA : Nat → ClassId} {D : va_G} {d : Nat} {p1 : Int32} (C : zCx p s m args meth c as dA D SHX d 2 yX2_add.cls cX2_add ((some FieldType.int))) (hd : 1 ≤ d) : ∀ (u : zM), Go p l e s m args below meth c as dA D SHX d 2 zQi 0 [(0, .ref 63), (1, .int p1)] [] u (f_X2_add p1 u) := by
  intro u
  unfold f_X2_add
  refine G_aload_n C 0 dX2_add_0 rfl rfl ?_
  refine G_getI C 0 shX_63 rfl rfl (by decide) wf2_15 dX2_add_1 ?_
  refine G_aload_n C 0 dX2_add_4 rfl rfl ?_
  refine G_getR (j := 64) C 2 shX_63 rfl rfl (by decide) wf2_9 dX2_add_5 ?_
  refine G_alen (v := 100) 2 C shX_64 rfl rfl (by decide) dX2_add_8 ?_
  refine G_icmp_ge (tgt := 32) C dX2_add_9 (by decide) (fun _ => ?_) (fun _ => ?_)
  · refine G_aload_n C 0 dX2_add_32 rfl rfl ?_
    refine G_getI C 0 shX_63 rfl rfl (by decide) wf2_15 dX2_add_33 ?_
    exact G_iret C dX2_add_36
  · refine G_aload_n C 0 dX2_add_12 rfl rfl ?_
    refine G_getR (j := 64) C 2 shX_63 rfl rfl (by decide) wf2_9 dX2_add_13 ?_
    refine G_aload_n C 0 dX2_add_16 rfl rfl ?_
    refine G_getI C 0 shX_63 rfl rfl (by decide) wf2_15 dX2_add_17 ?_
    refine G_iload_n C 1 dX2_add_20 rfl rfl ?_
    refine G_bast C shX_64 dX2_add_21 (fun _ u1 => ?_)
    refine G_aload_n C 0 dX2_add_22 rfl rfl ?_
    refine G_dup C dX2_add_23 rfl ?_
    refine G_getI C 0 shX_63 rfl rfl (by decide) wf2_15 dX2_add_24 ?_
    refine G_iconst (v := 1) C dX2_add_27 (by decide) ?_
    refine G_iadd C dX2_add_28 ?_
    refine G_putI (ty := .int) C 0 shX_63 rfl rfl (by decide) wf2_15 rfl (by decide +kernel) rfl rfl dX2_add_29 (fun u2 => ?_)
    refine G_aload_n C 0 dX2_add_32 rfl rfl ?_
    refine G_getI C 0 shX_63 rfl rfl (by decide) wf2_15 dX2_add_33 ?_
    exact G_iret C dX2_add_36
theorem m_X2_add   (p1 : Int32) (u : zM) (d : Nat) (hd : 1 ≤ d) : zMet zQi SHX yX2_add cX2_add 2 ((some FieldType.int)) d [.ref 63, .int p1] u (f_X2_add p1 u) :=
  zMet_of (by decide +kernel) (fun as => Nat.le_of_ble_eq_true rfl) wwX2_add.2.2.2.1 (by omega) (fun p l e s m args below meth c as dA D C => go_X2_add C hd u)
/-! void empty() -/
def f_X2_empty (u : zM) : Option (Unit × zM) :=
  zlet (sI u 63 0 (0 : Int32)) fun u1 => some ((), u1)
set_option maxRecDepth 20000 in
theorem go_X2_empty {p : Program} {l : Launch} {e : Env} {s : State} {m : MethodId} {args : Array Value} {below : List Frame} {meth : Method} {c : Code} {as : Nat → Nat} {dA : Nat → ClassId} {D : va_G} {d : Nat}  (C : zCx p s m args meth c as dA D SHX d 1 yX2_empty.cls cX2_empty (none)) (hd : 1 ≤ d) : ∀ (u : zM), Go p l e s m args below meth c as dA D SHX d 1 zQv 0 [(0, .ref 63)] [] u (f_X2_empty  u) := by
  intro u
  unfold f_X2_empty
  refine G_aload_n C 0 dX2_empty_0 rfl rfl ?_
  refine G_iconst (v := 0) C dX2_empty_1 (by decide) ?_
  refine G_putI (ty := .int) C 0 shX_63 rfl rfl (by decide) wf2_15 rfl (by decide +kernel) rfl rfl dX2_empty_2 (fun u1 => ?_)
  exact G_vret C dX2_empty_5
theorem m_X2_empty    (u : zM) (d : Nat) (hd : 1 ≤ d) : zMet zQv SHX yX2_empty cX2_empty 1 (none) d [.ref 63] u (f_X2_empty  u) :=
  zMet_of (by decide +kernel) (fun as => Nat.le_of_ble_eq_true rfl) wwX2_empty.2.2.2.1 (by omega) (fun p l e s m args below meth c as dA D C => go_X2_empty C hd u)
/-! private boolean sees(char) -/
def f_X2_sees (p1 : Int32) (u : zM) : Option (Int32 × zM) :=
  (if (gI u 63 0) ≤ (gI u 63 1) then some ((0 : Int32), u) else zck (inB (gI u 63 1) 100) <| (if (gI u 64 (gI u 63 1).toNatClampNeg) = p1 then some ((1 : Int32), u) else some ((0 : Int32), u)))
set_option maxRecDepth 20000 in
theorem go_X2_sees {p : Program} {l : Launch} {e : Env} {s : State} {m : MethodId} {args : Array Value} {below : List Frame} {meth : Method} {c : Code} {as : Nat → Nat} {dA : Nat → ClassId} {D : va_G} {d : Nat} {p1 : Int32} (C : zCx p s m args meth c as dA D SHX d 2 yX2_sees.cls cX2_sees ((some FieldType.boolean))) (hd : 1 ≤ d) : ∀ (u : zM), Go p l e s m args below meth c as dA D SHX d 2 zQi 0 [(0, .ref 63), (1, .int p1)] [] u (f_X2_sees p1 u) := by
  intro u
  unfold f_X2_sees
  refine G_aload_n C 0 dX2_sees_0 rfl rfl ?_
  refine G_getI C 1 shX_63 rfl rfl (by decide) wf2_28 dX2_sees_1 ?_
  refine G_aload_n C 0 dX2_sees_4 rfl rfl ?_
  refine G_getI C 0 shX_63 rfl rfl (by decide) wf2_15 dX2_sees_5 ?_
  refine G_icmp_ge (tgt := 28) C dX2_sees_8 (by decide) (fun _ => ?_) (fun _ => ?_)
  · refine G_iconst (v := 0) C dX2_sees_28 (by decide) ?_
    exact G_zret C rfl dX2_sees_29
  · refine G_aload_n C 0 dX2_sees_11 rfl rfl ?_
    refine G_getR (j := 64) C 2 shX_63 rfl rfl (by decide) wf2_9 dX2_sees_12 ?_
    refine G_aload_n C 0 dX2_sees_15 rfl rfl ?_
    refine G_getI C 1 shX_63 rfl rfl (by decide) wf2_28 dX2_sees_16 ?_
    refine G_bald C shX_64 dX2_sees_19 (fun hb1 => ?_)
    refine G_iload_n C 1 dX2_sees_20 rfl rfl ?_
    refine G_icmp_ne (tgt := 28) C dX2_sees_21 (by decide) (fun _ => ?_) (fun _ => ?_)
    · refine G_iconst (v := 0) C dX2_sees_28 (by decide) ?_
      exact G_zret C rfl dX2_sees_29
    · refine G_iconst (v := 1) C dX2_sees_24 (by decide) ?_
      refine G_goto (tgt := 29) C dX2_sees_25 (by decide) ?_
      exact G_zret C rfl dX2_sees_29
theorem m_X2_sees   (p1 : Int32) (u : zM) (d : Nat) (hd : 1 ≤ d) : zMet zQi SHX yX2_sees cX2_sees 2 ((some FieldType.boolean)) d [.ref 63, .int p1] u (f_X2_sees p1 u) :=
  zMet_of (by decide +kernel) (fun as => Nat.le_of_ble_eq_true rfl) wwX2_sees.2.2.2.1 (by omega) (fun p l e s m args below meth c as dA D C => go_X2_sees C hd u)
/-! private boolean takes(char) -/
def f_X2_takes (p1 : Int32) (u : zM) : Option (Int32 × zM) :=
  zb (f_X2_sees p1 u) fun y1 u2 => (if y1 = (0 : Int32) then zck (z01 y1) <| some (y1, u2) else zlet (sI u2 63 1 ((gI u2 63 1) + (1 : Int32))) fun u4 => zck (z01 y1) <| some (y1, u4))
set_option maxRecDepth 20000 in
theorem go_X2_takes {p : Program} {l : Launch} {e : Env} {s : State} {m : MethodId} {args : Array Value} {below : List Frame} {meth : Method} {c : Code} {as : Nat → Nat} {dA : Nat → ClassId} {D : va_G} {d : Nat} {p1 : Int32} (C : zCx p s m args meth c as dA D SHX d 3 yX2_takes.cls cX2_takes ((some FieldType.boolean))) (hd : 2 ≤ d) : ∀ (u : zM), Go p l e s m args below meth c as dA D SHX d 3 zQi 0 [(0, .ref 63), (1, .int p1)] [] u (f_X2_takes p1 u) := by
  intro u
  unfold f_X2_takes
  refine G_aload_n C 0 dX2_takes_0 rfl rfl ?_
  refine G_iload_n C 1 dX2_takes_1 rfl rfl ?_
  refine G_callVi C (m_X2_sees p1 u (d - 1) (by omega)) (d' := d - 1) (As := [.int p1]) (by omega) rfl wm2_39 wwX2_sees shX_63 rfl (Nat.le_of_ble_eq_true rfl) dX2_takes_2 (fun y1 u2 => ?_)
  refine G_istore_n (L' := [(2, .int y1), (0, .ref 63), (1, .int p1)]) C dX2_takes_5 rfl (by decide) rfl ?_
  refine G_iload_n C 0 dX2_takes_6 rfl rfl ?_
  refine G_if_eq (tgt := 20) C dX2_takes_7 (by decide) (fun _ => ?_) (fun _ => ?_)
  · refine G_iload_n C 0 dX2_takes_20 rfl rfl ?_
    refine G_ck (fun hz3 => ?_)
    exact G_zret C (z01_nar hz3) dX2_takes_21
  · refine G_aload_n C 1 dX2_takes_10 rfl rfl ?_
    refine G_dup C dX2_takes_11 rfl ?_
    refine G_getI C 1 shX_63 rfl rfl (by decide) wf2_28 dX2_takes_12 ?_
    refine G_iconst (v := 1) C dX2_takes_15 (by decide) ?_
    refine G_iadd C dX2_takes_16 ?_
    refine G_putI (ty := .int) C 1 shX_63 rfl rfl (by decide) wf2_28 rfl (by decide +kernel) rfl rfl dX2_takes_17 (fun u4 => ?_)
    refine G_iload_n C 0 dX2_takes_20 rfl rfl ?_
    refine G_ck (fun hz5 => ?_)
    exact G_zret C (z01_nar hz5) dX2_takes_21
theorem m_X2_takes   (p1 : Int32) (u : zM) (d : Nat) (hd : 2 ≤ d) : zMet zQi SHX yX2_takes cX2_takes 3 ((some FieldType.boolean)) d [.ref 63, .int p1] u (f_X2_takes p1 u) :=
  zMet_of (by decide +kernel) (fun as => Nat.le_of_ble_eq_true rfl) wwX2_takes.2.2.2.1 (by omega) (fun p l e s m args below meth c as dA D C => go_X2_takes C hd u)
/-! private boolean readsBoth(int) -/
def f_X2_readsBoth_L12_b (rf : Int32 → zM → Option (Int32 × zM)) (p1 : Int32) (rc : Int32 → zM → Option (Int32 × zM)) (x2 : Int32) (u : zM) : Option (Int32 × zM) :=
  (if (100 : Int32) ≤ x2 then some ((1 : Int32), u) else zb (f_X2_takes (38 : Int32) u) fun y3 u4 => (if y3 = (0 : Int32) then some ((1 : Int32), u4) else zb (rf p1 u4) fun y5 u6 => (if y5 = (0 : Int32) then some ((0 : Int32), u6) else (zmo (gO u6 63 3) none fun q7 => zck (isQ q7) (zb (f_X4_addStep q7 (-2 : Int32) u6) fun _ u10 => rc (x2 + (1 : Int32)) u10)))))
def f_X2_readsBoth_L12 (rf : Int32 → zM → Option (Int32 × zM)) (p1 : Int32) : Nat → Int32 → zM → Option (Int32 × zM)
  | 0 => fun _ _ => none
  | fn + 1 => f_X2_readsBoth_L12_b rf p1 (f_X2_readsBoth_L12 rf p1 fn)
def f_X2_readsBoth (rf : Int32 → zM → Option (Int32 × zM)) (p1 : Int32) (u : zM) : Option (Int32 × zM) :=
  zb (rf p1 u) fun y1 u2 => (if y1 = (0 : Int32) then some ((0 : Int32), u2) else f_X2_readsBoth_L12 rf p1 400 (0 : Int32) u2)
set_option maxRecDepth 20000 in
theorem go_X2_readsBoth_L12 {p : Program} {l : Launch} {e : Env} {s : State} {m : MethodId} {args : Array Value} {below : List Frame} {meth : Method} {c : Code} {as : Nat → Nat} {dA : Nat → ClassId} {D : va_G} {d : Nat} {p1 : Int32} (C : zCx p s m args meth c as dA D SHX d 3 yX2_readsBoth.cls cX2_readsBoth ((some FieldType.boolean))) {rf : Int32 → zM → Option (Int32 × zM)} (dr : Nat) (hdr : 20 ≤ dr) (hrf : ∀ (p : Int32) (u : zM) (d : Nat), dr ≤ d → zMet zQi SHX yX2_readsFactor cX2_readsFactor 2 ((some FieldType.boolean)) d [.ref 63, .int p] u (rf p u)) (hd : dr + 2 ≤ d) : ∀ (fn : Nat) (x2 : Int32) (u : zM), Go p l e s m args below meth c as dA D SHX d 3 zQi 12 [(0, .ref 63), (1, .int p1), (2, .int x2)] [] u (f_X2_readsBoth_L12 rf p1 fn x2 u) := by
  intro fn
  induction fn with
  | zero => intro x2 u; exact G_none
  | succ fn ih =>
    intro x2 u
    show Go p l e s m args below meth c as dA D SHX d 3 zQi 12 [(0, .ref 63), (1, .int p1), (2, .int x2)] [] u (f_X2_readsBoth_L12_b rf p1 (f_X2_readsBoth_L12 rf p1 fn) x2 u)
    unfold f_X2_readsBoth_L12_b
    refine G_iload_n C 2 dX2_readsBoth_12 rfl rfl ?_
    refine G_bipush (v := 100) C dX2_readsBoth_13 (by decide) ?_
    refine G_icmp_ge (tgt := 52) C dX2_readsBoth_15 (by decide) (fun _ => ?_) (fun _ => ?_)
    · refine G_iconst (v := 1) C dX2_readsBoth_52 (by decide) ?_
      exact G_zret C rfl dX2_readsBoth_53
    · refine G_aload_n C 0 dX2_readsBoth_18 rfl rfl ?_
      refine G_bipush (v := 38) C dX2_readsBoth_19 (by decide) ?_
      refine G_callVi C (m_X2_takes (38 : Int32) u (d - 1) (by omega)) (d' := d - 1) (As := [.int (38 : Int32)]) (by omega) rfl wm2_35 wwX2_takes shX_63 rfl (Nat.le_of_ble_eq_true rfl) dX2_readsBoth_21 (fun y3 u4 => ?_)
      refine G_if_eq (tgt := 52) C dX2_readsBoth_24 (by decide) (fun _ => ?_) (fun _ => ?_)
      · refine G_iconst (v := 1) C dX2_readsBoth_52 (by decide) ?_
        exact G_zret C rfl dX2_readsBoth_53
      · refine G_aload_n C 0 dX2_readsBoth_27 rfl rfl ?_
        refine G_iload_n C 1 dX2_readsBoth_28 rfl rfl ?_
        refine G_callVi C (hrf p1 u4 (d - 1) (by omega)) (d' := d - 1) (As := [.int p1]) (by omega) rfl wm2_75 wwX2_readsFactor shX_63 rfl (Nat.le_of_ble_eq_true rfl) dX2_readsBoth_29 (fun y5 u6 => ?_)
        refine G_if_ne (tgt := 37) C dX2_readsBoth_32 (by decide) (fun _ => ?_) (fun _ => ?_)
        · refine G_aload_n C 0 dX2_readsBoth_37 rfl rfl ?_
          refine G_getO C 3 shX_63 rfl rfl (by decide) wf2_24 dX2_readsBoth_38 (fun _ => ?_) (fun q7 _ => ?_)
          · refine G_bipush (v := -2) C dX2_readsBoth_41 (by decide) ?_
            exact G_none
          · refine G_ck (fun hq8 => ?_)
            refine G_bipush (v := -2) C dX2_readsBoth_41 (by decide) ?_
            refine G_callVv C (m_X4_addStep (isQ_sh hq8) (-2 : Int32) u6 (d - 1) (by omega)) (d' := d - 1) (As := [.int (-2 : Int32)]) (by omega) rfl wm2_72 wwX4_addStep (isQ_sh hq8).1 rfl (Nat.le_of_ble_eq_true rfl) dX2_readsBoth_43 (fun y9 u10 => ?_)
            refine G_iinc (v := 1) (L' := [(2, .int (x2 + (1 : Int32))), (0, .ref 63), (1, .int p1)]) C 2 dX2_readsBoth_46 rfl (by decide) (by decide) rfl ?_
            refine G_goto (tgt := 12) C dX2_readsBoth_49 (by decide) ?_
            refine G_locals [1, 2, 0] rfl ?_
            exact ih (x2 + (1 : Int32)) u10
        · refine G_iconst (v := 0) C dX2_readsBoth_35 (by decide) ?_
          exact G_zret C rfl dX2_readsBoth_36
set_option maxRecDepth 20000 in
theorem go_X2_readsBoth {p : Program} {l : Launch} {e : Env} {s : State} {m : MethodId} {args : Array Value} {below : List Frame} {meth : Method} {c : Code} {as : Nat → Nat} {dA : Nat → ClassId} {D : va_G} {d : Nat} {p1 : Int32} (C : zCx p s m args meth c as dA D SHX d 3 yX2_readsBoth.cls cX2_readsBoth ((some FieldType.boolean))) {rf : Int32 → zM → Option (Int32 × zM)} (dr : Nat) (hdr : 20 ≤ dr) (hrf : ∀ (p : Int32) (u : zM) (d : Nat), dr ≤ d → zMet zQi SHX yX2_readsFactor cX2_readsFactor 2 ((some FieldType.boolean)) d [.ref 63, .int p] u (rf p u)) (hd : dr + 2 ≤ d) : ∀ (u : zM), Go p l e s m args below meth c as dA D SHX d 3 zQi 0 [(0, .ref 63), (1, .int p1)] [] u (f_X2_readsBoth rf p1 u) := by
  intro u
  unfold f_X2_readsBoth
  refine G_aload_n C 0 dX2_readsBoth_0 rfl rfl ?_
  refine G_iload_n C 1 dX2_readsBoth_1 rfl rfl ?_
  refine G_callVi C (hrf p1 u (d - 1) (by omega)) (d' := d - 1) (As := [.int p1]) (by omega) rfl wm2_75 wwX2_readsFactor shX_63 rfl (Nat.le_of_ble_eq_true rfl) dX2_readsBoth_2 (fun y1 u2 => ?_)
  refine G_if_ne (tgt := 10) C dX2_readsBoth_5 (by decide) (fun _ => ?_) (fun _ => ?_)
  · refine G_iconst (v := 0) C dX2_readsBoth_10 (by decide) ?_
    refine G_istore_n (L' := [(2, .int (0 : Int32)), (0, .ref 63), (1, .int p1)]) C dX2_readsBoth_11 rfl (by decide) rfl ?_
    refine G_locals [1, 2, 0] rfl ?_
    exact go_X2_readsBoth_L12 C dr hdr hrf hd 400 (0 : Int32) u2
  · refine G_iconst (v := 0) C dX2_readsBoth_8 (by decide) ?_
    exact G_zret C rfl dX2_readsBoth_9
theorem m_X2_readsBoth {rf : Int32 → zM → Option (Int32 × zM)} (dr : Nat) (hdr : 20 ≤ dr) (hrf : ∀ (p : Int32) (u : zM) (d : Nat), dr ≤ d → zMet zQi SHX yX2_readsFactor cX2_readsFactor 2 ((some FieldType.boolean)) d [.ref 63, .int p] u (rf p u))   (p1 : Int32) (u : zM) (d : Nat) (hd : dr + 2 ≤ d) : zMet zQi SHX yX2_readsBoth cX2_readsBoth 3 ((some FieldType.boolean)) d [.ref 63, .int p1] u (f_X2_readsBoth rf p1 u) :=
  zMet_of (by decide +kernel) (fun as => Nat.le_of_ble_eq_true rfl) wwX2_readsBoth.2.2.2.1 (by omega) (fun p l e s m args below meth c as dA D C => go_X2_readsBoth C dr hdr hrf hd u)
/-! private boolean readsEither(int) -/
def f_X2_readsEither_L12_b (rf : Int32 → zM → Option (Int32 × zM)) (p1 : Int32) (rc : Int32 → zM → Option (Int32 × zM)) (x2 : Int32) (u : zM) : Option (Int32 × zM) :=
  (if (100 : Int32) ≤ x2 then some ((1 : Int32), u) else zb (f_X2_takes (124 : Int32) u) fun y3 u4 => (if y3 = (0 : Int32) then some ((1 : Int32), u4) else zb (f_X2_readsBoth rf p1 u4) fun y5 u6 => (if y5 = (0 : Int32) then some ((0 : Int32), u6) else (zmo (gO u6 63 3) none fun q7 => zck (isQ q7) (zb (f_X4_addStep q7 (-3 : Int32) u6) fun _ u10 => rc (x2 + (1 : Int32)) u10)))))
def f_X2_readsEither_L12 (rf : Int32 → zM → Option (Int32 × zM)) (p1 : Int32) : Nat → Int32 → zM → Option (Int32 × zM)
  | 0 => fun _ _ => none
  | fn + 1 => f_X2_readsEither_L12_b rf p1 (f_X2_readsEither_L12 rf p1 fn)
def f_X2_readsEither (rf : Int32 → zM → Option (Int32 × zM)) (p1 : Int32) (u : zM) : Option (Int32 × zM) :=
  zb (f_X2_readsBoth rf p1 u) fun y1 u2 => (if y1 = (0 : Int32) then some ((0 : Int32), u2) else f_X2_readsEither_L12 rf p1 400 (0 : Int32) u2)
set_option maxRecDepth 20000 in
theorem go_X2_readsEither_L12 {p : Program} {l : Launch} {e : Env} {s : State} {m : MethodId} {args : Array Value} {below : List Frame} {meth : Method} {c : Code} {as : Nat → Nat} {dA : Nat → ClassId} {D : va_G} {d : Nat} {p1 : Int32} (C : zCx p s m args meth c as dA D SHX d 3 yX2_readsEither.cls cX2_readsEither ((some FieldType.boolean))) {rf : Int32 → zM → Option (Int32 × zM)} (dr : Nat) (hdr : 20 ≤ dr) (hrf : ∀ (p : Int32) (u : zM) (d : Nat), dr ≤ d → zMet zQi SHX yX2_readsFactor cX2_readsFactor 2 ((some FieldType.boolean)) d [.ref 63, .int p] u (rf p u)) (hd : dr + 3 ≤ d) : ∀ (fn : Nat) (x2 : Int32) (u : zM), Go p l e s m args below meth c as dA D SHX d 3 zQi 12 [(0, .ref 63), (1, .int p1), (2, .int x2)] [] u (f_X2_readsEither_L12 rf p1 fn x2 u) := by
  intro fn
  induction fn with
  | zero => intro x2 u; exact G_none
  | succ fn ih =>
    intro x2 u
    show Go p l e s m args below meth c as dA D SHX d 3 zQi 12 [(0, .ref 63), (1, .int p1), (2, .int x2)] [] u (f_X2_readsEither_L12_b rf p1 (f_X2_readsEither_L12 rf p1 fn) x2 u)
    unfold f_X2_readsEither_L12_b
    refine G_iload_n C 2 dX2_readsEither_12 rfl rfl ?_
    refine G_bipush (v := 100) C dX2_readsEither_13 (by decide) ?_
    refine G_icmp_ge (tgt := 52) C dX2_readsEither_15 (by decide) (fun _ => ?_) (fun _ => ?_)
    · refine G_iconst (v := 1) C dX2_readsEither_52 (by decide) ?_
      exact G_zret C rfl dX2_readsEither_53
    · refine G_aload_n C 0 dX2_readsEither_18 rfl rfl ?_
      refine G_bipush (v := 124) C dX2_readsEither_19 (by decide) ?_
      refine G_callVi C (m_X2_takes (124 : Int32) u (d - 1) (by omega)) (d' := d - 1) (As := [.int (124 : Int32)]) (by omega) rfl wm2_35 wwX2_takes shX_63 rfl (Nat.le_of_ble_eq_true rfl) dX2_readsEither_21 (fun y3 u4 => ?_)
      refine G_if_eq (tgt := 52) C dX2_readsEither_24 (by decide) (fun _ => ?_) (fun _ => ?_)
      · refine G_iconst (v := 1) C dX2_readsEither_52 (by decide) ?_
        exact G_zret C rfl dX2_readsEither_53
      · refine G_aload_n C 0 dX2_readsEither_27 rfl rfl ?_
        refine G_iload_n C 1 dX2_readsEither_28 rfl rfl ?_
        refine G_callVi C (m_X2_readsBoth dr hdr hrf p1 u4 (d - 1) (by omega)) (d' := d - 1) (As := [.int p1]) (by omega) rfl wm2_69 wwX2_readsBoth shX_63 rfl (Nat.le_of_ble_eq_true rfl) dX2_readsEither_29 (fun y5 u6 => ?_)
        refine G_if_ne (tgt := 37) C dX2_readsEither_32 (by decide) (fun _ => ?_) (fun _ => ?_)
        · refine G_aload_n C 0 dX2_readsEither_37 rfl rfl ?_
          refine G_getO C 3 shX_63 rfl rfl (by decide) wf2_24 dX2_readsEither_38 (fun _ => ?_) (fun q7 _ => ?_)
          · refine G_bipush (v := -3) C dX2_readsEither_41 (by decide) ?_
            exact G_none
          · refine G_ck (fun hq8 => ?_)
            refine G_bipush (v := -3) C dX2_readsEither_41 (by decide) ?_
            refine G_callVv C (m_X4_addStep (isQ_sh hq8) (-3 : Int32) u6 (d - 1) (by omega)) (d' := d - 1) (As := [.int (-3 : Int32)]) (by omega) rfl wm2_72 wwX4_addStep (isQ_sh hq8).1 rfl (Nat.le_of_ble_eq_true rfl) dX2_readsEither_43 (fun y9 u10 => ?_)
            refine G_iinc (v := 1) (L' := [(2, .int (x2 + (1 : Int32))), (0, .ref 63), (1, .int p1)]) C 2 dX2_readsEither_46 rfl (by decide) (by decide) rfl ?_
            refine G_goto (tgt := 12) C dX2_readsEither_49 (by decide) ?_
            refine G_locals [1, 2, 0] rfl ?_
            exact ih (x2 + (1 : Int32)) u10
        · refine G_iconst (v := 0) C dX2_readsEither_35 (by decide) ?_
          exact G_zret C rfl dX2_readsEither_36
set_option maxRecDepth 20000 in
theorem go_X2_readsEither {p : Program} {l : Launch} {e : Env} {s : State} {m : MethodId} {args : Array Value} {below : List Frame} {meth : Method} {c : Code} {as : Nat → Nat} {dA : Nat → ClassId} {D : va_G} {d : Nat} {p1 : Int32} (C : zCx p s m args meth c as dA D SHX d 3 yX2_readsEither.cls cX2_readsEither ((some FieldType.boolean))) {rf : Int32 → zM → Option (Int32 × zM)} (dr : Nat) (hdr : 20 ≤ dr) (hrf : ∀ (p : Int32) (u : zM) (d : Nat), dr ≤ d → zMet zQi SHX yX2_readsFactor cX2_readsFactor 2 ((some FieldType.boolean)) d [.ref 63, .int p] u (rf p u)) (hd : dr + 3 ≤ d) : ∀ (u : zM), Go p l e s m args below meth c as dA D SHX d 3 zQi 0 [(0, .ref 63), (1, .int p1)] [] u (f_X2_readsEither rf p1 u) := by
  intro u
  unfold f_X2_readsEither
  refine G_aload_n C 0 dX2_readsEither_0 rfl rfl ?_
  refine G_iload_n C 1 dX2_readsEither_1 rfl rfl ?_
  refine G_callVi C (m_X2_readsBoth dr hdr hrf p1 u (d - 1) (by omega)) (d' := d - 1) (As := [.int p1]) (by omega) rfl wm2_69 wwX2_readsBoth shX_63 rfl (Nat.le_of_ble_eq_true rfl) dX2_readsEither_2 (fun y1 u2 => ?_)
  refine G_if_ne (tgt := 10) C dX2_readsEither_5 (by decide) (fun _ => ?_) (fun _ => ?_)
  · refine G_iconst (v := 0) C dX2_readsEither_10 (by decide) ?_
    refine G_istore_n (L' := [(2, .int (0 : Int32)), (0, .ref 63), (1, .int p1)]) C dX2_readsEither_11 rfl (by decide) rfl ?_
    refine G_locals [1, 2, 0] rfl ?_
    exact go_X2_readsEither_L12 C dr hdr hrf hd 400 (0 : Int32) u2
  · refine G_iconst (v := 0) C dX2_readsEither_8 (by decide) ?_
    exact G_zret C rfl dX2_readsEither_9
theorem m_X2_readsEither {rf : Int32 → zM → Option (Int32 × zM)} (dr : Nat) (hdr : 20 ≤ dr) (hrf : ∀ (p : Int32) (u : zM) (d : Nat), dr ≤ d → zMet zQi SHX yX2_readsFactor cX2_readsFactor 2 ((some FieldType.boolean)) d [.ref 63, .int p] u (rf p u))   (p1 : Int32) (u : zM) (d : Nat) (hd : dr + 3 ≤ d) : zMet zQi SHX yX2_readsEither cX2_readsEither 3 ((some FieldType.boolean)) d [.ref 63, .int p1] u (f_X2_readsEither rf p1 u) :=
  zMet_of (by decide +kernel) (fun as => Nat.le_of_ble_eq_true rfl) wwX2_readsEither.2.2.2.1 (by omega) (fun p l e s m args below meth c as dA D C => go_X2_readsEither C dr hdr hrf hd u)
/-! private int takeNumber() -/
def f_X2_takeNumber_L4_b  (rc : Int32 → Int32 → zM → Option (Int32 × zM)) (x1 : Int32) (x2 : Int32) (u : zM) : Option (Int32 × zM) :=
  (if (2 : Int32) ≤ x2 then some (x1, u) else (if (gI u 63 0) ≤ (gI u 63 1) then some (x1, u) else zck (inB (gI u 63 1) 100) <| (if (gI u 64 (gI u 63 1).toNatClampNeg) < (48 : Int32) then some (x1, u) else zck (inB (gI u 63 1) 100) <| (if (57 : Int32) < (gI u 64 (gI u 63 1).toNatClampNeg) then some (x1, u) else zck (inB (gI u 63 1) 100) <| zlx ((((if x1 < (0 : Int32) then (0 : Int32) else x1) * (10 : Int32)) + (gI u 64 (gI u 63 1).toNatClampNeg)) - (48 : Int32)) fun v4 => zlet (sI u 63 1 ((gI u 63 1) + (1 : Int32))) fun u5 => rc v4 (x2 + (1 : Int32)) u5))))
def f_X2_takeNumber_L4  : Nat → Int32 → Int32 → zM → Option (Int32 × zM)
  | 0 => fun _ _ _ => none
  | fn + 1 => f_X2_takeNumber_L4_b  (f_X2_takeNumber_L4  fn)
def f_X2_takeNumber (u : zM) : Option (Int32 × zM) :=
  f_X2_takeNumber_L4 400 (-1 : Int32) (0 : Int32) u
set_option maxRecDepth 20000 in
theorem go_X2_takeNumber_L4 {p : Program} {l : Launch} {e : Env} {s : State} {m : MethodId} {args : Array Value} {below : List Frame} {meth : Method} {c : Code} {as : Nat → Nat} {dA : Nat → ClassId} {D : va_G} {d : Nat}  (C : zCx p s m args meth c as dA D SHX d 3 yX2_takeNumber.cls cX2_takeNumber ((some FieldType.int))) (hd : 1 ≤ d) : ∀ (fn : Nat) (x1 : Int32) (x2 : Int32) (u : zM), Go p l e s m args below meth c as dA D SHX d 3 zQi 4 [(0, .ref 63), (1, .int x1), (2, .int x2)] [] u (f_X2_takeNumber_L4 fn x1 x2 u) := by
  intro fn
  induction fn with
  | zero => intro x1 x2 u; exact G_none
  | succ fn ih =>
    intro x1 x2 u
    show Go p l e s m args below meth c as dA D SHX d 3 zQi 4 [(0, .ref 63), (1, .int x1), (2, .int x2)] [] u (f_X2_takeNumber_L4_b  (f_X2_takeNumber_L4  fn) x1 x2 u)
    unfold f_X2_takeNumber_L4_b
    refine G_iload_n C 2 dX2_takeNumber_4 rfl rfl ?_
    refine G_iconst (v := 2) C dX2_takeNumber_5 (by decide) ?_
    refine G_icmp_ge (tgt := 86) C dX2_takeNumber_6 (by decide) (fun _ => ?_) (fun _ => ?_)
    · refine G_iload_n C 1 dX2_takeNumber_86 rfl rfl ?_
      exact G_iret C dX2_takeNumber_87
    · refine G_aload_n C 0 dX2_takeNumber_9 rfl rfl ?_
      refine G_getI C 1 shX_63 rfl rfl (by decide) wf2_28 dX2_takeNumber_10 ?_
      refine G_aload_n C 0 dX2_takeNumber_13 rfl rfl ?_
      refine G_getI C 0 shX_63 rfl rfl (by decide) wf2_15 dX2_takeNumber_14 ?_
      refine G_icmp_ge (tgt := 86) C dX2_takeNumber_17 (by decide) (fun _ => ?_) (fun _ => ?_)
      · refine G_iload_n C 1 dX2_takeNumber_86 rfl rfl ?_
        exact G_iret C dX2_takeNumber_87
      · refine G_aload_n C 0 dX2_takeNumber_20 rfl rfl ?_
        refine G_getR (j := 64) C 2 shX_63 rfl rfl (by decide) wf2_9 dX2_takeNumber_21 ?_
        refine G_aload_n C 0 dX2_takeNumber_24 rfl rfl ?_
        refine G_getI C 1 shX_63 rfl rfl (by decide) wf2_28 dX2_takeNumber_25 ?_
        refine G_bald C shX_64 dX2_takeNumber_28 (fun hb1 => ?_)
        refine G_bipush (v := 48) C dX2_takeNumber_29 (by decide) ?_
        refine G_icmp_lt (tgt := 86) C dX2_takeNumber_31 (by decide) (fun _ => ?_) (fun _ => ?_)
        · refine G_iload_n C 1 dX2_takeNumber_86 rfl rfl ?_
          exact G_iret C dX2_takeNumber_87
        · refine G_aload_n C 0 dX2_takeNumber_34 rfl rfl ?_
          refine G_getR (j := 64) C 2 shX_63 rfl rfl (by decide) wf2_9 dX2_takeNumber_35 ?_
          refine G_aload_n C 0 dX2_takeNumber_38 rfl rfl ?_
          refine G_getI C 1 shX_63 rfl rfl (by decide) wf2_28 dX2_takeNumber_39 ?_
          refine G_bald C shX_64 dX2_takeNumber_42 (fun hb2 => ?_)
          refine G_bipush (v := 57) C dX2_takeNumber_43 (by decide) ?_
          refine G_icmp_gt (tgt := 86) C dX2_takeNumber_45 (by decide) (fun _ => ?_) (fun _ => ?_)
          · refine G_iload_n C 1 dX2_takeNumber_86 rfl rfl ?_
            exact G_iret C dX2_takeNumber_87
          · refine G_iload_n C 1 dX2_takeNumber_48 rfl rfl ?_
            refine G_iconst (v := 0) C dX2_takeNumber_49 (by decide) ?_
            refine G_mmax C wm2_93 wMmax_s wMath wMmax_c (Nat.le_of_ble_eq_true rfl) dX2_takeNumber_50 ?_
            refine G_bipush (v := 10) C dX2_takeNumber_53 (by decide) ?_
            refine G_imul C dX2_takeNumber_55 ?_
            refine G_aload_n C 0 dX2_takeNumber_56 rfl rfl ?_
            refine G_getR (j := 64) C 2 shX_63 rfl rfl (by decide) wf2_9 dX2_takeNumber_57 ?_
            refine G_aload_n C 0 dX2_takeNumber_60 rfl rfl ?_
            refine G_getI C 1 shX_63 rfl rfl (by decide) wf2_28 dX2_takeNumber_61 ?_
            refine G_bald C shX_64 dX2_takeNumber_64 (fun hb3 => ?_)
            refine G_iadd C dX2_takeNumber_65 ?_
            refine G_bipush (v := 48) C dX2_takeNumber_66 (by decide) ?_
            refine G_isub C dX2_takeNumber_68 ?_
            refine G_topi (fun v4 => ?_)
            refine G_istore_n (L' := [(1, .int v4), (0, .ref 63), (2, .int x2)]) C dX2_takeNumber_69 rfl (by decide) rfl ?_
            refine G_aload_n C 1 dX2_takeNumber_70 rfl rfl ?_
            refine G_dup C dX2_takeNumber_71 rfl ?_
            refine G_getI C 1 shX_63 rfl rfl (by decide) wf2_28 dX2_takeNumber_72 ?_
            refine G_iconst (v := 1) C dX2_takeNumber_75 (by decide) ?_
            refine G_iadd C dX2_takeNumber_76 ?_
            refine G_putI (ty := .int) C 1 shX_63 rfl rfl (by decide) wf2_28 rfl (by decide +kernel) rfl rfl dX2_takeNumber_77 (fun u5 => ?_)
            refine G_iinc (v := 1) (L' := [(2, .int (x2 + (1 : Int32))), (1, .int v4), (0, .ref 63)]) C 2 dX2_takeNumber_80 rfl (by decide) (by decide) rfl ?_
            refine G_goto (tgt := 4) C dX2_takeNumber_83 (by decide) ?_
            refine G_locals [2, 1, 0] rfl ?_
            exact ih v4 (x2 + (1 : Int32)) u5
set_option maxRecDepth 20000 in
theorem go_X2_takeNumber {p : Program} {l : Launch} {e : Env} {s : State} {m : MethodId} {args : Array Value} {below : List Frame} {meth : Method} {c : Code} {as : Nat → Nat} {dA : Nat → ClassId} {D : va_G} {d : Nat}  (C : zCx p s m args meth c as dA D SHX d 3 yX2_takeNumber.cls cX2_takeNumber ((some FieldType.int))) (hd : 1 ≤ d) : ∀ (u : zM), Go p l e s m args below meth c as dA D SHX d 3 zQi 0 [(0, .ref 63)] [] u (f_X2_takeNumber  u) := by
  intro u
  unfold f_X2_takeNumber
  refine G_iconst (v := -1) C dX2_takeNumber_0 (by decide) ?_
  refine G_istore_n (L' := [(1, .int (-1 : Int32)), (0, .ref 63)]) C dX2_takeNumber_1 rfl (by decide) rfl ?_
  refine G_iconst (v := 0) C dX2_takeNumber_2 (by decide) ?_
  refine G_istore_n (L' := [(2, .int (0 : Int32)), (1, .int (-1 : Int32)), (0, .ref 63)]) C dX2_takeNumber_3 rfl (by decide) rfl ?_
  refine G_locals [2, 1, 0] rfl ?_
  exact go_X2_takeNumber_L4 C hd 400 (-1 : Int32) (0 : Int32) u
theorem m_X2_takeNumber    (u : zM) (d : Nat) (hd : 1 ≤ d) : zMet zQi SHX yX2_takeNumber cX2_takeNumber 3 ((some FieldType.int)) d [.ref 63] u (f_X2_takeNumber  u) :=
  zMet_of (by decide +kernel) (fun as => Nat.le_of_ble_eq_true rfl) wwX2_takeNumber.2.2.2.1 (by omega) (fun p l e s m args below meth c as dA D C => go_X2_takeNumber C hd u)
/-! private int takeOneOf(java.lang.String) -/
def f_X2_takeOneOf_L29 (o : Nat) (s0 : Int32) (u : zM) : Option (Int32 × zM) :=
  (if s0 < (0 : Int32) then some (s0, u) else zlet (sI u 63 1 ((gI u 63 1) + (1 : Int32))) fun u1 => some (s0, u1))
def f_X2_takeOneOf (o : Nat) (u : zM) : Option (Int32 × zM) :=
  (if (gI u 63 0) ≤ (gI u 63 1) then f_X2_takeOneOf_L29 o (-1 : Int32) u else zck (inB (gI u 63 1) 100) <| zb (f_J0_indexOf_0f7a4 o (((gI u 64 (gI u 63 1).toNatClampNeg).toUInt32 % 65536).toInt32) u) fun y3 u4 => f_X2_takeOneOf_L29 o y3 u4)
set_option maxRecDepth 20000 in
theorem go_X2_takeOneOf_L29 {p : Program} {l : Launch} {e : Env} {s : State} {m : MethodId} {args : Array Value} {below : List Frame} {meth : Method} {c : Code} {as : Nat → Nat} {dA : Nat → ClassId} {D : va_G} {d : Nat} {o : Nat} (C : zCx p s m args meth c as dA D SHX d 3 yX2_takeOneOf.cls cX2_takeOneOf ((some FieldType.int))) (hd : 5 ≤ d) (ho : zStr o) : ∀ (s0 : Int32) (u : zM), Go p l e s m args below meth c as dA D SHX d 3 zQi 29 [(0, .ref 63), (1, .ref o)] [.int s0] u (f_X2_takeOneOf_L29 o s0 u) := by
  intro s0 u
  unfold f_X2_takeOneOf_L29
  refine G_istore_n (L' := [(2, .int s0), (0, .ref 63), (1, .ref o)]) C dX2_takeOneOf_29 rfl (by decide) rfl ?_
  refine G_iload_n C 0 dX2_takeOneOf_30 rfl rfl ?_
  refine G_if_lt (tgt := 44) C dX2_takeOneOf_31 (by decide) (fun _ => ?_) (fun _ => ?_)
  · refine G_iload_n C 0 dX2_takeOneOf_44 rfl rfl ?_
    exact G_iret C dX2_takeOneOf_45
  · refine G_aload_n C 1 dX2_takeOneOf_34 rfl rfl ?_
    refine G_dup C dX2_takeOneOf_35 rfl ?_
    refine G_getI C 1 shX_63 rfl rfl (by decide) wf2_28 dX2_takeOneOf_36 ?_
    refine G_iconst (v := 1) C dX2_takeOneOf_39 (by decide) ?_
    refine G_iadd C dX2_takeOneOf_40 ?_
    refine G_putI (ty := .int) C 1 shX_63 rfl rfl (by decide) wf2_28 rfl (by decide +kernel) rfl rfl dX2_takeOneOf_41 (fun u1 => ?_)
    refine G_iload_n C 0 dX2_takeOneOf_44 rfl rfl ?_
    exact G_iret C dX2_takeOneOf_45
set_option maxRecDepth 20000 in
theorem go_X2_takeOneOf {p : Program} {l : Launch} {e : Env} {s : State} {m : MethodId} {args : Array Value} {below : List Frame} {meth : Method} {c : Code} {as : Nat → Nat} {dA : Nat → ClassId} {D : va_G} {d : Nat} {o : Nat} (C : zCx p s m args meth c as dA D SHX d 3 yX2_takeOneOf.cls cX2_takeOneOf ((some FieldType.int))) (hd : 5 ≤ d) (ho : zStr o) : ∀ (u : zM), Go p l e s m args below meth c as dA D SHX d 3 zQi 0 [(0, .ref 63), (1, .ref o)] [] u (f_X2_takeOneOf o u) := by
  intro u
  unfold f_X2_takeOneOf
  refine G_aload_n C 0 dX2_takeOneOf_0 rfl rfl ?_
  refine G_getI C 1 shX_63 rfl rfl (by decide) wf2_28 dX2_takeOneOf_1 ?_
  refine G_aload_n C 0 dX2_takeOneOf_4 rfl rfl ?_
  refine G_getI C 0 shX_63 rfl rfl (by decide) wf2_15 dX2_takeOneOf_5 ?_
  refine G_icmp_ge (tgt := 28) C dX2_takeOneOf_8 (by decide) (fun _ => ?_) (fun _ => ?_)
  · refine G_iconst (v := -1) C dX2_takeOneOf_28 (by decide) ?_
    refine G_locals [0, 1] rfl ?_
    exact go_X2_takeOneOf_L29 C hd ho  (-1 : Int32) u
  · refine G_aload_n C 1 dX2_takeOneOf_11 rfl rfl ?_
    refine G_aload_n C 0 dX2_takeOneOf_12 rfl rfl ?_
    refine G_getR (j := 64) C 2 shX_63 rfl rfl (by decide) wf2_9 dX2_takeOneOf_13 ?_
    refine G_aload_n C 0 dX2_takeOneOf_16 rfl rfl ?_
    refine G_getI C 1 shX_63 rfl rfl (by decide) wf2_28 dX2_takeOneOf_17 ?_
    refine G_bald C shX_64 dX2_takeOneOf_20 (fun hb2 => ?_)
    refine G_i2c C dX2_takeOneOf_21 ?_
    refine G_callTi C (m_J0_indexOf_0f7a4 ho (((gI u 64 (gI u 63 1).toNatClampNeg).toUInt32 % 65536).toInt32) u (d - 1) (by omega)) (d' := d - 1) (As := [.int (((gI u 64 (gI u 63 1).toNatClampNeg).toUInt32 % 65536).toInt32)]) (by omega) rfl wm2_99 wwJ0_indexOf_0f7a4 ho rfl (Nat.le_of_ble_eq_true rfl) dX2_takeOneOf_22 (fun y3 u4 => ?_)
    refine G_goto (tgt := 29) C dX2_takeOneOf_25 (by decide) ?_
    refine G_locals [0, 1] rfl ?_
    exact go_X2_takeOneOf_L29 C hd ho  y3 u4
theorem m_X2_takeOneOf {o : Nat} (ho : zStr o)  (u : zM) (d : Nat) (hd : 5 ≤ d) : zMet zQi SHX yX2_takeOneOf cX2_takeOneOf 3 ((some FieldType.int)) d [.ref 63, .ref o] u (f_X2_takeOneOf o u) :=
  zMet_of (by decide +kernel) (fun as => Nat.le_of_ble_eq_true rfl) wwX2_takeOneOf.2.2.2.1 (by omega) (fun p l e s m args below meth c as dA D C => go_X2_takeOneOf C hd ho u)
/-! private boolean readsTest() -/
def f_X2_readsTest (u : zM) : Option (Int32 × zM) :=
  zb (f_X2_takeOneOf 1011 u) fun y1 u2 => (if (0 : Int32) ≤ y1 then zb (f_X2_takeOneOf 1012 u2) fun y3 u4 => (if (0 : Int32) ≤ y3 then zb (f_X2_takeNumber u4) fun y5 u6 => (if (0 : Int32) ≤ y5 then (zmo (gO u6 63 3) none fun q7 => zck (isQ q7) (zb (f_X4_addTest q7 y1 y3 y5 u6) fun _ u10 => some ((1 : Int32), u10))) else some ((0 : Int32), u6)) else some ((0 : Int32), u4)) else some ((0 : Int32), u2))
set_option maxRecDepth 20000 in
theorem go_X2_readsTest {p : Program} {l : Launch} {e : Env} {s : State} {m : MethodId} {args : Array Value} {below : List Frame} {meth : Method} {c : Code} {as : Nat → Nat} {dA : Nat → ClassId} {D : va_G} {d : Nat}  (C : zCx p s m args meth c as dA D SHX d 4 yX2_readsTest.cls cX2_readsTest ((some FieldType.boolean))) (hd : 6 ≤ d) : ∀ (u : zM), Go p l e s m args below meth c as dA D SHX d 4 zQi 0 [(0, .ref 63)] [] u (f_X2_readsTest  u) := by
  intro u
  unfold f_X2_readsTest
  refine G_aload_n C 0 dX2_readsTest_0 rfl rfl ?_
  refine G_ldcS C 1 rfl dX2_readsTest_1 ?_
  refine G_callVi C (m_X2_takeOneOf zStr_1011 u (d - 1) (by omega)) (d' := d - 1) (As := [.ref 1011]) (by omega) rfl wm2_83 wwX2_takeOneOf shX_63 rfl (Nat.le_of_ble_eq_true rfl) dX2_readsTest_3 (fun y1 u2 => ?_)
  refine G_istore_n (L' := [(1, .int y1), (0, .ref 63)]) C dX2_readsTest_6 rfl (by decide) rfl ?_
  refine G_iload_n C 0 dX2_readsTest_7 rfl rfl ?_
  refine G_if_ge (tgt := 13) C dX2_readsTest_8 (by decide) (fun _ => ?_) (fun _ => ?_)
  · refine G_aload_n C 1 dX2_readsTest_13 rfl rfl ?_
    refine G_ldcS C 2 rfl dX2_readsTest_14 ?_
    refine G_callVi C (m_X2_takeOneOf zStr_1012 u2 (d - 1) (by omega)) (d' := d - 1) (As := [.ref 1012]) (by omega) rfl wm2_83 wwX2_takeOneOf shX_63 rfl (Nat.le_of_ble_eq_true rfl) dX2_readsTest_16 (fun y3 u4 => ?_)
    refine G_istore_n (L' := [(2, .int y3), (1, .int y1), (0, .ref 63)]) C dX2_readsTest_19 rfl (by decide) rfl ?_
    refine G_iload_n C 0 dX2_readsTest_20 rfl rfl ?_
    refine G_if_ge (tgt := 26) C dX2_readsTest_21 (by decide) (fun _ => ?_) (fun _ => ?_)
    · refine G_aload_n C 2 dX2_readsTest_26 rfl rfl ?_
      refine G_callVi C (m_X2_takeNumber u4 (d - 1) (by omega)) (d' := d - 1) (As := []) (by omega) rfl wm2_56 wwX2_takeNumber shX_63 rfl (Nat.le_of_ble_eq_true rfl) dX2_readsTest_27 (fun y5 u6 => ?_)
      refine G_istore_n (L' := [(3, .int y5), (2, .int y3), (1, .int y1), (0, .ref 63)]) C dX2_readsTest_30 rfl (by decide) rfl ?_
      refine G_iload_n C 0 dX2_readsTest_31 rfl rfl ?_
      refine G_if_ge (tgt := 37) C dX2_readsTest_32 (by decide) (fun _ => ?_) (fun _ => ?_)
      · refine G_aload_n C 3 dX2_readsTest_37 rfl rfl ?_
        refine G_getO C 3 shX_63 rfl rfl (by decide) wf2_24 dX2_readsTest_38 (fun _ => ?_) (fun q7 _ => ?_)
        · refine G_iload_n C 2 dX2_readsTest_41 rfl rfl ?_
          refine G_iload_n C 1 dX2_readsTest_42 rfl rfl ?_
          refine G_iload_n C 0 dX2_readsTest_43 rfl rfl ?_
          exact G_none
        · refine G_ck (fun hq8 => ?_)
          refine G_iload_n C 2 dX2_readsTest_41 rfl rfl ?_
          refine G_iload_n C 1 dX2_readsTest_42 rfl rfl ?_
          refine G_iload_n C 0 dX2_readsTest_43 rfl rfl ?_
          refine G_callVv C (m_X4_addTest (isQ_sh hq8) y1 y3 y5 u6 (d - 1) (by omega)) (d' := d - 1) (As := [.int y1, .int y3, .int y5]) (by omega) rfl wm2_89 wwX4_addTest (isQ_sh hq8).1 rfl (Nat.le_of_ble_eq_true rfl) dX2_readsTest_44 (fun y9 u10 => ?_)
          refine G_iconst (v := 1) C dX2_readsTest_47 (by decide) ?_
          exact G_zret C rfl dX2_readsTest_48
      · refine G_iconst (v := 0) C dX2_readsTest_35 (by decide) ?_
        exact G_zret C rfl dX2_readsTest_36
    · refine G_iconst (v := 0) C dX2_readsTest_24 (by decide) ?_
      exact G_zret C rfl dX2_readsTest_25
  · refine G_iconst (v := 0) C dX2_readsTest_11 (by decide) ?_
    exact G_zret C rfl dX2_readsTest_12
theorem m_X2_readsTest    (u : zM) (d : Nat) (hd : 6 ≤ d) : zMet zQi SHX yX2_readsTest cX2_readsTest 4 ((some FieldType.boolean)) d [.ref 63] u (f_X2_readsTest  u) :=
  zMet_of (by decide +kernel) (fun as => Nat.le_of_ble_eq_true rfl) wwX2_readsTest.2.2.2.1 (by omega) (fun p l e s m args below meth c as dA D C => go_X2_readsTest C hd u)
/-! private boolean readsFactor(int) -/
def f_X2_readsFactor_L23 (rf : Int32 → zM → Option (Int32 × zM)) (p1 : Int32) (u : zM) : Option (Int32 × zM) :=
  (if p1 < (4 : Int32) then zb (f_X2_takes (40 : Int32) u) fun y3 u4 => (if y3 = (0 : Int32) then zb (f_X2_takes (33 : Int32) u4) fun y5 u6 => (if y5 = (0 : Int32) then some ((0 : Int32), u6) else zb (rf (p1 + (1 : Int32)) u6) fun y7 u8 => (if y7 = (0 : Int32) then some ((0 : Int32), u8) else (zmo (gO u8 63 3) none fun q9 => zck (isQ q9) (zb (f_X4_addStep q9 (-1 : Int32) u8) fun _ u12 => some ((1 : Int32), u12))))) else zb (f_X2_readsEither rf (p1 + (1 : Int32)) u4) fun y13 u14 => (if y13 = (0 : Int32) then some ((0 : Int32), u14) else zb (f_X2_takes (41 : Int32) u14) fun y15 u16 => (if y15 = (0 : Int32) then some ((0 : Int32), u16) else some ((1 : Int32), u16)))) else some ((0 : Int32), u))
def f_X2_readsFactor_b (rf : Int32 → zM → Option (Int32 × zM)) (p1 : Int32) (u : zM) : Option (Int32 × zM) :=
  zb (f_X2_sees (33 : Int32) u) fun y1 u2 => (if y1 = (0 : Int32) then zb (f_X2_sees (40 : Int32) u2) fun y17 u18 => (if y17 = (0 : Int32) then zb (f_X2_readsTest u18) fun y19 u20 => zck (z01 y19) <| some (y19, u20) else f_X2_readsFactor_L23 rf p1 u18) else f_X2_readsFactor_L23 rf p1 u2)
set_option maxRecDepth 20000 in
theorem go_X2_readsFactor_L23 {p : Program} {l : Launch} {e : Env} {s : State} {m : MethodId} {args : Array Value} {below : List Frame} {meth : Method} {c : Code} {as : Nat → Nat} {dA : Nat → ClassId} {D : va_G} {d : Nat} {p1 : Int32} (C : zCx p s m args meth c as dA D SHX d 2 yX2_readsFactor.cls cX2_readsFactor ((some FieldType.boolean))) {rf : Int32 → zM → Option (Int32 × zM)} (dr : Nat) (hdr : 20 ≤ dr) (hrf : ∀ (p : Int32) (u : zM) (d : Nat), dr ≤ d → zMet zQi SHX yX2_readsFactor cX2_readsFactor 2 ((some FieldType.boolean)) d [.ref 63, .int p] u (rf p u)) (hd : dr + 4 ≤ d) : ∀ (u : zM), Go p l e s m args below meth c as dA D SHX d 2 zQi 23 [(0, .ref 63), (1, .int p1)] [] u (f_X2_readsFactor_L23 rf p1 u) := by
  intro u
  unfold f_X2_readsFactor_L23
  refine G_iload_n C 1 dX2_readsFactor_23 rfl rfl ?_
  refine G_iconst (v := 4) C dX2_readsFactor_24 (by decide) ?_
  refine G_icmp_lt (tgt := 30) C dX2_readsFactor_25 (by decide) (fun _ => ?_) (fun _ => ?_)
  · refine G_aload_n C 0 dX2_readsFactor_30 rfl rfl ?_
    refine G_bipush (v := 40) C dX2_readsFactor_31 (by decide) ?_
    refine G_callVi C (m_X2_takes (40 : Int32) u (d - 1) (by omega)) (d' := d - 1) (As := [.int (40 : Int32)]) (by omega) rfl wm2_35 wwX2_takes shX_63 rfl (Nat.le_of_ble_eq_true rfl) dX2_readsFactor_33 (fun y3 u4 => ?_)
    refine G_if_eq (tgt := 64) C dX2_readsFactor_36 (by decide) (fun _ => ?_) (fun _ => ?_)
    · refine G_aload_n C 0 dX2_readsFactor_64 rfl rfl ?_
      refine G_bipush (v := 33) C dX2_readsFactor_65 (by decide) ?_
      refine G_callVi C (m_X2_takes (33 : Int32) u4 (d - 1) (by omega)) (d' := d - 1) (As := [.int (33 : Int32)]) (by omega) rfl wm2_35 wwX2_takes shX_63 rfl (Nat.le_of_ble_eq_true rfl) dX2_readsFactor_67 (fun y5 u6 => ?_)
      refine G_if_eq (tgt := 83) C dX2_readsFactor_70 (by decide) (fun _ => ?_) (fun _ => ?_)
      · refine G_iconst (v := 0) C dX2_readsFactor_83 (by decide) ?_
        exact G_zret C rfl dX2_readsFactor_84
      · refine G_aload_n C 0 dX2_readsFactor_73 rfl rfl ?_
        refine G_iload_n C 1 dX2_readsFactor_74 rfl rfl ?_
        refine G_iconst (v := 1) C dX2_readsFactor_75 (by decide) ?_
        refine G_iadd C dX2_readsFactor_76 ?_
        refine G_callVi C (hrf (p1 + (1 : Int32)) u6 (d - 1) (by omega)) (d' := d - 1) (As := [.int (p1 + (1 : Int32))]) (by omega) rfl wm2_75 wwX2_readsFactor shX_63 rfl (Nat.le_of_ble_eq_true rfl) dX2_readsFactor_77 (fun y7 u8 => ?_)
        refine G_if_ne (tgt := 85) C dX2_readsFactor_80 (by decide) (fun _ => ?_) (fun _ => ?_)
        · refine G_aload_n C 0 dX2_readsFactor_85 rfl rfl ?_
          refine G_getO C 3 shX_63 rfl rfl (by decide) wf2_24 dX2_readsFactor_86 (fun _ => ?_) (fun q9 _ => ?_)
          · refine G_iconst (v := -1) C dX2_readsFactor_89 (by decide) ?_
            exact G_none
          · refine G_ck (fun hq10 => ?_)
            refine G_iconst (v := -1) C dX2_readsFactor_89 (by decide) ?_
            refine G_callVv C (m_X4_addStep (isQ_sh hq10) (-1 : Int32) u8 (d - 1) (by omega)) (d' := d - 1) (As := [.int (-1 : Int32)]) (by omega) rfl wm2_72 wwX4_addStep (isQ_sh hq10).1 rfl (Nat.le_of_ble_eq_true rfl) dX2_readsFactor_90 (fun y11 u12 => ?_)
            refine G_iconst (v := 1) C dX2_readsFactor_93 (by decide) ?_
            exact G_zret C rfl dX2_readsFactor_94
        · refine G_iconst (v := 0) C dX2_readsFactor_83 (by decide) ?_
          exact G_zret C rfl dX2_readsFactor_84
    · refine G_aload_n C 0 dX2_readsFactor_39 rfl rfl ?_
      refine G_iload_n C 1 dX2_readsFactor_40 rfl rfl ?_
      refine G_iconst (v := 1) C dX2_readsFactor_41 (by decide) ?_
      refine G_iadd C dX2_readsFactor_42 ?_
      refine G_callVi C (m_X2_readsEither dr hdr hrf (p1 + (1 : Int32)) u4 (d - 1) (by omega)) (d' := d - 1) (As := [.int (p1 + (1 : Int32))]) (by omega) rfl wm2_62 wwX2_readsEither shX_63 rfl (Nat.le_of_ble_eq_true rfl) dX2_readsFactor_43 (fun y13 u14 => ?_)
      refine G_if_eq (tgt := 62) C dX2_readsFactor_46 (by decide) (fun _ => ?_) (fun _ => ?_)
      · refine G_iconst (v := 0) C dX2_readsFactor_62 (by decide) ?_
        exact G_zret C rfl dX2_readsFactor_63
      · refine G_aload_n C 0 dX2_readsFactor_49 rfl rfl ?_
        refine G_bipush (v := 41) C dX2_readsFactor_50 (by decide) ?_
        refine G_callVi C (m_X2_takes (41 : Int32) u14 (d - 1) (by omega)) (d' := d - 1) (As := [.int (41 : Int32)]) (by omega) rfl wm2_35 wwX2_takes shX_63 rfl (Nat.le_of_ble_eq_true rfl) dX2_readsFactor_52 (fun y15 u16 => ?_)
        refine G_if_eq (tgt := 62) C dX2_readsFactor_55 (by decide) (fun _ => ?_) (fun _ => ?_)
        · refine G_iconst (v := 0) C dX2_readsFactor_62 (by decide) ?_
          exact G_zret C rfl dX2_readsFactor_63
        · refine G_iconst (v := 1) C dX2_readsFactor_58 (by decide) ?_
          refine G_goto (tgt := 63) C dX2_readsFactor_59 (by decide) ?_
          exact G_zret C rfl dX2_readsFactor_63
  · refine G_iconst (v := 0) C dX2_readsFactor_28 (by decide) ?_
    exact G_zret C rfl dX2_readsFactor_29
set_option maxRecDepth 20000 in
theorem go_X2_readsFactor {p : Program} {l : Launch} {e : Env} {s : State} {m : MethodId} {args : Array Value} {below : List Frame} {meth : Method} {c : Code} {as : Nat → Nat} {dA : Nat → ClassId} {D : va_G} {d : Nat} {p1 : Int32} (C : zCx p s m args meth c as dA D SHX d 2 yX2_readsFactor.cls cX2_readsFactor ((some FieldType.boolean))) {rf : Int32 → zM → Option (Int32 × zM)} (dr : Nat) (hdr : 20 ≤ dr) (hrf : ∀ (p : Int32) (u : zM) (d : Nat), dr ≤ d → zMet zQi SHX yX2_readsFactor cX2_readsFactor 2 ((some FieldType.boolean)) d [.ref 63, .int p] u (rf p u)) (hd : dr + 4 ≤ d) : ∀ (u : zM), Go p l e s m args below meth c as dA D SHX d 2 zQi 0 [(0, .ref 63), (1, .int p1)] [] u (f_X2_readsFactor_b rf p1 u) := by
  intro u
  unfold f_X2_readsFactor_b
  refine G_aload_n C 0 dX2_readsFactor_0 rfl rfl ?_
  refine G_bipush (v := 33) C dX2_readsFactor_1 (by decide) ?_
  refine G_callVi C (m_X2_sees (33 : Int32) u (d - 1) (by omega)) (d' := d - 1) (As := [.int (33 : Int32)]) (by omega) rfl wm2_39 wwX2_sees shX_63 rfl (Nat.le_of_ble_eq_true rfl) dX2_readsFactor_3 (fun y1 u2 => ?_)
  refine G_if_ne (tgt := 23) C dX2_readsFactor_6 (by decide) (fun _ => ?_) (fun _ => ?_)
  · refine G_locals [0, 1] rfl ?_
    exact go_X2_readsFactor_L23 C dr hdr hrf hd u2
  · refine G_aload_n C 0 dX2_readsFactor_9 rfl rfl ?_
    refine G_bipush (v := 40) C dX2_readsFactor_10 (by decide) ?_
    refine G_callVi C (m_X2_sees (40 : Int32) u2 (d - 1) (by omega)) (d' := d - 1) (As := [.int (40 : Int32)]) (by omega) rfl wm2_39 wwX2_sees shX_63 rfl (Nat.le_of_ble_eq_true rfl) dX2_readsFactor_12 (fun y17 u18 => ?_)
    refine G_if_ne (tgt := 23) C dX2_readsFactor_15 (by decide) (fun _ => ?_) (fun _ => ?_)
    · refine G_locals [0, 1] rfl ?_
      exact go_X2_readsFactor_L23 C dr hdr hrf hd u18
    · refine G_aload_n C 0 dX2_readsFactor_18 rfl rfl ?_
      refine G_callVi C (m_X2_readsTest u18 (d - 1) (by omega)) (d' := d - 1) (As := []) (by omega) rfl wm2_78 wwX2_readsTest shX_63 rfl (Nat.le_of_ble_eq_true rfl) dX2_readsFactor_19 (fun y19 u20 => ?_)
      refine G_ck (fun hz21 => ?_)
      exact G_zret C (z01_nar hz21) dX2_readsFactor_22
theorem m_X2_readsFactor_b {rf : Int32 → zM → Option (Int32 × zM)} (dr : Nat) (hdr : 20 ≤ dr) (hrf : ∀ (p : Int32) (u : zM) (d : Nat), dr ≤ d → zMet zQi SHX yX2_readsFactor cX2_readsFactor 2 ((some FieldType.boolean)) d [.ref 63, .int p] u (rf p u))   (p1 : Int32) (u : zM) (d : Nat) (hd : dr + 4 ≤ d) : zMet zQi SHX yX2_readsFactor cX2_readsFactor 2 ((some FieldType.boolean)) d [.ref 63, .int p1] u (f_X2_readsFactor_b rf p1 u) :=
  zMet_of (by decide +kernel) (fun as => Nat.le_of_ble_eq_true rfl) wwX2_readsFactor.2.2.2.1 (by omega) (fun p l e s m args below meth c as dA D C => go_X2_readsFactor C dr hdr hrf hd u)
def f_X2_readsFactor : Nat → Int32 → zM → Option (Int32 × zM)
  | 0 => fun _ _ => none
  | fn + 1 => f_X2_readsFactor_b (f_X2_readsFactor fn)
theorem m_X2_readsFactor : ∀ (fn : Nat) (p : Int32) (u : zM) (d : Nat), 20 + 4 * fn ≤ d → zMet zQi SHX yX2_readsFactor cX2_readsFactor 2 ((some FieldType.boolean)) d [.ref 63, .int p] u (f_X2_readsFactor fn p u) := by
  intro fn
  induction fn with
  | zero => intro p u d _ r u' h; cases h
  | succ fn ih =>
    intro p u d hd
    exact m_X2_readsFactor_b (20 + 4 * fn) (by omega) ih p u d (by omega)
/-! private boolean readsHeat(int) -/
def f_X2_readsHeat (p1 : Int32) (u : zM) : Option (Int32 × zM) :=
  zb (f_X2_takes (32 : Int32) u) fun y1 u2 => (if y1 = (0 : Int32) then some ((0 : Int32), u2) else zb (f_X2_takeNumber u2) fun y3 u4 => (if y3 < (0 : Int32) then some ((0 : Int32), u4) else zb (f_X2_takes (32 : Int32) u4) fun y5 u6 => (if y5 = (0 : Int32) then some ((0 : Int32), u6) else zb (f_X2_readsEither (f_X2_readsFactor 6) (0 : Int32) u6) fun y7 u8 => (if y7 = (0 : Int32) then some ((0 : Int32), u8) else (zmo (gO u8 63 3) none fun q9 => zck (isQ q9) (zb (f_X4_addClause q9 (p1 * y3) u8) fun _ u12 => some ((1 : Int32), u12)))))))
set_option maxRecDepth 20000 in
theorem go_X2_readsHeat {p : Program} {l : Launch} {e : Env} {s : State} {m : MethodId} {args : Array Value} {below : List Frame} {meth : Method} {c : Code} {as : Nat → Nat} {dA : Nat → ClassId} {D : va_G} {d : Nat} {p1 : Int32} (C : zCx p s m args meth c as dA D SHX d 3 yX2_readsHeat.cls cX2_readsHeat ((some FieldType.boolean))) (hd : 48 ≤ d) : ∀ (u : zM), Go p l e s m args below meth c as dA D SHX d 3 zQi 0 [(0, .ref 63), (1, .int p1)] [] u (f_X2_readsHeat p1 u) := by
  intro u
  unfold f_X2_readsHeat
  refine G_aload_n C 0 dX2_readsHeat_0 rfl rfl ?_
  refine G_bipush (v := 32) C dX2_readsHeat_1 (by decide) ?_
  refine G_callVi C (m_X2_takes (32 : Int32) u (d - 1) (by omega)) (d' := d - 1) (As := [.int (32 : Int32)]) (by omega) rfl wm2_35 wwX2_takes shX_63 rfl (Nat.le_of_ble_eq_true rfl) dX2_readsHeat_3 (fun y1 u2 => ?_)
  refine G_if_ne (tgt := 11) C dX2_readsHeat_6 (by decide) (fun _ => ?_) (fun _ => ?_)
  · refine G_aload_n C 0 dX2_readsHeat_11 rfl rfl ?_
    refine G_callVi C (m_X2_takeNumber u2 (d - 1) (by omega)) (d' := d - 1) (As := []) (by omega) rfl wm2_56 wwX2_takeNumber shX_63 rfl (Nat.le_of_ble_eq_true rfl) dX2_readsHeat_12 (fun y3 u4 => ?_)
    refine G_istore_n (L' := [(2, .int y3), (0, .ref 63), (1, .int p1)]) C dX2_readsHeat_15 rfl (by decide) rfl ?_
    refine G_iload_n C 0 dX2_readsHeat_16 rfl rfl ?_
    refine G_if_lt (tgt := 37) C dX2_readsHeat_17 (by decide) (fun _ => ?_) (fun _ => ?_)
    · refine G_iconst (v := 0) C dX2_readsHeat_37 (by decide) ?_
      exact G_zret C rfl dX2_readsHeat_38
    · refine G_aload_n C 1 dX2_readsHeat_20 rfl rfl ?_
      refine G_bipush (v := 32) C dX2_readsHeat_21 (by decide) ?_
      refine G_callVi C (m_X2_takes (32 : Int32) u4 (d - 1) (by omega)) (d' := d - 1) (As := [.int (32 : Int32)]) (by omega) rfl wm2_35 wwX2_takes shX_63 rfl (Nat.le_of_ble_eq_true rfl) dX2_readsHeat_23 (fun y5 u6 => ?_)
      refine G_if_eq (tgt := 37) C dX2_readsHeat_26 (by decide) (fun _ => ?_) (fun _ => ?_)
      · refine G_iconst (v := 0) C dX2_readsHeat_37 (by decide) ?_
        exact G_zret C rfl dX2_readsHeat_38
      · refine G_aload_n C 1 dX2_readsHeat_29 rfl rfl ?_
        refine G_iconst (v := 0) C dX2_readsHeat_30 (by decide) ?_
        refine G_callVi C (m_X2_readsEither (20 + 4 * 6) (by decide) (m_X2_readsFactor 6) (0 : Int32) u6 (d - 1) (by omega)) (d' := d - 1) (As := [.int (0 : Int32)]) (by omega) rfl wm2_62 wwX2_readsEither shX_63 rfl (Nat.le_of_ble_eq_true rfl) dX2_readsHeat_31 (fun y7 u8 => ?_)
        refine G_if_ne (tgt := 39) C dX2_readsHeat_34 (by decide) (fun _ => ?_) (fun _ => ?_)
        · refine G_aload_n C 1 dX2_readsHeat_39 rfl rfl ?_
          refine G_getO C 3 shX_63 rfl rfl (by decide) wf2_24 dX2_readsHeat_40 (fun _ => ?_) (fun q9 _ => ?_)
          · refine G_iload_n C 2 dX2_readsHeat_43 rfl rfl ?_
            refine G_iload_n C 0 dX2_readsHeat_44 rfl rfl ?_
            refine G_imul C dX2_readsHeat_45 ?_
            exact G_none
          · refine G_ck (fun hq10 => ?_)
            refine G_iload_n C 2 dX2_readsHeat_43 rfl rfl ?_
            refine G_iload_n C 0 dX2_readsHeat_44 rfl rfl ?_
            refine G_imul C dX2_readsHeat_45 ?_
            refine G_callVv C (m_X4_addClause (isQ_sh hq10) (p1 * y3) u8 (d - 1) (by omega)) (d' := d - 1) (As := [.int (p1 * y3)]) (by omega) rfl wm2_65 wwX4_addClause (isQ_sh hq10).1 rfl (Nat.le_of_ble_eq_true rfl) dX2_readsHeat_46 (fun y11 u12 => ?_)
            refine G_iconst (v := 1) C dX2_readsHeat_49 (by decide) ?_
            exact G_zret C rfl dX2_readsHeat_50
        · refine G_iconst (v := 0) C dX2_readsHeat_37 (by decide) ?_
          exact G_zret C rfl dX2_readsHeat_38
  · refine G_iconst (v := 0) C dX2_readsHeat_9 (by decide) ?_
    exact G_zret C rfl dX2_readsHeat_10
theorem m_X2_readsHeat   (p1 : Int32) (u : zM) (d : Nat) (hd : 48 ≤ d) : zMet zQi SHX yX2_readsHeat cX2_readsHeat 3 ((some FieldType.boolean)) d [.ref 63, .int p1] u (f_X2_readsHeat p1 u) :=
  zMet_of (by decide +kernel) (fun as => Nat.le_of_ble_eq_true rfl) wwX2_readsHeat.2.2.2.1 (by omega) (fun p l e s m args below meth c as dA D C => go_X2_readsHeat C hd u)
/-! private boolean takesWord(java.lang.String) -/
def f_X2_takesWord_L2_b (o : Nat) (rc : Int32 → zM → Option (Int32 × zM)) (x2 : Int32) (u : zM) : Option (Int32 × zM) :=
  zb (f_J0_length_8abf5 o u) fun y1 u2 => (if y1 ≤ x2 then some ((1 : Int32), u2) else zb (f_J0_charAt_5068e o x2 u2) fun y3 u4 => zb (f_X2_takes y3 u4) fun y5 u6 => (if y5 = (0 : Int32) then some ((0 : Int32), u6) else rc (x2 + (1 : Int32)) u6))
def f_X2_takesWord_L2 (o : Nat) : Nat → Int32 → zM → Option (Int32 × zM)
  | 0 => fun _ _ => none
  | fn + 1 => f_X2_takesWord_L2_b o (f_X2_takesWord_L2 o fn)
def f_X2_takesWord (o : Nat) (u : zM) : Option (Int32 × zM) :=
  f_X2_takesWord_L2 o 400 (0 : Int32) u
set_option maxRecDepth 20000 in
theorem go_X2_takesWord_L2 {p : Program} {l : Launch} {e : Env} {s : State} {m : MethodId} {args : Array Value} {below : List Frame} {meth : Method} {c : Code} {as : Nat → Nat} {dA : Nat → ClassId} {D : va_G} {d : Nat} {o : Nat} (C : zCx p s m args meth c as dA D SHX d 3 yX2_takesWord.cls cX2_takesWord ((some FieldType.boolean))) (hd : 5 ≤ d) (ho : zStr o) : ∀ (fn : Nat) (x2 : Int32) (u : zM), Go p l e s m args below meth c as dA D SHX d 3 zQi 2 [(0, .ref 63), (1, .ref o), (2, .int x2)] [] u (f_X2_takesWord_L2 o fn x2 u) := by
  intro fn
  induction fn with
  | zero => intro x2 u; exact G_none
  | succ fn ih =>
    intro x2 u
    show Go p l e s m args below meth c as dA D SHX d 3 zQi 2 [(0, .ref 63), (1, .ref o), (2, .int x2)] [] u (f_X2_takesWord_L2_b o (f_X2_takesWord_L2 o fn) x2 u)
    unfold f_X2_takesWord_L2_b
    refine G_iload_n C 2 dX2_takesWord_2 rfl rfl ?_
    refine G_aload_n C 1 dX2_takesWord_3 rfl rfl ?_
    refine G_callTi C (m_J0_length_8abf5 ho u (d - 1) (by omega)) (d' := d - 1) (As := []) (by omega) rfl wm2_105 wwJ0_length_8abf5 ho rfl (Nat.le_of_ble_eq_true rfl) dX2_takesWord_4 (fun y1 u2 => ?_)
    refine G_icmp_ge (tgt := 30) C dX2_takesWord_7 (by decide) (fun _ => ?_) (fun _ => ?_)
    · refine G_iconst (v := 1) C dX2_takesWord_30 (by decide) ?_
      exact G_zret C rfl dX2_takesWord_31
    · refine G_aload_n C 0 dX2_takesWord_10 rfl rfl ?_
      refine G_aload_n C 1 dX2_takesWord_11 rfl rfl ?_
      refine G_iload_n C 2 dX2_takesWord_12 rfl rfl ?_
      refine G_callTi C (m_J0_charAt_5068e ho x2 u2 (d - 1) (by omega)) (d' := d - 1) (As := [.int x2]) (by omega) rfl wm2_108 wwJ0_charAt_5068e ho rfl (Nat.le_of_ble_eq_true rfl) dX2_takesWord_13 (fun y3 u4 => ?_)
      refine G_callVi C (m_X2_takes y3 u4 (d - 1) (by omega)) (d' := d - 1) (As := [.int y3]) (by omega) rfl wm2_35 wwX2_takes shX_63 rfl (Nat.le_of_ble_eq_true rfl) dX2_takesWord_16 (fun y5 u6 => ?_)
      refine G_if_ne (tgt := 24) C dX2_takesWord_19 (by decide) (fun _ => ?_) (fun _ => ?_)
      · refine G_iinc (v := 1) (L' := [(2, .int (x2 + (1 : Int32))), (0, .ref 63), (1, .ref o)]) C 2 dX2_takesWord_24 rfl (by decide) (by decide) rfl ?_
        refine G_goto (tgt := 2) C dX2_takesWord_27 (by decide) ?_
        refine G_locals [1, 2, 0] rfl ?_
        exact ih (x2 + (1 : Int32)) u6
      · refine G_iconst (v := 0) C dX2_takesWord_22 (by decide) ?_
        exact G_zret C rfl dX2_takesWord_23
set_option maxRecDepth 20000 in
theorem go_X2_takesWord {p : Program} {l : Launch} {e : Env} {s : State} {m : MethodId} {args : Array Value} {below : List Frame} {meth : Method} {c : Code} {as : Nat → Nat} {dA : Nat → ClassId} {D : va_G} {d : Nat} {o : Nat} (C : zCx p s m args meth c as dA D SHX d 3 yX2_takesWord.cls cX2_takesWord ((some FieldType.boolean))) (hd : 5 ≤ d) (ho : zStr o) : ∀ (u : zM), Go p l e s m args below meth c as dA D SHX d 3 zQi 0 [(0, .ref 63), (1, .ref o)] [] u (f_X2_takesWord o u) := by
  intro u
  unfold f_X2_takesWord
  refine G_iconst (v := 0) C dX2_takesWord_0 (by decide) ?_
  refine G_istore_n (L' := [(2, .int (0 : Int32)), (0, .ref 63), (1, .ref o)]) C dX2_takesWord_1 rfl (by decide) rfl ?_
  refine G_locals [1, 2, 0] rfl ?_
  exact go_X2_takesWord_L2 C hd ho 400 (0 : Int32) u
theorem m_X2_takesWord {o : Nat} (ho : zStr o)  (u : zM) (d : Nat) (hd : 5 ≤ d) : zMet zQi SHX yX2_takesWord cX2_takesWord 3 ((some FieldType.boolean)) d [.ref 63, .ref o] u (f_X2_takesWord o u) :=
  zMet_of (by decide +kernel) (fun as => Nat.le_of_ble_eq_true rfl) wwX2_takesWord.2.2.2.1 (by omega) (fun p l e s m args below meth c as dA D C => go_X2_takesWord C hd ho u)
/-! private boolean readsClause() -/
def f_X2_readsClause (u : zM) : Option (Int32 × zM) :=
  zb (f_X2_sees (104 : Int32) u) fun y1 u2 => (if y1 = (0 : Int32) then zb (f_X2_sees (99 : Int32) u2) fun y3 u4 => (if y3 = (0 : Int32) then zb (f_X2_takesWord 1014 u4) fun y5 u6 => (if y5 = (0 : Int32) then some ((0 : Int32), u6) else zb (f_X2_takes (32 : Int32) u6) fun y7 u8 => (if y7 = (0 : Int32) then some ((0 : Int32), u8) else zb (f_X2_takeNumber u8) fun y9 u10 => (if y9 < (0 : Int32) then (if y9 < (0 : Int32) then some ((0 : Int32), u10) else some ((1 : Int32), u10)) else (zmo (gO u10 63 3) none fun q11 => zck (isQ q11) (zlet (sI u10 q11 0 y9) fun u13 => (if y9 < (0 : Int32) then some ((0 : Int32), u13) else some ((1 : Int32), u13))))))) else zb (f_X2_takesWord 1013 u4) fun y14 u15 => (if y14 = (0 : Int32) then some ((0 : Int32), u15) else zb (f_X2_readsHeat (-1 : Int32) u15) fun y16 u17 => (if y16 = (0 : Int32) then some ((0 : Int32), u17) else some ((1 : Int32), u17)))) else zb (f_X2_takesWord 1010 u2) fun y18 u19 => (if y18 = (0 : Int32) then some ((0 : Int32), u19) else zb (f_X2_readsHeat (1 : Int32) u19) fun y20 u21 => (if y20 = (0 : Int32) then some ((0 : Int32), u21) else some ((1 : Int32), u21))))
set_option maxRecDepth 20000 in
theorem go_X2_readsClause {p : Program} {l : Launch} {e : Env} {s : State} {m : MethodId} {args : Array Value} {below : List Frame} {meth : Method} {c : Code} {as : Nat → Nat} {dA : Nat → ClassId} {D : va_G} {d : Nat}  (C : zCx p s m args meth c as dA D SHX d 2 yX2_readsClause.cls cX2_readsClause ((some FieldType.boolean))) (hd : 49 ≤ d) : ∀ (u : zM), Go p l e s m args below meth c as dA D SHX d 2 zQi 0 [(0, .ref 63)] [] u (f_X2_readsClause  u) := by
  intro u
  unfold f_X2_readsClause
  refine G_aload_n C 0 dX2_readsClause_0 rfl rfl ?_
  refine G_bipush (v := 104) C dX2_readsClause_1 (by decide) ?_
  refine G_callVi C (m_X2_sees (104 : Int32) u (d - 1) (by omega)) (d' := d - 1) (As := [.int (104 : Int32)]) (by omega) rfl wm2_39 wwX2_sees shX_63 rfl (Nat.le_of_ble_eq_true rfl) dX2_readsClause_3 (fun y1 u2 => ?_)
  refine G_if_eq (tgt := 32) C dX2_readsClause_6 (by decide) (fun _ => ?_) (fun _ => ?_)
  · refine G_aload_n C 0 dX2_readsClause_32 rfl rfl ?_
    refine G_bipush (v := 99) C dX2_readsClause_33 (by decide) ?_
    refine G_callVi C (m_X2_sees (99 : Int32) u2 (d - 1) (by omega)) (d' := d - 1) (As := [.int (99 : Int32)]) (by omega) rfl wm2_39 wwX2_sees shX_63 rfl (Nat.le_of_ble_eq_true rfl) dX2_readsClause_35 (fun y3 u4 => ?_)
    refine G_if_eq (tgt := 64) C dX2_readsClause_38 (by decide) (fun _ => ?_) (fun _ => ?_)
    · refine G_aload_n C 0 dX2_readsClause_64 rfl rfl ?_
      refine G_ldcS C 4 rfl dX2_readsClause_65 ?_
      refine G_callVi C (m_X2_takesWord zStr_1014 u4 (d - 1) (by omega)) (d' := d - 1) (As := [.ref 1014]) (by omega) rfl wm2_44 wwX2_takesWord shX_63 rfl (Nat.le_of_ble_eq_true rfl) dX2_readsClause_67 (fun y5 u6 => ?_)
      refine G_if_eq (tgt := 82) C dX2_readsClause_70 (by decide) (fun _ => ?_) (fun _ => ?_)
      · refine G_iconst (v := 0) C dX2_readsClause_82 (by decide) ?_
        exact G_zret C rfl dX2_readsClause_83
      · refine G_aload_n C 0 dX2_readsClause_73 rfl rfl ?_
        refine G_bipush (v := 32) C dX2_readsClause_74 (by decide) ?_
        refine G_callVi C (m_X2_takes (32 : Int32) u6 (d - 1) (by omega)) (d' := d - 1) (As := [.int (32 : Int32)]) (by omega) rfl wm2_35 wwX2_takes shX_63 rfl (Nat.le_of_ble_eq_true rfl) dX2_readsClause_76 (fun y7 u8 => ?_)
        refine G_if_ne (tgt := 84) C dX2_readsClause_79 (by decide) (fun _ => ?_) (fun _ => ?_)
        · refine G_aload_n C 0 dX2_readsClause_84 rfl rfl ?_
          refine G_callVi C (m_X2_takeNumber u8 (d - 1) (by omega)) (d' := d - 1) (As := []) (by omega) rfl wm2_56 wwX2_takeNumber shX_63 rfl (Nat.le_of_ble_eq_true rfl) dX2_readsClause_85 (fun y9 u10 => ?_)
          refine G_istore_n (L' := [(1, .int y9), (0, .ref 63)]) C dX2_readsClause_88 rfl (by decide) rfl ?_
          refine G_iload_n C 0 dX2_readsClause_89 rfl rfl ?_
          refine G_if_lt (tgt := 101) C dX2_readsClause_90 (by decide) (fun _ => ?_) (fun _ => ?_)
          · refine G_iload_n C 0 dX2_readsClause_101 rfl rfl ?_
            refine G_if_lt (tgt := 109) C dX2_readsClause_102 (by decide) (fun _ => ?_) (fun _ => ?_)
            · refine G_iconst (v := 0) C dX2_readsClause_109 (by decide) ?_
              exact G_zret C rfl dX2_readsClause_110
            · refine G_iconst (v := 1) C dX2_readsClause_105 (by decide) ?_
              refine G_goto (tgt := 110) C dX2_readsClause_106 (by decide) ?_
              exact G_zret C rfl dX2_readsClause_110
          · refine G_aload_n C 1 dX2_readsClause_93 rfl rfl ?_
            refine G_getO C 3 shX_63 rfl rfl (by decide) wf2_24 dX2_readsClause_94 (fun _ => ?_) (fun q11 _ => ?_)
            · refine G_iload_n C 0 dX2_readsClause_97 rfl rfl ?_
              exact G_none
            · refine G_ck (fun hq12 => ?_)
              refine G_iload_n C 0 dX2_readsClause_97 rfl rfl ?_
              refine G_putI (ty := .int) C 0 (isQ_sh hq12).1 rfl rfl (by decide) wf2_60 rfl (by decide +kernel) rfl rfl dX2_readsClause_98 (fun u13 => ?_)
              refine G_iload_n C 0 dX2_readsClause_101 rfl rfl ?_
              refine G_if_lt (tgt := 109) C dX2_readsClause_102 (by decide) (fun _ => ?_) (fun _ => ?_)
              · refine G_iconst (v := 0) C dX2_readsClause_109 (by decide) ?_
                exact G_zret C rfl dX2_readsClause_110
              · refine G_iconst (v := 1) C dX2_readsClause_105 (by decide) ?_
                refine G_goto (tgt := 110) C dX2_readsClause_106 (by decide) ?_
                exact G_zret C rfl dX2_readsClause_110
        · refine G_iconst (v := 0) C dX2_readsClause_82 (by decide) ?_
          exact G_zret C rfl dX2_readsClause_83
    · refine G_aload_n C 0 dX2_readsClause_41 rfl rfl ?_
      refine G_ldcS C 3 rfl dX2_readsClause_42 ?_
      refine G_callVi C (m_X2_takesWord zStr_1013 u4 (d - 1) (by omega)) (d' := d - 1) (As := [.ref 1013]) (by omega) rfl wm2_44 wwX2_takesWord shX_63 rfl (Nat.le_of_ble_eq_true rfl) dX2_readsClause_44 (fun y14 u15 => ?_)
      refine G_if_eq (tgt := 62) C dX2_readsClause_47 (by decide) (fun _ => ?_) (fun _ => ?_)
      · refine G_iconst (v := 0) C dX2_readsClause_62 (by decide) ?_
        exact G_zret C rfl dX2_readsClause_63
      · refine G_aload_n C 0 dX2_readsClause_50 rfl rfl ?_
        refine G_iconst (v := -1) C dX2_readsClause_51 (by decide) ?_
        refine G_callVi C (m_X2_readsHeat (-1 : Int32) u15 (d - 1) (by omega)) (d' := d - 1) (As := [.int (-1 : Int32)]) (by omega) rfl wm2_48 wwX2_readsHeat shX_63 rfl (Nat.le_of_ble_eq_true rfl) dX2_readsClause_52 (fun y16 u17 => ?_)
        refine G_if_eq (tgt := 62) C dX2_readsClause_55 (by decide) (fun _ => ?_) (fun _ => ?_)
        · refine G_iconst (v := 0) C dX2_readsClause_62 (by decide) ?_
          exact G_zret C rfl dX2_readsClause_63
        · refine G_iconst (v := 1) C dX2_readsClause_58 (by decide) ?_
          refine G_goto (tgt := 63) C dX2_readsClause_59 (by decide) ?_
          exact G_zret C rfl dX2_readsClause_63
  · refine G_aload_n C 0 dX2_readsClause_9 rfl rfl ?_
    refine G_ldcS C 0 rfl dX2_readsClause_10 ?_
    refine G_callVi C (m_X2_takesWord zStr_1010 u2 (d - 1) (by omega)) (d' := d - 1) (As := [.ref 1010]) (by omega) rfl wm2_44 wwX2_takesWord shX_63 rfl (Nat.le_of_ble_eq_true rfl) dX2_readsClause_12 (fun y18 u19 => ?_)
    refine G_if_eq (tgt := 30) C dX2_readsClause_15 (by decide) (fun _ => ?_) (fun _ => ?_)
    · refine G_iconst (v := 0) C dX2_readsClause_30 (by decide) ?_
      exact G_zret C rfl dX2_readsClause_31
    · refine G_aload_n C 0 dX2_readsClause_18 rfl rfl ?_
      refine G_iconst (v := 1) C dX2_readsClause_19 (by decide) ?_
      refine G_callVi C (m_X2_readsHeat (1 : Int32) u19 (d - 1) (by omega)) (d' := d - 1) (As := [.int (1 : Int32)]) (by omega) rfl wm2_48 wwX2_readsHeat shX_63 rfl (Nat.le_of_ble_eq_true rfl) dX2_readsClause_20 (fun y20 u21 => ?_)
      refine G_if_eq (tgt := 30) C dX2_readsClause_23 (by decide) (fun _ => ?_) (fun _ => ?_)
      · refine G_iconst (v := 0) C dX2_readsClause_30 (by decide) ?_
        exact G_zret C rfl dX2_readsClause_31
      · refine G_iconst (v := 1) C dX2_readsClause_26 (by decide) ?_
        refine G_goto (tgt := 31) C dX2_readsClause_27 (by decide) ?_
        exact G_zret C rfl dX2_readsClause_31
theorem m_X2_readsClause    (u : zM) (d : Nat) (hd : 49 ≤ d) : zMet zQi SHX yX2_readsClause cX2_readsClause 2 ((some FieldType.boolean)) d [.ref 63] u (f_X2_readsClause  u) :=
  zMet_of (by decide +kernel) (fun as => Nat.le_of_ble_eq_true rfl) wwX2_readsClause.2.2.2.1 (by omega) (fun p l e s m args below meth c as dA D C => go_X2_readsClause C hd u)
/-! boolean reads(StruckWhile$Square) -/
def f_X2_reads_L16_b (o : Nat) (rc : Int32 → zM → Option (Int32 × zM)) (x2 : Int32) (u : zM) : Option (Int32 × zM) :=
  (if (10 : Int32) < x2 then some ((0 : Int32), u) else zb (f_X2_readsClause u) fun y5 u6 => (if y5 = (0 : Int32) then some ((0 : Int32), u6) else (if (gI u6 63 1) = (gI u6 63 0) then some ((1 : Int32), u6) else (if x2 = (10 : Int32) then some ((0 : Int32), u6) else zb (f_X2_takes (59 : Int32) u6) fun y7 u8 => (if y7 = (0 : Int32) then some ((0 : Int32), u8) else rc (x2 + (1 : Int32)) u8)))))
def f_X2_reads_L16 (o : Nat) : Nat → Int32 → zM → Option (Int32 × zM)
  | 0 => fun _ _ => none
  | fn + 1 => f_X2_reads_L16_b o (f_X2_reads_L16 o fn)
def f_X2_reads (o : Nat) (u : zM) : Option (Int32 × zM) :=
  zb (f_X4_empty o u) fun _ u2 => zlet (sO u2 63 3 (some o)) fun u3 => zlet (sI u3 63 1 (0 : Int32)) fun u4 => f_X2_reads_L16 o 400 (1 : Int32) u4
set_option maxRecDepth 20000 in
theorem go_X2_reads_L16 {p : Program} {l : Launch} {e : Env} {s : State} {m : MethodId} {args : Array Value} {below : List Frame} {meth : Method} {c : Code} {as : Nat → Nat} {dA : Nat → ClassId} {D : va_G} {d : Nat} {o : Nat} (C : zCx p s m args meth c as dA D SHX d 3 yX2_reads.cls cX2_reads ((some FieldType.boolean))) (hd : 50 ≤ d) (ho : zSq o) : ∀ (fn : Nat) (x2 : Int32) (u : zM), Go p l e s m args below meth c as dA D SHX d 3 zQi 16 [(0, .ref 63), (1, .ref o), (2, .int x2)] [] u (f_X2_reads_L16 o fn x2 u) := by
  intro fn
  induction fn with
  | zero => intro x2 u; exact G_none
  | succ fn ih =>
    intro x2 u
    show Go p l e s m args below meth c as dA D SHX d 3 zQi 16 [(0, .ref 63), (1, .ref o), (2, .int x2)] [] u (f_X2_reads_L16_b o (f_X2_reads_L16 o fn) x2 u)
    unfold f_X2_reads_L16_b
    refine G_iload_n C 2 dX2_reads_16 rfl rfl ?_
    refine G_bipush (v := 10) C dX2_reads_17 (by decide) ?_
    refine G_icmp_gt (tgt := 67) C dX2_reads_19 (by decide) (fun _ => ?_) (fun _ => ?_)
    · refine G_iconst (v := 0) C dX2_reads_67 (by decide) ?_
      exact G_zret C rfl dX2_reads_68
    · refine G_aload_n C 0 dX2_reads_22 rfl rfl ?_
      refine G_callVi C (m_X2_readsClause u (d - 1) (by omega)) (d' := d - 1) (As := []) (by omega) rfl wm2_31 wwX2_readsClause shX_63 rfl (Nat.le_of_ble_eq_true rfl) dX2_reads_23 (fun y5 u6 => ?_)
      refine G_if_ne (tgt := 31) C dX2_reads_26 (by decide) (fun _ => ?_) (fun _ => ?_)
      · refine G_aload_n C 0 dX2_reads_31 rfl rfl ?_
        refine G_getI C 1 shX_63 rfl rfl (by decide) wf2_28 dX2_reads_32 ?_
        refine G_aload_n C 0 dX2_reads_35 rfl rfl ?_
        refine G_getI C 0 shX_63 rfl rfl (by decide) wf2_15 dX2_reads_36 ?_
        refine G_icmp_ne (tgt := 44) C dX2_reads_39 (by decide) (fun _ => ?_) (fun _ => ?_)
        · refine G_iload_n C 2 dX2_reads_44 rfl rfl ?_
          refine G_bipush (v := 10) C dX2_reads_45 (by decide) ?_
          refine G_icmp_eq (tgt := 59) C dX2_reads_47 (by decide) (fun _ => ?_) (fun _ => ?_)
          · refine G_iconst (v := 0) C dX2_reads_59 (by decide) ?_
            exact G_zret C rfl dX2_reads_60
          · refine G_aload_n C 0 dX2_reads_50 rfl rfl ?_
            refine G_bipush (v := 59) C dX2_reads_51 (by decide) ?_
            refine G_callVi C (m_X2_takes (59 : Int32) u6 (d - 1) (by omega)) (d' := d - 1) (As := [.int (59 : Int32)]) (by omega) rfl wm2_35 wwX2_takes shX_63 rfl (Nat.le_of_ble_eq_true rfl) dX2_reads_53 (fun y7 u8 => ?_)
            refine G_if_ne (tgt := 61) C dX2_reads_56 (by decide) (fun _ => ?_) (fun _ => ?_)
            · refine G_iinc (v := 1) (L' := [(2, .int (x2 + (1 : Int32))), (0, .ref 63), (1, .ref o)]) C 2 dX2_reads_61 rfl (by decide) (by decide) rfl ?_
              refine G_goto (tgt := 16) C dX2_reads_64 (by decide) ?_
              refine G_locals [1, 2, 0] rfl ?_
              exact ih (x2 + (1 : Int32)) u8
            · refine G_iconst (v := 0) C dX2_reads_59 (by decide) ?_
              exact G_zret C rfl dX2_reads_60
        · refine G_iconst (v := 1) C dX2_reads_42 (by decide) ?_
          exact G_zret C rfl dX2_reads_43
      · refine G_iconst (v := 0) C dX2_reads_29 (by decide) ?_
        exact G_zret C rfl dX2_reads_30
set_option maxRecDepth 20000 in
theorem go_X2_reads {p : Program} {l : Launch} {e : Env} {s : State} {m : MethodId} {args : Array Value} {below : List Frame} {meth : Method} {c : Code} {as : Nat → Nat} {dA : Nat → ClassId} {D : va_G} {d : Nat} {o : Nat} (C : zCx p s m args meth c as dA D SHX d 3 yX2_reads.cls cX2_reads ((some FieldType.boolean))) (hd : 50 ≤ d) (ho : zSq o) : ∀ (u : zM), Go p l e s m args below meth c as dA D SHX d 3 zQi 0 [(0, .ref 63), (1, .ref o)] [] u (f_X2_reads o u) := by
  intro u
  unfold f_X2_reads
  refine G_aload_n C 1 dX2_reads_0 rfl rfl ?_
  refine G_callVv C (m_X4_empty ho u (d - 1) (by omega)) (d' := d - 1) (As := []) (by omega) rfl wm2_19 wwX4_empty ho.1 rfl (Nat.le_of_ble_eq_true rfl) dX2_reads_1 (fun y1 u2 => ?_)
  refine G_aload_n C 0 dX2_reads_4 rfl rfl ?_
  refine G_aload_n C 1 dX2_reads_5 rfl rfl ?_
  refine G_putO (C2 := "StruckWhile$Square") C 3 shX_63 rfl rfl (by decide) wf2_24 rfl (by decide +kernel) dX2_reads_6 (fun u3 => ?_)
  refine G_aload_n C 0 dX2_reads_9 rfl rfl ?_
  refine G_iconst (v := 0) C dX2_reads_10 (by decide) ?_
  refine G_putI (ty := .int) C 1 shX_63 rfl rfl (by decide) wf2_28 rfl (by decide +kernel) rfl rfl dX2_reads_11 (fun u4 => ?_)
  refine G_iconst (v := 1) C dX2_reads_14 (by decide) ?_
  refine G_istore_n (L' := [(2, .int (1 : Int32)), (0, .ref 63), (1, .ref o)]) C dX2_reads_15 rfl (by decide) rfl ?_
  refine G_locals [1, 2, 0] rfl ?_
  exact go_X2_reads_L16 C hd ho 400 (1 : Int32) u4
theorem m_X2_reads {o : Nat} (ho : zSq o)  (u : zM) (d : Nat) (hd : 50 ≤ d) : zMet zQi SHX yX2_reads cX2_reads 3 ((some FieldType.boolean)) d [.ref 63, .ref o] u (f_X2_reads o u) :=
  zMet_of (by decide +kernel) (fun as => Nat.le_of_ble_eq_true rfl) wwX2_reads.2.2.2.1 (by omega) (fun p l e s m args below meth c as dA D C => go_X2_reads C hd ho u)
