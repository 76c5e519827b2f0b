/-! private static int bodyOf(int, int) -/
def f_X0_bodyOf_L4_b (p0 : Int32) (p1 : Int32) (rc : Int32 → Int32 → zM → Option (Int32 × zM)) (x2 : Int32) (x3 : Int32) (u : zM) : Option (Int32 × zM) :=
  (if (7 : Int32) ≤ x3 then some ((0 : Int32), u) else zb (f_X8_isWithin x2 (0 : Int32) (6 : Int32) u) fun y1 u2 => (if y1 = (0 : Int32) then some ((0 : Int32), u2) else zck (inB ((x2 * (3 : Int32)) + p1) 21) <| zlx (zsv 1 ((x2 * (3 : Int32)) + p1)) fun v3 => (if v3 = (0 : Int32) then zck (inB x2 7) <| zlx (zsv 0 x2) fun v4 => rc v4 (x3 + (1 : Int32)) u2 else some (v3, u2))))
def f_X0_bodyOf_L4 (p0 : Int32) (p1 : Int32) : Nat → Int32 → Int32 → zM → Option (Int32 × zM)
  | 0 => fun _ _ _ => none
  | fn + 1 => f_X0_bodyOf_L4_b p0 p1 (f_X0_bodyOf_L4 p0 p1 fn)
def f_X0_bodyOf (p0 : Int32) (p1 : Int32) (u : zM) : Option (Int32 × zM) :=
  f_X0_bodyOf_L4 p0 p1 400 p0 (0 : Int32) u
set_option maxRecDepth 20000 in
theorem go_X0_bodyOf_L4 {p : Program} {l : Launch} {e : Env} {s : State} {m : MethodId} {args : Array Value} {below : List Frame} {meth : Method} {c : Code} {as : Nat → Nat} {dA : Nat → ClassId} {D : va_G} {d : Nat} {p0 : Int32} {p1 : Int32} (C : zCx p s m args meth c as dA D SHX d 5 yX0_bodyOf.cls cX0_bodyOf ((some FieldType.int))) (hd : 2 ≤ d) : ∀ (fn : Nat) (x2 : Int32) (x3 : Int32) (u : zM), Go p l e s m args below meth c as dA D SHX d 5 zQi 4 [(0, .int p0), (1, .int p1), (2, .int x2), (3, .int x3)] [] u (f_X0_bodyOf_L4 p0 p1 fn x2 x3 u) := by
  intro fn
  induction fn with
  | zero => intro x2 x3 u; exact G_none
  | succ fn ih =>
    intro x2 x3 u
    show Go p l e s m args below meth c as dA D SHX d 5 zQi 4 [(0, .int p0), (1, .int p1), (2, .int x2), (3, .int x3)] [] u (f_X0_bodyOf_L4_b p0 p1 (f_X0_bodyOf_L4 p0 p1 fn) x2 x3 u)
    unfold f_X0_bodyOf_L4_b
    refine G_iload_n C 3 dX0_bodyOf_4 rfl rfl ?_
    refine G_getsN C 0 rfl wn0_43 dX0_bodyOf_5 ?_
    refine G_tlen (v := 7) C 0 rfl (by decide) dX0_bodyOf_8 ?_
    refine G_icmp_ge (tgt := 53) C dX0_bodyOf_9 (by decide) (fun _ => ?_) (fun _ => ?_)
    · refine G_iconst (v := 0) C dX0_bodyOf_53 (by decide) ?_
      exact G_iret C dX0_bodyOf_54
    · refine G_iload_n C 2 dX0_bodyOf_12 rfl rfl ?_
      refine G_iconst (v := 0) C dX0_bodyOf_13 (by decide) ?_
      refine G_bipush (v := 6) C dX0_bodyOf_14 (by decide) ?_
      refine G_callNi C (m_X8_isWithin x2 (0 : Int32) (6 : Int32) u (d - 1) (by omega)) (d' := d - 1) (As := [.int x2, .int (0 : Int32), .int (6 : Int32)]) (by omega) rfl wn0_46 wwX8_isWithin (Nat.le_of_ble_eq_true rfl) dX0_bodyOf_16 (fun y1 u2 => ?_)
      refine G_if_eq (tgt := 53) C dX0_bodyOf_19 (by decide) (fun _ => ?_) (fun _ => ?_)
      · refine G_iconst (v := 0) C dX0_bodyOf_53 (by decide) ?_
        exact G_iret C dX0_bodyOf_54
      · refine G_getsA C 1 rfl ws0_50 dX0_bodyOf_22 ?_
        refine G_iload_n C 2 dX0_bodyOf_25 rfl rfl ?_
        refine G_iconst (v := 3) C dX0_bodyOf_26 (by decide) ?_
        refine G_imul C dX0_bodyOf_27 ?_
        refine G_iload_n C 1 dX0_bodyOf_28 rfl rfl ?_
        refine G_iadd C dX0_bodyOf_29 ?_
        refine G_tld C 1 rfl dX0_bodyOf_30 (fun _ => ?_)
        refine G_topi (fun v3 => ?_)
        refine G_istore (L' := [(4, .int v3), (0, .int p0), (1, .int p1), (2, .int x2), (3, .int x3)]) C dX0_bodyOf_31 (by decide) rfl ?_
        refine G_iload C 0 dX0_bodyOf_33 rfl ?_
        refine G_if_eq (tgt := 41) C dX0_bodyOf_35 (by decide) (fun _ => ?_) (fun _ => ?_)
        · refine G_getsN C 0 rfl wn0_43 dX0_bodyOf_41 ?_
          refine G_iload_n C 3 dX0_bodyOf_44 rfl rfl ?_
          refine G_tld C 0 rfl dX0_bodyOf_45 (fun _ => ?_)
          refine G_topi (fun v4 => ?_)
          refine G_istore_n (L' := [(2, .int v4), (4, .int v3), (0, .int p0), (1, .int p1), (3, .int x3)]) C dX0_bodyOf_46 rfl (by decide) rfl ?_
          refine G_iinc (v := 1) (L' := [(3, .int (x3 + (1 : Int32))), (2, .int v4), (4, .int v3), (0, .int p0), (1, .int p1)]) C 4 dX0_bodyOf_47 rfl (by decide) (by decide) rfl ?_
          refine G_goto (tgt := 4) C dX0_bodyOf_50 (by decide) ?_
          refine G_locals [3, 4, 1, 0] rfl ?_
          exact ih v4 (x3 + (1 : Int32)) u2
        · refine G_iload C 0 dX0_bodyOf_38 rfl ?_
          exact G_iret C dX0_bodyOf_40
set_option maxRecDepth 20000 in
theorem go_X0_bodyOf {p : Program} {l : Launch} {e : Env} {s : State} {m : MethodId} {args : Array Value} {below : List Frame} {meth : Method} {c : Code} {as : Nat → Nat} {dA : Nat → ClassId} {D : va_G} {d : Nat} {p0 : Int32} {p1 : Int32} (C : zCx p s m args meth c as dA D SHX d 5 yX0_bodyOf.cls cX0_bodyOf ((some FieldType.int))) (hd : 2 ≤ d) : ∀ (u : zM), Go p l e s m args below meth c as dA D SHX d 5 zQi 0 [(0, .int p0), (1, .int p1)] [] u (f_X0_bodyOf p0 p1 u) := by
  intro u
  unfold f_X0_bodyOf
  refine G_iload_n C 0 dX0_bodyOf_0 rfl rfl ?_
  refine G_istore_n (L' := [(2, .int p0), (0, .int p0), (1, .int p1)]) C dX0_bodyOf_1 rfl (by decide) rfl ?_
  refine G_iconst (v := 0) C dX0_bodyOf_2 (by decide) ?_
  refine G_istore_n (L' := [(3, .int (0 : Int32)), (2, .int p0), (0, .int p0), (1, .int p1)]) C dX0_bodyOf_3 rfl (by decide) rfl ?_
  refine G_locals [2, 3, 1, 0] rfl ?_
  exact go_X0_bodyOf_L4 C hd 400 p0 (0 : Int32) u
theorem m_X0_bodyOf   (p0 : Int32) (p1 : Int32) (u : zM) (d : Nat) (hd : 2 ≤ d) : zMet zQi SHX yX0_bodyOf cX0_bodyOf 5 ((some FieldType.int)) d [.int p0, .int p1] u (f_X0_bodyOf p0 p1 u) :=
  zMet_of (by decide +kernel) (fun as => Nat.le_of_ble_eq_true rfl) wwX0_bodyOf.2.2.1 (by omega) (fun p l e s m args below meth c as dA D C => go_X0_bodyOf C hd u)
/-! private void note(int) -/
def f_X0_note (p1 : Int32) (u : zM) : Option (Unit × zM) :=
  (if (20 : Int32) ≤ (gI u 66 0) then zlet (sI u 66 0 ((gI u 66 0) + (1 : Int32))) fun u1 => some ((), u1) else zck (inB (gI u 66 0) 20) <| zlet (sI u 67 (gI u 66 0).toNatClampNeg p1) fun u2 => zlet (sI u2 66 0 ((gI u2 66 0) + (1 : Int32))) fun u3 => some ((), u3))
set_option maxRecDepth 20000 in
theorem go_X0_note {p : Program} {l : Launch} {e : Env} {s : State} {m : MethodId} {args : Array Value} {below : List Frame} {meth : Method} {c : Code} {as : Nat → Nat} {dA : Nat → ClassId} {D : va_G} {d : Nat} {p1 : Int32} (C : zCx p s m args meth c as dA D SHX d 2 yX0_note.cls cX0_note (none)) (hd : 1 ≤ d) : ∀ (u : zM), Go p l e s m args below meth c as dA D SHX d 2 zQv 0 [(0, .ref 66), (1, .int p1)] [] u (f_X0_note p1 u) := by
  intro u
  unfold f_X0_note
  refine G_aload_n C 0 dX0_note_0 rfl rfl ?_
  refine G_getI C 0 shX_66 rfl rfl (by decide) wf0_53 dX0_note_1 ?_
  refine G_aload_n C 0 dX0_note_4 rfl rfl ?_
  refine G_getR (j := 67) C 1 shX_66 rfl rfl (by decide) wf0_9 dX0_note_5 ?_
  refine G_alen (v := 20) 0 C shX_67 rfl rfl (by decide) dX0_note_8 ?_
  refine G_icmp_ge (tgt := 22) C dX0_note_9 (by decide) (fun _ => ?_) (fun _ => ?_)
  · refine G_aload_n C 0 dX0_note_22 rfl rfl ?_
    refine G_dup C dX0_note_23 rfl ?_
    refine G_getI C 0 shX_66 rfl rfl (by decide) wf0_53 dX0_note_24 ?_
    refine G_iconst (v := 1) C dX0_note_27 (by decide) ?_
    refine G_iadd C dX0_note_28 ?_
    refine G_putI (ty := .int) C 0 shX_66 rfl rfl (by decide) wf0_53 rfl (by decide +kernel) rfl rfl dX0_note_29 (fun u1 => ?_)
    exact G_vret C dX0_note_32
  · refine G_aload_n C 0 dX0_note_12 rfl rfl ?_
    refine G_getR (j := 67) C 1 shX_66 rfl rfl (by decide) wf0_9 dX0_note_13 ?_
    refine G_aload_n C 0 dX0_note_16 rfl rfl ?_
    refine G_getI C 0 shX_66 rfl rfl (by decide) wf0_53 dX0_note_17 ?_
    refine G_iload_n C 1 dX0_note_20 rfl rfl ?_
    refine G_iast C shX_67 dX0_note_21 (fun _ u2 => ?_)
    refine G_aload_n C 0 dX0_note_22 rfl rfl ?_
    refine G_dup C dX0_note_23 rfl ?_
    refine G_getI C 0 shX_66 rfl rfl (by decide) wf0_53 dX0_note_24 ?_
    refine G_iconst (v := 1) C dX0_note_27 (by decide) ?_
    refine G_iadd C dX0_note_28 ?_
    refine G_putI (ty := .int) C 0 shX_66 rfl rfl (by decide) wf0_53 rfl (by decide +kernel) rfl rfl dX0_note_29 (fun u3 => ?_)
    exact G_vret C dX0_note_32
theorem m_X0_note   (p1 : Int32) (u : zM) (d : Nat) (hd : 1 ≤ d) : zMet zQv SHX yX0_note cX0_note 2 (none) d [.ref 66, .int p1] u (f_X0_note p1 u) :=
  zMet_of (by decide +kernel) (fun as => Nat.le_of_ble_eq_true rfl) wwX0_note.2.2.2.1 (by omega) (fun p l e s m args below meth c as dA D C => go_X0_note C hd u)
/-! private int run(int, int, int, int) -/
def f_X0_run_b (rr : Int32 → Int32 → Int32 → Int32 → zM → Option (Int32 × zM)) (p1 : Int32) (p2 : Int32) (p3 : Int32) (p4 : Int32) (u : zM) : Option (Int32 × zM) :=
  zb (f_X0_bodyOf p1 p2 u) fun y1 u2 => (if y1 = (0 : Int32) then some ((0 : Int32), u2) else (if p4 < (20 : Int32) then zb (f_X0_note y1 u2) fun _ u4 => zck (inB ((y1 / (10 : Int32)) - (1 : Int32)) 7) <| zlx (zsv 0 ((y1 / (10 : Int32)) - (1 : Int32))) fun v5 => zlx (p4 + (1 : Int32)) fun v6 => (if y1 = (10 : Int32) then some ((p3 + (gI u4 66 2)), u4) else if y1 = (11 : Int32) then zb (rr (gI u4 66 3) (0 : Int32) p3 v6 u4) fun y9 u10 => some ((y9 - (gI u10 66 4)), u10) else if y1 = (12 : Int32) then zb (rr (gI u4 66 3) (1 : Int32) p3 v6 u4) fun y12 u13 => some ((y12 * (2 : Int32)), u13) else if y1 = (20 : Int32) then zb (rr v5 (1 : Int32) p3 v6 u4) fun y15 u16 => some ((y15 ^^^ (6 : Int32)), u16) else if y1 = (30 : Int32) then zb (rr v5 (0 : Int32) (p3 * (3 : Int32)) v6 u4) fun y18 u19 => some (y18, u19) else if y1 = (40 : Int32) then zb (rr v5 (2 : Int32) p3 v6 u4) fun y21 u22 => zb (rr (gI u22 66 3) (1 : Int32) (1 : Int32) v6 u22) fun y23 u24 => some ((y21 + y23), u24) else if y1 = (50 : Int32) then zb (rr v5 (0 : Int32) p3 v6 u4) fun y26 u27 => some ((-y26), u27) else if y1 = (51 : Int32) then zb (rr v5 (1 : Int32) (p3 + (1 : Int32)) v6 u4) fun y29 u30 => some (y29, u30) else if y1 = (60 : Int32) then zb (rr v5 (2 : Int32) (p3 - (gI u4 66 2)) v6 u4) fun y32 u33 => some (y32, u33) else if y1 = (70 : Int32) then zb (rr v5 (1 : Int32) p3 v6 u4) fun y35 u36 => zb (rr v5 (0 : Int32) (2 : Int32) v6 u36) fun y37 u38 => some ((y35 + y37), u38) else if y1 = (71 : Int32) then zb (rr v5 (0 : Int32) p3 v6 u4) fun y40 u41 => some ((y40 ^^^ (gI u41 66 4)), u41) else some ((0 : Int32), u4)) else some ((0 : Int32), u2)))
set_option maxRecDepth 20000 in
theorem go_X0_run {p : Program} {l : Launch} {e : Env} {s : State} {m : MethodId} {args : Array Value} {below : List Frame} {meth : Method} {c : Code} {as : Nat → Nat} {dA : Nat → ClassId} {D : va_G} {d : Nat} {p1 : Int32} {p2 : Int32} {p3 : Int32} {p4 : Int32} (C : zCx p s m args meth c as dA D SHX d 8 yX0_run.cls cX0_run ((some FieldType.int))) {rr : Int32 → Int32 → Int32 → Int32 → zM → Option (Int32 × zM)} (dr : Nat) (hdr : 20 ≤ dr) (hrf : ∀ (p q r s : Int32) (u : zM) (d : Nat), dr ≤ d → zMet zQi SHX yX0_run cX0_run 8 ((some FieldType.int)) d [.ref 66, .int p, .int q, .int r, .int s] u (rr p q r s u)) (hd : dr + 3 ≤ d) : ∀ (u : zM), Go p l e s m args below meth c as dA D SHX d 8 zQi 0 [(0, .ref 66), (1, .int p1), (2, .int p2), (3, .int p3), (4, .int p4)] [] u (f_X0_run_b rr p1 p2 p3 p4 u) := by
  intro u
  unfold f_X0_run_b
  refine G_iload_n C 1 dX0_run_0 rfl rfl ?_
  refine G_iload_n C 2 dX0_run_1 rfl rfl ?_
  refine G_callSi C (m_X0_bodyOf p1 p2 u (d - 1) (by omega)) (d' := d - 1) (As := [.int p1, .int p2]) (by omega) rfl wm0_35 wwX0_bodyOf (Nat.le_of_ble_eq_true rfl) dX0_run_2 (fun y1 u2 => ?_)
  refine G_istore (L' := [(5, .int y1), (0, .ref 66), (1, .int p1), (2, .int p2), (3, .int p3), (4, .int p4)]) C dX0_run_5 (by decide) rfl ?_
  refine G_iload C 0 dX0_run_7 rfl ?_
  refine G_if_eq (tgt := 19) C dX0_run_9 (by decide) (fun _ => ?_) (fun _ => ?_)
  · refine G_iconst (v := 0) C dX0_run_19 (by decide) ?_
    exact G_iret C dX0_run_20
  · refine G_iload C 5 dX0_run_12 rfl ?_
    refine G_bipush (v := 20) C dX0_run_14 (by decide) ?_
    refine G_icmp_lt (tgt := 21) C dX0_run_16 (by decide) (fun _ => ?_) (fun _ => ?_)
    · refine G_aload_n C 1 dX0_run_21 rfl rfl ?_
      refine G_iload C 0 dX0_run_22 rfl ?_
      refine G_callVv C (m_X0_note y1 u2 (d - 1) (by omega)) (d' := d - 1) (As := [.int y1]) (by omega) rfl wm0_39 wwX0_note shX_66 rfl (Nat.le_of_ble_eq_true rfl) dX0_run_24 (fun y3 u4 => ?_)
      refine G_getsN C 0 rfl wn0_43 dX0_run_27 ?_
      refine G_iload C 0 dX0_run_30 rfl ?_
      refine G_bipush (v := 10) C dX0_run_32 (by decide) ?_
      refine G_idiv C dX0_run_34 (by decide) ?_
      refine G_iconst (v := 1) C dX0_run_35 (by decide) ?_
      refine G_isub C dX0_run_36 ?_
      refine G_tld C 0 rfl dX0_run_37 (fun _ => ?_)
      refine G_topi (fun v5 => ?_)
      refine G_istore (L' := [(6, .int v5), (5, .int y1), (0, .ref 66), (1, .int p1), (2, .int p2), (3, .int p3), (4, .int p4)]) C dX0_run_38 (by decide) rfl ?_
      refine G_iload C 6 dX0_run_40 rfl ?_
      refine G_iconst (v := 1) C dX0_run_42 (by decide) ?_
      refine G_iadd C dX0_run_43 ?_
      refine G_topi (fun v6 => ?_)
      refine G_istore (L' := [(7, .int v6), (6, .int v5), (5, .int y1), (0, .ref 66), (1, .int p1), (2, .int p2), (3, .int p3), (4, .int p4)]) C dX0_run_44 (by decide) rfl ?_
      refine G_iload C 2 dX0_run_46 rfl ?_
      refine G_if (fun h7 => ?_) (fun h7 => ?_)
      · refine G_lsw (off := 100) (tgt := 148) C dX0_run_48 (by decide) (by rw [h7]; rfl) (by decide) ?_
        refine G_iload_n C 6 dX0_run_148 rfl rfl ?_
        refine G_aload_n C 3 dX0_run_149 rfl rfl ?_
        refine G_getI C 2 shX_66 rfl rfl (by decide) wf0_15 dX0_run_150 ?_
        refine G_iadd C dX0_run_153 ?_
        exact G_iret C dX0_run_154
      · refine G_if (fun h8 => ?_) (fun h8 => ?_)
        · refine G_lsw (off := 107) (tgt := 155) C dX0_run_48 (by decide) (by rw [h8]; rfl) (by decide) ?_
          refine G_aload_n C 3 dX0_run_155 rfl rfl ?_
          refine G_aload_n C 3 dX0_run_156 rfl rfl ?_
          refine G_getI C 3 shX_66 rfl rfl (by decide) wf0_24 dX0_run_157 ?_
          refine G_iconst (v := 0) C dX0_run_160 (by decide) ?_
          refine G_iload_n C 6 dX0_run_161 rfl rfl ?_
          refine G_iload C 0 dX0_run_162 rfl ?_
          refine G_callVi C (hrf (gI u4 66 3) (0 : Int32) p3 v6 u4 (d - 1) (by omega)) (d' := d - 1) (As := [.int (gI u4 66 3), .int (0 : Int32), .int p3, .int v6]) (by omega) rfl wm0_31 wwX0_run shX_66 rfl (Nat.le_of_ble_eq_true rfl) dX0_run_164 (fun y9 u10 => ?_)
          refine G_aload_n C 3 dX0_run_167 rfl rfl ?_
          refine G_getI C 4 shX_66 rfl rfl (by decide) wf0_29 dX0_run_168 ?_
          refine G_isub C dX0_run_171 ?_
          exact G_iret C dX0_run_172
        · refine G_if (fun h11 => ?_) (fun h11 => ?_)
          · refine G_lsw (off := 125) (tgt := 173) C dX0_run_48 (by decide) (by rw [h11]; rfl) (by decide) ?_
            refine G_aload_n C 3 dX0_run_173 rfl rfl ?_
            refine G_aload_n C 3 dX0_run_174 rfl rfl ?_
            refine G_getI C 3 shX_66 rfl rfl (by decide) wf0_24 dX0_run_175 ?_
            refine G_iconst (v := 1) C dX0_run_178 (by decide) ?_
            refine G_iload_n C 6 dX0_run_179 rfl rfl ?_
            refine G_iload C 0 dX0_run_180 rfl ?_
            refine G_callVi C (hrf (gI u4 66 3) (1 : Int32) p3 v6 u4 (d - 1) (by omega)) (d' := d - 1) (As := [.int (gI u4 66 3), .int (1 : Int32), .int p3, .int v6]) (by omega) rfl wm0_31 wwX0_run shX_66 rfl (Nat.le_of_ble_eq_true rfl) dX0_run_182 (fun y12 u13 => ?_)
            refine G_iconst (v := 2) C dX0_run_185 (by decide) ?_
            refine G_imul C dX0_run_186 ?_
            exact G_iret C dX0_run_187
          · refine G_if (fun h14 => ?_) (fun h14 => ?_)
            · refine G_lsw (off := 140) (tgt := 188) C dX0_run_48 (by decide) (by rw [h14]; rfl) (by decide) ?_
              refine G_aload_n C 3 dX0_run_188 rfl rfl ?_
              refine G_iload C 1 dX0_run_189 rfl ?_
              refine G_iconst (v := 1) C dX0_run_191 (by decide) ?_
              refine G_iload_n C 6 dX0_run_192 rfl rfl ?_
              refine G_iload C 0 dX0_run_193 rfl ?_
              refine G_callVi C (hrf v5 (1 : Int32) p3 v6 u4 (d - 1) (by omega)) (d' := d - 1) (As := [.int v5, .int (1 : Int32), .int p3, .int v6]) (by omega) rfl wm0_31 wwX0_run shX_66 rfl (Nat.le_of_ble_eq_true rfl) dX0_run_195 (fun y15 u16 => ?_)
              refine G_bipush (v := 6) C dX0_run_198 (by decide) ?_
              refine G_ixor C dX0_run_200 ?_
              exact G_iret C dX0_run_201
            · refine G_if (fun h17 => ?_) (fun h17 => ?_)
              · refine G_lsw (off := 154) (tgt := 202) C dX0_run_48 (by decide) (by rw [h17]; rfl) (by decide) ?_
                refine G_aload_n C 3 dX0_run_202 rfl rfl ?_
                refine G_iload C 1 dX0_run_203 rfl ?_
                refine G_iconst (v := 0) C dX0_run_205 (by decide) ?_
                refine G_iload_n C 6 dX0_run_206 rfl rfl ?_
                refine G_iconst (v := 3) C dX0_run_207 (by decide) ?_
                refine G_imul C dX0_run_208 ?_
                refine G_iload C 0 dX0_run_209 rfl ?_
                refine G_callVi C (hrf v5 (0 : Int32) (p3 * (3 : Int32)) v6 u4 (d - 1) (by omega)) (d' := d - 1) (As := [.int v5, .int (0 : Int32), .int (p3 * (3 : Int32)), .int v6]) (by omega) rfl wm0_31 wwX0_run shX_66 rfl (Nat.le_of_ble_eq_true rfl) dX0_run_211 (fun y18 u19 => ?_)
                exact G_iret C dX0_run_214
              · refine G_if (fun h20 => ?_) (fun h20 => ?_)
                · refine G_lsw (off := 167) (tgt := 215) C dX0_run_48 (by decide) (by rw [h20]; rfl) (by decide) ?_
                  refine G_aload_n C 3 dX0_run_215 rfl rfl ?_
                  refine G_iload C 1 dX0_run_216 rfl ?_
                  refine G_iconst (v := 2) C dX0_run_218 (by decide) ?_
                  refine G_iload_n C 6 dX0_run_219 rfl rfl ?_
                  refine G_iload C 0 dX0_run_220 rfl ?_
                  refine G_callVi C (hrf v5 (2 : Int32) p3 v6 u4 (d - 1) (by omega)) (d' := d - 1) (As := [.int v5, .int (2 : Int32), .int p3, .int v6]) (by omega) rfl wm0_31 wwX0_run shX_66 rfl (Nat.le_of_ble_eq_true rfl) dX0_run_222 (fun y21 u22 => ?_)
                  refine G_aload_n C 3 dX0_run_225 rfl rfl ?_
                  refine G_aload_n C 3 dX0_run_226 rfl rfl ?_
                  refine G_getI C 3 shX_66 rfl rfl (by decide) wf0_24 dX0_run_227 ?_
                  refine G_iconst (v := 1) C dX0_run_230 (by decide) ?_
                  refine G_iconst (v := 1) C dX0_run_231 (by decide) ?_
                  refine G_iload C 0 dX0_run_232 rfl ?_
                  refine G_callVi C (hrf (gI u22 66 3) (1 : Int32) (1 : Int32) v6 u22 (d - 1) (by omega)) (d' := d - 1) (As := [.int (gI u22 66 3), .int (1 : Int32), .int (1 : Int32), .int v6]) (by omega) rfl wm0_31 wwX0_run shX_66 rfl (Nat.le_of_ble_eq_true rfl) dX0_run_234 (fun y23 u24 => ?_)
                  refine G_iadd C dX0_run_237 ?_
                  exact G_iret C dX0_run_238
                · refine G_if (fun h25 => ?_) (fun h25 => ?_)
                  · refine G_lsw (off := 191) (tgt := 239) C dX0_run_48 (by decide) (by rw [h25]; rfl) (by decide) ?_
                    refine G_aload_n C 3 dX0_run_239 rfl rfl ?_
                    refine G_iload C 1 dX0_run_240 rfl ?_
                    refine G_iconst (v := 0) C dX0_run_242 (by decide) ?_
                    refine G_iload_n C 6 dX0_run_243 rfl rfl ?_
                    refine G_iload C 0 dX0_run_244 rfl ?_
                    refine G_callVi C (hrf v5 (0 : Int32) p3 v6 u4 (d - 1) (by omega)) (d' := d - 1) (As := [.int v5, .int (0 : Int32), .int p3, .int v6]) (by omega) rfl wm0_31 wwX0_run shX_66 rfl (Nat.le_of_ble_eq_true rfl) dX0_run_246 (fun y26 u27 => ?_)
                    refine G_ineg C dX0_run_249 ?_
                    exact G_iret C dX0_run_250
                  · refine G_if (fun h28 => ?_) (fun h28 => ?_)
                    · refine G_lsw (off := 203) (tgt := 251) C dX0_run_48 (by decide) (by rw [h28]; rfl) (by decide) ?_
                      refine G_aload_n C 3 dX0_run_251 rfl rfl ?_
                      refine G_iload C 1 dX0_run_252 rfl ?_
                      refine G_iconst (v := 1) C dX0_run_254 (by decide) ?_
                      refine G_iload_n C 6 dX0_run_255 rfl rfl ?_
                      refine G_iconst (v := 1) C dX0_run_256 (by decide) ?_
                      refine G_iadd C dX0_run_257 ?_
                      refine G_iload C 0 dX0_run_258 rfl ?_
                      refine G_callVi C (hrf v5 (1 : Int32) (p3 + (1 : Int32)) v6 u4 (d - 1) (by omega)) (d' := d - 1) (As := [.int v5, .int (1 : Int32), .int (p3 + (1 : Int32)), .int v6]) (by omega) rfl wm0_31 wwX0_run shX_66 rfl (Nat.le_of_ble_eq_true rfl) dX0_run_260 (fun y29 u30 => ?_)
                      exact G_iret C dX0_run_263
                    · refine G_if (fun h31 => ?_) (fun h31 => ?_)
                      · refine G_lsw (off := 216) (tgt := 264) C dX0_run_48 (by decide) (by rw [h31]; rfl) (by decide) ?_
                        refine G_aload_n C 3 dX0_run_264 rfl rfl ?_
                        refine G_iload C 1 dX0_run_265 rfl ?_
                        refine G_iconst (v := 2) C dX0_run_267 (by decide) ?_
                        refine G_iload_n C 6 dX0_run_268 rfl rfl ?_
                        refine G_aload_n C 3 dX0_run_269 rfl rfl ?_
                        refine G_getI C 2 shX_66 rfl rfl (by decide) wf0_15 dX0_run_270 ?_
                        refine G_isub C dX0_run_273 ?_
                        refine G_iload C 0 dX0_run_274 rfl ?_
                        refine G_callVi C (hrf v5 (2 : Int32) (p3 - (gI u4 66 2)) v6 u4 (d - 1) (by omega)) (d' := d - 1) (As := [.int v5, .int (2 : Int32), .int (p3 - (gI u4 66 2)), .int v6]) (by omega) rfl wm0_31 wwX0_run shX_66 rfl (Nat.le_of_ble_eq_true rfl) dX0_run_276 (fun y32 u33 => ?_)
                        exact G_iret C dX0_run_279
                      · refine G_if (fun h34 => ?_) (fun h34 => ?_)
                        · refine G_lsw (off := 232) (tgt := 280) C dX0_run_48 (by decide) (by rw [h34]; rfl) (by decide) ?_
                          refine G_aload_n C 3 dX0_run_280 rfl rfl ?_
                          refine G_iload C 1 dX0_run_281 rfl ?_
                          refine G_iconst (v := 1) C dX0_run_283 (by decide) ?_
                          refine G_iload_n C 6 dX0_run_284 rfl rfl ?_
                          refine G_iload C 0 dX0_run_285 rfl ?_
                          refine G_callVi C (hrf v5 (1 : Int32) p3 v6 u4 (d - 1) (by omega)) (d' := d - 1) (As := [.int v5, .int (1 : Int32), .int p3, .int v6]) (by omega) rfl wm0_31 wwX0_run shX_66 rfl (Nat.le_of_ble_eq_true rfl) dX0_run_287 (fun y35 u36 => ?_)
                          refine G_aload_n C 3 dX0_run_290 rfl rfl ?_
                          refine G_iload C 1 dX0_run_291 rfl ?_
                          refine G_iconst (v := 0) C dX0_run_293 (by decide) ?_
                          refine G_iconst (v := 2) C dX0_run_294 (by decide) ?_
                          refine G_iload C 0 dX0_run_295 rfl ?_
                          refine G_callVi C (hrf v5 (0 : Int32) (2 : Int32) v6 u36 (d - 1) (by omega)) (d' := d - 1) (As := [.int v5, .int (0 : Int32), .int (2 : Int32), .int v6]) (by omega) rfl wm0_31 wwX0_run shX_66 rfl (Nat.le_of_ble_eq_true rfl) dX0_run_297 (fun y37 u38 => ?_)
                          refine G_iadd C dX0_run_300 ?_
                          exact G_iret C dX0_run_301
                        · refine G_if (fun h39 => ?_) (fun h39 => ?_)
                          · refine G_lsw (off := 254) (tgt := 302) C dX0_run_48 (by decide) (by rw [h39]; rfl) (by decide) ?_
                            refine G_aload_n C 3 dX0_run_302 rfl rfl ?_
                            refine G_iload C 1 dX0_run_303 rfl ?_
                            refine G_iconst (v := 0) C dX0_run_305 (by decide) ?_
                            refine G_iload_n C 6 dX0_run_306 rfl rfl ?_
                            refine G_iload C 0 dX0_run_307 rfl ?_
                            refine G_callVi C (hrf v5 (0 : Int32) p3 v6 u4 (d - 1) (by omega)) (d' := d - 1) (As := [.int v5, .int (0 : Int32), .int p3, .int v6]) (by omega) rfl wm0_31 wwX0_run shX_66 rfl (Nat.le_of_ble_eq_true rfl) dX0_run_309 (fun y40 u41 => ?_)
                            refine G_aload_n C 3 dX0_run_312 rfl rfl ?_
                            refine G_getI C 4 shX_66 rfl rfl (by decide) wf0_29 dX0_run_313 ?_
                            refine G_ixor C dX0_run_316 ?_
                            exact G_iret C dX0_run_317
                          · refine G_lsw (off := 270) (tgt := 318) C dX0_run_48 (by decide) ((lv_osw h7 rfl).trans ((lv_osw h8 rfl).trans ((lv_osw h11 rfl).trans ((lv_osw h14 rfl).trans ((lv_osw h17 rfl).trans ((lv_osw h20 rfl).trans ((lv_osw h25 rfl).trans ((lv_osw h28 rfl).trans ((lv_osw h31 rfl).trans ((lv_osw h34 rfl).trans ((lv_osw h39 rfl).trans (rfl)))))))))))) (by decide) ?_
                            refine G_iconst (v := 0) C dX0_run_318 (by decide) ?_
                            exact G_iret C dX0_run_319
    · refine G_iconst (v := 0) C dX0_run_19 (by decide) ?_
      exact G_iret C dX0_run_20
theorem m_X0_run_b {rr : Int32 → Int32 → Int32 → Int32 → zM → Option (Int32 × zM)} (dr : Nat) (hdr : 20 ≤ dr) (hrf : ∀ (p q r s : Int32) (u : zM) (d : Nat), dr ≤ d → zMet zQi SHX yX0_run cX0_run 8 ((some FieldType.int)) d [.ref 66, .int p, .int q, .int r, .int s] u (rr p q r s u))   (p1 : Int32) (p2 : Int32) (p3 : Int32) (p4 : Int32) (u : zM) (d : Nat) (hd : dr + 3 ≤ d) : zMet zQi SHX yX0_run cX0_run 8 ((some FieldType.int)) d [.ref 66, .int p1, .int p2, .int p3, .int p4] u (f_X0_run_b rr p1 p2 p3 p4 u) :=
  zMet_of (by decide +kernel) (fun as => Nat.le_of_ble_eq_true rfl) wwX0_run.2.2.2.1 (by omega) (fun p l e s m args below meth c as dA D C => go_X0_run C dr hdr hrf hd u)
def f_X0_run : Nat → Int32 → Int32 → Int32 → Int32 → zM → Option (Int32 × zM)
  | 0 => fun _ _ _ _ _ => none
  | fn + 1 => f_X0_run_b (f_X0_run fn)
theorem m_X0_run : ∀ (fn : Nat) (p q r s : Int32) (u : zM) (d : Nat), 20 + 4 * fn ≤ d → zMet zQi SHX yX0_run cX0_run 8 ((some FieldType.int)) d [.ref 66, .int p, .int q, .int r, .int s] u (f_X0_run fn p q r s u) := by
  intro fn
  induction fn with
  | zero => intro p q r s u d _ r u' h; cases h
  | succ fn ih =>
    intro p q r s u d hd
    exact m_X0_run_b (20 + 4 * fn) (by omega) ih p q r s u d (by omega)
/-! int start(StruckWhile$Town, int, int, int) -/
def f_X0_start (p2 : Int32) (p3 : Int32) (p4 : Int32) (u : zM) : Option (Int32 × zM) :=
  zlet (sI u 66 2 p2) fun u1 => zck (inB p2 6) <| zlet (sI u1 66 3 (gI u1 3 p2.toNatClampNeg)) fun u3 => zck (inB p2 6) <| zlet (sI u3 66 4 (gI u3 4 p2.toNatClampNeg)) fun u5 => zb ((f_X0_run 10) (gI u5 66 3) p3 p4 (0 : Int32) u5) fun y6 u7 => some (y6, u7)
set_option maxRecDepth 20000 in
theorem go_X0_start {p : Program} {l : Launch} {e : Env} {s : State} {m : MethodId} {args : Array Value} {below : List Frame} {meth : Method} {c : Code} {as : Nat → Nat} {dA : Nat → ClassId} {D : va_G} {d : Nat} {p2 : Int32} {p3 : Int32} {p4 : Int32} (C : zCx p s m args meth c as dA D SHX d 5 yX0_start.cls cX0_start ((some FieldType.int))) (hd : 61 ≤ d) : ∀ (u : zM), Go p l e s m args below meth c as dA D SHX d 5 zQi 0 [(0, .ref 66), (1, .ref 2), (2, .int p2), (3, .int p3), (4, .int p4)] [] u (f_X0_start p2 p3 p4 u) := by
  intro u
  unfold f_X0_start
  refine G_aload_n C 0 dX0_start_0 rfl rfl ?_
  refine G_iload_n C 2 dX0_start_1 rfl rfl ?_
  refine G_putI (ty := .int) C 2 shX_66 rfl rfl (by decide) wf0_15 rfl (by decide +kernel) rfl rfl dX0_start_2 (fun u1 => ?_)
  refine G_aload_n C 0 dX0_start_5 rfl rfl ?_
  refine G_aload_n C 1 dX0_start_6 rfl rfl ?_
  refine G_getR (j := 3) C 1 zTn_2.1 rfl rfl (by decide) wf0_19 dX0_start_7 ?_
  refine G_iload_n C 2 dX0_start_10 rfl rfl ?_
  refine G_iald C zTn_2.2.1 dX0_start_11 (fun hb2 => ?_)
  refine G_putI (ty := .int) C 3 shX_66 rfl rfl (by decide) wf0_24 rfl (by decide +kernel) rfl rfl dX0_start_12 (fun u3 => ?_)
  refine G_aload_n C 0 dX0_start_15 rfl rfl ?_
  refine G_aload_n C 1 dX0_start_16 rfl rfl ?_
  refine G_getR (j := 4) C 2 zTn_2.1 rfl rfl (by decide) wf0_26 dX0_start_17 ?_
  refine G_iload_n C 2 dX0_start_20 rfl rfl ?_
  refine G_iald C zTn_2.2.2.1 dX0_start_21 (fun hb4 => ?_)
  refine G_putI (ty := .int) C 4 shX_66 rfl rfl (by decide) wf0_29 rfl (by decide +kernel) rfl rfl dX0_start_22 (fun u5 => ?_)
  refine G_aload_n C 0 dX0_start_25 rfl rfl ?_
  refine G_aload_n C 0 dX0_start_26 rfl rfl ?_
  refine G_getI C 3 shX_66 rfl rfl (by decide) wf0_24 dX0_start_27 ?_
  refine G_iload_n C 3 dX0_start_30 rfl rfl ?_
  refine G_iload C 4 dX0_start_31 rfl ?_
  refine G_iconst (v := 0) C dX0_start_33 (by decide) ?_
  refine G_callVi C (m_X0_run 10 (gI u5 66 3) p3 p4 (0 : Int32) u5 (d - 1) (by omega)) (d' := d - 1) (As := [.int (gI u5 66 3), .int p3, .int p4, .int (0 : Int32)]) (by omega) rfl wm0_31 wwX0_run shX_66 rfl (Nat.le_of_ble_eq_true rfl) dX0_start_34 (fun y6 u7 => ?_)
  exact G_iret C dX0_start_37
theorem m_X0_start   (p2 : Int32) (p3 : Int32) (p4 : Int32) (u : zM) (d : Nat) (hd : 61 ≤ d) : zMet zQi SHX yX0_start cX0_start 5 ((some FieldType.int)) d [.ref 66, .ref 2, .int p2, .int p3, .int p4] u (f_X0_start p2 p3 p4 u) :=
  zMet_of (by decide +kernel) (fun as => Nat.le_of_ble_eq_true rfl) wwX0_start.2.2.2.1 (by omega) (fun p l e s m args below meth c as dA D C => go_X0_start C hd u)
/-! StruckWhile$Town behind(int) -/
def f_X1_behind (p1 : Int32) (u : zM) : Option (Nat × zM) :=
  zb (f_X6_become 51 2 u) fun _ u2 => zb (f_X6_goOn 51 p1 u2) fun _ u4 => some (51, u4)
set_option maxRecDepth 20000 in
theorem go_X1_behind {p : Program} {l : Launch} {e : Env} {s : State} {m : MethodId} {args : Array Value} {below : List Frame} {meth : Method} {c : Code} {as : Nat → Nat} {dA : Nat → ClassId} {D : va_G} {d : Nat} {p1 : Int32} (C : zCx p s m args meth c as dA D SHX d 2 yX1_behind.cls cX1_behind ((some (FieldType.object "StruckWhile$Town")))) (hd : 6 ≤ d) : ∀ (u : zM), Go p l e s m args below meth c as dA D SHX d 2 zQr 0 [(0, .ref 49), (1, .int p1)] [] u (f_X1_behind p1 u) := by
  intro u
  unfold f_X1_behind
  refine G_aload_n C 0 dX1_behind_0 rfl rfl ?_
  refine G_getR (j := 51) C 3 shX_49 rfl rfl (by decide) wf1_18 dX1_behind_1 ?_
  refine G_aload_n C 0 dX1_behind_4 rfl rfl ?_
  refine G_getR (j := 2) C 1 shX_49 rfl rfl (by decide) wf1_25 dX1_behind_5 ?_
  refine G_callVv C (m_X6_become zTn_51 zTn_2 u (d - 1) (by omega)) (d' := d - 1) (As := [.ref 2]) (by omega) rfl wm1_32 wwX6_become zTn_51.1 rfl (Nat.le_of_ble_eq_true rfl) dX1_behind_8 (fun y1 u2 => ?_)
  refine G_aload_n C 0 dX1_behind_11 rfl rfl ?_
  refine G_getR (j := 51) C 3 shX_49 rfl rfl (by decide) wf1_18 dX1_behind_12 ?_
  refine G_iload_n C 1 dX1_behind_15 rfl rfl ?_
  refine G_callVv C (m_X6_goOn zTn_51 p1 u2 (d - 1) (by omega)) (d' := d - 1) (As := [.int p1]) (by omega) rfl wm1_36 wwX6_goOn zTn_51.1 rfl (Nat.le_of_ble_eq_true rfl) dX1_behind_16 (fun y3 u4 => ?_)
  refine G_aload_n C 0 dX1_behind_19 rfl rfl ?_
  refine G_getR (j := 51) C 3 shX_49 rfl rfl (by decide) wf1_18 dX1_behind_20 ?_
  exact G_aret C dX1_behind_23
theorem m_X1_behind   (p1 : Int32) (u : zM) (d : Nat) (hd : 6 ≤ d) : zMet zQr SHX yX1_behind cX1_behind 2 ((some (FieldType.object "StruckWhile$Town"))) d [.ref 49, .int p1] u (f_X1_behind p1 u) :=
  zMet_of (by decide +kernel) (fun as => Nat.le_of_ble_eq_true rfl) wwX1_behind.2.2.2.1 (by omega) (fun p l e s m args below meth c as dA D C => go_X1_behind C hd u)
/-! int minutesUntilDone(int) -/
def f_X1_minutesUntilDone_L21_b (p1 : Int32) (rc : Int32 → zM → Option (Int32 × zM)) (x2 : Int32) (u : zM) : Option (Int32 × zM) :=
  (if (60 : Int32) < x2 then some ((-5 : Int32), u) else zb (f_X6_isDone 51 p1 u) fun y4 u5 => (if y4 = (0 : Int32) then zb (f_X6_goOneMinute 51 u5) fun _ u7 => rc (x2 + (1 : Int32)) u7 else some (x2, u5)))
def f_X1_minutesUntilDone_L21 (p1 : Int32) : Nat → Int32 → zM → Option (Int32 × zM)
  | 0 => fun _ _ => none
  | fn + 1 => f_X1_minutesUntilDone_L21_b p1 (f_X1_minutesUntilDone_L21 p1 fn)
def f_X1_minutesUntilDone (p1 : Int32) (u : zM) : Option (Int32 × zM) :=
  zb (f_X6_become 51 2 u) fun _ u2 => zlet (sI u2 51 10 p1) fun u3 => f_X1_minutesUntilDone_L21 p1 400 (0 : Int32) u3
set_option maxRecDepth 20000 in
theorem go_X1_minutesUntilDone_L21 {p : Program} {l : Launch} {e : Env} {s : State} {m : MethodId} {args : Array Value} {below : List Frame} {meth : Method} {c : Code} {as : Nat → Nat} {dA : Nat → ClassId} {D : va_G} {d : Nat} {p1 : Int32} (C : zCx p s m args meth c as dA D SHX d 3 yX1_minutesUntilDone.cls cX1_minutesUntilDone ((some FieldType.int))) (hd : 5 ≤ d) : ∀ (fn : Nat) (x2 : Int32) (u : zM), Go p l e s m args below meth c as dA D SHX d 3 zQi 21 [(0, .ref 49), (1, .int p1), (2, .int x2)] [] u (f_X1_minutesUntilDone_L21 p1 fn x2 u) := by
  intro fn
  induction fn with
  | zero => intro x2 u; exact G_none
  | succ fn ih =>
    intro x2 u
    show Go p l e s m args below meth c as dA D SHX d 3 zQi 21 [(0, .ref 49), (1, .int p1), (2, .int x2)] [] u (f_X1_minutesUntilDone_L21_b p1 (f_X1_minutesUntilDone_L21 p1 fn) x2 u)
    unfold f_X1_minutesUntilDone_L21_b
    refine G_iload_n C 2 dX1_minutesUntilDone_21 rfl rfl ?_
    refine G_bipush (v := 60) C dX1_minutesUntilDone_22 (by decide) ?_
    refine G_icmp_gt (tgt := 53) C dX1_minutesUntilDone_24 (by decide) (fun _ => ?_) (fun _ => ?_)
    · refine G_bipush (v := -5) C dX1_minutesUntilDone_53 (by decide) ?_
      exact G_iret C dX1_minutesUntilDone_55
    · refine G_aload_n C 0 dX1_minutesUntilDone_27 rfl rfl ?_
      refine G_getR (j := 51) C 3 shX_49 rfl rfl (by decide) wf1_18 dX1_minutesUntilDone_28 ?_
      refine G_iload_n C 1 dX1_minutesUntilDone_31 rfl rfl ?_
      refine G_callVi C (m_X6_isDone zTn_51 p1 u (d - 1) (by omega)) (d' := d - 1) (As := [.int p1]) (by omega) rfl wm1_44 wwX6_isDone zTn_51.1 rfl (Nat.le_of_ble_eq_true rfl) dX1_minutesUntilDone_32 (fun y4 u5 => ?_)
      refine G_if_eq (tgt := 40) C dX1_minutesUntilDone_35 (by decide) (fun _ => ?_) (fun _ => ?_)
      · refine G_aload_n C 0 dX1_minutesUntilDone_40 rfl rfl ?_
        refine G_getR (j := 51) C 3 shX_49 rfl rfl (by decide) wf1_18 dX1_minutesUntilDone_41 ?_
        refine G_callVv C (m_X6_goOneMinute zTn_51 u5 (d - 1) (by omega)) (d' := d - 1) (As := []) (by omega) rfl wm1_48 wwX6_goOneMinute zTn_51.1 rfl (Nat.le_of_ble_eq_true rfl) dX1_minutesUntilDone_44 (fun y6 u7 => ?_)
        refine G_iinc (v := 1) (L' := [(2, .int (x2 + (1 : Int32))), (0, .ref 49), (1, .int p1)]) C 2 dX1_minutesUntilDone_47 rfl (by decide) (by decide) rfl ?_
        refine G_goto (tgt := 21) C dX1_minutesUntilDone_50 (by decide) ?_
        refine G_locals [1, 2, 0] rfl ?_
        exact ih (x2 + (1 : Int32)) u7
      · refine G_iload_n C 2 dX1_minutesUntilDone_38 rfl rfl ?_
        exact G_iret C dX1_minutesUntilDone_39
set_option maxRecDepth 20000 in
theorem go_X1_minutesUntilDone {p : Program} {l : Launch} {e : Env} {s : State} {m : MethodId} {args : Array Value} {below : List Frame} {meth : Method} {c : Code} {as : Nat → Nat} {dA : Nat → ClassId} {D : va_G} {d : Nat} {p1 : Int32} (C : zCx p s m args meth c as dA D SHX d 3 yX1_minutesUntilDone.cls cX1_minutesUntilDone ((some FieldType.int))) (hd : 5 ≤ d) : ∀ (u : zM), Go p l e s m args below meth c as dA D SHX d 3 zQi 0 [(0, .ref 49), (1, .int p1)] [] u (f_X1_minutesUntilDone p1 u) := by
  intro u
  unfold f_X1_minutesUntilDone
  refine G_aload_n C 0 dX1_minutesUntilDone_0 rfl rfl ?_
  refine G_getR (j := 51) C 3 shX_49 rfl rfl (by decide) wf1_18 dX1_minutesUntilDone_1 ?_
  refine G_aload_n C 0 dX1_minutesUntilDone_4 rfl rfl ?_
  refine G_getR (j := 2) C 1 shX_49 rfl rfl (by decide) wf1_25 dX1_minutesUntilDone_5 ?_
  refine G_callVv C (m_X6_become zTn_51 zTn_2 u (d - 1) (by omega)) (d' := d - 1) (As := [.ref 2]) (by omega) rfl wm1_32 wwX6_become zTn_51.1 rfl (Nat.le_of_ble_eq_true rfl) dX1_minutesUntilDone_8 (fun y1 u2 => ?_)
  refine G_aload_n C 0 dX1_minutesUntilDone_11 rfl rfl ?_
  refine G_getR (j := 51) C 3 shX_49 rfl rfl (by decide) wf1_18 dX1_minutesUntilDone_12 ?_
  refine G_iload_n C 1 dX1_minutesUntilDone_15 rfl rfl ?_
  refine G_putI (ty := .int) C 10 zTn_51.1 rfl rfl (by decide) wf1_40 rfl (by decide +kernel) rfl rfl dX1_minutesUntilDone_16 (fun u3 => ?_)
  refine G_iconst (v := 0) C dX1_minutesUntilDone_19 (by decide) ?_
  refine G_istore_n (L' := [(2, .int (0 : Int32)), (0, .ref 49), (1, .int p1)]) C dX1_minutesUntilDone_20 rfl (by decide) rfl ?_
  refine G_locals [1, 2, 0] rfl ?_
  exact go_X1_minutesUntilDone_L21 C hd 400 (0 : Int32) u3
theorem m_X1_minutesUntilDone   (p1 : Int32) (u : zM) (d : Nat) (hd : 5 ≤ d) : zMet zQi SHX yX1_minutesUntilDone cX1_minutesUntilDone 3 ((some FieldType.int)) d [.ref 49, .int p1] u (f_X1_minutesUntilDone p1 u) :=
  zMet_of (by decide +kernel) (fun as => Nat.le_of_ble_eq_true rfl) wwX1_minutesUntilDone.2.2.2.1 (by omega) (fun p l e s m args below meth c as dA D C => go_X1_minutesUntilDone C hd u)
/-! private int firstUndone(int, int) -/
def f_X1_firstUndone_L2_b (p1 : Int32) (p2 : Int32) (rc : Int32 → zM → Option (Int32 × zM)) (x3 : Int32) (u : zM) : Option (Int32 × zM) :=
  (if p2 ≤ x3 then some (x3, u) else zck (inB x3 4) <| zb (f_X6_isDone 51 (gI u 62 x3.toNatClampNeg) u) fun y2 u3 => (if y2 = (0 : Int32) then some (x3, u3) else rc (x3 + (1 : Int32)) u3))
def f_X1_firstUndone_L2 (p1 : Int32) (p2 : Int32) : Nat → Int32 → zM → Option (Int32 × zM)
  | 0 => fun _ _ => none
  | fn + 1 => f_X1_firstUndone_L2_b p1 p2 (f_X1_firstUndone_L2 p1 p2 fn)
def f_X1_firstUndone (p1 : Int32) (p2 : Int32) (u : zM) : Option (Int32 × zM) :=
  f_X1_firstUndone_L2 p1 p2 400 p1 u
set_option maxRecDepth 20000 in
theorem go_X1_firstUndone_L2 {p : Program} {l : Launch} {e : Env} {s : State} {m : MethodId} {args : Array Value} {below : List Frame} {meth : Method} {c : Code} {as : Nat → Nat} {dA : Nat → ClassId} {D : va_G} {d : Nat} {p1 : Int32} {p2 : Int32} (C : zCx p s m args meth c as dA D SHX d 4 yX1_firstUndone.cls cX1_firstUndone ((some FieldType.int))) (hd : 3 ≤ d) : ∀ (fn : Nat) (x3 : Int32) (u : zM), Go p l e s m args below meth c as dA D SHX d 4 zQi 2 [(0, .ref 49), (1, .int p1), (2, .int p2), (3, .int x3)] [] u (f_X1_firstUndone_L2 p1 p2 fn x3 u) := by
  intro fn
  induction fn with
  | zero => intro x3 u; exact G_none
  | succ fn ih =>
    intro x3 u
    show Go p l e s m args below meth c as dA D SHX d 4 zQi 2 [(0, .ref 49), (1, .int p1), (2, .int p2), (3, .int x3)] [] u (f_X1_firstUndone_L2_b p1 p2 (f_X1_firstUndone_L2 p1 p2 fn) x3 u)
    unfold f_X1_firstUndone_L2_b
    refine G_iload_n C 3 dX1_firstUndone_2 rfl rfl ?_
    refine G_iload_n C 2 dX1_firstUndone_3 rfl rfl ?_
    refine G_icmp_ge (tgt := 29) C dX1_firstUndone_4 (by decide) (fun _ => ?_) (fun _ => ?_)
    · refine G_iload_n C 3 dX1_firstUndone_29 rfl rfl ?_
      exact G_iret C dX1_firstUndone_30
    · refine G_aload_n C 0 dX1_firstUndone_7 rfl rfl ?_
      refine G_getR (j := 51) C 3 shX_49 rfl rfl (by decide) wf1_18 dX1_firstUndone_8 ?_
      refine G_aload_n C 0 dX1_firstUndone_11 rfl rfl ?_
      refine G_getR (j := 62) C 4 shX_49 rfl rfl (by decide) wf1_22 dX1_firstUndone_12 ?_
      refine G_iload_n C 3 dX1_firstUndone_15 rfl rfl ?_
      refine G_iald C shX_62 dX1_firstUndone_16 (fun hb1 => ?_)
      refine G_callVi C (m_X6_isDone zTn_51 (gI u 62 x3.toNatClampNeg) u (d - 1) (by omega)) (d' := d - 1) (As := [.int (gI u 62 x3.toNatClampNeg)]) (by omega) rfl wm1_44 wwX6_isDone zTn_51.1 rfl (Nat.le_of_ble_eq_true rfl) dX1_firstUndone_17 (fun y2 u3 => ?_)
      refine G_if_eq (tgt := 29) C dX1_firstUndone_20 (by decide) (fun _ => ?_) (fun _ => ?_)
      · refine G_iload_n C 3 dX1_firstUndone_29 rfl rfl ?_
        exact G_iret C dX1_firstUndone_30
      · refine G_iinc (v := 1) (L' := [(3, .int (x3 + (1 : Int32))), (0, .ref 49), (1, .int p1), (2, .int p2)]) C 3 dX1_firstUndone_23 rfl (by decide) (by decide) rfl ?_
        refine G_goto (tgt := 2) C dX1_firstUndone_26 (by decide) ?_
        refine G_locals [1, 2, 3, 0] rfl ?_
        exact ih (x3 + (1 : Int32)) u3
set_option maxRecDepth 20000 in
theorem go_X1_firstUndone {p : Program} {l : Launch} {e : Env} {s : State} {m : MethodId} {args : Array Value} {below : List Frame} {meth : Method} {c : Code} {as : Nat → Nat} {dA : Nat → ClassId} {D : va_G} {d : Nat} {p1 : Int32} {p2 : Int32} (C : zCx p s m args meth c as dA D SHX d 4 yX1_firstUndone.cls cX1_firstUndone ((some FieldType.int))) (hd : 3 ≤ d) : ∀ (u : zM), Go p l e s m args below meth c as dA D SHX d 4 zQi 0 [(0, .ref 49), (1, .int p1), (2, .int p2)] [] u (f_X1_firstUndone p1 p2 u) := by
  intro u
  unfold f_X1_firstUndone
  refine G_iload_n C 1 dX1_firstUndone_0 rfl rfl ?_
  refine G_istore_n (L' := [(3, .int p1), (0, .ref 49), (1, .int p1), (2, .int p2)]) C dX1_firstUndone_1 rfl (by decide) rfl ?_
  refine G_locals [1, 2, 3, 0] rfl ?_
  exact go_X1_firstUndone_L2 C hd 400 p1 u
theorem m_X1_firstUndone   (p1 : Int32) (p2 : Int32) (u : zM) (d : Nat) (hd : 3 ≤ d) : zMet zQi SHX yX1_firstUndone cX1_firstUndone 4 ((some FieldType.int)) d [.ref 49, .int p1, .int p2] u (f_X1_firstUndone p1 p2 u) :=
  zMet_of (by decide +kernel) (fun as => Nat.le_of_ble_eq_true rfl) wwX1_firstUndone.2.2.2.1 (by omega) (fun p l e s m args below meth c as dA D C => go_X1_firstUndone C hd u)
/-! private int countDoneInTime(int, int) -/
def f_X1_countDoneInTime_L103 (p1 : Int32) (p2 : Int32) (k33 : Int32 → Int32 → Int32 → zM → Option (Int32 × zM)) (x4 : Int32) (x5 : Int32) (s0 : Int32) (s1 : Int32) (u : zM) : Option (Int32 × zM) :=
  zb (f_X8_asNumber s1 u) fun y19 u20 => zlx (s0 + y19) fun v21 => zb (f_X1_firstUndone (x4 + (1 : Int32)) p1 u20) fun y22 u23 => k33 v21 y22 (x5 + (1 : Int32)) u23
def f_X1_countDoneInTime_L33_b (p1 : Int32) (p2 : Int32) (rc : Int32 → Int32 → Int32 → zM → Option (Int32 × zM)) (x3 : Int32) (x4 : Int32) (x5 : Int32) (u : zM) : Option (Int32 × zM) :=
  (if p2 < x5 then zlet (sI u 49 5 (if p1 < (x4 + (1 : Int32)) then p1 else (x4 + (1 : Int32)))) fun u9 => some (x3, u9) else (if p1 ≤ x4 then zlet (sI u 49 5 (if p1 < (x4 + (1 : Int32)) then p1 else (x4 + (1 : Int32)))) fun u10 => some (x3, u10) else zck (inB x4 4) <| zlx (gI u 62 x4.toNatClampNeg) fun v12 => zlet (sI u 51 10 v12) fun u13 => zb (f_X6_goOneMinute 51 u13) fun _ u15 => zb (f_X6_isDone 51 v12 u15) fun y16 u17 => (if y16 = (0 : Int32) then rc x3 x4 (x5 + (1 : Int32)) u17 else zck (inB v12 4) <| (if (gI u17 58 v12.toNatClampNeg) < x5 then f_X1_countDoneInTime_L103 p1 p2 rc x4 x5 x3 (0 : Int32) u17 else f_X1_countDoneInTime_L103 p1 p2 rc x4 x5 x3 (1 : Int32) u17))))
def f_X1_countDoneInTime_L33 (p1 : Int32) (p2 : Int32) : Nat → Int32 → Int32 → Int32 → zM → Option (Int32 × zM)
  | 0 => fun _ _ _ _ => none
  | fn + 1 => f_X1_countDoneInTime_L33_b p1 p2 (f_X1_countDoneInTime_L33 p1 p2 fn)
def f_X1_countDoneInTime (p1 : Int32) (p2 : Int32) (u : zM) : Option (Int32 × zM) :=
  zb (f_X6_become 51 2 u) fun _ u2 => zb (f_X6_doneBits 2 u2) fun y3 u4 => zb (f_J6_bitCount_0f7a4 y3 u4) fun y5 u6 => zb (f_X1_firstUndone (0 : Int32) p1 u6) fun y7 u8 => f_X1_countDoneInTime_L33 p1 p2 400 y5 y7 (1 : Int32) u8
set_option maxRecDepth 20000 in
theorem go_X1_countDoneInTime_L103 {p : Program} {l : Launch} {e : Env} {s : State} {m : MethodId} {args : Array Value} {below : List Frame} {meth : Method} {c : Code} {as : Nat → Nat} {dA : Nat → ClassId} {D : va_G} {d : Nat} {p1 : Int32} {p2 : Int32} (C : zCx p s m args meth c as dA D SHX d 7 yX1_countDoneInTime.cls cX1_countDoneInTime ((some FieldType.int))) (hd : 5 ≤ d) {k33 : Int32 → Int32 → Int32 → zM → Option (Int32 × zM)} (hk33 : ∀ (x3 : Int32) (x4 : Int32) (x5 : Int32) (u : zM), Go p l e s m args below meth c as dA D SHX d 7 zQi 33 [(0, .ref 49), (1, .int p1), (2, .int p2), (3, .int x3), (4, .int x4), (5, .int x5)] [] u (k33 x3 x4 x5 u)) : ∀ (x4 : Int32) (x5 : Int32) (s0 : Int32) (s1 : Int32) (u : zM), Go p l e s m args below meth c as dA D SHX d 7 zQi 103 [(0, .ref 49), (1, .int p1), (2, .int p2), (4, .int x4), (5, .int x5)] [.int s1, .int s0] u (f_X1_countDoneInTime_L103 p1 p2 k33 x4 x5 s0 s1 u) := by
  intro x4 x5 s0 s1 u
  unfold f_X1_countDoneInTime_L103
  refine G_callNi C (m_X8_asNumber s1 u (d - 1) (by omega)) (d' := d - 1) (As := [.int s1]) (by omega) rfl wn1_95 wwX8_asNumber (Nat.le_of_ble_eq_true rfl) dX1_countDoneInTime_103 (fun y19 u20 => ?_)
  refine G_iadd C dX1_countDoneInTime_106 ?_
  refine G_topi (fun v21 => ?_)
  refine G_istore_n (L' := [(3, .int v21), (0, .ref 49), (1, .int p1), (2, .int p2), (4, .int x4), (5, .int x5)]) C dX1_countDoneInTime_107 rfl (by decide) rfl ?_
  refine G_aload_n C 1 dX1_countDoneInTime_108 rfl rfl ?_
  refine G_iload C 4 dX1_countDoneInTime_109 rfl ?_
  refine G_iconst (v := 1) C dX1_countDoneInTime_111 (by decide) ?_
  refine G_iadd C dX1_countDoneInTime_112 ?_
  refine G_iload_n C 2 dX1_countDoneInTime_113 rfl rfl ?_
  refine G_callVi C (m_X1_firstUndone (x4 + (1 : Int32)) p1 u20 (d - 1) (by omega)) (d' := d - 1) (As := [.int (x4 + (1 : Int32)), .int p1]) (by omega) rfl wm1_89 wwX1_firstUndone shX_49 rfl (Nat.le_of_ble_eq_true rfl) dX1_countDoneInTime_114 (fun y22 u23 => ?_)
  refine G_istore (L' := [(4, .int y22), (3, .int v21), (0, .ref 49), (1, .int p1), (2, .int p2), (5, .int x5)]) C dX1_countDoneInTime_117 (by decide) rfl ?_
  refine G_iinc (v := 1) (L' := [(5, .int (x5 + (1 : Int32))), (4, .int y22), (3, .int v21), (0, .ref 49), (1, .int p1), (2, .int p2)]) C 5 dX1_countDoneInTime_119 rfl (by decide) (by decide) rfl ?_
  refine G_goto (tgt := 33) C dX1_countDoneInTime_122 (by decide) ?_
  refine G_locals [3, 4, 5, 2, 1, 0] rfl ?_
  exact hk33 v21 y22 (x5 + (1 : Int32)) u23
set_option maxRecDepth 20000 in
theorem go_X1_countDoneInTime_L33 {p : Program} {l : Launch} {e : Env} {s : State} {m : MethodId} {args : Array Value} {below : List Frame} {meth : Method} {c : Code} {as : Nat → Nat} {dA : Nat → ClassId} {D : va_G} {d : Nat} {p1 : Int32} {p2 : Int32} (C : zCx p s m args meth c as dA D SHX d 7 yX1_countDoneInTime.cls cX1_countDoneInTime ((some FieldType.int))) (hd : 5 ≤ d) : ∀ (fn : Nat) (x3 : Int32) (x4 : Int32) (x5 : Int32) (u : zM), Go p l e s m args below meth c as dA D SHX d 7 zQi 33 [(0, .ref 49), (1, .int p1), (2, .int p2), (3, .int x3), (4, .int x4), (5, .int x5)] [] u (f_X1_countDoneInTime_L33 p1 p2 fn x3 x4 x5 u) := by
  intro fn
  induction fn with
  | zero => intro x3 x4 x5 u; exact G_none
  | succ fn ih =>
    intro x3 x4 x5 u
    show Go p l e s m args below meth c as dA D SHX d 7 zQi 33 [(0, .ref 49), (1, .int p1), (2, .int p2), (3, .int x3), (4, .int x4), (5, .int x5)] [] u (f_X1_countDoneInTime_L33_b p1 p2 (f_X1_countDoneInTime_L33 p1 p2 fn) x3 x4 x5 u)
    unfold f_X1_countDoneInTime_L33_b
    refine G_iload C 5 dX1_countDoneInTime_33 rfl ?_
    refine G_iload_n C 2 dX1_countDoneInTime_35 rfl rfl ?_
    refine G_icmp_gt (tgt := 125) C dX1_countDoneInTime_36 (by decide) (fun _ => ?_) (fun _ => ?_)
    · refine G_aload_n C 0 dX1_countDoneInTime_125 rfl rfl ?_
      refine G_iload C 4 dX1_countDoneInTime_126 rfl ?_
      refine G_iconst (v := 1) C dX1_countDoneInTime_128 (by decide) ?_
      refine G_iadd C dX1_countDoneInTime_129 ?_
      refine G_iload_n C 1 dX1_countDoneInTime_130 rfl rfl ?_
      refine G_mmin C wm1_54 wMmin_s wMath wMmin_c (Nat.le_of_ble_eq_true rfl) dX1_countDoneInTime_131 ?_
      refine G_putI (ty := .int) C 5 shX_49 rfl rfl (by decide) wf1_76 rfl (by decide +kernel) rfl rfl dX1_countDoneInTime_134 (fun u9 => ?_)
      refine G_iload_n C 3 dX1_countDoneInTime_137 rfl rfl ?_
      exact G_iret C dX1_countDoneInTime_138
    · refine G_iload C 4 dX1_countDoneInTime_39 rfl ?_
      refine G_iload_n C 1 dX1_countDoneInTime_41 rfl rfl ?_
      refine G_icmp_ge (tgt := 125) C dX1_countDoneInTime_42 (by decide) (fun _ => ?_) (fun _ => ?_)
      · refine G_aload_n C 0 dX1_countDoneInTime_125 rfl rfl ?_
        refine G_iload C 4 dX1_countDoneInTime_126 rfl ?_
        refine G_iconst (v := 1) C dX1_countDoneInTime_128 (by decide) ?_
        refine G_iadd C dX1_countDoneInTime_129 ?_
        refine G_iload_n C 1 dX1_countDoneInTime_130 rfl rfl ?_
        refine G_mmin C wm1_54 wMmin_s wMath wMmin_c (Nat.le_of_ble_eq_true rfl) dX1_countDoneInTime_131 ?_
        refine G_putI (ty := .int) C 5 shX_49 rfl rfl (by decide) wf1_76 rfl (by decide +kernel) rfl rfl dX1_countDoneInTime_134 (fun u10 => ?_)
        refine G_iload_n C 3 dX1_countDoneInTime_137 rfl rfl ?_
        exact G_iret C dX1_countDoneInTime_138
      · refine G_aload_n C 0 dX1_countDoneInTime_45 rfl rfl ?_
        refine G_getR (j := 62) C 4 shX_49 rfl rfl (by decide) wf1_22 dX1_countDoneInTime_46 ?_
        refine G_iload C 4 dX1_countDoneInTime_49 rfl ?_
        refine G_iald C shX_62 dX1_countDoneInTime_51 (fun hb11 => ?_)
        refine G_topi (fun v12 => ?_)
        refine G_istore (L' := [(6, .int v12), (0, .ref 49), (1, .int p1), (2, .int p2), (3, .int x3), (4, .int x4), (5, .int x5)]) C dX1_countDoneInTime_52 (by decide) rfl ?_
        refine G_aload_n C 1 dX1_countDoneInTime_54 rfl rfl ?_
        refine G_getR (j := 51) C 3 shX_49 rfl rfl (by decide) wf1_18 dX1_countDoneInTime_55 ?_
        refine G_iload C 0 dX1_countDoneInTime_58 rfl ?_
        refine G_putI (ty := .int) C 10 zTn_51.1 rfl rfl (by decide) wf1_40 rfl (by decide +kernel) rfl rfl dX1_countDoneInTime_60 (fun u13 => ?_)
        refine G_aload_n C 1 dX1_countDoneInTime_63 rfl rfl ?_
        refine G_getR (j := 51) C 3 shX_49 rfl rfl (by decide) wf1_18 dX1_countDoneInTime_64 ?_
        refine G_callVv C (m_X6_goOneMinute zTn_51 u13 (d - 1) (by omega)) (d' := d - 1) (As := []) (by omega) rfl wm1_48 wwX6_goOneMinute zTn_51.1 rfl (Nat.le_of_ble_eq_true rfl) dX1_countDoneInTime_67 (fun y14 u15 => ?_)
        refine G_aload_n C 1 dX1_countDoneInTime_70 rfl rfl ?_
        refine G_getR (j := 51) C 3 shX_49 rfl rfl (by decide) wf1_18 dX1_countDoneInTime_71 ?_
        refine G_iload C 0 dX1_countDoneInTime_74 rfl ?_
        refine G_callVi C (m_X6_isDone zTn_51 v12 u15 (d - 1) (by omega)) (d' := d - 1) (As := [.int v12]) (by omega) rfl wm1_44 wwX6_isDone zTn_51.1 rfl (Nat.le_of_ble_eq_true rfl) dX1_countDoneInTime_76 (fun y16 u17 => ?_)
        refine G_if_eq (tgt := 119) C dX1_countDoneInTime_79 (by decide) (fun _ => ?_) (fun _ => ?_)
        · refine G_iinc (v := 1) (L' := [(5, .int (x5 + (1 : Int32))), (6, .int v12), (0, .ref 49), (1, .int p1), (2, .int p2), (3, .int x3), (4, .int x4)]) C 6 dX1_countDoneInTime_119 rfl (by decide) (by decide) rfl ?_
          refine G_goto (tgt := 33) C dX1_countDoneInTime_122 (by decide) ?_
          refine G_locals [2, 3, 4, 5, 6, 0] rfl ?_
          exact ih x3 x4 (x5 + (1 : Int32)) u17
        · refine G_iload_n C 4 dX1_countDoneInTime_82 rfl rfl ?_
          refine G_iload C 6 dX1_countDoneInTime_83 rfl ?_
          refine G_aload_n C 1 dX1_countDoneInTime_85 rfl rfl ?_
          refine G_getR (j := 51) C 3 shX_49 rfl rfl (by decide) wf1_18 dX1_countDoneInTime_86 ?_
          refine G_getR (j := 58) C 8 zTn_51.1 rfl rfl (by decide) wf1_92 dX1_countDoneInTime_89 ?_
          refine G_iload C 0 dX1_countDoneInTime_92 rfl ?_
          refine G_iald C zTn_51.2.2.2.2.2.2.2.1 dX1_countDoneInTime_94 (fun hb18 => ?_)
          refine G_icmp_gt (tgt := 102) C dX1_countDoneInTime_95 (by decide) (fun _ => ?_) (fun _ => ?_)
          · refine G_iconst (v := 0) C dX1_countDoneInTime_102 (by decide) ?_
            refine G_locals [1, 2, 3, 5, 6] rfl ?_
            exact go_X1_countDoneInTime_L103 C hd ih x4 x5 x3 (0 : Int32) u17
          · refine G_iconst (v := 1) C dX1_countDoneInTime_98 (by decide) ?_
            refine G_goto (tgt := 103) C dX1_countDoneInTime_99 (by decide) ?_
            refine G_locals [1, 2, 3, 5, 6] rfl ?_
            exact go_X1_countDoneInTime_L103 C hd ih x4 x5 x3 (1 : Int32) u17
set_option maxRecDepth 20000 in
theorem go_X1_countDoneInTime {p : Program} {l : Launch} {e : Env} {s : State} {m : MethodId} {args : Array Value} {below : List Frame} {meth : Method} {c : Code} {as : Nat → Nat} {dA : Nat → ClassId} {D : va_G} {d : Nat} {p1 : Int32} {p2 : Int32} (C : zCx p s m args meth c as dA D SHX d 7 yX1_countDoneInTime.cls cX1_countDoneInTime ((some FieldType.int))) (hd : 5 ≤ d) : ∀ (u : zM), Go p l e s m args below meth c as dA D SHX d 7 zQi 0 [(0, .ref 49), (1, .int p1), (2, .int p2)] [] u (f_X1_countDoneInTime p1 p2 u) := by
  intro u
  unfold f_X1_countDoneInTime
  refine G_aload_n C 0 dX1_countDoneInTime_0 rfl rfl ?_
  refine G_getR (j := 51) C 3 shX_49 rfl rfl (by decide) wf1_18 dX1_countDoneInTime_1 ?_
  refine G_aload_n C 0 dX1_countDoneInTime_4 rfl rfl ?_
  refine G_getR (j := 2) C 1 shX_49 rfl rfl (by decide) wf1_25 dX1_countDoneInTime_5 ?_
  refine G_callVv C (m_X6_become zTn_51 zTn_2 u (d - 1) (by omega)) (d' := d - 1) (As := [.ref 2]) (by omega) rfl wm1_32 wwX6_become zTn_51.1 rfl (Nat.le_of_ble_eq_true rfl) dX1_countDoneInTime_8 (fun y1 u2 => ?_)
  refine G_aload_n C 0 dX1_countDoneInTime_11 rfl rfl ?_
  refine G_getR (j := 2) C 1 shX_49 rfl rfl (by decide) wf1_25 dX1_countDoneInTime_12 ?_
  refine G_callVi C (m_X6_doneBits zTn_2 u2 (d - 1) (by omega)) (d' := d - 1) (As := []) (by omega) rfl wm1_79 wwX6_doneBits zTn_2.1 rfl (Nat.le_of_ble_eq_true rfl) dX1_countDoneInTime_15 (fun y3 u4 => ?_)
  refine G_callSi C (m_J6_bitCount_0f7a4 y3 u4 (d - 1) (by omega)) (d' := d - 1) (As := [.int y3]) (by omega) rfl wm1_83 wwJ6_bitCount_0f7a4 (Nat.le_of_ble_eq_true rfl) dX1_countDoneInTime_18 (fun y5 u6 => ?_)
  refine G_istore_n (L' := [(3, .int y5), (0, .ref 49), (1, .int p1), (2, .int p2)]) C dX1_countDoneInTime_21 rfl (by decide) rfl ?_
  refine G_aload_n C 1 dX1_countDoneInTime_22 rfl rfl ?_
  refine G_iconst (v := 0) C dX1_countDoneInTime_23 (by decide) ?_
  refine G_iload_n C 2 dX1_countDoneInTime_24 rfl rfl ?_
  refine G_callVi C (m_X1_firstUndone (0 : Int32) p1 u6 (d - 1) (by omega)) (d' := d - 1) (As := [.int (0 : Int32), .int p1]) (by omega) rfl wm1_89 wwX1_firstUndone shX_49 rfl (Nat.le_of_ble_eq_true rfl) dX1_countDoneInTime_25 (fun y7 u8 => ?_)
  refine G_istore (L' := [(4, .int y7), (3, .int y5), (0, .ref 49), (1, .int p1), (2, .int p2)]) C dX1_countDoneInTime_28 (by decide) rfl ?_
  refine G_iconst (v := 1) C dX1_countDoneInTime_30 (by decide) ?_
  refine G_istore (L' := [(5, .int (1 : Int32)), (4, .int y7), (3, .int y5), (0, .ref 49), (1, .int p1), (2, .int p2)]) C dX1_countDoneInTime_31 (by decide) rfl ?_
  refine G_locals [3, 4, 5, 2, 1, 0] rfl ?_
  exact go_X1_countDoneInTime_L33 C hd 400 y5 y7 (1 : Int32) u8
theorem m_X1_countDoneInTime   (p1 : Int32) (p2 : Int32) (u : zM) (d : Nat) (hd : 5 ≤ d) : zMet zQi SHX yX1_countDoneInTime cX1_countDoneInTime 7 ((some FieldType.int)) d [.ref 49, .int p1, .int p2] u (f_X1_countDoneInTime p1 p2 u) :=
  zMet_of (by decide +kernel) (fun as => Nat.le_of_ble_eq_true rfl) wwX1_countDoneInTime.2.2.2.1 (by omega) (fun p l e s m args below meth c as dA D C => go_X1_countDoneInTime C hd u)
/-! private void setRow(int, int) -/
def f_X1_setRow_L84 (p1 : Int32) (p2 : Int32) (k8 : Int32 → Int32 → Int32 → zM → Option (Unit × zM)) (k29 : Int32 → Int32 → Int32 → Int32 → Int32 → zM → Option (Unit × zM)) (x3 : Int32) (x4 : Int32) (x5 : Int32) (x6 : Int32) (x7 : Int32) (x8 : Int32) (u : zM) : Option (Unit × zM) :=
  (if x8 = (0 : Int32) then zlx (x3 - (0 : Int32)) fun v2 => k29 v2 x4 x5 x6 (x7 + (1 : Int32)) u else zlx (x3 - x6) fun v3 => k29 v3 x4 x5 x6 (x7 + (1 : Int32)) u)
def f_X1_setRow_L50 (p1 : Int32) (p2 : Int32) (k8 : Int32 → Int32 → Int32 → zM → Option (Unit × zM)) (k29 : Int32 → Int32 → Int32 → Int32 → Int32 → zM → Option (Unit × zM)) (x3 : Int32) (x4 : Int32) (x5 : Int32) (x6 : Int32) (x7 : Int32) (s0 : Int32) (u : zM) : Option (Unit × zM) :=
  (if s0 = (0 : Int32) then f_X1_setRow_L84 p1 p2 k8 k29 x3 x4 x5 x6 x7 s0 u else (if x6 ≤ x3 then f_X1_setRow_L84 p1 p2 k8 k29 x3 x4 x5 x6 x7 s0 u else zck (inB x5 4) <| zlet (sI u 62 x5.toNatClampNeg x7) fun u4 => zlx (x4 ||| ((1 : Int32) <<< (x7 &&& 31))) fun v5 => k8 x3 v5 (x5 + (1 : Int32)) u4))
def f_X1_setRow_L29_b (p1 : Int32) (p2 : Int32) (k8 : Int32 → Int32 → Int32 → zM → Option (Unit × zM)) (rc : Int32 → Int32 → Int32 → Int32 → Int32 → zM → Option (Unit × zM)) (x3 : Int32) (x4 : Int32) (x5 : Int32) (x6 : Int32) (x7 : Int32) (u : zM) : Option (Unit × zM) :=
  (if p1 ≤ x7 then k8 x3 x4 (x5 + (1 : Int32)) u else (if ((x4 >>> (x7 &&& 31)) &&& (1 : Int32)) = (0 : Int32) then f_X1_setRow_L50 p1 p2 k8 rc x3 x4 x5 x6 x7 (1 : Int32) u else f_X1_setRow_L50 p1 p2 k8 rc x3 x4 x5 x6 x7 (0 : Int32) u))
def f_X1_setRow_L29 (p1 : Int32) (p2 : Int32) (k8 : Int32 → Int32 → Int32 → zM → Option (Unit × zM)) : Nat → Int32 → Int32 → Int32 → Int32 → Int32 → zM → Option (Unit × zM)
  | 0 => fun _ _ _ _ _ _ => none
  | fn + 1 => f_X1_setRow_L29_b p1 p2 k8 (f_X1_setRow_L29 p1 p2 k8 fn)
def f_X1_setRow_L8_b (p1 : Int32) (p2 : Int32) (rc : Int32 → Int32 → Int32 → zM → Option (Unit × zM)) (x3 : Int32) (x4 : Int32) (x5 : Int32) (u : zM) : Option (Unit × zM) :=
  (if p1 ≤ x5 then some ((), u) else zck (inB ((p1 - (1 : Int32)) - x5) 5) <| zlx (zsv 2 ((p1 - (1 : Int32)) - x5)) fun v1 => f_X1_setRow_L29 p1 p2 rc 400 x3 x4 x5 v1 (0 : Int32) u)
def f_X1_setRow_L8 (p1 : Int32) (p2 : Int32) : Nat → Int32 → Int32 → Int32 → zM → Option (Unit × zM)
  | 0 => fun _ _ _ _ => none
  | fn + 1 => f_X1_setRow_L8_b p1 p2 (f_X1_setRow_L8 p1 p2 fn)
def f_X1_setRow (p1 : Int32) (p2 : Int32) (u : zM) : Option (Unit × zM) :=
  f_X1_setRow_L8 p1 p2 400 p2 (0 : Int32) (0 : Int32) u
set_option maxRecDepth 20000 in
theorem go_X1_setRow_L84 {p : Program} {l : Launch} {e : Env} {s : State} {m : MethodId} {args : Array Value} {below : List Frame} {meth : Method} {c : Code} {as : Nat → Nat} {dA : Nat → ClassId} {D : va_G} {d : Nat} {p1 : Int32} {p2 : Int32} (C : zCx p s m args meth c as dA D SHX d 9 yX1_setRow.cls cX1_setRow (none)) (hd : 1 ≤ d) {k8 : Int32 → Int32 → Int32 → zM → Option (Unit × zM)} (hk8 : ∀ (x3 : Int32) (x4 : Int32) (x5 : Int32) (u : zM), Go p l e s m args below meth c as dA D SHX d 9 zQv 8 [(0, .ref 49), (1, .int p1), (2, .int p2), (3, .int x3), (4, .int x4), (5, .int x5)] [] u (k8 x3 x4 x5 u)) {k29 : Int32 → Int32 → Int32 → Int32 → Int32 → zM → Option (Unit × zM)} (hk29 : ∀ (x3 : Int32) (x4 : Int32) (x5 : Int32) (x6 : Int32) (x7 : Int32) (u : zM), Go p l e s m args below meth c as dA D SHX d 9 zQv 29 [(0, .ref 49), (1, .int p1), (2, .int p2), (3, .int x3), (4, .int x4), (5, .int x5), (6, .int x6), (7, .int x7)] [] u (k29 x3 x4 x5 x6 x7 u)) : ∀ (x3 : Int32) (x4 : Int32) (x5 : Int32) (x6 : Int32) (x7 : Int32) (x8 : Int32) (u : zM), Go p l e s m args below meth c as dA D SHX d 9 zQv 84 [(0, .ref 49), (1, .int p1), (2, .int p2), (3, .int x3), (4, .int x4), (5, .int x5), (6, .int x6), (7, .int x7), (8, .int x8)] [] u (f_X1_setRow_L84 p1 p2 k8 k29 x3 x4 x5 x6 x7 x8 u) := by
  intro x3 x4 x5 x6 x7 x8 u
  unfold f_X1_setRow_L84
  refine G_iload_n C 3 dX1_setRow_84 rfl rfl ?_
  refine G_iload C 8 dX1_setRow_85 rfl ?_
  refine G_if_eq (tgt := 95) C dX1_setRow_87 (by decide) (fun _ => ?_) (fun _ => ?_)
  · refine G_iconst (v := 0) C dX1_setRow_95 (by decide) ?_
    refine G_isub C dX1_setRow_96 ?_
    refine G_topi (fun v2 => ?_)
    refine G_istore_n (L' := [(3, .int v2), (0, .ref 49), (1, .int p1), (2, .int p2), (4, .int x4), (5, .int x5), (6, .int x6), (7, .int x7), (8, .int x8)]) C dX1_setRow_97 rfl (by decide) rfl ?_
    refine G_iinc (v := 1) (L' := [(7, .int (x7 + (1 : Int32))), (3, .int v2), (0, .ref 49), (1, .int p1), (2, .int p2), (4, .int x4), (5, .int x5), (6, .int x6), (8, .int x8)]) C 7 dX1_setRow_98 rfl (by decide) (by decide) rfl ?_
    refine G_goto (tgt := 29) C dX1_setRow_101 (by decide) ?_
    refine G_locals [2, 3, 4, 1, 5, 6, 7, 0] rfl ?_
    exact hk29 v2 x4 x5 x6 (x7 + (1 : Int32)) u
  · refine G_iload C 6 dX1_setRow_90 rfl ?_
    refine G_goto (tgt := 96) C dX1_setRow_92 (by decide) ?_
    refine G_isub C dX1_setRow_96 ?_
    refine G_topi (fun v3 => ?_)
    refine G_istore_n (L' := [(3, .int v3), (0, .ref 49), (1, .int p1), (2, .int p2), (4, .int x4), (5, .int x5), (6, .int x6), (7, .int x7), (8, .int x8)]) C dX1_setRow_97 rfl (by decide) rfl ?_
    refine G_iinc (v := 1) (L' := [(7, .int (x7 + (1 : Int32))), (3, .int v3), (0, .ref 49), (1, .int p1), (2, .int p2), (4, .int x4), (5, .int x5), (6, .int x6), (8, .int x8)]) C 7 dX1_setRow_98 rfl (by decide) (by decide) rfl ?_
    refine G_goto (tgt := 29) C dX1_setRow_101 (by decide) ?_
    refine G_locals [2, 3, 4, 1, 5, 6, 7, 0] rfl ?_
    exact hk29 v3 x4 x5 x6 (x7 + (1 : Int32)) u
set_option maxRecDepth 20000 in
theorem go_X1_setRow_L50 {p : Program} {l : Launch} {e : Env} {s : State} {m : MethodId} {args : Array Value} {below : List Frame} {meth : Method} {c : Code} {as : Nat → Nat} {dA : Nat → ClassId} {D : va_G} {d : Nat} {p1 : Int32} {p2 : Int32} (C : zCx p s m args meth c as dA D SHX d 9 yX1_setRow.cls cX1_setRow (none)) (hd : 1 ≤ d) {k8 : Int32 → Int32 → Int32 → zM → Option (Unit × zM)} (hk8 : ∀ (x3 : Int32) (x4 : Int32) (x5 : Int32) (u : zM), Go p l e s m args below meth c as dA D SHX d 9 zQv 8 [(0, .ref 49), (1, .int p1), (2, .int p2), (3, .int x3), (4, .int x4), (5, .int x5)] [] u (k8 x3 x4 x5 u)) {k29 : Int32 → Int32 → Int32 → Int32 → Int32 → zM → Option (Unit × zM)} (hk29 : ∀ (x3 : Int32) (x4 : Int32) (x5 : Int32) (x6 : Int32) (x7 : Int32) (u : zM), Go p l e s m args below meth c as dA D SHX d 9 zQv 29 [(0, .ref 49), (1, .int p1), (2, .int p2), (3, .int x3), (4, .int x4), (5, .int x5), (6, .int x6), (7, .int x7)] [] u (k29 x3 x4 x5 x6 x7 u)) : ∀ (x3 : Int32) (x4 : Int32) (x5 : Int32) (x6 : Int32) (x7 : Int32) (s0 : Int32) (u : zM), Go p l e s m args below meth c as dA D SHX d 9 zQv 50 [(0, .ref 49), (1, .int p1), (2, .int p2), (3, .int x3), (4, .int x4), (5, .int x5), (6, .int x6), (7, .int x7)] [.int s0] u (f_X1_setRow_L50 p1 p2 k8 k29 x3 x4 x5 x6 x7 s0 u) := by
  intro x3 x4 x5 x6 x7 s0 u
  unfold f_X1_setRow_L50
  refine G_istore (L' := [(8, .int s0), (0, .ref 49), (1, .int p1), (2, .int p2), (3, .int x3), (4, .int x4), (5, .int x5), (6, .int x6), (7, .int x7)]) C dX1_setRow_50 (by decide) rfl ?_
  refine G_iload C 0 dX1_setRow_52 rfl ?_
  refine G_if_eq (tgt := 84) C dX1_setRow_54 (by decide) (fun _ => ?_) (fun _ => ?_)
  · refine G_locals [1, 2, 3, 4, 5, 6, 7, 8, 0] rfl ?_
    exact go_X1_setRow_L84 C hd hk8 hk29 x3 x4 x5 x6 x7 s0 u
  · refine G_iload_n C 4 dX1_setRow_57 rfl rfl ?_
    refine G_iload C 7 dX1_setRow_58 rfl ?_
    refine G_icmp_ge (tgt := 84) C dX1_setRow_60 (by decide) (fun _ => ?_) (fun _ => ?_)
    · refine G_locals [1, 2, 3, 4, 5, 6, 7, 8, 0] rfl ?_
      exact go_X1_setRow_L84 C hd hk8 hk29 x3 x4 x5 x6 x7 s0 u
    · refine G_aload_n C 1 dX1_setRow_63 rfl rfl ?_
      refine G_getR (j := 62) C 4 shX_49 rfl rfl (by decide) wf1_22 dX1_setRow_64 ?_
      refine G_iload C 6 dX1_setRow_67 rfl ?_
      refine G_iload C 8 dX1_setRow_69 rfl ?_
      refine G_iast C shX_62 dX1_setRow_71 (fun _ u4 => ?_)
      refine G_iload C 5 dX1_setRow_72 rfl ?_
      refine G_iconst (v := 1) C dX1_setRow_74 (by decide) ?_
      refine G_iload C 8 dX1_setRow_75 rfl ?_
      refine G_ishl C dX1_setRow_77 ?_
      refine G_ior C dX1_setRow_78 ?_
      refine G_topi (fun v5 => ?_)
      refine G_istore (L' := [(4, .int v5), (8, .int s0), (0, .ref 49), (1, .int p1), (2, .int p2), (3, .int x3), (5, .int x5), (6, .int x6), (7, .int x7)]) C dX1_setRow_79 (by decide) rfl ?_
      refine G_goto (tgt := 104) C dX1_setRow_81 (by decide) ?_
      refine G_iinc (v := 1) (L' := [(5, .int (x5 + (1 : Int32))), (4, .int v5), (8, .int s0), (0, .ref 49), (1, .int p1), (2, .int p2), (3, .int x3), (6, .int x6), (7, .int x7)]) C 6 dX1_setRow_104 rfl (by decide) (by decide) rfl ?_
      refine G_goto (tgt := 8) C dX1_setRow_107 (by decide) ?_
      refine G_locals [3, 4, 5, 6, 1, 0] rfl ?_
      exact hk8 x3 v5 (x5 + (1 : Int32)) u4
set_option maxRecDepth 20000 in
theorem go_X1_setRow_L29 {p : Program} {l : Launch} {e : Env} {s : State} {m : MethodId} {args : Array Value} {below : List Frame} {meth : Method} {c : Code} {as : Nat → Nat} {dA : Nat → ClassId} {D : va_G} {d : Nat} {p1 : Int32} {p2 : Int32} (C : zCx p s m args meth c as dA D SHX d 9 yX1_setRow.cls cX1_setRow (none)) (hd : 1 ≤ d) {k8 : Int32 → Int32 → Int32 → zM → Option (Unit × zM)} (hk8 : ∀ (x3 : Int32) (x4 : Int32) (x5 : Int32) (u : zM), Go p l e s m args below meth c as dA D SHX d 9 zQv 8 [(0, .ref 49), (1, .int p1), (2, .int p2), (3, .int x3), (4, .int x4), (5, .int x5)] [] u (k8 x3 x4 x5 u)) : ∀ (fn : Nat) (x3 : Int32) (x4 : Int32) (x5 : Int32) (x6 : Int32) (x7 : Int32) (u : zM), Go p l e s m args below meth c as dA D SHX d 9 zQv 29 [(0, .ref 49), (1, .int p1), (2, .int p2), (3, .int x3), (4, .int x4), (5, .int x5), (6, .int x6), (7, .int x7)] [] u (f_X1_setRow_L29 p1 p2 k8 fn x3 x4 x5 x6 x7 u) := by
  intro fn
  induction fn with
  | zero => intro x3 x4 x5 x6 x7 u; exact G_none
  | succ fn ih =>
    intro x3 x4 x5 x6 x7 u
    show Go p l e s m args below meth c as dA D SHX d 9 zQv 29 [(0, .ref 49), (1, .int p1), (2, .int p2), (3, .int x3), (4, .int x4), (5, .int x5), (6, .int x6), (7, .int x7)] [] u (f_X1_setRow_L29_b p1 p2 k8 (f_X1_setRow_L29 p1 p2 k8 fn) x3 x4 x5 x6 x7 u)
    unfold f_X1_setRow_L29_b
    refine G_iload C 7 dX1_setRow_29 rfl ?_
    refine G_iload_n C 1 dX1_setRow_31 rfl rfl ?_
    refine G_icmp_ge (tgt := 104) C dX1_setRow_32 (by decide) (fun _ => ?_) (fun _ => ?_)
    · refine G_iinc (v := 1) (L' := [(5, .int (x5 + (1 : Int32))), (0, .ref 49), (1, .int p1), (2, .int p2), (3, .int x3), (4, .int x4), (6, .int x6), (7, .int x7)]) C 5 dX1_setRow_104 rfl (by decide) (by decide) rfl ?_
      refine G_goto (tgt := 8) C dX1_setRow_107 (by decide) ?_
      refine G_locals [1, 2, 3, 4, 5, 0] rfl ?_
      exact hk8 x3 x4 (x5 + (1 : Int32)) u
    · refine G_iload C 4 dX1_setRow_35 rfl ?_
      refine G_iload C 7 dX1_setRow_37 rfl ?_
      refine G_ishr C dX1_setRow_39 ?_
      refine G_iconst (v := 1) C dX1_setRow_40 (by decide) ?_
      refine G_iand C dX1_setRow_41 ?_
      refine G_if_ne (tgt := 49) C dX1_setRow_42 (by decide) (fun _ => ?_) (fun _ => ?_)
      · refine G_iconst (v := 0) C dX1_setRow_49 (by decide) ?_
        refine G_locals [0, 1, 2, 3, 4, 5, 6, 7] rfl ?_
        exact go_X1_setRow_L50 C hd hk8 ih x3 x4 x5 x6 x7 (0 : Int32) u
      · refine G_iconst (v := 1) C dX1_setRow_45 (by decide) ?_
        refine G_goto (tgt := 50) C dX1_setRow_46 (by decide) ?_
        refine G_locals [0, 1, 2, 3, 4, 5, 6, 7] rfl ?_
        exact go_X1_setRow_L50 C hd hk8 ih x3 x4 x5 x6 x7 (1 : Int32) u
set_option maxRecDepth 20000 in
theorem go_X1_setRow_L8 {p : Program} {l : Launch} {e : Env} {s : State} {m : MethodId} {args : Array Value} {below : List Frame} {meth : Method} {c : Code} {as : Nat → Nat} {dA : Nat → ClassId} {D : va_G} {d : Nat} {p1 : Int32} {p2 : Int32} (C : zCx p s m args meth c as dA D SHX d 9 yX1_setRow.cls cX1_setRow (none)) (hd : 1 ≤ d) : ∀ (fn : Nat) (x3 : Int32) (x4 : Int32) (x5 : Int32) (u : zM), Go p l e s m args below meth c as dA D SHX d 9 zQv 8 [(0, .ref 49), (1, .int p1), (2, .int p2), (3, .int x3), (4, .int x4), (5, .int x5)] [] u (f_X1_setRow_L8 p1 p2 fn x3 x4 x5 u) := by
  intro fn
  induction fn with
  | zero => intro x3 x4 x5 u; exact G_none
  | succ fn ih =>
    intro x3 x4 x5 u
    show Go p l e s m args below meth c as dA D SHX d 9 zQv 8 [(0, .ref 49), (1, .int p1), (2, .int p2), (3, .int x3), (4, .int x4), (5, .int x5)] [] u (f_X1_setRow_L8_b p1 p2 (f_X1_setRow_L8 p1 p2 fn) x3 x4 x5 u)
    unfold f_X1_setRow_L8_b
    refine G_iload C 5 dX1_setRow_8 rfl ?_
    refine G_iload_n C 1 dX1_setRow_10 rfl rfl ?_
    refine G_icmp_ge (tgt := 110) C dX1_setRow_11 (by decide) (fun _ => ?_) (fun _ => ?_)
    · exact G_vret C dX1_setRow_110
    · refine G_getsA C 2 rfl ws1_60 dX1_setRow_14 ?_
      refine G_iload_n C 1 dX1_setRow_17 rfl rfl ?_
      refine G_iconst (v := 1) C dX1_setRow_18 (by decide) ?_
      refine G_isub C dX1_setRow_19 ?_
      refine G_iload C 5 dX1_setRow_20 rfl ?_
      refine G_isub C dX1_setRow_22 ?_
      refine G_tld C 2 rfl dX1_setRow_23 (fun _ => ?_)
      refine G_topi (fun v1 => ?_)
      refine G_istore (L' := [(6, .int v1), (0, .ref 49), (1, .int p1), (2, .int p2), (3, .int x3), (4, .int x4), (5, .int x5)]) C dX1_setRow_24 (by decide) rfl ?_
      refine G_iconst (v := 0) C dX1_setRow_26 (by decide) ?_
      refine G_istore (L' := [(7, .int (0 : Int32)), (6, .int v1), (0, .ref 49), (1, .int p1), (2, .int p2), (3, .int x3), (4, .int x4), (5, .int x5)]) C dX1_setRow_27 (by decide) rfl ?_
      refine G_locals [2, 3, 4, 5, 6, 7, 1, 0] rfl ?_
      exact go_X1_setRow_L29 C hd ih 400 x3 x4 x5 v1 (0 : Int32) u
set_option maxRecDepth 20000 in
theorem go_X1_setRow {p : Program} {l : Launch} {e : Env} {s : State} {m : MethodId} {args : Array Value} {below : List Frame} {meth : Method} {c : Code} {as : Nat → Nat} {dA : Nat → ClassId} {D : va_G} {d : Nat} {p1 : Int32} {p2 : Int32} (C : zCx p s m args meth c as dA D SHX d 9 yX1_setRow.cls cX1_setRow (none)) (hd : 1 ≤ d) : ∀ (u : zM), Go p l e s m args below meth c as dA D SHX d 9 zQv 0 [(0, .ref 49), (1, .int p1), (2, .int p2)] [] u (f_X1_setRow p1 p2 u) := by
  intro u
  unfold f_X1_setRow
  refine G_iload_n C 2 dX1_setRow_0 rfl rfl ?_
  refine G_istore_n (L' := [(3, .int p2), (0, .ref 49), (1, .int p1), (2, .int p2)]) C dX1_setRow_1 rfl (by decide) rfl ?_
  refine G_iconst (v := 0) C dX1_setRow_2 (by decide) ?_
  refine G_istore (L' := [(4, .int (0 : Int32)), (3, .int p2), (0, .ref 49), (1, .int p1), (2, .int p2)]) C dX1_setRow_3 (by decide) rfl ?_
  refine G_iconst (v := 0) C dX1_setRow_5 (by decide) ?_
  refine G_istore (L' := [(5, .int (0 : Int32)), (4, .int (0 : Int32)), (3, .int p2), (0, .ref 49), (1, .int p1), (2, .int p2)]) C dX1_setRow_6 (by decide) rfl ?_
  refine G_locals [3, 4, 5, 2, 1, 0] rfl ?_
  exact go_X1_setRow_L8 C hd 400 p2 (0 : Int32) (0 : Int32) u
theorem m_X1_setRow   (p1 : Int32) (p2 : Int32) (u : zM) (d : Nat) (hd : 1 ≤ d) : zMet zQv SHX yX1_setRow cX1_setRow 9 (none) d [.ref 49, .int p1, .int p2] u (f_X1_setRow p1 p2 u) :=
  zMet_of (by decide +kernel) (fun as => Nat.le_of_ble_eq_true rfl) wwX1_setRow.2.2.2.1 (by omega) (fun p l e s m args below meth c as dA D C => go_X1_setRow C hd u)
/-! int findBestRow(int) -/
def f_X1_findBestRow_L83 (p1 : Int32) (k20 : Int32 → Int32 → Int32 → Int32 → zM → Option (Int32 × zM)) (x2 : Int32) (x3 : Int32) (x4 : Int32) (x5 : Int32) (u : zM) : Option (Int32 × zM) :=
  zck (inB (x2 - (gI u 49 5)) 5) <| zlx (x4 + (zsv 2 (x2 - (gI u 49 5)))) fun v6 => k20 x2 x3 v6 (x5 + (1 : Int32)) u
def f_X1_findBestRow_L20_b (p1 : Int32) (rc : Int32 → Int32 → Int32 → Int32 → zM → Option (Int32 × zM)) (x2 : Int32) (x3 : Int32) (x4 : Int32) (x5 : Int32) (u : zM) : Option (Int32 × zM) :=
  zck (inB x2 5) <| (if (zsv 2 x2) ≤ x5 then some (x3, u) else zck (inB x2 5) <| (if (zsv 2 x2) ≤ x4 then some (x3, u) else (if x2 ≤ x3 then some (x3, u) else zb (f_X1_setRow x2 x4 u) fun _ u3 => zb (f_X1_countDoneInTime x2 p1 u3) fun y4 u5 => (if y4 ≤ x3 then f_X1_findBestRow_L83 p1 rc x2 x3 x4 x5 u5 else zck (cpB (0 : Int32) (0 : Int32) (4 : Int32) 4 4) <| zlet (cpI u5 62 (0 : Int32).toNatClampNeg 50 (0 : Int32).toNatClampNeg (4 : Int32).toNatClampNeg) fun u7 => f_X1_findBestRow_L83 p1 rc x2 y4 x4 x5 u7))))
def f_X1_findBestRow_L20 (p1 : Int32) : Nat → Int32 → Int32 → Int32 → Int32 → zM → Option (Int32 × zM)
  | 0 => fun _ _ _ _ _ => none
  | fn + 1 => f_X1_findBestRow_L20_b p1 (f_X1_findBestRow_L20 p1 fn)
def f_X1_findBestRow (p1 : Int32) (u : zM) : Option (Int32 × zM) :=
  zlx (if (4 : Int32) < (gI u 2 6) then (4 : Int32) else (gI u 2 6)) fun v1 => f_X1_findBestRow_L20 p1 400 v1 (-1 : Int32) (0 : Int32) (0 : Int32) u
set_option maxRecDepth 20000 in
theorem go_X1_findBestRow_L83 {p : Program} {l : Launch} {e : Env} {s : State} {m : MethodId} {args : Array Value} {below : List Frame} {meth : Method} {c : Code} {as : Nat → Nat} {dA : Nat → ClassId} {D : va_G} {d : Nat} {p1 : Int32} (C : zCx p s m args meth c as dA D SHX d 7 yX1_findBestRow.cls cX1_findBestRow ((some FieldType.int))) (hd : 6 ≤ d) {k20 : Int32 → Int32 → Int32 → Int32 → zM → Option (Int32 × zM)} (hk20 : ∀ (x2 : Int32) (x3 : Int32) (x4 : Int32) (x5 : Int32) (u : zM), Go p l e s m args below meth c as dA D SHX d 7 zQi 20 [(0, .ref 49), (1, .int p1), (2, .int x2), (3, .int x3), (4, .int x4), (5, .int x5)] [] u (k20 x2 x3 x4 x5 u)) : ∀ (x2 : Int32) (x3 : Int32) (x4 : Int32) (x5 : Int32) (u : zM), Go p l e s m args below meth c as dA D SHX d 7 zQi 83 [(0, .ref 49), (1, .int p1), (2, .int x2), (3, .int x3), (4, .int x4), (5, .int x5)] [] u (f_X1_findBestRow_L83 p1 k20 x2 x3 x4 x5 u) := by
  intro x2 x3 x4 x5 u
  unfold f_X1_findBestRow_L83
  refine G_iload C 4 dX1_findBestRow_83 rfl ?_
  refine G_getsA C 2 rfl ws1_60 dX1_findBestRow_85 ?_
  refine G_iload_n C 2 dX1_findBestRow_88 rfl rfl ?_
  refine G_aload_n C 0 dX1_findBestRow_89 rfl rfl ?_
  refine G_getI C 5 shX_49 rfl rfl (by decide) wf1_76 dX1_findBestRow_90 ?_
  refine G_isub C dX1_findBestRow_93 ?_
  refine G_tld C 2 rfl dX1_findBestRow_94 (fun _ => ?_)
  refine G_iadd C dX1_findBestRow_95 ?_
  refine G_topi (fun v6 => ?_)
  refine G_istore (L' := [(4, .int v6), (0, .ref 49), (1, .int p1), (2, .int x2), (3, .int x3), (5, .int x5)]) C dX1_findBestRow_96 (by decide) rfl ?_
  refine G_iinc (v := 1) (L' := [(5, .int (x5 + (1 : Int32))), (4, .int v6), (0, .ref 49), (1, .int p1), (2, .int x2), (3, .int x3)]) C 5 dX1_findBestRow_98 rfl (by decide) (by decide) rfl ?_
  refine G_goto (tgt := 20) C dX1_findBestRow_101 (by decide) ?_
  refine G_locals [2, 3, 4, 5, 1, 0] rfl ?_
  exact hk20 x2 x3 v6 (x5 + (1 : Int32)) u
set_option maxRecDepth 20000 in
theorem go_X1_findBestRow_L20 {p : Program} {l : Launch} {e : Env} {s : State} {m : MethodId} {args : Array Value} {below : List Frame} {meth : Method} {c : Code} {as : Nat → Nat} {dA : Nat → ClassId} {D : va_G} {d : Nat} {p1 : Int32} (C : zCx p s m args meth c as dA D SHX d 7 yX1_findBestRow.cls cX1_findBestRow ((some FieldType.int))) (hd : 6 ≤ d) : ∀ (fn : Nat) (x2 : Int32) (x3 : Int32) (x4 : Int32) (x5 : Int32) (u : zM), Go p l e s m args below meth c as dA D SHX d 7 zQi 20 [(0, .ref 49), (1, .int p1), (2, .int x2), (3, .int x3), (4, .int x4), (5, .int x5)] [] u (f_X1_findBestRow_L20 p1 fn x2 x3 x4 x5 u) := by
  intro fn
  induction fn with
  | zero => intro x2 x3 x4 x5 u; exact G_none
  | succ fn ih =>
    intro x2 x3 x4 x5 u
    show Go p l e s m args below meth c as dA D SHX d 7 zQi 20 [(0, .ref 49), (1, .int p1), (2, .int x2), (3, .int x3), (4, .int x4), (5, .int x5)] [] u (f_X1_findBestRow_L20_b p1 (f_X1_findBestRow_L20 p1 fn) x2 x3 x4 x5 u)
    unfold f_X1_findBestRow_L20_b
    refine G_iload C 5 dX1_findBestRow_20 rfl ?_
    refine G_getsA C 2 rfl ws1_60 dX1_findBestRow_22 ?_
    refine G_iload_n C 2 dX1_findBestRow_25 rfl rfl ?_
    refine G_tld C 2 rfl dX1_findBestRow_26 (fun _ => ?_)
    refine G_icmp_ge (tgt := 104) C dX1_findBestRow_27 (by decide) (fun _ => ?_) (fun _ => ?_)
    · refine G_iload_n C 3 dX1_findBestRow_104 rfl rfl ?_
      exact G_iret C dX1_findBestRow_105
    · refine G_iload C 4 dX1_findBestRow_30 rfl ?_
      refine G_getsA C 2 rfl ws1_60 dX1_findBestRow_32 ?_
      refine G_iload_n C 2 dX1_findBestRow_35 rfl rfl ?_
      refine G_tld C 2 rfl dX1_findBestRow_36 (fun _ => ?_)
      refine G_icmp_ge (tgt := 104) C dX1_findBestRow_37 (by decide) (fun _ => ?_) (fun _ => ?_)
      · refine G_iload_n C 3 dX1_findBestRow_104 rfl rfl ?_
        exact G_iret C dX1_findBestRow_105
      · refine G_iload_n C 3 dX1_findBestRow_40 rfl rfl ?_
        refine G_iload_n C 2 dX1_findBestRow_41 rfl rfl ?_
        refine G_icmp_ge (tgt := 104) C dX1_findBestRow_42 (by decide) (fun _ => ?_) (fun _ => ?_)
        · refine G_iload_n C 3 dX1_findBestRow_104 rfl rfl ?_
          exact G_iret C dX1_findBestRow_105
        · refine G_aload_n C 0 dX1_findBestRow_45 rfl rfl ?_
          refine G_iload_n C 2 dX1_findBestRow_46 rfl rfl ?_
          refine G_iload C 4 dX1_findBestRow_47 rfl ?_
          refine G_callVv C (m_X1_setRow x2 x4 u (d - 1) (by omega)) (d' := d - 1) (As := [.int x2, .int x4]) (by omega) rfl wm1_63 wwX1_setRow shX_49 rfl (Nat.le_of_ble_eq_true rfl) dX1_findBestRow_49 (fun y2 u3 => ?_)
          refine G_aload_n C 0 dX1_findBestRow_52 rfl rfl ?_
          refine G_iload_n C 2 dX1_findBestRow_53 rfl rfl ?_
          refine G_iload_n C 1 dX1_findBestRow_54 rfl rfl ?_
          refine G_callVi C (m_X1_countDoneInTime x2 p1 u3 (d - 1) (by omega)) (d' := d - 1) (As := [.int x2, .int p1]) (by omega) rfl wm1_67 wwX1_countDoneInTime shX_49 rfl (Nat.le_of_ble_eq_true rfl) dX1_findBestRow_55 (fun y4 u5 => ?_)
          refine G_istore (L' := [(6, .int y4), (0, .ref 49), (1, .int p1), (2, .int x2), (3, .int x3), (4, .int x4), (5, .int x5)]) C dX1_findBestRow_58 (by decide) rfl ?_
          refine G_iload C 0 dX1_findBestRow_60 rfl ?_
          refine G_iload_n C 4 dX1_findBestRow_62 rfl rfl ?_
          refine G_icmp_le (tgt := 83) C dX1_findBestRow_63 (by decide) (fun _ => ?_) (fun _ => ?_)
          · refine G_locals [1, 2, 3, 4, 5, 6] rfl ?_
            exact go_X1_findBestRow_L83 C hd ih x2 x3 x4 x5 u5
          · refine G_iload C 0 dX1_findBestRow_66 rfl ?_
            refine G_istore_n (L' := [(3, .int y4), (6, .int y4), (0, .ref 49), (1, .int p1), (2, .int x2), (4, .int x4), (5, .int x5)]) C dX1_findBestRow_68 rfl (by decide) rfl ?_
            refine G_aload_n C 2 dX1_findBestRow_69 rfl rfl ?_
            refine G_getR (j := 62) C 4 shX_49 rfl rfl (by decide) wf1_22 dX1_findBestRow_70 ?_
            refine G_iconst (v := 0) C dX1_findBestRow_73 (by decide) ?_
            refine G_aload_n C 2 dX1_findBestRow_74 rfl rfl ?_
            refine G_getR (j := 50) C 0 shX_49 rfl rfl (by decide) wf1_9 dX1_findBestRow_75 ?_
            refine G_iconst (v := 0) C dX1_findBestRow_78 (by decide) ?_
            refine G_iconst (v := 4) C dX1_findBestRow_79 (by decide) ?_
            refine G_copyI C shX_62 shX_50 wm1_70 wAcN wAcS wSys (Nat.le_of_ble_eq_true rfl) dX1_findBestRow_80 (fun _ u7 => ?_)
            refine G_locals [2, 3, 4, 0, 5, 6] rfl ?_
            exact go_X1_findBestRow_L83 C hd ih x2 y4 x4 x5 u7
set_option maxRecDepth 20000 in
theorem go_X1_findBestRow {p : Program} {l : Launch} {e : Env} {s : State} {m : MethodId} {args : Array Value} {below : List Frame} {meth : Method} {c : Code} {as : Nat → Nat} {dA : Nat → ClassId} {D : va_G} {d : Nat} {p1 : Int32} (C : zCx p s m args meth c as dA D SHX d 7 yX1_findBestRow.cls cX1_findBestRow ((some FieldType.int))) (hd : 6 ≤ d) : ∀ (u : zM), Go p l e s m args below meth c as dA D SHX d 7 zQi 0 [(0, .ref 49), (1, .int p1)] [] u (f_X1_findBestRow p1 u) := by
  intro u
  unfold f_X1_findBestRow
  refine G_aload_n C 0 dX1_findBestRow_0 rfl rfl ?_
  refine G_getR (j := 2) C 1 shX_49 rfl rfl (by decide) wf1_25 dX1_findBestRow_1 ?_
  refine G_getI C 6 zTn_2.1 rfl rfl (by decide) wf1_51 dX1_findBestRow_4 ?_
  refine G_iconst (v := 4) C dX1_findBestRow_7 (by decide) ?_
  refine G_mmin C wm1_54 wMmin_s wMath wMmin_c (Nat.le_of_ble_eq_true rfl) dX1_findBestRow_8 ?_
  refine G_topi (fun v1 => ?_)
  refine G_istore_n (L' := [(2, .int v1), (0, .ref 49), (1, .int p1)]) C dX1_findBestRow_11 rfl (by decide) rfl ?_
  refine G_iconst (v := -1) C dX1_findBestRow_12 (by decide) ?_
  refine G_istore_n (L' := [(3, .int (-1 : Int32)), (2, .int v1), (0, .ref 49), (1, .int p1)]) C dX1_findBestRow_13 rfl (by decide) rfl ?_
  refine G_iconst (v := 0) C dX1_findBestRow_14 (by decide) ?_
  refine G_istore (L' := [(4, .int (0 : Int32)), (3, .int (-1 : Int32)), (2, .int v1), (0, .ref 49), (1, .int p1)]) C dX1_findBestRow_15 (by decide) rfl ?_
  refine G_iconst (v := 0) C dX1_findBestRow_17 (by decide) ?_
  refine G_istore (L' := [(5, .int (0 : Int32)), (4, .int (0 : Int32)), (3, .int (-1 : Int32)), (2, .int v1), (0, .ref 49), (1, .int p1)]) C dX1_findBestRow_18 (by decide) rfl ?_
  refine G_locals [4, 5, 3, 2, 1, 0] rfl ?_
  exact go_X1_findBestRow_L20 C hd 400 v1 (-1 : Int32) (0 : Int32) (0 : Int32) u
theorem m_X1_findBestRow   (p1 : Int32) (u : zM) (d : Nat) (hd : 6 ≤ d) : zMet zQi SHX yX1_findBestRow cX1_findBestRow 7 ((some FieldType.int)) d [.ref 49, .int p1] u (f_X1_findBestRow p1 u) :=
  zMet_of (by decide +kernel) (fun as => Nat.le_of_ble_eq_true rfl) wwX1_findBestRow.2.2.2.1 (by omega) (fun p l e s m args below meth c as dA D C => go_X1_findBestRow C hd u)
/-! private void warm(int, int) -/
def f_X1_warm (p1 : Int32) (p2 : Int32) (u : zM) : Option (Unit × zM) :=
  zb (f_X6_become 51 2 u) fun _ u2 => zlet (sI u2 51 10 (-1 : Int32)) fun u3 => zck (inB p1 6) <| zck (inB p1 6) <| zlet (sI u3 54 p1.toNatClampNeg (if ((gI u3 54 p1.toNatClampNeg) + p2) < (99 : Int32) then ((gI u3 54 p1.toNatClampNeg) + p2) else (99 : Int32))) fun u5 => some ((), u5)
set_option maxRecDepth 20000 in
theorem go_X1_warm {p : Program} {l : Launch} {e : Env} {s : State} {m : MethodId} {args : Array Value} {below : List Frame} {meth : Method} {c : Code} {as : Nat → Nat} {dA : Nat → ClassId} {D : va_G} {d : Nat} {p1 : Int32} {p2 : Int32} (C : zCx p s m args meth c as dA D SHX d 3 yX1_warm.cls cX1_warm (none)) (hd : 2 ≤ d) : ∀ (u : zM), Go p l e s m args below meth c as dA D SHX d 3 zQv 0 [(0, .ref 49), (1, .int p1), (2, .int p2)] [] u (f_X1_warm p1 p2 u) := by
  intro u
  unfold f_X1_warm
  refine G_aload_n C 0 dX1_warm_0 rfl rfl ?_
  refine G_getR (j := 51) C 3 shX_49 rfl rfl (by decide) wf1_18 dX1_warm_1 ?_
  refine G_aload_n C 0 dX1_warm_4 rfl rfl ?_
  refine G_getR (j := 2) C 1 shX_49 rfl rfl (by decide) wf1_25 dX1_warm_5 ?_
  refine G_callVv C (m_X6_become zTn_51 zTn_2 u (d - 1) (by omega)) (d' := d - 1) (As := [.ref 2]) (by omega) rfl wm1_32 wwX6_become zTn_51.1 rfl (Nat.le_of_ble_eq_true rfl) dX1_warm_8 (fun y1 u2 => ?_)
  refine G_aload_n C 0 dX1_warm_11 rfl rfl ?_
  refine G_getR (j := 51) C 3 shX_49 rfl rfl (by decide) wf1_18 dX1_warm_12 ?_
  refine G_iconst (v := -1) C dX1_warm_15 (by decide) ?_
  refine G_putI (ty := .int) C 10 zTn_51.1 rfl rfl (by decide) wf1_40 rfl (by decide +kernel) rfl rfl dX1_warm_16 (fun u3 => ?_)
  refine G_aload_n C 0 dX1_warm_19 rfl rfl ?_
  refine G_getR (j := 51) C 3 shX_49 rfl rfl (by decide) wf1_18 dX1_warm_20 ?_
  refine G_getR (j := 54) C 3 zTn_51.1 rfl rfl (by decide) wf1_115 dX1_warm_23 ?_
  refine G_iload_n C 1 dX1_warm_26 rfl rfl ?_
  refine G_bipush (v := 99) C dX1_warm_27 (by decide) ?_
  refine G_aload_n C 0 dX1_warm_29 rfl rfl ?_
  refine G_getR (j := 51) C 3 shX_49 rfl rfl (by decide) wf1_18 dX1_warm_30 ?_
  refine G_getR (j := 54) C 3 zTn_51.1 rfl rfl (by decide) wf1_115 dX1_warm_33 ?_
  refine G_iload_n C 1 dX1_warm_36 rfl rfl ?_
  refine G_iald C zTn_51.2.2.2.1 dX1_warm_37 (fun hb4 => ?_)
  refine G_iload_n C 2 dX1_warm_38 rfl rfl ?_
  refine G_iadd C dX1_warm_39 ?_
  refine G_mmin C wm1_54 wMmin_s wMath wMmin_c (Nat.le_of_ble_eq_true rfl) dX1_warm_40 ?_
  refine G_iast C zTn_51.2.2.2.1 dX1_warm_43 (fun _ u5 => ?_)
  exact G_vret C dX1_warm_44
theorem m_X1_warm   (p1 : Int32) (p2 : Int32) (u : zM) (d : Nat) (hd : 2 ≤ d) : zMet zQv SHX yX1_warm cX1_warm 3 (none) d [.ref 49, .int p1, .int p2] u (f_X1_warm p1 p2 u) :=
  zMet_of (by decide +kernel) (fun as => Nat.le_of_ble_eq_true rfl) wwX1_warm.2.2.2.1 (by omega) (fun p l e s m args below meth c as dA D C => go_X1_warm C hd u)
/-! int hottestByTalk(int, int) -/
def f_X1_hottestByTalk (p1 : Int32) (p2 : Int32) (u : zM) : Option (Int32 × zM) :=
  zb (f_X1_warm p1 p2 u) fun _ u2 => zb (f_X6_goOn 51 (3 : Int32) u2) fun _ u4 => zb (f_X6_hottest 51 u4) fun y5 u6 => (if (0 : Int32) ≤ y5 then zck (inB y5 6) <| some ((gI u6 54 y5.toNatClampNeg), u6) else some ((-5 : Int32), u6))
set_option maxRecDepth 20000 in
theorem go_X1_hottestByTalk {p : Program} {l : Launch} {e : Env} {s : State} {m : MethodId} {args : Array Value} {below : List Frame} {meth : Method} {c : Code} {as : Nat → Nat} {dA : Nat → ClassId} {D : va_G} {d : Nat} {p1 : Int32} {p2 : Int32} (C : zCx p s m args meth c as dA D SHX d 4 yX1_hottestByTalk.cls cX1_hottestByTalk ((some FieldType.int))) (hd : 6 ≤ d) : ∀ (u : zM), Go p l e s m args below meth c as dA D SHX d 4 zQi 0 [(0, .ref 49), (1, .int p1), (2, .int p2)] [] u (f_X1_hottestByTalk p1 p2 u) := by
  intro u
  unfold f_X1_hottestByTalk
  refine G_aload_n C 0 dX1_hottestByTalk_0 rfl rfl ?_
  refine G_iload_n C 1 dX1_hottestByTalk_1 rfl rfl ?_
  refine G_iload_n C 2 dX1_hottestByTalk_2 rfl rfl ?_
  refine G_callVv C (m_X1_warm p1 p2 u (d - 1) (by omega)) (d' := d - 1) (As := [.int p1, .int p2]) (by omega) rfl wm1_109 wwX1_warm shX_49 rfl (Nat.le_of_ble_eq_true rfl) dX1_hottestByTalk_3 (fun y1 u2 => ?_)
  refine G_aload_n C 0 dX1_hottestByTalk_6 rfl rfl ?_
  refine G_getR (j := 51) C 3 shX_49 rfl rfl (by decide) wf1_18 dX1_hottestByTalk_7 ?_
  refine G_iconst (v := 3) C dX1_hottestByTalk_10 (by decide) ?_
  refine G_callVv C (m_X6_goOn zTn_51 (3 : Int32) u2 (d - 1) (by omega)) (d' := d - 1) (As := [.int (3 : Int32)]) (by omega) rfl wm1_36 wwX6_goOn zTn_51.1 rfl (Nat.le_of_ble_eq_true rfl) dX1_hottestByTalk_11 (fun y3 u4 => ?_)
  refine G_aload_n C 0 dX1_hottestByTalk_14 rfl rfl ?_
  refine G_getR (j := 51) C 3 shX_49 rfl rfl (by decide) wf1_18 dX1_hottestByTalk_15 ?_
  refine G_callVi C (m_X6_hottest zTn_51 u4 (d - 1) (by omega)) (d' := d - 1) (As := []) (by omega) rfl wm1_112 wwX6_hottest zTn_51.1 rfl (Nat.le_of_ble_eq_true rfl) dX1_hottestByTalk_18 (fun y5 u6 => ?_)
  refine G_istore_n (L' := [(3, .int y5), (0, .ref 49), (1, .int p1), (2, .int p2)]) C dX1_hottestByTalk_21 rfl (by decide) rfl ?_
  refine G_iload_n C 0 dX1_hottestByTalk_22 rfl rfl ?_
  refine G_if_ge (tgt := 31) C dX1_hottestByTalk_23 (by decide) (fun _ => ?_) (fun _ => ?_)
  · refine G_aload_n C 1 dX1_hottestByTalk_31 rfl rfl ?_
    refine G_getR (j := 51) C 3 shX_49 rfl rfl (by decide) wf1_18 dX1_hottestByTalk_32 ?_
    refine G_getR (j := 54) C 3 zTn_51.1 rfl rfl (by decide) wf1_115 dX1_hottestByTalk_35 ?_
    refine G_iload_n C 0 dX1_hottestByTalk_38 rfl rfl ?_
    refine G_iald C zTn_51.2.2.2.1 dX1_hottestByTalk_39 (fun hb7 => ?_)
    exact G_iret C dX1_hottestByTalk_40
  · refine G_bipush (v := -5) C dX1_hottestByTalk_26 (by decide) ?_
    refine G_goto (tgt := 40) C dX1_hottestByTalk_28 (by decide) ?_
    exact G_iret C dX1_hottestByTalk_40
theorem m_X1_hottestByTalk   (p1 : Int32) (p2 : Int32) (u : zM) (d : Nat) (hd : 6 ≤ d) : zMet zQi SHX yX1_hottestByTalk cX1_hottestByTalk 4 ((some FieldType.int)) d [.ref 49, .int p1, .int p2] u (f_X1_hottestByTalk p1 p2 u) :=
  zMet_of (by decide +kernel) (fun as => Nat.le_of_ble_eq_true rfl) wwX1_hottestByTalk.2.2.2.1 (by omega) (fun p l e s m args below meth c as dA D C => go_X1_hottestByTalk C hd u)
/-! int whomToTalkTo(int) -/
def f_X1_whomToTalkTo_L7_b (p1 : Int32) (rc : Int32 → Int32 → Int32 → zM → Option (Int32 × zM)) (x2 : Int32) (x3 : Int32) (x4 : Int32) (u : zM) : Option (Int32 × zM) :=
  (if (gI u 2 0) ≤ x4 then some (x2, u) else zck (inB x4 6) <| (if (gI u 6 x4.toNatClampNeg) = (0 : Int32) then zb (f_X1_hottestByTalk x4 p1 u) fun y2 u3 => (if y2 ≤ x3 then rc x2 x3 (x4 + (1 : Int32)) u3 else rc x4 y2 (x4 + (1 : Int32)) u3) else rc x2 x3 (x4 + (1 : Int32)) u))
def f_X1_whomToTalkTo_L7 (p1 : Int32) : Nat → Int32 → Int32 → Int32 → zM → Option (Int32 × zM)
  | 0 => fun _ _ _ _ => none
  | fn + 1 => f_X1_whomToTalkTo_L7_b p1 (f_X1_whomToTalkTo_L7 p1 fn)
def f_X1_whomToTalkTo (p1 : Int32) (u : zM) : Option (Int32 × zM) :=
  f_X1_whomToTalkTo_L7 p1 400 (-1 : Int32) (-1 : Int32) (0 : Int32) u
set_option maxRecDepth 20000 in
theorem go_X1_whomToTalkTo_L7 {p : Program} {l : Launch} {e : Env} {s : State} {m : MethodId} {args : Array Value} {below : List Frame} {meth : Method} {c : Code} {as : Nat → Nat} {dA : Nat → ClassId} {D : va_G} {d : Nat} {p1 : Int32} (C : zCx p s m args meth c as dA D SHX d 6 yX1_whomToTalkTo.cls cX1_whomToTalkTo ((some FieldType.int))) (hd : 7 ≤ d) : ∀ (fn : Nat) (x2 : Int32) (x3 : Int32) (x4 : Int32) (u : zM), Go p l e s m args below meth c as dA D SHX d 6 zQi 7 [(0, .ref 49), (1, .int p1), (2, .int x2), (3, .int x3), (4, .int x4)] [] u (f_X1_whomToTalkTo_L7 p1 fn x2 x3 x4 u) := by
  intro fn
  induction fn with
  | zero => intro x2 x3 x4 u; exact G_none
  | succ fn ih =>
    intro x2 x3 x4 u
    show Go p l e s m args below meth c as dA D SHX d 6 zQi 7 [(0, .ref 49), (1, .int p1), (2, .int x2), (3, .int x3), (4, .int x4)] [] u (f_X1_whomToTalkTo_L7_b p1 (f_X1_whomToTalkTo_L7 p1 fn) x2 x3 x4 u)
    unfold f_X1_whomToTalkTo_L7_b
    refine G_iload C 4 dX1_whomToTalkTo_7 rfl ?_
    refine G_aload_n C 0 dX1_whomToTalkTo_9 rfl rfl ?_
    refine G_getR (j := 2) C 1 shX_49 rfl rfl (by decide) wf1_25 dX1_whomToTalkTo_10 ?_
    refine G_getI C 0 zTn_2.1 rfl rfl (by decide) wf1_99 dX1_whomToTalkTo_13 ?_
    refine G_icmp_ge (tgt := 59) C dX1_whomToTalkTo_16 (by decide) (fun _ => ?_) (fun _ => ?_)
    · refine G_iload_n C 2 dX1_whomToTalkTo_59 rfl rfl ?_
      exact G_iret C dX1_whomToTalkTo_60
    · refine G_aload_n C 0 dX1_whomToTalkTo_19 rfl rfl ?_
      refine G_getR (j := 2) C 1 shX_49 rfl rfl (by decide) wf1_25 dX1_whomToTalkTo_20 ?_
      refine G_getR (j := 6) C 4 zTn_2.1 rfl rfl (by decide) wf1_102 dX1_whomToTalkTo_23 ?_
      refine G_iload C 4 dX1_whomToTalkTo_26 rfl ?_
      refine G_zald C zTn_2.2.2.2.2.1 dX1_whomToTalkTo_28 (fun hb1 => ?_)
      refine G_if_ne (tgt := 53) C dX1_whomToTalkTo_29 (by decide) (fun _ => ?_) (fun _ => ?_)
      · refine G_iinc (v := 1) (L' := [(4, .int (x4 + (1 : Int32))), (0, .ref 49), (1, .int p1), (2, .int x2), (3, .int x3)]) C 4 dX1_whomToTalkTo_53 rfl (by decide) (by decide) rfl ?_
        refine G_goto (tgt := 7) C dX1_whomToTalkTo_56 (by decide) ?_
        refine G_locals [1, 2, 3, 4, 0] rfl ?_
        exact ih x2 x3 (x4 + (1 : Int32)) u
      · refine G_aload_n C 0 dX1_whomToTalkTo_32 rfl rfl ?_
        refine G_iload C 4 dX1_whomToTalkTo_33 rfl ?_
        refine G_iload_n C 1 dX1_whomToTalkTo_35 rfl rfl ?_
        refine G_callVi C (m_X1_hottestByTalk x4 p1 u (d - 1) (by omega)) (d' := d - 1) (As := [.int x4, .int p1]) (by omega) rfl wm1_106 wwX1_hottestByTalk shX_49 rfl (Nat.le_of_ble_eq_true rfl) dX1_whomToTalkTo_36 (fun y2 u3 => ?_)
        refine G_istore (L' := [(5, .int y2), (0, .ref 49), (1, .int p1), (2, .int x2), (3, .int x3), (4, .int x4)]) C dX1_whomToTalkTo_39 (by decide) rfl ?_
        refine G_iload C 0 dX1_whomToTalkTo_41 rfl ?_
        refine G_iload_n C 4 dX1_whomToTalkTo_43 rfl rfl ?_
        refine G_icmp_le (tgt := 53) C dX1_whomToTalkTo_44 (by decide) (fun _ => ?_) (fun _ => ?_)
        · refine G_iinc (v := 1) (L' := [(4, .int (x4 + (1 : Int32))), (5, .int y2), (0, .ref 49), (1, .int p1), (2, .int x2), (3, .int x3)]) C 5 dX1_whomToTalkTo_53 rfl (by decide) (by decide) rfl ?_
          refine G_goto (tgt := 7) C dX1_whomToTalkTo_56 (by decide) ?_
          refine G_locals [2, 3, 4, 5, 0] rfl ?_
          exact ih x2 x3 (x4 + (1 : Int32)) u3
        · refine G_iload C 5 dX1_whomToTalkTo_47 rfl ?_
          refine G_istore_n (L' := [(2, .int x4), (5, .int y2), (0, .ref 49), (1, .int p1), (3, .int x3), (4, .int x4)]) C dX1_whomToTalkTo_49 rfl (by decide) rfl ?_
          refine G_iload C 1 dX1_whomToTalkTo_50 rfl ?_
          refine G_istore_n (L' := [(3, .int y2), (2, .int x4), (5, .int y2), (0, .ref 49), (1, .int p1), (4, .int x4)]) C dX1_whomToTalkTo_52 rfl (by decide) rfl ?_
          refine G_iinc (v := 1) (L' := [(4, .int (x4 + (1 : Int32))), (3, .int y2), (2, .int x4), (5, .int y2), (0, .ref 49), (1, .int p1)]) C 5 dX1_whomToTalkTo_53 rfl (by decide) (by decide) rfl ?_
          refine G_goto (tgt := 7) C dX1_whomToTalkTo_56 (by decide) ?_
          refine G_locals [4, 5, 2, 1, 0] rfl ?_
          exact ih x4 y2 (x4 + (1 : Int32)) u3
set_option maxRecDepth 20000 in
theorem go_X1_whomToTalkTo {p : Program} {l : Launch} {e : Env} {s : State} {m : MethodId} {args : Array Value} {below : List Frame} {meth : Method} {c : Code} {as : Nat → Nat} {dA : Nat → ClassId} {D : va_G} {d : Nat} {p1 : Int32} (C : zCx p s m args meth c as dA D SHX d 6 yX1_whomToTalkTo.cls cX1_whomToTalkTo ((some FieldType.int))) (hd : 7 ≤ d) : ∀ (u : zM), Go p l e s m args below meth c as dA D SHX d 6 zQi 0 [(0, .ref 49), (1, .int p1)] [] u (f_X1_whomToTalkTo p1 u) := by
  intro u
  unfold f_X1_whomToTalkTo
  refine G_iconst (v := -1) C dX1_whomToTalkTo_0 (by decide) ?_
  refine G_istore_n (L' := [(2, .int (-1 : Int32)), (0, .ref 49), (1, .int p1)]) C dX1_whomToTalkTo_1 rfl (by decide) rfl ?_
  refine G_iconst (v := -1) C dX1_whomToTalkTo_2 (by decide) ?_
  refine G_istore_n (L' := [(3, .int (-1 : Int32)), (2, .int (-1 : Int32)), (0, .ref 49), (1, .int p1)]) C dX1_whomToTalkTo_3 rfl (by decide) rfl ?_
  refine G_iconst (v := 0) C dX1_whomToTalkTo_4 (by decide) ?_
  refine G_istore (L' := [(4, .int (0 : Int32)), (3, .int (-1 : Int32)), (2, .int (-1 : Int32)), (0, .ref 49), (1, .int p1)]) C dX1_whomToTalkTo_5 (by decide) rfl ?_
  refine G_locals [3, 4, 2, 1, 0] rfl ?_
  exact go_X1_whomToTalkTo_L7 C hd 400 (-1 : Int32) (-1 : Int32) (0 : Int32) u
theorem m_X1_whomToTalkTo   (p1 : Int32) (u : zM) (d : Nat) (hd : 7 ≤ d) : zMet zQi SHX yX1_whomToTalkTo cX1_whomToTalkTo 6 ((some FieldType.int)) d [.ref 49, .int p1] u (f_X1_whomToTalkTo p1 u) :=
  zMet_of (by decide +kernel) (fun as => Nat.le_of_ble_eq_true rfl) wwX1_whomToTalkTo.2.2.2.1 (by omega) (fun p l e s m args below meth c as dA D C => go_X1_whomToTalkTo C hd u)
/-! private boolean isAllSeenSo() -/
def f_X1_isAllSeenSo_L44_b (k37 : Int32 → Int32 → zM → Option (Int32 × zM)) (rc : Int32 → Int32 → Int32 → zM → Option (Int32 × zM)) (x1 : Int32) (x2 : Int32) (x3 : Int32) (u : zM) : Option (Int32 × zM) :=
  (if (gI u 13 3) ≤ x3 then (if x1 ≤ x2 then k37 x1 (x2 + (1 : Int32)) u else zb (f_X6_goOneMinute 51 u) fun _ u2 => k37 x1 (x2 + (1 : Int32)) u2) else zck (inB x3 5) <| (if (gI u 15 x3.toNatClampNeg) = x2 then zck (inB x3 5) <| zb (f_X6_isHot 51 (gI u 14 x3.toNatClampNeg) u) fun y5 u6 => zb (f_X8_asNumber y5 u6) fun y7 u8 => zck (inB x3 5) <| (if y7 = (gI u8 16 x3.toNatClampNeg) then rc x1 x2 (x3 + (1 : Int32)) u8 else some ((0 : Int32), u8)) else rc x1 x2 (x3 + (1 : Int32)) u))
def f_X1_isAllSeenSo_L44 (k37 : Int32 → Int32 → zM → Option (Int32 × zM)) : Nat → Int32 → Int32 → Int32 → zM → Option (Int32 × zM)
  | 0 => fun _ _ _ _ => none
  | fn + 1 => f_X1_isAllSeenSo_L44_b k37 (f_X1_isAllSeenSo_L44 k37 fn)
def f_X1_isAllSeenSo_L37_b  (rc : Int32 → Int32 → zM → Option (Int32 × zM)) (x1 : Int32) (x2 : Int32) (u : zM) : Option (Int32 × zM) :=
  (if x1 < x2 then some ((1 : Int32), u) else f_X1_isAllSeenSo_L44 rc 400 x1 x2 (0 : Int32) u)
def f_X1_isAllSeenSo_L37  : Nat → Int32 → Int32 → zM → Option (Int32 × zM)
  | 0 => fun _ _ _ => none
  | fn + 1 => f_X1_isAllSeenSo_L37_b  (f_X1_isAllSeenSo_L37  fn)
def f_X1_isAllSeenSo_L4_b  (rc : Int32 → Int32 → zM → Option (Int32 × zM)) (x1 : Int32) (x2 : Int32) (u : zM) : Option (Int32 × zM) :=
  (if (gI u 13 3) ≤ x2 then f_X1_isAllSeenSo_L37 400 x1 (0 : Int32) u else zck (inB x2 5) <| zlx (if x1 < (gI u 15 x2.toNatClampNeg) then (gI u 15 x2.toNatClampNeg) else x1) fun v11 => rc v11 (x2 + (1 : Int32)) u)
def f_X1_isAllSeenSo_L4  : Nat → Int32 → Int32 → zM → Option (Int32 × zM)
  | 0 => fun _ _ _ => none
  | fn + 1 => f_X1_isAllSeenSo_L4_b  (f_X1_isAllSeenSo_L4  fn)
def f_X1_isAllSeenSo (u : zM) : Option (Int32 × zM) :=
  f_X1_isAllSeenSo_L4 400 (0 : Int32) (0 : Int32) u
set_option maxRecDepth 20000 in
theorem go_X1_isAllSeenSo_L44 {p : Program} {l : Launch} {e : Env} {s : State} {m : MethodId} {args : Array Value} {below : List Frame} {meth : Method} {c : Code} {as : Nat → Nat} {dA : Nat → ClassId} {D : va_G} {d : Nat}  (C : zCx p s m args meth c as dA D SHX d 4 yX1_isAllSeenSo.cls cX1_isAllSeenSo ((some FieldType.boolean))) (hd : 5 ≤ d) {k37 : Int32 → Int32 → zM → Option (Int32 × zM)} (hk37 : ∀ (x1 : Int32) (x2 : Int32) (u : zM), Go p l e s m args below meth c as dA D SHX d 4 zQi 37 [(0, .ref 49), (1, .int x1), (2, .int x2)] [] u (k37 x1 x2 u)) : ∀ (fn : Nat) (x1 : Int32) (x2 : Int32) (x3 : Int32) (u : zM), Go p l e s m args below meth c as dA D SHX d 4 zQi 44 [(0, .ref 49), (1, .int x1), (2, .int x2), (3, .int x3)] [] u (f_X1_isAllSeenSo_L44 k37 fn x1 x2 x3 u) := by
  intro fn
  induction fn with
  | zero => intro x1 x2 x3 u; exact G_none
  | succ fn ih =>
    intro x1 x2 x3 u
    show Go p l e s m args below meth c as dA D SHX d 4 zQi 44 [(0, .ref 49), (1, .int x1), (2, .int x2), (3, .int x3)] [] u (f_X1_isAllSeenSo_L44_b k37 (f_X1_isAllSeenSo_L44 k37 fn) x1 x2 x3 u)
    unfold f_X1_isAllSeenSo_L44_b
    refine G_iload_n C 3 dX1_isAllSeenSo_44 rfl rfl ?_
    refine G_aload_n C 0 dX1_isAllSeenSo_45 rfl rfl ?_
    refine G_getR (j := 13) C 2 shX_49 rfl rfl (by decide) wf1_28 dX1_isAllSeenSo_46 ?_
    refine G_getI C 3 zSn_13.1 rfl rfl (by decide) wf1_125 dX1_isAllSeenSo_49 ?_
    refine G_icmp_ge (tgt := 107) C dX1_isAllSeenSo_52 (by decide) (fun _ => ?_) (fun _ => ?_)
    · refine G_iload_n C 2 dX1_isAllSeenSo_107 rfl rfl ?_
      refine G_iload_n C 1 dX1_isAllSeenSo_108 rfl rfl ?_
      refine G_icmp_ge (tgt := 119) C dX1_isAllSeenSo_109 (by decide) (fun _ => ?_) (fun _ => ?_)
      · refine G_iinc (v := 1) (L' := [(2, .int (x2 + (1 : Int32))), (0, .ref 49), (1, .int x1), (3, .int x3)]) C 2 dX1_isAllSeenSo_119 rfl (by decide) (by decide) rfl ?_
        refine G_goto (tgt := 37) C dX1_isAllSeenSo_122 (by decide) ?_
        refine G_locals [1, 2, 0] rfl ?_
        exact hk37 x1 (x2 + (1 : Int32)) u
      · refine G_aload_n C 0 dX1_isAllSeenSo_112 rfl rfl ?_
        refine G_getR (j := 51) C 3 shX_49 rfl rfl (by decide) wf1_18 dX1_isAllSeenSo_113 ?_
        refine G_callVv C (m_X6_goOneMinute zTn_51 u (d - 1) (by omega)) (d' := d - 1) (As := []) (by omega) rfl wm1_48 wwX6_goOneMinute zTn_51.1 rfl (Nat.le_of_ble_eq_true rfl) dX1_isAllSeenSo_116 (fun y1 u2 => ?_)
        refine G_iinc (v := 1) (L' := [(2, .int (x2 + (1 : Int32))), (0, .ref 49), (1, .int x1), (3, .int x3)]) C 2 dX1_isAllSeenSo_119 rfl (by decide) (by decide) rfl ?_
        refine G_goto (tgt := 37) C dX1_isAllSeenSo_122 (by decide) ?_
        refine G_locals [1, 2, 0] rfl ?_
        exact hk37 x1 (x2 + (1 : Int32)) u2
    · refine G_aload_n C 0 dX1_isAllSeenSo_55 rfl rfl ?_
      refine G_getR (j := 13) C 2 shX_49 rfl rfl (by decide) wf1_28 dX1_isAllSeenSo_56 ?_
      refine G_getR (j := 15) C 1 zSn_13.1 rfl rfl (by decide) wf1_130 dX1_isAllSeenSo_59 ?_
      refine G_iload_n C 3 dX1_isAllSeenSo_62 rfl rfl ?_
      refine G_iald C zSn_13.2.2.1 dX1_isAllSeenSo_63 (fun hb3 => ?_)
      refine G_iload_n C 2 dX1_isAllSeenSo_64 rfl rfl ?_
      refine G_icmp_ne (tgt := 101) C dX1_isAllSeenSo_65 (by decide) (fun _ => ?_) (fun _ => ?_)
      · refine G_iinc (v := 1) (L' := [(3, .int (x3 + (1 : Int32))), (0, .ref 49), (1, .int x1), (2, .int x2)]) C 3 dX1_isAllSeenSo_101 rfl (by decide) (by decide) rfl ?_
        refine G_goto (tgt := 44) C dX1_isAllSeenSo_104 (by decide) ?_
        refine G_locals [1, 2, 3, 0] rfl ?_
        exact ih x1 x2 (x3 + (1 : Int32)) u
      · refine G_aload_n C 0 dX1_isAllSeenSo_68 rfl rfl ?_
        refine G_getR (j := 51) C 3 shX_49 rfl rfl (by decide) wf1_18 dX1_isAllSeenSo_69 ?_
        refine G_aload_n C 0 dX1_isAllSeenSo_72 rfl rfl ?_
        refine G_getR (j := 13) C 2 shX_49 rfl rfl (by decide) wf1_28 dX1_isAllSeenSo_73 ?_
        refine G_getR (j := 14) C 0 zSn_13.1 rfl rfl (by decide) wf1_136 dX1_isAllSeenSo_76 ?_
        refine G_iload_n C 3 dX1_isAllSeenSo_79 rfl rfl ?_
        refine G_iald C zSn_13.2.1 dX1_isAllSeenSo_80 (fun hb4 => ?_)
        refine G_callVi C (m_X6_isHot zTn_51 (gI u 14 x3.toNatClampNeg) u (d - 1) (by omega)) (d' := d - 1) (As := [.int (gI u 14 x3.toNatClampNeg)]) (by omega) rfl wm1_139 wwX6_isHot zTn_51.1 rfl (Nat.le_of_ble_eq_true rfl) dX1_isAllSeenSo_81 (fun y5 u6 => ?_)
        refine G_callNi C (m_X8_asNumber y5 u6 (d - 1) (by omega)) (d' := d - 1) (As := [.int y5]) (by omega) rfl wn1_95 wwX8_asNumber (Nat.le_of_ble_eq_true rfl) dX1_isAllSeenSo_84 (fun y7 u8 => ?_)
        refine G_aload_n C 0 dX1_isAllSeenSo_87 rfl rfl ?_
        refine G_getR (j := 13) C 2 shX_49 rfl rfl (by decide) wf1_28 dX1_isAllSeenSo_88 ?_
        refine G_getR (j := 16) C 2 zSn_13.1 rfl rfl (by decide) wf1_142 dX1_isAllSeenSo_91 ?_
        refine G_iload_n C 3 dX1_isAllSeenSo_94 rfl rfl ?_
        refine G_iald C zSn_13.2.2.2 dX1_isAllSeenSo_95 (fun hb9 => ?_)
        refine G_icmp_eq (tgt := 101) C dX1_isAllSeenSo_96 (by decide) (fun _ => ?_) (fun _ => ?_)
        · refine G_iinc (v := 1) (L' := [(3, .int (x3 + (1 : Int32))), (0, .ref 49), (1, .int x1), (2, .int x2)]) C 3 dX1_isAllSeenSo_101 rfl (by decide) (by decide) rfl ?_
          refine G_goto (tgt := 44) C dX1_isAllSeenSo_104 (by decide) ?_
          refine G_locals [1, 2, 3, 0] rfl ?_
          exact ih x1 x2 (x3 + (1 : Int32)) u8
        · refine G_iconst (v := 0) C dX1_isAllSeenSo_99 (by decide) ?_
          exact G_zret C rfl dX1_isAllSeenSo_100
set_option maxRecDepth 20000 in
theorem go_X1_isAllSeenSo_L37 {p : Program} {l : Launch} {e : Env} {s : State} {m : MethodId} {args : Array Value} {below : List Frame} {meth : Method} {c : Code} {as : Nat → Nat} {dA : Nat → ClassId} {D : va_G} {d : Nat}  (C : zCx p s m args meth c as dA D SHX d 4 yX1_isAllSeenSo.cls cX1_isAllSeenSo ((some FieldType.boolean))) (hd : 5 ≤ d) : ∀ (fn : Nat) (x1 : Int32) (x2 : Int32) (u : zM), Go p l e s m args below meth c as dA D SHX d 4 zQi 37 [(0, .ref 49), (1, .int x1), (2, .int x2)] [] u (f_X1_isAllSeenSo_L37 fn x1 x2 u) := by
  intro fn
  induction fn with
  | zero => intro x1 x2 u; exact G_none
  | succ fn ih =>
    intro x1 x2 u
    show Go p l e s m args below meth c as dA D SHX d 4 zQi 37 [(0, .ref 49), (1, .int x1), (2, .int x2)] [] u (f_X1_isAllSeenSo_L37_b  (f_X1_isAllSeenSo_L37  fn) x1 x2 u)
    unfold f_X1_isAllSeenSo_L37_b
    refine G_iload_n C 2 dX1_isAllSeenSo_37 rfl rfl ?_
    refine G_iload_n C 1 dX1_isAllSeenSo_38 rfl rfl ?_
    refine G_icmp_gt (tgt := 125) C dX1_isAllSeenSo_39 (by decide) (fun _ => ?_) (fun _ => ?_)
    · refine G_iconst (v := 1) C dX1_isAllSeenSo_125 (by decide) ?_
      exact G_zret C rfl dX1_isAllSeenSo_126
    · refine G_iconst (v := 0) C dX1_isAllSeenSo_42 (by decide) ?_
      refine G_istore_n (L' := [(3, .int (0 : Int32)), (0, .ref 49), (1, .int x1), (2, .int x2)]) C dX1_isAllSeenSo_43 rfl (by decide) rfl ?_
      refine G_locals [1, 2, 3, 0] rfl ?_
      exact go_X1_isAllSeenSo_L44 C hd ih 400 x1 x2 (0 : Int32) u
set_option maxRecDepth 20000 in
theorem go_X1_isAllSeenSo_L4 {p : Program} {l : Launch} {e : Env} {s : State} {m : MethodId} {args : Array Value} {below : List Frame} {meth : Method} {c : Code} {as : Nat → Nat} {dA : Nat → ClassId} {D : va_G} {d : Nat}  (C : zCx p s m args meth c as dA D SHX d 4 yX1_isAllSeenSo.cls cX1_isAllSeenSo ((some FieldType.boolean))) (hd : 5 ≤ d) : ∀ (fn : Nat) (x1 : Int32) (x2 : Int32) (u : zM), Go p l e s m args below meth c as dA D SHX d 4 zQi 4 [(0, .ref 49), (1, .int x1), (2, .int x2)] [] u (f_X1_isAllSeenSo_L4 fn x1 x2 u) := by
  intro fn
  induction fn with
  | zero => intro x1 x2 u; exact G_none
  | succ fn ih =>
    intro x1 x2 u
    show Go p l e s m args below meth c as dA D SHX d 4 zQi 4 [(0, .ref 49), (1, .int x1), (2, .int x2)] [] u (f_X1_isAllSeenSo_L4_b  (f_X1_isAllSeenSo_L4  fn) x1 x2 u)
    unfold f_X1_isAllSeenSo_L4_b
    refine G_iload_n C 2 dX1_isAllSeenSo_4 rfl rfl ?_
    refine G_aload_n C 0 dX1_isAllSeenSo_5 rfl rfl ?_
    refine G_getR (j := 13) C 2 shX_49 rfl rfl (by decide) wf1_28 dX1_isAllSeenSo_6 ?_
    refine G_getI C 3 zSn_13.1 rfl rfl (by decide) wf1_125 dX1_isAllSeenSo_9 ?_
    refine G_icmp_ge (tgt := 35) C dX1_isAllSeenSo_12 (by decide) (fun _ => ?_) (fun _ => ?_)
    · refine G_iconst (v := 0) C dX1_isAllSeenSo_35 (by decide) ?_
      refine G_istore_n (L' := [(2, .int (0 : Int32)), (0, .ref 49), (1, .int x1)]) C dX1_isAllSeenSo_36 rfl (by decide) rfl ?_
      refine G_locals [1, 2, 0] rfl ?_
      exact go_X1_isAllSeenSo_L37 C hd 400 x1 (0 : Int32) u
    · refine G_iload_n C 1 dX1_isAllSeenSo_15 rfl rfl ?_
      refine G_aload_n C 0 dX1_isAllSeenSo_16 rfl rfl ?_
      refine G_getR (j := 13) C 2 shX_49 rfl rfl (by decide) wf1_28 dX1_isAllSeenSo_17 ?_
      refine G_getR (j := 15) C 1 zSn_13.1 rfl rfl (by decide) wf1_130 dX1_isAllSeenSo_20 ?_
      refine G_iload_n C 2 dX1_isAllSeenSo_23 rfl rfl ?_
      refine G_iald C zSn_13.2.2.1 dX1_isAllSeenSo_24 (fun hb10 => ?_)
      refine G_mmax C wm1_133 wMmax_s wMath wMmax_c (Nat.le_of_ble_eq_true rfl) dX1_isAllSeenSo_25 ?_
      refine G_topi (fun v11 => ?_)
      refine G_istore_n (L' := [(1, .int v11), (0, .ref 49), (2, .int x2)]) C dX1_isAllSeenSo_28 rfl (by decide) rfl ?_
      refine G_iinc (v := 1) (L' := [(2, .int (x2 + (1 : Int32))), (1, .int v11), (0, .ref 49)]) C 2 dX1_isAllSeenSo_29 rfl (by decide) (by decide) rfl ?_
      refine G_goto (tgt := 4) C dX1_isAllSeenSo_32 (by decide) ?_
      refine G_locals [2, 1, 0] rfl ?_
      exact ih v11 (x2 + (1 : Int32)) u
set_option maxRecDepth 20000 in
theorem go_X1_isAllSeenSo {p : Program} {l : Launch} {e : Env} {s : State} {m : MethodId} {args : Array Value} {below : List Frame} {meth : Method} {c : Code} {as : Nat → Nat} {dA : Nat → ClassId} {D : va_G} {d : Nat}  (C : zCx p s m args meth c as dA D SHX d 4 yX1_isAllSeenSo.cls cX1_isAllSeenSo ((some FieldType.boolean))) (hd : 5 ≤ d) : ∀ (u : zM), Go p l e s m args below meth c as dA D SHX d 4 zQi 0 [(0, .ref 49)] [] u (f_X1_isAllSeenSo  u) := by
  intro u
  unfold f_X1_isAllSeenSo
  refine G_iconst (v := 0) C dX1_isAllSeenSo_0 (by decide) ?_
  refine G_istore_n (L' := [(1, .int (0 : Int32)), (0, .ref 49)]) C dX1_isAllSeenSo_1 rfl (by decide) rfl ?_
  refine G_iconst (v := 0) C dX1_isAllSeenSo_2 (by decide) ?_
  refine G_istore_n (L' := [(2, .int (0 : Int32)), (1, .int (0 : Int32)), (0, .ref 49)]) C dX1_isAllSeenSo_3 rfl (by decide) rfl ?_
  refine G_locals [2, 1, 0] rfl ?_
  exact go_X1_isAllSeenSo_L4 C hd 400 (0 : Int32) (0 : Int32) u
theorem m_X1_isAllSeenSo    (u : zM) (d : Nat) (hd : 5 ≤ d) : zMet zQi SHX yX1_isAllSeenSo cX1_isAllSeenSo 4 ((some FieldType.boolean)) d [.ref 49] u (f_X1_isAllSeenSo  u) :=
  zMet_of (by decide +kernel) (fun as => Nat.le_of_ble_eq_true rfl) wwX1_isAllSeenSo.2.2.2.1 (by omega) (fun p l e s m args below meth c as dA D C => go_X1_isAllSeenSo C hd u)
/-! int fitting(int, boolean, boolean) -/
def f_X1_fitting_L77 (p1 : Int32) (p2 : Int32) (p3 : Int32) (k24 : Int32 → Int32 → Int32 → zM → Option (Int32 × zM)) (x5 : Int32) (x6 : Int32) (x7 : Int32) (u : zM) : Option (Int32 × zM) :=
  zb (f_X1_isAllSeenSo u) fun y5 u6 => (if y5 = (0 : Int32) then k24 x5 x6 (x7 + (-1 : Int32)) u6 else k24 (x5 + (1 : Int32)) x7 (x7 + (-1 : Int32)) u6)
def f_X1_fitting_L24_b (p1 : Int32) (p2 : Int32) (p3 : Int32) (rc : Int32 → Int32 → Int32 → zM → Option (Int32 × zM)) (x5 : Int32) (x6 : Int32) (x7 : Int32) (u : zM) : Option (Int32 × zM) :=
  (if x7 < (0 : Int32) then (if p3 = (0 : Int32) then some (x6, u) else some (x5, u)) else zb (f_X6_become 51 2 u) fun _ u2 => zlet (sI u2 51 10 (-1 : Int32)) fun u3 => (if p2 = (0 : Int32) then zck (inB p1 6) <| zlet (sI u3 53 p1.toNatClampNeg x7) fun u4 => f_X1_fitting_L77 p1 p2 p3 rc x5 x6 x7 u4 else zck (inB p1 6) <| zlet (sI u3 54 p1.toNatClampNeg x7) fun u7 => f_X1_fitting_L77 p1 p2 p3 rc x5 x6 x7 u7))
def f_X1_fitting_L24 (p1 : Int32) (p2 : Int32) (p3 : Int32) : Nat → Int32 → Int32 → Int32 → zM → Option (Int32 × zM)
  | 0 => fun _ _ _ _ => none
  | fn + 1 => f_X1_fitting_L24_b p1 p2 p3 (f_X1_fitting_L24 p1 p2 p3 fn)
def f_X1_fitting (p1 : Int32) (p2 : Int32) (p3 : Int32) (u : zM) : Option (Int32 × zM) :=
  (if p2 = (0 : Int32) then f_X1_fitting_L24 p1 p2 p3 400 (0 : Int32) (-5 : Int32) (9 : Int32) u else f_X1_fitting_L24 p1 p2 p3 400 (0 : Int32) (-5 : Int32) (99 : Int32) u)
set_option maxRecDepth 20000 in
theorem go_X1_fitting_L77 {p : Program} {l : Launch} {e : Env} {s : State} {m : MethodId} {args : Array Value} {below : List Frame} {meth : Method} {c : Code} {as : Nat → Nat} {dA : Nat → ClassId} {D : va_G} {d : Nat} {p1 : Int32} {p2 : Int32} {p3 : Int32} (C : zCx p s m args meth c as dA D SHX d 8 yX1_fitting.cls cX1_fitting ((some FieldType.int))) (hd : 6 ≤ d) {k24 : Int32 → Int32 → Int32 → zM → Option (Int32 × zM)} (hk24 : ∀ (x5 : Int32) (x6 : Int32) (x7 : Int32) (u : zM), Go p l e s m args below meth c as dA D SHX d 8 zQi 24 [(0, .ref 49), (1, .int p1), (2, .int p2), (3, .int p3), (5, .int x5), (6, .int x6), (7, .int x7)] [] u (k24 x5 x6 x7 u)) : ∀ (x5 : Int32) (x6 : Int32) (x7 : Int32) (u : zM), Go p l e s m args below meth c as dA D SHX d 8 zQi 77 [(0, .ref 49), (1, .int p1), (2, .int p2), (3, .int p3), (5, .int x5), (6, .int x6), (7, .int x7)] [] u (f_X1_fitting_L77 p1 p2 p3 k24 x5 x6 x7 u) := by
  intro x5 x6 x7 u
  unfold f_X1_fitting_L77
  refine G_aload_n C 0 dX1_fitting_77 rfl rfl ?_
  refine G_callVi C (m_X1_isAllSeenSo u (d - 1) (by omega)) (d' := d - 1) (As := []) (by omega) rfl wm1_121 wwX1_isAllSeenSo shX_49 rfl (Nat.le_of_ble_eq_true rfl) dX1_fitting_78 (fun y5 u6 => ?_)
  refine G_if_eq (tgt := 91) C dX1_fitting_81 (by decide) (fun _ => ?_) (fun _ => ?_)
  · refine G_iinc (v := -1) (L' := [(7, .int (x7 + (-1 : Int32))), (0, .ref 49), (1, .int p1), (2, .int p2), (3, .int p3), (5, .int x5), (6, .int x6)]) C 6 dX1_fitting_91 rfl (by decide) (by decide) rfl ?_
    refine G_goto (tgt := 24) C dX1_fitting_94 (by decide) ?_
    refine G_locals [1, 2, 3, 4, 5, 6, 0] rfl ?_
    exact hk24 x5 x6 (x7 + (-1 : Int32)) u6
  · refine G_iinc (v := 1) (L' := [(5, .int (x5 + (1 : Int32))), (0, .ref 49), (1, .int p1), (2, .int p2), (3, .int p3), (6, .int x6), (7, .int x7)]) C 4 dX1_fitting_84 rfl (by decide) (by decide) rfl ?_
    refine G_iload C 6 dX1_fitting_87 rfl ?_
    refine G_istore (L' := [(6, .int x7), (5, .int (x5 + (1 : Int32))), (0, .ref 49), (1, .int p1), (2, .int p2), (3, .int p3), (7, .int x7)]) C dX1_fitting_89 (by decide) rfl ?_
    refine G_iinc (v := -1) (L' := [(7, .int (x7 + (-1 : Int32))), (6, .int x7), (5, .int (x5 + (1 : Int32))), (0, .ref 49), (1, .int p1), (2, .int p2), (3, .int p3)]) C 6 dX1_fitting_91 rfl (by decide) (by decide) rfl ?_
    refine G_goto (tgt := 24) C dX1_fitting_94 (by decide) ?_
    refine G_locals [3, 4, 5, 6, 2, 1, 0] rfl ?_
    exact hk24 (x5 + (1 : Int32)) x7 (x7 + (-1 : Int32)) u6
set_option maxRecDepth 20000 in
theorem go_X1_fitting_L24 {p : Program} {l : Launch} {e : Env} {s : State} {m : MethodId} {args : Array Value} {below : List Frame} {meth : Method} {c : Code} {as : Nat → Nat} {dA : Nat → ClassId} {D : va_G} {d : Nat} {p1 : Int32} {p2 : Int32} {p3 : Int32} (C : zCx p s m args meth c as dA D SHX d 8 yX1_fitting.cls cX1_fitting ((some FieldType.int))) (hd : 6 ≤ d) : ∀ (fn : Nat) (x5 : Int32) (x6 : Int32) (x7 : Int32) (u : zM), Go p l e s m args below meth c as dA D SHX d 8 zQi 24 [(0, .ref 49), (1, .int p1), (2, .int p2), (3, .int p3), (5, .int x5), (6, .int x6), (7, .int x7)] [] u (f_X1_fitting_L24 p1 p2 p3 fn x5 x6 x7 u) := by
  intro fn
  induction fn with
  | zero => intro x5 x6 x7 u; exact G_none
  | succ fn ih =>
    intro x5 x6 x7 u
    show Go p l e s m args below meth c as dA D SHX d 8 zQi 24 [(0, .ref 49), (1, .int p1), (2, .int p2), (3, .int p3), (5, .int x5), (6, .int x6), (7, .int x7)] [] u (f_X1_fitting_L24_b p1 p2 p3 (f_X1_fitting_L24 p1 p2 p3 fn) x5 x6 x7 u)
    unfold f_X1_fitting_L24_b
    refine G_iload C 6 dX1_fitting_24 rfl ?_
    refine G_if_lt (tgt := 97) C dX1_fitting_26 (by decide) (fun _ => ?_) (fun _ => ?_)
    · refine G_iload_n C 3 dX1_fitting_97 rfl rfl ?_
      refine G_if_eq (tgt := 106) C dX1_fitting_98 (by decide) (fun _ => ?_) (fun _ => ?_)
      · refine G_iload C 5 dX1_fitting_106 rfl ?_
        exact G_iret C dX1_fitting_108
      · refine G_iload C 4 dX1_fitting_101 rfl ?_
        refine G_goto (tgt := 108) C dX1_fitting_103 (by decide) ?_
        exact G_iret C dX1_fitting_108
    · refine G_aload_n C 0 dX1_fitting_29 rfl rfl ?_
      refine G_getR (j := 51) C 3 shX_49 rfl rfl (by decide) wf1_18 dX1_fitting_30 ?_
      refine G_aload_n C 0 dX1_fitting_33 rfl rfl ?_
      refine G_getR (j := 2) C 1 shX_49 rfl rfl (by decide) wf1_25 dX1_fitting_34 ?_
      refine G_callVv C (m_X6_become zTn_51 zTn_2 u (d - 1) (by omega)) (d' := d - 1) (As := [.ref 2]) (by omega) rfl wm1_32 wwX6_become zTn_51.1 rfl (Nat.le_of_ble_eq_true rfl) dX1_fitting_37 (fun y1 u2 => ?_)
      refine G_aload_n C 0 dX1_fitting_40 rfl rfl ?_
      refine G_getR (j := 51) C 3 shX_49 rfl rfl (by decide) wf1_18 dX1_fitting_41 ?_
      refine G_iconst (v := -1) C dX1_fitting_44 (by decide) ?_
      refine G_putI (ty := .int) C 10 zTn_51.1 rfl rfl (by decide) wf1_40 rfl (by decide +kernel) rfl rfl dX1_fitting_45 (fun u3 => ?_)
      refine G_iload_n C 2 dX1_fitting_48 rfl rfl ?_
      refine G_if_eq (tgt := 66) C dX1_fitting_49 (by decide) (fun _ => ?_) (fun _ => ?_)
      · refine G_aload_n C 0 dX1_fitting_66 rfl rfl ?_
        refine G_getR (j := 51) C 3 shX_49 rfl rfl (by decide) wf1_18 dX1_fitting_67 ?_
        refine G_getR (j := 53) C 2 zTn_51.1 rfl rfl (by decide) wf1_118 dX1_fitting_70 ?_
        refine G_iload_n C 1 dX1_fitting_73 rfl rfl ?_
        refine G_iload C 6 dX1_fitting_74 rfl ?_
        refine G_iast C zTn_51.2.2.1 dX1_fitting_76 (fun _ u4 => ?_)
        refine G_locals [0, 1, 2, 3, 4, 5, 6] rfl ?_
        exact go_X1_fitting_L77 C hd ih x5 x6 x7 u4
      · refine G_aload_n C 0 dX1_fitting_52 rfl rfl ?_
        refine G_getR (j := 51) C 3 shX_49 rfl rfl (by decide) wf1_18 dX1_fitting_53 ?_
        refine G_getR (j := 54) C 3 zTn_51.1 rfl rfl (by decide) wf1_115 dX1_fitting_56 ?_
        refine G_iload_n C 1 dX1_fitting_59 rfl rfl ?_
        refine G_iload C 6 dX1_fitting_60 rfl ?_
        refine G_iast C zTn_51.2.2.2.1 dX1_fitting_62 (fun _ u7 => ?_)
        refine G_goto (tgt := 77) C dX1_fitting_63 (by decide) ?_
        refine G_locals [0, 1, 2, 3, 4, 5, 6] rfl ?_
        exact go_X1_fitting_L77 C hd ih x5 x6 x7 u7
set_option maxRecDepth 20000 in
theorem go_X1_fitting {p : Program} {l : Launch} {e : Env} {s : State} {m : MethodId} {args : Array Value} {below : List Frame} {meth : Method} {c : Code} {as : Nat → Nat} {dA : Nat → ClassId} {D : va_G} {d : Nat} {p1 : Int32} {p2 : Int32} {p3 : Int32} (C : zCx p s m args meth c as dA D SHX d 8 yX1_fitting.cls cX1_fitting ((some FieldType.int))) (hd : 6 ≤ d) : ∀ (u : zM), Go p l e s m args below meth c as dA D SHX d 8 zQi 0 [(0, .ref 49), (1, .int p1), (2, .int p2), (3, .int p3)] [] u (f_X1_fitting p1 p2 p3 u) := by
  intro u
  unfold f_X1_fitting
  refine G_iload_n C 2 dX1_fitting_0 rfl rfl ?_
  refine G_if_eq (tgt := 9) C dX1_fitting_1 (by decide) (fun _ => ?_) (fun _ => ?_)
  · refine G_bipush (v := 9) C dX1_fitting_9 (by decide) ?_
    refine G_istore (L' := [(4, .int (9 : Int32)), (0, .ref 49), (1, .int p1), (2, .int p2), (3, .int p3)]) C dX1_fitting_11 (by decide) rfl ?_
    refine G_iconst (v := 0) C dX1_fitting_13 (by decide) ?_
    refine G_istore (L' := [(5, .int (0 : Int32)), (4, .int (9 : Int32)), (0, .ref 49), (1, .int p1), (2, .int p2), (3, .int p3)]) C dX1_fitting_14 (by decide) rfl ?_
    refine G_bipush (v := -5) C dX1_fitting_16 (by decide) ?_
    refine G_istore (L' := [(6, .int (-5 : Int32)), (5, .int (0 : Int32)), (4, .int (9 : Int32)), (0, .ref 49), (1, .int p1), (2, .int p2), (3, .int p3)]) C dX1_fitting_18 (by decide) rfl ?_
    refine G_iload C 2 dX1_fitting_20 rfl ?_
    refine G_istore (L' := [(7, .int (9 : Int32)), (6, .int (-5 : Int32)), (5, .int (0 : Int32)), (4, .int (9 : Int32)), (0, .ref 49), (1, .int p1), (2, .int p2), (3, .int p3)]) C dX1_fitting_22 (by decide) rfl ?_
    refine G_locals [4, 5, 6, 7, 2, 1, 0] rfl ?_
    exact go_X1_fitting_L24 C hd 400 (0 : Int32) (-5 : Int32) (9 : Int32) u
  · refine G_bipush (v := 99) C dX1_fitting_4 (by decide) ?_
    refine G_goto (tgt := 11) C dX1_fitting_6 (by decide) ?_
    refine G_istore (L' := [(4, .int (99 : Int32)), (0, .ref 49), (1, .int p1), (2, .int p2), (3, .int p3)]) C dX1_fitting_11 (by decide) rfl ?_
    refine G_iconst (v := 0) C dX1_fitting_13 (by decide) ?_
    refine G_istore (L' := [(5, .int (0 : Int32)), (4, .int (99 : Int32)), (0, .ref 49), (1, .int p1), (2, .int p2), (3, .int p3)]) C dX1_fitting_14 (by decide) rfl ?_
    refine G_bipush (v := -5) C dX1_fitting_16 (by decide) ?_
    refine G_istore (L' := [(6, .int (-5 : Int32)), (5, .int (0 : Int32)), (4, .int (99 : Int32)), (0, .ref 49), (1, .int p1), (2, .int p2), (3, .int p3)]) C dX1_fitting_18 (by decide) rfl ?_
    refine G_iload C 2 dX1_fitting_20 rfl ?_
    refine G_istore (L' := [(7, .int (99 : Int32)), (6, .int (-5 : Int32)), (5, .int (0 : Int32)), (4, .int (99 : Int32)), (0, .ref 49), (1, .int p1), (2, .int p2), (3, .int p3)]) C dX1_fitting_22 (by decide) rfl ?_
    refine G_locals [4, 5, 6, 7, 2, 1, 0] rfl ?_
    exact go_X1_fitting_L24 C hd 400 (0 : Int32) (-5 : Int32) (99 : Int32) u
theorem m_X1_fitting   (p1 : Int32) (p2 : Int32) (p3 : Int32) (u : zM) (d : Nat) (hd : 6 ≤ d) : zMet zQi SHX yX1_fitting cX1_fitting 8 ((some FieldType.int)) d [.ref 49, .int p1, .int p2, .int p3] u (f_X1_fitting p1 p2 p3 u) :=
  zMet_of (by decide +kernel) (fun as => Nat.le_of_ble_eq_true rfl) wwX1_fitting.2.2.2.1 (by omega) (fun p l e s m args below meth c as dA D C => go_X1_fitting C hd u)
/-! int countHot(int, int) -/
def f_X1_countHot_L5_b (p1 : Int32) (p2 : Int32) (rc : Int32 → Int32 → zM → Option (Int32 × zM)) (x3 : Int32) (x4 : Int32) (u : zM) : Option (Int32 × zM) :=
  (if (gI u 2 0) ≤ x4 then some (x3, u) else zck (inB x4 6) <| (if (gI u 6 x4.toNatClampNeg) = (0 : Int32) then zb (f_X1_warm x4 (20 : Int32) u) fun _ u3 => zb (f_X6_goOn 51 p2 u3) fun _ u5 => zb (f_X6_isHot 51 p1 u5) fun y6 u7 => zb (f_X8_asNumber y6 u7) fun y8 u9 => zlx (x3 + y8) fun v10 => rc v10 (x4 + (1 : Int32)) u9 else rc x3 (x4 + (1 : Int32)) u))
def f_X1_countHot_L5 (p1 : Int32) (p2 : Int32) : Nat → Int32 → Int32 → zM → Option (Int32 × zM)
  | 0 => fun _ _ _ => none
  | fn + 1 => f_X1_countHot_L5_b p1 p2 (f_X1_countHot_L5 p1 p2 fn)
def f_X1_countHot (p1 : Int32) (p2 : Int32) (u : zM) : Option (Int32 × zM) :=
  f_X1_countHot_L5 p1 p2 400 (0 : Int32) (0 : Int32) u
set_option maxRecDepth 20000 in
theorem go_X1_countHot_L5 {p : Program} {l : Launch} {e : Env} {s : State} {m : MethodId} {args : Array Value} {below : List Frame} {meth : Method} {c : Code} {as : Nat → Nat} {dA : Nat → ClassId} {D : va_G} {d : Nat} {p1 : Int32} {p2 : Int32} (C : zCx p s m args meth c as dA D SHX d 5 yX1_countHot.cls cX1_countHot ((some FieldType.int))) (hd : 6 ≤ d) : ∀ (fn : Nat) (x3 : Int32) (x4 : Int32) (u : zM), Go p l e s m args below meth c as dA D SHX d 5 zQi 5 [(0, .ref 49), (1, .int p1), (2, .int p2), (3, .int x3), (4, .int x4)] [] u (f_X1_countHot_L5 p1 p2 fn x3 x4 u) := by
  intro fn
  induction fn with
  | zero => intro x3 x4 u; exact G_none
  | succ fn ih =>
    intro x3 x4 u
    show Go p l e s m args below meth c as dA D SHX d 5 zQi 5 [(0, .ref 49), (1, .int p1), (2, .int p2), (3, .int x3), (4, .int x4)] [] u (f_X1_countHot_L5_b p1 p2 (f_X1_countHot_L5 p1 p2 fn) x3 x4 u)
    unfold f_X1_countHot_L5_b
    refine G_iload C 4 dX1_countHot_5 rfl ?_
    refine G_aload_n C 0 dX1_countHot_7 rfl rfl ?_
    refine G_getR (j := 2) C 1 shX_49 rfl rfl (by decide) wf1_25 dX1_countHot_8 ?_
    refine G_getI C 0 zTn_2.1 rfl rfl (by decide) wf1_99 dX1_countHot_11 ?_
    refine G_icmp_ge (tgt := 66) C dX1_countHot_14 (by decide) (fun _ => ?_) (fun _ => ?_)
    · refine G_iload_n C 3 dX1_countHot_66 rfl rfl ?_
      exact G_iret C dX1_countHot_67
    · refine G_aload_n C 0 dX1_countHot_17 rfl rfl ?_
      refine G_getR (j := 2) C 1 shX_49 rfl rfl (by decide) wf1_25 dX1_countHot_18 ?_
      refine G_getR (j := 6) C 4 zTn_2.1 rfl rfl (by decide) wf1_102 dX1_countHot_21 ?_
      refine G_iload C 4 dX1_countHot_24 rfl ?_
      refine G_zald C zTn_2.2.2.2.2.1 dX1_countHot_26 (fun hb1 => ?_)
      refine G_if_ne (tgt := 60) C dX1_countHot_27 (by decide) (fun _ => ?_) (fun _ => ?_)
      · refine G_iinc (v := 1) (L' := [(4, .int (x4 + (1 : Int32))), (0, .ref 49), (1, .int p1), (2, .int p2), (3, .int x3)]) C 4 dX1_countHot_60 rfl (by decide) (by decide) rfl ?_
        refine G_goto (tgt := 5) C dX1_countHot_63 (by decide) ?_
        refine G_locals [1, 2, 3, 4, 0] rfl ?_
        exact ih x3 (x4 + (1 : Int32)) u
      · refine G_aload_n C 0 dX1_countHot_30 rfl rfl ?_
        refine G_iload C 4 dX1_countHot_31 rfl ?_
        refine G_bipush (v := 20) C dX1_countHot_33 (by decide) ?_
        refine G_callVv C (m_X1_warm x4 (20 : Int32) u (d - 1) (by omega)) (d' := d - 1) (As := [.int x4, .int (20 : Int32)]) (by omega) rfl wm1_109 wwX1_warm shX_49 rfl (Nat.le_of_ble_eq_true rfl) dX1_countHot_35 (fun y2 u3 => ?_)
        refine G_aload_n C 0 dX1_countHot_38 rfl rfl ?_
        refine G_getR (j := 51) C 3 shX_49 rfl rfl (by decide) wf1_18 dX1_countHot_39 ?_
        refine G_iload_n C 2 dX1_countHot_42 rfl rfl ?_
        refine G_callVv C (m_X6_goOn zTn_51 p2 u3 (d - 1) (by omega)) (d' := d - 1) (As := [.int p2]) (by omega) rfl wm1_36 wwX6_goOn zTn_51.1 rfl (Nat.le_of_ble_eq_true rfl) dX1_countHot_43 (fun y4 u5 => ?_)
        refine G_iload_n C 3 dX1_countHot_46 rfl rfl ?_
        refine G_aload_n C 0 dX1_countHot_47 rfl rfl ?_
        refine G_getR (j := 51) C 3 shX_49 rfl rfl (by decide) wf1_18 dX1_countHot_48 ?_
        refine G_iload_n C 1 dX1_countHot_51 rfl rfl ?_
        refine G_callVi C (m_X6_isHot zTn_51 p1 u5 (d - 1) (by omega)) (d' := d - 1) (As := [.int p1]) (by omega) rfl wm1_139 wwX6_isHot zTn_51.1 rfl (Nat.le_of_ble_eq_true rfl) dX1_countHot_52 (fun y6 u7 => ?_)
        refine G_callNi C (m_X8_asNumber y6 u7 (d - 1) (by omega)) (d' := d - 1) (As := [.int y6]) (by omega) rfl wn1_95 wwX8_asNumber (Nat.le_of_ble_eq_true rfl) dX1_countHot_55 (fun y8 u9 => ?_)
        refine G_iadd C dX1_countHot_58 ?_
        refine G_topi (fun v10 => ?_)
        refine G_istore_n (L' := [(3, .int v10), (0, .ref 49), (1, .int p1), (2, .int p2), (4, .int x4)]) C dX1_countHot_59 rfl (by decide) rfl ?_
        refine G_iinc (v := 1) (L' := [(4, .int (x4 + (1 : Int32))), (3, .int v10), (0, .ref 49), (1, .int p1), (2, .int p2)]) C 4 dX1_countHot_60 rfl (by decide) (by decide) rfl ?_
        refine G_goto (tgt := 5) C dX1_countHot_63 (by decide) ?_
        refine G_locals [2, 3, 4, 1, 0] rfl ?_
        exact ih v10 (x4 + (1 : Int32)) u9
set_option maxRecDepth 20000 in
theorem go_X1_countHot {p : Program} {l : Launch} {e : Env} {s : State} {m : MethodId} {args : Array Value} {below : List Frame} {meth : Method} {c : Code} {as : Nat → Nat} {dA : Nat → ClassId} {D : va_G} {d : Nat} {p1 : Int32} {p2 : Int32} (C : zCx p s m args meth c as dA D SHX d 5 yX1_countHot.cls cX1_countHot ((some FieldType.int))) (hd : 6 ≤ d) : ∀ (u : zM), Go p l e s m args below meth c as dA D SHX d 5 zQi 0 [(0, .ref 49), (1, .int p1), (2, .int p2)] [] u (f_X1_countHot p1 p2 u) := by
  intro u
  unfold f_X1_countHot
  refine G_iconst (v := 0) C dX1_countHot_0 (by decide) ?_
  refine G_istore_n (L' := [(3, .int (0 : Int32)), (0, .ref 49), (1, .int p1), (2, .int p2)]) C dX1_countHot_1 rfl (by decide) rfl ?_
  refine G_iconst (v := 0) C dX1_countHot_2 (by decide) ?_
  refine G_istore (L' := [(4, .int (0 : Int32)), (3, .int (0 : Int32)), (0, .ref 49), (1, .int p1), (2, .int p2)]) C dX1_countHot_3 (by decide) rfl ?_
  refine G_locals [2, 3, 4, 1, 0] rfl ?_
  exact go_X1_countHot_L5 C hd 400 (0 : Int32) (0 : Int32) u
theorem m_X1_countHot   (p1 : Int32) (p2 : Int32) (u : zM) (d : Nat) (hd : 6 ≤ d) : zMet zQi SHX yX1_countHot cX1_countHot 5 ((some FieldType.int)) d [.ref 49, .int p1, .int p2] u (f_X1_countHot p1 p2 u) :=
  zMet_of (by decide +kernel) (fun as => Nat.le_of_ble_eq_true rfl) wwX1_countHot.2.2.2.1 (by omega) (fun p l e s m args below meth c as dA D C => go_X1_countHot C hd u)
/-! private void goPlanned(int, int) -/
def f_X1_goPlanned (p1 : Int32) (p2 : Int32) (u : zM) : Option (Unit × zM) :=
  (if p1 = (0 : Int32) then zb (f_X6_goOneMinute 51 u) fun _ u7 => some ((), u7) else (if p1 = (3 : Int32) then zlet (sI u 51 10 p2) fun u5 => some ((), u5) else zb (f_X6_hasOne 51 p2 u) fun y1 u2 => (if y1 = (0 : Int32) then some ((), u2) else (if p1 = (1 : Int32) then zck (inB p2 6) <| zlet (sI u2 55 p2.toNatClampNeg (vp_nar .boolean (1 : Int32))) fun u4 => some ((), u4) else zck (inB p2 6) <| zlet (sI u2 55 p2.toNatClampNeg (vp_nar .boolean (0 : Int32))) fun u3 => some ((), u3)))))
set_option maxRecDepth 20000 in
theorem go_X1_goPlanned {p : Program} {l : Launch} {e : Env} {s : State} {m : MethodId} {args : Array Value} {below : List Frame} {meth : Method} {c : Code} {as : Nat → Nat} {dA : Nat → ClassId} {D : va_G} {d : Nat} {p1 : Int32} {p2 : Int32} (C : zCx p s m args meth c as dA D SHX d 3 yX1_goPlanned.cls cX1_goPlanned (none)) (hd : 5 ≤ d) : ∀ (u : zM), Go p l e s m args below meth c as dA D SHX d 3 zQv 0 [(0, .ref 49), (1, .int p1), (2, .int p2)] [] u (f_X1_goPlanned p1 p2 u) := by
  intro u
  unfold f_X1_goPlanned
  refine G_iload_n C 1 dX1_goPlanned_0 rfl rfl ?_
  refine G_if_ne (tgt := 14) C dX1_goPlanned_1 (by decide) (fun _ => ?_) (fun _ => ?_)
  · refine G_iload_n C 1 dX1_goPlanned_14 rfl rfl ?_
    refine G_iconst (v := 3) C dX1_goPlanned_15 (by decide) ?_
    refine G_icmp_ne (tgt := 30) C dX1_goPlanned_16 (by decide) (fun _ => ?_) (fun _ => ?_)
    · refine G_aload_n C 0 dX1_goPlanned_30 rfl rfl ?_
      refine G_getR (j := 51) C 3 shX_49 rfl rfl (by decide) wf1_18 dX1_goPlanned_31 ?_
      refine G_iload_n C 2 dX1_goPlanned_34 rfl rfl ?_
      refine G_callVi C (m_X6_hasOne zTn_51 p2 u (d - 1) (by omega)) (d' := d - 1) (As := [.int p2]) (by omega) rfl wm1_148 wwX6_hasOne zTn_51.1 rfl (Nat.le_of_ble_eq_true rfl) dX1_goPlanned_35 (fun y1 u2 => ?_)
      refine G_if_eq (tgt := 60) C dX1_goPlanned_38 (by decide) (fun _ => ?_) (fun _ => ?_)
      · exact G_vret C dX1_goPlanned_60
      · refine G_aload_n C 0 dX1_goPlanned_41 rfl rfl ?_
        refine G_getR (j := 51) C 3 shX_49 rfl rfl (by decide) wf1_18 dX1_goPlanned_42 ?_
        refine G_getR (j := 55) C 4 zTn_51.1 rfl rfl (by decide) wf1_102 dX1_goPlanned_45 ?_
        refine G_iload_n C 2 dX1_goPlanned_48 rfl rfl ?_
        refine G_iload_n C 1 dX1_goPlanned_49 rfl rfl ?_
        refine G_iconst (v := 1) C dX1_goPlanned_50 (by decide) ?_
        refine G_icmp_ne (tgt := 58) C dX1_goPlanned_51 (by decide) (fun _ => ?_) (fun _ => ?_)
        · refine G_iconst (v := 0) C dX1_goPlanned_58 (by decide) ?_
          refine G_zast C zTn_51.2.2.2.2.1 dX1_goPlanned_59 (fun _ u3 => ?_)
          exact G_vret C dX1_goPlanned_60
        · refine G_iconst (v := 1) C dX1_goPlanned_54 (by decide) ?_
          refine G_goto (tgt := 59) C dX1_goPlanned_55 (by decide) ?_
          refine G_zast C zTn_51.2.2.2.2.1 dX1_goPlanned_59 (fun _ u4 => ?_)
          exact G_vret C dX1_goPlanned_60
    · refine G_aload_n C 0 dX1_goPlanned_19 rfl rfl ?_
      refine G_getR (j := 51) C 3 shX_49 rfl rfl (by decide) wf1_18 dX1_goPlanned_20 ?_
      refine G_iload_n C 2 dX1_goPlanned_23 rfl rfl ?_
      refine G_putI (ty := .int) C 10 zTn_51.1 rfl rfl (by decide) wf1_40 rfl (by decide +kernel) rfl rfl dX1_goPlanned_24 (fun u5 => ?_)
      refine G_goto (tgt := 60) C dX1_goPlanned_27 (by decide) ?_
      exact G_vret C dX1_goPlanned_60
  · refine G_aload_n C 0 dX1_goPlanned_4 rfl rfl ?_
    refine G_getR (j := 51) C 3 shX_49 rfl rfl (by decide) wf1_18 dX1_goPlanned_5 ?_
    refine G_callVv C (m_X6_goOneMinute zTn_51 u (d - 1) (by omega)) (d' := d - 1) (As := []) (by omega) rfl wm1_48 wwX6_goOneMinute zTn_51.1 rfl (Nat.le_of_ble_eq_true rfl) dX1_goPlanned_8 (fun y6 u7 => ?_)
    refine G_goto (tgt := 60) C dX1_goPlanned_11 (by decide) ?_
    exact G_vret C dX1_goPlanned_60
theorem m_X1_goPlanned   (p1 : Int32) (p2 : Int32) (u : zM) (d : Nat) (hd : 5 ≤ d) : zMet zQv SHX yX1_goPlanned cX1_goPlanned 3 (none) d [.ref 49, .int p1, .int p2] u (f_X1_goPlanned p1 p2 u) :=
  zMet_of (by decide +kernel) (fun as => Nat.le_of_ble_eq_true rfl) wwX1_goPlanned.2.2.2.1 (by omega) (fun p l e s m args below meth c as dA D C => go_X1_goPlanned C hd u)
/-! StruckWhile$Town behindPlan(StruckWhile$Sheet) -/
def f_X1_behindPlan_L13_b  (rc : Int32 → zM → Option (Nat × zM)) (x2 : Int32) (u : zM) : Option (Nat × zM) :=
  (if (gI u 17 3) ≤ x2 then some (51, u) else zck (inB x2 10) <| zck (inB x2 10) <| zb (f_X1_goPlanned (gI u 18 x2.toNatClampNeg) (gI u 19 x2.toNatClampNeg) u) fun _ u6 => rc (x2 + (1 : Int32)) u6)
def f_X1_behindPlan_L13  : Nat → Int32 → zM → Option (Nat × zM)
  | 0 => fun _ _ => none
  | fn + 1 => f_X1_behindPlan_L13_b  (f_X1_behindPlan_L13  fn)
def f_X1_behindPlan (u : zM) : Option (Nat × zM) :=
  zb (f_X6_become 51 2 u) fun _ u2 => f_X1_behindPlan_L13 400 (0 : Int32) u2
set_option maxRecDepth 20000 in
theorem go_X1_behindPlan_L13 {p : Program} {l : Launch} {e : Env} {s : State} {m : MethodId} {args : Array Value} {below : List Frame} {meth : Method} {c : Code} {as : Nat → Nat} {dA : Nat → ClassId} {D : va_G} {d : Nat}  (C : zCx p s m args meth c as dA D SHX d 3 yX1_behindPlan.cls cX1_behindPlan ((some (FieldType.object "StruckWhile$Town")))) (hd : 6 ≤ d) : ∀ (fn : Nat) (x2 : Int32) (u : zM), Go p l e s m args below meth c as dA D SHX d 3 zQr 13 [(0, .ref 49), (1, .ref 17), (2, .int x2)] [] u (f_X1_behindPlan_L13 fn x2 u) := by
  intro fn
  induction fn with
  | zero => intro x2 u; exact G_none
  | succ fn ih =>
    intro x2 u
    show Go p l e s m args below meth c as dA D SHX d 3 zQr 13 [(0, .ref 49), (1, .ref 17), (2, .int x2)] [] u (f_X1_behindPlan_L13_b  (f_X1_behindPlan_L13  fn) x2 u)
    unfold f_X1_behindPlan_L13_b
    refine G_iload_n C 2 dX1_behindPlan_13 rfl rfl ?_
    refine G_aload_n C 1 dX1_behindPlan_14 rfl rfl ?_
    refine G_getI C 3 zSn_17.1 rfl rfl (by decide) wf1_125 dX1_behindPlan_15 ?_
    refine G_icmp_ge (tgt := 43) C dX1_behindPlan_18 (by decide) (fun _ => ?_) (fun _ => ?_)
    · refine G_aload_n C 0 dX1_behindPlan_43 rfl rfl ?_
      refine G_getR (j := 51) C 3 shX_49 rfl rfl (by decide) wf1_18 dX1_behindPlan_44 ?_
      exact G_aret C dX1_behindPlan_47
    · refine G_aload_n C 0 dX1_behindPlan_21 rfl rfl ?_
      refine G_aload_n C 1 dX1_behindPlan_22 rfl rfl ?_
      refine G_getR (j := 18) C 0 zSn_17.1 rfl rfl (by decide) wf1_136 dX1_behindPlan_23 ?_
      refine G_iload_n C 2 dX1_behindPlan_26 rfl rfl ?_
      refine G_iald C zSn_17.2.1 dX1_behindPlan_27 (fun hb3 => ?_)
      refine G_aload_n C 1 dX1_behindPlan_28 rfl rfl ?_
      refine G_getR (j := 19) C 1 zSn_17.1 rfl rfl (by decide) wf1_130 dX1_behindPlan_29 ?_
      refine G_iload_n C 2 dX1_behindPlan_32 rfl rfl ?_
      refine G_iald C zSn_17.2.2.1 dX1_behindPlan_33 (fun hb4 => ?_)
      refine G_callVv C (m_X1_goPlanned (gI u 18 x2.toNatClampNeg) (gI u 19 x2.toNatClampNeg) u (d - 1) (by omega)) (d' := d - 1) (As := [.int (gI u 18 x2.toNatClampNeg), .int (gI u 19 x2.toNatClampNeg)]) (by omega) rfl wm1_145 wwX1_goPlanned shX_49 rfl (Nat.le_of_ble_eq_true rfl) dX1_behindPlan_34 (fun y5 u6 => ?_)
      refine G_iinc (v := 1) (L' := [(2, .int (x2 + (1 : Int32))), (0, .ref 49), (1, .ref 17)]) C 2 dX1_behindPlan_37 rfl (by decide) (by decide) rfl ?_
      refine G_goto (tgt := 13) C dX1_behindPlan_40 (by decide) ?_
      refine G_locals [1, 2, 0] rfl ?_
      exact ih (x2 + (1 : Int32)) u6
set_option maxRecDepth 20000 in
theorem go_X1_behindPlan {p : Program} {l : Launch} {e : Env} {s : State} {m : MethodId} {args : Array Value} {below : List Frame} {meth : Method} {c : Code} {as : Nat → Nat} {dA : Nat → ClassId} {D : va_G} {d : Nat}  (C : zCx p s m args meth c as dA D SHX d 3 yX1_behindPlan.cls cX1_behindPlan ((some (FieldType.object "StruckWhile$Town")))) (hd : 6 ≤ d) : ∀ (u : zM), Go p l e s m args below meth c as dA D SHX d 3 zQr 0 [(0, .ref 49), (1, .ref 17)] [] u (f_X1_behindPlan  u) := by
  intro u
  unfold f_X1_behindPlan
  refine G_aload_n C 0 dX1_behindPlan_0 rfl rfl ?_
  refine G_getR (j := 51) C 3 shX_49 rfl rfl (by decide) wf1_18 dX1_behindPlan_1 ?_
  refine G_aload_n C 0 dX1_behindPlan_4 rfl rfl ?_
  refine G_getR (j := 2) C 1 shX_49 rfl rfl (by decide) wf1_25 dX1_behindPlan_5 ?_
  refine G_callVv C (m_X6_become zTn_51 zTn_2 u (d - 1) (by omega)) (d' := d - 1) (As := [.ref 2]) (by omega) rfl wm1_32 wwX6_become zTn_51.1 rfl (Nat.le_of_ble_eq_true rfl) dX1_behindPlan_8 (fun y1 u2 => ?_)
  refine G_iconst (v := 0) C dX1_behindPlan_11 (by decide) ?_
  refine G_istore_n (L' := [(2, .int (0 : Int32)), (0, .ref 49), (1, .ref 17)]) C dX1_behindPlan_12 rfl (by decide) rfl ?_
  refine G_locals [1, 2, 0] rfl ?_
  exact go_X1_behindPlan_L13 C hd 400 (0 : Int32) u2
theorem m_X1_behindPlan    (u : zM) (d : Nat) (hd : 6 ≤ d) : zMet zQr SHX yX1_behindPlan cX1_behindPlan 3 ((some (FieldType.object "StruckWhile$Town"))) d [.ref 49, .ref 17] u (f_X1_behindPlan  u) :=
  zMet_of (by decide +kernel) (fun as => Nat.le_of_ble_eq_true rfl) wwX1_behindPlan.2.2.2.1 (by omega) (fun p l e s m args below meth c as dA D C => go_X1_behindPlan C hd u)
