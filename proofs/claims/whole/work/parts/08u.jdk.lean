/-! java/lang/Integer bitCount (I)I -/
def f_J6_bitCount_0f7a4 (p0 : Int32) (u : zM) : Option (Int32 × zM) :=
  zlx (p0 - (((p0.toUInt32 >>> ((1 : Int32).toUInt32 &&& Int32.toUInt32 31)).toInt32) &&& (1431655765 : Int32))) fun v1 => zlx ((v1 &&& (858993459 : Int32)) + (((v1.toUInt32 >>> ((2 : Int32).toUInt32 &&& Int32.toUInt32 31)).toInt32) &&& (858993459 : Int32))) fun v2 => zlx ((v2 + ((v2.toUInt32 >>> ((4 : Int32).toUInt32 &&& Int32.toUInt32 31)).toInt32)) &&& (252645135 : Int32)) fun v3 => zlx (v3 + ((v3.toUInt32 >>> ((8 : Int32).toUInt32 &&& Int32.toUInt32 31)).toInt32)) fun v4 => zlx (v4 + ((v4.toUInt32 >>> ((16 : Int32).toUInt32 &&& Int32.toUInt32 31)).toInt32)) fun v5 => some ((v5 &&& (63 : Int32)), u)
set_option maxRecDepth 20000 in
theorem go_J6_bitCount_0f7a4 {p : Program} {l : Launch} {e : Env} {s : State} {m : MethodId} {args : Array Value} {below : List Frame} {meth : Method} {c : Code} {as : Nat → Nat} {dA : Nat → ClassId} {D : va_G} {d : Nat} {p0 : Int32} (C : zCx p s m args meth c as dA D SHX d 1 yJ6_bitCount_0f7a4.cls cJ6_bitCount_0f7a4 ((some FieldType.int))) (hd : 1 ≤ d) : ∀ (u : zM), Go p l e s m args below meth c as dA D SHX d 1 zQi 0 [(0, .int p0)] [] u (f_J6_bitCount_0f7a4 p0 u) := by
  intro u
  unfold f_J6_bitCount_0f7a4
  refine G_iload_n C 0 dJ6_bitCount_0f7a4_0 rfl rfl ?_
  refine G_iload_n C 0 dJ6_bitCount_0f7a4_1 rfl rfl ?_
  refine G_iconst (v := 1) C dJ6_bitCount_0f7a4_2 (by decide) ?_
  refine G_iushr C dJ6_bitCount_0f7a4_3 ?_
  refine G_ldcw (v := 1431655765) C dJ6_bitCount_0f7a4_4 wcJ6_265 ?_
  refine G_iand C dJ6_bitCount_0f7a4_7 ?_
  refine G_isub C dJ6_bitCount_0f7a4_8 ?_
  refine G_topi (fun v1 => ?_)
  refine G_istore_n (L' := [(0, .int v1)]) C dJ6_bitCount_0f7a4_9 rfl (by decide) rfl ?_
  refine G_iload_n C 0 dJ6_bitCount_0f7a4_10 rfl rfl ?_
  refine G_ldcw (v := 858993459) C dJ6_bitCount_0f7a4_11 wcJ6_266 ?_
  refine G_iand C dJ6_bitCount_0f7a4_14 ?_
  refine G_iload_n C 0 dJ6_bitCount_0f7a4_15 rfl rfl ?_
  refine G_iconst (v := 2) C dJ6_bitCount_0f7a4_16 (by decide) ?_
  refine G_iushr C dJ6_bitCount_0f7a4_17 ?_
  refine G_ldcw (v := 858993459) C dJ6_bitCount_0f7a4_18 wcJ6_266 ?_
  refine G_iand C dJ6_bitCount_0f7a4_21 ?_
  refine G_iadd C dJ6_bitCount_0f7a4_22 ?_
  refine G_topi (fun v2 => ?_)
  refine G_istore_n (L' := [(0, .int v2)]) C dJ6_bitCount_0f7a4_23 rfl (by decide) rfl ?_
  refine G_iload_n C 0 dJ6_bitCount_0f7a4_24 rfl rfl ?_
  refine G_iload_n C 0 dJ6_bitCount_0f7a4_25 rfl rfl ?_
  refine G_iconst (v := 4) C dJ6_bitCount_0f7a4_26 (by decide) ?_
  refine G_iushr C dJ6_bitCount_0f7a4_27 ?_
  refine G_iadd C dJ6_bitCount_0f7a4_28 ?_
  refine G_ldcw (v := 252645135) C dJ6_bitCount_0f7a4_29 wcJ6_267 ?_
  refine G_iand C dJ6_bitCount_0f7a4_32 ?_
  refine G_topi (fun v3 => ?_)
  refine G_istore_n (L' := [(0, .int v3)]) C dJ6_bitCount_0f7a4_33 rfl (by decide) rfl ?_
  refine G_iload_n C 0 dJ6_bitCount_0f7a4_34 rfl rfl ?_
  refine G_iload_n C 0 dJ6_bitCount_0f7a4_35 rfl rfl ?_
  refine G_bipush (v := 8) C dJ6_bitCount_0f7a4_36 (by decide) ?_
  refine G_iushr C dJ6_bitCount_0f7a4_38 ?_
  refine G_iadd C dJ6_bitCount_0f7a4_39 ?_
  refine G_topi (fun v4 => ?_)
  refine G_istore_n (L' := [(0, .int v4)]) C dJ6_bitCount_0f7a4_40 rfl (by decide) rfl ?_
  refine G_iload_n C 0 dJ6_bitCount_0f7a4_41 rfl rfl ?_
  refine G_iload_n C 0 dJ6_bitCount_0f7a4_42 rfl rfl ?_
  refine G_bipush (v := 16) C dJ6_bitCount_0f7a4_43 (by decide) ?_
  refine G_iushr C dJ6_bitCount_0f7a4_45 ?_
  refine G_iadd C dJ6_bitCount_0f7a4_46 ?_
  refine G_topi (fun v5 => ?_)
  refine G_istore_n (L' := [(0, .int v5)]) C dJ6_bitCount_0f7a4_47 rfl (by decide) rfl ?_
  refine G_iload_n C 0 dJ6_bitCount_0f7a4_48 rfl rfl ?_
  refine G_bipush (v := 63) C dJ6_bitCount_0f7a4_49 (by decide) ?_
  refine G_iand C dJ6_bitCount_0f7a4_51 ?_
  exact G_iret C dJ6_bitCount_0f7a4_52
theorem m_J6_bitCount_0f7a4   (p0 : Int32) (u : zM) (d : Nat) (hd : 1 ≤ d) : zMet zQi SHX yJ6_bitCount_0f7a4 cJ6_bitCount_0f7a4 1 ((some FieldType.int)) d [.int p0] u (f_J6_bitCount_0f7a4 p0 u) :=
  zMet_of (by decide +kernel) (fun as => Nat.le_of_ble_eq_true rfl) wwJ6_bitCount_0f7a4.2.2.1 (by omega) (fun p l e s m args below meth c as dA D C => go_J6_bitCount_0f7a4 C hd u)
/-! java/lang/String coder ()B -/
def f_J0_coder_7d493 (o : Nat) (u : zM) : Option (Int32 × zM) :=
  (if (1 : Int32) = (0 : Int32) then some ((1 : Int32), u) else some ((0 : Int32), u))
set_option maxRecDepth 20000 in
theorem go_J0_coder_7d493 {p : Program} {l : Launch} {e : Env} {s : State} {m : MethodId} {args : Array Value} {below : List Frame} {meth : Method} {c : Code} {as : Nat → Nat} {dA : Nat → ClassId} {D : va_G} {d : Nat} {o : Nat} (C : zCx p s m args meth c as dA D SHX d 1 yJ0_coder_7d493.cls cJ0_coder_7d493 ((some FieldType.byte))) (hd : 1 ≤ d) (ho : zStr o) : ∀ (u : zM), Go p l e s m args below meth c as dA D SHX d 1 zQi 0 [(0, .ref o)] [] u (f_J0_coder_7d493 o u) := by
  intro u
  unfold f_J0_coder_7d493
  refine G_compact C wfJ0_38 dJ0_coder_7d493_0 ?_
  refine G_if_eq (tgt := 13) C dJ0_coder_7d493_3 (by decide) (fun _ => ?_) (fun _ => ?_)
  · refine G_iconst (v := 1) C dJ0_coder_7d493_13 (by decide) ?_
    exact G_zret C rfl dJ0_coder_7d493_14
  · refine G_aload_n C 0 dJ0_coder_7d493_6 rfl rfl ?_
    refine G_scod C ho wfJ0_15 dJ0_coder_7d493_7 ?_
    refine G_goto (tgt := 14) C dJ0_coder_7d493_10 (by decide) ?_
    exact G_zret C rfl dJ0_coder_7d493_14
theorem m_J0_coder_7d493 {o : Nat} (ho : zStr o)  (u : zM) (d : Nat) (hd : 1 ≤ d) : zMet zQi SHX yJ0_coder_7d493 cJ0_coder_7d493 1 ((some FieldType.byte)) d [.ref o] u (f_J0_coder_7d493 o u) :=
  zMet_of (by decide +kernel) (fun as => Nat.le_of_ble_eq_true rfl) wwJ0_coder_7d493.2.2.2.1 (by omega) (fun p l e s m args below meth c as dA D C => go_J0_coder_7d493 C hd ho u)
/-! java/lang/String isLatin1 ()Z -/
def f_J0_isLatin1_aae02 (o : Nat) (u : zM) : Option (Int32 × zM) :=
  (if (1 : Int32) = (0 : Int32) then some ((0 : Int32), u) else (if (0 : Int32) = (0 : Int32) then some ((1 : Int32), u) else some ((0 : Int32), u)))
set_option maxRecDepth 20000 in
theorem go_J0_isLatin1_aae02 {p : Program} {l : Launch} {e : Env} {s : State} {m : MethodId} {args : Array Value} {below : List Frame} {meth : Method} {c : Code} {as : Nat → Nat} {dA : Nat → ClassId} {D : va_G} {d : Nat} {o : Nat} (C : zCx p s m args meth c as dA D SHX d 1 yJ0_isLatin1_aae02.cls cJ0_isLatin1_aae02 ((some FieldType.boolean))) (hd : 1 ≤ d) (ho : zStr o) : ∀ (u : zM), Go p l e s m args below meth c as dA D SHX d 1 zQi 0 [(0, .ref o)] [] u (f_J0_isLatin1_aae02 o u) := by
  intro u
  unfold f_J0_isLatin1_aae02
  refine G_compact C wfJ0_38 dJ0_isLatin1_aae02_0 ?_
  refine G_if_eq (tgt := 17) C dJ0_isLatin1_aae02_3 (by decide) (fun _ => ?_) (fun _ => ?_)
  · refine G_iconst (v := 0) C dJ0_isLatin1_aae02_17 (by decide) ?_
    exact G_zret C rfl dJ0_isLatin1_aae02_18
  · refine G_aload_n C 0 dJ0_isLatin1_aae02_6 rfl rfl ?_
    refine G_scod C ho wfJ0_15 dJ0_isLatin1_aae02_7 ?_
    refine G_if_ne (tgt := 17) C dJ0_isLatin1_aae02_10 (by decide) (fun _ => ?_) (fun _ => ?_)
    · refine G_iconst (v := 0) C dJ0_isLatin1_aae02_17 (by decide) ?_
      exact G_zret C rfl dJ0_isLatin1_aae02_18
    · refine G_iconst (v := 1) C dJ0_isLatin1_aae02_13 (by decide) ?_
      refine G_goto (tgt := 18) C dJ0_isLatin1_aae02_14 (by decide) ?_
      exact G_zret C rfl dJ0_isLatin1_aae02_18
theorem m_J0_isLatin1_aae02 {o : Nat} (ho : zStr o)  (u : zM) (d : Nat) (hd : 1 ≤ d) : zMet zQi SHX yJ0_isLatin1_aae02 cJ0_isLatin1_aae02 1 ((some FieldType.boolean)) d [.ref o] u (f_J0_isLatin1_aae02 o u) :=
  zMet_of (by decide +kernel) (fun as => Nat.le_of_ble_eq_true rfl) wwJ0_isLatin1_aae02.2.2.2.1 (by omega) (fun p l e s m args below meth c as dA D C => go_J0_isLatin1_aae02 C hd ho u)
/-! java/lang/String length ()I -/
def f_J0_length_8abf5 (o : Nat) (u : zM) : Option (Int32 × zM) :=
  zb (f_J0_coder_7d493 o u) fun y1 u2 => some (((Int32.ofNat (zskL o)) >>> (y1 &&& 31)), u2)
set_option maxRecDepth 20000 in
theorem go_J0_length_8abf5 {p : Program} {l : Launch} {e : Env} {s : State} {m : MethodId} {args : Array Value} {below : List Frame} {meth : Method} {c : Code} {as : Nat → Nat} {dA : Nat → ClassId} {D : va_G} {d : Nat} {o : Nat} (C : zCx p s m args meth c as dA D SHX d 1 yJ0_length_8abf5.cls cJ0_length_8abf5 ((some FieldType.int))) (hd : 2 ≤ d) (ho : zStr o) : ∀ (u : zM), Go p l e s m args below meth c as dA D SHX d 1 zQi 0 [(0, .ref o)] [] u (f_J0_length_8abf5 o u) := by
  intro u
  unfold f_J0_length_8abf5
  refine G_aload_n C 0 dJ0_length_8abf5_0 rfl rfl ?_
  refine G_sval C ho wfJ0_9 dJ0_length_8abf5_1 ?_
  refine G_sblen C ho dJ0_length_8abf5_4 ?_
  refine G_aload_n C 0 dJ0_length_8abf5_5 rfl rfl ?_
  refine G_callTi C (m_J0_coder_7d493 ho u (d - 1) (by omega)) (d' := d - 1) (As := []) (by omega) rfl wmJ0_335 wwJ0_coder_7d493 ho rfl (Nat.le_of_ble_eq_true rfl) dJ0_length_8abf5_6 (fun y1 u2 => ?_)
  refine G_ishr C dJ0_length_8abf5_9 ?_
  exact G_iret C dJ0_length_8abf5_10
theorem m_J0_length_8abf5 {o : Nat} (ho : zStr o)  (u : zM) (d : Nat) (hd : 2 ≤ d) : zMet zQi SHX yJ0_length_8abf5 cJ0_length_8abf5 1 ((some FieldType.int)) d [.ref o] u (f_J0_length_8abf5 o u) :=
  zMet_of (by decide +kernel) (fun as => Nat.le_of_ble_eq_true rfl) wwJ0_length_8abf5.2.2.2.1 (by omega) (fun p l e s m args below meth c as dA D C => go_J0_length_8abf5 C hd ho u)
/-! jdk/internal/util/Preconditions checkIndex (IILjava/util/function/BiFunction;)I -/
def f_J3_checkIndex_8e157 (p0 : Int32) (p1 : Int32) (u : zM) : Option (Int32 × zM) :=
  (if p0 < (0 : Int32) then none else (if p0 < p1 then some (p0, u) else none))
set_option maxRecDepth 20000 in
theorem go_J3_checkIndex_8e157 {p : Program} {l : Launch} {e : Env} {s : State} {m : MethodId} {args : Array Value} {below : List Frame} {meth : Method} {c : Code} {as : Nat → Nat} {dA : Nat → ClassId} {D : va_G} {d : Nat} {p0 : Int32} {p1 : Int32} {w : Value} (C : zCx p s m args meth c as dA D SHX d 3 yJ3_checkIndex_8e157.cls cJ3_checkIndex_8e157 ((some FieldType.int))) (hd : 1 ≤ d) (hw : w = .null ∨ w = .ref 1030) : ∀ (u : zM), Go p l e s m args below meth c as dA D SHX d 3 zQi 0 [(0, .int p0), (1, .int p1), (2, w)] [] u (f_J3_checkIndex_8e157 p0 p1 u) := by
  intro u
  unfold f_J3_checkIndex_8e157
  refine G_iload_n C 0 dJ3_checkIndex_8e157_0 rfl rfl ?_
  refine G_if_lt (tgt := 9) C dJ3_checkIndex_8e157_1 (by decide) (fun _ => ?_) (fun _ => ?_)
  · exact G_none
  · refine G_iload_n C 0 dJ3_checkIndex_8e157_4 rfl rfl ?_
    refine G_iload_n C 1 dJ3_checkIndex_8e157_5 rfl rfl ?_
    refine G_icmp_lt (tgt := 16) C dJ3_checkIndex_8e157_6 (by decide) (fun _ => ?_) (fun _ => ?_)
    · refine G_iload_n C 0 dJ3_checkIndex_8e157_16 rfl rfl ?_
      exact G_iret C dJ3_checkIndex_8e157_17
    · exact G_none
theorem m_J3_checkIndex_8e157 {w : Value} (hw : w = .null ∨ w = .ref 1030) (p0 : Int32) (p1 : Int32) (u : zM) (d : Nat) (hd : 1 ≤ d) : zMet zQi SHX yJ3_checkIndex_8e157 cJ3_checkIndex_8e157 3 ((some FieldType.int)) d [.int p0, .int p1, w] u (f_J3_checkIndex_8e157 p0 p1 u) :=
  zMet_of (by decide +kernel) (fun as => by rcases hw with h | h <;> subst h <;> exact Nat.le_of_ble_eq_true rfl) wwJ3_checkIndex_8e157.2.2.1 (by omega) (fun p l e s m args below meth c as dA D C => go_J3_checkIndex_8e157 C hd hw u)
/-! java/lang/String checkIndex (II)V -/
def f_J0_checkIndex_df160 (p0 : Int32) (p1 : Int32) (u : zM) : Option (Unit × zM) :=
  zb (f_J3_checkIndex_8e157 p0 p1 u) fun y1 u2 => some ((), u2)
set_option maxRecDepth 20000 in
theorem go_J0_checkIndex_df160 {p : Program} {l : Launch} {e : Env} {s : State} {m : MethodId} {args : Array Value} {below : List Frame} {meth : Method} {c : Code} {as : Nat → Nat} {dA : Nat → ClassId} {D : va_G} {d : Nat} {p0 : Int32} {p1 : Int32} (C : zCx p s m args meth c as dA D SHX d 2 yJ0_checkIndex_df160.cls cJ0_checkIndex_df160 (none)) (hd : 2 ≤ d) : ∀ (u : zM), Go p l e s m args below meth c as dA D SHX d 2 zQv 0 [(0, .int p0), (1, .int p1)] [] u (f_J0_checkIndex_df160 p0 p1 u) := by
  intro u
  unfold f_J0_checkIndex_df160
  refine G_iload_n C 0 dJ0_checkIndex_df160_0 rfl rfl ?_
  refine G_iload_n C 1 dJ0_checkIndex_df160_1 rfl rfl ?_
  refine G_siobe C wfJ0_1053 dJ0_checkIndex_df160_2 (fun w hw => ?_)
  refine G_callSi C (m_J3_checkIndex_8e157 hw p0 p1 u (d - 1) (by omega)) (d' := d - 1) (As := [.int p0, .int p1, w]) (by omega) rfl wmJ0_1059 wwJ3_checkIndex_8e157 (Nat.le_of_ble_eq_true rfl) dJ0_checkIndex_df160_5 (fun y1 u2 => ?_)
  refine G_pop C dJ0_checkIndex_df160_8 rfl ?_
  exact G_vret C dJ0_checkIndex_df160_9
theorem m_J0_checkIndex_df160   (p0 : Int32) (p1 : Int32) (u : zM) (d : Nat) (hd : 2 ≤ d) : zMet zQv SHX yJ0_checkIndex_df160 cJ0_checkIndex_df160 2 (none) d [.int p0, .int p1] u (f_J0_checkIndex_df160 p0 p1 u) :=
  zMet_of (by decide +kernel) (fun as => Nat.le_of_ble_eq_true rfl) wwJ0_checkIndex_df160.2.2.1 (by omega) (fun p l e s m args below meth c as dA D C => go_J0_checkIndex_df160 C hd u)
/-! java/lang/StringLatin1 charAt ([BI)C -/
def f_J1_charAt_3b067 (o : Nat) (p1 : Int32) (u : zM) : Option (Int32 × zM) :=
  zb (f_J0_checkIndex_df160 p1 (Int32.ofNat (zskL o)) u) fun _ u2 => zck (inB p1 (zskL o)) <| zck (zcB ((((zskB o p1) &&& (255 : Int32)).toUInt32 % 65536).toInt32)) <| some (((((zskB o p1) &&& (255 : Int32)).toUInt32 % 65536).toInt32), u2)
set_option maxRecDepth 20000 in
theorem go_J1_charAt_3b067 {p : Program} {l : Launch} {e : Env} {s : State} {m : MethodId} {args : Array Value} {below : List Frame} {meth : Method} {c : Code} {as : Nat → Nat} {dA : Nat → ClassId} {D : va_G} {d : Nat} {o : Nat} {p1 : Int32} (C : zCx p s m args meth c as dA D SHX d 2 yJ1_charAt_3b067.cls cJ1_charAt_3b067 ((some FieldType.char))) (hd : 3 ≤ d) (ho : zStr o) : ∀ (u : zM), Go p l e s m args below meth c as dA D SHX d 2 zQi 0 [(0, .ref (o + 10)), (1, .int p1)] [] u (f_J1_charAt_3b067 o p1 u) := by
  intro u
  unfold f_J1_charAt_3b067
  refine G_iload_n C 1 dJ1_charAt_3b067_0 rfl rfl ?_
  refine G_aload_n C 0 dJ1_charAt_3b067_1 rfl rfl ?_
  refine G_sblen C ho dJ1_charAt_3b067_2 ?_
  refine G_callSv C (m_J0_checkIndex_df160 p1 (Int32.ofNat (zskL o)) u (d - 1) (by omega)) (d' := d - 1) (As := [.int p1, .int (Int32.ofNat (zskL o))]) (by omega) rfl wmJ1_9 wwJ0_checkIndex_df160 (Nat.le_of_ble_eq_true rfl) dJ1_charAt_3b067_3 (fun y1 u2 => ?_)
  refine G_aload_n C 0 dJ1_charAt_3b067_6 rfl rfl ?_
  refine G_iload_n C 1 dJ1_charAt_3b067_7 rfl rfl ?_
  refine G_sbld C ho dJ1_charAt_3b067_8 (fun _ => ?_)
  refine G_sipush (v := 255) C dJ1_charAt_3b067_9 (by decide) ?_
  refine G_iand C dJ1_charAt_3b067_12 ?_
  refine G_i2c C dJ1_charAt_3b067_13 ?_
  refine G_ck (fun hz3 => ?_)
  exact G_zret C (zcB_nar hz3) dJ1_charAt_3b067_14
theorem m_J1_charAt_3b067 {o : Nat} (ho : zStr o) (p1 : Int32) (u : zM) (d : Nat) (hd : 3 ≤ d) : zMet zQi SHX yJ1_charAt_3b067 cJ1_charAt_3b067 2 ((some FieldType.char)) d [.ref (o + 10), .int p1] u (f_J1_charAt_3b067 o p1 u) :=
  zMet_of (by decide +kernel) (fun as => Nat.le_of_ble_eq_true rfl) wwJ1_charAt_3b067.2.2.1 (by omega) (fun p l e s m args below meth c as dA D C => go_J1_charAt_3b067 C hd ho u)
/-! java/lang/String charAt (I)C -/
def f_J0_charAt_5068e (o : Nat) (p1 : Int32) (u : zM) : Option (Int32 × zM) :=
  zb (f_J0_isLatin1_aae02 o u) fun y1 u2 => (if y1 = (0 : Int32) then none else zb (f_J1_charAt_3b067 o p1 u2) fun y3 u4 => zck (zcB y3) <| some (y3, u4))
set_option maxRecDepth 20000 in
theorem go_J0_charAt_5068e {p : Program} {l : Launch} {e : Env} {s : State} {m : MethodId} {args : Array Value} {below : List Frame} {meth : Method} {c : Code} {as : Nat → Nat} {dA : Nat → ClassId} {D : va_G} {d : Nat} {o : Nat} {p1 : Int32} (C : zCx p s m args meth c as dA D SHX d 2 yJ0_charAt_5068e.cls cJ0_charAt_5068e ((some FieldType.char))) (hd : 4 ≤ d) (ho : zStr o) : ∀ (u : zM), Go p l e s m args below meth c as dA D SHX d 2 zQi 0 [(0, .ref o), (1, .int p1)] [] u (f_J0_charAt_5068e o p1 u) := by
  intro u
  unfold f_J0_charAt_5068e
  refine G_aload_n C 0 dJ0_charAt_5068e_0 rfl rfl ?_
  refine G_callTi C (m_J0_isLatin1_aae02 ho u (d - 1) (by omega)) (d' := d - 1) (As := []) (by omega) rfl wmJ0_492 wwJ0_isLatin1_aae02 ho rfl (Nat.le_of_ble_eq_true rfl) dJ0_charAt_5068e_1 (fun y1 u2 => ?_)
  refine G_if_eq (tgt := 16) C dJ0_charAt_5068e_4 (by decide) (fun _ => ?_) (fun _ => ?_)
  · refine G_aload_n C 0 dJ0_charAt_5068e_16 rfl rfl ?_
    refine G_sval C ho wfJ0_9 dJ0_charAt_5068e_17 ?_
    refine G_iload_n C 1 dJ0_charAt_5068e_20 rfl rfl ?_
    exact G_none
  · refine G_aload_n C 0 dJ0_charAt_5068e_7 rfl rfl ?_
    refine G_sval C ho wfJ0_9 dJ0_charAt_5068e_8 ?_
    refine G_iload_n C 1 dJ0_charAt_5068e_11 rfl rfl ?_
    refine G_callSi C (m_J1_charAt_3b067 ho p1 u2 (d - 1) (by omega)) (d' := d - 1) (As := [.ref (o + 10), .int p1]) (by omega) rfl wmJ0_495 wwJ1_charAt_3b067 (Nat.le_of_ble_eq_true rfl) dJ0_charAt_5068e_12 (fun y3 u4 => ?_)
    refine G_ck (fun hz5 => ?_)
    exact G_zret C (zcB_nar hz5) dJ0_charAt_5068e_15
theorem m_J0_charAt_5068e {o : Nat} (ho : zStr o) (p1 : Int32) (u : zM) (d : Nat) (hd : 4 ≤ d) : zMet zQi SHX yJ0_charAt_5068e cJ0_charAt_5068e 2 ((some FieldType.char)) d [.ref o, .int p1] u (f_J0_charAt_5068e o p1 u) :=
  zMet_of (by decide +kernel) (fun as => Nat.le_of_ble_eq_true rfl) wwJ0_charAt_5068e.2.2.2.1 (by omega) (fun p l e s m args below meth c as dA D C => go_J0_charAt_5068e C hd ho u)
/-! java/lang/StringLatin1 canEncode (I)Z -/
def f_J1_canEncode_9a6ad (p0 : Int32) (u : zM) : Option (Int32 × zM) :=
  (if p0 < (0 : Int32) then some ((0 : Int32), u) else (if (255 : Int32) < p0 then some ((0 : Int32), u) else some ((1 : Int32), u)))
set_option maxRecDepth 20000 in
theorem go_J1_canEncode_9a6ad {p : Program} {l : Launch} {e : Env} {s : State} {m : MethodId} {args : Array Value} {below : List Frame} {meth : Method} {c : Code} {as : Nat → Nat} {dA : Nat → ClassId} {D : va_G} {d : Nat} {p0 : Int32} (C : zCx p s m args meth c as dA D SHX d 1 yJ1_canEncode_9a6ad.cls cJ1_canEncode_9a6ad ((some FieldType.boolean))) (hd : 1 ≤ d) : ∀ (u : zM), Go p l e s m args below meth c as dA D SHX d 1 zQi 0 [(0, .int p0)] [] u (f_J1_canEncode_9a6ad p0 u) := by
  intro u
  unfold f_J1_canEncode_9a6ad
  refine G_iload_n C 0 dJ1_canEncode_9a6ad_0 rfl rfl ?_
  refine G_if_lt (tgt := 15) C dJ1_canEncode_9a6ad_1 (by decide) (fun _ => ?_) (fun _ => ?_)
  · refine G_iconst (v := 0) C dJ1_canEncode_9a6ad_15 (by decide) ?_
    exact G_zret C rfl dJ1_canEncode_9a6ad_16
  · refine G_iload_n C 0 dJ1_canEncode_9a6ad_4 rfl rfl ?_
    refine G_sipush (v := 255) C dJ1_canEncode_9a6ad_5 (by decide) ?_
    refine G_icmp_gt (tgt := 15) C dJ1_canEncode_9a6ad_8 (by decide) (fun _ => ?_) (fun _ => ?_)
    · refine G_iconst (v := 0) C dJ1_canEncode_9a6ad_15 (by decide) ?_
      exact G_zret C rfl dJ1_canEncode_9a6ad_16
    · refine G_iconst (v := 1) C dJ1_canEncode_9a6ad_11 (by decide) ?_
      refine G_goto (tgt := 16) C dJ1_canEncode_9a6ad_12 (by decide) ?_
      exact G_zret C rfl dJ1_canEncode_9a6ad_16
theorem m_J1_canEncode_9a6ad   (p0 : Int32) (u : zM) (d : Nat) (hd : 1 ≤ d) : zMet zQi SHX yJ1_canEncode_9a6ad cJ1_canEncode_9a6ad 1 ((some FieldType.boolean)) d [.int p0] u (f_J1_canEncode_9a6ad p0 u) :=
  zMet_of (by decide +kernel) (fun as => Nat.le_of_ble_eq_true rfl) wwJ1_canEncode_9a6ad.2.2.1 (by omega) (fun p l e s m args below meth c as dA D C => go_J1_canEncode_9a6ad C hd u)
/-! java/lang/StringLatin1 indexOfChar ([BIII)I -/
def f_J1_indexOfChar_4cfef_L7_b (o : Nat) (p1 : Int32) (p2 : Int32) (p3 : Int32) (rc : Int32 → Int32 → zM → Option (Int32 × zM)) (x4 : Int32) (x5 : Int32) (u : zM) : Option (Int32 × zM) :=
  (if p3 ≤ x5 then some ((-1 : Int32), u) else zck (inB x5 (zskL o)) <| (if (zskB o x5) = x4 then some (x5, u) else rc x4 (x5 + (1 : Int32)) u))
def f_J1_indexOfChar_4cfef_L7 (o : Nat) (p1 : Int32) (p2 : Int32) (p3 : Int32) : Nat → Int32 → Int32 → zM → Option (Int32 × zM)
  | 0 => fun _ _ _ => none
  | fn + 1 => f_J1_indexOfChar_4cfef_L7_b o p1 p2 p3 (f_J1_indexOfChar_4cfef_L7 o p1 p2 p3 fn)
def f_J1_indexOfChar_4cfef (o : Nat) (p1 : Int32) (p2 : Int32) (p3 : Int32) (u : zM) : Option (Int32 × zM) :=
  zlx (p1.toInt8.toInt32) fun v1 => f_J1_indexOfChar_4cfef_L7 o p1 p2 p3 400 v1 p2 u
set_option maxRecDepth 20000 in
theorem go_J1_indexOfChar_4cfef_L7 {p : Program} {l : Launch} {e : Env} {s : State} {m : MethodId} {args : Array Value} {below : List Frame} {meth : Method} {c : Code} {as : Nat → Nat} {dA : Nat → ClassId} {D : va_G} {d : Nat} {o : Nat} {p1 : Int32} {p2 : Int32} {p3 : Int32} (C : zCx p s m args meth c as dA D SHX d 6 yJ1_indexOfChar_4cfef.cls cJ1_indexOfChar_4cfef ((some FieldType.int))) (hd : 1 ≤ d) (ho : zStr o) : ∀ (fn : Nat) (x4 : Int32) (x5 : Int32) (u : zM), Go p l e s m args below meth c as dA D SHX d 6 zQi 7 [(0, .ref (o + 10)), (1, .int p1), (2, .int p2), (3, .int p3), (4, .int x4), (5, .int x5)] [] u (f_J1_indexOfChar_4cfef_L7 o p1 p2 p3 fn x4 x5 u) := by
  intro fn
  induction fn with
  | zero => intro x4 x5 u; exact G_none
  | succ fn ih =>
    intro x4 x5 u
    show Go p l e s m args below meth c as dA D SHX d 6 zQi 7 [(0, .ref (o + 10)), (1, .int p1), (2, .int p2), (3, .int p3), (4, .int x4), (5, .int x5)] [] u (f_J1_indexOfChar_4cfef_L7_b o p1 p2 p3 (f_J1_indexOfChar_4cfef_L7 o p1 p2 p3 fn) x4 x5 u)
    unfold f_J1_indexOfChar_4cfef_L7_b
    refine G_iload C 5 dJ1_indexOfChar_4cfef_7 rfl ?_
    refine G_iload_n C 3 dJ1_indexOfChar_4cfef_9 rfl rfl ?_
    refine G_icmp_ge (tgt := 31) C dJ1_indexOfChar_4cfef_10 (by decide) (fun _ => ?_) (fun _ => ?_)
    · refine G_iconst (v := -1) C dJ1_indexOfChar_4cfef_31 (by decide) ?_
      exact G_iret C dJ1_indexOfChar_4cfef_32
    · refine G_aload_n C 0 dJ1_indexOfChar_4cfef_13 rfl rfl ?_
      refine G_iload C 5 dJ1_indexOfChar_4cfef_14 rfl ?_
      refine G_sbld C ho dJ1_indexOfChar_4cfef_16 (fun _ => ?_)
      refine G_iload C 4 dJ1_indexOfChar_4cfef_17 rfl ?_
      refine G_icmp_ne (tgt := 25) C dJ1_indexOfChar_4cfef_19 (by decide) (fun _ => ?_) (fun _ => ?_)
      · refine G_iinc (v := 1) (L' := [(5, .int (x5 + (1 : Int32))), (0, .ref (o + 10)), (1, .int p1), (2, .int p2), (3, .int p3), (4, .int x4)]) C 5 dJ1_indexOfChar_4cfef_25 rfl (by decide) (by decide) rfl ?_
        refine G_goto (tgt := 7) C dJ1_indexOfChar_4cfef_28 (by decide) ?_
        refine G_locals [1, 2, 3, 4, 5, 0] rfl ?_
        exact ih x4 (x5 + (1 : Int32)) u
      · refine G_iload C 5 dJ1_indexOfChar_4cfef_22 rfl ?_
        exact G_iret C dJ1_indexOfChar_4cfef_24
set_option maxRecDepth 20000 in
theorem go_J1_indexOfChar_4cfef {p : Program} {l : Launch} {e : Env} {s : State} {m : MethodId} {args : Array Value} {below : List Frame} {meth : Method} {c : Code} {as : Nat → Nat} {dA : Nat → ClassId} {D : va_G} {d : Nat} {o : Nat} {p1 : Int32} {p2 : Int32} {p3 : Int32} (C : zCx p s m args meth c as dA D SHX d 6 yJ1_indexOfChar_4cfef.cls cJ1_indexOfChar_4cfef ((some FieldType.int))) (hd : 1 ≤ d) (ho : zStr o) : ∀ (u : zM), Go p l e s m args below meth c as dA D SHX d 6 zQi 0 [(0, .ref (o + 10)), (1, .int p1), (2, .int p2), (3, .int p3)] [] u (f_J1_indexOfChar_4cfef o p1 p2 p3 u) := by
  intro u
  unfold f_J1_indexOfChar_4cfef
  refine G_iload_n C 1 dJ1_indexOfChar_4cfef_0 rfl rfl ?_
  refine G_i2b C dJ1_indexOfChar_4cfef_1 ?_
  refine G_topi (fun v1 => ?_)
  refine G_istore (L' := [(4, .int v1), (0, .ref (o + 10)), (1, .int p1), (2, .int p2), (3, .int p3)]) C dJ1_indexOfChar_4cfef_2 (by decide) rfl ?_
  refine G_iload_n C 3 dJ1_indexOfChar_4cfef_4 rfl rfl ?_
  refine G_istore (L' := [(5, .int p2), (4, .int v1), (0, .ref (o + 10)), (1, .int p1), (2, .int p2), (3, .int p3)]) C dJ1_indexOfChar_4cfef_5 (by decide) rfl ?_
  refine G_locals [2, 3, 4, 5, 1, 0] rfl ?_
  exact go_J1_indexOfChar_4cfef_L7 C hd ho 400 v1 p2 u
theorem m_J1_indexOfChar_4cfef {o : Nat} (ho : zStr o) (p1 : Int32) (p2 : Int32) (p3 : Int32) (u : zM) (d : Nat) (hd : 1 ≤ d) : zMet zQi SHX yJ1_indexOfChar_4cfef cJ1_indexOfChar_4cfef 6 ((some FieldType.int)) d [.ref (o + 10), .int p1, .int p2, .int p3] u (f_J1_indexOfChar_4cfef o p1 p2 p3 u) :=
  zMet_of (by decide +kernel) (fun as => Nat.le_of_ble_eq_true rfl) wwJ1_indexOfChar_4cfef.2.2.1 (by omega) (fun p l e s m args below meth c as dA D C => go_J1_indexOfChar_4cfef C hd ho u)
/-! java/lang/StringLatin1 indexOf ([BIII)I -/
def f_J1_indexOf_4cfef (o : Nat) (p1 : Int32) (p2 : Int32) (p3 : Int32) (u : zM) : Option (Int32 × zM) :=
  zb (f_J1_canEncode_9a6ad p1 u) fun y1 u2 => (if y1 = (0 : Int32) then some ((-1 : Int32), u2) else zlx (if p2 < (0 : Int32) then (0 : Int32) else p2) fun v3 => zlx (if (Int32.ofNat (zskL o)) < p3 then (Int32.ofNat (zskL o)) else p3) fun v4 => (if v3 < v4 then zb (f_J1_indexOfChar_4cfef o p1 v3 v4 u2) fun y5 u6 => some (y5, u6) else some ((-1 : Int32), u2)))
set_option maxRecDepth 20000 in
theorem go_J1_indexOf_4cfef {p : Program} {l : Launch} {e : Env} {s : State} {m : MethodId} {args : Array Value} {below : List Frame} {meth : Method} {c : Code} {as : Nat → Nat} {dA : Nat → ClassId} {D : va_G} {d : Nat} {o : Nat} {p1 : Int32} {p2 : Int32} {p3 : Int32} (C : zCx p s m args meth c as dA D SHX d 4 yJ1_indexOf_4cfef.cls cJ1_indexOf_4cfef ((some FieldType.int))) (hd : 2 ≤ d) (ho : zStr o) : ∀ (u : zM), Go p l e s m args below meth c as dA D SHX d 4 zQi 0 [(0, .ref (o + 10)), (1, .int p1), (2, .int p2), (3, .int p3)] [] u (f_J1_indexOf_4cfef o p1 p2 p3 u) := by
  intro u
  unfold f_J1_indexOf_4cfef
  refine G_iload_n C 1 dJ1_indexOf_4cfef_0 rfl rfl ?_
  refine G_callSi C (m_J1_canEncode_9a6ad p1 u (d - 1) (by omega)) (d' := d - 1) (As := [.int p1]) (by omega) rfl wmJ1_88 wwJ1_canEncode_9a6ad (Nat.le_of_ble_eq_true rfl) dJ1_indexOf_4cfef_1 (fun y1 u2 => ?_)
  refine G_if_ne (tgt := 9) C dJ1_indexOf_4cfef_4 (by decide) (fun _ => ?_) (fun _ => ?_)
  · refine G_iload_n C 2 dJ1_indexOf_4cfef_9 rfl rfl ?_
    refine G_iconst (v := 0) C dJ1_indexOf_4cfef_10 (by decide) ?_
    refine G_mmax C wmJ1_92 wMmax_s wMath wMmax_c (Nat.le_of_ble_eq_true rfl) dJ1_indexOf_4cfef_11 ?_
    refine G_topi (fun v3 => ?_)
    refine G_istore_n (L' := [(2, .int v3), (0, .ref (o + 10)), (1, .int p1), (3, .int p3)]) C dJ1_indexOf_4cfef_14 rfl (by decide) rfl ?_
    refine G_iload_n C 3 dJ1_indexOf_4cfef_15 rfl rfl ?_
    refine G_aload_n C 1 dJ1_indexOf_4cfef_16 rfl rfl ?_
    refine G_sblen C ho dJ1_indexOf_4cfef_17 ?_
    refine G_mmin C wmJ1_38 wMmin_s wMath wMmin_c (Nat.le_of_ble_eq_true rfl) dJ1_indexOf_4cfef_18 ?_
    refine G_topi (fun v4 => ?_)
    refine G_istore_n (L' := [(3, .int v4), (2, .int v3), (0, .ref (o + 10)), (1, .int p1)]) C dJ1_indexOf_4cfef_21 rfl (by decide) rfl ?_
    refine G_iload_n C 1 dJ1_indexOf_4cfef_22 rfl rfl ?_
    refine G_iload_n C 0 dJ1_indexOf_4cfef_23 rfl rfl ?_
    refine G_icmp_lt (tgt := 29) C dJ1_indexOf_4cfef_24 (by decide) (fun _ => ?_) (fun _ => ?_)
    · refine G_aload_n C 2 dJ1_indexOf_4cfef_29 rfl rfl ?_
      refine G_iload_n C 3 dJ1_indexOf_4cfef_30 rfl rfl ?_
      refine G_iload_n C 1 dJ1_indexOf_4cfef_31 rfl rfl ?_
      refine G_iload_n C 0 dJ1_indexOf_4cfef_32 rfl rfl ?_
      refine G_callSi C (m_J1_indexOfChar_4cfef ho p1 v3 v4 u2 (d - 1) (by omega)) (d' := d - 1) (As := [.ref (o + 10), .int p1, .int v3, .int v4]) (by omega) rfl wmJ1_95 wwJ1_indexOfChar_4cfef (Nat.le_of_ble_eq_true rfl) dJ1_indexOf_4cfef_33 (fun y5 u6 => ?_)
      exact G_iret C dJ1_indexOf_4cfef_36
    · refine G_iconst (v := -1) C dJ1_indexOf_4cfef_27 (by decide) ?_
      exact G_iret C dJ1_indexOf_4cfef_28
  · refine G_iconst (v := -1) C dJ1_indexOf_4cfef_7 (by decide) ?_
    exact G_iret C dJ1_indexOf_4cfef_8
theorem m_J1_indexOf_4cfef {o : Nat} (ho : zStr o) (p1 : Int32) (p2 : Int32) (p3 : Int32) (u : zM) (d : Nat) (hd : 2 ≤ d) : zMet zQi SHX yJ1_indexOf_4cfef cJ1_indexOf_4cfef 4 ((some FieldType.int)) d [.ref (o + 10), .int p1, .int p2, .int p3] u (f_J1_indexOf_4cfef o p1 p2 p3 u) :=
  zMet_of (by decide +kernel) (fun as => Nat.le_of_ble_eq_true rfl) wwJ1_indexOf_4cfef.2.2.1 (by omega) (fun p l e s m args below meth c as dA D C => go_J1_indexOf_4cfef C hd ho u)
/-! java/lang/String indexOf (II)I -/
def f_J0_indexOf_7cf53 (o : Nat) (p1 : Int32) (p2 : Int32) (u : zM) : Option (Int32 × zM) :=
  zb (f_J0_isLatin1_aae02 o u) fun y1 u2 => (if y1 = (0 : Int32) then zb (f_J0_length_8abf5 o u2) fun y3 u4 => none else zb (f_J0_length_8abf5 o u2) fun y5 u6 => zb (f_J1_indexOf_4cfef o p1 p2 y5 u6) fun y7 u8 => some (y7, u8))
set_option maxRecDepth 20000 in
theorem go_J0_indexOf_7cf53 {p : Program} {l : Launch} {e : Env} {s : State} {m : MethodId} {args : Array Value} {below : List Frame} {meth : Method} {c : Code} {as : Nat → Nat} {dA : Nat → ClassId} {D : va_G} {d : Nat} {o : Nat} {p1 : Int32} {p2 : Int32} (C : zCx p s m args meth c as dA D SHX d 3 yJ0_indexOf_7cf53.cls cJ0_indexOf_7cf53 ((some FieldType.int))) (hd : 3 ≤ d) (ho : zStr o) : ∀ (u : zM), Go p l e s m args below meth c as dA D SHX d 3 zQi 0 [(0, .ref o), (1, .int p1), (2, .int p2)] [] u (f_J0_indexOf_7cf53 o p1 p2 u) := by
  intro u
  unfold f_J0_indexOf_7cf53
  refine G_aload_n C 0 dJ0_indexOf_7cf53_0 rfl rfl ?_
  refine G_callTi C (m_J0_isLatin1_aae02 ho u (d - 1) (by omega)) (d' := d - 1) (As := []) (by omega) rfl wmJ0_492 wwJ0_isLatin1_aae02 ho rfl (Nat.le_of_ble_eq_true rfl) dJ0_indexOf_7cf53_1 (fun y1 u2 => ?_)
  refine G_if_eq (tgt := 23) C dJ0_indexOf_7cf53_4 (by decide) (fun _ => ?_) (fun _ => ?_)
  · refine G_aload_n C 0 dJ0_indexOf_7cf53_23 rfl rfl ?_
    refine G_sval C ho wfJ0_9 dJ0_indexOf_7cf53_24 ?_
    refine G_iload_n C 1 dJ0_indexOf_7cf53_27 rfl rfl ?_
    refine G_iload_n C 2 dJ0_indexOf_7cf53_28 rfl rfl ?_
    refine G_aload_n C 0 dJ0_indexOf_7cf53_29 rfl rfl ?_
    refine G_callTi C (m_J0_length_8abf5 ho u2 (d - 1) (by omega)) (d' := d - 1) (As := []) (by omega) rfl wmJ0_505 wwJ0_length_8abf5 ho rfl (Nat.le_of_ble_eq_true rfl) dJ0_indexOf_7cf53_30 (fun y3 u4 => ?_)
    exact G_none
  · refine G_aload_n C 0 dJ0_indexOf_7cf53_7 rfl rfl ?_
    refine G_sval C ho wfJ0_9 dJ0_indexOf_7cf53_8 ?_
    refine G_iload_n C 1 dJ0_indexOf_7cf53_11 rfl rfl ?_
    refine G_iload_n C 2 dJ0_indexOf_7cf53_12 rfl rfl ?_
    refine G_aload_n C 0 dJ0_indexOf_7cf53_13 rfl rfl ?_
    refine G_callTi C (m_J0_length_8abf5 ho u2 (d - 1) (by omega)) (d' := d - 1) (As := []) (by omega) rfl wmJ0_505 wwJ0_length_8abf5 ho rfl (Nat.le_of_ble_eq_true rfl) dJ0_indexOf_7cf53_14 (fun y5 u6 => ?_)
    refine G_callSi C (m_J1_indexOf_4cfef ho p1 p2 y5 u6 (d - 1) (by omega)) (d' := d - 1) (As := [.ref (o + 10), .int p1, .int p2, .int y5]) (by omega) rfl wmJ0_637 wwJ1_indexOf_4cfef (Nat.le_of_ble_eq_true rfl) dJ0_indexOf_7cf53_17 (fun y7 u8 => ?_)
    refine G_goto (tgt := 36) C dJ0_indexOf_7cf53_20 (by decide) ?_
    exact G_iret C dJ0_indexOf_7cf53_36
theorem m_J0_indexOf_7cf53 {o : Nat} (ho : zStr o) (p1 : Int32) (p2 : Int32) (u : zM) (d : Nat) (hd : 3 ≤ d) : zMet zQi SHX yJ0_indexOf_7cf53 cJ0_indexOf_7cf53 3 ((some FieldType.int)) d [.ref o, .int p1, .int p2] u (f_J0_indexOf_7cf53 o p1 p2 u) :=
  zMet_of (by decide +kernel) (fun as => Nat.le_of_ble_eq_true rfl) wwJ0_indexOf_7cf53.2.2.2.1 (by omega) (fun p l e s m args below meth c as dA D C => go_J0_indexOf_7cf53 C hd ho u)
/-! java/lang/String indexOf (I)I -/
def f_J0_indexOf_0f7a4 (o : Nat) (p1 : Int32) (u : zM) : Option (Int32 × zM) :=
  zb (f_J0_indexOf_7cf53 o p1 (0 : Int32) u) fun y1 u2 => some (y1, u2)
set_option maxRecDepth 20000 in
theorem go_J0_indexOf_0f7a4 {p : Program} {l : Launch} {e : Env} {s : State} {m : MethodId} {args : Array Value} {below : List Frame} {meth : Method} {c : Code} {as : Nat → Nat} {dA : Nat → ClassId} {D : va_G} {d : Nat} {o : Nat} {p1 : Int32} (C : zCx p s m args meth c as dA D SHX d 2 yJ0_indexOf_0f7a4.cls cJ0_indexOf_0f7a4 ((some FieldType.int))) (hd : 4 ≤ d) (ho : zStr o) : ∀ (u : zM), Go p l e s m args below meth c as dA D SHX d 2 zQi 0 [(0, .ref o), (1, .int p1)] [] u (f_J0_indexOf_0f7a4 o p1 u) := by
  intro u
  unfold f_J0_indexOf_0f7a4
  refine G_aload_n C 0 dJ0_indexOf_0f7a4_0 rfl rfl ?_
  refine G_iload_n C 1 dJ0_indexOf_0f7a4_1 rfl rfl ?_
  refine G_iconst (v := 0) C dJ0_indexOf_0f7a4_2 (by decide) ?_
  refine G_callTi C (m_J0_indexOf_7cf53 ho p1 (0 : Int32) u (d - 1) (by omega)) (d' := d - 1) (As := [.int p1, .int (0 : Int32)]) (by omega) rfl wmJ0_633 wwJ0_indexOf_7cf53 ho rfl (Nat.le_of_ble_eq_true rfl) dJ0_indexOf_0f7a4_3 (fun y1 u2 => ?_)
  exact G_iret C dJ0_indexOf_0f7a4_6
theorem m_J0_indexOf_0f7a4 {o : Nat} (ho : zStr o) (p1 : Int32) (u : zM) (d : Nat) (hd : 4 ≤ d) : zMet zQi SHX yJ0_indexOf_0f7a4 cJ0_indexOf_0f7a4 2 ((some FieldType.int)) d [.ref o, .int p1] u (f_J0_indexOf_0f7a4 o p1 u) :=
  zMet_of (by decide +kernel) (fun as => Nat.le_of_ble_eq_true rfl) wwJ0_indexOf_0f7a4.2.2.2.1 (by omega) (fun p l e s m args below meth c as dA D C => go_J0_indexOf_0f7a4 C hd ho u)
