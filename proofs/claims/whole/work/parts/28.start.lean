/-! ===== the start: the classes, what stands outside, both systems made; then the loop ===== -/
abbrev lwF : List Cond := flatC (Jvm.Cond.and given_1 narrow_1)
def tmS (i : Nat) : Term := .string "StruckWhile$Reader" ((zSK.map (fun q => q.1)).getD i 0)
set_option maxRecDepth 100000 in
theorem fl_arr : ∀ k, k < 3 → ∀ j, j < (zSA.map (fun q => q.2.2.length)).getD k 0 → (Cond.eq (.elem (.static ((zSA.map (fun q => q.1)).getD k "") ((zSA.map (fun q => q.2.1)).getD k "") "[I") (.int (Int32.ofNat j))) (.int (((zSA.map (fun q => q.2.2)).getD k []).getD j 0))) ∈ lwF := by decide +kernel
set_option maxRecDepth 100000 in
theorem fl_len : ∀ k, k < 3 → (Cond.eq (.length (.static ((zSA.map (fun q => q.1)).getD k "") ((zSA.map (fun q => q.2.1)).getD k "") "[I")) (.int (Int32.ofNat ((zSA.map (fun q => q.2.2.length)).getD k 0)))) ∈ lwF := by decide +kernel
set_option maxRecDepth 100000 in
theorem fl_of : ∀ k, k < 3 → (Cond.arrayOf (.static ((zSA.map (fun q => q.1)).getD k "") ((zSA.map (fun q => q.2.1)).getD k "") "[I") .int) ∈ lwF := by decide +kernel
set_option maxRecDepth 100000 in
theorem fl_ex : ∀ i, i < 5 → (Cond.exactly (tmS i) "java/lang/String") ∈ lwF := by decide +kernel
set_option maxRecDepth 100000 in
theorem fl_co : ∀ i, i < 5 → (Cond.eq (.field (tmS i) "java/lang/String" "coder" "B") (.int 0)) ∈ lwF := by decide +kernel
set_option maxRecDepth 100000 in
theorem fl_ar : ∀ i, i < 5 → (Cond.arrayOf (.field (tmS i) "java/lang/String" "value" "[B") .byte) ∈ lwF := by decide +kernel
set_option maxRecDepth 100000 in
theorem fl_le : ∀ i, i < 5 → (Cond.eq (.length (.field (tmS i) "java/lang/String" "value" "[B")) (.int (Int32.ofNat ((zSK.map (fun q => q.2.2.length)).getD i 0)))) ∈ lwF := by decide +kernel
set_option maxRecDepth 100000 in
theorem fl_el : ∀ i, i < 5 → ∀ j, j < (zSK.map (fun q => q.2.2.length)).getD i 0 → (Cond.eq (.elem (.field (tmS i) "java/lang/String" "value" "[B") (.int (Int32.ofNat j))) (.int (((zSK.map (fun q => q.2.2)).getD i []).getD j 0))) ∈ lwF := by decide +kernel
set_option maxRecDepth 100000 in
theorem fl_ne : ∀ i, i < 5 → ∀ j, j < 5 → i ≠ j → (Cond.not (Cond.eq (tmS i) (tmS j))) ∈ lwF ∨ (Cond.not (Cond.eq (tmS j) (tmS i))) ∈ lwF := by decide +kernel
set_option maxRecDepth 100000 in
theorem fl_cs : (Cond.eq (.static "java/lang/String" "COMPACT_STRINGS" "Z") (.int 1)) ∈ lwF := by decide +kernel
set_option maxRecDepth 100000 in
theorem fl_si : (Cond.isRef (.static "jdk/internal/util/Preconditions" "SIOOBE_FORMATTER" "Ljava/util/function/BiFunction;")) ∈ lwF := by decide +kernel
/-- what stands outside, at the start -/
theorem start_out {s : State} {a : Array Value} {A : Nat → Prop} (hA : ∀ q : Nat, q < s.heap.size → ¬ A q) (hts : ∀ w ∈ lw_tbl, w.before a s = true) (hfl : ∀ w ∈ lwF, w.before a s = true) : ∃ as0 : Nat → Nat, ∀ as : Nat → Nat, (∀ i, 1000 ≤ i → as i = as0 i) → zSt as A s := by
  have hT : ∀ k, k < 3 → ∃ t : Nat, (Term.static ((zSA.map (fun q => q.1)).getD k "") ((zSA.map (fun q => q.2.1)).getD k "") "[I").eval a s none [] s = some (.ref t) ∧ va_T .int t ((zSA.map (fun q => q.2.2.length)).getD k 0) (fun i => .int (((zSA.map (fun q => q.2.2)).getD k []).getD i 0)) A s s.heap := fun k hk =>
    va_Tof (by match k, hk with
      | 0, _ => decide
      | 1, _ => decide
      | 2, _ => decide) (hfl _ (fl_of k hk)) (va_eqt (hfl _ (fl_len k hk))) (fun j hj => va_eqt (hfl _ (fl_arr k hk j hj))) hA
  obtain ⟨t0, e0, T0⟩ := hT 0 (by decide)
  obtain ⟨t1, e1, T1⟩ := hT 1 (by decide)
  obtain ⟨t2, e2, T2⟩ := hT 2 (by decide)
  have z0 := va_Zof (hts _ (List.mem_of_getElem? (i := 896) (by decide +kernel))) (hts _ (List.mem_of_getElem? (i := 82) (by decide +kernel))) e0 hA
  have z1 := va_Zof (hts _ (List.mem_of_getElem? (i := 899) (by decide +kernel))) (hts _ (List.mem_of_getElem? (i := 88) (by decide +kernel))) e1 hA
  have z2 := va_Zof (hts _ (List.mem_of_getElem? (i := 732) (by decide +kernel))) (hts _ (List.mem_of_getElem? (i := 86) (by decide +kernel))) e2 hA
  have zc := va_Zof (hts _ (List.mem_of_getElem? (i := 542) (by decide +kernel))) (hts _ (List.mem_of_getElem? (i := 94) (by decide +kernel))) (va_eqi (hfl _ fl_cs)) hA
  obtain ⟨adK, adV, hK, hE⟩ := vk_Sof (N := 5) (tm := tmS) (len := zSK.map (fun q => q.2.2.length)) (byt := zSK.map (fun q => q.2.2)) (A := A) (by decide) (fun i hi => hfl _ (fl_ex i hi)) (fun i hi => hfl _ (fl_co i hi)) (fun i hi => hfl _ (fl_ar i hi)) (fun i hi => hfl _ (fl_le i hi)) (fun i hi j hj => hfl _ (fl_el i hi j hj)) (fun i j hi hj hij => (fl_ne i hi j hj hij).elim (fun h => Or.inl (hfl _ h)) (fun h => Or.inr (hfl _ h))) hA
  obtain ⟨ts, zs⟩ : ∃ ts : Nat, va_Z "jdk/internal/util/Preconditions" "SIOOBE_FORMATTER" "Ljava/util/function/BiFunction;" .null A s s.heap ∨ va_Z "jdk/internal/util/Preconditions" "SIOOBE_FORMATTER" "Ljava/util/function/BiFunction;" (.ref ts) A s s.heap := by
    rcases va_Zqof (hts _ (List.mem_of_getElem? (i := 558) (by decide +kernel))) (hts _ (List.mem_of_getElem? (i := 96) (by decide +kernel))) (hfl _ fl_si) hA with h | ⟨t, h⟩
    · exact ⟨0, Or.inl h⟩
    · exact ⟨t, Or.inr h⟩
  refine ⟨fun k => if k = 1000 then t0 else if k = 1001 then t1 else if k = 1002 then t2 else if k = 1030 then ts else if k < 1015 then adK (k - 1010) else adV (k - 1020), fun as has => ⟨fun w hw => zn_of hw (hts w (List.mem_filter.mp hw).1), zc, ?_, ?_, ?_, ?_⟩⟩
  · rw [has 1030 (by decide)]
    exact zs
  · intro k q hk
    match k, hk with
    | 0, hk => cases hk; rw [has 1000 (by decide)]; exact ⟨z0, T0⟩
    | 1, hk => cases hk; rw [has 1001 (by decide)]; exact ⟨z1, T1⟩
    | 2, hk => cases hk; rw [has 1002 (by decide)]; exact ⟨z2, T2⟩
  · have a1 : ∀ i, i < 5 → as (1010 + i) = adK i := fun i hi => match i, hi with
      | 0, _ => (has 1010 (by decide)).trans rfl
      | 1, _ => (has 1011 (by decide)).trans rfl
      | 2, _ => (has 1012 (by decide)).trans rfl
      | 3, _ => (has 1013 (by decide)).trans rfl
      | 4, _ => (has 1014 (by decide)).trans rfl
    have a2 : ∀ i, i < 5 → as (1020 + i) = adV i := fun i hi => match i, hi with
      | 0, _ => (has 1020 (by decide)).trans rfl
      | 1, _ => (has 1021 (by decide)).trans rfl
      | 2, _ => (has 1022 (by decide)).trans rfl
      | 3, _ => (has 1023 (by decide)).trans rfl
      | 4, _ => (has 1024 (by decide)).trans rfl
    refine ⟨fun i hi => ?_, fun i j hi hj h => ?_⟩
    · have h1 := hK.1 i hi
      rw [← a1 i hi, ← a2 i hi] at h1
      exact h1
    · have h : as (1010 + i) = as (1010 + j) := h
      rw [a1 i hi, a1 j hj] at h
      exact hK.2 i j hi hj h
  · intro k q hk
    have hk5 : k < 5 := (List.getElem?_eq_some_iff.mp hk).1
    have a1 : as (1010 + k) = adK k := match k, hk5 with
      | 0, _ => (has 1010 (by decide)).trans rfl
      | 1, _ => (has 1011 (by decide)).trans rfl
      | 2, _ => (has 1012 (by decide)).trans rfl
      | 3, _ => (has 1013 (by decide)).trans rfl
      | 4, _ => (has 1014 (by decide)).trans rfl
    rw [a1]
    match k, hk with
    | 0, hk => cases hk; exact vk_R.of (hts _ (List.mem_of_getElem? (i := 528) (by decide +kernel))) (hE 0 hk5)
    | 1, hk => cases hk; exact vk_R.of (hts _ (List.mem_of_getElem? (i := 610) (by decide +kernel))) (hE 1 hk5)
    | 2, hk => cases hk; exact vk_R.of (hts _ (List.mem_of_getElem? (i := 670) (by decide +kernel))) (hE 2 hk5)
    | 3, hk => cases hk; exact vk_R.of (hts _ (List.mem_of_getElem? (i := 684) (by decide +kernel))) (hE 3 hk5)
    | 4, hk => cases hk; exact vk_R.of (hts _ (List.mem_of_getElem? (i := 685) (by decide +kernel))) (hE 4 hk5)
/-- the classes of objects and of arrays -/
theorem start_K {s : State} {a : Array Value} (hts : ∀ w ∈ lw_tbl, w.before a s = true) : ∃ (D : va_G) (dA : Nat → ClassId), va_K D zcl (zty dA) s ∧ dA 6 = dA 4 ∧ dA 7 = dA 5 ∧ zOut s := by
  have htz : ∀ w ∈ zTb, w.before a s = true := fun w hw => hts w (zt_in hw)
  obtain ⟨c0, iS0, hKn0⟩ := u_known (C := RX0) (T := TX0) (N := 5) (n := 5) htz inX0 (htz _ wx0)
  obtain ⟨c1, iS1, hKn1⟩ := u_known (C := RX1) (T := TX1) (N := 6) (n := 6) htz inX1 (htz _ wx1)
  obtain ⟨c2, iS2, hKn2⟩ := u_known (C := RX2) (T := TX2) (N := 4) (n := 4) htz inX2 (htz _ wx2)
  obtain ⟨c3, iS3, hKn3⟩ := u_known (C := RX3) (T := TX3) (N := 4) (n := 4) htz inX3 (htz _ wx3)
  obtain ⟨c4, iS4, hKn4⟩ := u_known (C := RX4) (T := TX4) (N := 5) (n := 5) htz inX4 (htz _ wx4)
  obtain ⟨c5, iS5, hKn5⟩ := u_known (C := RX5) (T := TX5) (N := 3) (n := 3) htz inX5 (htz _ wx5)
  obtain ⟨c6, iS6, hKn6⟩ := u_known (C := RX6) (T := TX6) (N := 15) (n := 15) htz inX6 (htz _ wx6)
  obtain ⟨c7, iS7, hKn7⟩ := u_known (C := RX7) (T := TX7) (N := 4) (n := 4) htz inX7 (htz _ wx7)
  obtain ⟨c8, iS8, hKn8⟩ := u_known (C := RX8) (T := TX8) (N := 10) (n := 10) htz inX8 (htz _ wx8)
  obtain ⟨c9, iS9, hKn9⟩ := u_known (C := RX9) (T := TX9) (N := 78) (n := 78) htz inX9 (htz _ wx9)
  have harr : ∀ ty : FieldType, Cond.arrayClass ty ∈ zTb → ∃ cA, ArrOfT s cA ty ∧ s.vm.findClass ("[" ++ ty.toString) = some cA := fun ty hw => by
    obtain ⟨cA, kA, comp, h1, h2, h3⟩ := Cond.arrayClass_spec (htz _ hw)
    exact ⟨cA, fun n z => ⟨fun k h => (by cases h), kA, h2, comp, h3⟩, h1⟩
  obtain ⟨cI, aI, nI'⟩ := harr .int wa_int
  obtain ⟨cZ, aZ, nZ⟩ := harr .boolean wa_boolean
  obtain ⟨cB, aB, nB⟩ := harr .byte wa_byte
  obtain ⟨cJ, aJ, nJ⟩ := harr .long wa_long
  have hq : va_AO "StruckWhile$Square" s := va_AO.of (hts _ (List.mem_of_getElem? (i := 284) (by decide +kernel)))
  have hg0 : (Cond.arrayOver (.array .long)).before a s = true := hts _ (List.mem_of_getElem? (i := 316) (by decide +kernel))
  have hg : zAOA s := hg0
  obtain ⟨qc, cQ, qk, q1, q2, q3, q4, q5⟩ := Cond.arrayOver_spec hq
  obtain ⟨gc, cG, gk, g1, g2, g3, g4, g5⟩ := zAOA_spec hg
  have aQ : ArrOfT s cQ (.object "StruckWhile$Square") := fun n z => ⟨fun k h => (by cases h), qk, q3, qc, q4⟩
  have aG : ArrOfT s cG (.array .long) := fun n z => ⟨fun k h => (by cases h), gk, g3, gc, g4⟩
  refine ⟨(fun k => match k with | 0 => c0 | 1 => c1 | 2 => c2 | 3 => c3 | 4 => c4 | 5 => c5 | 6 => c6 | 7 => c7 | 8 => c8 | 9 => c9 | _ => 0, fun k => match k with | 0 => iS0 | 1 => iS1 | 2 => iS2 | 3 => iS3 | 4 => iS4 | 5 => iS5 | 6 => iS6 | 7 => iS7 | 8 => iS8 | 9 => iS9 | _ => fun _ => 0), fun k => match k with | 0 => cI | 1 => cZ | 2 => cB | 3 => cJ | 4 => cQ | 5 => cG | 6 => cQ | 7 => cG | _ => 0, ⟨?_, ?_⟩, rfl, rfl, ⟨fun w hw => zn_of hw (hts w (List.mem_filter.mp hw).1), hq, hg⟩⟩
  · intro k q hk
    match k, hk with
    | 0, hk => cases hk; exact hKn0
    | 1, hk => cases hk; exact hKn1
    | 2, hk => cases hk; exact hKn2
    | 3, hk => cases hk; exact hKn3
    | 4, hk => cases hk; exact hKn4
    | 5, hk => cases hk; exact hKn5
    | 6, hk => cases hk; exact hKn6
    | 7, hk => cases hk; exact hKn7
    | 8, hk => cases hk; exact hKn8
    | 9, hk => cases hk; exact hKn9
  · intro k q hk
    match k, hk with
    | 0, hk => cases hk; exact ⟨aI, nI'⟩
    | 1, hk => cases hk; exact ⟨aZ, nZ⟩
    | 2, hk => cases hk; exact ⟨aB, nB⟩
    | 3, hk => cases hk; exact ⟨aJ, nJ⟩
    | 4, hk => cases hk; exact ⟨aQ, qk, qc, q3, q4, q1, q5⟩
    | 5, hk => cases hk; exact ⟨aG, g5⟩
