/-! ===== fields, arrays, calls, ends ===== -/
section GoMem
variable {p : Program} {l : Launch} {e : Env} {s : State} {m : MethodId} {args : Array Value} {below : List Frame} {meth : Method} {c : Code} {as : Nat → Nat} {dA : Nat → ClassId} {D : va_G} {SH : List zS} {d nL : Nat} {α : Type} {Qk : (Nat → Nat) → (Nat → ClassId) → va_G → List zS → Nat → α → zM → Array Value → State → Outcome → State → Prop}
variable {own : String} {cc : ByteArray} {ret : Option FieldType} {pc : Nat} {L : List (Nat × Value)} {st : List Value} {u : zM} {F : Option (α × zM)}
theorem zgood_of {ws : List Cond} (h : ∀ w ∈ ws, w ∈ zTb) : GoodIn zTb ws := fun w hw => ⟨h w hw, good_of_word (zt_good (h w hw))⟩
theorem zw_obj {a ci : Nat} {ks : List Nat} (hs : SH[a]? = some (.inl (ci, ks))) : (zw as dA SH u)[a]? = some (as a, .inr (ci, ks.mapIdx (fun k kd => zfield as u a k kd))) := zw_get hs
theorem zw_arr {a : Nat} {r : Nat × Nat × Nat × Nat} (hs : SH[a]? = some (.inr r)) : (zw as dA SH u)[a]? = some (as a, .inl (dA r.1, zarr as u a r.2.1 r.2.2.1 r.2.2.2 r.1)) := zw_get hs
theorem zf_get {a k kd : Nat} {ks : List Nat} (hk : ks[k]? = some kd) : (ks.mapIdx (fun k kd => zfield as u a k kd))[k]? = some (zfield as u a k kd) := by
  rw [List.getElem?_mapIdx, hk]
  rfl
theorem zf_len {a k kd : Nat} {ks : List Nat} (hk : ks[k]? = some kd) : k < (ks.mapIdx (fun k kd => zfield as u a k kd)).length := by
  rw [List.length_mapIdx]
  exact (List.getElem?_eq_some_iff.mp hk).1
theorem zfield_I2 {a k : Nat} {x : Int32} (j kj : Nat) (h : j ≠ k) : zfield as (sI u a k x) a j kj = zfield as u a j kj := zfield_I kj (fun q => h q.2)
theorem zfield_O2 {a k : Nat} {x : Option Nat} (j kj : Nat) (h : j ≠ k) : zfield as (sO u a k x) a j kj = zfield as u a j kj := by
  match kj with
  | 0 => rfl
  | 1 => rfl
  | 2 => show va_rf _ = va_rf _; unfold gO sO; dsimp only; rw [if_neg (fun q => h q.2)]
  | _ + 3 => rfl
theorem gI_same {a k : Nat} {x : Int32} : gI (sI u a k x) a k = x := by unfold gI sI; dsimp only; rw [if_pos ⟨rfl, rfl⟩]
theorem gJ_same {a k : Nat} {x : Int64} : gJ (sJ u a k x) a k = x := by unfold gJ sJ; dsimp only; rw [if_pos ⟨rfl, rfl⟩]
theorem gO_same {a k : Nat} {x : Option Nat} : gO (sO u a k x) a k = x := by unfold gO sO; dsimp only; rw [if_pos ⟨rfl, rfl⟩]
theorem gI_upd {a k : Nat} {x : Int32} : gI (sI u a k x) a = upd (gI u a) k x := by
  funext j
  unfold gI sI upd
  dsimp only
  by_cases h : j = k
  · rw [if_pos ⟨rfl, h⟩, if_pos h]
  · rw [if_neg (fun q => h q.2), if_neg h]
theorem gJ_upd {a k : Nat} {x : Int64} : gJ (sJ u a k x) a = vp_updL (gJ u a) k x := by
  funext j
  unfold gJ sJ vp_updL
  dsimp only
  by_cases h : j = k
  · rw [if_pos ⟨rfl, h⟩, if_pos h]
  · rw [if_neg (fun q => h q.2), if_neg h]
/-- n numbers of one array come to another (or the same) -/
def cpI (u : zM) (a sp b dp n : Nat) : zM := (fun q j => if q = b ∧ dp ≤ j ∧ j < dp + n then u.1 a (sp + (j - dp)) else u.1 q j, u.2.1, u.2.2)
def cpJ (u : zM) (a sp b dp n : Nat) : zM := (u.1, fun q j => if q = b ∧ dp ≤ j ∧ j < dp + n then u.2.1 a (sp + (j - dp)) else u.2.1 q j, u.2.2)
def cpB (sp dp n : Int32) (n0 n1 : Nat) : Bool := decide (¬ sp < 0 ∧ ¬ dp < 0 ∧ ¬ n < 0 ∧ sp.toNatClampNeg + n.toNatClampNeg ≤ n0 ∧ dp.toNatClampNeg + n.toNatClampNeg ≤ n1)
theorem gI_cp {a sp b dp n : Nat} : gI (cpI u a sp b dp n) b = va_cpy (gI u a) (gI u b) sp dp n := by
  funext j
  unfold gI cpI va_cpy
  dsimp only
  by_cases h : dp ≤ j ∧ j < dp + n
  · rw [if_pos ⟨rfl, h⟩, if_pos h]
  · rw [if_neg (fun q => h q.2), if_neg h]
theorem gJ_cp {a sp b dp n : Nat} : gJ (cpJ u a sp b dp n) b = va_cpy (gJ u a) (gJ u b) sp dp n := by
  funext j
  unfold gJ cpJ va_cpy
  dsimp only
  by_cases h : dp ≤ j ∧ j < dp + n
  · rw [if_pos ⟨rfl, h⟩, if_pos h]
  · rw [if_neg (fun q => h q.2), if_neg h]
theorem zcell_cpI {a sp b dp n : Nat} (q : Nat) (S : zS) (h : q ≠ b) : zcell as dA (cpI u a sp b dp n) q S = zcell as dA u q S := by
  have e : gI (cpI u a sp b dp n) q = gI u q := by funext j; unfold gI cpI; dsimp only; rw [if_neg (fun z => h z.1)]
  cases S with
  | inl o =>
    have e2 : (fun j kd => zfield as (cpI u a sp b dp n) q j kd) = fun j kd => zfield as u q j kd := by
      funext j kd
      match kd with
      | 0 => show Value.int _ = Value.int _; rw [e]
      | 1 => rfl
      | 2 => rfl
      | _ + 3 => rfl
    show Sum.inr (o.1, o.2.mapIdx (fun j kd => zfield as (cpI u a sp b dp n) q j kd)) = Sum.inr (o.1, o.2.mapIdx (fun j kd => zfield as u q j kd))
    rw [e2]
  | inr r =>
    show Sum.inl _ = Sum.inl _
    congr 2
    obtain ⟨t, n, p, q⟩ := r
    dsimp only
    unfold zarr
    split <;> first | rw [e] | rfl
theorem zcell_cpJ {a sp b dp n : Nat} (q : Nat) (S : zS) (h : q ≠ b) : zcell as dA (cpJ u a sp b dp n) q S = zcell as dA u q S := by
  have e : gJ (cpJ u a sp b dp n) q = gJ u q := by funext j; unfold gJ cpJ; dsimp only; rw [if_neg (fun z => h z.1)]
  cases S with
  | inl o =>
    have e2 : (fun j kd => zfield as (cpJ u a sp b dp n) q j kd) = fun j kd => zfield as u q j kd := by
      funext j kd
      match kd with
      | 0 => rfl
      | 1 => show Value.long _ = Value.long _; rw [e]
      | 2 => rfl
      | _ + 3 => rfl
    show Sum.inr (o.1, o.2.mapIdx (fun j kd => zfield as (cpJ u a sp b dp n) q j kd)) = Sum.inr (o.1, o.2.mapIdx (fun j kd => zfield as u q j kd))
    rw [e2]
  | inr r =>
    show Sum.inl _ = Sum.inl _
    congr 2
    obtain ⟨t, n, p, q⟩ := r
    dsimp only
    unfold zarr
    split <;> first | rw [e] | rfl

theorem G_getI (C : zCx p s m args meth c as dA D SH d nL own cc ret) {ci : Nat} {Cn : String} {T : u_T} {N : Nat} (fk : Nat) {a index : Nat} {ks : List Nat} (hs : SH[a]? = some (.inl (ci, ks))) (hc : zcl[ci]? = some (Cn, T, N)) (hk : ks[fk]? = some 0) (hkN : fk < N) (hw : Cond.fieldLink own index (T fk).1 (T fk).2.1 (T fk).2.2.1 ∈ zTb) (hdg : decode cc pc = .ok (.getfield index, 3)) (k : Go p l e s m args below meth c as dA D SH d nL Qk  (pc + 3) L (.int (gI u a fk) :: st) u F) : Go p l e s m args below meth c as dA D SH d nL Qk  pc L (.ref a :: st) u F := by
  obtain ⟨hx, hb, hml, hown, hts, hr, hlk, hK, hI, hZ, hd1⟩ := C
  intro r u' hF H locs ls hP hS hl
  have hq := zcl_ok _ (List.mem_of_getElem? hc)
  obtain ⟨hin, ⟨ty0, hty⟩, hnm⟩ := hq
  exact va_get hx hb hts hin hown hK hP a (zw_obj hs) hc fk hkN (hts _ hw) (fun _ h9 => h9) (zf_get hk) hdg (k r u' hF H locs ls hP hS hl)
theorem G_getR (C : zCx p s m args meth c as dA D SH d nL own cc ret) {ci : Nat} {Cn : String} {T : u_T} {N : Nat} (fk : Nat) {a index : Nat} {ks : List Nat} {j : Nat} (hs : SH[a]? = some (.inl (ci, ks))) (hc : zcl[ci]? = some (Cn, T, N)) (hk : ks[fk]? = some (j + 3)) (hkN : fk < N) (hw : Cond.fieldLink own index (T fk).1 (T fk).2.1 (T fk).2.2.1 ∈ zTb) (hdg : decode cc pc = .ok (.getfield index, 3)) (k : Go p l e s m args below meth c as dA D SH d nL Qk  (pc + 3) L (.ref j :: st) u F) : Go p l e s m args below meth c as dA D SH d nL Qk  pc L (.ref a :: st) u F := by
  obtain ⟨hx, hb, hml, hown, hts, hr, hlk, hK, hI, hZ, hd1⟩ := C
  intro r u' hF H locs ls hP hS hl
  have hq := zcl_ok _ (List.mem_of_getElem? hc)
  obtain ⟨hin, ⟨ty0, hty⟩, hnm⟩ := hq
  exact va_get hx hb hts hin hown hK hP a (zw_obj hs) hc fk hkN (hts _ hw) (fun _ h9 => h9) (zf_get hk) hdg (k r u' hF H locs ls hP hS hl)
theorem G_getO (C : zCx p s m args meth c as dA D SH d nL own cc ret) {ci : Nat} {Cn : String} {T : u_T} {N : Nat} (fk : Nat) {a index : Nat} {ks : List Nat} {k0 : Option (α × zM)} {k1 : Nat → Option (α × zM)} (hs : SH[a]? = some (.inl (ci, ks))) (hc : zcl[ci]? = some (Cn, T, N)) (hk : ks[fk]? = some 2) (hkN : fk < N) (hw : Cond.fieldLink own index (T fk).1 (T fk).2.1 (T fk).2.2.1 ∈ zTb) (hdg : decode cc pc = .ok (.getfield index, 3)) (h0 : gO u a fk = none → Go p l e s m args below meth c as dA D SH d nL Qk  (pc + 3) L (.null :: st) u k0) (h1 : ∀ x : Nat, gO u a fk = some x → Go p l e s m args below meth c as dA D SH d nL Qk  (pc + 3) L (.ref x :: st) u (k1 x)) : Go p l e s m args below meth c as dA D SH d nL Qk  pc L (.ref a :: st) u (zmo (gO u a fk) k0 k1) := by
  obtain ⟨hx, hb, hml, hown, hts, hr, hlk, hK, hI, hZ, hd1⟩ := C
  intro r u' hF H locs ls hP hS hl
  have hq := zcl_ok _ (List.mem_of_getElem? hc)
  obtain ⟨hin, ⟨ty0, hty⟩, hnm⟩ := hq
  refine va_get hx hb hts hin hown hK hP a (zw_obj hs) hc fk hkN (hts _ hw) (fun _ h9 => h9) (zf_get hk) hdg ?_
  show W p l e (zRm d) s m args below meth c H locs 0 0 _ (F0 m (pc + 3) ls (va_rf ((gO u a fk).map as) :: st.map (zr as)))
  cases ho : gO u a fk with
  | none => rw [ho] at hF; exact h0 ho r u' hF H locs ls hP hS hl
  | some x => rw [ho] at hF; exact h1 x ho r u' hF H locs ls hP hS hl
theorem G_putI (C : zCx p s m args meth c as dA D SH d nL own cc ret) {ci : Nat} {Cn : String} {T : u_T} {N : Nat} (fk : Nat) {a index : Nat} {ks : List Nat} {ty : FieldType} {x : Int32} {F : zM → Option (α × zM)} (hs : SH[a]? = some (.inl (ci, ks))) (hc : zcl[ci]? = some (Cn, T, N)) (hk : ks[fk]? = some 0) (hkN : fk < N) (hw : Cond.fieldLink own index (T fk).1 (T fk).2.1 (T fk).2.2.1 ∈ zTb) (hfin : (T fk).2.2.2 = false) (hd : parseFieldDescriptor (T fk).2.2.1 = some ty) (hn : narrow ty (.int x) = .int x) (hfit : fits ty (.int x) = true) (hdg : decode cc pc = .ok (.putfield index, 3)) (k : ∀ v : zM, Go p l e s m args below meth c as dA D SH d nL Qk  (pc + 3) L st v (F v)) : Go p l e s m args below meth c as dA D SH d nL Qk  pc L (.int x :: .ref a :: st) u (zlet (sI u a fk x) F) := by
  obtain ⟨hx, hb, hml, hown, hts, hr, hlk, hK, hI, hZ, hd1⟩ := C
  intro r u' hF H locs ls hP hS hl
  have hq := zcl_ok _ (List.mem_of_getElem? hc)
  obtain ⟨hin, ⟨ty0, hty⟩, hnm⟩ := hq
  refine va_put hx hb hts hin ty0 hty hnm hown hK hP (zw_DA hI) hS a (zw_obj hs) hc fk hkN (hts _ hw) (fun _ h9 => h9) hfin hd hn hfit (zf_len hk) hdg (fun H1 locs1 hP1 _ hS1 => ?_)
  rw [zw_set (u' := sI u a fk x) hs (by show Sum.inr _ = Sum.inr _; rw [zfs_set hk (u' := sI u a fk x) (by show Value.int x = Value.int (gI (sI u a fk x) a fk); rw [gI_same]) (fun j kj h => zfield_I2 j kj h)]) (fun b S' h => zcell_I b S' h)] at hP1
  exact k _ r u' hF H1 locs1 ls hP1 hS1 hl
theorem G_putO (C : zCx p s m args meth c as dA D SH d nL own cc ret) {ci : Nat} {Cn : String} {T : u_T} {N : Nat} (fk : Nat) {a index : Nat} {ks : List Nat} {C2 : String} {x : Nat} {F : zM → Option (α × zM)} (hs : SH[a]? = some (.inl (ci, ks))) (hc : zcl[ci]? = some (Cn, T, N)) (hk : ks[fk]? = some 2) (hkN : fk < N) (hw : Cond.fieldLink own index (T fk).1 (T fk).2.1 (T fk).2.2.1 ∈ zTb) (hfin : (T fk).2.2.2 = false) (hd : parseFieldDescriptor (T fk).2.2.1 = some (.object C2)) (hdg : decode cc pc = .ok (.putfield index, 3)) (k : ∀ v : zM, Go p l e s m args below meth c as dA D SH d nL Qk  (pc + 3) L st v (F v)) : Go p l e s m args below meth c as dA D SH d nL Qk  pc L (.ref x :: .ref a :: st) u (zlet (sO u a fk (some x)) F) := by
  obtain ⟨hx, hb, hml, hown, hts, hr, hlk, hK, hI, hZ, hd1⟩ := C
  intro r u' hF H locs ls hP hS hl
  have hq := zcl_ok _ (List.mem_of_getElem? hc)
  obtain ⟨hin, ⟨ty0, hty⟩, hnm⟩ := hq
  refine va_put (v := .ref (as x)) hx hb hts hin ty0 hty hnm hown hK hP (zw_DA hI) hS a (zw_obj hs) hc fk hkN (hts _ hw) (fun _ h9 => h9) hfin hd rfl rfl (zf_len hk) hdg (fun H1 locs1 hP1 _ hS1 => ?_)
  rw [zw_set (u' := sO u a fk (some x)) hs (by show Sum.inr _ = Sum.inr _; rw [zfs_set hk (u' := sO u a fk (some x)) (by show Value.ref (as x) = va_rf ((gO (sO u a fk (some x)) a fk).map as); rw [gO_same]; rfl) (fun j kj h => zfield_O2 j kj h)]) (fun b S' h => zcell_O b S' h)] at hP1
  exact k _ r u' hF H1 locs1 ls hP1 hS1 hl
theorem G_putON (C : zCx p s m args meth c as dA D SH d nL own cc ret) {ci : Nat} {Cn : String} {T : u_T} {N : Nat} (fk : Nat) {a index : Nat} {ks : List Nat} {C2 : String} {F : zM → Option (α × zM)} (hs : SH[a]? = some (.inl (ci, ks))) (hc : zcl[ci]? = some (Cn, T, N)) (hk : ks[fk]? = some 2) (hkN : fk < N) (hw : Cond.fieldLink own index (T fk).1 (T fk).2.1 (T fk).2.2.1 ∈ zTb) (hfin : (T fk).2.2.2 = false) (hd : parseFieldDescriptor (T fk).2.2.1 = some (.object C2)) (hdg : decode cc pc = .ok (.putfield index, 3)) (k : ∀ v : zM, Go p l e s m args below meth c as dA D SH d nL Qk  (pc + 3) L st v (F v)) : Go p l e s m args below meth c as dA D SH d nL Qk  pc L (.null :: .ref a :: st) u (zlet (sO u a fk none) F) := by
  obtain ⟨hx, hb, hml, hown, hts, hr, hlk, hK, hI, hZ, hd1⟩ := C
  intro r u' hF H locs ls hP hS hl
  have hq := zcl_ok _ (List.mem_of_getElem? hc)
  obtain ⟨hin, ⟨ty0, hty⟩, hnm⟩ := hq
  refine va_put (v := .null) hx hb hts hin ty0 hty hnm hown hK hP (zw_DA hI) hS a (zw_obj hs) hc fk hkN (hts _ hw) (fun _ h9 => h9) hfin hd rfl rfl (zf_len hk) hdg (fun H1 locs1 hP1 _ hS1 => ?_)
  rw [zw_set (u' := sO u a fk none) hs (by show Sum.inr _ = Sum.inr _; rw [zfs_set hk (u' := sO u a fk none) (by show Value.null = va_rf ((gO (sO u a fk none) a fk).map as); rw [gO_same]; rfl) (fun j kj h => zfield_O2 j kj h)]) (fun b S' h => zcell_O b S' h)] at hP1
  exact k _ r u' hF H1 locs1 ls hP1 hS1 hl
theorem G_iald (C : zCx p s m args meth c as dA D SH d nL own cc ret) {a n b sd : Nat} {i : Int32} (hs : SH[a]? = some (.inr (0, n, b, sd))) (hdg : decode cc pc = .ok (.iaload, 1)) (k : inB i n = true → Go p l e s m args below meth c as dA D SH d nL Qk  (pc + 1) L (.int (gI u a i.toNatClampNeg) :: st) u F) : Go p l e s m args below meth c as dA D SH d nL Qk  pc L (.int i :: .ref a :: st) u (zck (inB i n) F) := by
  obtain ⟨hx, hb, hml, hown, hts, hr, hlk, hK, hI, hZ, hd1⟩ := C
  intro r u' hF H locs ls hP hS hl
  obtain ⟨h1, hF⟩ := zck_some hF
  exact va_iald hx hb hK hP a 0 (zw_arr hs) rfl (inB_in h1) hdg (k h1 r u' hF H locs ls hP hS hl)
theorem G_zald (C : zCx p s m args meth c as dA D SH d nL own cc ret) {a n b sd : Nat} {i : Int32} (hs : SH[a]? = some (.inr (1, n, b, sd))) (hdg : decode cc pc = .ok (.baload, 1)) (k : inB i n = true → Go p l e s m args below meth c as dA D SH d nL Qk  (pc + 1) L (.int (gI u a i.toNatClampNeg) :: st) u F) : Go p l e s m args below meth c as dA D SH d nL Qk  pc L (.int i :: .ref a :: st) u (zck (inB i n) F) := by
  obtain ⟨hx, hb, hml, hown, hts, hr, hlk, hK, hI, hZ, hd1⟩ := C
  intro r u' hF H locs ls hP hS hl
  obtain ⟨h1, hF⟩ := zck_some hF
  exact va_zald hx hb hK hP a 1 (zw_arr hs) rfl (inB_in h1) hdg (k h1 r u' hF H locs ls hP hS hl)
theorem G_bald (C : zCx p s m args meth c as dA D SH d nL own cc ret) {a n b sd : Nat} {i : Int32} (hs : SH[a]? = some (.inr (2, n, b, sd))) (hdg : decode cc pc = .ok (.baload, 1)) (k : inB i n = true → Go p l e s m args below meth c as dA D SH d nL Qk  (pc + 1) L (.int (gI u a i.toNatClampNeg) :: st) u F) : Go p l e s m args below meth c as dA D SH d nL Qk  pc L (.int i :: .ref a :: st) u (zck (inB i n) F) := by
  obtain ⟨hx, hb, hml, hown, hts, hr, hlk, hK, hI, hZ, hd1⟩ := C
  intro r u' hF H locs ls hP hS hl
  obtain ⟨h1, hF⟩ := zck_some hF
  exact va_bald hx hb hK hP a 2 (zw_arr hs) rfl (inB_in h1) hdg (k h1 r u' hF H locs ls hP hS hl)
theorem G_lald (C : zCx p s m args meth c as dA D SH d nL own cc ret) {a n b sd : Nat} {i : Int32} (hs : SH[a]? = some (.inr (3, n, b, sd))) (hdg : decode cc pc = .ok (.laload, 1)) (k : inB i n = true → Go p l e s m args below meth c as dA D SH d nL Qk  (pc + 1) L (.long (gJ u a i.toNatClampNeg) :: st) u F) : Go p l e s m args below meth c as dA D SH d nL Qk  pc L (.int i :: .ref a :: st) u (zck (inB i n) F) := by
  obtain ⟨hx, hb, hml, hown, hts, hr, hlk, hK, hI, hZ, hd1⟩ := C
  intro r u' hF H locs ls hP hS hl
  obtain ⟨h1, hF⟩ := zck_some hF
  exact va_lald hx hb hK hP a 3 (zw_arr hs) rfl (inB_in h1) hdg (k h1 r u' hF H locs ls hP hS hl)
theorem G_aald4 (C : zCx p s m args meth c as dA D SH d nL own cc ret) {a n b sd : Nat} {i : Int32} (hs : SH[a]? = some (.inr (4, n, b, sd))) (hdg : decode cc pc = .ok (.aaload, 1)) (k : inB i n = true → Go p l e s m args below meth c as dA D SH d nL Qk  (pc + 1) L (.ref (b + sd * i.toNatClampNeg) :: st) u F) : Go p l e s m args below meth c as dA D SH d nL Qk  pc L (.int i :: .ref a :: st) u (zck (inB i n) F) := by
  obtain ⟨hx, hb, hml, hown, hts, hr, hlk, hK, hI, hZ, hd1⟩ := C
  intro r u' hF H locs ls hP hS hl
  obtain ⟨h1, hF⟩ := zck_some hF
  exact va_aldq hx hb hK hP a 4 (zw_arr hs) rfl (inB_in h1) hdg (k h1 r u' hF H locs ls hP hS hl)
theorem G_aald5 (C : zCx p s m args meth c as dA D SH d nL own cc ret) {a n b sd : Nat} {i : Int32} (hs : SH[a]? = some (.inr (5, n, b, sd))) (hdg : decode cc pc = .ok (.aaload, 1)) (k : inB i n = true → Go p l e s m args below meth c as dA D SH d nL Qk  (pc + 1) L (.ref (b + sd * i.toNatClampNeg) :: st) u F) : Go p l e s m args below meth c as dA D SH d nL Qk  pc L (.int i :: .ref a :: st) u (zck (inB i n) F) := by
  obtain ⟨hx, hb, hml, hown, hts, hr, hlk, hK, hI, hZ, hd1⟩ := C
  intro r u' hF H locs ls hP hS hl
  obtain ⟨h1, hF⟩ := zck_some hF
  have hin := inB_in h1
  have hlt : i.toNatClampNeg < n := Nat.not_le.mp fun q => hin (Or.inr q)
  have ha : (zw as dA SH u)[a]? = some (as a, .inl (dA 5, n, .inr (.inr (.inr (.inr (fun j => some (as (b + sd * j)))))))) := zw_arr hs
  exact W.aald (v := va_rf (some (as (b + sd * i.toNatClampNeg)))) (ty := .array .long) hx hb (hP a _ ha) ((hK.2 5 _ rfl).1 n (fun j => va_rf (some (as (b + sd * j))))) rfl (fun q => by cases q) (by show ¬ (i < 0 ∨ (arrV _ _ _).slots.size ≤ _); rw [arrV_size]; exact hin) (by show (arrV (dA 5) n (fun j => va_rf (some (as (b + sd * j))))).slots[_]? = _; rw [arrV_read _ _ hlt]) rfl rfl hdg (k h1 r u' hF H locs ls hP hS hl)
theorem G_iast (C : zCx p s m args meth c as dA D SH d nL own cc ret) {a n b sd : Nat} {i : Int32} {x : Int32} {F : zM → Option (α × zM)} (hs : SH[a]? = some (.inr (0, n, b, sd))) (hdg : decode cc pc = .ok (.iastore, 1)) (k : inB i n = true → ∀ v : zM, Go p l e s m args below meth c as dA D SH d nL Qk  (pc + 1) L st v (F v)) : Go p l e s m args below meth c as dA D SH d nL Qk  pc L (.int x :: .int i :: .ref a :: st) u (zck (inB i n) (zlet (sI u a i.toNatClampNeg x) F)) := by
  obtain ⟨hx, hb, hml, hown, hts, hr, hlk, hK, hI, hZ, hd1⟩ := C
  intro r u' hF H locs ls hP hS hl
  obtain ⟨h1, hF⟩ := zck_some hF
  refine va_iast hx hb hK hP (zw_DA hI) hS a 0 (zw_arr hs) rfl (inB_in h1) hdg (fun H1 locs1 hP1 _ hS1 => ?_)
  rw [zw_set (u' := sI u a i.toNatClampNeg x) hs (by show Sum.inl (_, _, Sum.inl _) = Sum.inl (_, _, Sum.inl (gI (sI u a i.toNatClampNeg x) a)); rw [gI_upd]) (fun b S' h => zcell_I b S' h)] at hP1
  exact k h1 _ r u' hF H1 locs1 ls hP1 hS1 hl
theorem G_zast (C : zCx p s m args meth c as dA D SH d nL own cc ret) {a n b sd : Nat} {i : Int32} {x : Int32} {F : zM → Option (α × zM)} (hs : SH[a]? = some (.inr (1, n, b, sd))) (hdg : decode cc pc = .ok (.bastore, 1)) (k : inB i n = true → ∀ v : zM, Go p l e s m args below meth c as dA D SH d nL Qk  (pc + 1) L st v (F v)) : Go p l e s m args below meth c as dA D SH d nL Qk  pc L (.int x :: .int i :: .ref a :: st) u (zck (inB i n) (zlet (sI u a i.toNatClampNeg (vp_nar .boolean x)) F)) := by
  obtain ⟨hx, hb, hml, hown, hts, hr, hlk, hK, hI, hZ, hd1⟩ := C
  intro r u' hF H locs ls hP hS hl
  obtain ⟨h1, hF⟩ := zck_some hF
  refine va_zast hx hb hK hP (zw_DA hI) hS a 1 (zw_arr hs) rfl (inB_in h1) hdg (fun H1 locs1 hP1 _ hS1 => ?_)
  rw [zw_set (u' := sI u a i.toNatClampNeg (vp_nar .boolean x)) hs (by show Sum.inl (_, _, Sum.inl _) = Sum.inl (_, _, Sum.inl (gI (sI u a i.toNatClampNeg (vp_nar .boolean x)) a)); rw [gI_upd]) (fun b S' h => zcell_I b S' h)] at hP1
  exact k h1 _ r u' hF H1 locs1 ls hP1 hS1 hl
theorem G_bast (C : zCx p s m args meth c as dA D SH d nL own cc ret) {a n b sd : Nat} {i : Int32} {x : Int32} {F : zM → Option (α × zM)} (hs : SH[a]? = some (.inr (2, n, b, sd))) (hdg : decode cc pc = .ok (.bastore, 1)) (k : inB i n = true → ∀ v : zM, Go p l e s m args below meth c as dA D SH d nL Qk  (pc + 1) L st v (F v)) : Go p l e s m args below meth c as dA D SH d nL Qk  pc L (.int x :: .int i :: .ref a :: st) u (zck (inB i n) (zlet (sI u a i.toNatClampNeg (vp_nar .byte x)) F)) := by
  obtain ⟨hx, hb, hml, hown, hts, hr, hlk, hK, hI, hZ, hd1⟩ := C
  intro r u' hF H locs ls hP hS hl
  obtain ⟨h1, hF⟩ := zck_some hF
  refine va_bast hx hb hK hP (zw_DA hI) hS a 2 (zw_arr hs) rfl (inB_in h1) hdg (fun H1 locs1 hP1 _ hS1 => ?_)
  rw [zw_set (u' := sI u a i.toNatClampNeg (vp_nar .byte x)) hs (by show Sum.inl (_, _, Sum.inl _) = Sum.inl (_, _, Sum.inl (gI (sI u a i.toNatClampNeg (vp_nar .byte x)) a)); rw [gI_upd]) (fun b S' h => zcell_I b S' h)] at hP1
  exact k h1 _ r u' hF H1 locs1 ls hP1 hS1 hl
theorem G_last (C : zCx p s m args meth c as dA D SH d nL own cc ret) {a n b sd : Nat} {i : Int32} {x : Int64} {F : zM → Option (α × zM)} (hs : SH[a]? = some (.inr (3, n, b, sd))) (hdg : decode cc pc = .ok (.lastore, 1)) (k : inB i n = true → ∀ v : zM, Go p l e s m args below meth c as dA D SH d nL Qk  (pc + 1) L st v (F v)) : Go p l e s m args below meth c as dA D SH d nL Qk  pc L (.long x :: .int i :: .ref a :: st) u (zck (inB i n) (zlet (sJ u a i.toNatClampNeg x) F)) := by
  obtain ⟨hx, hb, hml, hown, hts, hr, hlk, hK, hI, hZ, hd1⟩ := C
  intro r u' hF H locs ls hP hS hl
  obtain ⟨h1, hF⟩ := zck_some hF
  refine va_last hx hb hK hP (zw_DA hI) hS a 3 (zw_arr hs) rfl (inB_in h1) hdg (fun H1 locs1 hP1 _ hS1 => ?_)
  rw [zw_set (u' := sJ u a i.toNatClampNeg x) hs (by show Sum.inl (_, _, Sum.inr (Sum.inl _)) = Sum.inl (_, _, Sum.inr (Sum.inl (gJ (sJ u a i.toNatClampNeg x) a))); rw [gJ_upd]) (fun b S' h => zcell_J b S' h)] at hP1
  exact k h1 _ r u' hF H1 locs1 ls hP1 hS1 hl
theorem G_alen (t0 : Nat) {ty : FieldType} (C : zCx p s m args meth c as dA D SH d nL own cc ret) {a n b sd : Nat} {v : Int32} (hs : SH[a]? = some (.inr (t0, n, b, sd))) (ht : (zty dA)[t0]? = some (dA t0, ty)) (hn : (zarr as u a n b sd t0).1 = n) (hv : Int32.ofNat n = v) (hdg : decode cc pc = .ok (.arraylength, 1)) (k : Go p l e s m args below meth c as dA D SH d nL Qk  (pc + 1) L (.int v :: st) u F) : Go p l e s m args below meth c as dA D SH d nL Qk  pc L (.ref a :: st) u F := by
  obtain ⟨hx, hb, hml, hown, hts, hr, hlk, hK, hI, hZ, hd1⟩ := C
  intro r u' hF H locs ls hP hS hl
  exact va_alen hx hb hK hP a t0 (zw_arr hs) ht (by rw [← hv]; exact congrArg Int32.ofNat hn) hdg (k r u' hF H locs ls hP hS hl)
def zsv (k : Nat) (i : Int32) : Int32 := match zSA[k]? with
  | some q => q.2.2.getD i.toNatClampNeg 0
  | none => 0
theorem G_getsA (C : zCx p s m args meth c as dA D SH d nL own cc ret) {q : String × String × List Int32} (sk : Nat) {index : Nat} (hq : zSA[sk]? = some q) (hw : Cond.fieldLink own index q.1 q.2.1 "[I" ∈ zTb) (hdg : decode cc pc = .ok (.getstatic index, 3)) (k : Go p l e s m args below meth c as dA D SH d nL Qk  (pc + 3) L (.ref (1000 + sk) :: st) u F) : Go p l e s m args below meth c as dA D SH d nL Qk  pc L st u F := by
  obtain ⟨hx, hb, hml, hown, hts, hr, hlk, hK, hI, hZ, hd1⟩ := C
  intro r u' hF H locs ls hP hS hl
  exact va_gets hx hb (hZ.2.2.2.1 sk q hq).1 hS hown (hts _ hw) (fun _ h9 => h9) hdg (k r u' hF H locs ls hP hS hl)
theorem G_getsN (C : zCx p s m args meth c as dA D SH d nL own cc ret) {q : String × String × List Int32} (sk : Nat) {index : Nat} {host : String} (hq : zSA[sk]? = some q) (hw : Cond.fieldLinkNest own index q.1 q.2.1 "[I" host ∈ zNest) (hdg : decode cc pc = .ok (.getstatic index, 3)) (k : Go p l e s m args below meth c as dA D SH d nL Qk  (pc + 3) L (.ref (1000 + sk) :: st) u F) : Go p l e s m args below meth c as dA D SH d nL Qk  pc L st u F := by
  obtain ⟨hx, hb, hml, hown, hts, hr, hlk, hK, hI, hZ, hd1⟩ := C
  intro r u' hF H locs ls hP hS hl
  exact va_getsN hx hb (hZ.2.2.2.1 sk q hq).1 hS hown (zn_use hw (hZ.1 _ hw)) (fun _ h9 => h9) hdg (k r u' hF H locs ls hP hS hl)
theorem G_tld (C : zCx p s m args meth c as dA D SH d nL own cc ret) {q : String × String × List Int32} (sk : Nat) {i : Int32} (hq : zSA[sk]? = some q) (hdg : decode cc pc = .ok (.iaload, 1)) (k : inB i q.2.2.length = true → Go p l e s m args below meth c as dA D SH d nL Qk  (pc + 1) L (.int (zsv sk i) :: st) u F) : Go p l e s m args below meth c as dA D SH d nL Qk  pc L (.int i :: .ref (1000 + sk) :: st) u (zck (inB i q.2.2.length) F) := by
  obtain ⟨hx, hb, hml, hown, hts, hr, hlk, hK, hI, hZ, hd1⟩ := C
  intro r u' hF H locs ls hP hS hl
  obtain ⟨h1, hF⟩ := zck_some hF
  exact va_ti hx hb (hZ.2.2.2.1 sk q hq).2 hS (inB_in h1) (v := .int (zsv sk i)) (by unfold zsv; rw [hq]) hdg (k h1 r u' hF H locs ls hP hS hl)
theorem G_tlen (C : zCx p s m args meth c as dA D SH d nL own cc ret) {q : String × String × List Int32} (sk : Nat) {v : Int32} (hq : zSA[sk]? = some q) (hv : Int32.ofNat q.2.2.length = v) (hdg : decode cc pc = .ok (.arraylength, 1)) (k : Go p l e s m args below meth c as dA D SH d nL Qk  (pc + 1) L (.int v :: st) u F) : Go p l e s m args below meth c as dA D SH d nL Qk  pc L (.ref (1000 + sk) :: st) u F := by
  obtain ⟨hx, hb, hml, hown, hts, hr, hlk, hK, hI, hZ, hd1⟩ := C
  intro r u' hF H locs ls hP hS hl
  exact va_tlen hx hb (hZ.2.2.2.1 sk q hq).2 hS hv hdg (k r u' hF H locs ls hP hS hl)
theorem zsum8 {st : List Value} (h : (st.map fun v => v.category).sum ≤ 8) : ((st.map (zr as)).map fun v => v.category).sum ≤ 8 := by
  have e : (st.map (zr as)).map (fun v => v.category) = st.map fun v => v.category := by
    rw [List.map_map]
    apply List.map_congr_left
    intro v _
    exact zr_cat as v
  rw [e]
  exact h
theorem G_mmax (C : zCx p s m args meth c as dA D SH d nL own cc ret) {index : Nat} {x y : Int32} (h1 : Cond.methodLink own index Lib.Math.max.name ∈ zTb) (h2 : Cond.static Lib.Math.max.name ∈ zTb) (h3 : Cond.initialized "java/lang/Math" ∈ zTb) (h4 : Cond.code Lib.Math.max.name Lib.Math.max.code 2 (some .int) ∈ zTb) (h8 : (st.map fun v => v.category).sum ≤ 8) (hdg : decode cc pc = .ok (.invokestatic index, 3)) (k : Go p l e s m args below meth c as dA D SH d nL Qk  (pc + 3) L (.int (if x < y then y else x) :: st) u F) : Go p l e s m args below meth c as dA D SH d nL Qk  pc L (.int y :: .int x :: st) u F := by
  obtain ⟨hx, hb, hml, hown, hts, hr, hlk, hK, hI, hZ, hd1⟩ := C
  intro r u' hF H locs ls hP hS hl
  exact va_mmax hx hb (hml.trans hl.1.symm) hown (hts _ h1) (hts _ h2) (hts _ h3) (hts _ h4) hd1 (by have := zsum8 (as := as) h8; show _ ≤ 64 * d; omega) (Nat.zero_le _) (Nat.zero_le _) hdg (k r u' hF H locs ls hP hS hl)
theorem G_mmin (C : zCx p s m args meth c as dA D SH d nL own cc ret) {index : Nat} {x y : Int32} (h1 : Cond.methodLink own index Lib.Math.min.name ∈ zTb) (h2 : Cond.static Lib.Math.min.name ∈ zTb) (h3 : Cond.initialized "java/lang/Math" ∈ zTb) (h4 : Cond.code Lib.Math.min.name Lib.Math.min.code 2 (some .int) ∈ zTb) (h8 : (st.map fun v => v.category).sum ≤ 8) (hdg : decode cc pc = .ok (.invokestatic index, 3)) (k : Go p l e s m args below meth c as dA D SH d nL Qk  (pc + 3) L (.int (if y < x then y else x) :: st) u F) : Go p l e s m args below meth c as dA D SH d nL Qk  pc L (.int y :: .int x :: st) u F := by
  obtain ⟨hx, hb, hml, hown, hts, hr, hlk, hK, hI, hZ, hd1⟩ := C
  intro r u' hF H locs ls hP hS hl
  exact va_mmin hx hb (hml.trans hl.1.symm) hown (hts _ h1) (hts _ h2) (hts _ h3) (hts _ h4) hd1 (by have := zsum8 (as := as) h8; show _ ≤ 64 * d; omega) (Nat.zero_le _) (Nat.zero_le _) hdg (k r u' hF H locs ls hP hS hl)
end GoMem
