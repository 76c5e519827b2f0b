/-! ===== what makes cells: constructors ===== -/
def zAOA (U : State) : Prop := (Cond.arrayOver (.array .long)).before #[] U = true
theorem zAOA_spec {U : State} (h : zAOA U) : ∃ comp c k, U.vm.findClass "[J" = some comp ∧ (U.vm.classes.findIdx? fun (x : Class) => match x.kind with | .array component _ => component == comp | _ => false) = some c ∧ U.vm.classes[c]? = some k ∧ k.kind = .array comp (.array .long) ∧ U.vm.findClass "[[J" = some c := by
  have h : ((U.vm.findClass "[J").bind fun comp => (U.vm.classes.findIdx? fun (x : Class) => match x.kind with | .array component _ => component == comp | _ => false).bind fun c => (U.vm.classes[c]?).map fun (k : Class) => match k.kind with | .array _ ty => decide (ty = FieldType.array .long) && decide (U.vm.findClass "[[J" = some c) | _ => false) = some true := eq_of_beq h
  cases hc : U.vm.findClass "[J" with
  | none => rw [hc] at h; cases h
  | some comp =>
    rw [hc, Option.bind_some] at h
    cases hi : (U.vm.classes.findIdx? fun (x : Class) => match x.kind with | .array component _ => component == comp | _ => false) with
    | none => rw [hi] at h; cases h
    | some c =>
      rw [hi, Option.bind_some] at h
      cases hk : U.vm.classes[c]? with
      | none => rw [hk] at h; cases h
      | some k =>
        rw [hk, Option.map_some] at h
        have h := Option.some.inj h
        obtain ⟨hlt, hp, -⟩ := Array.findIdx?_eq_some_iff_getElem.mp hi
        have hkk : U.vm.classes[c] = k := (Array.getElem?_eq_some_iff.mp hk).2
        rw [hkk] at hp
        cases hkind : k.kind with
        | array component ty =>
          rw [hkind] at h hp
          have hp := eq_of_beq hp
          simp only [Bool.and_eq_true, decide_eq_true_eq] at h
          exact ⟨comp, c, k, rfl, hi, hk, by rw [hkind, hp, h.1], h.2⟩
        | _ => rw [hkind] at h; cases h
theorem zAOA.moved {u U : State} (hvm : u.vm.Alike U.vm) (h : zAOA u) : zAOA U := by
  obtain ⟨comp, c, k, h1, h2, h3, h4, h5⟩ := zAOA_spec h
  obtain ⟨k', hk', he⟩ := hvm.2.2 _ _ h3
  have hi : (U.vm.classes.findIdx? fun (x : Class) => match x.kind with | .array component _ => component == comp | _ => false) = some c := by
    have e1 := va_idx_bare U.vm comp
    have e2 := va_idx_bare u.vm comp
    have e3 : U.vm.bare = u.vm.bare := by first | exact hvm.bare_eq | exact hvm.bare_eq.symm
    rw [e3] at e1
    exact (e1.symm.trans e2).trans h2
  have hkind : k'.kind = .array comp (.array .long) := by rw [he]; exact h4
  have f1 : U.vm.findClass "[J" = some comp := by rw [hvm.findClass]; exact h1
  have f2 : U.vm.findClass "[[J" = some c := by rw [hvm.findClass]; exact h5
  show (((U.vm.findClass "[J").bind fun comp => (U.vm.classes.findIdx? fun (x : Class) => match x.kind with | .array component _ => component == comp | _ => false).bind fun c => (U.vm.classes[c]?).map fun (k : Class) => match k.kind with | .array _ ty => decide (ty = FieldType.array .long) && decide (U.vm.findClass "[[J" = some c) | _ => false) == some true) = true
  rw [f1, Option.bind_some, hi, Option.bind_some, hk', Option.map_some, hkind]
  simp [f2]
def zOut (U : State) : Prop := (∀ w ∈ zNest, va_Nw w U) ∧ va_AO "StruckWhile$Square" U ∧ zAOA U
theorem zOut.same {u U : State} (hv : U.vm = u.vm) (h : zOut u) : zOut U := by
  have ha : u.vm.Alike U.vm := by rw [hv]; exact Vm.Alike.refl _
  exact ⟨fun w hw => zn_same hw hv.symm (h.1 w hw), h.2.1.moved ha, h.2.2.moved ha⟩
theorem zOut.warm {s U : State} (hW : s.WarmedH U.vm) (h : zOut s) : zOut U := ⟨fun w hw => zn_warm hw hW (h.1 w hw), h.2.1.moved hW.alike, h.2.2.moved hW.alike⟩
def zRn (d mc ms : Nat) : Room := { frames := d, cells := mc, slots := ms, locals := 64 * d }
/-- what is kept of references, and what is fresh -/
def zOk (u : zM) (k : Nat) : Prop := ∀ a i x : Nat, gO u a i = some x → x < k
def zFr (u : zM) (k : Nat) : Prop := ∀ a i : Nat, k ≤ a → gI u a i = 0 ∧ gJ u a i = 0 ∧ gO u a i = none
def zVok (k : Nat) : Value → Prop
  | .ref a => a < k
  | _ => True
theorem zOk.le {u : zM} {k k' : Nat} (h : zOk u k) (hk : k ≤ k') : zOk u k' := fun a i x hx => Nat.lt_of_lt_of_le (h a i x hx) hk
theorem zFr.le {u : zM} {k k' : Nat} (h : zFr u k) (hk : k ≤ k') : zFr u k' := fun a i ha => h a i (Nat.le_trans hk ha)
theorem zVok.le {k k' : Nat} {v : Value} (h : zVok k v) (hk : k ≤ k') : zVok k' v := by
  cases v <;> first | trivial | exact Nat.lt_of_lt_of_le h hk
theorem zOk_sO {u : zM} {k a i x : Nat} (h : zOk u k) (hx : x < k) : zOk (sO u a i (some x)) k := by
  intro b j y hy
  unfold gO sO at hy
  dsimp only at hy
  by_cases hb : b = a ∧ j = i
  · rw [if_pos hb] at hy
    cases hy
    exact hx
  · rw [if_neg hb] at hy
    exact h b j y hy
theorem zOk_sI {u : zM} {k a i : Nat} {x : Int32} (h : zOk u k) : zOk (sI u a i x) k := fun b j y hy => h b j y hy
theorem zFr_sO {u : zM} {k a i : Nat} {x : Option Nat} (h : zFr u k) (ha : a < k) : zFr (sO u a i x) k := by
  intro b j hb
  obtain ⟨h1, h2, h3⟩ := h b j hb
  refine ⟨h1, h2, ?_⟩
  unfold gO sO
  dsimp only
  rw [if_neg (fun q => by omega)]
  exact h3
theorem zFr_sI {u : zM} {k a i : Nat} {x : Int32} (h : zFr u k) (ha : a < k) : zFr (sI u a i x) k := by
  intro b j hb
  obtain ⟨h1, h2, h3⟩ := h b j hb
  refine ⟨?_, h2, h3⟩
  unfold gI sI
  dsimp only
  rw [if_neg (fun q => by omega)]
  exact h1
/-- shapes of cells while they are made: no constant references -/
def zNew (S : zS) : Prop := match S with
  | .inl o => ∀ kd ∈ o.2, kd = 0 ∨ kd = 2
  | .inr r => r.1 = 0 ∨ r.1 = 1 ∨ r.1 = 2 ∨ r.1 = 3 ∨ r.1 = 6 ∨ r.1 = 7
theorem zr_eq {as as' : Nat → Nat} {k : Nat} (he : ∀ i, i < k → as' i = as i) {v : Value} (h : zVok k v) : zr as' v = zr as v := by
  cases v <;> first | rfl | exact congrArg Value.ref (he _ h)
theorem zmap_eq {as as' : Nat → Nat} {u : zM} {k a i : Nat} (he : ∀ i, i < k → as' i = as i) (ho : zOk u k) : (gO u a i).map as' = (gO u a i).map as := by
  cases h : gO u a i with
  | none => rfl
  | some x => exact congrArg some (he x (ho a i x h))
theorem zcell_eq {as as' : Nat → Nat} {dA : Nat → ClassId} {u : zM} {k : Nat} (he : ∀ i, i < k → as' i = as i) (ho : zOk u k) (a : Nat) (S : zS) (hn : zNew S) : zcell as' dA u a S = zcell as dA u a S := by
  cases S with
  | inl o =>
    show Sum.inr (o.1, o.2.mapIdx (fun j kd => zfield as' u a j kd)) = Sum.inr (o.1, o.2.mapIdx (fun j kd => zfield as u a j kd))
    congr 2
    apply List.ext_getElem?
    intro j
    rw [List.getElem?_mapIdx, List.getElem?_mapIdx]
    cases hj : o.2[j]? with
    | none => rfl
    | some kd =>
      have hm : kd ∈ o.2 := List.mem_of_getElem? hj
      refine congrArg some ?_
      rcases hn kd hm with h | h <;> subst h
      · rfl
      · show va_rf _ = va_rf _
        rw [zmap_eq he ho]
  | inr r =>
    show Sum.inl _ = Sum.inl _
    congr 2
    obtain ⟨t, n, p, q⟩ := r
    have e : (fun j => (gO u a j).map as') = fun j => (gO u a j).map as := funext fun j => zmap_eq he ho
    have hn : t = 0 ∨ t = 1 ∨ t = 2 ∨ t = 3 ∨ t = 6 ∨ t = 7 := hn
    rcases hn with h | h | h | h | h | h <;> subst h <;> first | rfl | (show (n, Sum.inr (Sum.inr (Sum.inr (Sum.inr (fun j => (gO u a j).map as'))))) = (n, Sum.inr (Sum.inr (Sum.inr (Sum.inr (fun j => (gO u a j).map as))))); rw [e])
theorem zw_grow {as as' : Nat → Nat} {dA : Nat → ClassId} {SHg : List zS} {u : zM} {k : Nat} {S : zS} {e : va_E} (hN : ∀ S ∈ SHg, zNew S) (hs : SHg[k]? = some S) (he : ∀ i, i < k → as' i = as i) (ho : zOk u k) (hc : e = zcell as' dA u k S) : zw as dA (SHg.take k) u ++ [(as' k, e)] = zw as' dA (SHg.take (k + 1)) u := by
  have hk : k < SHg.length := (List.getElem?_eq_some_iff.mp hs).1
  have hl : (zw as dA (SHg.take k) u).length = k := by
    unfold zw
    rw [List.length_mapIdx, List.length_take]
    omega
  apply List.ext_getElem?
  intro b
  by_cases hb : b < k
  · rw [List.getElem?_append_left (by omega)]
    have hbS : ∃ S', SHg[b]? = some S' := ⟨SHg[b]'(by omega), List.getElem?_eq_getElem (by omega)⟩
    obtain ⟨S', hS'⟩ := hbS
    rw [zw_get (S := S') (by rw [List.getElem?_take, if_pos hb]; exact hS'), zw_get (S := S') (by rw [List.getElem?_take, if_pos (by omega)]; exact hS'), he b hb, zcell_eq he ho b S' (hN S' (List.mem_of_getElem? hS'))]
  · rw [List.getElem?_append_right (by omega), hl]
    by_cases hb2 : b = k
    · subst hb2
      rw [Nat.sub_self, zw_get (S := S) (by rw [List.getElem?_take, if_pos (by omega)]; exact hs), hc]
      rfl
    · rw [List.getElem?_eq_none (by simp; omega)]
      unfold zw
      rw [List.getElem?_mapIdx, List.getElem?_take, if_neg (by omega)]
      rfl
def zPreN (as : Nat → Nat) (dA : Nat → ClassId) (D : va_G) (SHg : List zS) (k : Nat) (u : zM) (sz : Nat) (U : State) : Prop :=
  U.heap.size = sz ∧ va_P D zcl (zw as dA (SHg.take k) u) U.heap ∧ va_K D zcl (zty dA) U ∧ zInj as k ∧ zOut U
def zQn (as : Nat → Nat) (dA : Nat → ClassId) (D : va_G) (SHg : List zS) (k k' : Nat) (u' : zM) (sz : Nat) : Array Value → State → Outcome → State → Prop :=
  va_Qv (fun as' : Nat → Nat => (∀ i, i < k → as' i = as i) ∧ (∀ i, i < k' → zA as k sz (as' i)) ∧ zInj as' k' ∧ zOk u' k' ∧ zFr u' k') (fun as' t => va_P D zcl (zw as' dA (SHg.take k') u') t.heap ∧ va_K D zcl (zty dA) t) (zA as k sz)
def zMetN (SHg : List zS) (y : MethodName) (bytes : ByteArray) (maxL d mc ms : Nat) (av : List Value) (k : Nat) (u : zM) (k' : Nat) (u' : zM) : Prop :=
  (∀ v ∈ av, zVok k v) → zOk u k → zFr u k → ∀ (l : Launch) (as : Nat → Nat) (dA : Nat → ClassId) (D : va_G) (sz : Nat), dA 6 = dA 4 → dA 7 = dA 5 →
    Met l y (.code y bytes maxL none :: zTb) (zRn d mc ms) (va_Pc (av.map (zr as)) (zPreN as dA D SHg k u sz)) (zQn as dA D SHg k k' u' sz) mc ms (zA as k sz)
def zCn (p : Program) (s : State) (m : MethodId) (args : Array Value) (meth : Method) (c : Code) (dA : Nat → ClassId) (D : va_G) (SHg : List zS) (d nL : Nat) (own : String) (cc : ByteArray) : Prop :=
  p.tables.exec = Jvm.exec ∧ c.code = cc ∧ c.maxLocals = nL ∧ s.vm.findClass own = some m.cls ∧ (∀ w ∈ zTb, w.before args s = true) ∧ meth.sig.returnType = none ∧ meth.locks = false ∧ va_K D zcl (zty dA) s ∧ zOut s ∧ 1 ≤ d ∧ meth.name = "<init>" ∧ dA 6 = dA 4 ∧ dA 7 = dA 5 ∧ ∀ S ∈ SHg, zNew S
def GoN (p : Program) (l : Launch) (e : Env) (s : State) (m : MethodId) (args : Array Value) (below : List Frame) (meth : Method) (c : Code) (dA : Nat → ClassId) (D : va_G) (SHg : List zS) (as0 : Nat → Nat) (k0 d mc ms nL : Nat) (k' : Nat) (u' : zM)
    (pc : Nat) (L : List (Nat × Value)) (st : List Value) (k : Nat) (u : zM) (cells slots : Nat) : Prop :=
  ∀ (as : Nat → Nat) (H : Heap) (locs : List Loc) (ls : Array Slot), va_P D zcl (zw as dA (SHg.take k) u) H → zInj as k → k0 ≤ k → k ≤ SHg.length → (∀ i, i < k0 → as i = as0 i) → (∀ i, i < k → zA as0 k0 s.heap.size (as i)) → (∀ q ∈ L, zVok k q.2) → (∀ v ∈ st, zVok k v) → zOk u k → zFr u k →
    va_S (zA as0 k0 s.heap.size) s.heap H locs → lv_has ls nL (zL as L) →
    W p l e (zRn d mc ms) s m args below meth c H locs cells slots (MQ below (zQn as0 dA D SHg k0 k' u' s.heap.size) args s mc ms (zA as0 k0 s.heap.size)) (F0 m pc ls (st.map (zr as)))
section GoNew
variable {p : Program} {l : Launch} {e : Env} {s : State} {m : MethodId} {args : Array Value} {below : List Frame} {meth : Method} {c : Code} {dA : Nat → ClassId} {D : va_G} {SHg : List zS} {as0 : Nat → Nat} {k0 d mc ms nL : Nat} {k' : Nat} {u' : zM}
variable {own : String} {cc : ByteArray} {pc : Nat} {L : List (Nat × Value)} {st : List Value} {k : Nat} {u : zM} {cells slots : Nat}
theorem zN_take {a : Nat} {S : zS} (hs : SHg[a]? = some S) (ha : a < k) : (SHg.take k)[a]? = some S := by rw [List.getElem?_take, if_pos ha]; exact hs
theorem zN_D {as : Nat → Nat} {A : Nat → Prop} (hI : zInj as k) (hA : ∀ i, i < k → A (as i)) : va_D A (zw as dA (SHg.take k) u) := by
  refine zw_D (fun i j hi hj h => ?_) (fun i hi => ?_)
  · rw [List.length_take] at hi hj
    exact hI i j (by omega) (by omega) h
  · rw [List.length_take] at hi
    exact hA i (by omega)
theorem N_iconst (C : zCn p s m args meth c dA D SHg d nL own cc) {n : Int} {v : Int32} (hdg : decode cc pc = .ok (.iconst n, 1)) (hv : Int32.ofInt n = v) (kk : GoN p l e s m args below meth c dA D SHg as0 k0 d mc ms nL k' u' (pc + 1) L (.int v :: st) k u cells slots) : GoN p l e s m args below meth c dA D SHg as0 k0 d mc ms nL k' u' pc L st k u cells slots := by
  obtain ⟨hx, hb, hml, hown, hts, hr, hlk, hK, hO, hd1, hnm, h64, h75, hN⟩ := C
  intro as H locs ls hP hI hk0 hkl he hA hvL hvS ho hf hS hl
  exact lv_iconst hx hb hdg hv (kk as H locs ls hP hI hk0 hkl he hA hvL (List.forall_mem_cons.mpr ⟨trivial, hvS⟩) ho hf hS hl)
theorem N_bipush (C : zCn p s m args meth c dA D SHg d nL own cc) {n : Int} {v : Int32} (hdg : decode cc pc = .ok (.bipush n, 2)) (hv : (Int8.ofInt n).toInt32 = v) (kk : GoN p l e s m args below meth c dA D SHg as0 k0 d mc ms nL k' u' (pc + 2) L (.int v :: st) k u cells slots) : GoN p l e s m args below meth c dA D SHg as0 k0 d mc ms nL k' u' pc L st k u cells slots := by
  obtain ⟨hx, hb, hml, hown, hts, hr, hlk, hK, hO, hd1, hnm, h64, h75, hN⟩ := C
  intro as H locs ls hP hI hk0 hkl he hA hvL hvS ho hf hS hl
  exact lv_bipush hx hb hdg hv (kk as H locs ls hP hI hk0 hkl he hA hvL (List.forall_mem_cons.mpr ⟨trivial, hvS⟩) ho hf hS hl)
theorem N_sipush (C : zCn p s m args meth c dA D SHg d nL own cc) {n : Int} {v : Int32} (hdg : decode cc pc = .ok (.sipush n, 3)) (hv : (Int16.ofInt n).toInt32 = v) (kk : GoN p l e s m args below meth c dA D SHg as0 k0 d mc ms nL k' u' (pc + 3) L (.int v :: st) k u cells slots) : GoN p l e s m args below meth c dA D SHg as0 k0 d mc ms nL k' u' pc L st k u cells slots := by
  obtain ⟨hx, hb, hml, hown, hts, hr, hlk, hK, hO, hd1, hnm, h64, h75, hN⟩ := C
  intro as H locs ls hP hI hk0 hkl he hA hvL hvS ho hf hS hl
  exact lv_sipush hx hb hdg hv (kk as H locs ls hP hI hk0 hkl he hA hvL (List.forall_mem_cons.mpr ⟨trivial, hvS⟩) ho hf hS hl)
theorem N_dup (C : zCn p s m args meth c dA D SHg d nL own cc) {v : Value} (hdg : decode cc pc = .ok (.dup, 1)) (hv : v.category = 1) (kk : GoN p l e s m args below meth c dA D SHg as0 k0 d mc ms nL k' u' (pc + 1) L (v :: v :: st) k u cells slots) : GoN p l e s m args below meth c dA D SHg as0 k0 d mc ms nL k' u' pc L (v :: st) k u cells slots := by
  obtain ⟨hx, hb, hml, hown, hts, hr, hlk, hK, hO, hd1, hnm, h64, h75, hN⟩ := C
  intro as H locs ls hP hI hk0 hkl he hA hvL hvS ho hf hS hl
  exact lv_dup hx hb hdg ((zr_cat as v).trans hv) (kk as H locs ls hP hI hk0 hkl he hA hvL (fun w hw => hvS w ((List.mem_cons.mp hw).elim (fun h => List.mem_cons.mpr (Or.inl h)) id)) ho hf hS hl)
theorem N_iload_n (C : zCn p s m args meth c dA D SHg d nL own cc) {n : Fin 4} {i : Nat} {x : Int32} (q : Nat) (hdg : decode cc pc = .ok (.iload_n n, 1)) (hi : (n : Nat) = i) (hq : L[q]? = some (i, .int x)) (kk : GoN p l e s m args below meth c dA D SHg as0 k0 d mc ms nL k' u' (pc + 1) L (.int x :: st) k u cells slots) : GoN p l e s m args below meth c dA D SHg as0 k0 d mc ms nL k' u' pc L st k u cells slots := by
  obtain ⟨hx, hb, hml, hown, hts, hr, hlk, hK, hO, hd1, hnm, h64, h75, hN⟩ := C
  intro as H locs ls hP hI hk0 hkl he hA hvL hvS ho hf hS hl
  exact lv_iload_n hx hb hdg hi (lv_at hl q (zL_at hq)) (kk as H locs ls hP hI hk0 hkl he hA hvL (List.forall_mem_cons.mpr ⟨hvL _ (List.mem_of_getElem? hq), hvS⟩) ho hf hS hl)
theorem N_aload_n (C : zCn p s m args meth c dA D SHg d nL own cc) {n : Fin 4} {i : Nat} {x : Nat} (q : Nat) (hdg : decode cc pc = .ok (.aload_n n, 1)) (hi : (n : Nat) = i) (hq : L[q]? = some (i, .ref x)) (kk : GoN p l e s m args below meth c dA D SHg as0 k0 d mc ms nL k' u' (pc + 1) L (.ref x :: st) k u cells slots) : GoN p l e s m args below meth c dA D SHg as0 k0 d mc ms nL k' u' pc L st k u cells slots := by
  obtain ⟨hx, hb, hml, hown, hts, hr, hlk, hK, hO, hd1, hnm, h64, h75, hN⟩ := C
  intro as H locs ls hP hI hk0 hkl he hA hvL hvS ho hf hS hl
  exact lv_aload_n hx hb hdg hi (lv_at hl q (zL_at hq)) (kk as H locs ls hP hI hk0 hkl he hA hvL (List.forall_mem_cons.mpr ⟨hvL _ (List.mem_of_getElem? hq), hvS⟩) ho hf hS hl)
theorem N_istore_n (C : zCn p s m args meth c dA D SHg d nL own cc) {n : Fin 4} {i : Nat} {x : Int32} {L' : List (Nat × Value)} (hdg : decode cc pc = .ok (.istore_n n, 1)) (hi : (n : Nat) = i) (hn : i < nL) (hL : (i, Value.int x) :: (L.filter (fun q => !(q.1 == i) && !(q.1 + 1 == i && q.2.category == 2))) = L') (kk : GoN p l e s m args below meth c dA D SHg as0 k0 d mc ms nL k' u' (pc + 1) L' st k u cells slots) : GoN p l e s m args below meth c dA D SHg as0 k0 d mc ms nL k' u' pc L (.int x :: st) k u cells slots := by
  obtain ⟨hx, hb, hml, hown, hts, hr, hlk, hK, hO, hd1, hnm, h64, h75, hN⟩ := C
  intro as H locs ls hP hI hk0 hkl he hA hvL hvS ho hf hS hl
  subst hL
  exact lv_istore_n hx hb hdg hi hl hn (congrArg _ (zL_f1 as i L)) (fun ls' hl' => kk as H locs ls' hP hI hk0 hkl he hA (List.forall_mem_cons.mpr ⟨trivial, fun q hq => hvL q (List.mem_filter.mp hq).1⟩) (fun w hw => hvS w (List.mem_cons_of_mem _ hw)) ho hf hS hl')
theorem N_iinc (C : zCn p s m args meth c dA D SHg d nL own cc) {i : Nat} {n : Int} {x v : Int32} {L' : List (Nat × Value)} (q : Nat) (hdg : decode cc pc = .ok (.iinc i n, 3)) (hq : L[q]? = some (i, .int x)) (hv : x + Int32.ofInt n = v) (hn : i < nL) (hL : (i, Value.int v) :: (L.filter (fun q => !(q.1 == i) && !(q.1 + 1 == i && q.2.category == 2))) = L') (kk : GoN p l e s m args below meth c dA D SHg as0 k0 d mc ms nL k' u' (pc + 3) L' st k u cells slots) : GoN p l e s m args below meth c dA D SHg as0 k0 d mc ms nL k' u' pc L st k u cells slots := by
  obtain ⟨hx, hb, hml, hown, hts, hr, hlk, hK, hO, hd1, hnm, h64, h75, hN⟩ := C
  intro as H locs ls hP hI hk0 hkl he hA hvL hvS ho hf hS hl
  subst hL; subst hv
  exact lv_iinc hx hb hdg hl (zL_at hq) rfl hn (congrArg _ (zL_f1 as i L)) (fun ls' hl' => kk as H locs ls' hP hI hk0 hkl he hA (List.forall_mem_cons.mpr ⟨trivial, fun q hq => hvL q (List.mem_filter.mp hq).1⟩) hvS ho hf hS hl')
theorem N_goto (C : zCn p s m args meth c dA D SHg d nL own cc) {off : Int} {tgt : Nat} (hdg : decode cc pc = .ok (.goto off, 3)) (ht : (pc : Int) + off = (tgt : Int)) (kk : GoN p l e s m args below meth c dA D SHg as0 k0 d mc ms nL k' u' tgt L st k u cells slots) : GoN p l e s m args below meth c dA D SHg as0 k0 d mc ms nL k' u' pc L st k u cells slots := by
  obtain ⟨hx, hb, hml, hown, hts, hr, hlk, hK, hO, hd1, hnm, h64, h75, hN⟩ := C
  intro as H locs ls hP hI hk0 hkl he hA hvL hvS ho hf hS hl
  exact lv_goto hx hb hdg ht (kk as H locs ls hP hI hk0 hkl he hA hvL (hvS) ho hf hS hl)
theorem N_icmp_geT (C : zCn p s m args meth c dA D SHg d nL own cc) {x y : Int32} {off : Int} {tgt : Nat} (hdg : decode cc pc = .ok (.if_icmp .ge off, 3)) (ht : (pc : Int) + off = (tgt : Int)) (hc : y ≤ x) (kk : GoN p l e s m args below meth c dA D SHg as0 k0 d mc ms nL k' u' tgt L st k u cells slots) : GoN p l e s m args below meth c dA D SHg as0 k0 d mc ms nL k' u' pc L (.int y :: .int x :: st) k u cells slots := by
  obtain ⟨hx, hb, hml, hown, hts, hr, hlk, hK, hO, hd1, hnm, h64, h75, hN⟩ := C
  intro as H locs ls hP hI hk0 hkl he hA hvL hvS ho hf hS hl
  exact lv_icmp_ge hx hb hdg ht (fun _ => kk as H locs ls hP hI hk0 hkl he hA hvL (fun w hw => hvS w (List.mem_cons_of_mem _ (List.mem_cons_of_mem _ hw))) ho hf hS hl) (fun h => absurd hc h)
theorem N_icmp_geF (C : zCn p s m args meth c dA D SHg d nL own cc) {x y : Int32} {off : Int} {tgt : Nat} (hdg : decode cc pc = .ok (.if_icmp .ge off, 3)) (ht : (pc : Int) + off = (tgt : Int)) (hc : ¬ y ≤ x) (kk : GoN p l e s m args below meth c dA D SHg as0 k0 d mc ms nL k' u' (pc + 3) L st k u cells slots) : GoN p l e s m args below meth c dA D SHg as0 k0 d mc ms nL k' u' pc L (.int y :: .int x :: st) k u cells slots := by
  obtain ⟨hx, hb, hml, hown, hts, hr, hlk, hK, hO, hd1, hnm, h64, h75, hN⟩ := C
  intro as H locs ls hP hI hk0 hkl he hA hvL hvS ho hf hS hl
  exact lv_icmp_ge hx hb hdg ht (fun h => absurd h hc) (fun _ => kk as H locs ls hP hI hk0 hkl he hA hvL (fun w hw => hvS w (List.mem_cons_of_mem _ (List.mem_cons_of_mem _ hw))) ho hf hS hl)
theorem N_objInit (C : zCn p s m args meth c dA D SHg d nL own cc) {idx a : Nat} (w1 : Cond.methodLink own idx objectInit ∈ zTb) (w2 : Cond.instanceMethod objectInit ∈ zTb) (w3 : Cond.code objectInit ⟨#[0xb1]⟩ 1 none ∈ zTb) (h8 : (st.map fun v => v.category).sum ≤ 8) (hdg : decode cc pc = .ok (.invokespecial idx, 3)) (kk : GoN p l e s m args below meth c dA D SHg as0 k0 d mc ms nL k' u' (pc + 3) L st k u cells slots) : GoN p l e s m args below meth c dA D SHg as0 k0 d mc ms nL k' u' pc L (.ref a :: st) k u cells slots := by
  obtain ⟨hx, hb, hml, hown, hts, hr, hlk, hK, hO, hd1, hnm, h64, h75, hN⟩ := C
  intro as H locs ls hP hI hk0 hkl he hA hvL hvS ho hf hS hl
  exact W.objInit hx hb hown (hts _ w1) (hts _ w2) (hts _ w3) rfl (hl.1.trans hml.symm) rfl hdg hd1 (by have := zsum8 (as := as) h8; show 2 * 0 + _ + 12 ≤ 64 * d; omega) (kk as H locs ls hP hI hk0 hkl he hA hvL (fun w hw => hvS w (List.mem_cons_of_mem _ hw)) ho hf hS hl)
theorem zN_more {as : Nat → Nat} {H1 : Heap} {q : Nat} {S : zS} {e0 : va_E} (hN : ∀ S ∈ SHg, zNew S) (hs : SHg[k]? = some S) (hI : zInj as k) (hk0 : k0 ≤ k) (he : ∀ i, i < k0 → as i = as0 i) (hA : ∀ i, i < k → zA as0 k0 s.heap.size (as i)) (hvL : ∀ q ∈ L, zVok k q.2) (hvS : ∀ v ∈ st, zVok k v) (ho : zOk u k) (hf : zFr u k)
    (hP1 : va_P D zcl (zw as dA (SHg.take k) u ++ [(q, e0)]) H1) (hD1 : va_D (zA as0 k0 s.heap.size) (zw as dA (SHg.take k) u ++ [(q, e0)])) (hc : ∀ as' : Nat → Nat, e0 = zcell as' dA u k S) :
    ∃ as' : Nat → Nat, as' k = q ∧ va_P D zcl (zw as' dA (SHg.take (k + 1)) u) H1 ∧ zInj as' (k + 1) ∧ (∀ i, i < k0 → as' i = as0 i) ∧ (∀ i, i < k + 1 → zA as0 k0 s.heap.size (as' i)) ∧ zL as' L = zL as L ∧ st.map (zr as') = st.map (zr as) := by
  have hk : k < SHg.length := (List.getElem?_eq_some_iff.mp hs).1
  have hlen : (zw as dA (SHg.take k) u).length = k := by
    unfold zw
    rw [List.length_mapIdx, List.length_take]
    omega
  have hlast : (zw as dA (SHg.take k) u ++ [(q, e0)])[k]? = some (q, e0) := by
    rw [List.getElem?_append_right (by omega), hlen, Nat.sub_self]
    rfl
  have hold : ∀ i, i < k → ∃ x, (zw as dA (SHg.take k) u ++ [(q, e0)])[i]? = some (as i, x) := fun i hi => by
    rw [List.getElem?_append_left (by omega)]
    exact ⟨_, zw_get (S := SHg[i]'(by omega)) (zN_take (List.getElem?_eq_getElem (by omega)) hi)⟩
  have hne : ∀ i, i < k → as i ≠ q := fun i hi h => by
    obtain ⟨x, hx⟩ := hold i hi
    have := hD1.1 i k _ _ hx hlast h
    omega
  refine ⟨fun i => if i = k then q else as i, if_pos rfl, ?_, ?_, ?_, ?_, ?_, ?_⟩
  · have e1 := zw_grow (as := as) (as' := fun i => if i = k then q else as i) (dA := dA) (u := u) (e := e0) hN hs (fun i hi => if_neg (by omega)) ho (hc _)
    rw [← e1]
    show va_P D zcl (zw as dA (SHg.take k) u ++ [((if k = k then q else as k), e0)]) H1
    rw [if_pos rfl]
    exact hP1
  · intro i j hi hj h
    dsimp only at h
    by_cases h1 : i = k
    · by_cases h2 : j = k
      · omega
      · rw [if_pos h1, if_neg h2] at h
        exact absurd h.symm (hne j (by omega))
    · by_cases h2 : j = k
      · rw [if_neg h1, if_pos h2] at h
        exact absurd h (hne i (by omega))
      · rw [if_neg h1, if_neg h2] at h
        exact hI i j (by omega) (by omega) h
  · intro i hi
    dsimp only
    rw [if_neg (by omega)]
    exact he i hi
  · intro i hi
    dsimp only
    by_cases h1 : i = k
    · rw [if_pos h1]
      exact hD1.2 k _ hlast
    · rw [if_neg h1]
      exact hA i (by omega)
  · unfold zL
    apply List.map_congr_left
    intro x hx
    rw [zr_eq (as := as) (k := k) (fun i hi => if_neg (by omega)) (hvL x hx)]
  · apply List.map_congr_left
    intro x hx
    exact zr_eq (as := as) (k := k) (fun i hi => if_neg (by omega)) (hvS x hx)
theorem N_new (C : zCn p s m args meth c dA D SHg d nL own cc) {ci index : Nat} {Cn : String} {T : u_T} {N : Nat} {ks : List Nat} (ty : Nat → FieldType) (hty : ∀ k, k < N → parseFieldDescriptor (T k).2.2.1 = some (ty k)) (hs : SHg[k]? = some (.inl (ci, ks))) (hc : zcl[ci]? = some (Cn, T, N)) (w1 : Cond.classLink own index Cn ∈ zTb) (w2 : Cond.instantiable Cn N ∈ zTb) (w3 : Cond.initialized Cn ∈ zTb) (hfs : ∀ j, j < N → defaultValue (ty j) = vp_V (ks.map (fun kd => if kd = 0 then Value.int 0 else Value.null)) j)
    (hcells : cells + 1 ≤ mc) (hslots : slots + N ≤ ms) (hdg : decode cc pc = .ok (.new index, 3)) (kk : GoN p l e s m args below meth c dA D SHg as0 k0 d mc ms nL k' u' (pc + 3) L (.ref k :: st) (k + 1) u (cells + 1) (slots + N)) : GoN p l e s m args below meth c dA D SHg as0 k0 d mc ms nL k' u' pc L st k u cells slots := by
  obtain ⟨hx, hb, hml, hown, hts, hr, hlk, hK, hO, hd1, hnm, h64, h75, hN⟩ := C
  intro as H locs ls hP hI hk0 hkl he hA hvL hvS ho hf hS hl
  have hq := zcl_ok _ (List.mem_of_getElem? hc)
  refine va_new hx hb hts hq.1 ty hty hown (hts _ w1) (hts _ w2) (hts _ w3) hK hP (zN_D hI hA) hS (fun q h => Or.inr h) hc hfs hcells hslots hdg (fun q H1 hP1 hD1 hS1 => ?_)
  have hcc : ∀ as' : Nat → Nat, (Sum.inr (ci, ks.map (fun kd => if kd = 0 then Value.int 0 else Value.null)) : va_E) = zcell as' dA u k (.inl (ci, ks)) := by
    intro as'
    show Sum.inr _ = Sum.inr (ci, ks.mapIdx (fun j kd => zfield as' u k j kd))
    congr 2
    apply List.ext_getElem?
    intro j
    rw [List.getElem?_map, List.getElem?_mapIdx]
    cases hj : ks[j]? with
    | none => rfl
    | some kd =>
      refine congrArg some ?_
      obtain ⟨f1, f2, f3⟩ := hf k j (Nat.le_refl k)
      rcases hN _ (List.mem_of_getElem? hs) kd (List.mem_of_getElem? hj) with h | h <;> subst h
      · show Value.int 0 = Value.int (gI u k j)
        rw [f1]
      · show Value.null = va_rf ((gO u k j).map as')
        rw [f3]
        rfl
  obtain ⟨as', eq, hP2, hI2, he2, hA2, eL, eS⟩ := zN_more hN hs hI hk0 he hA hvL hvS ho hf hP1 hD1 hcc
  have hkl2 : k < SHg.length := (List.getElem?_eq_some_iff.mp hs).1
  subst eq
  have := kk as' H1 locs ls hP2 hI2 (Nat.le_succ_of_le hk0) hkl2 he2 hA2 (fun q hq => (hvL q hq).le (Nat.le_succ k)) (List.forall_mem_cons.mpr ⟨Nat.lt_succ_self k, fun v hv => (hvS v hv).le (Nat.le_succ k)⟩) (ho.le (Nat.le_succ k)) (hf.le (Nat.le_succ k)) hS1 (by rw [eL]; exact hl)
  rw [List.map_cons, eS] at this
  exact this
theorem N_newaI (C : zCn p s m args meth c dA D SHg d nL own cc) {n : Int32} {n' : Nat} (hs : SHg[k]? = some (.inr (0, n', 0, 0))) (w1 : Cond.arrayClass .int ∈ zTb) (hn : ¬ n < 0) (hn' : n.toNatClampNeg = n') (hbytes : n' * componentBytes .int ≤ 536870912) (hcells : cells + 1 ≤ mc) (hslots : slots + n' ≤ ms) (hdg : decode cc pc = .ok (.newarray .int, 2)) (kk : GoN p l e s m args below meth c dA D SHg as0 k0 d mc ms nL k' u' (pc + 2) L (.ref k :: st) (k + 1) u (cells + 1) (slots + n')) : GoN p l e s m args below meth c dA D SHg as0 k0 d mc ms nL k' u' pc L (.int n :: st) k u cells slots := by
  obtain ⟨hx, hb, hml, hown, hts, hr, hlk, hK, hO, hd1, hnm, h64, h75, hN⟩ := C
  intro as H locs ls hP hI hk0 hkl he hA hvL hvS ho hf hS hl
  refine va_newa (atype := .int) (ty := .int) (a0 := (n', Sum.inl (fun _ => (0 : Int32)))) hx hb (hts _ w1) rfl hK hP (zN_D hI hA) hS (fun q h => Or.inr h) (fun _ => rfl) hn hn' hbytes hcells hslots hdg (fun q cA H1 hK1 hP1 hD1 hS1 => ?_)
  have hcA : cA = dA 0 := by
    have h1 := (hK1.2 6 (cA, .int) rfl).2
    have h2 := (hK.2 0 (dA 0, .int) rfl).2
    exact Option.some.inj (Eq.trans (Eq.symm h1) h2)
  subst hcA
  have hcc : ∀ as' : Nat → Nat, (Sum.inl (dA 0, (n', Sum.inl (fun _ => (0 : Int32)))) : va_E) = zcell as' dA u k (.inr (0, n', 0, 0)) := by
    intro as'
    show Sum.inl (dA 0, (n', Sum.inl (fun _ => (0 : Int32)))) = Sum.inl (dA 0, (n', Sum.inl (gI u k)))
    have e : gI u k = fun _ => 0 := funext fun j => (hf k j (Nat.le_refl k)).1
    rw [e]
  have hvS' : ∀ v ∈ st, zVok k v := fun v hv => hvS v (List.mem_cons_of_mem _ hv)
  obtain ⟨as', eq, hP2, hI2, he2, hA2, eL, eS⟩ := zN_more hN hs hI hk0 he hA hvL hvS' ho hf hP1 hD1 hcc
  have hkl2 : k < SHg.length := (List.getElem?_eq_some_iff.mp hs).1
  subst eq
  have := kk as' H1 locs ls hP2 hI2 (Nat.le_succ_of_le hk0) hkl2 he2 hA2 (fun q hq => (hvL q hq).le (Nat.le_succ k)) (List.forall_mem_cons.mpr ⟨Nat.lt_succ_self k, fun v hv => (hvS' v hv).le (Nat.le_succ k)⟩) (ho.le (Nat.le_succ k)) (hf.le (Nat.le_succ k)) hS1 (by rw [eL]; exact hl)
  rw [List.map_cons, eS] at this
  exact this
theorem N_newaZ (C : zCn p s m args meth c dA D SHg d nL own cc) {n : Int32} {n' : Nat} (hs : SHg[k]? = some (.inr (1, n', 0, 0))) (w1 : Cond.arrayClass .boolean ∈ zTb) (hn : ¬ n < 0) (hn' : n.toNatClampNeg = n') (hbytes : n' * componentBytes .boolean ≤ 536870912) (hcells : cells + 1 ≤ mc) (hslots : slots + n' ≤ ms) (hdg : decode cc pc = .ok (.newarray .boolean, 2)) (kk : GoN p l e s m args below meth c dA D SHg as0 k0 d mc ms nL k' u' (pc + 2) L (.ref k :: st) (k + 1) u (cells + 1) (slots + n')) : GoN p l e s m args below meth c dA D SHg as0 k0 d mc ms nL k' u' pc L (.int n :: st) k u cells slots := by
  obtain ⟨hx, hb, hml, hown, hts, hr, hlk, hK, hO, hd1, hnm, h64, h75, hN⟩ := C
  intro as H locs ls hP hI hk0 hkl he hA hvL hvS ho hf hS hl
  refine va_newa (atype := .boolean) (ty := .boolean) (a0 := (n', Sum.inl (fun _ => (0 : Int32)))) hx hb (hts _ w1) rfl hK hP (zN_D hI hA) hS (fun q h => Or.inr h) (fun _ => rfl) hn hn' hbytes hcells hslots hdg (fun q cA H1 hK1 hP1 hD1 hS1 => ?_)
  have hcA : cA = dA 1 := by
    have h1 := (hK1.2 6 (cA, .boolean) rfl).2
    have h2 := (hK.2 1 (dA 1, .boolean) rfl).2
    exact Option.some.inj (Eq.trans (Eq.symm h1) h2)
  subst hcA
  have hcc : ∀ as' : Nat → Nat, (Sum.inl (dA 1, (n', Sum.inl (fun _ => (0 : Int32)))) : va_E) = zcell as' dA u k (.inr (1, n', 0, 0)) := by
    intro as'
    show Sum.inl (dA 1, (n', Sum.inl (fun _ => (0 : Int32)))) = Sum.inl (dA 1, (n', Sum.inl (gI u k)))
    have e : gI u k = fun _ => 0 := funext fun j => (hf k j (Nat.le_refl k)).1
    rw [e]
  have hvS' : ∀ v ∈ st, zVok k v := fun v hv => hvS v (List.mem_cons_of_mem _ hv)
  obtain ⟨as', eq, hP2, hI2, he2, hA2, eL, eS⟩ := zN_more hN hs hI hk0 he hA hvL hvS' ho hf hP1 hD1 hcc
  have hkl2 : k < SHg.length := (List.getElem?_eq_some_iff.mp hs).1
  subst eq
  have := kk as' H1 locs ls hP2 hI2 (Nat.le_succ_of_le hk0) hkl2 he2 hA2 (fun q hq => (hvL q hq).le (Nat.le_succ k)) (List.forall_mem_cons.mpr ⟨Nat.lt_succ_self k, fun v hv => (hvS' v hv).le (Nat.le_succ k)⟩) (ho.le (Nat.le_succ k)) (hf.le (Nat.le_succ k)) hS1 (by rw [eL]; exact hl)
  rw [List.map_cons, eS] at this
  exact this
theorem N_newaB (C : zCn p s m args meth c dA D SHg d nL own cc) {n : Int32} {n' : Nat} (hs : SHg[k]? = some (.inr (2, n', 0, 0))) (w1 : Cond.arrayClass .byte ∈ zTb) (hn : ¬ n < 0) (hn' : n.toNatClampNeg = n') (hbytes : n' * componentBytes .byte ≤ 536870912) (hcells : cells + 1 ≤ mc) (hslots : slots + n' ≤ ms) (hdg : decode cc pc = .ok (.newarray .byte, 2)) (kk : GoN p l e s m args below meth c dA D SHg as0 k0 d mc ms nL k' u' (pc + 2) L (.ref k :: st) (k + 1) u (cells + 1) (slots + n')) : GoN p l e s m args below meth c dA D SHg as0 k0 d mc ms nL k' u' pc L (.int n :: st) k u cells slots := by
  obtain ⟨hx, hb, hml, hown, hts, hr, hlk, hK, hO, hd1, hnm, h64, h75, hN⟩ := C
  intro as H locs ls hP hI hk0 hkl he hA hvL hvS ho hf hS hl
  refine va_newa (atype := .byte) (ty := .byte) (a0 := (n', Sum.inl (fun _ => (0 : Int32)))) hx hb (hts _ w1) rfl hK hP (zN_D hI hA) hS (fun q h => Or.inr h) (fun _ => rfl) hn hn' hbytes hcells hslots hdg (fun q cA H1 hK1 hP1 hD1 hS1 => ?_)
  have hcA : cA = dA 2 := by
    have h1 := (hK1.2 6 (cA, .byte) rfl).2
    have h2 := (hK.2 2 (dA 2, .byte) rfl).2
    exact Option.some.inj (Eq.trans (Eq.symm h1) h2)
  subst hcA
  have hcc : ∀ as' : Nat → Nat, (Sum.inl (dA 2, (n', Sum.inl (fun _ => (0 : Int32)))) : va_E) = zcell as' dA u k (.inr (2, n', 0, 0)) := by
    intro as'
    show Sum.inl (dA 2, (n', Sum.inl (fun _ => (0 : Int32)))) = Sum.inl (dA 2, (n', Sum.inl (gI u k)))
    have e : gI u k = fun _ => 0 := funext fun j => (hf k j (Nat.le_refl k)).1
    rw [e]
  have hvS' : ∀ v ∈ st, zVok k v := fun v hv => hvS v (List.mem_cons_of_mem _ hv)
  obtain ⟨as', eq, hP2, hI2, he2, hA2, eL, eS⟩ := zN_more hN hs hI hk0 he hA hvL hvS' ho hf hP1 hD1 hcc
  have hkl2 : k < SHg.length := (List.getElem?_eq_some_iff.mp hs).1
  subst eq
  have := kk as' H1 locs ls hP2 hI2 (Nat.le_succ_of_le hk0) hkl2 he2 hA2 (fun q hq => (hvL q hq).le (Nat.le_succ k)) (List.forall_mem_cons.mpr ⟨Nat.lt_succ_self k, fun v hv => (hvS' v hv).le (Nat.le_succ k)⟩) (ho.le (Nat.le_succ k)) (hf.le (Nat.le_succ k)) hS1 (by rw [eL]; exact hl)
  rw [List.map_cons, eS] at this
  exact this
theorem N_newaJ (C : zCn p s m args meth c dA D SHg d nL own cc) {n : Int32} {n' : Nat} (hs : SHg[k]? = some (.inr (3, n', 0, 0))) (w1 : Cond.arrayClass .long ∈ zTb) (hn : ¬ n < 0) (hn' : n.toNatClampNeg = n') (hbytes : n' * componentBytes .long ≤ 536870912) (hcells : cells + 1 ≤ mc) (hslots : slots + n' ≤ ms) (hdg : decode cc pc = .ok (.newarray .long, 2)) (kk : GoN p l e s m args below meth c dA D SHg as0 k0 d mc ms nL k' u' (pc + 2) L (.ref k :: st) (k + 1) u (cells + 1) (slots + n')) : GoN p l e s m args below meth c dA D SHg as0 k0 d mc ms nL k' u' pc L (.int n :: st) k u cells slots := by
  obtain ⟨hx, hb, hml, hown, hts, hr, hlk, hK, hO, hd1, hnm, h64, h75, hN⟩ := C
  intro as H locs ls hP hI hk0 hkl he hA hvL hvS ho hf hS hl
  refine va_newa (atype := .long) (ty := .long) (a0 := (n', Sum.inr (Sum.inl (fun _ => (0 : Int64))))) hx hb (hts _ w1) rfl hK hP (zN_D hI hA) hS (fun q h => Or.inr h) (fun _ => rfl) hn hn' hbytes hcells hslots hdg (fun q cA H1 hK1 hP1 hD1 hS1 => ?_)
  have hcA : cA = dA 3 := by
    have h1 := (hK1.2 6 (cA, .long) rfl).2
    have h2 := (hK.2 3 (dA 3, .long) rfl).2
    exact Option.some.inj (Eq.trans (Eq.symm h1) h2)
  subst hcA
  have hcc : ∀ as' : Nat → Nat, (Sum.inl (dA 3, (n', Sum.inr (Sum.inl (fun _ => (0 : Int64))))) : va_E) = zcell as' dA u k (.inr (3, n', 0, 0)) := by
    intro as'
    show Sum.inl (dA 3, (n', Sum.inr (Sum.inl (fun _ => (0 : Int64))))) = Sum.inl (dA 3, (n', Sum.inr (Sum.inl (gJ u k))))
    have e : gJ u k = fun _ => 0 := funext fun j => (hf k j (Nat.le_refl k)).2.1
    rw [e]
  have hvS' : ∀ v ∈ st, zVok k v := fun v hv => hvS v (List.mem_cons_of_mem _ hv)
  obtain ⟨as', eq, hP2, hI2, he2, hA2, eL, eS⟩ := zN_more hN hs hI hk0 he hA hvL hvS' ho hf hP1 hD1 hcc
  have hkl2 : k < SHg.length := (List.getElem?_eq_some_iff.mp hs).1
  subst eq
  have := kk as' H1 locs ls hP2 hI2 (Nat.le_succ_of_le hk0) hkl2 he2 hA2 (fun q hq => (hvL q hq).le (Nat.le_succ k)) (List.forall_mem_cons.mpr ⟨Nat.lt_succ_self k, fun v hv => (hvS' v hv).le (Nat.le_succ k)⟩) (ho.le (Nat.le_succ k)) (hf.le (Nat.le_succ k)) hS1 (by rw [eL]; exact hl)
  rw [List.map_cons, eS] at this
  exact this
theorem N_newq (C : zCn p s m args meth c dA D SHg d nL own cc) {n : Int32} {n' index : Nat} (hs : SHg[k]? = some (.inr (6, n', 0, 0))) (w1 : Cond.classLink own index "StruckWhile$Square" ∈ zTb) (hn : ¬ n < 0) (hn' : n.toNatClampNeg = n') (hbytes : n' * 4 ≤ 536870912) (hcells : cells + 1 ≤ mc) (hslots : slots + n' ≤ ms) (hdg : decode cc pc = .ok (.anewarray index, 3)) (kk : GoN p l e s m args below meth c dA D SHg as0 k0 d mc ms nL k' u' (pc + 3) L (.ref k :: st) (k + 1) u (cells + 1) (slots + n')) : GoN p l e s m args below meth c dA D SHg as0 k0 d mc ms nL k' u' pc L (.int n :: st) k u cells slots := by
  obtain ⟨hx, hb, hml, hown, hts, hr, hlk, hK, hO, hd1, hnm, h64, h75, hN⟩ := C
  intro as H locs ls hP hI hk0 hkl he hA hvL hvS ho hf hS hl
  refine va_newq (C := "StruckWhile$Square") hx hb hown (hts _ w1) hO.2.1 hK hP (zN_D hI hA) hS (fun q h => Or.inr h) hn hn' hbytes hcells hslots hdg (fun q cA H1 hK1 hP1 hD1 hS1 => ?_)
  have hcA : cA = dA 4 := by
    obtain ⟨-, -, -, -, -, h1⟩ := (hK1.2 6 (cA, .object "StruckWhile$Square") rfl).2
    obtain ⟨-, -, -, -, -, h2⟩ := (hK.2 4 (dA 4, .object "StruckWhile$Square") rfl).2
    exact Option.some.inj (Eq.trans (Eq.symm h1) h2)
  subst hcA
  have hcc : ∀ as' : Nat → Nat, (Sum.inl (dA 4, (n', Sum.inr (Sum.inr (Sum.inr (Sum.inr (fun _ => none)))))) : va_E) = zcell as' dA u k (.inr (6, n', 0, 0)) := by
    intro as'
    show Sum.inl (dA 4, (n', Sum.inr (Sum.inr (Sum.inr (Sum.inr (fun _ => none)))))) = Sum.inl (dA 6, (n', Sum.inr (Sum.inr (Sum.inr (Sum.inr (fun j => (gO u k j).map as'))))))
    have e : (fun j => (gO u k j).map as') = fun _ => none := funext fun j => by rw [(hf k j (Nat.le_refl k)).2.2]; rfl
    rw [e, h64]
  have hvS' : ∀ v ∈ st, zVok k v := fun v hv => hvS v (List.mem_cons_of_mem _ hv)
  obtain ⟨as', eq, hP2, hI2, he2, hA2, eL, eS⟩ := zN_more hN hs hI hk0 he hA hvL hvS' ho hf hP1 hD1 hcc
  have hkl2 : k < SHg.length := (List.getElem?_eq_some_iff.mp hs).1
  subst eq
  have := kk as' H1 locs ls hP2 hI2 (Nat.le_succ_of_le hk0) hkl2 he2 hA2 (fun q hq => (hvL q hq).le (Nat.le_succ k)) (List.forall_mem_cons.mpr ⟨Nat.lt_succ_self k, fun v hv => (hvS' v hv).le (Nat.le_succ k)⟩) (ho.le (Nat.le_succ k)) (hf.le (Nat.le_succ k)) hS1 (by rw [eL]; exact hl)
  rw [List.map_cons, eS] at this
  exact this
theorem N_putO (C : zCn p s m args meth c dA D SHg d nL own cc) {ci : Nat} {Cn : String} {T : u_T} {N : Nat} (fk : Nat) {a index : Nat} {ks : List Nat} {ty : FieldType} {x : Nat} (hs : SHg[a]? = some (.inl (ci, ks))) (ha : a < k) (hc : zcl[ci]? = some (Cn, T, N)) (hk : ks[fk]? = some 2) (hkN : fk < N) (hw : Cond.fieldLink own index (T fk).1 (T fk).2.1 (T fk).2.2.1 ∈ zTb) (hfin : (T fk).2.2.2 = false) (hd : parseFieldDescriptor (T fk).2.2.1 = some ty) (hn : ∀ x, narrow ty (.ref x) = .ref x) (hfit : ∀ x, fits ty (.ref x) = true) (hdg : decode cc pc = .ok (.putfield index, 3)) (kk : GoN p l e s m args below meth c dA D SHg as0 k0 d mc ms nL k' u' (pc + 3) L st k (sO u a fk (some x)) cells slots) : GoN p l e s m args below meth c dA D SHg as0 k0 d mc ms nL k' u' pc L (.ref x :: .ref a :: st) k u cells slots := by
  obtain ⟨hx, hb, hml, hown, hts, hr, hlk, hK, hO, hd1, hnm, h64, h75, hN⟩ := C
  intro as H locs ls hP hI hk0 hkl he hA hvL hvS ho hf hS hl
  have hq := zcl_ok _ (List.mem_of_getElem? hc)
  obtain ⟨hin, ⟨ty0, hty⟩, hnm2⟩ := hq
  have hx2 : x < k := hvS (.ref x) List.mem_cons_self
  refine va_put (v := .ref (as x)) hx hb hts hin ty0 hty hnm2 hown hK hP (zN_D hI hA) hS a (zw_obj (zN_take hs ha)) hc fk hkN (hts _ hw) (fun _ h9 => h9) hfin hd (hn _) (hfit _) (zf_len hk) hdg (fun H1 locs1 hP1 _ hS1 => ?_)
  rw [zw_set (u' := sO u a fk (some x)) (zN_take hs ha) (by show Sum.inr _ = Sum.inr _; rw [zfs_set hk (u' := sO u a fk (some x)) (by show Value.ref (as x) = va_rf ((gO (sO u a fk (some x)) a fk).map as); rw [gO_same]; rfl) (fun j kj h => zfield_O2 j kj h)]) (fun b S' h => zcell_O b S' h)] at hP1
  exact kk as H1 locs1 ls hP1 hI hk0 hkl he hA hvL (fun w hw => hvS w (List.mem_cons_of_mem _ (List.mem_cons_of_mem _ hw))) (zOk_sO ho hx2) (zFr_sO hf ha) hS1 hl
theorem N_putOF (C : zCn p s m args meth c dA D SHg d nL own cc) {ci : Nat} {Cn : String} {T : u_T} {N : Nat} (fk : Nat) {a index : Nat} {ks : List Nat} {ty : FieldType} {x : Nat} (hs : SHg[a]? = some (.inl (ci, ks))) (ha : a < k) (hc : zcl[ci]? = some (Cn, T, N)) (hk : ks[fk]? = some 2) (hkN : fk < N) (hw : Cond.fieldLink own index (T fk).1 (T fk).2.1 (T fk).2.2.1 ∈ zTb) (hfin : (T fk).2.2.2 = true) (hdecl : (T fk).1 = own) (hd : parseFieldDescriptor (T fk).2.2.1 = some ty) (hn : ∀ x, narrow ty (.ref x) = .ref x) (hfit : ∀ x, fits ty (.ref x) = true) (hdg : decode cc pc = .ok (.putfield index, 3)) (kk : GoN p l e s m args below meth c dA D SHg as0 k0 d mc ms nL k' u' (pc + 3) L st k (sO u a fk (some x)) cells slots) : GoN p l e s m args below meth c dA D SHg as0 k0 d mc ms nL k' u' pc L (.ref x :: .ref a :: st) k u cells slots := by
  obtain ⟨hx, hb, hml, hown, hts, hr, hlk, hK, hO, hd1, hnm, h64, h75, hN⟩ := C
  intro as H locs ls hP hI hk0 hkl he hA hvL hvS ho hf hS hl
  have hq := zcl_ok _ (List.mem_of_getElem? hc)
  obtain ⟨hin, ⟨ty0, hty⟩, hnm2⟩ := hq
  have hx2 : x < k := hvS (.ref x) List.mem_cons_self
  refine va_putF (v := .ref (as x)) hx hb hts hin ty0 hty hnm2 hown hK hP (zN_D hI hA) hS a (zw_obj (zN_take hs ha)) hc fk hkN (hts _ hw) (fun _ h9 => h9) hfin hnm hdecl hd (hn _) (hfit _) (zf_len hk) hdg (fun H1 locs1 hP1 _ hS1 => ?_)
  rw [zw_set (u' := sO u a fk (some x)) (zN_take hs ha) (by show Sum.inr _ = Sum.inr _; rw [zfs_set hk (u' := sO u a fk (some x)) (by show Value.ref (as x) = va_rf ((gO (sO u a fk (some x)) a fk).map as); rw [gO_same]; rfl) (fun j kj h => zfield_O2 j kj h)]) (fun b S' h => zcell_O b S' h)] at hP1
  exact kk as H1 locs1 ls hP1 hI hk0 hkl he hA hvL (fun w hw => hvS w (List.mem_cons_of_mem _ (List.mem_cons_of_mem _ hw))) (zOk_sO ho hx2) (zFr_sO hf ha) hS1 hl
theorem N_putI (C : zCn p s m args meth c dA D SHg d nL own cc) {ci : Nat} {Cn : String} {T : u_T} {N : Nat} (fk : Nat) {a index : Nat} {ks : List Nat} {ty : FieldType} {x : Int32} (hs : SHg[a]? = some (.inl (ci, ks))) (ha : a < k) (hc : zcl[ci]? = some (Cn, T, N)) (hk : ks[fk]? = some 0) (hkN : fk < N) (hw : Cond.fieldLink own index (T fk).1 (T fk).2.1 (T fk).2.2.1 ∈ zTb) (hfin : (T fk).2.2.2 = false) (hd : parseFieldDescriptor (T fk).2.2.1 = some ty) (hn : narrow ty (.int x) = .int x) (hfit : fits ty (.int x) = true) (hdg : decode cc pc = .ok (.putfield index, 3)) (kk : GoN p l e s m args below meth c dA D SHg as0 k0 d mc ms nL k' u' (pc + 3) L st k (sI u a fk x) cells slots) : GoN p l e s m args below meth c dA D SHg as0 k0 d mc ms nL k' u' pc L (.int x :: .ref a :: st) k u cells slots := by
  obtain ⟨hx, hb, hml, hown, hts, hr, hlk, hK, hO, hd1, hnm, h64, h75, hN⟩ := C
  intro as H locs ls hP hI hk0 hkl he hA hvL hvS ho hf hS hl
  have hq := zcl_ok _ (List.mem_of_getElem? hc)
  obtain ⟨hin, ⟨ty0, hty⟩, hnm2⟩ := hq
  refine va_put hx hb hts hin ty0 hty hnm2 hown hK hP (zN_D hI hA) hS a (zw_obj (zN_take hs ha)) hc fk hkN (hts _ hw) (fun _ h9 => h9) hfin hd hn hfit (zf_len hk) hdg (fun H1 locs1 hP1 _ hS1 => ?_)
  rw [zw_set (u' := sI u a fk x) (zN_take hs ha) (by show Sum.inr _ = Sum.inr _; rw [zfs_set hk (u' := sI u a fk x) (by show Value.int x = Value.int (gI (sI u a fk x) a fk); rw [gI_same]) (fun j kj h => zfield_I2 j kj h)]) (fun b S' h => zcell_I b S' h)] at hP1
  exact kk as H1 locs1 ls hP1 hI hk0 hkl he hA hvL (fun w hw => hvS w (List.mem_cons_of_mem _ (List.mem_cons_of_mem _ hw))) (zOk_sI ho) (zFr_sI hf ha) hS1 hl
theorem N_getO (C : zCn p s m args meth c dA D SHg d nL own cc) {ci : Nat} {Cn : String} {T : u_T} {N : Nat} (fk : Nat) {a index : Nat} {ks : List Nat} {x : Nat} (hs : SHg[a]? = some (.inl (ci, ks))) (ha : a < k) (hc : zcl[ci]? = some (Cn, T, N)) (hk : ks[fk]? = some 2) (hkN : fk < N) (hw : Cond.fieldLink own index (T fk).1 (T fk).2.1 (T fk).2.2.1 ∈ zTb) (hg : gO u a fk = some x) (hdg : decode cc pc = .ok (.getfield index, 3)) (kk : GoN p l e s m args below meth c dA D SHg as0 k0 d mc ms nL k' u' (pc + 3) L (.ref x :: st) k u cells slots) : GoN p l e s m args below meth c dA D SHg as0 k0 d mc ms nL k' u' pc L (.ref a :: st) k u cells slots := by
  obtain ⟨hx, hb, hml, hown, hts, hr, hlk, hK, hO, hd1, hnm, h64, h75, hN⟩ := C
  intro as H locs ls hP hI hk0 hkl he hA hvL hvS ho hf hS hl
  have hq := zcl_ok _ (List.mem_of_getElem? hc)
  obtain ⟨hin, ⟨ty0, hty⟩, hnm2⟩ := hq
  refine va_get hx hb hts hin hown hK hP a (zw_obj (zN_take hs ha)) hc fk hkN (hts _ hw) (fun _ h9 => h9) (zf_get hk) hdg ?_
  show W p l e (zRn d mc ms) s m args below meth c H locs cells slots _ (F0 m (pc + 3) ls (va_rf ((gO u a fk).map as) :: st.map (zr as)))
  rw [hg]
  exact kk as H locs ls hP hI hk0 hkl he hA hvL (List.forall_mem_cons.mpr ⟨ho a fk x hg, fun w hw => hvS w (List.mem_cons_of_mem _ hw)⟩) ho hf hS hl
theorem N_alen (t0 tz : Nat) {ty : FieldType} (C : zCn p s m args meth c dA D SHg d nL own cc) {a n b sd : Nat} {v : Int32} (hs : SHg[a]? = some (.inr (t0, n, b, sd))) (ha : a < k) (ht : (zty dA)[tz]? = some (dA tz, ty)) (h0 : t0 = tz ∨ (t0 = 6 ∧ tz = 4)) (hv : Int32.ofNat n = v) (hdg : decode cc pc = .ok (.arraylength, 1)) (kk : GoN p l e s m args below meth c dA D SHg as0 k0 d mc ms nL k' u' (pc + 1) L (.int v :: st) k u cells slots) : GoN p l e s m args below meth c dA D SHg as0 k0 d mc ms nL k' u' pc L (.ref a :: st) k u cells slots := by
  obtain ⟨hx, hb, hml, hown, hts, hr, hlk, hK, hO, hd1, hnm, h64, h75, hN⟩ := C
  intro as H locs ls hP hI hk0 hkl he hA hvL hvS ho hf hS hl
  have hd0 : dA t0 = dA tz := by
    rcases h0 with h | ⟨h, h2⟩
    · rw [h]
    · rw [h, h2]; exact h64
  have hn2 : (zarr as u a n b sd t0).1 = n := by
    unfold zarr
    split <;> rfl
  exact va_alen hx hb hK hP a tz (x := zarr as u a n b sd t0) (by rw [← hd0]; exact zw_arr (zN_take hs ha)) ht (by rw [← hv]; exact congrArg Int32.ofNat hn2) hdg (kk as H locs ls hP hI hk0 hkl he hA hvL (List.forall_mem_cons.mpr ⟨trivial, fun w hw => hvS w (List.mem_cons_of_mem _ hw)⟩) ho hf hS hl)
theorem N_iast (C : zCn p s m args meth c dA D SHg d nL own cc) {a n : Nat} {i : Int32} {x : Int32} (hs : SHg[a]? = some (.inr (0, n, 0, 0))) (ha : a < k) (hin : inB i n = true) (hdg : decode cc pc = .ok (.iastore, 1)) (kk : GoN p l e s m args below meth c dA D SHg as0 k0 d mc ms nL k' u' (pc + 1) L st k (sI u a i.toNatClampNeg x) cells slots) : GoN p l e s m args below meth c dA D SHg as0 k0 d mc ms nL k' u' pc L (.int x :: .int i :: .ref a :: st) k u cells slots := by
  obtain ⟨hx, hb, hml, hown, hts, hr, hlk, hK, hO, hd1, hnm, h64, h75, hN⟩ := C
  intro as H locs ls hP hI hk0 hkl he hA hvL hvS ho hf hS hl
  refine va_iast hx hb hK hP (zN_D hI hA) hS a 0 (zw_arr (zN_take hs ha)) rfl (inB_in hin) hdg (fun H1 locs1 hP1 _ hS1 => ?_)
  rw [zw_set (u' := sI u a i.toNatClampNeg x) (zN_take hs ha) (by show Sum.inl (_, _, Sum.inl _) = Sum.inl (_, _, Sum.inl (gI (sI u a i.toNatClampNeg x) a)); rw [gI_upd]) (fun b S' h => zcell_I b S' h)] at hP1
  exact kk as H1 locs1 ls hP1 hI hk0 hkl he hA hvL (fun w hw => hvS w (List.mem_cons_of_mem _ (List.mem_cons_of_mem _ (List.mem_cons_of_mem _ hw)))) (zOk_sI ho) (zFr_sI hf ha) hS1 hl
theorem gO_up {a i x : Nat} {as : Nat → Nat} : (fun j => (gO (sO u a i (some x)) a j).map as) = va_up (fun j => (gO u a j).map as) i (some (as x)) := by
  funext j
  unfold gO sO va_up
  dsimp only
  by_cases h : j = i
  · rw [if_pos ⟨rfl, h⟩, if_pos h]
    rfl
  · rw [if_neg (fun q => h q.2), if_neg h]
theorem N_aast (C : zCn p s m args meth c dA D SHg d nL own cc) {a n ci x : Nat} {i : Int32} {ks : List Nat} {T : u_T} {N : Nat} (hs : SHg[a]? = some (.inr (6, n, 0, 0))) (ha : a < k) (hsx : SHg[x]? = some (.inl (ci, ks))) (hc : zcl[ci]? = some ("StruckWhile$Square", T, N)) (hin : inB i n = true) (hdg : decode cc pc = .ok (.aastore, 1)) (kk : GoN p l e s m args below meth c dA D SHg as0 k0 d mc ms nL k' u' (pc + 1) L st k (sO u a i.toNatClampNeg (some x)) cells slots) : GoN p l e s m args below meth c dA D SHg as0 k0 d mc ms nL k' u' pc L (.ref x :: .int i :: .ref a :: st) k u cells slots := by
  obtain ⟨hx, hb, hml, hown, hts, hr, hlk, hK, hO, hd1, hnm, h64, h75, hN⟩ := C
  intro as H locs ls hP hI hk0 hkl he hA hvL hvS ho hf hS hl
  have hx2 : x < k := hvS (.ref x) List.mem_cons_self
  have hw6 : (zw as dA (SHg.take k) u)[a]? = some (as a, .inl (dA 4, (n, Sum.inr (Sum.inr (Sum.inr (Sum.inr (fun j => (gO u a j).map as))))))) := by rw [← h64]; exact zw_arr (zN_take hs ha)
  refine va_astq hx hb hK hP (zN_D hI hA) hS a 4 x ci hw6 rfl (zw_obj (zN_take hsx hx2)) hc (inB_in hin) hdg (fun H1 locs1 hP1 _ hS1 => ?_)
  rw [zw_set (u' := sO u a i.toNatClampNeg (some x)) (zN_take hs ha) (by show Sum.inl (dA 4, (n, Sum.inr (Sum.inr (Sum.inr (Sum.inr _))))) = Sum.inl (dA 6, (n, Sum.inr (Sum.inr (Sum.inr (Sum.inr (fun j => (gO (sO u a i.toNatClampNeg (some x)) a j).map as)))))); rw [gO_up, h64]) (fun b S' h => zcell_O b S' h)] at hP1
  exact kk as H1 locs1 ls hP1 hI hk0 hkl he hA hvL (fun w hw => hvS w (List.mem_cons_of_mem _ (List.mem_cons_of_mem _ (List.mem_cons_of_mem _ hw)))) (zOk_sO ho hx2) (zFr_sO hf ha) hS1 hl
theorem N_ret (C : zCn p s m args meth c dA D SHg d nL own cc) (hdg : decode cc pc = .ok (.return_, 1)) : GoN p l e s m args below meth c dA D SHg as0 k0 d mc ms nL k' u' pc L [] k' u' mc ms := by
  obtain ⟨hx, hb, hml, hown, hts, hr, hlk, hK, hO, hd1, hnm, h64, h75, hN⟩ := C
  intro as H locs ls hP hI hk0 hkl he hA hvL hvS ho hf hS hl
  exact W.vret hx hb hr (fun t ht hW => ⟨⟨as, rfl, ⟨he, hA, hI, ho, hf⟩, by rw [ht]; exact hP, hK.moved hW.alike⟩, hS.F ht⟩) hS.2.2 hdg hlk
theorem zPreN_blind {as : Nat → Nat} {av : List Value} {sz : Nat} : FrameBlind (va_Pc av (zPreN as dA D SHg k u sz)) := fun a U g mk q => by
  obtain ⟨q0, q1, q2, q3, q4, q5⟩ := q
  exact ⟨q0, q1, q2, q3.moved (u := U) (U := U.calling g mk a) (Vm.Alike.refl U.vm), q4, q5.same (u := U) (U := U.calling g mk a) rfl⟩
/-- the words of a constructor -/
def zWi (y : MethodName) (bytes : ByteArray) (maxL n : Nat) : Prop := y.name = "<init>" ∧ Cond.instanceMethod y ∈ zTb ∧ Cond.initialized y.cls ∈ zTb ∧ Cond.code y bytes maxL none ∈ zTb ∧ maxL ≤ 45 ∧ (y.cls ≠ "java/lang/invoke/MethodHandle" ∧ y.cls ≠ "java/lang/invoke/VarHandle" ∧ (parseMethodDescriptor y.desc).map (fun d => d.parameters.length) = some n)
theorem N_call (C : zCn p s m args meth c dA D SHg d nL own cc) {y : MethodName} {bytes : ByteArray} {maxL index d2 mc2 ms2 a k2 : Nat} {u2 : zM} {As stk : List Value} (hM : zMetN SHg y bytes maxL d2 mc2 ms2 (.ref a :: As) k u k2 u2) (hR : d2 + 1 ≤ d) (hk2 : k ≤ k2) (hk2l : k2 ≤ SHg.length) (hstk : stk = As.reverse ++ .ref a :: st) (w1 : Cond.methodLink own index y ∈ zTb) (hw : zWi y bytes maxL As.length) (hc1 : cells + mc2 ≤ mc) (hc2 : slots + ms2 ≤ ms) (h8 : (st.map fun v => v.category).sum ≤ 8) (hdg : decode cc pc = .ok (.invokespecial index, 3)) (kk : GoN p l e s m args below meth c dA D SHg as0 k0 d mc ms nL k' u' (pc + 3) L st k2 u2 (cells + mc2) (slots + ms2)) : GoN p l e s m args below meth c dA D SHg as0 k0 d mc ms nL k' u' pc L stk k u cells slots := by
  obtain ⟨hx, hb, hml, hown, hts, hr, hlk, hK, hO, hd1, hnm, h64, h75, hN⟩ := C
  obtain ⟨hy1, w2, w4, w5, hm, hdsc⟩ := hw
  intro as H locs ls hP hI hk0 hkl he hA hvL hvS ho hf hS hl
  have hcode : ∀ w ∈ (Cond.code y bytes maxL none :: zTb), w ∈ zTb := fun w hw => (List.mem_cons.mp hw).elim (fun h => by subst h; exact w5) id
  have hvA : ∀ v ∈ (Value.ref a :: As), zVok k v := fun v hv => hvS v (by
    rw [hstk]
    rcases List.mem_cons.mp hv with h | h
    · subst h; exact List.mem_append_right _ List.mem_cons_self
    · exact List.mem_append_left _ (List.mem_reverse.mpr h))
  have hvT : ∀ v ∈ st, zVok k v := fun v hv => hvS v (by rw [hstk]; exact List.mem_append_right _ (List.mem_cons_of_mem _ hv))
  have hm0 := hM hvA ho hf l as dA D H.size h64 h75
  have hA0 : ∀ q, zA as k H.size q → zA as0 k0 s.heap.size q := fun q h => h.elim (fun ⟨i, hi, e⟩ => by rw [e]; exact hA i hi) (fun h => Or.inr (Nat.le_trans hS.1 h))
  refine va_callv (va_runI (As := As.map (zr as)) (rest := st.map (zr as)) ⟨hx, hb, hml, hown, hts⟩ hm0 (cwI As.length hts (zgood_of hcode) rfl rfl rfl (hts _ w4) (hts _ w1) (hts _ w2) hy1 hdsc ⟨hR, by show 8 + (maxL + 11) + 64 * d2 ≤ 64 * d; omega⟩) ⟨zPreN_blind, fun U hU hW => ⟨rfl, by rw [hU], by rw [hU]; exact hP, hK.moved hW.alike, hI, hO.warm hW⟩⟩ rfl (List.length_map _) hl.1 (by rw [hstk]; exact zmapA) (lv_room (zsum8 h8)) hdg ⟨hc1, hc2⟩) hS (fun q _ h => hA0 q h) hA0 (fun as' t H1 locs1 ht hvm hw hB hz1 hk1 hS1 => ?_)
  obtain ⟨g1, g2, g3, g4, g5⟩ := hw
  obtain ⟨hP1, hK1⟩ := hB
  rw [ht] at hP1
  have eL : zL as' L = zL as L := by
    unfold zL
    apply List.map_congr_left
    intro x hx
    rw [zr_eq g1 (hvL x hx)]
  have eS : st.map (zr as') = st.map (zr as) := by
    apply List.map_congr_left
    intro x hx
    exact zr_eq g1 (hvT x hx)
  have := kk as' H1 locs1 ls hP1 g3 (Nat.le_trans hk0 hk2) hk2l (fun i hi => (g1 i (Nat.lt_of_lt_of_le hi hk0)).trans (he i hi)) (fun i hi => hA0 _ (g2 i hi)) (fun q hq => (hvL q hq).le hk2) (fun v hv => (hvT v hv).le hk2) g4 g5 hS1 (by rw [eL]; exact hl)
  rw [eS] at this
  exact this
theorem N_callN (C : zCn p s m args meth c dA D SHg d nL own cc) {y : MethodName} {bytes : ByteArray} {maxL index d2 mc2 ms2 a k2 : Nat} {u2 : zM} {As stk : List Value} (hM : zMetN SHg y bytes maxL d2 mc2 ms2 (.ref a :: As) k u k2 u2) (hR : d2 + 1 ≤ d) (hk2 : k ≤ k2) (hk2l : k2 ≤ SHg.length) (hstk : stk = As.reverse ++ .ref a :: st) {host : String} (w1 : Cond.methodLinkNest own index y host ∈ zNest) (hw : zWi y bytes maxL As.length) (hc1 : cells + mc2 ≤ mc) (hc2 : slots + ms2 ≤ ms) (h8 : (st.map fun v => v.category).sum ≤ 8) (hdg : decode cc pc = .ok (.invokespecial index, 3)) (kk : GoN p l e s m args below meth c dA D SHg as0 k0 d mc ms nL k' u' (pc + 3) L st k2 u2 (cells + mc2) (slots + ms2)) : GoN p l e s m args below meth c dA D SHg as0 k0 d mc ms nL k' u' pc L stk k u cells slots := by
  obtain ⟨hx, hb, hml, hown, hts, hr, hlk, hK, hO, hd1, hnm, h64, h75, hN⟩ := C
  obtain ⟨hy1, w2, w4, w5, hm, hdsc⟩ := hw
  intro as H locs ls hP hI hk0 hkl he hA hvL hvS ho hf hS hl
  have hcode : ∀ w ∈ (Cond.code y bytes maxL none :: zTb), w ∈ zTb := fun w hw => (List.mem_cons.mp hw).elim (fun h => by subst h; exact w5) id
  have hvA : ∀ v ∈ (Value.ref a :: As), zVok k v := fun v hv => hvS v (by
    rw [hstk]
    rcases List.mem_cons.mp hv with h | h
    · subst h; exact List.mem_append_right _ List.mem_cons_self
    · exact List.mem_append_left _ (List.mem_reverse.mpr h))
  have hvT : ∀ v ∈ st, zVok k v := fun v hv => hvS v (by rw [hstk]; exact List.mem_append_right _ (List.mem_cons_of_mem _ hv))
  have hm0 := hM hvA ho hf l as dA D H.size h64 h75
  have hA0 : ∀ q, zA as k H.size q → zA as0 k0 s.heap.size q := fun q h => h.elim (fun ⟨i, hi, e⟩ => by rw [e]; exact hA i hi) (fun h => Or.inr (Nat.le_trans hS.1 h))
  refine va_callv (va_runIN (As := As.map (zr as)) (rest := st.map (zr as)) ⟨hx, hb, hml, hown, hts⟩ hm0 ⟨va_cnB As.length hts (zgood_of hcode) rfl rfl rfl (hO.1 _ w1) (hts _ w4) hdsc ⟨hR, by show 8 + (maxL + 11) + 64 * d2 ≤ 64 * d; omega⟩, hy1, hts _ w2⟩ ⟨zPreN_blind, fun U hU hW => ⟨rfl, by rw [hU], by rw [hU]; exact hP, hK.moved hW.alike, hI, hO.warm hW⟩⟩ rfl (List.length_map _) hl.1 (by rw [hstk]; exact zmapA) (lv_room (zsum8 h8)) hdg ⟨hc1, hc2⟩) hS (fun q _ h => hA0 q h) hA0 (fun as' t H1 locs1 ht hvm hw hB hz1 hk1 hS1 => ?_)
  obtain ⟨g1, g2, g3, g4, g5⟩ := hw
  obtain ⟨hP1, hK1⟩ := hB
  rw [ht] at hP1
  have eL : zL as' L = zL as L := by
    unfold zL
    apply List.map_congr_left
    intro x hx
    rw [zr_eq g1 (hvL x hx)]
  have eS : st.map (zr as') = st.map (zr as) := by
    apply List.map_congr_left
    intro x hx
    exact zr_eq g1 (hvT x hx)
  have := kk as' H1 locs1 ls hP1 g3 (Nat.le_trans hk0 hk2) hk2l (fun i hi => (g1 i (Nat.lt_of_lt_of_le hi hk0)).trans (he i hi)) (fun i hi => hA0 _ (g2 i hi)) (fun q hq => (hvL q hq).le hk2) (fun v hv => (hvT v hv).le hk2) g4 g5 hS1 (by rw [eL]; exact hl)
  rw [eS] at this
  exact this
theorem zMetN_of {y : MethodName} {bytes : ByteArray} {maxL : Nat} {av : List Value} (hN : ∀ S ∈ SHg, zNew S) (hkl : k ≤ SHg.length) (hy : plainName y.cls = true) (hlen : ∀ as : Nat → Nat, (lg_sl (av.map (zr as))).length ≤ maxL) (hd1 : 1 ≤ d)
    (body : ∀ (p : Program) (l : Launch) (e : Env) (s : State) (m : MethodId) (args : Array Value) (below : List Frame) (meth : Method) (c : Code) (as0 : Nat → Nat) (dA : Nat → ClassId) (D : va_G), zCn p s m args meth c dA D SHg d maxL y.cls bytes → GoN p l e s m args below meth c dA D SHg as0 k d mc ms maxL k' u' 0 (lv_args 0 av) [] k u 0 0) (hyn : y.name = "<init>") : zMetN SHg y bytes maxL d mc ms av k u k' u' := by
  intro hv ho hf l as dA D sz h64 h75
  refine Met.ofW (cc := bytes) (maxL := maxL) (ret := none) hy rfl ?_
  intro p e s m args below meth c s₁ B hml hvv
  obtain ⟨rfl, hsz, hP, hK, hI, hO⟩ := hvv
  subst hsz
  have hts0 := atoms_spec (ws := .code y bytes maxL none :: zTb) B.pre
  have hts : ∀ w ∈ zTb, w.before ((av.map (zr as)).toArray) s = true := fun w hw => hts0 w (List.mem_cons_of_mem _ hw)
  have hown : s.vm.findClass y.cls = some m.cls := findClass_of_methodNamed B.named
  have hin : meth.name = "<init>" := (name_of_methodNamed B.named B.method).1.trans hyn
  have hl := lv_entry (av.map (zr as)) (n := maxL) (hlen as)
  rw [lg_entry_eq]
  generalize (lg_sl (av.map (zr as)) ++ List.replicate (maxL - (lg_sl (av.map (zr as))).length) Slot.unset).toArray = ls at hl ⊢
  have hz : ∀ (i : Nat) (av : List Value), lv_args i (av.map (zr as)) = zL as (lv_args i av) := by
    intro i av
    induction av generalizing i with
    | nil => rfl
    | cons v vs ih =>
      show (i, zr as v) :: lv_args (if (zr as v).category = 2 then i + 2 else i + 1) (vs.map (zr as)) = (i, zr as v) :: zL as (lv_args (if v.category = 2 then i + 2 else i + 1) vs)
      rw [zr_cat, ih]
  have hmem : ∀ (i : Nat) (av : List Value), (∀ v ∈ av, zVok k v) → ∀ q ∈ lv_args i av, zVok k q.2 := by
    intro i av
    induction av generalizing i with
    | nil => intro _ q hq; cases hq
    | cons v vs ih =>
      intro h q hq
      rcases List.mem_cons.mp hq with h1 | h1
      · subst h1; exact h v List.mem_cons_self
      · exact ih _ (fun w hw => h w (List.mem_cons_of_mem _ hw)) q h1
  rw [hz] at hl
  exact body p l e s m _ below meth c as dA D ⟨B.exec, B.bytes, hml, hown, hts, B.returns, B.notSynchronized, hK, hO, hd1, hin, h64, h75, hN⟩ as s.heap [] ls hP hI (Nat.le_refl k) hkl (fun i _ => rfl) (fun i hi => Or.inl ⟨i, hi, rfl⟩) (hmem 0 av hv) (fun v hv => by cases hv) ho hf va_S.rf hl
end GoNew
