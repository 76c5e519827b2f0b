/-! ===== the memory of a system as three functions, its shapes, and the machine's cells out of them ===== -/
abbrev zM : Type := (Nat → Nat → Int32) × (Nat → Nat → Int64) × (Nat → Nat → Option Nat)
def gI (u : zM) (a k : Nat) : Int32 := u.1 a k
def gJ (u : zM) (a k : Nat) : Int64 := u.2.1 a k
def gO (u : zM) (a k : Nat) : Option Nat := u.2.2 a k
def sI (u : zM) (a k : Nat) (x : Int32) : zM := (fun b j => if b = a ∧ j = k then x else u.1 b j, u.2.1, u.2.2)
def sJ (u : zM) (a k : Nat) (x : Int64) : zM := (u.1, fun b j => if b = a ∧ j = k then x else u.2.1 b j, u.2.2)
def sO (u : zM) (a k : Nat) (x : Option Nat) : zM := (u.1, u.2.1, fun b j => if b = a ∧ j = k then x else u.2.2 b j)
/-- an object: its class's number, its slots' kinds (0 an int, 1 a long, 2 a reference or null, j + 3 the cell j); an array: its kind (0 int, 1 boolean, 2 byte, 3 long, 4 and 5 of references, 6 and 7 of such that may be null), its length, where its references begin and in what steps -/
abbrev zS : Type := (Nat × List Nat) ⊕ (Nat × Nat × Nat × Nat)
def zr (as : Nat → Nat) : Value → Value
  | .ref k => .ref (as k)
  | v => v
def zfield (as : Nat → Nat) (u : zM) (a k : Nat) : Nat → Value
  | 0 => .int (gI u a k)
  | 1 => .long (gJ u a k)
  | 2 => va_rf ((gO u a k).map as)
  | j + 3 => .ref (as j)
def zarr (as : Nat → Nat) (u : zM) (a n b sd : Nat) : Nat → vp_A
  | 0 => (n, .inl (gI u a))
  | 1 => (n, .inl (gI u a))
  | 2 => (n, .inl (gI u a))
  | 3 => (n, .inr (.inl (gJ u a)))
  | 6 => (n, .inr (.inr (.inr (.inr (fun j => (gO u a j).map as)))))
  | 7 => (n, .inr (.inr (.inr (.inr (fun j => (gO u a j).map as)))))
  | _ => (n, .inr (.inr (.inr (.inr (fun j => some (as (b + sd * j)))))))
def zcell (as : Nat → Nat) (dA : Nat → ClassId) (u : zM) (a : Nat) : zS → va_E
  | .inl o => .inr (o.1, o.2.mapIdx (fun k kd => zfield as u a k kd))
  | .inr r => .inl (dA r.1, zarr as u a r.2.1 r.2.2.1 r.2.2.2 r.1)
def zw (as : Nat → Nat) (dA : Nat → ClassId) (SH : List zS) (u : zM) : va_W := SH.mapIdx (fun a S => (as a, zcell as dA u a S))
theorem zw_get {as : Nat → Nat} {dA : Nat → ClassId} {SH : List zS} {u : zM} {a : Nat} {S : zS} (h : SH[a]? = some S) : (zw as dA SH u)[a]? = some (as a, zcell as dA u a S) := by
  unfold zw
  rw [List.getElem?_mapIdx, h]
  rfl
theorem zw_has {as : Nat → Nat} {dA : Nat → ClassId} {SH : List zS} {u : zM} {a : Nat} {q : Nat × va_E} (h : (zw as dA SH u)[a]? = some q) : ∃ S, SH[a]? = some S ∧ q = (as a, zcell as dA u a S) := by
  unfold zw at h
  rw [List.getElem?_mapIdx] at h
  cases hS : SH[a]? with
  | none => rw [hS] at h; cases h
  | some S => rw [hS] at h; exact ⟨S, rfl, (Option.some.inj h).symm⟩
theorem zw_set {as : Nat → Nat} {dA : Nat → ClassId} {SH : List zS} {u u' : zM} {a : Nat} {S : zS} {e : va_E} (h : SH[a]? = some S) (he : e = zcell as dA u' a S) (ho : ∀ b S', b ≠ a → zcell as dA u' b S' = zcell as dA u b S') : (zw as dA SH u).set a (as a, e) = zw as dA SH u' := by
  apply List.ext_getElem?
  intro b
  rw [List.getElem?_set]
  by_cases hb : a = b
  · subst hb
    have hl : a < (zw as dA SH u).length := (List.getElem?_eq_some_iff.mp (zw_get h)).1
    rw [if_pos rfl, if_pos hl, zw_get h, he]
  · rw [if_neg hb]
    cases hS : SH[b]? with
    | none =>
      unfold zw
      rw [List.getElem?_mapIdx, List.getElem?_mapIdx, hS]
      rfl
    | some S' => rw [zw_get hS, zw_get hS, ho b S' (fun q => hb q.symm)]
theorem zfield_I {as : Nat → Nat} {u : zM} {a k : Nat} {x : Int32} {b j : Nat} (kd : Nat) (h : ¬ (b = a ∧ j = k)) : zfield as (sI u a k x) b j kd = zfield as u b j kd := by
  match kd with
  | 0 => show Value.int _ = Value.int _; unfold gI sI; dsimp only; rw [if_neg h]
  | 1 => rfl
  | 2 => rfl
  | _ + 3 => rfl
theorem zcell_I {as : Nat → Nat} {dA : Nat → ClassId} {u : zM} {a k : Nat} {x : Int32} (b : Nat) (S : zS) (h : b ≠ a) : zcell as dA (sI u a k x) b S = zcell as dA u b S := by
  cases S with
  | inl o =>
    have e : (fun j kd => zfield as (sI u a k x) b j kd) = fun j kd => zfield as u b j kd := by
      funext j kd
      exact zfield_I kd (fun q => h q.1)
    show Sum.inr (o.1, o.2.mapIdx (fun j kd => zfield as (sI u a k x) b j kd)) = Sum.inr (o.1, o.2.mapIdx (fun j kd => zfield as u b j kd))
    rw [e]
  | inr r =>
    show Sum.inl _ = Sum.inl _
    congr 2
    have e : gI (sI u a k x) b = gI u b := by funext j; unfold gI sI; dsimp only; rw [if_neg (fun q => h q.1)]
    obtain ⟨t, n, p, q⟩ := r
    dsimp only
    unfold zarr
    split <;> first | rw [e] | rfl
theorem zcell_J {as : Nat → Nat} {dA : Nat → ClassId} {u : zM} {a k : Nat} {x : Int64} (b : Nat) (S : zS) (h : b ≠ a) : zcell as dA (sJ u a k x) b S = zcell as dA u b S := by
  cases S with
  | inl o =>
    have e : (fun j kd => zfield as (sJ u a k x) b j kd) = fun j kd => zfield as u b j kd := by
      funext j kd
      match kd with
      | 0 => rfl
      | 1 => show Value.long _ = Value.long _; unfold gJ sJ; dsimp only; rw [if_neg (fun q => h q.1)]
      | 2 => rfl
      | _ + 3 => rfl
    show Sum.inr (o.1, o.2.mapIdx (fun j kd => zfield as (sJ u a k x) b j kd)) = Sum.inr (o.1, o.2.mapIdx (fun j kd => zfield as u b j kd))
    rw [e]
  | inr r =>
    show Sum.inl _ = Sum.inl _
    congr 2
    have e : gJ (sJ u a k x) b = gJ u b := by funext j; unfold gJ sJ; dsimp only; rw [if_neg (fun q => h q.1)]
    obtain ⟨t, n, p, q⟩ := r
    dsimp only
    unfold zarr
    split <;> first | rw [e] | rfl
theorem zcell_O {as : Nat → Nat} {dA : Nat → ClassId} {u : zM} {a k : Nat} {x : Option Nat} (b : Nat) (S : zS) (h : b ≠ a) : zcell as dA (sO u a k x) b S = zcell as dA u b S := by
  cases S with
  | inl o =>
    have e : (fun j kd => zfield as (sO u a k x) b j kd) = fun j kd => zfield as u b j kd := by
      funext j kd
      match kd with
      | 0 => rfl
      | 1 => rfl
      | 2 => show va_rf _ = va_rf _; unfold gO sO; dsimp only; rw [if_neg (fun q => h q.1)]
      | _ + 3 => rfl
    show Sum.inr (o.1, o.2.mapIdx (fun j kd => zfield as (sO u a k x) b j kd)) = Sum.inr (o.1, o.2.mapIdx (fun j kd => zfield as u b j kd))
    rw [e]
  | inr r =>
    show Sum.inl _ = Sum.inl _
    congr 2
    have e : gO (sO u a k x) b = gO u b := by funext j; unfold gO sO; dsimp only; rw [if_neg (fun q => h q.1)]
    obtain ⟨t, n, p, q⟩ := r
    dsimp only
    unfold zarr
    split <;> first | rw [e] | rfl
theorem zfs_set {as : Nat → Nat} {u u' : zM} {a k kd : Nat} {ks : List Nat} {v : Value} (hk : ks[k]? = some kd) (hv : v = zfield as u' a k kd) (ho : ∀ j kj, j ≠ k → zfield as u' a j kj = zfield as u a j kj) : (ks.mapIdx (fun j kj => zfield as u a j kj)).set k v = ks.mapIdx (fun j kj => zfield as u' a j kj) := by
  apply List.ext_getElem?
  intro j
  rw [List.getElem?_set]
  by_cases hj : k = j
  · subst hj
    have hl : k < (ks.mapIdx (fun j kj => zfield as u a j kj)).length := by rw [List.length_mapIdx]; exact (List.getElem?_eq_some_iff.mp hk).1
    rw [if_pos rfl, if_pos hl, List.getElem?_mapIdx, hk, hv]
    rfl
  · rw [if_neg hj, List.getElem?_mapIdx, List.getElem?_mapIdx]
    cases ks[j]? with
    | none => rfl
    | some kj => exact congrArg some (ho j kj (fun q => hj q.symm)).symm
/-- which cells a system may change -/
def zA (as : Nat → Nat) (n sz : Nat) : Nat → Prop := fun q => (∃ k : Nat, k < n ∧ q = as k) ∨ sz ≤ q
def zInj (as : Nat → Nat) (n : Nat) : Prop := ∀ i j : Nat, i < n → j < n → as i = as j → i = j
theorem zw_D {as : Nat → Nat} {dA : Nat → ClassId} {SH : List zS} {u : zM} {A : Nat → Prop} (hI : zInj as SH.length) (hA : ∀ k : Nat, k < SH.length → A (as k)) : va_D A (zw as dA SH u) := by
  refine ⟨fun i j p q hi hj e => ?_, fun k q hk => ?_⟩
  · obtain ⟨S, h1, rfl⟩ := zw_has hi
    obtain ⟨S', h2, rfl⟩ := zw_has hj
    exact hI i j (List.getElem?_eq_some_iff.mp h1).1 (List.getElem?_eq_some_iff.mp h2).1 e
  · obtain ⟨S, h1, rfl⟩ := zw_has hk
    exact hA k (List.getElem?_eq_some_iff.mp h1).1
theorem zw_DA {as : Nat → Nat} {dA : Nat → ClassId} {SH : List zS} {u : zM} {sz : Nat} (hI : zInj as SH.length) : va_D (zA as SH.length sz) (zw as dA SH u) := zw_D hI (fun k h => Or.inl ⟨k, h, rfl⟩)
/-- the kinds of arrays -/
def zty (dA : Nat → ClassId) : List (ClassId × FieldType) := [(dA 0, .int), (dA 1, .boolean), (dA 2, .byte), (dA 3, .long), (dA 4, .object "StruckWhile$Square"), (dA 5, .array .long)]
/-! ===== what stands outside: words of nests, static arrays, String constants ===== -/
def zIsNest : Cond → Bool
  | .methodLinkNest _ _ _ _ => true
  | .fieldLinkNest _ _ _ _ _ _ => true
  | _ => false
def zNest : List Cond := lw_tbl.filter zIsNest
theorem zn_at (i : Nat) {w : Cond} (h : lw_tbl[i]? = some w) (hg : zIsNest w = true) : w ∈ zNest := List.mem_filter.mpr ⟨List.mem_of_getElem? h, hg⟩
theorem zn_warm {w : Cond} (hw : w ∈ zNest) {s U : State} (hW : s.WarmedH U.vm) (h : va_Nw w s) : va_Nw w U := by
  have hk := (List.mem_filter.mp hw).2
  cases w <;> first | exact va_Nw.warmM hW h | exact va_Nw.warmF hW h | (cases hk)
theorem zn_same {w : Cond} (hw : w ∈ zNest) {u U : State} (hv : u.vm = U.vm) (h : va_Nw w u) : va_Nw w U := by
  have hk := (List.mem_filter.mp hw).2
  cases w <;> first | exact va_Nw.same rfl hv h | (cases hk)
theorem zn_use {w : Cond} (hw : w ∈ zNest) {a : Array Value} {U : State} (h : va_Nw w U) : w.before a U = true := by
  have hk := (List.mem_filter.mp hw).2
  cases w <;> first | exact va_Nw.use rfl h | (cases hk)
theorem zn_of {w : Cond} (hw : w ∈ zNest) {a : Array Value} {U : State} (h : w.before a U = true) : va_Nw w U := by
  have hk := (List.mem_filter.mp hw).2
  cases w <;> first | exact va_Nw.of rfl h | (cases hk)
/-- static arrays of ints: class, name, their numbers -/
def zSA : List (String × String × List Int32) := [("StruckWhile", "KIND_ABOVE", [-1, 0, 0, 0, 1, 2, 3]), ("StruckWhile$Acts", "BODIES", [10, 11, 12, 0, 20, 0, 30, 0, 0, 0, 0, 40, 50, 51, 0, 0, 0, 60, 71, 70, 0]), ("StruckWhile$Ahead", "ROWS_OF", [1, 1, 2, 6, 24])]
/-- String constants of the Reader: place, text, bytes -/
def zSK : List (Nat × String × List Int32) := [(42, "heat", [104, 101, 97, 116]), (81, "pkvhnm", [112, 107, 118, 104, 110, 109]), (87, "<=>", [60, 61, 62]), (52, "calm", [99, 97, 108, 109]), (54, "spark", [115, 112, 97, 114, 107])]
/-- what stands outside of all systems: the words of nests, static arrays (at 1000 ..), String constants (at 1010 ..), their bytes (at 1020 ..) -/
def zSt (as : Nat → Nat) (A : Nat → Prop) (U : State) : Prop :=
  (∀ w ∈ zNest, va_Nw w U) ∧ va_Z "java/lang/String" "COMPACT_STRINGS" "Z" (.int 1) A U U.heap ∧ (va_Z "jdk/internal/util/Preconditions" "SIOOBE_FORMATTER" "Ljava/util/function/BiFunction;" .null A U U.heap ∨ va_Z "jdk/internal/util/Preconditions" "SIOOBE_FORMATTER" "Ljava/util/function/BiFunction;" (.ref (as 1030)) A U U.heap) ∧
  (∀ (k : Nat) (q : String × String × List Int32), zSA[k]? = some q → va_Z q.1 q.2.1 "[I" (.ref (as (1000 + k))) A U U.heap ∧ va_T .int (as (1000 + k)) q.2.2.length (fun i => .int (q.2.2.getD i 0)) A U U.heap) ∧
  vk_S 5 (zSK.map (fun q => q.2.2.length)) (zSK.map (fun q => q.2.2)) (fun k => as (1010 + k)) (fun k => as (1020 + k)) A U U.heap ∧
  ∀ (k : Nat) (q : Nat × String × List Int32), zSK[k]? = some q → vk_R "StruckWhile$Reader" q.1 q.2.1 (as (1010 + k)) U
theorem zSt.same {as : Nat → Nat} {A : Nat → Prop} {u U : State} (hh : U.heap = u.heap) (hv : U.vm = u.vm) (h : zSt as A u) : zSt as A U := by
  have ha : u.vm.Alike U.vm := by rw [hv]; exact Vm.Alike.refl _
  obtain ⟨h1, h2, h3, h4, h5, h6⟩ := h
  refine ⟨fun w hw => zn_same hw hv.symm (h1 w hw), ?_, ?_, fun k q hk => ⟨?_, ?_⟩, ?_, fun k q hk => (h6 k q hk).same hv⟩ <;> rw [hh]
  · exact h2.moved ha
  · exact h3.imp (fun h => h.moved ha) (fun h => h.moved ha)
  · exact (h4 k q hk).1.moved ha
  · exact (h4 k q hk).2.moved ha
  · exact h5.moved ha
theorem zSt.call {as : Nat → Nat} {A B : Nat → Prop} {s U : State} {H : Heap} {locs : List Loc} (hU : U.heap = H) (hW : s.WarmedH U.vm) (hS : va_S A s.heap H locs) (hAB : ∀ q, B q → A q) (h : zSt as A s) : zSt as B U := by
  have ha : s.vm.Alike U.vm := hW.alike
  obtain ⟨h1, h2, h3, h4, h5, h6⟩ := h
  refine ⟨fun w hw => zn_warm hw hW (h1 w hw), ?_, ?_, fun k q hk => ⟨?_, ?_⟩, ?_, fun k q hk => (h6 k q hk).warm hW⟩ <;> rw [hU]
  · exact ((h2.kept hS.2.1).moved ha).narrow hAB
  · exact h3.imp (fun h => ((h.kept hS.2.1).moved ha).narrow hAB) (fun h => ((h.kept hS.2.1).moved ha).narrow hAB)
  · exact (((h4 k q hk).1.kept hS.2.1).moved ha).narrow hAB
  · exact (((h4 k q hk).2.kept hS.2.1).moved ha).narrow hAB
  · exact ((h5.kept hS.2.1).moved ha).narrow hAB
/-! ===== contracts ===== -/
def zRm (d : Nat) : Room := { frames := d, cells := 0, slots := 0, locals := 64 * d }
def zPre (as : Nat → Nat) (dA : Nat → ClassId) (D : va_G) (SH : List zS) (u : zM) (sz : Nat) (U : State) : Prop :=
  U.heap.size = sz ∧ va_P D zcl (zw as dA SH u) U.heap ∧ va_K D zcl (zty dA) U ∧ zInj as SH.length ∧ zSt as (zA as SH.length sz) U
def zPost (as : Nat → Nat) (dA : Nat → ClassId) (D : va_G) (SH : List zS) (u : zM) (t : State) : Prop := va_P D zcl (zw as dA SH u) t.heap ∧ va_K D zcl (zty dA) t
def zQi (as : Nat → Nat) (dA : Nat → ClassId) (D : va_G) (SH : List zS) (sz : Nat) (x : Int32) (u' : zM) : Array Value → State → Outcome → State → Prop :=
  va_Qi (fun (x' : Int32) (v : zM) => x' = x ∧ v = u') (fun v t => zPost as dA D SH v t) (zA as SH.length sz)
def zQl (as : Nat → Nat) (dA : Nat → ClassId) (D : va_G) (SH : List zS) (sz : Nat) (x : Int64) (u' : zM) : Array Value → State → Outcome → State → Prop :=
  va_Ql (fun (x' : Int64) (v : zM) => x' = x ∧ v = u') (fun v t => zPost as dA D SH v t) (zA as SH.length sz)
def zQv (as : Nat → Nat) (dA : Nat → ClassId) (D : va_G) (SH : List zS) (sz : Nat) (_ : Unit) (u' : zM) : Array Value → State → Outcome → State → Prop :=
  va_Qv (fun (v : zM) => v = u') (fun v t => zPost as dA D SH v t) (zA as SH.length sz)
/-- a reference that is answered: the cell's number -/
def zQr (as : Nat → Nat) (dA : Nat → ClassId) (D : va_G) (SH : List zS) (sz : Nat) (x : Nat) (u' : zM) : Array Value → State → Outcome → State → Prop :=
  va_Qr (fun (v : zM) => v = u') (fun v a t => a = as x ∧ zPost as dA D SH v t) (zA as SH.length sz)
def zMet {α : Type} (Qk : (Nat → Nat) → (Nat → ClassId) → va_G → List zS → Nat → α → zM → Array Value → State → Outcome → State → Prop) (SH : List zS) (y : MethodName) (bytes : ByteArray) (maxL : Nat) (rt : Option FieldType) (d : Nat) (av : List Value) (u : zM) (F : Option (α × zM)) : Prop :=
  ∀ (r : α) (u' : zM), F = some (r, u') → ∀ (l : Launch) (as : Nat → Nat) (dA : Nat → ClassId) (D : va_G) (sz : Nat), Met l y (.code y bytes maxL rt :: zTb) (zRm d) (va_Pc (av.map (zr as)) (zPre as dA D SH u sz)) (Qk as dA D SH sz r u') 0 0 (zA as SH.length sz)
/-- what holds in a method's frame -/
def zCx (p : Program) (s : State) (m : MethodId) (args : Array Value) (meth : Method) (c : Code) (as : Nat → Nat) (dA : Nat → ClassId) (D : va_G) (SH : List zS) (d : Nat) (nL : Nat) (own : String) (cc : ByteArray) (ret : Option FieldType) : Prop :=
  p.tables.exec = Jvm.exec ∧ c.code = cc ∧ c.maxLocals = nL ∧ s.vm.findClass own = some m.cls ∧ (∀ w ∈ zTb, w.before args s = true) ∧ meth.sig.returnType = ret ∧ meth.locks = false ∧ va_K D zcl (zty dA) s ∧ zInj as SH.length ∧ zSt as (zA as SH.length s.heap.size) s ∧ 1 ≤ d
def zL (as : Nat → Nat) (L : List (Nat × Value)) : List (Nat × Value) := L.map (fun q => (q.1, zr as q.2))
def Go (p : Program) (l : Launch) (e : Env) (s : State) (m : MethodId) (args : Array Value) (below : List Frame) (meth : Method) (c : Code) (as : Nat → Nat) (dA : Nat → ClassId) (D : va_G) (SH : List zS) (d : Nat) (nL : Nat) {α : Type} (Qk : (Nat → Nat) → (Nat → ClassId) → va_G → List zS → Nat → α → zM → Array Value → State → Outcome → State → Prop)
    (pc : Nat) (L : List (Nat × Value)) (st : List Value) (u : zM) (F : Option (α × zM)) : Prop :=
  ∀ (r : α) (u' : zM), F = some (r, u') → ∀ (H : Heap) (locs : List Loc) (ls : Array Slot), va_P D zcl (zw as dA SH u) H → va_S (zA as SH.length s.heap.size) s.heap H locs → lv_has ls nL (zL as L) →
    W p l e (zRm d) s m args below meth c H locs 0 0 (MQ below (Qk as dA D SH s.heap.size r u') args s 0 0 (zA as SH.length s.heap.size)) (F0 m pc ls (st.map (zr as)))
theorem zr_cat (as : Nat → Nat) (v : Value) : (zr as v).category = v.category := by cases v <;> rfl
theorem zL_at {as : Nat → Nat} {L : List (Nat × Value)} {k i : Nat} {v : Value} (h : L[k]? = some (i, v)) : (zL as L)[k]? = some (i, zr as v) := by
  unfold zL
  rw [List.getElem?_map, h]
  rfl
theorem zL_f1 (as : Nat → Nat) (i : Nat) : ∀ L : List (Nat × Value), (zL as L).filter (fun q => !(q.1 == i) && !(q.1 + 1 == i && q.2.category == 2)) = zL as (L.filter (fun q => !(q.1 == i) && !(q.1 + 1 == i && q.2.category == 2))) := by
  intro L
  unfold zL
  rw [List.filter_map]
  congr 1
  apply List.filter_congr
  intro q _
  show (!(q.1 == i) && !(q.1 + 1 == i && (zr as q.2).category == 2)) = _
  rw [zr_cat]
theorem zL_sub {as : Nat → Nat} {ls : Array Slot} {nL : Nat} {L L' : List (Nat × Value)} (h : lv_has ls nL (zL as L)) (ks : List Nat) (hl : lv_pick L ks = L') : lv_has ls nL (zL as L') := by
  refine lv_sub h ks ?_
  rw [← hl]
  unfold lv_pick zL
  rw [List.map_filterMap]
  congr 1
  funext k
  rw [List.getElem?_map]
