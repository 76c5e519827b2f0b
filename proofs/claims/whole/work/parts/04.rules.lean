/-! ===== one rule an instruction, over the memory ===== -/
section GoRules
variable {p : Program} {l : Launch} {e : Env} {s : State} {m : MethodId} {args : Array Value} {below : List Frame} {meth : Method} {c : Code} {as : Nat → Nat} {dA : Nat → ClassId} {D : va_G} {SH : List zS} {d nL : Nat} {α : Type} {Qk : (Nat → Nat) → (Nat → ClassId) → va_G → List zS → Nat → α → zM → Array Value → State → Outcome → State → Prop}
variable {own : String} {cc : ByteArray} {ret : Option FieldType} {pc : Nat} {L : List (Nat × Value)} {st : List Value} {u : zM} {F : Option (α × zM)}
def zck {β : Type} (b : Bool) (o : Option β) : Option β := if b = true then o else none
def zb {β γ : Type} (o : Option (β × zM)) (k : β → zM → Option γ) : Option γ := match o with
  | some q => k q.1 q.2
  | none => none
def zlet {γ : Type} (u : zM) (k : zM → Option γ) : Option γ := k u
def zlx {γ : Type} (x : Int32) (k : Int32 → Option γ) : Option γ := k x
def zly {γ : Type} (x : Int64) (k : Int64 → Option γ) : Option γ := k x
def zmo {γ : Type} (o : Option Nat) (k0 : Option γ) (k1 : Nat → Option γ) : Option γ := match o with
  | some x => k1 x
  | none => k0
def zrem (x y : Int32) : Int32 := x - x / y * y
def inB (i : Int32) (n : Nat) : Bool := decide (¬ (i < 0 ∨ n ≤ i.toNatClampNeg))
theorem inB_in {i : Int32} {n : Nat} (h : inB i n = true) : vp_in i n := by
  show ¬ (i < 0 ∨ n ≤ i.toNatClampNeg)
  unfold inB at h
  exact of_decide_eq_true h
theorem zck_some {β : Type} {b : Bool} {o : Option β} {r : β} (h : zck b o = some r) : b = true ∧ o = some r := by
  unfold zck at h
  split at h
  · exact ⟨by assumption, h⟩
  · cases h
theorem zb_some {β γ : Type} {o : Option (β × zM)} {k : β → zM → Option γ} {r : γ} (h : zb o k = some r) : ∃ x v, o = some (x, v) ∧ k x v = some r := by
  cases o with
  | none => cases h
  | some q => exact ⟨q.1, q.2, rfl, h⟩
theorem G_none : Go p l e s m args below meth c as dA D SH d nL Qk pc L st u none := fun _ _ h => by cases h
theorem G_ck {b : Bool} (k : b = true → Go p l e s m args below meth c as dA D SH d nL Qk pc L st u F) : Go p l e s m args below meth c as dA D SH d nL Qk pc L st u (zck b F) := fun r u' h => k (zck_some h).1 r u' (zck_some h).2
theorem G_if {P : Prop} [Decidable P] {F1 F2 : Option (α × zM)} (k1 : P → Go p l e s m args below meth c as dA D SH d nL Qk pc L st u F1) (k2 : ¬ P → Go p l e s m args below meth c as dA D SH d nL Qk pc L st u F2) : Go p l e s m args below meth c as dA D SH d nL Qk pc L st u (if P then F1 else F2) := by
  by_cases h : P
  · rw [if_pos h]; exact k1 h
  · rw [if_neg h]; exact k2 h
theorem G_topi {x : Int32} {F : Int32 → Option (α × zM)} (k : ∀ y : Int32, Go p l e s m args below meth c as dA D SH d nL Qk pc L (.int y :: st) u (F y)) : Go p l e s m args below meth c as dA D SH d nL Qk pc L (.int x :: st) u (zlx x F) := k x
theorem G_topl {x : Int64} {F : Int64 → Option (α × zM)} (k : ∀ y : Int64, Go p l e s m args below meth c as dA D SH d nL Qk pc L (.long y :: st) u (F y)) : Go p l e s m args below meth c as dA D SH d nL Qk pc L (.long x :: st) u (zly x F) := k x
theorem G_locals (ks : List Nat) {L' : List (Nat × Value)} (hl : lv_pick L ks = L') (k : Go p l e s m args below meth c as dA D SH d nL Qk pc L' st u F) : Go p l e s m args below meth c as dA D SH d nL Qk pc L st u F := fun r u' hF H locs ls hP hS h => k r u' hF H locs ls hP hS (zL_sub h ks hl)

theorem G_iconst (C : zCx p s m args meth c as dA D SH d nL own cc ret) {n : Int} {v : Int32} (hdg : decode cc pc = .ok (.iconst n, 1)) (hv : Int32.ofInt n = v) (k : Go p l e s m args below meth c as dA D SH d nL Qk  (pc + 1) L (.int v :: st) u F) : Go p l e s m args below meth c as dA D SH d nL Qk  pc L st u F := by
  obtain ⟨hx, hb, hml, hown, hts, hr, hlk, hK, hI, hZ, hd1⟩ := C
  intro r u' hF H locs ls hP hS hl
  exact lv_iconst hx hb hdg hv (k r u' hF H locs ls hP hS hl)
theorem G_bipush (C : zCx p s m args meth c as dA D SH d nL own cc ret) {n : Int} {v : Int32} (hdg : decode cc pc = .ok (.bipush n, 2)) (hv : (Int8.ofInt n).toInt32 = v) (k : Go p l e s m args below meth c as dA D SH d nL Qk  (pc + 2) L (.int v :: st) u F) : Go p l e s m args below meth c as dA D SH d nL Qk  pc L st u F := by
  obtain ⟨hx, hb, hml, hown, hts, hr, hlk, hK, hI, hZ, hd1⟩ := C
  intro r u' hF H locs ls hP hS hl
  exact lv_bipush hx hb hdg hv (k r u' hF H locs ls hP hS hl)
theorem G_sipush (C : zCx p s m args meth c as dA D SH d nL own cc ret) {n : Int} {v : Int32} (hdg : decode cc pc = .ok (.sipush n, 3)) (hv : (Int16.ofInt n).toInt32 = v) (k : Go p l e s m args below meth c as dA D SH d nL Qk  (pc + 3) L (.int v :: st) u F) : Go p l e s m args below meth c as dA D SH d nL Qk  pc L st u F := by
  obtain ⟨hx, hb, hml, hown, hts, hr, hlk, hK, hI, hZ, hd1⟩ := C
  intro r u' hF H locs ls hP hS hl
  exact lv_sipush hx hb hdg hv (k r u' hF H locs ls hP hS hl)
theorem G_lconst (C : zCx p s m args meth c as dA D SH d nL own cc ret) {n : Fin 2} {v : Int64} (hdg : decode cc pc = .ok (.lconst n, 1)) (hv : Int64.ofNat (n : Nat) = v) (k : Go p l e s m args below meth c as dA D SH d nL Qk  (pc + 1) L (.long v :: st) u F) : Go p l e s m args below meth c as dA D SH d nL Qk  pc L st u F := by
  obtain ⟨hx, hb, hml, hown, hts, hr, hlk, hK, hI, hZ, hd1⟩ := C
  intro r u' hF H locs ls hP hS hl
  exact lv_lconst hx hb hdg hv (k r u' hF H locs ls hP hS hl)
theorem G_ldc (C : zCx p s m args meth c as dA D SH d nL own cc ret) {index : Nat} {v : Int32} (hdg : decode cc pc = .ok (.ldc index, 2)) (hc : Cond.constant own index v ∈ zTb) (k : Go p l e s m args below meth c as dA D SH d nL Qk  (pc + 2) L (.int v :: st) u F) : Go p l e s m args below meth c as dA D SH d nL Qk  pc L st u F := by
  obtain ⟨hx, hb, hml, hown, hts, hr, hlk, hK, hI, hZ, hd1⟩ := C
  intro r u' hF H locs ls hP hS hl
  exact lv_ldc hx hb hown (hts _ hc) hdg (k r u' hF H locs ls hP hS hl)
theorem G_ldc2 (C : zCx p s m args meth c as dA D SH d nL own cc ret) {index : Nat} {v : Int64} (hdg : decode cc pc = .ok (.ldc2_w index, 3)) (hc : Cond.constantLong own index v ∈ zTb) (k : Go p l e s m args below meth c as dA D SH d nL Qk  (pc + 3) L (.long v :: st) u F) : Go p l e s m args below meth c as dA D SH d nL Qk  pc L st u F := by
  obtain ⟨hx, hb, hml, hown, hts, hr, hlk, hK, hI, hZ, hd1⟩ := C
  intro r u' hF H locs ls hP hS hl
  exact lv_ldc2 hx hb hown (hts _ hc) hdg (k r u' hF H locs ls hP hS hl)
theorem G_iadd (C : zCx p s m args meth c as dA D SH d nL own cc ret) {x y : Int32} (hdg : decode cc pc = .ok (.iadd, 1)) (k : Go p l e s m args below meth c as dA D SH d nL Qk  (pc + 1) L (.int (x + y) :: st) u F) : Go p l e s m args below meth c as dA D SH d nL Qk  pc L (.int y :: .int x :: st) u F := by
  obtain ⟨hx, hb, hml, hown, hts, hr, hlk, hK, hI, hZ, hd1⟩ := C
  intro r u' hF H locs ls hP hS hl
  exact lv_iadd hx hb hdg (k r u' hF H locs ls hP hS hl)
theorem G_isub (C : zCx p s m args meth c as dA D SH d nL own cc ret) {x y : Int32} (hdg : decode cc pc = .ok (.isub, 1)) (k : Go p l e s m args below meth c as dA D SH d nL Qk  (pc + 1) L (.int (x - y) :: st) u F) : Go p l e s m args below meth c as dA D SH d nL Qk  pc L (.int y :: .int x :: st) u F := by
  obtain ⟨hx, hb, hml, hown, hts, hr, hlk, hK, hI, hZ, hd1⟩ := C
  intro r u' hF H locs ls hP hS hl
  exact lv_isub hx hb hdg (k r u' hF H locs ls hP hS hl)
theorem G_imul (C : zCx p s m args meth c as dA D SH d nL own cc ret) {x y : Int32} (hdg : decode cc pc = .ok (.imul, 1)) (k : Go p l e s m args below meth c as dA D SH d nL Qk  (pc + 1) L (.int (x * y) :: st) u F) : Go p l e s m args below meth c as dA D SH d nL Qk  pc L (.int y :: .int x :: st) u F := by
  obtain ⟨hx, hb, hml, hown, hts, hr, hlk, hK, hI, hZ, hd1⟩ := C
  intro r u' hF H locs ls hP hS hl
  exact lv_imul hx hb hdg (k r u' hF H locs ls hP hS hl)
theorem G_iand (C : zCx p s m args meth c as dA D SH d nL own cc ret) {x y : Int32} (hdg : decode cc pc = .ok (.iand, 1)) (k : Go p l e s m args below meth c as dA D SH d nL Qk  (pc + 1) L (.int (x &&& y) :: st) u F) : Go p l e s m args below meth c as dA D SH d nL Qk  pc L (.int y :: .int x :: st) u F := by
  obtain ⟨hx, hb, hml, hown, hts, hr, hlk, hK, hI, hZ, hd1⟩ := C
  intro r u' hF H locs ls hP hS hl
  exact lv_iand hx hb hdg (k r u' hF H locs ls hP hS hl)
theorem G_ior (C : zCx p s m args meth c as dA D SH d nL own cc ret) {x y : Int32} (hdg : decode cc pc = .ok (.ior, 1)) (k : Go p l e s m args below meth c as dA D SH d nL Qk  (pc + 1) L (.int (x ||| y) :: st) u F) : Go p l e s m args below meth c as dA D SH d nL Qk  pc L (.int y :: .int x :: st) u F := by
  obtain ⟨hx, hb, hml, hown, hts, hr, hlk, hK, hI, hZ, hd1⟩ := C
  intro r u' hF H locs ls hP hS hl
  exact lv_ior hx hb hdg (k r u' hF H locs ls hP hS hl)
theorem G_ixor (C : zCx p s m args meth c as dA D SH d nL own cc ret) {x y : Int32} (hdg : decode cc pc = .ok (.ixor, 1)) (k : Go p l e s m args below meth c as dA D SH d nL Qk  (pc + 1) L (.int (x ^^^ y) :: st) u F) : Go p l e s m args below meth c as dA D SH d nL Qk  pc L (.int y :: .int x :: st) u F := by
  obtain ⟨hx, hb, hml, hown, hts, hr, hlk, hK, hI, hZ, hd1⟩ := C
  intro r u' hF H locs ls hP hS hl
  exact lv_ixor hx hb hdg (k r u' hF H locs ls hP hS hl)
theorem G_idiv (C : zCx p s m args meth c as dA D SH d nL own cc ret) {x y : Int32} (hdg : decode cc pc = .ok (.idiv, 1)) (hne : ¬ y = 0) (k : Go p l e s m args below meth c as dA D SH d nL Qk  (pc + 1) L (.int (x / y) :: st) u F) : Go p l e s m args below meth c as dA D SH d nL Qk  pc L (.int y :: .int x :: st) u F := by
  obtain ⟨hx, hb, hml, hown, hts, hr, hlk, hK, hI, hZ, hd1⟩ := C
  intro r u' hF H locs ls hP hS hl
  exact lv_idiv hx hb hdg hne (k r u' hF H locs ls hP hS hl)
theorem G_irem (C : zCx p s m args meth c as dA D SH d nL own cc ret) {x y : Int32} (hdg : decode cc pc = .ok (.irem, 1)) (hne : ¬ y = 0) (k : Go p l e s m args below meth c as dA D SH d nL Qk  (pc + 1) L (.int (zrem x y) :: st) u F) : Go p l e s m args below meth c as dA D SH d nL Qk  pc L (.int y :: .int x :: st) u F := by
  obtain ⟨hx, hb, hml, hown, hts, hr, hlk, hK, hI, hZ, hd1⟩ := C
  intro r u' hF H locs ls hP hS hl
  exact lv_irem hx hb hdg hne (k r u' hF H locs ls hP hS hl)
theorem G_ineg (C : zCx p s m args meth c as dA D SH d nL own cc ret) {x : Int32} (hdg : decode cc pc = .ok (.ineg, 1)) (k : Go p l e s m args below meth c as dA D SH d nL Qk  (pc + 1) L (.int (-x) :: st) u F) : Go p l e s m args below meth c as dA D SH d nL Qk  pc L (.int x :: st) u F := by
  obtain ⟨hx, hb, hml, hown, hts, hr, hlk, hK, hI, hZ, hd1⟩ := C
  intro r u' hF H locs ls hP hS hl
  exact lv_ineg hx hb hdg (k r u' hF H locs ls hP hS hl)
theorem G_ishl (C : zCx p s m args meth c as dA D SH d nL own cc ret) {x y : Int32} (hdg : decode cc pc = .ok (.ishl, 1)) (k : Go p l e s m args below meth c as dA D SH d nL Qk  (pc + 1) L (.int (x <<< (y &&& 31)) :: st) u F) : Go p l e s m args below meth c as dA D SH d nL Qk  pc L (.int y :: .int x :: st) u F := by
  obtain ⟨hx, hb, hml, hown, hts, hr, hlk, hK, hI, hZ, hd1⟩ := C
  intro r u' hF H locs ls hP hS hl
  exact lv_ishl hx hb hdg (k r u' hF H locs ls hP hS hl)
theorem G_ishr (C : zCx p s m args meth c as dA D SH d nL own cc ret) {x y : Int32} (hdg : decode cc pc = .ok (.ishr, 1)) (k : Go p l e s m args below meth c as dA D SH d nL Qk  (pc + 1) L (.int (x >>> (y &&& 31)) :: st) u F) : Go p l e s m args below meth c as dA D SH d nL Qk  pc L (.int y :: .int x :: st) u F := by
  obtain ⟨hx, hb, hml, hown, hts, hr, hlk, hK, hI, hZ, hd1⟩ := C
  intro r u' hF H locs ls hP hS hl
  exact lv_ishr hx hb hdg (k r u' hF H locs ls hP hS hl)
theorem G_iushr (C : zCx p s m args meth c as dA D SH d nL own cc ret) {x y : Int32} (hdg : decode cc pc = .ok (.iushr, 1)) (k : Go p l e s m args below meth c as dA D SH d nL Qk  (pc + 1) L (.int ((x.toUInt32 >>> (y.toUInt32 &&& Int32.toUInt32 31)).toInt32) :: st) u F) : Go p l e s m args below meth c as dA D SH d nL Qk  pc L (.int y :: .int x :: st) u F := by
  obtain ⟨hx, hb, hml, hown, hts, hr, hlk, hK, hI, hZ, hd1⟩ := C
  intro r u' hF H locs ls hP hS hl
  exact lv_iushr hx hb hdg rfl (k r u' hF H locs ls hP hS hl)
theorem G_ladd (C : zCx p s m args meth c as dA D SH d nL own cc ret) {x y : Int64} (hdg : decode cc pc = .ok (.ladd, 1)) (k : Go p l e s m args below meth c as dA D SH d nL Qk  (pc + 1) L (.long (x + y) :: st) u F) : Go p l e s m args below meth c as dA D SH d nL Qk  pc L (.long y :: .long x :: st) u F := by
  obtain ⟨hx, hb, hml, hown, hts, hr, hlk, hK, hI, hZ, hd1⟩ := C
  intro r u' hF H locs ls hP hS hl
  exact lv_ladd hx hb hdg (k r u' hF H locs ls hP hS hl)
theorem G_land (C : zCx p s m args meth c as dA D SH d nL own cc ret) {x y : Int64} (hdg : decode cc pc = .ok (.land, 1)) (k : Go p l e s m args below meth c as dA D SH d nL Qk  (pc + 1) L (.long (x &&& y) :: st) u F) : Go p l e s m args below meth c as dA D SH d nL Qk  pc L (.long y :: .long x :: st) u F := by
  obtain ⟨hx, hb, hml, hown, hts, hr, hlk, hK, hI, hZ, hd1⟩ := C
  intro r u' hF H locs ls hP hS hl
  exact lv_land hx hb hdg (k r u' hF H locs ls hP hS hl)
theorem G_lor (C : zCx p s m args meth c as dA D SH d nL own cc ret) {x y : Int64} (hdg : decode cc pc = .ok (.lor, 1)) (k : Go p l e s m args below meth c as dA D SH d nL Qk  (pc + 1) L (.long (x ||| y) :: st) u F) : Go p l e s m args below meth c as dA D SH d nL Qk  pc L (.long y :: .long x :: st) u F := by
  obtain ⟨hx, hb, hml, hown, hts, hr, hlk, hK, hI, hZ, hd1⟩ := C
  intro r u' hF H locs ls hP hS hl
  exact lv_lor hx hb hdg (k r u' hF H locs ls hP hS hl)
theorem G_lshl (C : zCx p s m args meth c as dA D SH d nL own cc ret) {x : Int64} {y : Int32} (hdg : decode cc pc = .ok (.lshl, 1)) (k : Go p l e s m args below meth c as dA D SH d nL Qk  (pc + 1) L (.long (x <<< (y.toInt64 &&& 63)) :: st) u F) : Go p l e s m args below meth c as dA D SH d nL Qk  pc L (.int y :: .long x :: st) u F := by
  obtain ⟨hx, hb, hml, hown, hts, hr, hlk, hK, hI, hZ, hd1⟩ := C
  intro r u' hF H locs ls hP hS hl
  exact lv_lshl hx hb hdg rfl (k r u' hF H locs ls hP hS hl)
theorem G_i2b (C : zCx p s m args meth c as dA D SH d nL own cc ret) {x : Int32} (hdg : decode cc pc = .ok (.i2b, 1)) (k : Go p l e s m args below meth c as dA D SH d nL Qk  (pc + 1) L (.int (x.toInt8.toInt32) :: st) u F) : Go p l e s m args below meth c as dA D SH d nL Qk  pc L (.int x :: st) u F := by
  obtain ⟨hx, hb, hml, hown, hts, hr, hlk, hK, hI, hZ, hd1⟩ := C
  intro r u' hF H locs ls hP hS hl
  exact lv_i2b hx hb hdg rfl (k r u' hF H locs ls hP hS hl)
theorem G_i2s (C : zCx p s m args meth c as dA D SH d nL own cc ret) {x : Int32} (hdg : decode cc pc = .ok (.i2s, 1)) (k : Go p l e s m args below meth c as dA D SH d nL Qk  (pc + 1) L (.int (x.toInt16.toInt32) :: st) u F) : Go p l e s m args below meth c as dA D SH d nL Qk  pc L (.int x :: st) u F := by
  obtain ⟨hx, hb, hml, hown, hts, hr, hlk, hK, hI, hZ, hd1⟩ := C
  intro r u' hF H locs ls hP hS hl
  exact lv_i2s hx hb hdg rfl (k r u' hF H locs ls hP hS hl)
theorem G_i2c (C : zCx p s m args meth c as dA D SH d nL own cc ret) {x : Int32} (hdg : decode cc pc = .ok (.i2c, 1)) (k : Go p l e s m args below meth c as dA D SH d nL Qk  (pc + 1) L (.int ((x.toUInt32 % 65536).toInt32) :: st) u F) : Go p l e s m args below meth c as dA D SH d nL Qk  pc L (.int x :: st) u F := by
  obtain ⟨hx, hb, hml, hown, hts, hr, hlk, hK, hI, hZ, hd1⟩ := C
  intro r u' hF H locs ls hP hS hl
  exact lv_i2c hx hb hdg rfl (k r u' hF H locs ls hP hS hl)
theorem G_i2l (C : zCx p s m args meth c as dA D SH d nL own cc ret) {x : Int32} (hdg : decode cc pc = .ok (.i2l, 1)) (k : Go p l e s m args below meth c as dA D SH d nL Qk  (pc + 1) L (.long x.toInt64 :: st) u F) : Go p l e s m args below meth c as dA D SH d nL Qk  pc L (.int x :: st) u F := by
  obtain ⟨hx, hb, hml, hown, hts, hr, hlk, hK, hI, hZ, hd1⟩ := C
  intro r u' hF H locs ls hP hS hl
  exact lv_i2l hx hb hdg rfl (k r u' hF H locs ls hP hS hl)
theorem G_l2i (C : zCx p s m args meth c as dA D SH d nL own cc ret) {x : Int64} (hdg : decode cc pc = .ok (.l2i, 1)) (k : Go p l e s m args below meth c as dA D SH d nL Qk  (pc + 1) L (.int x.toInt32 :: st) u F) : Go p l e s m args below meth c as dA D SH d nL Qk  pc L (.long x :: st) u F := by
  obtain ⟨hx, hb, hml, hown, hts, hr, hlk, hK, hI, hZ, hd1⟩ := C
  intro r u' hF H locs ls hP hS hl
  exact lv_l2i hx hb hdg rfl (k r u' hF H locs ls hP hS hl)
theorem G_lcmp (C : zCx p s m args meth c as dA D SH d nL own cc ret) {x y : Int64} (hdg : decode cc pc = .ok (.lcmp, 1)) (k : Go p l e s m args below meth c as dA D SH d nL Qk  (pc + 1) L (.int (lg_cmp x y) :: st) u F) : Go p l e s m args below meth c as dA D SH d nL Qk  pc L (.long y :: .long x :: st) u F := by
  obtain ⟨hx, hb, hml, hown, hts, hr, hlk, hK, hI, hZ, hd1⟩ := C
  intro r u' hF H locs ls hP hS hl
  exact W.lcmp hx hb hdg (k r u' hF H locs ls hP hS hl)
theorem G_dup (C : zCx p s m args meth c as dA D SH d nL own cc ret) {v : Value} (hdg : decode cc pc = .ok (.dup, 1)) (hv : v.category = 1) (k : Go p l e s m args below meth c as dA D SH d nL Qk  (pc + 1) L (v :: v :: st) u F) : Go p l e s m args below meth c as dA D SH d nL Qk  pc L (v :: st) u F := by
  obtain ⟨hx, hb, hml, hown, hts, hr, hlk, hK, hI, hZ, hd1⟩ := C
  intro r u' hF H locs ls hP hS hl
  exact lv_dup hx hb hdg ((zr_cat as v).trans hv) (k r u' hF H locs ls hP hS hl)
theorem G_dup2 (C : zCx p s m args meth c as dA D SH d nL own cc ret) {v w : Value} (hdg : decode cc pc = .ok (.dup2, 1)) (hv : v.category = 1) (hw : w.category = 1) (k : Go p l e s m args below meth c as dA D SH d nL Qk  (pc + 1) L (v :: w :: v :: w :: st) u F) : Go p l e s m args below meth c as dA D SH d nL Qk  pc L (v :: w :: st) u F := by
  obtain ⟨hx, hb, hml, hown, hts, hr, hlk, hK, hI, hZ, hd1⟩ := C
  intro r u' hF H locs ls hP hS hl
  exact lv_dup2_11 hx hb hdg ((zr_cat as v).trans hv) ((zr_cat as w).trans hw) (k r u' hF H locs ls hP hS hl)
theorem G_pop (C : zCx p s m args meth c as dA D SH d nL own cc ret) {v : Value} (hdg : decode cc pc = .ok (.pop, 1)) (hv : v.category = 1) (k : Go p l e s m args below meth c as dA D SH d nL Qk  (pc + 1) L st u F) : Go p l e s m args below meth c as dA D SH d nL Qk  pc L (v :: st) u F := by
  obtain ⟨hx, hb, hml, hown, hts, hr, hlk, hK, hI, hZ, hd1⟩ := C
  intro r u' hF H locs ls hP hS hl
  exact lv_pop hx hb hdg ((zr_cat as v).trans hv) (k r u' hF H locs ls hP hS hl)
theorem G_null (C : zCx p s m args meth c as dA D SH d nL own cc ret) (hdg : decode cc pc = .ok (.aconst_null, 1)) (k : Go p l e s m args below meth c as dA D SH d nL Qk  (pc + 1) L (.null :: st) u F) : Go p l e s m args below meth c as dA D SH d nL Qk  pc L st u F := by
  obtain ⟨hx, hb, hml, hown, hts, hr, hlk, hK, hI, hZ, hd1⟩ := C
  intro r u' hF H locs ls hP hS hl
  exact lv_null hx hb hdg (k r u' hF H locs ls hP hS hl)
theorem G_iload_n (C : zCx p s m args meth c as dA D SH d nL own cc ret) {n : Fin 4} {i : Nat} {x : Int32} (q : Nat) (hdg : decode cc pc = .ok (.iload_n n, 1)) (hi : (n : Nat) = i) (hq : L[q]? = some (i, .int x)) (k : Go p l e s m args below meth c as dA D SH d nL Qk  (pc + 1) L (.int x :: st) u F) : Go p l e s m args below meth c as dA D SH d nL Qk  pc L st u F := by
  obtain ⟨hx, hb, hml, hown, hts, hr, hlk, hK, hI, hZ, hd1⟩ := C
  intro r u' hF H locs ls hP hS hl
  exact lv_iload_n hx hb hdg hi (lv_at hl q (zL_at hq)) (k r u' hF H locs ls hP hS hl)
theorem G_iload (C : zCx p s m args meth c as dA D SH d nL own cc ret) {i : Nat} {x : Int32} (q : Nat) (hdg : decode cc pc = .ok (.iload i, 2)) (hq : L[q]? = some (i, .int x)) (k : Go p l e s m args below meth c as dA D SH d nL Qk  (pc + 2) L (.int x :: st) u F) : Go p l e s m args below meth c as dA D SH d nL Qk  pc L st u F := by
  obtain ⟨hx, hb, hml, hown, hts, hr, hlk, hK, hI, hZ, hd1⟩ := C
  intro r u' hF H locs ls hP hS hl
  exact lv_iload hx hb hdg (lv_at hl q (zL_at hq)) (k r u' hF H locs ls hP hS hl)
theorem G_lload_n (C : zCx p s m args meth c as dA D SH d nL own cc ret) {n : Fin 4} {i : Nat} {x : Int64} (q : Nat) (hdg : decode cc pc = .ok (.lload_n n, 1)) (hi : (n : Nat) = i) (hq : L[q]? = some (i, .long x)) (k : Go p l e s m args below meth c as dA D SH d nL Qk  (pc + 1) L (.long x :: st) u F) : Go p l e s m args below meth c as dA D SH d nL Qk  pc L st u F := by
  obtain ⟨hx, hb, hml, hown, hts, hr, hlk, hK, hI, hZ, hd1⟩ := C
  intro r u' hF H locs ls hP hS hl
  exact lv_lload_n hx hb hdg hi (lv_at hl q (zL_at hq)) (k r u' hF H locs ls hP hS hl)
theorem G_lload (C : zCx p s m args meth c as dA D SH d nL own cc ret) {i : Nat} {x : Int64} (q : Nat) (hdg : decode cc pc = .ok (.lload i, 2)) (hq : L[q]? = some (i, .long x)) (k : Go p l e s m args below meth c as dA D SH d nL Qk  (pc + 2) L (.long x :: st) u F) : Go p l e s m args below meth c as dA D SH d nL Qk  pc L st u F := by
  obtain ⟨hx, hb, hml, hown, hts, hr, hlk, hK, hI, hZ, hd1⟩ := C
  intro r u' hF H locs ls hP hS hl
  exact lv_lload hx hb hdg (lv_at hl q (zL_at hq)) (k r u' hF H locs ls hP hS hl)
theorem G_aload_n (C : zCx p s m args meth c as dA D SH d nL own cc ret) {n : Fin 4} {i : Nat} {x : Nat} (q : Nat) (hdg : decode cc pc = .ok (.aload_n n, 1)) (hi : (n : Nat) = i) (hq : L[q]? = some (i, .ref x)) (k : Go p l e s m args below meth c as dA D SH d nL Qk  (pc + 1) L (.ref x :: st) u F) : Go p l e s m args below meth c as dA D SH d nL Qk  pc L st u F := by
  obtain ⟨hx, hb, hml, hown, hts, hr, hlk, hK, hI, hZ, hd1⟩ := C
  intro r u' hF H locs ls hP hS hl
  exact lv_aload_n hx hb hdg hi (lv_at hl q (zL_at hq)) (k r u' hF H locs ls hP hS hl)
theorem G_aload (C : zCx p s m args meth c as dA D SH d nL own cc ret) {i : Nat} {x : Nat} (q : Nat) (hdg : decode cc pc = .ok (.aload i, 2)) (hq : L[q]? = some (i, .ref x)) (k : Go p l e s m args below meth c as dA D SH d nL Qk  (pc + 2) L (.ref x :: st) u F) : Go p l e s m args below meth c as dA D SH d nL Qk  pc L st u F := by
  obtain ⟨hx, hb, hml, hown, hts, hr, hlk, hK, hI, hZ, hd1⟩ := C
  intro r u' hF H locs ls hP hS hl
  exact lv_aload hx hb hdg (lv_at hl q (zL_at hq)) (k r u' hF H locs ls hP hS hl)
theorem G_istore_n (C : zCx p s m args meth c as dA D SH d nL own cc ret) {n : Fin 4} {i : Nat} {x : Int32} {L' : List (Nat × Value)} (hdg : decode cc pc = .ok (.istore_n n, 1)) (hi : (n : Nat) = i) (hn : i < nL) (hL : (i, Value.int x) :: (L.filter (fun q => !(q.1 == i) && !(q.1 + 1 == i && q.2.category == 2))) = L') (k : Go p l e s m args below meth c as dA D SH d nL Qk  (pc + 1) L' st u F) : Go p l e s m args below meth c as dA D SH d nL Qk  pc L (.int x :: st) u F := by
  obtain ⟨hx, hb, hml, hown, hts, hr, hlk, hK, hI, hZ, hd1⟩ := C
  intro r u' hF H locs ls hP hS hl
  subst hL
  exact lv_istore_n hx hb hdg hi hl hn (congrArg _ (zL_f1 as i L)) (fun ls' hl' => k r u' hF H locs ls' hP hS hl')
theorem G_istore (C : zCx p s m args meth c as dA D SH d nL own cc ret) {i : Nat} {x : Int32} {L' : List (Nat × Value)} (hdg : decode cc pc = .ok (.istore i, 2)) (hn : i < nL) (hL : (i, Value.int x) :: (L.filter (fun q => !(q.1 == i) && !(q.1 + 1 == i && q.2.category == 2))) = L') (k : Go p l e s m args below meth c as dA D SH d nL Qk  (pc + 2) L' st u F) : Go p l e s m args below meth c as dA D SH d nL Qk  pc L (.int x :: st) u F := by
  obtain ⟨hx, hb, hml, hown, hts, hr, hlk, hK, hI, hZ, hd1⟩ := C
  intro r u' hF H locs ls hP hS hl
  subst hL
  exact lv_istore hx hb hdg hl hn (congrArg _ (zL_f1 as i L)) (fun ls' hl' => k r u' hF H locs ls' hP hS hl')
theorem G_astore_n (C : zCx p s m args meth c as dA D SH d nL own cc ret) {n : Fin 4} {i : Nat} {x : Nat} {L' : List (Nat × Value)} (hdg : decode cc pc = .ok (.astore_n n, 1)) (hi : (n : Nat) = i) (hn : i < nL) (hL : (i, Value.ref x) :: (L.filter (fun q => !(q.1 == i) && !(q.1 + 1 == i && q.2.category == 2))) = L') (k : Go p l e s m args below meth c as dA D SH d nL Qk  (pc + 1) L' st u F) : Go p l e s m args below meth c as dA D SH d nL Qk  pc L (.ref x :: st) u F := by
  obtain ⟨hx, hb, hml, hown, hts, hr, hlk, hK, hI, hZ, hd1⟩ := C
  intro r u' hF H locs ls hP hS hl
  subst hL
  exact lv_astore_n hx hb hdg hi hl hn (congrArg _ (zL_f1 as i L)) (fun ls' hl' => k r u' hF H locs ls' hP hS hl')
theorem G_astore (C : zCx p s m args meth c as dA D SH d nL own cc ret) {i : Nat} {x : Nat} {L' : List (Nat × Value)} (hdg : decode cc pc = .ok (.astore i, 2)) (hn : i < nL) (hL : (i, Value.ref x) :: (L.filter (fun q => !(q.1 == i) && !(q.1 + 1 == i && q.2.category == 2))) = L') (k : Go p l e s m args below meth c as dA D SH d nL Qk  (pc + 2) L' st u F) : Go p l e s m args below meth c as dA D SH d nL Qk  pc L (.ref x :: st) u F := by
  obtain ⟨hx, hb, hml, hown, hts, hr, hlk, hK, hI, hZ, hd1⟩ := C
  intro r u' hF H locs ls hP hS hl
  subst hL
  exact lv_astore hx hb hdg hl hn (congrArg _ (zL_f1 as i L)) (fun ls' hl' => k r u' hF H locs ls' hP hS hl')
theorem G_iinc (C : zCx p s m args meth c as dA D SH d nL own cc ret) {i : Nat} {n : Int} {x v : Int32} {L' : List (Nat × Value)} (q : Nat) (hdg : decode cc pc = .ok (.iinc i n, 3)) (hq : L[q]? = some (i, .int x)) (hv : Int32.ofInt n = v) (hn : i < nL) (hL : (i, Value.int (x + v)) :: (L.filter (fun q => !(q.1 == i) && !(q.1 + 1 == i && q.2.category == 2))) = L') (k : Go p l e s m args below meth c as dA D SH d nL Qk  (pc + 3) L' st u F) : Go p l e s m args below meth c as dA D SH d nL Qk  pc L st u F := by
  obtain ⟨hx, hb, hml, hown, hts, hr, hlk, hK, hI, hZ, hd1⟩ := C
  intro r u' hF H locs ls hP hS hl
  subst hL; subst hv
  exact lv_iinc hx hb hdg hl (zL_at hq) rfl hn (congrArg _ (zL_f1 as i L)) (fun ls' hl' => k r u' hF H locs ls' hP hS hl')
theorem G_if_eq (C : zCx p s m args meth c as dA D SH d nL own cc ret) {x : Int32} {off : Int} {tgt : Nat} {F1 F2 : Option (α × zM)} (hdg : decode cc pc = .ok (.ifCond .eq off, 3)) (ht : (pc : Int) + off = (tgt : Int)) (k1 : (x = 0) → Go p l e s m args below meth c as dA D SH d nL Qk  tgt L st u F1) (k2 : ¬ (x = 0) → Go p l e s m args below meth c as dA D SH d nL Qk  (pc + 3) L st u F2) : Go p l e s m args below meth c as dA D SH d nL Qk  pc L (.int x :: st) u (if (x = 0) then F1 else F2) := by
  obtain ⟨hx, hb, hml, hown, hts, hr, hlk, hK, hI, hZ, hd1⟩ := C
  intro r u' hF H locs ls hP hS hl
  refine lv_if_eq hx hb hdg ht (fun h => ?_) (fun h => ?_)
  · exact k1 h r u' (by rw [if_pos h] at hF; exact hF) H locs ls hP hS hl
  · exact k2 h r u' (by rw [if_neg h] at hF; exact hF) H locs ls hP hS hl
theorem G_icmp_eq (C : zCx p s m args meth c as dA D SH d nL own cc ret) {x y : Int32} {off : Int} {tgt : Nat} {F1 F2 : Option (α × zM)} (hdg : decode cc pc = .ok (.if_icmp .eq off, 3)) (ht : (pc : Int) + off = (tgt : Int)) (k1 : (x = y) → Go p l e s m args below meth c as dA D SH d nL Qk  tgt L st u F1) (k2 : ¬ (x = y) → Go p l e s m args below meth c as dA D SH d nL Qk  (pc + 3) L st u F2) : Go p l e s m args below meth c as dA D SH d nL Qk  pc L (.int y :: .int x :: st) u (if (x = y) then F1 else F2) := by
  obtain ⟨hx, hb, hml, hown, hts, hr, hlk, hK, hI, hZ, hd1⟩ := C
  intro r u' hF H locs ls hP hS hl
  refine lv_icmp_eq hx hb hdg ht (fun h => ?_) (fun h => ?_)
  · exact k1 h r u' (by rw [if_pos h] at hF; exact hF) H locs ls hP hS hl
  · exact k2 h r u' (by rw [if_neg h] at hF; exact hF) H locs ls hP hS hl
theorem G_if_ne (C : zCx p s m args meth c as dA D SH d nL own cc ret) {x : Int32} {off : Int} {tgt : Nat} {F1 F2 : Option (α × zM)} (hdg : decode cc pc = .ok (.ifCond .ne off, 3)) (ht : (pc : Int) + off = (tgt : Int)) (k1 : ¬ (x = 0) → Go p l e s m args below meth c as dA D SH d nL Qk  tgt L st u F1) (k2 : (x = 0) → Go p l e s m args below meth c as dA D SH d nL Qk  (pc + 3) L st u F2) : Go p l e s m args below meth c as dA D SH d nL Qk  pc L (.int x :: st) u (if (x = 0) then F2 else F1) := by
  obtain ⟨hx, hb, hml, hown, hts, hr, hlk, hK, hI, hZ, hd1⟩ := C
  intro r u' hF H locs ls hP hS hl
  refine lv_if_ne hx hb hdg ht (fun h => ?_) (fun h => ?_)
  · exact k1 h r u' (by rw [if_neg h] at hF; exact hF) H locs ls hP hS hl
  · exact k2 h r u' (by rw [if_pos h] at hF; exact hF) H locs ls hP hS hl
theorem G_icmp_ne (C : zCx p s m args meth c as dA D SH d nL own cc ret) {x y : Int32} {off : Int} {tgt : Nat} {F1 F2 : Option (α × zM)} (hdg : decode cc pc = .ok (.if_icmp .ne off, 3)) (ht : (pc : Int) + off = (tgt : Int)) (k1 : ¬ (x = y) → Go p l e s m args below meth c as dA D SH d nL Qk  tgt L st u F1) (k2 : (x = y) → Go p l e s m args below meth c as dA D SH d nL Qk  (pc + 3) L st u F2) : Go p l e s m args below meth c as dA D SH d nL Qk  pc L (.int y :: .int x :: st) u (if (x = y) then F2 else F1) := by
  obtain ⟨hx, hb, hml, hown, hts, hr, hlk, hK, hI, hZ, hd1⟩ := C
  intro r u' hF H locs ls hP hS hl
  refine lv_icmp_ne hx hb hdg ht (fun h => ?_) (fun h => ?_)
  · exact k1 h r u' (by rw [if_neg h] at hF; exact hF) H locs ls hP hS hl
  · exact k2 h r u' (by rw [if_pos h] at hF; exact hF) H locs ls hP hS hl
theorem G_if_lt (C : zCx p s m args meth c as dA D SH d nL own cc ret) {x : Int32} {off : Int} {tgt : Nat} {F1 F2 : Option (α × zM)} (hdg : decode cc pc = .ok (.ifCond .lt off, 3)) (ht : (pc : Int) + off = (tgt : Int)) (k1 : (x < 0) → Go p l e s m args below meth c as dA D SH d nL Qk  tgt L st u F1) (k2 : ¬ (x < 0) → Go p l e s m args below meth c as dA D SH d nL Qk  (pc + 3) L st u F2) : Go p l e s m args below meth c as dA D SH d nL Qk  pc L (.int x :: st) u (if (x < 0) then F1 else F2) := by
  obtain ⟨hx, hb, hml, hown, hts, hr, hlk, hK, hI, hZ, hd1⟩ := C
  intro r u' hF H locs ls hP hS hl
  refine lv_if_lt hx hb hdg ht (fun h => ?_) (fun h => ?_)
  · exact k1 h r u' (by rw [if_pos h] at hF; exact hF) H locs ls hP hS hl
  · exact k2 h r u' (by rw [if_neg h] at hF; exact hF) H locs ls hP hS hl
theorem G_icmp_lt (C : zCx p s m args meth c as dA D SH d nL own cc ret) {x y : Int32} {off : Int} {tgt : Nat} {F1 F2 : Option (α × zM)} (hdg : decode cc pc = .ok (.if_icmp .lt off, 3)) (ht : (pc : Int) + off = (tgt : Int)) (k1 : (x < y) → Go p l e s m args below meth c as dA D SH d nL Qk  tgt L st u F1) (k2 : ¬ (x < y) → Go p l e s m args below meth c as dA D SH d nL Qk  (pc + 3) L st u F2) : Go p l e s m args below meth c as dA D SH d nL Qk  pc L (.int y :: .int x :: st) u (if (x < y) then F1 else F2) := by
  obtain ⟨hx, hb, hml, hown, hts, hr, hlk, hK, hI, hZ, hd1⟩ := C
  intro r u' hF H locs ls hP hS hl
  refine lv_icmp_lt hx hb hdg ht (fun h => ?_) (fun h => ?_)
  · exact k1 h r u' (by rw [if_pos h] at hF; exact hF) H locs ls hP hS hl
  · exact k2 h r u' (by rw [if_neg h] at hF; exact hF) H locs ls hP hS hl
theorem G_if_ge (C : zCx p s m args meth c as dA D SH d nL own cc ret) {x : Int32} {off : Int} {tgt : Nat} {F1 F2 : Option (α × zM)} (hdg : decode cc pc = .ok (.ifCond .ge off, 3)) (ht : (pc : Int) + off = (tgt : Int)) (k1 : (0 ≤ x) → Go p l e s m args below meth c as dA D SH d nL Qk  tgt L st u F1) (k2 : ¬ (0 ≤ x) → Go p l e s m args below meth c as dA D SH d nL Qk  (pc + 3) L st u F2) : Go p l e s m args below meth c as dA D SH d nL Qk  pc L (.int x :: st) u (if (0 ≤ x) then F1 else F2) := by
  obtain ⟨hx, hb, hml, hown, hts, hr, hlk, hK, hI, hZ, hd1⟩ := C
  intro r u' hF H locs ls hP hS hl
  refine lv_if_ge hx hb hdg ht (fun h => ?_) (fun h => ?_)
  · exact k1 h r u' (by rw [if_pos h] at hF; exact hF) H locs ls hP hS hl
  · exact k2 h r u' (by rw [if_neg h] at hF; exact hF) H locs ls hP hS hl
theorem G_icmp_ge (C : zCx p s m args meth c as dA D SH d nL own cc ret) {x y : Int32} {off : Int} {tgt : Nat} {F1 F2 : Option (α × zM)} (hdg : decode cc pc = .ok (.if_icmp .ge off, 3)) (ht : (pc : Int) + off = (tgt : Int)) (k1 : (y ≤ x) → Go p l e s m args below meth c as dA D SH d nL Qk  tgt L st u F1) (k2 : ¬ (y ≤ x) → Go p l e s m args below meth c as dA D SH d nL Qk  (pc + 3) L st u F2) : Go p l e s m args below meth c as dA D SH d nL Qk  pc L (.int y :: .int x :: st) u (if (y ≤ x) then F1 else F2) := by
  obtain ⟨hx, hb, hml, hown, hts, hr, hlk, hK, hI, hZ, hd1⟩ := C
  intro r u' hF H locs ls hP hS hl
  refine lv_icmp_ge hx hb hdg ht (fun h => ?_) (fun h => ?_)
  · exact k1 h r u' (by rw [if_pos h] at hF; exact hF) H locs ls hP hS hl
  · exact k2 h r u' (by rw [if_neg h] at hF; exact hF) H locs ls hP hS hl
theorem G_if_gt (C : zCx p s m args meth c as dA D SH d nL own cc ret) {x : Int32} {off : Int} {tgt : Nat} {F1 F2 : Option (α × zM)} (hdg : decode cc pc = .ok (.ifCond .gt off, 3)) (ht : (pc : Int) + off = (tgt : Int)) (k1 : (0 < x) → Go p l e s m args below meth c as dA D SH d nL Qk  tgt L st u F1) (k2 : ¬ (0 < x) → Go p l e s m args below meth c as dA D SH d nL Qk  (pc + 3) L st u F2) : Go p l e s m args below meth c as dA D SH d nL Qk  pc L (.int x :: st) u (if (0 < x) then F1 else F2) := by
  obtain ⟨hx, hb, hml, hown, hts, hr, hlk, hK, hI, hZ, hd1⟩ := C
  intro r u' hF H locs ls hP hS hl
  refine lv_if_gt hx hb hdg ht (fun h => ?_) (fun h => ?_)
  · exact k1 h r u' (by rw [if_pos h] at hF; exact hF) H locs ls hP hS hl
  · exact k2 h r u' (by rw [if_neg h] at hF; exact hF) H locs ls hP hS hl
theorem G_icmp_gt (C : zCx p s m args meth c as dA D SH d nL own cc ret) {x y : Int32} {off : Int} {tgt : Nat} {F1 F2 : Option (α × zM)} (hdg : decode cc pc = .ok (.if_icmp .gt off, 3)) (ht : (pc : Int) + off = (tgt : Int)) (k1 : (y < x) → Go p l e s m args below meth c as dA D SH d nL Qk  tgt L st u F1) (k2 : ¬ (y < x) → Go p l e s m args below meth c as dA D SH d nL Qk  (pc + 3) L st u F2) : Go p l e s m args below meth c as dA D SH d nL Qk  pc L (.int y :: .int x :: st) u (if (y < x) then F1 else F2) := by
  obtain ⟨hx, hb, hml, hown, hts, hr, hlk, hK, hI, hZ, hd1⟩ := C
  intro r u' hF H locs ls hP hS hl
  refine lv_icmp_gt hx hb hdg ht (fun h => ?_) (fun h => ?_)
  · exact k1 h r u' (by rw [if_pos h] at hF; exact hF) H locs ls hP hS hl
  · exact k2 h r u' (by rw [if_neg h] at hF; exact hF) H locs ls hP hS hl
theorem G_if_le (C : zCx p s m args meth c as dA D SH d nL own cc ret) {x : Int32} {off : Int} {tgt : Nat} {F1 F2 : Option (α × zM)} (hdg : decode cc pc = .ok (.ifCond .le off, 3)) (ht : (pc : Int) + off = (tgt : Int)) (k1 : (x ≤ 0) → Go p l e s m args below meth c as dA D SH d nL Qk  tgt L st u F1) (k2 : ¬ (x ≤ 0) → Go p l e s m args below meth c as dA D SH d nL Qk  (pc + 3) L st u F2) : Go p l e s m args below meth c as dA D SH d nL Qk  pc L (.int x :: st) u (if (x ≤ 0) then F1 else F2) := by
  obtain ⟨hx, hb, hml, hown, hts, hr, hlk, hK, hI, hZ, hd1⟩ := C
  intro r u' hF H locs ls hP hS hl
  refine lv_if_le hx hb hdg ht (fun h => ?_) (fun h => ?_)
  · exact k1 h r u' (by rw [if_pos h] at hF; exact hF) H locs ls hP hS hl
  · exact k2 h r u' (by rw [if_neg h] at hF; exact hF) H locs ls hP hS hl
theorem G_icmp_le (C : zCx p s m args meth c as dA D SH d nL own cc ret) {x y : Int32} {off : Int} {tgt : Nat} {F1 F2 : Option (α × zM)} (hdg : decode cc pc = .ok (.if_icmp .le off, 3)) (ht : (pc : Int) + off = (tgt : Int)) (k1 : (x ≤ y) → Go p l e s m args below meth c as dA D SH d nL Qk  tgt L st u F1) (k2 : ¬ (x ≤ y) → Go p l e s m args below meth c as dA D SH d nL Qk  (pc + 3) L st u F2) : Go p l e s m args below meth c as dA D SH d nL Qk  pc L (.int y :: .int x :: st) u (if (x ≤ y) then F1 else F2) := by
  obtain ⟨hx, hb, hml, hown, hts, hr, hlk, hK, hI, hZ, hd1⟩ := C
  intro r u' hF H locs ls hP hS hl
  refine lv_icmp_le hx hb hdg ht (fun h => ?_) (fun h => ?_)
  · exact k1 h r u' (by rw [if_pos h] at hF; exact hF) H locs ls hP hS hl
  · exact k2 h r u' (by rw [if_neg h] at hF; exact hF) H locs ls hP hS hl
theorem G_goto (C : zCx p s m args meth c as dA D SH d nL own cc ret) {off : Int} {tgt : Nat} (hdg : decode cc pc = .ok (.goto off, 3)) (ht : (pc : Int) + off = (tgt : Int)) (k : Go p l e s m args below meth c as dA D SH d nL Qk  tgt L st u F) : Go p l e s m args below meth c as dA D SH d nL Qk  pc L st u F := by
  obtain ⟨hx, hb, hml, hown, hts, hr, hlk, hK, hI, hZ, hd1⟩ := C
  intro r u' hF H locs ls hP hS hl
  exact lv_goto hx hb hdg ht (k r u' hF H locs ls hP hS hl)
theorem G_ifnull (C : zCx p s m args meth c as dA D SH d nL own cc ret) {x : Nat} {off : Int} (hdg : decode cc pc = .ok (.ifnull off, 3)) (k : Go p l e s m args below meth c as dA D SH d nL Qk  (pc + 3) L st u F) : Go p l e s m args below meth c as dA D SH d nL Qk  pc L (.ref x :: st) u F := by
  obtain ⟨hx, hb, hml, hown, hts, hr, hlk, hK, hI, hZ, hd1⟩ := C
  intro r u' hF H locs ls hP hS hl
  exact lv_ifnull hx hb hdg (k r u' hF H locs ls hP hS hl)
theorem G_ifnullN (C : zCx p s m args meth c as dA D SH d nL own cc ret) {off : Int} {tgt : Nat} (hdg : decode cc pc = .ok (.ifnull off, 3)) (ht : (pc : Int) + off = (tgt : Int)) (k : Go p l e s m args below meth c as dA D SH d nL Qk  tgt L st u F) : Go p l e s m args below meth c as dA D SH d nL Qk  pc L (.null :: st) u F := by
  obtain ⟨hx, hb, hml, hown, hts, hr, hlk, hK, hI, hZ, hd1⟩ := C
  intro r u' hF H locs ls hP hS hl
  exact lv_ifnullN hx hb hdg ht (k r u' hF H locs ls hP hS hl)
theorem G_ifnonnull (C : zCx p s m args meth c as dA D SH d nL own cc ret) {x : Nat} {off : Int} {tgt : Nat} (hdg : decode cc pc = .ok (.ifnonnull off, 3)) (ht : (pc : Int) + off = (tgt : Int)) (k : Go p l e s m args below meth c as dA D SH d nL Qk  tgt L st u F) : Go p l e s m args below meth c as dA D SH d nL Qk  pc L (.ref x :: st) u F := by
  obtain ⟨hx, hb, hml, hown, hts, hr, hlk, hK, hI, hZ, hd1⟩ := C
  intro r u' hF H locs ls hP hS hl
  exact lv_ifnonnull hx hb hdg ht (k r u' hF H locs ls hP hS hl)
theorem G_ifnonnullN (C : zCx p s m args meth c as dA D SH d nL own cc ret) {off : Int} (hdg : decode cc pc = .ok (.ifnonnull off, 3)) (k : Go p l e s m args below meth c as dA D SH d nL Qk  (pc + 3) L st u F) : Go p l e s m args below meth c as dA D SH d nL Qk  pc L (.null :: st) u F := by
  obtain ⟨hx, hb, hml, hown, hts, hr, hlk, hK, hI, hZ, hd1⟩ := C
  intro r u' hF H locs ls hP hS hl
  exact lv_ifnonnullN hx hb hdg (k r u' hF H locs ls hP hS hl)
theorem G_tsOut (C : zCx p s m args meth c as dA D SH d nL own cc ret) {dflt lo hi : Int} {offs : Array Int} {len : Nat} {x : Int32} {tgt : Nat} (hdg : decode cc pc = .ok (.tableswitch dflt lo hi offs, len)) (h : x.toInt < lo ∨ hi < x.toInt) (ht : (pc : Int) + dflt = (tgt : Int)) (k : Go p l e s m args below meth c as dA D SH d nL Qk  tgt L st u F) : Go p l e s m args below meth c as dA D SH d nL Qk  pc L (.int x :: st) u F := by
  obtain ⟨hx, hb, hml, hown, hts, hr, hlk, hK, hI, hZ, hd1⟩ := C
  intro r u' hF H locs ls hP hS hl
  exact lv_tableOut hx hb hdg h ht (k r u' hF H locs ls hP hS hl)
theorem G_tsIn (C : zCx p s m args meth c as dA D SH d nL own cc ret) {dflt lo hi : Int} {offs : Array Int} {len : Nat} {x v : Int32} {off : Int} {tgt : Nat} (hdg : decode cc pc = .ok (.tableswitch dflt lo hi offs, len)) (hv : x = v) (h1 : ¬ v.toInt < lo) (h2 : ¬ hi < v.toInt) (ho : offs[(v.toInt - lo).toNat]? = some off) (ht : (pc : Int) + off = (tgt : Int)) (k : Go p l e s m args below meth c as dA D SH d nL Qk  tgt L st u F) : Go p l e s m args below meth c as dA D SH d nL Qk  pc L (.int x :: st) u F := by
  obtain ⟨hx, hb, hml, hown, hts, hr, hlk, hK, hI, hZ, hd1⟩ := C
  intro r u' hF H locs ls hP hS hl
  subst hv
  exact lv_tableIn hx hb hdg h1 h2 ho ht (k r u' hF H locs ls hP hS hl)
theorem G_lsw (C : zCx p s m args meth c as dA D SH d nL own cc ret) {dflt : Int} {ps : Array (Int × Int)} {len : Nat} {x : Int32} {off : Int} {tgt : Nat} (hdg : decode cc pc = .ok (.lookupswitch dflt ps, len)) (hp : (ps.toList.zip (ps.toList.drop 1)).all (fun (a, next) => a.1 < next.1) = true) (ho : Op.lookupswitch.offset ps.toList dflt x.toInt = off) (ht : (pc : Int) + off = (tgt : Int)) (k : Go p l e s m args below meth c as dA D SH d nL Qk  tgt L st u F) : Go p l e s m args below meth c as dA D SH d nL Qk  pc L (.int x :: st) u F := by
  obtain ⟨hx, hb, hml, hown, hts, hr, hlk, hK, hI, hZ, hd1⟩ := C
  intro r u' hF H locs ls hP hS hl
  exact lv_lookup hx hb hdg hp ho ht (k r u' hF H locs ls hP hS hl)
end GoRules
