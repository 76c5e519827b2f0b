/-! ===== new long[6][60] ===== -/
theorem zr_outer (c : ClassId) (N h0 : Nat) : ∀ i : Nat, Jvm.Free.Multi.outerC c N h0 i = arrV c N (fun j => va_rf (if j < i then some (h0 + 1 + j) else none))
  | 0 => by
    show ({ cls := c, slots := Array.replicate N .null, vm := .none } : Cell) = _
    rw [arrV_new]
    refine congrArg (arrV c N) (funext fun j => ?_)
    simp [va_rf]
  | i + 1 => by
    show (Jvm.Free.Multi.outerC c N h0 i).setSlot i (.ref (h0 + 1 + i)) = _
    rw [zr_outer c N h0 i, arrV_store]
    refine congrArg (arrV c N) (funext fun j => ?_)
    by_cases e : j = i
    · subst e
      simp [updV, va_rf]
    · by_cases h : j < i
      · simp [updV, e, h, Nat.lt_succ_of_lt h]
      · simp [updV, e, h, show ¬ j < i + 1 by omega]
/-- the outer row's references -/
def zOuter (u : zM) (k : Nat) : zM := (u.1, u.2.1, fun b j => if b = k ∧ j < 6 then some (k + 1 + j) else u.2.2 b j)
section GoMulti
variable {p : Program} {l : Launch} {e : Env} {s : State} {m : MethodId} {args : Array Value} {below : List Frame} {meth : Method} {c : Code} {dA : Nat → ClassId} {D : va_G} {SHg : List zS} {as0 : Nat → Nat} {k0 d mc ms nL : Nat} {k' : Nat} {u' : zM}
variable {own : String} {cc : ByteArray} {pc : Nat} {L : List (Nat × Value)} {st : List Value} {k : Nat} {u : zM} {cells slots : Nat}
theorem N_multi (C : zCn p s m args meth c dA D SHg d nL own cc) {index : Nat} (hs0 : SHg[k]? = some (.inr (7, 6, 0, 0))) (hsj : ∀ j, j < 6 → SHg[k + 1 + j]? = some (.inr (3, 60, 0, 0))) (w1 : Cond.classLink own index "[[J" ∈ zTb) (w2 : Cond.arrayClass .long ∈ zTb) (hcells : cells + (1 + 6) ≤ mc) (hslots : slots + (6 + 6 * 60) ≤ ms) (hdg : decode cc pc = .ok (.multianewarray index 2, 4))
    (kk : GoN p l e s m args below meth c dA D SHg as0 k0 d mc ms nL k' u' (pc + 4) L (.ref k :: st) (k + 7) (zOuter u k) (cells + 1 + 6) (slots + 6 + 6 * 60)) : GoN p l e s m args below meth c dA D SHg as0 k0 d mc ms nL k' u' pc L (.int 60 :: .int 6 :: st) k u cells slots := by
  obtain ⟨hx, hb, hml, hown, hts, hr, hlk, hK, hO, hd1, hnm, h64, h75, hN⟩ := C
  intro as H locs ls hP hI hk0 hkl he hA hvL hvS ho hf hS hl
  intro T hT Xs
  obtain ⟨vm₁, cA, comp, -, fA, fC, -, -, X', step⟩ := Xs.multianewarray2F hx (ty := .long) hown (hts _ w1) hO.2.2 (hts _ w2) (g := F0 m pc ls (.int 60 :: .int 6 :: st.map (zr as))) rfl (by rw [hb]; exact hdg) rfl (n := 6) (k := 60) (by decide) (by decide) (by decide) (by decide) (by decide) rfl rfl hcells hslots
  have ec : cA = dA 5 := Option.some.inj (Eq.trans (Eq.symm fA) ((hK.2 5 (dA 5, .array .long) rfl).2))
  have ec2 : comp = dA 3 := Option.some.inj (Eq.trans (Eq.symm fC) ((hK.2 3 (dA 3, .long) rfl).2))
  subst ec
  subst ec2
  generalize hF : Jvm.Free.Multi.fill (T.setVm vm₁) (dA 5) (dA 3) (6 : Int32).toNatClampNeg (60 : Int32).toNatClampNeg (defaultValue .long) (6 : Int32).toNatClampNeg = F at X' step
  have hTh : (T.setVm vm₁).heap = H := hT
  obtain ⟨f1, f2, -, -⟩ := Jvm.Free.Multi.fill_facts (T.setVm vm₁) (dA 5) (dA 3) (6 : Int32).toNatClampNeg (60 : Int32).toNatClampNeg (defaultValue .long) (6 : Int32).toNatClampNeg
  rw [hF, hTh] at f1 f2
  have hold : ∀ x : Nat, x < H.size → F.heap[x]? = H[x]? := fun x hx => by
    have := Jvm.Free.Multi.fill_old (T.setVm vm₁) (dA 5) (dA 3) (6 : Int32).toNatClampNeg (60 : Int32).toNatClampNeg (defaultValue .long) (a := x) (by rw [hTh]; exact hx) (6 : Int32).toNatClampNeg
    rw [hF, hTh] at this
    exact this
  have hrow : ∀ j : Nat, j < 6 → F.heap[H.size + 1 + j]? = some (arrV (dA 3) 60 (fun _ => .long 0)) := fun j hj => by
    have := Jvm.Free.Multi.fill_inner (T.setVm vm₁) (dA 5) (dA 3) (6 : Int32).toNatClampNeg (60 : Int32).toNatClampNeg (defaultValue .long) (6 : Int32).toNatClampNeg j hj
    rw [hF, hTh] at this
    rw [this]
    exact congrArg some (arrV_new (dA 3) 60 (.long 0))
  rw [zr_outer] at f2
  have hlt : ∀ i, i < k → as i < H.size := fun i hi => by
    have h1 := zw_get (as := as) (dA := dA) (u := u) (S := SHg[i]'(by omega)) (zN_take (List.getElem?_eq_getElem (by omega)) hi)
    exact (hP i _ h1).lt
  have has : ∀ i, i < k → (if i < k then as i else H.size + (i - k)) = as i := fun i hi => if_pos hi
  have hoW : zOk u k := ho
  have hz : T.heap = H := hT
  have hfree : ∀ q, H.size ≤ q → zA as0 k0 s.heap.size q := fun q hq => Or.inr (Nat.le_trans hS.1 hq)
  have hk7 : k + 7 ≤ SHg.length := (List.getElem?_eq_some_iff.mp (hsj 5 (by decide))).1
  have hP1 : va_P D zcl (zw (fun i => if i < k then as i else H.size + (i - k)) dA (SHg.take (k + 7)) (zOuter u k)) F.heap := by
    intro b q hq
    obtain ⟨S, hS1, rfl⟩ := zw_has hq
    have hb7 : b < k + 7 := by
      rcases Nat.lt_or_ge b (k + 7) with h | h
      · exact h
      · rw [List.getElem?_take, if_neg (by omega)] at hS1; cases hS1
    rw [List.getElem?_take, if_pos hb7] at hS1
    by_cases hbk : b < k
    · have e1 : zcell (fun i => if i < k then as i else H.size + (i - k)) dA (zOuter u k) b S = zcell as dA u b S := by
        rw [← zcell_eq (as := as) (as' := fun i => if i < k then as i else H.size + (i - k)) (dA := dA) (u := u) has ho b S (hN S (List.mem_of_getElem? hS1))]
        have e2 : gO (zOuter u k) b = gO u b := by
          funext j
          show (if b = k ∧ j < 6 then some (k + 1 + j) else u.2.2 b j) = u.2.2 b j
          rw [if_neg (fun q => by omega)]
        cases S with
        | inl o =>
          have e3 : (fun j kd => zfield (fun i => if i < k then as i else H.size + (i - k)) (zOuter u k) b j kd) = fun j kd => zfield (fun i => if i < k then as i else H.size + (i - k)) u b j kd := by
            funext j kd
            match kd with
            | 0 => rfl
            | 1 => rfl
            | 2 => show va_rf _ = va_rf _; rw [e2]
            | _ + 3 => rfl
          show Sum.inr (o.1, o.2.mapIdx _) = Sum.inr (o.1, o.2.mapIdx _)
          rw [e3]
        | inr r =>
          show Sum.inl _ = Sum.inl _
          congr 2
          obtain ⟨t, n, p, q⟩ := r
          dsimp only
          unfold zarr
          split <;> first | rfl | rw [e2]
      rw [e1]
      have e3 : (if b < k then as b else H.size + (b - k)) = as b := if_pos hbk
      show va_at D zcl ((if b < k then as b else H.size + (b - k)), zcell as dA u b S) F.heap
      rw [e3]
      exact (hP b _ (zw_get (zN_take hS1 hbk))).kept (hold _ (hlt b hbk))
    · by_cases hbe : b = k
      · subst hbe
        rw [hs0] at hS1
        cases hS1
        have e3 : (if b < b then as b else H.size + (b - b)) = H.size := by rw [if_neg (by omega)]; omega
        show F.heap[(if b < b then as b else H.size + (b - b))]? = some (vp_cell (dA 7) (6, Sum.inr (Sum.inr (Sum.inr (Sum.inr (fun j => (gO (zOuter u b) b j).map (fun i => if i < b then as i else H.size + (i - b))))))))
        rw [e3, f2, vp_cell_q, h75]
        refine congrArg some (congrArg (arrV (dA 5) 6) (funext fun j => ?_))
        show va_rf (if j < 6 then some (H.size + 1 + j) else none) = va_rf ((if b = b ∧ j < 6 then some (b + 1 + j) else u.2.2 b j).map (fun i => if i < b then as i else H.size + (i - b)))
        by_cases hj : j < 6
        · rw [if_pos hj, if_pos ⟨rfl, hj⟩, Option.map_some, if_neg (by omega)]
          congr 2
          omega
        · rw [if_neg hj, if_neg (fun q => hj q.2), show u.2.2 b j = none from (hf b j (Nat.le_refl b)).2.2]
          rfl
      · obtain ⟨j, hj, rfl⟩ : ∃ j, j < 6 ∧ b = k + 1 + j := ⟨b - (k + 1), by omega, by omega⟩
        rw [hsj j hj] at hS1
        cases hS1
        have e3 : (if k + 1 + j < k then as (k + 1 + j) else H.size + (k + 1 + j - k)) = H.size + 1 + j := by rw [if_neg (by omega)]; omega
        show F.heap[(if k + 1 + j < k then as (k + 1 + j) else H.size + (k + 1 + j - k))]? = some (vp_cell (dA 3) (60, Sum.inr (Sum.inl (gJ u (k + 1 + j)))))
        rw [e3, hrow j hj, vp_cell_l]
        refine congrArg some (congrArg (arrV (dA 3) 60) (funext fun i => ?_))
        rw [(hf (k + 1 + j) i (by omega)).2.1]
  have eL : zL (fun i => if i < k then as i else H.size + (i - k)) L = zL as L := by
    unfold zL
    apply List.map_congr_left
    intro x hx
    rw [zr_eq (as := as) has (hvL x hx)]
  have hvT : ∀ v ∈ st, zVok k v := fun v hv => hvS v (List.mem_cons_of_mem _ (List.mem_cons_of_mem _ hv))
  have eS : st.map (zr (fun i => if i < k then as i else H.size + (i - k))) = st.map (zr as) := by
    apply List.map_congr_left
    intro x hx
    exact zr_eq (as := as) has (hvT x hx)
  have hF2 : va_S (zA as0 k0 s.heap.size) s.heap F.heap locs := ⟨Nat.le_trans hS.1 (by rw [f1]; omega), fun q h1 h2 => by rw [hold q (Nat.lt_of_lt_of_le h1 hS.1)]; exact hS.2.1 q h1 h2, hS.2.2⟩
  have hK2 := kk (fun i => if i < k then as i else H.size + (i - k)) F.heap locs ls hP1 (fun i j hi hj h => by
      dsimp only at h
      by_cases h1 : i < k
      · by_cases h2 : j < k
        · rw [if_pos h1, if_pos h2] at h
          exact hI i j h1 h2 h
        · rw [if_pos h1, if_neg h2] at h
          have := hlt i h1
          omega
      · by_cases h2 : j < k
        · rw [if_neg h1, if_pos h2] at h
          have := hlt j h2
          omega
        · rw [if_neg h1, if_neg h2] at h
          omega) (by omega) hk7 (fun i hi => (if_pos (Nat.lt_of_lt_of_le hi hk0)).trans (he i hi)) (fun i hi => by
      by_cases h1 : i < k
      · show zA as0 k0 s.heap.size (if i < k then as i else H.size + (i - k))
        rw [if_pos h1]; exact hA i h1
      · show zA as0 k0 s.heap.size (if i < k then as i else H.size + (i - k))
        rw [if_neg h1]; exact hfree _ (by omega)) (fun q hq => (hvL q hq).le (by omega)) (List.forall_mem_cons.mpr ⟨by show k < k + 7; omega, fun v hv => (hvT v hv).le (by omega)⟩) (fun a i x hx => by
      by_cases h1 : a = k ∧ i < 6
      · have h2 : gO (zOuter u k) a i = some (k + 1 + i) := if_pos h1
        rw [h2] at hx
        cases hx
        omega
      · have h2 : gO (zOuter u k) a i = gO u a i := if_neg h1
        rw [h2] at hx
        have := ho a i x hx
        omega) (fun a i ha => by
      obtain ⟨g1, g2, g3⟩ := hf a i (by omega)
      exact ⟨g1, g2, (if_neg (fun q => by omega)).trans g3⟩) hF2 (by rw [eL]; exact hl)
  rw [List.map_cons, eS] at hK2
  have e5 : zr (fun i => if i < k then as i else H.size + (i - k)) (.ref k) = .ref H.size := by
    show Value.ref (if k < k then as k else H.size + (k - k)) = _
    rw [if_neg (by omega), Nat.sub_self, Nat.add_zero]
  rw [e5] at hK2
  obtain ⟨t, a1, b1⟩ := hK2 F rfl X'
  rw [hT] at step
  exact ⟨t, step t a1, b1⟩
end GoMulti
