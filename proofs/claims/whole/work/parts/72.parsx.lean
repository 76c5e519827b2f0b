/-! ===== PURE: the class reads as the one reading ===== -/
theorem frP_tr {P : Nat → Nat → Prop} {u v w : zM} (h : frP P u v) (g : frP P v w) : frP P u w := ⟨fun a k q => (g.1 a k q).trans (h.1 a k q), fun a k => (g.2.1 a k).trans (h.2.1 a k), fun a k => (g.2.2 a k).trans (h.2.2 a k)⟩
theorem frP_mono {P Q : Nat → Nat → Prop} {u u' : zM} (h : frP P u u') (g : ∀ a k, P a k → Q a k) : frP Q u u' := ⟨fun a k q => h.1 a k (fun p => q (g a k p)), h.2.1, h.2.2⟩
/-- a row of ints from a place on -/
def AI (u : zM) (a : Nat) : List Int32 → Nat → Prop
  | [], _ => True
  | x :: L, i => gI u a i = x ∧ AI u a L (i + 1)
theorem AI_app {u : zM} {a : Nat} : ∀ (L M : List Int32) (i : Nat), AI u a L i → AI u a M (i + L.length) → AI u a (L ++ M) i := by
  intro L
  induction L with
  | nil => exact fun M i _ h => h
  | cons x L ih =>
    intro M i h g
    refine ⟨h.1, ih M (i + 1) h.2 ?_⟩
    rw [show i + 1 + L.length = i + (x :: L).length from by rw [List.length_cons]; omega]
    exact g
theorem AI_l {u : zM} {a : Nat} : ∀ (L M : List Int32) (i : Nat), AI u a (L ++ M) i → AI u a L i := by
  intro L
  induction L with
  | nil => exact fun M i _ => trivial
  | cons x L ih => exact fun M i h => ⟨h.1, ih M (i + 1) h.2⟩
theorem AI_r {u : zM} {a : Nat} : ∀ (L M : List Int32) (i : Nat), AI u a (L ++ M) i → AI u a M (i + L.length) := by
  intro L
  induction L with
  | nil => exact fun M i h => h
  | cons x L ih =>
    intro M i h
    rw [show i + (x :: L).length = i + 1 + L.length from by rw [List.length_cons]; omega]
    exact ih M (i + 1) h.2
theorem AI_cg {u u' : zM} {a : Nat} : ∀ (L : List Int32) (i : Nat), (∀ k, k < i + L.length → gI u' a k = gI u a k) → AI u a L i → AI u' a L i := by
  intro L
  induction L with
  | nil => exact fun i _ _ => trivial
  | cons x L ih =>
    intro i g h
    have g' : ∀ k, k < i + (L.length + 1) → gI u' a k = gI u a k := g
    exact ⟨(g' i (by omega)).trans h.1, ih (i + 1) (fun k hk => g' k (by omega)) h.2⟩
/-- the class's reader at a place of the text, working on a square -/
def RX (tx : Nat → Nat) (n t : Nat) (u : zM) (p : Nat) : Prop := gI u 63 0 = nI n ∧ gI u 63 1 = nI p ∧ gO u 63 3 = some t ∧ ∀ i, i < n → gI u 64 i = nI (tx i)
def P1 (a k : Nat) : Prop := a = 63 ∧ k = 1
def PS (t a k : Nat) : Prop := (a = t ∧ k = 2) ∨ a = t + 1
def PX (t a k : Nat) : Prop := (a = 63 ∧ k = 1) ∨ (a = t ∧ k = 2) ∨ a = t + 1
def ST (t : Nat) (u : zM) (L : List Int32) : Prop := gI u t 2 = nI L.length ∧ AI u (t + 1) L 0
theorem RX_s {tx : Nat → Nat} {n t p p' : Nat} {u : zM} (h : RX tx n t u p) : RX tx n t (sI u 63 1 (nI p')) p' := ⟨by rw [gI_sI, if_neg (by omega)]; exact h.1, by rw [gI_sI, if_pos ⟨rfl, rfl⟩], h.2.2.1, fun i hi => by rw [gI_sI, if_neg (by omega)]; exact h.2.2.2 i hi⟩
theorem RX_fr {tx : Nat → Nat} {n t p : Nat} {u u' : zM} (ht : 78 ≤ t) (h : RX tx n t u p) (g : frP (PS t) u u') : RX tx n t u' p := ⟨(g.1 63 0 (by unfold PS; omega)).trans h.1, (g.1 63 1 (by unfold PS; omega)).trans h.2.1, (g.2.2 63 3).trans h.2.2.1, fun i hi => (g.1 64 i (by unfold PS; omega)).trans (h.2.2.2 i hi)⟩
theorem ST_fr {t : Nat} {u u' : zM} {L : List Int32} (ht : 78 ≤ t) (h : ST t u L) (g : frP P1 u u') : ST t u' L := ⟨(g.1 t 2 (by unfold P1; omega)).trans h.1, AI_cg L 0 (fun k _ => g.1 (t + 1) k (by unfold P1; omega)) h.2⟩
theorem fr1 (u : zM) (p : Nat) : frP P1 u (sI u 63 1 (nI p)) := frP_s (frP_rf P1 u) ⟨rfl, rfl⟩
theorem PX_1 {t : Nat} {u u' : zM} (h : frP P1 u u') : frP (PX t) u u' := frP_mono h (fun a k q => Or.inl q)
theorem PX_S {t : Nat} {u u' : zM} (h : frP (PS t) u u') : frP (PX t) u u' := frP_mono h (fun a k q => Or.inr q)
theorem ch_in {tx : Nat → Nat} {n p : Nat} (l : p < n) : chT tx n p = tx p := if_pos l
theorem ch_out {tx : Nat → Nat} {n p : Nat} (l : ¬ p < n) : chT tx n p = 200 := if_neg l
theorem seesX {tx : Nat → Nat} {n t p c : Nat} {u : zM} {C : Int32} (hC : C = nI c) (hc : c < 128) (h : RX tx n t u p) (ho : TxOk tx n) (hp : p ≤ n) : f_X2_sees C u = some ((if chT tx n p = c then (1 : Int32) else 0), u) := by
  obtain ⟨h1, h2, h3, h4⟩ := h
  obtain ⟨o1, o2⟩ := ho
  unfold f_X2_sees
  rw [h1, h2]
  by_cases l : p < n
  · have o3 := o2 p l
    rw [if_neg (nI_ge l (by omega)), inB_n (show p < 100 by omega) (by decide), zck_t, nI_cl (by omega), h4 p l, hC, ch_in l]
    by_cases e : tx p = c
    · rw [if_pos e, e, if_pos rfl]
    · rw [if_neg e, if_neg (fun q => e ((nI_eq (by omega) (by omega)).mp q))]
  · rw [if_pos (nI_le (by omega) (by omega)), ch_out l, if_neg (by omega)]
theorem takesX {tx : Nat → Nat} {n t p c : Nat} {u : zM} {C : Int32} (hC : C = nI c) (hc : c < 128) (h : RX tx n t u p) (ho : TxOk tx n) (hp : p ≤ n) : f_X2_takes C u = if chT tx n p = c then some ((1 : Int32), sI u 63 1 (nI (p + 1))) else some ((0 : Int32), u) := by
  unfold f_X2_takes
  rw [seesX hC hc h ho hp, zb_s]
  by_cases e : chT tx n p = c
  · rw [if_pos e, if_pos e, if_neg (by decide), zlet_s, h.2.1, nI_a1]
    rfl
  · rw [if_neg e, if_neg e, if_pos rfl]
    rfl
theorem q48 : (48 : Int32) = nI 48 := rfl
theorem q57 : (57 : Int32) = nI 57 := rfl
theorem num_v {x : Int32} {v c : Nat} (hx : (x = -1 ∧ v = 0) ∨ (x = nI v ∧ v < 10)) (hc : 48 ≤ c ∧ c ≤ 57) : (((if x < (0 : Int32) then (0 : Int32) else x) * (10 : Int32)) + nI c) - (48 : Int32) = nI (10 * v + (c - 48)) := by
  have e : (if x < (0 : Int32) then (0 : Int32) else x) = nI v := by
    rcases hx with ⟨rfl, rfl⟩ | ⟨rfl, hv⟩
    · rfl
    · rw [if_neg (nI_pos (by omega))]
  have hv : v < 10 := by rcases hx with ⟨-, rfl⟩ | ⟨-, hv⟩ <;> omega
  rw [e, q10, q48]
  simp (disch := omega) only [↓zb_s, ↓zck_t, ↓zlet_s, ↓zlx_s, ↓zly_s, ↓zmo_n, ↓zmo_s, ↓reduceIte, nle_t, nle_f, nlt_t, nlt_f, neq_t, neq_f, mlt_t, mle_t, mlt_f, mle_f, meq_f, meq_f2, mmeq_t, mmeq_f, inB_n, nI_cl, nI_add, pk_mul, pk_sub, pk_div, zrem_n, q0, q1, q2, q3, q4, q5, q6, q7, q8, q9, q10, q12, q20, q24, q40, q50, q60, q61, q80, q99, q100, q9999]
theorem numS {tx : Nat → Nat} {n t p i v fn : Nat} {u : zM} {x : Int32} (h : RX tx n t u p) (ho : TxOk tx n) (hp : p ≤ n) (hi : i < 2) (hx : (x = -1 ∧ v = 0) ∨ (x = nI v ∧ v < 10)) : f_X2_takeNumber_L4 (fn + 1) x (nI i) u = if 48 ≤ chT tx n p ∧ chT tx n p ≤ 57 then f_X2_takeNumber_L4 fn (nI (10 * v + (chT tx n p - 48))) (nI (i + 1)) (sI u 63 1 (nI (p + 1))) else some (x, u) := by
  obtain ⟨h1, h2, h3, h4⟩ := h
  obtain ⟨o1, o2⟩ := ho
  show f_X2_takeNumber_L4_b _ _ _ _ = _
  unfold f_X2_takeNumber_L4_b
  rw [if_neg (show ¬ (2 : Int32) ≤ nI i from nI_ge (b := 2) hi (by decide)), h1, h2]
  by_cases l : p < n
  · have o3 := o2 p l
    rw [if_neg (nI_ge l (by omega)), inB_n (show p < 100 by omega) (by decide), zck_t, zck_t, zck_t, nI_cl (by omega), h4 p l, ch_in l]
    by_cases e1 : 48 ≤ tx p
    · rw [if_neg (show ¬ nI (tx p) < (48 : Int32) from nI_nlt (b := 48) e1 (by omega))]
      by_cases e2 : tx p ≤ 57
      · rw [if_neg (show ¬ (57 : Int32) < nI (tx p) from nI_nlt (a := 57) e2 (by decide)), if_pos (show 48 ≤ tx p ∧ tx p ≤ 57 from ⟨e1, e2⟩), zlx_s, zlet_s, num_v hx ⟨e1, e2⟩, nI_a1, nI_a1]
      · rw [if_pos (show (57 : Int32) < nI (tx p) from nI_lt (a := 57) (by omega) (by omega)), if_neg (by omega)]
    · rw [if_pos (show nI (tx p) < (48 : Int32) from nI_lt (b := 48) (by omega) (by decide)), if_neg (by omega)]
  · rw [if_pos (nI_le (by omega) (by omega)), ch_out l, if_neg (by omega)]
theorem numE {fn : Nat} {u : zM} {x : Int32} : f_X2_takeNumber_L4 (fn + 1) x (nI 2) u = some (x, u) := rfl
theorem numX {tx : Nat → Nat} {n t p : Nat} {u : zM} (h : RX tx n t u p) (ho : TxOk tx n) (hp : p ≤ n) : ∃ u', f_X2_takeNumber u = some ((if (nuT tx n p).1 = true then nI (nuT tx n p).2.2 else (-1 : Int32)), u') ∧ RX tx n t u' (nuT tx n p).2.1 ∧ frP P1 u u' := by
  unfold f_X2_takeNumber
  rw [show f_X2_takeNumber_L4 400 (-1 : Int32) (0 : Int32) u = _ from numS (fn := 399) (i := 0) (v := 0) h ho hp (by decide) (Or.inl ⟨rfl, rfl⟩)]
  by_cases e1 : 48 ≤ chT tx n p ∧ chT tx n p ≤ 57
  · have l1 := ch_lt (tx := tx) (n := n) (p := p) (by omega)
    have hr := RX_s (p' := p + 1) h
    rw [if_pos e1, show f_X2_takeNumber_L4 399 (nI (10 * 0 + (chT tx n p - 48))) (nI (0 + 1)) (sI u 63 1 (nI (p + 1))) = _ from numS (fn := 398) (i := 1) (v := 10 * 0 + (chT tx n p - 48)) hr ho (by omega) (by decide) (Or.inr ⟨rfl, by omega⟩)]
    by_cases e2 : 48 ≤ chT tx n (p + 1) ∧ chT tx n (p + 1) ≤ 57
    · rw [if_pos e2, nuT_t e1 e2, if_pos rfl, show (1 + 1 : Nat) = 2 from rfl, numE]
      exact ⟨_, by rw [Nat.mul_zero, Nat.zero_add], RX_s hr, frP_s (fr1 u _) ⟨rfl, rfl⟩⟩
    · rw [if_neg e2, nuT_1 e1 e2, if_pos rfl]
      exact ⟨_, by rw [Nat.mul_zero, Nat.zero_add], hr, fr1 u _⟩
  · rw [if_neg e1, nuT_f e1]
    exact ⟨u, rfl, h, frP_rf _ _⟩
theorem ixS (o : Nat) (p1 p2 p3 X : Int32) (fn : Nat) (i : Int32) (u : zM) (h1 : ¬ p3 ≤ i) (h2 : inB i (zskL o) = true) : f_J1_indexOfChar_4cfef_L7 o p1 p2 p3 (fn + 1) X i u = if zskB o i = X then some (i, u) else f_J1_indexOfChar_4cfef_L7 o p1 p2 p3 fn X (i + 1) u := by
  show f_J1_indexOfChar_4cfef_L7_b _ _ _ _ _ _ _ _ = _
  unfold f_J1_indexOfChar_4cfef_L7_b
  rw [if_neg h1, h2, zck_t]
theorem ixE (o : Nat) (p1 p2 p3 X : Int32) (fn : Nat) (i : Int32) (u : zM) (h1 : p3 ≤ i) : f_J1_indexOfChar_4cfef_L7 o p1 p2 p3 (fn + 1) X i u = some ((-1 : Int32), u) := by
  show f_J1_indexOfChar_4cfef_L7_b _ _ _ _ _ _ _ _ = _
  unfold f_J1_indexOfChar_4cfef_L7_b
  rw [if_pos h1]
theorem chr_id : ∀ c, c < 128 → ((nI c).toUInt32 % 65536).toInt32 = nI c := by decide +kernel
theorem byt_id : ∀ c, c < 128 → (nI c).toInt8.toInt32 = nI c := by decide +kernel
theorem zsk11 : zskL 1011 = 6 ∧ zskB 1011 0 = nI 112 ∧ zskB 1011 (0 + 1) = nI 107 ∧ zskB 1011 (0 + 1 + 1) = nI 118 ∧ zskB 1011 (0 + 1 + 1 + 1) = nI 104 ∧ zskB 1011 (0 + 1 + 1 + 1 + 1) = nI 110 ∧ zskB 1011 (0 + 1 + 1 + 1 + 1 + 1) = nI 109 := by decide +kernel
theorem zsk12 : zskL 1012 = 3 ∧ zskB 1012 0 = nI 60 ∧ zskB 1012 (0 + 1) = nI 61 ∧ zskB 1012 (0 + 1 + 1) = nI 62 := by decide +kernel
theorem ixO {o k c : Nat} (hk : zskL o = k) (hk1 : 0 < k) (hk2 : k < 1000) (hc : c < 128) (u : zM) : f_J0_indexOf_0f7a4 o ((nI c).toUInt32 % 65536).toInt32 u = f_J1_indexOfChar_4cfef_L7 o (nI c) (0 : Int32) (nI k) 400 (nI c) (0 : Int32) u := by
  have hl : ∀ u : zM, f_J0_length_8abf5 o u = some (nI k, u) := by
    intro u
    unfold f_J0_length_8abf5
    rw [hk, show f_J0_coder_7d493 o u = some ((0 : Int32), u) from rfl, zb_s, show ((0 : Int32) &&& 31) = 0 from by decide, show Int32.ofNat k >>> (0 : Int32) = nI k from Int32.shiftRight_zero]
  have e1 : f_J1_canEncode_9a6ad (nI c) u = some ((1 : Int32), u) := by
    unfold f_J1_canEncode_9a6ad
    rw [if_neg (nI_pos (by omega)), if_neg (show ¬ (255 : Int32) < nI c from nI_nlt (a := 255) (by omega) (by decide))]
  have e2 : f_J1_indexOf_4cfef o (nI c) (0 : Int32) (nI k) u = f_J1_indexOfChar_4cfef_L7 o (nI c) (0 : Int32) (nI k) 400 (nI c) (0 : Int32) u := by
    unfold f_J1_indexOf_4cfef
    rw [e1, zb_s, if_neg (by decide), zlx_s, if_neg (show ¬ (0 : Int32) < 0 from by decide), zlx_s, hk, show Int32.ofNat k = nI k from rfl, if_neg (show ¬ nI k < nI k from nI_nlt (Nat.le_refl _) (by omega)), if_pos (show (0 : Int32) < nI k from nI_lt (a := 0) hk1 (by omega))]
    unfold f_J1_indexOfChar_4cfef
    rw [zlx_s, byt_id c hc]
    generalize f_J1_indexOfChar_4cfef_L7 o (nI c) (0 : Int32) (nI k) 400 (nI c) (0 : Int32) u = F
    cases F <;> rfl
  unfold f_J0_indexOf_0f7a4 f_J0_indexOf_7cf53
  rw [show f_J0_isLatin1_aae02 o u = some ((1 : Int32), u) from rfl, zb_s, if_neg (by decide), hl, zb_s, chr_id c hc, e2]
  generalize f_J1_indexOfChar_4cfef_L7 o (nI c) (0 : Int32) (nI k) 400 (nI c) (0 : Int32) u = F
  cases F <;> rfl
theorem ix11 (a X : Int32) (u : zM) : f_J1_indexOfChar_4cfef_L7 1011 a (0 : Int32) (nI 6) 400 X (0 : Int32) u = if nI 112 = X then some (nI 0, u) else if nI 107 = X then some (nI 1, u) else if nI 118 = X then some (nI 2, u) else if nI 104 = X then some (nI 3, u) else if nI 110 = X then some (nI 4, u) else if nI 109 = X then some (nI 5, u) else some ((-1 : Int32), u) := by
  obtain ⟨z0, z1, z2, z3, z4, z5, z6⟩ := zsk11
  rw [ixS _ _ _ _ _ 399 _ _ (by decide) (by rw [z0]; decide), ixS _ _ _ _ _ 398 _ _ (by decide) (by rw [z0]; decide), ixS _ _ _ _ _ 397 _ _ (by decide) (by rw [z0]; decide), ixS _ _ _ _ _ 396 _ _ (by decide) (by rw [z0]; decide), ixS _ _ _ _ _ 395 _ _ (by decide) (by rw [z0]; decide), ixS _ _ _ _ _ 394 _ _ (by decide) (by rw [z0]; decide), ixE _ _ _ _ _ 393 _ _ (by decide), z1, z2, z3, z4, z5, z6]
  rfl
theorem ix12 (a X : Int32) (u : zM) : f_J1_indexOfChar_4cfef_L7 1012 a (0 : Int32) (nI 3) 400 X (0 : Int32) u = if nI 60 = X then some (nI 0, u) else if nI 61 = X then some (nI 1, u) else if nI 62 = X then some (nI 2, u) else some ((-1 : Int32), u) := by
  obtain ⟨z0, z1, z2, z3⟩ := zsk12
  rw [ixS _ _ _ _ _ 399 _ _ (by decide) (by rw [z0]; decide), ixS _ _ _ _ _ 398 _ _ (by decide) (by rw [z0]; decide), ixS _ _ _ _ _ 397 _ _ (by decide) (by rw [z0]; decide), ixE _ _ _ _ _ 396 _ _ (by decide), z1, z2, z3]
  rfl
theorem L29n (o k p : Nat) (u : zM) (hk : k < 1000) (h : gI u 63 1 = nI p) : f_X2_takeOneOf_L29 o (nI k) u = some (nI k, sI u 63 1 (nI (p + 1))) := by
  unfold f_X2_takeOneOf_L29
  rw [if_neg (nI_pos (by omega)), zlet_s, h, nI_a1]
theorem L29m (o : Nat) (u : zM) : f_X2_takeOneOf_L29 o (-1 : Int32) u = some ((-1 : Int32), u) := rfl
theorem nIne {a c : Nat} (ha : a < 1000) (hc : c < 1000) (h : ¬ c = a) : ¬ nI a = nI c := fun q => h ((nI_eq (by omega) (by omega)).mp q).symm
theorem oneL {tx : Nat → Nat} {n t p : Nat} {u : zM} (h : RX tx n t u p) (ho : TxOk tx n) (hp : p ≤ n) : f_X2_takeOneOf 1011 u = if ltT (chT tx n p) = 6 then some ((-1 : Int32), u) else some (nI (ltT (chT tx n p)), sI u 63 1 (nI (p + 1))) := by
  obtain ⟨h1, h2, h3, h4⟩ := h
  obtain ⟨o1, o2⟩ := ho
  unfold f_X2_takeOneOf
  rw [h1, h2]
  by_cases l : p < n
  · have o3 := o2 p l
    rw [if_neg (nI_ge l (by omega)), inB_n (show p < 100 by omega) (by decide), zck_t, nI_cl (by omega), h4 p l, ixO zsk11.1 (by decide) (by decide) o3, ch_in l, ix11]
    unfold ltT
    by_cases e1 : tx p = 112
    · rw [e1, if_pos rfl, zb_s, L29n _ _ p _ (by decide) h2]
      rfl
    · rw [if_neg (nIne (by decide) (by omega) e1), if_neg e1]
      by_cases e2 : tx p = 107
      · rw [e2, if_pos rfl, zb_s, L29n _ _ p _ (by decide) h2]
        rfl
      · rw [if_neg (nIne (by decide) (by omega) e2), if_neg e2]
        by_cases e3 : tx p = 118
        · rw [e3, if_pos rfl, zb_s, L29n _ _ p _ (by decide) h2]
          rfl
        · rw [if_neg (nIne (by decide) (by omega) e3), if_neg e3]
          by_cases e4 : tx p = 104
          · rw [e4, if_pos rfl, zb_s, L29n _ _ p _ (by decide) h2]
            rfl
          · rw [if_neg (nIne (by decide) (by omega) e4), if_neg e4]
            by_cases e5 : tx p = 110
            · rw [e5, if_pos rfl, zb_s, L29n _ _ p _ (by decide) h2]
              rfl
            · rw [if_neg (nIne (by decide) (by omega) e5), if_neg e5]
              by_cases e6 : tx p = 109
              · rw [e6, if_pos rfl, zb_s, L29n _ _ p _ (by decide) h2]
                rfl
              · rw [if_neg (nIne (by decide) (by omega) e6), if_neg e6, zb_s, L29m, if_pos rfl]
  · rw [if_pos (nI_le (by omega) (by omega)), ch_out l, L29m]
    rfl
theorem oneC {tx : Nat → Nat} {n t p : Nat} {u : zM} (h : RX tx n t u p) (ho : TxOk tx n) (hp : p ≤ n) : f_X2_takeOneOf 1012 u = if 60 ≤ chT tx n p ∧ chT tx n p ≤ 62 then some (nI (chT tx n p - 60), sI u 63 1 (nI (p + 1))) else some ((-1 : Int32), u) := by
  obtain ⟨h1, h2, h3, h4⟩ := h
  obtain ⟨o1, o2⟩ := ho
  unfold f_X2_takeOneOf
  rw [h1, h2]
  by_cases l : p < n
  · have o3 := o2 p l
    rw [if_neg (nI_ge l (by omega)), inB_n (show p < 100 by omega) (by decide), zck_t, nI_cl (by omega), h4 p l, ixO zsk12.1 (by decide) (by decide) o3, ch_in l, ix12]
    by_cases e1 : tx p = 60
    · rw [e1, if_pos rfl, zb_s, L29n _ _ p _ (by decide) h2]
      rfl
    · rw [if_neg (nIne (by decide) (by omega) e1)]
      by_cases e2 : tx p = 61
      · rw [e2, if_pos rfl, zb_s, L29n _ _ p _ (by decide) h2]
        rfl
      · rw [if_neg (nIne (by decide) (by omega) e2)]
        by_cases e3 : tx p = 62
        · rw [e3, if_pos rfl, zb_s, L29n _ _ p _ (by decide) h2]
          rfl
        · rw [if_neg (nIne (by decide) (by omega) e3), zb_s, L29m, if_neg (by omega)]
  · rw [if_pos (nI_le (by omega) (by omega)), ch_out l, L29m, if_neg (by omega)]
theorem stepAX {t : Nat} {u : zM} {L : List Int32} (X : Int32) (hs : ST t u L) (hl : L.length < 100) : ∃ u', f_X4_addStep t X u = some ((), u') ∧ ST t u' (L ++ [X]) ∧ frP (PS t) u u' := by
  obtain ⟨s1, s2⟩ := hs
  refine ⟨sI (sI u (t + 1) L.length X) t 2 (nI (L.length + 1)), ?_, ⟨?_, ?_⟩, frP_s (frP_s (frP_rf _ u) (Or.inr rfl)) (Or.inl ⟨rfl, rfl⟩)⟩
  · unfold f_X4_addStep
    rw [s1, if_neg (show ¬ (100 : Int32) ≤ nI L.length from nI_ge (b := 100) hl (by decide)), inB_n hl (by decide), zck_t, nI_cl (by omega), zlet_s, gI_sI, if_neg (by omega), s1, zlet_s, nI_a1]
  · rw [gI_sI, if_pos ⟨rfl, rfl⟩, List.length_append]
    rfl
  · refine AI_app L [X] 0 (AI_cg L 0 (fun k hk => ?_) s2) ⟨?_, trivial⟩
    · rw [gI_sI, if_neg (by omega), gI_sI, if_neg (by omega)]
    · rw [gI_sI, if_neg (by omega), gI_sI, if_pos ⟨rfl, by omega⟩]
theorem tst_enc : ∀ a, a < 100 → ∀ b, b < 3 → ∀ c, c < 6 → ((nI a <<< ((5 : Int32) &&& 31)) ||| (nI b <<< ((3 : Int32) &&& 31))) ||| nI c = nI (32 * a + 8 * b + c) := by decide +kernel
/-- what the class's reading of something comes to -/
def OX (tx : Nat → Nat) (n t : Nat) (F : Option (Int32 × zM)) (u : zM) (L : List Int32) (r : zR) : Prop := ∃ u', F = some (nI (b2n r.1), u') ∧ RX tx n t u' r.2.1 ∧ (r.1 = true → ST t u' (L ++ r.2.2.map tkX)) ∧ frP (PX t) u u'
theorem testX {tx : Nat → Nat} {n t p : Nat} {u : zM} {L : List Int32} (ht : 78 ≤ t) (hq : isQ t = true) (h : RX tx n t u p) (ho : TxOk tx n) (hp : p ≤ n) (hs : ST t u L) (hl : L.length ≤ p) : OX tx n t (f_X2_readsTest u) u L (pTe tx n p) := by
  unfold f_X2_readsTest pTe
  rw [oneL h ho hp]
  by_cases c1 : ltT (chT tx n p) = 6
  · rw [if_pos c1, if_pos c1]
    exact ⟨u, rfl, h, fun q => nope q rfl, frP_rf _ _⟩
  · obtain ⟨g1, g2⟩ := ltT_lt c1
    have l1 := ch_lt g1
    have hr := RX_s (p' := p + 1) h
    rw [if_neg c1, if_neg c1, zb_s, if_pos (nI_pos' (by omega)), oneC hr ho (by omega)]
    by_cases c2 : 60 ≤ chT tx n (p + 1) ∧ chT tx n (p + 1) ≤ 62
    · have l2 := ch_lt (tx := tx) (n := n) (p := p + 1) (by omega)
      have hr2 := RX_s (p' := p + 2) hr
      rw [if_pos c2, if_pos c2, zb_s, if_pos (nI_pos' (by omega))]
      obtain ⟨u3, e3, R3, F3⟩ := numX hr2 ho (by omega)
      rw [e3, zb_s]
      have hF := frP_tr (frP_tr (fr1 u (p + 1)) (fr1 _ (p + 2))) F3
      have S3 := ST_fr ht hs hF
      obtain ⟨k1, k2, k3⟩ := nuT_ok (tx := tx) (n := n) (p := p + 2) (by omega)
      by_cases c3 : (nuT tx n (p + 2)).1 = true
      · obtain ⟨k4, k5⟩ := k3 c3
        have o1 := ho.1
        rw [if_pos c3, if_pos c3, if_pos (nI_pos' (by omega)), R3.2.2.1, zmo_s, hq, zck_t]
        unfold f_X4_addTest
        rw [tst_enc _ k5 _ (by omega) _ g2]
        obtain ⟨u4, e4, S4, F4⟩ := stepAX (nI (32 * (nuT tx n (p + 2)).2.2 + 8 * (chT tx n (p + 1) - 60) + ltT (chT tx n p))) S3 (by omega)
        rw [e4]
        exact ⟨u4, rfl, RX_fr ht R3 F4, fun _ => S4, frP_tr (PX_1 hF) (PX_S F4)⟩
      · have c3f : (nuT tx n (p + 2)).1 = false := by simpa using c3
        have c3p : (nuT tx n (p + 2)).2.1 = p + 2 := by
          by_cases z : 48 ≤ chT tx n (p + 2) ∧ chT tx n (p + 2) ≤ 57
          · by_cases z2 : 48 ≤ chT tx n (p + 2 + 1) ∧ chT tx n (p + 2 + 1) ≤ 57
            · rw [nuT_t z z2] at c3
              exact absurd rfl c3
            · rw [nuT_1 z z2] at c3
              exact absurd rfl c3
          · rw [nuT_f z]
        rw [if_neg c3, if_neg c3]
        rw [c3p] at R3
        exact ⟨u3, rfl, R3, fun q => nope q rfl, PX_1 hF⟩
    · rw [if_neg c2, if_neg c2]
      exact ⟨_, rfl, hr, fun q => nope q rfl, PX_1 (fr1 u _)⟩
theorem bothL {tx : Nat → Nat} {n t B : Nat} {rfm : Int32 → zM → Option (Int32 × zM)} {p1 : Int32} {rf : Nat → zR} {L0 : List Int32} (ht : 78 ≤ t) (hq : isQ t = true) (ho : TxOk tx n) (hr : ∀ p, p ≤ n → okR n p B (rf p)) (hF : ∀ (u : zM) (L : List Int32) (p : Nat), RX tx n t u p → ST t u L → L.length ≤ p → p ≤ n → OX tx n t (rfm p1 u) u L (rf p)) : ∀ (j i fn : Nat) (u : zM) (p : Nat) (ks : List zK), i + j = 100 → j < fn → RX tx n t u p → ST t u (L0 ++ ks.map tkX) → L0.length + ks.length ≤ p → p ≤ n → OX tx n t (f_X2_readsBoth_L12 rfm p1 fn (nI i) u) u L0 (pSeL tx n 38 2 rf j p ks) := by
  intro j
  induction j with
  | zero =>
    intro i fn u p ks hi hf h hs hl hp
    obtain ⟨fn, rfl⟩ : ∃ g, fn = g + 1 := ⟨fn - 1, by omega⟩
    obtain rfl : i = 100 := by omega
    exact ⟨u, rfl, h, fun _ => hs, frP_rf _ _⟩
  | succ j ih =>
    intro i fn u p ks hi hf h hs hl hp
    obtain ⟨fn, rfl⟩ : ∃ g, fn = g + 1 := ⟨fn - 1, by omega⟩
    show OX tx n t (f_X2_readsBoth_L12_b _ _ _ _ _) _ _ _
    unfold f_X2_readsBoth_L12_b pSeL
    rw [if_neg (show ¬ (100 : Int32) ≤ nI i from nI_ge (b := 100) (by omega) (by decide)), takesX (c := 38) (C := 38) rfl (by decide) h ho hp]
    by_cases c1 : chT tx n p = 38
    · have l1 := ch_lt (tx := tx) (n := n) (p := p) (by omega)
      have o1 := ho.1
      have hlen : (L0 ++ ks.map tkX).length = L0.length + ks.length := by rw [List.length_append, List.length_map]
      rw [if_pos c1, if_pos c1, zb_s, if_neg (by decide)]
      obtain ⟨u2, e2, R2, S2, F2⟩ := hF _ _ (p + 1) (RX_s h) (ST_fr ht hs (fr1 u (p + 1))) (by omega) (by omega)
      obtain ⟨r1, r2, r3⟩ := hr (p + 1) (by omega)
      rw [e2, zb_s]
      by_cases c2 : (rf (p + 1)).1 = true
      · obtain ⟨r4, r5⟩ := r3 c2
        rw [if_pos c2, c2, if_neg (by decide), R2.2.2.1, zmo_s, hq, zck_t]
        obtain ⟨u3, e3, S3, F3⟩ := stepAX (-2 : Int32) (S2 c2) (by rw [List.length_append, List.length_map, hlen]; omega)
        rw [e3, zb_s, nI_a1]
        have S3' : ST t u3 (L0 ++ (ks ++ ((rf (p + 1)).2.2 ++ [(2, 0, 0, 0)])).map tkX) := by
          rw [List.map_append, List.map_append, ← List.append_assoc, ← List.append_assoc]
          exact S3
        obtain ⟨u4, e4, R4, S4, F4⟩ := ih (i + 1) fn u3 _ _ (by omega) (by omega) (RX_fr ht R2 F3) S3' (by rw [List.length_append, List.length_append]; show L0.length + (ks.length + ((rf (p + 1)).2.2.length + 1)) ≤ _; omega) r2
        exact ⟨u4, e4, R4, S4, frP_tr (PX_1 (fr1 u _)) (frP_tr F2 (frP_tr (PX_S F3) F4))⟩
      · have c2f : (rf (p + 1)).1 = false := by simpa using c2
        rw [if_neg c2, c2f, if_pos (by decide)]
        exact ⟨u2, rfl, R2, fun q => nope q rfl, frP_tr (PX_1 (fr1 u _)) F2⟩
    · rw [if_neg c1, if_neg c1]
      exact ⟨u, rfl, h, fun _ => hs, frP_rf _ _⟩
theorem bothX {tx : Nat → Nat} {n t B : Nat} {rfm : Int32 → zM → Option (Int32 × zM)} {p1 : Int32} {rf : Nat → zR} (ht : 78 ≤ t) (hq : isQ t = true) (ho : TxOk tx n) (hr : ∀ p, p ≤ n → okR n p B (rf p)) (hF : ∀ (u : zM) (L : List Int32) (p : Nat), RX tx n t u p → ST t u L → L.length ≤ p → p ≤ n → OX tx n t (rfm p1 u) u L (rf p)) (u : zM) (L : List Int32) (p : Nat) (h : RX tx n t u p) (hs : ST t u L) (hl : L.length ≤ p) (hp : p ≤ n) : OX tx n t (f_X2_readsBoth rfm p1 u) u L (pSe tx n 38 2 rf p) := by
  obtain ⟨u2, e2, R2, S2, F2⟩ := hF u L p h hs hl hp
  obtain ⟨r1, r2, r3⟩ := hr p hp
  unfold f_X2_readsBoth pSe
  rw [e2, zb_s]
  by_cases c2 : (rf p).1 = true
  · obtain ⟨r4, r5⟩ := r3 c2
    rw [if_pos c2, c2, if_neg (by decide)]
    obtain ⟨u4, e4, R4, S4, F4⟩ := bothL ht hq ho hr hF 100 0 400 u2 (rf p).2.1 (rf p).2.2 (by decide) (by decide) R2 (S2 c2) (by omega) r2
    exact ⟨u4, e4, R4, S4, frP_tr F2 F4⟩
  · have c2f : (rf p).1 = false := by simpa using c2
    rw [if_neg c2, c2f, if_pos (by decide)]
    exact ⟨u2, rfl, R2, fun q => nope q rfl, F2⟩
theorem eithL {tx : Nat → Nat} {n t B : Nat} {rfm : Int32 → zM → Option (Int32 × zM)} {p1 : Int32} {rf : Nat → zR} {L0 : List Int32} (ht : 78 ≤ t) (hq : isQ t = true) (ho : TxOk tx n) (hr : ∀ p, p ≤ n → okR n p B (rf p)) (hF : ∀ (u : zM) (L : List Int32) (p : Nat), RX tx n t u p → ST t u L → L.length ≤ p → p ≤ n → OX tx n t (f_X2_readsBoth rfm p1 u) u L (rf p)) : ∀ (j i fn : Nat) (u : zM) (p : Nat) (ks : List zK), i + j = 100 → j < fn → RX tx n t u p → ST t u (L0 ++ ks.map tkX) → L0.length + ks.length ≤ p → p ≤ n → OX tx n t (f_X2_readsEither_L12 rfm p1 fn (nI i) u) u L0 (pSeL tx n 124 3 rf j p ks) := by
  intro j
  induction j with
  | zero =>
    intro i fn u p ks hi hf h hs hl hp
    obtain ⟨fn, rfl⟩ : ∃ g, fn = g + 1 := ⟨fn - 1, by omega⟩
    obtain rfl : i = 100 := by omega
    exact ⟨u, rfl, h, fun _ => hs, frP_rf _ _⟩
  | succ j ih =>
    intro i fn u p ks hi hf h hs hl hp
    obtain ⟨fn, rfl⟩ : ∃ g, fn = g + 1 := ⟨fn - 1, by omega⟩
    show OX tx n t (f_X2_readsEither_L12_b _ _ _ _ _) _ _ _
    unfold f_X2_readsEither_L12_b pSeL
    rw [if_neg (show ¬ (100 : Int32) ≤ nI i from nI_ge (b := 100) (by omega) (by decide)), takesX (c := 124) (C := 124) rfl (by decide) h ho hp]
    by_cases c1 : chT tx n p = 124
    · have l1 := ch_lt (tx := tx) (n := n) (p := p) (by omega)
      have o1 := ho.1
      have hlen : (L0 ++ ks.map tkX).length = L0.length + ks.length := by rw [List.length_append, List.length_map]
      rw [if_pos c1, if_pos c1, zb_s, if_neg (by decide)]
      obtain ⟨u2, e2, R2, S2, F2⟩ := hF _ _ (p + 1) (RX_s h) (ST_fr ht hs (fr1 u (p + 1))) (by omega) (by omega)
      obtain ⟨r1, r2, r3⟩ := hr (p + 1) (by omega)
      rw [e2, zb_s]
      by_cases c2 : (rf (p + 1)).1 = true
      · obtain ⟨r4, r5⟩ := r3 c2
        rw [if_pos c2, c2, if_neg (by decide), R2.2.2.1, zmo_s, hq, zck_t]
        obtain ⟨u3, e3, S3, F3⟩ := stepAX (-3 : Int32) (S2 c2) (by rw [List.length_append, List.length_map, hlen]; omega)
        rw [e3, zb_s, nI_a1]
        have S3' : ST t u3 (L0 ++ (ks ++ ((rf (p + 1)).2.2 ++ [(3, 0, 0, 0)])).map tkX) := by
          rw [List.map_append, List.map_append, ← List.append_assoc, ← List.append_assoc]
          exact S3
        obtain ⟨u4, e4, R4, S4, F4⟩ := ih (i + 1) fn u3 _ _ (by omega) (by omega) (RX_fr ht R2 F3) S3' (by rw [List.length_append, List.length_append]; show L0.length + (ks.length + ((rf (p + 1)).2.2.length + 1)) ≤ _; omega) r2
        exact ⟨u4, e4, R4, S4, frP_tr (PX_1 (fr1 u _)) (frP_tr F2 (frP_tr (PX_S F3) F4))⟩
      · have c2f : (rf (p + 1)).1 = false := by simpa using c2
        rw [if_neg c2, c2f, if_pos (by decide)]
        exact ⟨u2, rfl, R2, fun q => nope q rfl, frP_tr (PX_1 (fr1 u _)) F2⟩
    · rw [if_neg c1, if_neg c1]
      exact ⟨u, rfl, h, fun _ => hs, frP_rf _ _⟩
theorem eithX {tx : Nat → Nat} {n t B : Nat} {rfm : Int32 → zM → Option (Int32 × zM)} {p1 : Int32} {rf : Nat → zR} (ht : 78 ≤ t) (hq : isQ t = true) (ho : TxOk tx n) (hr : ∀ p, p ≤ n → okR n p B (rf p)) (hF : ∀ (u : zM) (L : List Int32) (p : Nat), RX tx n t u p → ST t u L → L.length ≤ p → p ≤ n → OX tx n t (f_X2_readsBoth rfm p1 u) u L (rf p)) (u : zM) (L : List Int32) (p : Nat) (h : RX tx n t u p) (hs : ST t u L) (hl : L.length ≤ p) (hp : p ≤ n) : OX tx n t (f_X2_readsEither rfm p1 u) u L (pSe tx n 124 3 rf p) := by
  obtain ⟨u2, e2, R2, S2, F2⟩ := hF u L p h hs hl hp
  obtain ⟨r1, r2, r3⟩ := hr p hp
  unfold f_X2_readsEither pSe
  rw [e2, zb_s]
  by_cases c2 : (rf p).1 = true
  · obtain ⟨r4, r5⟩ := r3 c2
    rw [if_pos c2, c2, if_neg (by decide)]
    obtain ⟨u4, e4, R4, S4, F4⟩ := eithL ht hq ho hr hF 100 0 400 u2 (rf p).2.1 (rf p).2.2 (by decide) (by decide) R2 (S2 c2) (by omega) r2
    exact ⟨u4, e4, R4, S4, frP_tr F2 F4⟩
  · have c2f : (rf p).1 = false := by simpa using c2
    rw [if_neg c2, c2f, if_pos (by decide)]
    exact ⟨u2, rfl, R2, fun q => nope q rfl, F2⟩
theorem eiX {tx : Nat → Nat} {n t B : Nat} {rfm : Int32 → zM → Option (Int32 × zM)} {p1 : Int32} {rf : Nat → zR} (ht : 78 ≤ t) (hq : isQ t = true) (ho : TxOk tx n) (hr : ∀ p, p ≤ n → okR n p B (rf p)) (hF : ∀ (u : zM) (L : List Int32) (p : Nat), RX tx n t u p → ST t u L → L.length ≤ p → p ≤ n → OX tx n t (rfm p1 u) u L (rf p)) (u : zM) (L : List Int32) (p : Nat) (h : RX tx n t u p) (hs : ST t u L) (hl : L.length ≤ p) (hp : p ≤ n) : OX tx n t (f_X2_readsEither rfm p1 u) u L (pEi tx n rf p) := eithX ht hq ho (fun p hp => okSe (q := 2) (s := 38) (by decide) (Or.inl rfl) hr p hp) (fun u L p h hs hl hp => bothX ht hq ho hr hF u L p h hs hl hp) u L p h hs hl hp
theorem faX {tx : Nat → Nat} {n t : Nat} (ht : 78 ≤ t) (hq : isQ t = true) (ho : TxOk tx n) : ∀ (g o : Nat), o ≤ 4 → 5 ≤ g + o → ∀ (u : zM) (L : List Int32) (p : Nat), RX tx n t u p → ST t u L → L.length ≤ p → p ≤ n → OX tx n t (f_X2_readsFactor g (nI o) u) u L (pFa tx n g o p) := by
  intro g
  induction g with
  | zero => intro o h1 h2; omega
  | succ g ih =>
    intro o h1 h2 u L p h hs hl hp
    have o1 := ho.1
    have h23 : (chT tx n p = 33 ∨ chT tx n p = 40) → OX tx n t (f_X2_readsFactor_L23 (f_X2_readsFactor g) (nI o) u) u L (if o < 4 then (if chT tx n p = 40 then pClo tx n (pEi tx n (pFa tx n g (o + 1)) (p + 1)) else pNot (pFa tx n g (o + 1) (p + 1))) else (false, p, [])) := by
      intro c1
      have l1 := ch_lt (tx := tx) (n := n) (p := p) (by omega)
      unfold f_X2_readsFactor_L23
      by_cases c2 : o < 4
      · have hr : ∀ p, p ≤ n → okR n p (2 * (4 - (o + 1)) + 1) (pFa tx n g (o + 1) p) := fun p hp => okFa g (o + 1) p (by omega) (by omega) hp
        have hF : ∀ (u : zM) (L : List Int32) (p : Nat), RX tx n t u p → ST t u L → L.length ≤ p → p ≤ n → OX tx n t (f_X2_readsFactor g (nI (o + 1)) u) u L (pFa tx n g (o + 1) p) := fun u L p a b c d => ih (o + 1) (by omega) (by omega) u L p a b c d
        rw [if_pos c2, if_pos (show nI o < (4 : Int32) from nI_lt (b := 4) c2 (by decide)), takesX (c := 40) (C := 40) rfl (by decide) h ho hp, nI_a1]
        by_cases c3 : chT tx n p = 40
        · rw [if_pos c3, if_pos c3, zb_s, if_neg (by decide)]
          obtain ⟨u2, e2, R2, S2, F2⟩ := eiX ht hq ho hr hF _ L (p + 1) (RX_s h) (ST_fr ht hs (fr1 u (p + 1))) (by omega) (by omega)
          obtain ⟨r1, r2, r3⟩ := okEi hr (p + 1) (by omega)
          rw [e2, zb_s]
          unfold pClo
          by_cases c4 : (pEi tx n (pFa tx n g (o + 1)) (p + 1)).1 = true
          · rw [if_pos c4, c4, if_neg (by decide), takesX (c := 41) (C := 41) rfl (by decide) R2 ho r2]
            by_cases c5 : chT tx n (pEi tx n (pFa tx n g (o + 1)) (p + 1)).2.1 = 41
            · rw [if_pos c5, if_pos c5]
              exact ⟨_, rfl, RX_s R2, fun _ => ST_fr ht (S2 c4) (fr1 _ _), frP_tr (PX_1 (fr1 u _)) (frP_tr F2 (PX_1 (fr1 _ _)))⟩
            · rw [if_neg c5, if_neg c5]
              exact ⟨u2, rfl, R2, fun q => nope q rfl, frP_tr (PX_1 (fr1 u _)) F2⟩
          · have c4f : (pEi tx n (pFa tx n g (o + 1)) (p + 1)).1 = false := by simpa using c4
            rw [if_neg c4, c4f, if_pos (by decide)]
            exact ⟨u2, rfl, R2, fun q => nope q rfl, frP_tr (PX_1 (fr1 u _)) F2⟩
        · have c33 : chT tx n p = 33 := by omega
          rw [if_neg c3, if_neg c3, zb_s, if_pos rfl, takesX (c := 33) (C := 33) rfl (by decide) h ho hp, if_pos c33, zb_s, if_neg (by decide)]
          obtain ⟨u2, e2, R2, S2, F2⟩ := hF _ L (p + 1) (RX_s h) (ST_fr ht hs (fr1 u (p + 1))) (by omega) (by omega)
          obtain ⟨r1, r2, r3⟩ := hr (p + 1) (by omega)
          rw [e2, zb_s]
          unfold pNot
          by_cases c4 : (pFa tx n g (o + 1) (p + 1)).1 = true
          · obtain ⟨r4, r5⟩ := r3 c4
            rw [if_pos c4, c4, if_neg (by decide), R2.2.2.1, zmo_s, hq, zck_t]
            obtain ⟨u3, e3, S3, F3⟩ := stepAX (-1 : Int32) (S2 c4) (by rw [List.length_append, List.length_map]; omega)
            rw [e3]
            refine ⟨u3, rfl, RX_fr ht R2 F3, fun _ => ?_, frP_tr (PX_1 (fr1 u _)) (frP_tr F2 (PX_S F3))⟩
            show ST t u3 (L ++ ((pFa tx n g (o + 1) (p + 1)).2.2 ++ [(1, 0, 0, 0)]).map tkX)
            rw [List.map_append, ← List.append_assoc]
            exact S3
          · have c4f : (pFa tx n g (o + 1) (p + 1)).1 = false := by simpa using c4
            rw [if_neg c4, c4f, if_pos (by decide)]
            exact ⟨u2, rfl, R2, fun q => nope q rfl, frP_tr (PX_1 (fr1 u _)) F2⟩
      · rw [if_neg c2, if_neg (show ¬ nI o < (4 : Int32) from nI_nlt (b := 4) (by omega) (by omega))]
        exact ⟨u, rfl, h, fun q => nope q rfl, frP_rf _ _⟩
    show OX tx n t (f_X2_readsFactor_b _ _ _) _ _ _
    unfold f_X2_readsFactor_b pFa
    rw [seesX (c := 33) (C := 33) rfl (by decide) h ho hp, zb_s]
    by_cases c1 : chT tx n p = 33
    · rw [if_pos c1, if_neg (by decide), if_pos (Or.inl c1)]
      exact h23 (Or.inl c1)
    · rw [if_neg c1, if_pos rfl, seesX (c := 40) (C := 40) rfl (by decide) h ho hp, zb_s]
      by_cases c2 : chT tx n p = 40
      · rw [if_pos c2, if_neg (by decide), if_pos (Or.inr c2)]
        exact h23 (Or.inr c2)
      · rw [if_neg c2, if_pos rfl, if_neg (by omega)]
        obtain ⟨u2, e2, R2, S2, F2⟩ := testX ht hq h ho hp hs hl
        rw [e2, zb_s]
        refine ⟨u2, ?_, R2, S2, F2⟩
        cases (pTe tx n p).1 <;> rfl
