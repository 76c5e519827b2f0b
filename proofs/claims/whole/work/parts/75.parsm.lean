/-! ===== PURE: the reference reads: signs, words, numbers, its two piles ===== -/
def RH (tx : Nat → Nat) (n : Nat) (w : zM) (p : Nat) : Prop := gI w 0 14 = nI n ∧ gI w 0 15 = nI p ∧ ∀ i, i < n → gI w 8 i = nI (tx i)
def P15 (a k : Nat) : Prop := a = 0 ∧ (k = 15 ∨ k = 16)
def chI (c : Nat) : Int32 := if c = 200 then -1 else nI c
theorem ch_cs {tx : Nat → Nat} {n : Nat} (ho : TxOk tx n) (p : Nat) : chT tx n p < 128 ∨ chT tx n p = 200 := by
  unfold chT
  by_cases l : p < n
  · rw [if_pos l]
    exact Or.inl (ho.2 p l)
  · rw [if_neg l]
    exact Or.inr rfl
theorem chI_n {c : Nat} (h : c < 128) : chI c = nI c := if_neg (by omega)
theorem chI_e {c d : Nat} {D : Int32} (hD : D = nI d) (hd : d < 128) (hc : c < 128 ∨ c = 200) : (chI c = D) = (c = d) := by
  rw [hD]
  rcases hc with hc | rfl
  · rw [chI_n hc]
    exact propext (nI_eq (by omega) (by omega))
  · refine propext ⟨fun q => ?_, fun q => absurd q (by omega)⟩
    have q := congrArg Int32.toInt q
    rw [nI_toInt (by omega)] at q
    have : (chI 200).toInt = -1 := by decide
    omega
theorem nextM {tx : Nat → Nat} {n p : Nat} {w : zM} (h : RH tx n w p) (ho : TxOk tx n) (hp : p ≤ n) : f_X9_next w = some (chI (chT tx n p), w) := by
  obtain ⟨h1, h2, h4⟩ := h
  obtain ⟨o1, o2⟩ := ho
  unfold f_X9_next
  rw [h1, h2]
  by_cases l : p < n
  · have o3 := o2 p l
    rw [if_neg (nI_ge l (by omega)), inB_n (show p < 100 by omega) (by decide), zck_t, nI_cl (by omega), h4 p l, ch_in l, chI_n o3]
  · rw [if_pos (nI_le (by omega) (by omega)), ch_out l]
    rfl
theorem RH_s {tx : Nat → Nat} {n p p' : Nat} {w : zM} (h : RH tx n w p) : RH tx n (sI w 0 15 (nI p')) p' := ⟨by rw [gI_sI, if_neg (by omega)]; exact h.1, by rw [gI_sI, if_pos ⟨rfl, rfl⟩], fun i hi => by rw [gI_sI, if_neg (by omega)]; exact h.2.2 i hi⟩
theorem RH_16 {tx : Nat → Nat} {n p : Nat} {w : zM} {x : Int32} (h : RH tx n w p) : RH tx n (sI w 0 16 x) p := ⟨by rw [gI_sI, if_neg (by omega)]; exact h.1, by rw [gI_sI, if_neg (by omega)]; exact h.2.1, fun i hi => by rw [gI_sI, if_neg (by omega)]; exact h.2.2 i hi⟩
theorem fr15 (w : zM) (p : Nat) : frP P15 w (sI w 0 15 (nI p)) := frP_s (frP_rf P15 w) ⟨rfl, Or.inl rfl⟩
theorem takesM {tx : Nat → Nat} {n p c : Nat} {w : zM} {C : Int32} (hC : C = nI c) (hc : c < 128) (h : RH tx n w p) (ho : TxOk tx n) (hp : p ≤ n) : f_X9_takes C w = if chT tx n p = c then some ((1 : Int32), sI w 0 15 (nI (p + 1))) else some ((0 : Int32), w) := by
  unfold f_X9_takes
  rw [nextM h ho hp, zb_s]
  by_cases e : chT tx n p = c
  · rw [if_pos ((chI_e hC hc (ch_cs ho p)).mpr e), if_pos e, zlet_s, h.2.1, nI_a1]
  · rw [if_neg (fun q => e ((chI_e hC hc (ch_cs ho p)).mp q)), if_neg e]
theorem digM {tx : Nat → Nat} {n p : Nat} {w : zM} (h : RH tx n w p) (ho : TxOk tx n) (hp : p ≤ n) : f_X9_isDigit w = some ((if 48 ≤ chT tx n p ∧ chT tx n p ≤ 57 then (1 : Int32) else 0), w) := by
  unfold f_X9_isDigit
  rw [nextM h ho hp, zb_s]
  unfold f_X9_in
  rcases ch_cs ho p with hc | hc
  · rw [chI_n hc]
    by_cases e1 : 48 ≤ chT tx n p
    · rw [if_neg (show ¬ nI (chT tx n p) < (48 : Int32) from nI_nlt (b := 48) e1 (by omega))]
      by_cases e2 : chT tx n p ≤ 57
      · rw [if_neg (show ¬ (57 : Int32) < nI (chT tx n p) from nI_nlt (a := 57) e2 (by decide)), if_pos ⟨e1, e2⟩]
        rfl
      · rw [if_pos (show (57 : Int32) < nI (chT tx n p) from nI_lt (a := 57) (by omega) (by omega)), if_neg (by omega)]
        rfl
    · rw [if_pos (show nI (chT tx n p) < (48 : Int32) from nI_lt (b := 48) (by omega) (by decide)), if_neg (by omega)]
      rfl
  · rw [hc]
    rfl
theorem num_m {v c : Nat} (hv : v < 10) (hc : 48 ≤ c ∧ c ≤ 57) : (((10 : Int32) * nI v) + nI c) - (48 : Int32) = nI (10 * v + (c - 48)) := by
  rw [q10, q48]
  simp (disch := omega) only [↓zb_s, ↓zck_t, ↓zlet_s, ↓zlx_s, ↓zly_s, ↓zmo_n, ↓zmo_s, ↓reduceIte, nle_t, nle_f, nlt_t, nlt_f, neq_t, neq_f, mlt_t, mle_t, mlt_f, mle_f, meq_f, meq_f2, mmeq_t, mmeq_f, inB_n, nI_cl, nI_add, pk_mul, pk_sub, pk_div, zrem_n, q0, q1, q2, q3, q4, q5, q6, q7, q8, q9, q10, q12, q20, q24, q40, q50, q60, q61, q80, q99, q100, q9999]
theorem numMS {tx : Nat → Nat} {n p i v fn : Nat} {w : zM} (h : RH tx n w p) (ho : TxOk tx n) (hp : p ≤ n) (hi : i < 2) (hv : v < 10) (hx : gI w 0 16 = nI v) : f_X9_takesNumber_L16 (fn + 1) (nI i) w = if 48 ≤ chT tx n p ∧ chT tx n p ≤ 57 then f_X9_takesNumber_L16 fn (nI (i + 1)) (sI (sI w 0 16 (nI (10 * v + (chT tx n p - 48)))) 0 15 (nI (p + 1))) else some ((1 : Int32), w) := by
  show f_X9_takesNumber_L16_b _ _ _ = _
  unfold f_X9_takesNumber_L16_b
  rw [if_neg (show ¬ (2 : Int32) ≤ nI i from nI_ge (b := 2) hi (by decide)), digM h ho hp, zb_s]
  by_cases e1 : 48 ≤ chT tx n p ∧ chT tx n p ≤ 57
  · rw [if_pos e1, if_neg (by decide), if_pos e1, nextM h ho hp, zb_s, chI_n (by omega), hx, num_m hv e1, zlet_s, gI_sI, if_neg (by omega), h.2.1, zlet_s, nI_a1, nI_a1]
  · rw [if_neg e1, if_pos rfl, if_neg e1]
theorem numM {tx : Nat → Nat} {n p : Nat} {w : zM} (h : RH tx n w p) (ho : TxOk tx n) (hp : p ≤ n) : ∃ w', f_X9_takesNumber w = some (nI (b2n (nuT tx n p).1), w') ∧ RH tx n w' (nuT tx n p).2.1 ∧ ((nuT tx n p).1 = true → gI w' 0 16 = nI (nuT tx n p).2.2) ∧ frP P15 w w' := by
  unfold f_X9_takesNumber
  rw [digM h ho hp, zb_s]
  by_cases e1 : 48 ≤ chT tx n p ∧ chT tx n p ≤ 57
  · have l1 := ch_lt (tx := tx) (n := n) (p := p) (by omega)
    have h0 : RH tx n (sI w 0 16 (nI 0)) p := RH_16 h
    rw [if_pos e1, if_neg (by decide), zlet_s, q0, show f_X9_takesNumber_L16 400 (nI 0) (sI w 0 16 (nI 0)) = _ from numMS (fn := 399) (i := 0) (v := 0) h0 ho hp (by decide) (by decide) (by rw [gI_sI, if_pos ⟨rfl, rfl⟩]), if_pos e1]
    have h1 : RH tx n (sI (sI (sI w 0 16 (nI 0)) 0 16 (nI (10 * 0 + (chT tx n p - 48)))) 0 15 (nI (p + 1))) (p + 1) := RH_s (RH_16 h0)
    have f1 : frP P15 w (sI (sI (sI w 0 16 (nI 0)) 0 16 (nI (10 * 0 + (chT tx n p - 48)))) 0 15 (nI (p + 1))) := frP_s (frP_s (frP_s (frP_rf _ w) ⟨rfl, Or.inr rfl⟩) ⟨rfl, Or.inr rfl⟩) ⟨rfl, Or.inl rfl⟩
    have g1 : gI (sI (sI (sI w 0 16 (nI 0)) 0 16 (nI (10 * 0 + (chT tx n p - 48)))) 0 15 (nI (p + 1))) 0 16 = nI (10 * 0 + (chT tx n p - 48)) := by
      rw [gI_sI, if_neg (by omega), gI_sI, if_pos ⟨rfl, rfl⟩]
    rw [show f_X9_takesNumber_L16 399 (nI (0 + 1)) (sI (sI (sI w 0 16 (nI 0)) 0 16 (nI (10 * 0 + (chT tx n p - 48)))) 0 15 (nI (p + 1))) = _ from numMS (fn := 398) (i := 1) (v := 10 * 0 + (chT tx n p - 48)) h1 ho (by omega) (by decide) (by omega) g1]
    by_cases e2 : 48 ≤ chT tx n (p + 1) ∧ chT tx n (p + 1) ≤ 57
    · rw [if_pos e2, nuT_t e1 e2]
      refine ⟨_, rfl, RH_s (RH_16 h1), fun _ => ?_, frP_s (frP_s f1 ⟨rfl, Or.inr rfl⟩) ⟨rfl, Or.inl rfl⟩⟩
      rw [gI_sI, if_neg (by omega), gI_sI, if_pos ⟨rfl, rfl⟩, Nat.mul_zero, Nat.zero_add]
    · rw [if_neg e2, nuT_1 e1 e2]
      refine ⟨_, rfl, h1, fun _ => ?_, f1⟩
      rw [g1, Nat.mul_zero, Nat.zero_add]
  · rw [if_neg e1, if_pos rfl, nuT_f e1]
    exact ⟨w, rfl, h, fun q => nope q rfl, frP_rf _ _⟩
/-- the waiting signs, the top first -/
def WT (w : zM) : List Nat → Prop
  | [] => True
  | c :: W => gI w 15 W.length = nI c ∧ c < 200 ∧ WT w W
theorem WT_cg {w w' : zM} : ∀ (W : List Nat), (∀ k, k < W.length → gI w' 15 k = gI w 15 k) → WT w W → WT w' W := by
  intro W
  induction W with
  | nil => exact fun _ _ => trivial
  | cons c W ih =>
    intro g h
    have g' : ∀ k, k < W.length + 1 → gI w' 15 k = gI w 15 k := g
    exact ⟨(g' _ (by omega)).trans h.1, h.2.1, ih (fun k hk => g' k (by omega)) h.2.2⟩
def RM (tx : Nat → Nat) (n : Nat) (w : zM) (p : Nat) (W : List Nat) (o b : Nat) (M : List Int32) : Prop := RH tx n w p ∧ gI w 0 26 = nI W.length ∧ gI w 0 27 = nI o ∧ WT w W ∧ gI w 0 25 = nI (b + M.length) ∧ AI w 14 M b
def PM (b c a k : Nat) : Prop := (a = 0 ∧ (k = 15 ∨ k = 16 ∨ k = 25 ∨ k = 26 ∨ k = 27)) ∨ (a = 13 ∧ k = c) ∨ (a = 14 ∧ b ≤ k) ∨ a = 15
theorem PM_15 {b c : Nat} {w w' : zM} (h : frP P15 w w') : frP (PM b c) w w' := frP_mono h (fun a k q => by unfold P15 at q; unfold PM; omega)
theorem RM_15 {tx : Nat → Nat} {n p p' o b : Nat} {W : List Nat} {M : List Int32} {w w' : zM} (h : RM tx n w p W o b M) (g : frP P15 w w') (hr : RH tx n w' p') : RM tx n w' p' W o b M := ⟨hr, (g.1 0 26 (by unfold P15; omega)).trans h.2.1, (g.1 0 27 (by unfold P15; omega)).trans h.2.2.1, WT_cg W (fun k _ => g.1 15 k (by unfold P15; omega)) h.2.2.2.1, (g.1 0 25 (by unfold P15; omega)).trans h.2.2.2.2.1, AI_cg M b (fun k _ => g.1 14 k (by unfold P15; omega)) h.2.2.2.2.2⟩
theorem RM_p {tx : Nat → Nat} {n p p' o b : Nat} {W : List Nat} {M : List Int32} {w : zM} (h : RM tx n w p W o b M) : RM tx n (sI w 0 15 (nI p')) p' W o b M := RM_15 h (fr15 w p') (RH_s h.1)
theorem RM_13 {tx : Nat → Nat} {n p o b j : Nat} {W : List Nat} {M : List Int32} {w : zM} {x : Int32} (h : RM tx n w p W o b M) : RM tx n (sI w 13 j x) p W o b M := by
  obtain ⟨⟨a1, a2, a3⟩, h2, h3, h4, h5, h6⟩ := h
  refine ⟨⟨?_, ?_, fun i hi => ?_⟩, ?_, ?_, WT_cg W (fun k _ => ?_) h4, ?_, AI_cg M b (fun k _ => ?_) h6⟩
  · rw [gI_sI, if_neg (by omega)]; exact a1
  · rw [gI_sI, if_neg (by omega)]; exact a2
  · rw [gI_sI, if_neg (by omega)]; exact a3 i hi
  · rw [gI_sI, if_neg (by omega)]; exact h2
  · rw [gI_sI, if_neg (by omega)]; exact h3
  · rw [gI_sI, if_neg (by omega)]
  · rw [gI_sI, if_neg (by omega)]; exact h5
  · rw [gI_sI, if_neg (by omega)]
theorem RM_27 {tx : Nat → Nat} {n p o o' b : Nat} {W : List Nat} {M : List Int32} {w : zM} (h : RM tx n w p W o b M) : RM tx n (sI w 0 27 (nI o')) p W o' b M := by
  obtain ⟨⟨a1, a2, a3⟩, h2, h3, h4, h5, h6⟩ := h
  refine ⟨⟨?_, ?_, fun i hi => ?_⟩, ?_, ?_, WT_cg W (fun k _ => ?_) h4, ?_, AI_cg M b (fun k _ => ?_) h6⟩
  · rw [gI_sI, if_neg (by omega)]; exact a1
  · rw [gI_sI, if_neg (by omega)]; exact a2
  · rw [gI_sI, if_neg (by omega)]; exact a3 i hi
  · rw [gI_sI, if_neg (by omega)]; exact h2
  · rw [gI_sI, if_pos ⟨rfl, rfl⟩]
  · rw [gI_sI, if_neg (by omega)]
  · rw [gI_sI, if_neg (by omega)]; exact h5
  · rw [gI_sI, if_neg (by omega)]
theorem RM_pop {tx : Nat → Nat} {n p o b c : Nat} {W : List Nat} {M : List Int32} {w : zM} (h : RM tx n w p (c :: W) o b M) : RM tx n (sI w 0 26 (nI W.length)) p W o b M := by
  obtain ⟨⟨a1, a2, a3⟩, h2, h3, h4, h5, h6⟩ := h
  refine ⟨⟨?_, ?_, fun i hi => ?_⟩, ?_, ?_, WT_cg W (fun k _ => ?_) h4.2.2, ?_, AI_cg M b (fun k _ => ?_) h6⟩
  · rw [gI_sI, if_neg (by omega)]; exact a1
  · rw [gI_sI, if_neg (by omega)]; exact a2
  · rw [gI_sI, if_neg (by omega)]; exact a3 i hi
  · rw [gI_sI, if_pos ⟨rfl, rfl⟩]
  · rw [gI_sI, if_neg (by omega)]; exact h3
  · rw [gI_sI, if_neg (by omega)]
  · rw [gI_sI, if_neg (by omega)]; exact h5
  · rw [gI_sI, if_neg (by omega)]
theorem RM_push {tx : Nat → Nat} {n p o b c : Nat} {W : List Nat} {M : List Int32} {w : zM} (hc : c < 200) (h : RM tx n w p W o b M) : RM tx n (sI (sI w 15 W.length (nI c)) 0 26 (nI (W.length + 1))) p (c :: W) o b M := by
  obtain ⟨⟨a1, a2, a3⟩, h2, h3, h4, h5, h6⟩ := h
  refine ⟨⟨?_, ?_, fun i hi => ?_⟩, ?_, ?_, ⟨?_, hc, WT_cg W (fun k hk => ?_) h4⟩, ?_, AI_cg M b (fun k _ => ?_) h6⟩
  · rw [gI_sI, if_neg (by omega), gI_sI, if_neg (by omega)]; exact a1
  · rw [gI_sI, if_neg (by omega), gI_sI, if_neg (by omega)]; exact a2
  · rw [gI_sI, if_neg (by omega), gI_sI, if_neg (by omega)]; exact a3 i hi
  · rw [gI_sI, if_pos ⟨rfl, rfl⟩]; rfl
  · rw [gI_sI, if_neg (by omega), gI_sI, if_neg (by omega)]; exact h3
  · rw [gI_sI, if_neg (by omega), gI_sI, if_pos ⟨rfl, rfl⟩]
  · rw [gI_sI, if_neg (by omega), gI_sI, if_neg (by omega)]
  · rw [gI_sI, if_neg (by omega), gI_sI, if_neg (by omega)]; exact h5
  · rw [gI_sI, if_neg (by omega), gI_sI, if_neg (by omega)]
theorem emM {tx : Nat → Nat} {n p o b c : Nat} {W : List Nat} {M : List Int32} {w : zM} (x : Int32) (h : RM tx n w p W o b M) (hb : b + M.length < 600) : ∃ w', f_X9_emits x w = some ((), w') ∧ RM tx n w' p W o b (M ++ [x]) ∧ frP (PM b c) w w' := by
  obtain ⟨⟨a1, a2, a3⟩, h2, h3, h4, h5, h6⟩ := h
  refine ⟨sI (sI w 14 (b + M.length) x) 0 25 (nI (b + M.length + 1)), ?_, ⟨⟨?_, ?_, fun i hi => ?_⟩, ?_, ?_, WT_cg W (fun k hk => ?_) h4, ?_, AI_app M [x] b (AI_cg M b (fun k hk => ?_) h6) ⟨?_, trivial⟩⟩, frP_s (frP_s (frP_rf _ w) (Or.inr (Or.inr (Or.inl ⟨rfl, Nat.le_add_right _ _⟩)))) (Or.inl ⟨rfl, Or.inr (Or.inr (Or.inl rfl))⟩)⟩
  · unfold f_X9_emits
    rw [h5, inB_n hb (by decide), zck_t, nI_cl (by omega), zlet_s, gI_sI, if_neg (by omega), h5, zlet_s, nI_a1]
  · rw [gI_sI, if_neg (by omega), gI_sI, if_neg (by omega)]; exact a1
  · rw [gI_sI, if_neg (by omega), gI_sI, if_neg (by omega)]; exact a2
  · rw [gI_sI, if_neg (by omega), gI_sI, if_neg (by omega)]; exact a3 i hi
  · rw [gI_sI, if_neg (by omega), gI_sI, if_neg (by omega)]; exact h2
  · rw [gI_sI, if_neg (by omega), gI_sI, if_neg (by omega)]; exact h3
  · rw [gI_sI, if_neg (by omega), gI_sI, if_neg (by omega)]
  · rw [gI_sI, if_pos ⟨rfl, rfl⟩, List.length_append]
    rfl
  · rw [gI_sI, if_neg (by omega), gI_sI, if_neg (by omega)]
  · rw [gI_sI, if_neg (by omega), gI_sI, if_pos ⟨rfl, rfl⟩]
def cntN : List Nat → Nat
  | [] => 0
  | c :: W => if c = 33 then cntN W + 1 else 0
def dropN : List Nat → List Nat
  | [] => []
  | c :: W => if c = 33 then dropN W else c :: W
def stD (s : Nat) : List Nat → List Nat
  | [] => []
  | c :: W => if c = 38 ∨ (c = 124 ∧ s ≠ 38) then stD s W else c :: W
def ngC (c : Nat) : Int32 := -nI c
def stE (s : Nat) : List Nat → List Int32
  | [] => []
  | c :: W => if c = 38 ∨ (c = 124 ∧ s ≠ 38) then ngC c :: stE s W else []
theorem cntN_le : ∀ W : List Nat, cntN W ≤ W.length := by
  intro W
  induction W with
  | nil => exact Nat.le_refl _
  | cons c W ih =>
    unfold cntN
    show _ ≤ W.length + 1
    split <;> omega
theorem frp26 (b c : Nat) (w : zM) (x : Int32) : frP (PM b c) w (sI w 0 26 x) := frP_s (frP_rf _ w) (Or.inl ⟨rfl, by omega⟩)
theorem frp27 (b c : Nat) (w : zM) (x : Int32) : frP (PM b c) w (sI w 0 27 x) := frP_s (frP_rf _ w) (Or.inl ⟨rfl, by omega⟩)
theorem wholeM {tx : Nat → Nat} {n p b c : Nat} : ∀ (W : List Nat) (fn o : Nat) (M : List Int32) (w : zM), RM tx n w p W o b M → cntN W ≤ o → W.length < fn → b + M.length + W.length ≤ 600 → W.length ≤ 101 → o ≤ 1000 → ∃ w', f_X9_whole_L0 fn w = some ((), w') ∧ RM tx n w' p (dropN W) (o - cntN W) b (M ++ List.replicate (cntN W) (ngC 33)) ∧ frP (PM b c) w w' := by
  intro W
  induction W with
  | nil =>
    intro fn o M w h ho hf hb hl ho2
    obtain ⟨fn, rfl⟩ : ∃ g, fn = g + 1 := ⟨fn - 1, by omega⟩
    refine ⟨w, ?_, ?_, frP_rf _ _⟩
    · show f_X9_whole_L0_b _ _ = _
      unfold f_X9_whole_L0_b
      rw [h.2.1, if_pos (show nI (List.length ([] : List Nat)) ≤ (0 : Int32) from nI_le (b := 0) (Nat.le_refl _) (by decide))]
    · show RM tx n w p [] (o - 0) b (M ++ [])
      rw [List.append_nil]
      exact h
  | cons d W ih =>
    intro fn o M w h ho hf hb hl ho2
    obtain ⟨fn, rfl⟩ : ∃ g, fn = g + 1 := ⟨fn - 1, by omega⟩
    have hf : W.length + 1 < fn + 1 := hf
    have hb : b + M.length + (W.length + 1) ≤ 600 := hb
    have hl : W.length + 1 ≤ 101 := hl
    have h26 : gI w 0 26 = nI (W.length + 1) := h.2.1
    show ∃ w', f_X9_whole_L0_b _ _ = _ ∧ _
    unfold f_X9_whole_L0_b
    rw [h26, if_neg (show ¬ nI (W.length + 1) ≤ (0 : Int32) from nI_ge (a := 0) (by omega) (by omega)), nI_m1 (by omega), Nat.add_sub_cancel, inB_n (show W.length < 101 by omega) (by decide), zck_t, nI_cl (by omega), h.2.2.2.1.1]
    unfold cntN at ho
    unfold dropN cntN
    by_cases e : d = 33
    · rw [if_pos e] at ho
      rw [if_pos e, if_pos e, if_pos (show nI d = (33 : Int32) by rw [e]; rfl)]
      obtain ⟨w1, e1, R1, F1⟩ := emM (c := c) (-33 : Int32) h (by omega)
      rw [e1, zb_s, zlet_s, R1.2.1, show nI (List.length (d :: W)) - (1 : Int32) = nI W.length from nI_m1 (a := W.length + 1) (by omega), gI_sI, if_neg (by omega), R1.2.2.1, nI_m1 (by omega), zlet_s]
      have R2 := RM_27 (o' := o - 1) (RM_pop R1)
      obtain ⟨w3, e3, R3, F3⟩ := ih fn (o - 1) (M ++ [(-33 : Int32)]) _ R2 (by omega) (by omega) (by rw [List.length_append]; show b + (M.length + 1) + W.length ≤ 600; omega) (by omega) (by omega)
      refine ⟨w3, e3, ?_, frP_tr F1 (frP_tr (frp26 b c w1 _) (frP_tr (frp27 b c _ _) F3))⟩
      rw [List.append_assoc] at R3
      rw [show o - (cntN W + 1) = o - 1 - cntN W by omega, List.replicate_succ]
      exact R3
    · rw [if_neg e, if_neg e, if_neg (show ¬ nI d = (33 : Int32) from fun q => e ((nI_eq (b := 33) (by have := h.2.2.2.1.2.1; omega) (by decide)).mp q))]
      refine ⟨w, rfl, ?_, frP_rf _ _⟩
      show RM tx n w p (d :: W) (o - 0) b (M ++ [])
      rw [List.append_nil]
      exact h
theorem settM {tx : Nat → Nat} {n p b c s : Nat} (hs : s = 38 ∨ s = 124) : ∀ (W : List Nat) (fn o : Nat) (M : List Int32) (w : zM), RM tx n w p W o b M → W.length < fn → b + M.length + W.length ≤ 600 → W.length ≤ 101 → ∃ w', f_X9_settle_L0 (nI s) fn w = some ((), w') ∧ RM tx n w' p (stD s W) o b (M ++ stE s W) ∧ frP (PM b c) w w' := by
  intro W
  induction W with
  | nil =>
    intro fn o M w h hf hb hl
    obtain ⟨fn, rfl⟩ : ∃ g, fn = g + 1 := ⟨fn - 1, by omega⟩
    refine ⟨w, ?_, ?_, frP_rf _ _⟩
    · show f_X9_settle_L0_b _ _ _ = _
      unfold f_X9_settle_L0_b
      rw [h.2.1, if_pos (show nI (List.length ([] : List Nat)) ≤ (0 : Int32) from nI_le (b := 0) (Nat.le_refl _) (by decide))]
    · show RM tx n w p [] o b (M ++ [])
      rw [List.append_nil]
      exact h
  | cons d W ih =>
    intro fn o M w h hf hb hl
    obtain ⟨fn, rfl⟩ : ∃ g, fn = g + 1 := ⟨fn - 1, by omega⟩
    have hf : W.length + 1 < fn + 1 := hf
    have hb : b + M.length + (W.length + 1) ≤ 600 := hb
    have hl : W.length + 1 ≤ 101 := hl
    have h26 : gI w 0 26 = nI (W.length + 1) := h.2.1
    have hd := h.2.2.2.1.2.1
    have h45 : (d = 38 ∨ (d = 124 ∧ s ≠ 38)) → ∃ w', f_X9_settle_L45 (nI s) (f_X9_settle_L0 (nI s) fn) w = some ((), w') ∧ RM tx n w' p (stD s (d :: W)) o b (M ++ stE s (d :: W)) ∧ frP (PM b c) w w' := by
      intro hc
      unfold f_X9_settle_L45 stD stE
      rw [if_pos hc, if_pos hc, zlet_s, h26, nI_m1 (by omega), Nat.add_sub_cancel, gI_sI, if_pos ⟨rfl, rfl⟩, inB_n (show W.length < 101 by omega) (by decide), zck_t, nI_cl (by omega), gI_sI, if_neg (by omega), h.2.2.2.1.1]
      obtain ⟨w1, e1, R1, F1⟩ := emM (c := c) (-nI d) (RM_pop h) (by omega)
      rw [e1, zb_s]
      obtain ⟨w3, e3, R3, F3⟩ := ih fn o (M ++ [-nI d]) _ R1 (by omega) (by rw [List.length_append]; show b + (M.length + 1) + W.length ≤ 600; omega) (by omega)
      refine ⟨w3, e3, ?_, frP_tr (frp26 b c w _) (frP_tr F1 F3)⟩
      rw [List.append_assoc] at R3
      exact R3
    show ∃ w', f_X9_settle_L0_b _ _ _ = _ ∧ _
    unfold f_X9_settle_L0_b
    rw [h26, if_neg (show ¬ nI (W.length + 1) ≤ (0 : Int32) from nI_ge (a := 0) (by omega) (by omega)), nI_m1 (by omega), Nat.add_sub_cancel, inB_n (show W.length < 101 by omega) (by decide), zck_t, zck_t, nI_cl (by omega), h.2.2.2.1.1]
    by_cases e : d = 38
    · rw [if_pos (show nI d = (38 : Int32) by rw [e]; rfl)]
      exact h45 (Or.inl e)
    · rw [if_neg (show ¬ nI d = (38 : Int32) from fun q => e ((nI_eq (b := 38) (by omega) (by decide)).mp q))]
      have stop : ¬ (d = 38 ∨ (d = 124 ∧ s ≠ 38)) → ∃ w', some ((), w) = some ((), w') ∧ RM tx n w' p (stD s (d :: W)) o b (M ++ stE s (d :: W)) ∧ frP (PM b c) w w' := by
        intro hc
        refine ⟨w, rfl, ?_, frP_rf _ _⟩
        unfold stD stE
        rw [if_neg hc, if_neg hc, List.append_nil]
        exact h
      by_cases e2 : d = 124
      · rw [if_pos (show nI d = (124 : Int32) by rw [e2]; rfl)]
        by_cases e3 : s = 38
        · rw [if_pos (show nI s = (38 : Int32) by rw [e3]; rfl)]
          exact stop (by omega)
        · rw [if_neg (show ¬ nI s = (38 : Int32) from fun q => e3 ((nI_eq (b := 38) (by omega) (by decide)).mp q))]
          exact h45 (Or.inr ⟨e2, e3⟩)
      · rw [if_neg (show ¬ nI d = (124 : Int32) from fun q => e2 ((nI_eq (b := 124) (by omega) (by decide)).mp q))]
        exact stop (by omega)
theorem placeM {tx : Nat → Nat} {n : Nat} (ho : TxOk tx n) (p : Nat) (w : zM) : f_X9_place (chI (chT tx n p)) w = some ((if ltT (chT tx n p) = 6 then (-1 : Int32) else nI (ltT (chT tx n p))), w) := by
  rcases ch_cs ho p with hc | hc
  · generalize chT tx n p = c at hc
    rw [chI_n hc]
    by_cases e1 : c = 104
    · rw [e1]; rfl
    · by_cases e2 : c = 107
      · rw [e2]; rfl
      · by_cases e3 : c = 109
        · rw [e3]; rfl
        · by_cases e4 : c = 110
          · rw [e4]; rfl
          · by_cases e5 : c = 112
            · rw [e5]; rfl
            · by_cases e6 : c = 118
              · rw [e6]; rfl
              · have hl : ltT c = 6 := by
                  unfold ltT
                  rw [if_neg e5, if_neg e2, if_neg e6, if_neg e1, if_neg e4, if_neg e3]
                have g : ∀ (d : Nat) (D : Int32), D = nI d → d < 1000 → c ≠ d → (nI c = D) = False := fun d D hD hd hne => eq_false (fun q => hne ((nI_eq (by omega) (by omega)).mp (q.trans hD)))
                unfold f_X9_place
                rw [if_pos hl]
                simp only [g 104 104 rfl (by decide) e1, g 107 107 rfl (by decide) e2, g 109 109 rfl (by decide) e3, g 110 110 rfl (by decide) e4, g 112 112 rfl (by decide) e5, g 118 118 rfl (by decide) e6, ite_self, if_false]
  · rw [hc]
    rfl
theorem testV : ∀ f, f < 6 → ∀ s, s < 3 → ∀ v, v < 100 → (((1000 : Int32) * nI f) + ((100 : Int32) * (nI (s + 60) - (60 : Int32)))) + nI v = nI (1000 * f + 100 * s + v) := by decide +kernel
/-- the reference takes a test, and with it what waits to be turned -/
theorem testM {tx : Nat → Nat} {n p o b c : Nat} {W : List Nat} {M : List Int32} {w : zM} (ho : TxOk tx n) (h : RM tx n w p W o b M) (hp : p ≤ n) (hb : b ≤ 500) (hl : M.length + W.length ≤ p) (hN : cntN W ≤ o) (ho2 : o ≤ 1000) : ((pTe tx n p).1 = true → ∃ w', f_X9_takesTest w = some ((1 : Int32), w') ∧ RM tx n w' (pTe tx n p).2.1 (dropN W) (o - cntN W) b (M ++ ((pTe tx n p).2.2.map tkM ++ List.replicate (cntN W) (ngC 33))) ∧ frP (PM b c) w w') ∧ ((pTe tx n p).1 = false → ∃ w', f_X9_takesTest w = some ((0 : Int32), w') ∧ gI w' 0 15 = nI (pTe tx n p).2.1 ∧ frP (PM b c) w w') := by
  unfold f_X9_takesTest pTe
  rw [nextM h.1 ho hp, zb_s, placeM ho, zb_s]
  by_cases c1 : ltT (chT tx n p) = 6
  · rw [if_pos c1, if_pos c1, if_neg (show ¬ (0 : Int32) ≤ -1 from by decide)]
    exact ⟨fun q => nope q rfl, fun _ => ⟨w, rfl, h.1.2.1, frP_rf _ _⟩⟩
  · obtain ⟨g1, g2⟩ := ltT_lt c1
    have l1 := ch_lt g1
    have o1 := ho.1
    have hr := RM_p (p' := p + 1) h
    rw [if_neg c1, if_neg c1, if_pos (nI_pos' (by omega)), zlet_s, h.1.2.1, nI_a1, nextM hr.1 ho (by omega), zb_s]
    have hin : f_X9_in (chI (chT tx n (p + 1))) (60 : Int32) (62 : Int32) (sI w 0 15 (nI (p + 1))) = some ((if 60 ≤ chT tx n (p + 1) ∧ chT tx n (p + 1) ≤ 62 then (1 : Int32) else 0), sI w 0 15 (nI (p + 1))) := by
      unfold f_X9_in
      rcases ch_cs ho (p + 1) with hc | hc
      · rw [chI_n hc]
        by_cases e1 : 60 ≤ chT tx n (p + 1)
        · rw [if_neg (show ¬ nI (chT tx n (p + 1)) < (60 : Int32) from nI_nlt (b := 60) e1 (by omega))]
          by_cases e2 : chT tx n (p + 1) ≤ 62
          · rw [if_neg (show ¬ (62 : Int32) < nI (chT tx n (p + 1)) from nI_nlt (a := 62) e2 (by decide)), if_pos ⟨e1, e2⟩]
          · rw [if_pos (show (62 : Int32) < nI (chT tx n (p + 1)) from nI_lt (a := 62) (by omega) (by omega)), if_neg (by omega)]
        · rw [if_pos (show nI (chT tx n (p + 1)) < (60 : Int32) from nI_lt (b := 60) (by omega) (by decide)), if_neg (by omega)]
      · rw [hc]
        rfl
    rw [hin, zb_s]
    by_cases c2 : 60 ≤ chT tx n (p + 1) ∧ chT tx n (p + 1) ≤ 62
    · have l2 := ch_lt (tx := tx) (n := n) (p := p + 1) (by omega)
      have hr2 := RM_p (p' := p + 2) hr
      rw [if_pos c2, if_pos c2, if_neg (show ¬ (1 : Int32) = 0 from by decide), zlet_s, hr.1.2.1, nI_a1]
      obtain ⟨w3, e3, R3, V3, F3⟩ := numM hr2.1 ho (by omega)
      rw [e3, zb_s]
      have hF := frP_tr (frP_tr (fr15 w (p + 1)) (fr15 _ (p + 2))) F3
      have hr3 := RM_15 hr2 F3 R3
      obtain ⟨k1, k2, k3⟩ := nuT_ok (tx := tx) (n := n) (p := p + 2) (by omega)
      by_cases c3 : (nuT tx n (p + 2)).1 = true
      · obtain ⟨k4, k5⟩ := k3 c3
        rw [if_pos c3, c3, if_neg (show ¬ nI (b2n true) = (0 : Int32) from by decide), V3 c3]
        have hv := testV _ g2 (chT tx n (p + 1) - 60) (by omega) _ k5
        rw [show chT tx n (p + 1) - 60 + 60 = chT tx n (p + 1) by omega] at hv
        rw [chI_n (show chT tx n (p + 1) < 128 by omega), hv]
        have hcw := cntN_le W
        obtain ⟨w4, e4, R4, F4⟩ := emM (c := c) (nI (1000 * ltT (chT tx n p) + 100 * (chT tx n (p + 1) - 60) + (nuT tx n (p + 2)).2.2)) hr3 (by omega)
        rw [e4, zb_s]
        obtain ⟨w5, e5, R5, F5⟩ := wholeM (c := c) W 400 o _ w4 R4 hN (by omega) (by rw [List.length_append]; show b + (M.length + 1) + W.length ≤ 600; omega) (by omega) ho2
        have e5' : f_X9_whole w4 = some ((), w5) := e5
        rw [e5', zb_s]
        refine ⟨fun _ => ⟨w5, rfl, ?_, frP_tr (PM_15 hF) (frP_tr F4 F5)⟩, fun q => nope q rfl⟩
        rw [List.append_assoc] at R5
        exact R5
      · have c3f : (nuT tx n (p + 2)).1 = false := by simpa using c3
        rw [nuT_fp c3] at R3
        rw [if_neg c3, c3f, if_pos (show nI (b2n false) = (0 : Int32) from by decide)]
        exact ⟨fun q => nope q rfl, fun _ => ⟨w3, rfl, R3.2.1, PM_15 hF⟩⟩
    · rw [if_neg c2, if_neg c2, if_pos (show (0 : Int32) = 0 from rfl)]
      exact ⟨fun q => nope q rfl, fun _ => ⟨_, rfl, hr.1.2.1, PM_15 (fr15 w _)⟩⟩
