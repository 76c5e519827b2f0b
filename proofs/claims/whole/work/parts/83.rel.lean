/-! ===== PURE: the whole relation, and every call keeps it ===== -/
def ImgR (k : Nat) (uX w : zM) : Prop := (gI uX 0 2 = nI 0 ∧ gI w 0 48 = nI 0) ∨ (gI uX 0 2 = nI 1 ∧ gI w 0 48 = nI 1 ∧ ∃ (T S1 S2 S3 : zT) (z1 z2 z3 : Nat), BunX 25 uX T S1 z1 S2 z2 S3 z3 ∧ BunI w T S1 z1 S2 z2 S3 z3 ∧ BunO k T S1 z1 S2 z2 S3 z3)
def ShR (N M : Nat) (uX w : zM) : Prop := ∃ (S1 S2 S3 : zT) (z1 z2 z3 : Nat), (SeeX 13 uX S1 z1 ∧ PlX 17 uX S2 z2 ∧ BkX 21 uX S3 z3) ∧ (SeeM 38 23 24 25 w S1 z1 ∧ PlM 42 26 27 w S2 z2 ∧ BkM 43 28 29 w S3 z3) ∧ SeeOk N S1 z1 ∧ PlOk N M S2 z2 ∧ BkOk N S3 z3
def SqR (k : Nat) (sqs : Nat → zQ) (uX w : zM) : Prop := gI uX 0 7 = nI k ∧ gI w 0 12 = nI k ∧ SqB k w sqs ∧ LTM w
def TeR (uX w : zM) : Prop := ∃ (tx : Nat → Nat) (n : Nat), TeX tx n uX ∧ TeM tx n w ∧ TxOk tx n
def RestR (k : Nat) (sqs : Nat → zQ) (uX w : zM) : Prop := SqR k sqs uX w ∧ TeR uX w ∧ ImgR k uX w ∧ RTp uX w ∧ RAct uX w
def Rel (uX w : zM) : Prop := ∃ (k : Nat) (T : zT) (sqs : Nat → zQ), Core k T sqs uX w ∧ ShR (T 0 0) (T 0 1) uX w ∧ RestR k sqs uX w
theorem Sh_cg {N M : Nat} {uX uX' w w' : zM} (g1 : ∀ a i, 13 ≤ a → a ≤ 24 → gI uX' a i = gI uX a i) (g2 : ∀ i, i = 38 ∨ i = 42 ∨ i = 43 → gI w' 0 i = gI w 0 i) (g3 : ∀ a i, 23 ≤ a → a ≤ 29 → gI w' a i = gI w a i) (h : ShR N M uX w) : ShR N M uX' w' := by
  obtain ⟨S1, S2, S3, z1, z2, z3, ⟨x1, x2, x3⟩, ⟨y1, y2, y3⟩, o1, o2, o3⟩ := h
  refine ⟨S1, S2, S3, z1, z2, z3, ⟨⟨(g1 _ _ (by decide) (by decide)).trans x1.1, fun i hi => ?_⟩, ⟨(g1 _ _ (by decide) (by decide)).trans x2.1, fun i hi => ?_⟩, ⟨(g1 _ _ (by decide) (by decide)).trans x3.1, fun i hi => ?_⟩⟩, ⟨⟨(g2 _ (by decide)).trans y1.1, fun i hi => ?_⟩, ⟨(g2 _ (by decide)).trans y2.1, fun i hi => ?_⟩, ⟨(g2 _ (by decide)).trans y3.1, fun i hi => ?_⟩⟩, o1, o2, o3⟩
  · obtain ⟨a, b, c⟩ := x1.2 i hi
    exact ⟨(g1 _ _ (by decide) (by decide)).trans a, (g1 _ _ (by decide) (by decide)).trans b, (g1 _ _ (by decide) (by decide)).trans c⟩
  · obtain ⟨a, b⟩ := x2.2 i hi
    exact ⟨(g1 _ _ (by decide) (by decide)).trans a, fun q => (g1 _ _ (by decide) (by decide)).trans (b q)⟩
  · obtain ⟨a, b⟩ := x3.2 i hi
    exact ⟨(g1 _ _ (by decide) (by decide)).trans a, (g1 _ _ (by decide) (by decide)).trans b⟩
  · obtain ⟨a, b, c⟩ := y1.2 i hi
    exact ⟨(g3 _ _ (by decide) (by decide)).trans a, (g3 _ _ (by decide) (by decide)).trans b, (g3 _ _ (by decide) (by decide)).trans c⟩
  · obtain ⟨a, b⟩ := y2.2 i hi
    exact ⟨(g3 _ _ (by decide) (by decide)).trans a, fun q => (g3 _ _ (by decide) (by decide)).trans (b q)⟩
  · obtain ⟨a, b⟩ := y3.2 i hi
    exact ⟨(g3 _ _ (by decide) (by decide)).trans a, (g3 _ _ (by decide) (by decide)).trans b⟩
theorem Sh_up {N M N' M' : Nat} {uX w : zM} (h : ShR N M uX w) (h1 : N ≤ N') (h2 : M ≤ M') : ShR N' M' uX w := by
  obtain ⟨S1, S2, S3, z1, z2, z3, x, y, o1, o2, o3⟩ := h
  refine ⟨S1, S2, S3, z1, z2, z3, x, y, ⟨o1.1, fun i hi => ⟨Nat.lt_of_lt_of_le (o1.2 i hi).1 h1, (o1.2 i hi).2⟩⟩, ⟨o2.1, fun i hi => ⟨(o2.2 i hi).1, fun q => Nat.lt_of_lt_of_le ((o2.2 i hi).2.1 q) h1, fun q => Nat.lt_of_lt_of_le ((o2.2 i hi).2.2 q) h2⟩⟩, ⟨o3.1, fun i hi => ⟨Nat.lt_of_lt_of_le (o3.2 i hi).1 h1, (o3.2 i hi).2⟩⟩⟩
theorem Sq_cg {k : Nat} {sqs : Nat → zQ} {uX uX' w w' : zM} (g1 : gI uX' 0 7 = gI uX 0 7) (g2 : gI w' 0 12 = gI w 0 12) (g3 : ∀ a i, 9 ≤ a → a ≤ 14 → gI w' a i = gI w a i) (g4 : ∀ i, gI w' 16 i = gI w 16 i) (h : SqR k sqs uX w) : SqR k sqs uX' w' := ⟨g1.trans h.1, g2.trans h.2.1, SqB_cg g3 h.2.2.1, LTM_cg h.2.2.2 g4⟩
theorem Te_cg {uX uX' w w' : zM} (g1 : gI uX' 63 0 = gI uX 63 0) (g2 : ∀ i, gI uX' 64 i = gI uX 64 i) (g3 : gI w' 0 14 = gI w 0 14) (g4 : ∀ i, gI w' 8 i = gI w 8 i) (h : TeR uX w) : TeR uX' w' := by
  obtain ⟨tx, n, hX, hM, ho⟩ := h
  exact ⟨tx, n, ⟨g1.trans hX.1, fun i hi => (g2 i).trans (hX.2 i hi)⟩, ⟨g3.trans hM.1, fun i hi => (g4 i).trans (hM.2 i hi)⟩, ho⟩
theorem Img_cg {k : Nat} {uX uX' w w' : zM} (g1 : gI uX' 0 2 = gI uX 0 2) (g2 : ∀ a i, 26 ≤ a → a ≤ 48 → gI uX' a i = gI uX a i) (g3 : gO uX' 26 12 = gO uX 26 12) (g4 : ∀ i, 48 ≤ i → i ≤ 57 → gI w' 0 i = gI w 0 i) (g5 : ∀ a i, 30 ≤ a → a ≤ 43 → gI w' a i = gI w a i) (h : ImgR k uX w) : ImgR k uX' w' := by
  rcases h with ⟨h1, h2⟩ | ⟨h1, h2, T, S1, S2, S3, z1, z2, z3, ⟨x0, x1, x2, x3⟩, ⟨y0, y1, y2, y3⟩, o⟩
  · exact Or.inl ⟨g1.trans h1, (g4 _ (by decide) (by decide)).trans h2⟩
  · refine Or.inr ⟨g1.trans h1, (g4 _ (by decide) (by decide)).trans h2, T, S1, S2, S3, z1, z2, z3, ⟨VX_cg x0 (fun c i hc => g2 _ _ (by omega) (by omega)) g3, ⟨(g2 _ _ (by decide) (by decide)).trans x1.1, fun i hi => ?_⟩, ⟨(g2 _ _ (by decide) (by decide)).trans x2.1, fun i hi => ?_⟩, ⟨(g2 _ _ (by decide) (by decide)).trans x3.1, fun i hi => ?_⟩⟩, ⟨VM_cg y0 (fun i _ => g4 _ (by omega) (by omega)) (g4 _ (by decide) (by decide)) (fun c i h1 h2 => g5 _ _ (by omega) (by omega)), ⟨(g4 _ (by decide) (by decide)).trans y1.1, fun i hi => ?_⟩, ⟨(g4 _ (by decide) (by decide)).trans y2.1, fun i hi => ?_⟩, ⟨(g4 _ (by decide) (by decide)).trans y3.1, fun i hi => ?_⟩⟩, o⟩
    · obtain ⟨a, b, c⟩ := x1.2 i hi
      exact ⟨(g2 _ _ (by decide) (by decide)).trans a, (g2 _ _ (by decide) (by decide)).trans b, (g2 _ _ (by decide) (by decide)).trans c⟩
    · obtain ⟨a, b⟩ := x2.2 i hi
      exact ⟨(g2 _ _ (by decide) (by decide)).trans a, fun q => (g2 _ _ (by decide) (by decide)).trans (b q)⟩
    · obtain ⟨a, b⟩ := x3.2 i hi
      exact ⟨(g2 _ _ (by decide) (by decide)).trans a, (g2 _ _ (by decide) (by decide)).trans b⟩
    · obtain ⟨a, b, c⟩ := y1.2 i hi
      exact ⟨(g5 _ _ (by decide) (by decide)).trans a, (g5 _ _ (by decide) (by decide)).trans b, (g5 _ _ (by decide) (by decide)).trans c⟩
    · obtain ⟨a, b⟩ := y2.2 i hi
      exact ⟨(g5 _ _ (by decide) (by decide)).trans a, fun q => (g5 _ _ (by decide) (by decide)).trans (b q)⟩
    · obtain ⟨a, b⟩ := y3.2 i hi
      exact ⟨(g5 _ _ (by decide) (by decide)).trans a, (g5 _ _ (by decide) (by decide)).trans b⟩
theorem BunO_up {k k' : Nat} {T S1 S2 S3 : zT} {z1 z2 z3 : Nat} (h : BunO k T S1 z1 S2 z2 S3 z3) (hk : k ≤ k') : BunO k' T S1 z1 S2 z2 S3 z3 := ⟨OkT_up h.1 hk, h.2⟩
theorem Img_up {k k' : Nat} {uX w : zM} (h : ImgR k uX w) (hk : k ≤ k') : ImgR k' uX w := by
  rcases h with h | ⟨h1, h2, T, S1, S2, S3, z1, z2, z3, x, y, o⟩
  · exact Or.inl h
  · exact Or.inr ⟨h1, h2, T, S1, S2, S3, z1, z2, z3, x, y, BunO_up o hk⟩
theorem Tp_cg {uX uX' w w' : zM} (g1 : ∀ a i, 69 ≤ a → a ≤ 70 → gI uX' a i = gI uX a i) (g2 : ∀ a i, 45 ≤ a → a ≤ 46 → gI w' a i = gI w a i) (g3 : ∀ a i, gJ uX' a i = gJ uX a i) (g4 : ∀ a i, gJ w' a i = gJ w a i) (h : RTp uX w) : RTp uX' w' := by
  intro t ht
  rcases h t ht with ⟨a1, a2, a3, a4⟩ | ⟨s, n, hs, hn, a1, a2, a3, a4, a5⟩
  · exact Or.inl ⟨(g1 _ _ (by decide) (by decide)).trans a1, (g2 _ _ (by decide) (by decide)).trans a2, (g1 _ _ (by decide) (by decide)).trans a3, (g2 _ _ (by decide) (by decide)).trans a4⟩
  · exact Or.inr ⟨s, n, hs, hn, (g1 _ _ (by decide) (by decide)).trans a1, (g2 _ _ (by decide) (by decide)).trans a2, (g1 _ _ (by decide) (by decide)).trans a3, (g2 _ _ (by decide) (by decide)).trans a4, fun i hi => (g3 _ _).trans ((a5 i hi).trans (g4 _ _).symm)⟩
theorem Ac_cg {uX uX' w w' : zM} (g1 : gI uX' 66 0 = gI uX 66 0) (g2 : ∀ i, gI uX' 67 i = gI uX 67 i) (g3 : gI w' 0 72 = gI w 0 72) (g4 : ∀ i, gI w' 44 i = gI w 44 i) (h : RAct uX w) : RAct uX' w' := by
  obtain ⟨n, hn, a1, a2, a3⟩ := h
  exact ⟨n, hn, g1.trans a1, g3.trans a2, fun i h1 h2 => (g2 i).trans ((a3 i h1 h2).trans (g4 i).symm)⟩
/-- the cells that the rest rests on -/
def FX (a i : Nat) : Prop := (a = 0 ∧ (i = 2 ∨ i = 7)) ∨ (26 ≤ a ∧ a ≤ 48) ∨ (a = 63 ∧ i = 0) ∨ a = 64 ∨ (a = 66 ∧ i = 0) ∨ a = 67 ∨ a = 69 ∨ a = 70
def FM (a i : Nat) : Prop := (a = 0 ∧ (i = 12 ∨ i = 14 ∨ (48 ≤ i ∧ i ≤ 57) ∨ i = 72)) ∨ a = 8 ∨ (9 ≤ a ∧ a ≤ 14) ∨ a = 16 ∨ (30 ≤ a ∧ a ≤ 46)
theorem Rest_cg {k : Nat} {sqs : Nat → zQ} {uX uX' w w' : zM} (gX : ∀ a i, FX a i → gI uX' a i = gI uX a i) (gXO : gO uX' 26 12 = gO uX 26 12) (gXJ : ∀ a i, gJ uX' a i = gJ uX a i) (gM : ∀ a i, FM a i → gI w' a i = gI w a i) (gMJ : ∀ a i, gJ w' a i = gJ w a i) (h : RestR k sqs uX w) : RestR k sqs uX' w' := by
  obtain ⟨h1, h2, h3, h4, h5⟩ := h
  exact ⟨Sq_cg (gX _ _ (by unfold FX; omega)) (gM _ _ (by unfold FM; omega)) (fun a i _ _ => gM _ _ (by unfold FM; omega)) (fun i => gM _ _ (by unfold FM; omega)) h1, Te_cg (gX _ _ (by unfold FX; omega)) (fun i => gX _ _ (by unfold FX; omega)) (gM _ _ (by unfold FM; omega)) (fun i => gM _ _ (by unfold FM; omega)) h2, Img_cg (gX _ _ (by unfold FX; omega)) (fun a i _ _ => gX _ _ (by unfold FX; omega)) gXO (fun i _ _ => gM _ _ (by unfold FM; omega)) (fun a i _ _ => gM _ _ (by unfold FM; omega)) h3, Tp_cg (fun a i _ _ => gX _ _ (by unfold FX; omega)) (fun a i _ _ => gM _ _ (by unfold FM; omega)) gXJ gMJ h4, Ac_cg (gX _ _ (by unfold FX; omega)) (fun i => gX _ _ (by unfold FX; omega)) (gM _ _ (by unfold FM; omega)) (fun i => gM _ _ (by unfold FM; omega)) h5⟩
theorem rel_ask {α : Type} {fx fm : zM → Option (α × zM)} {k : Nat} {T : zT} {sqs : Nat → zQ} {uX w : zM} (h1 : Core k T sqs uX w) (h2 : ShR (T 0 0) (T 0 1) uX w) (h3 : RestR k sqs uX w) (h : Ask fx fm uX w) : ∃ r uX' w', fx uX = some (r, uX') ∧ fm w = some (r, w') ∧ Rel uX' w' := by
  obtain ⟨r, uX', w', e1, e2, f1, f2⟩ := h
  exact ⟨r, uX', w', e1, e2, k, T, sqs, Core_ask h1 f1 f2, Sh_cg (fun a i _ _ => f1.1 _ _ (by omega) (by omega)) (fun i _ => f2.1 _ _ (by omega) (by omega) (by omega) (by omega)) (fun a i _ _ => f2.1 _ _ (by omega) (by omega) (by omega) (by omega)) h2, Rest_cg (fun a i q => f1.1 _ _ (by unfold FX at q; omega) (by unfold FX at q; omega)) (f1.2.2 _ _ (by omega)) f1.2.1 (fun a i q => f2.1 _ _ (by unfold FM at q; omega) (by unfold FM at q; omega) (by unfold FM at q; omega) (by unfold FM at q; omega)) f2.2.1 h3⟩
theorem rel_door {fx fm : zM → Option (Int32 × zM)} {k : Nat} {T : zT} {sqs : Nat → zQ} {uX w : zM} (h2 : ShR (T 0 0) (T 0 1) uX w) (h3 : RestR k sqs uX w) (h : Door k T sqs fx fm uX w) : ∃ r uX' w', fx uX = some (r, uX') ∧ fm w = some (r, w') ∧ Rel uX' w' := by
  obtain ⟨r, uX', w', T', e1, e2, c, n1, n2, f1, f2⟩ := h
  exact ⟨r, uX', w', e1, e2, k, T', sqs, c, Sh_up (Sh_cg (fun a i _ _ => f1.1 _ _ (by omega)) (fun i _ => f2.2.1 _ (by omega)) (fun a i _ _ => f2.1 _ _ (by omega) (by omega)) h2) n1 n2, Rest_cg (fun a i q => f1.1 _ _ (by unfold FX at q; omega)) (f1.2.2 _ _ (by omega)) f1.2.1 (fun a i q => by
    by_cases ha : a = 0
    · subst ha
      exact f2.2.1 _ (by unfold FM at q; omega)
    · exact f2.1 _ _ (by unfold FM at q; omega) (by unfold FM at q; omega)) f2.2.2.1 h3⟩
theorem rel_same {α : Type} {fx fm : zM → Option (α × zM)} {uX w : zM} (hR : Rel uX w) (h : ∃ r, fx uX = some (r, uX) ∧ fm w = some (r, w)) : ∃ r uX' w', fx uX = some (r, uX') ∧ fm w = some (r, w') ∧ Rel uX' w' := by
  obtain ⟨r, e1, e2⟩ := h
  exact ⟨r, uX, w, e1, e2, hR⟩
theorem rs_of : sim_X8_of Rel := by
  intro a0 a1 uX w hR
  obtain ⟨k, T, sqs, h1, h2, h3⟩ := hR
  exact rel_ask h1 h2 h3 (of_ask h1 a0 a1)
theorem rs_piece : sim_X8_piece Rel := by
  intro a0 a1 uX w hR
  obtain ⟨k, T, sqs, h1, h2, h3⟩ := hR
  exact rel_ask h1 h2 h3 (piece_ask h1 a0 a1)
theorem rs_told : sim_X8_told Rel := by
  intro a0 uX w hR
  obtain ⟨k, T, sqs, h1, h2, h3⟩ := hR
  exact rel_ask h1 h2 h3 (told_ask h1 a0)
theorem rs_on : sim_X8_on Rel := by
  intro a0 a1 uX w hR
  obtain ⟨k, T, sqs, h1, h2, h3⟩ := hR
  exact rel_ask h1 h2 h3 (on_ask h1 a0 a1)
theorem rs_best : sim_X8_best Rel := by
  intro a0 a1 uX w hR
  obtain ⟨k, T, sqs, h1, h2, h3⟩ := hR
  exact rel_ask h1 h2 h3 (best_ask h1 a0 a1)
theorem rs_talk : sim_X8_talk Rel := by
  intro a0 a1 uX w hR
  obtain ⟨k, T, sqs, h1, h2, h3⟩ := hR
  exact rel_ask h1 h2 h3 (talk_ask h1 a0 a1)
theorem rs_odds : sim_X8_odds Rel := by
  intro a0 a1 a2 uX w hR
  obtain ⟨k, T, sqs, h1, h2, h3⟩ := hR
  exact rel_ask h1 h2 h3 (odds_ask h1 a0 a1 a2)
theorem rs_mean : sim_X8_mean Rel := by
  intro a0 a1 uX w hR
  obtain ⟨k, T, sqs, h1, h2, h3⟩ := hR
  exact rel_ask h1 h2 h3 (mean_ask h1 a0 a1)
theorem rs_can : sim_X8_can Rel := by
  intro a0 a1 a2 uX w hR
  obtain ⟨k, T, sqs, h1, h2, h3⟩ := hR
  obtain ⟨S1, S2, S3, z1, z2, z3, ⟨x1, x2, x3⟩, ⟨y1, y2, y3⟩, o1, o2, o3⟩ := id h2
  exact rel_ask h1 h2 h3 (can_ask h1 x1 y1 o1 a0 a1 a2)
theorem rs_ends : sim_X8_ends Rel := by
  intro a0 uX w hR
  obtain ⟨k, T, sqs, h1, h2, h3⟩ := hR
  obtain ⟨S1, S2, S3, z1, z2, z3, ⟨x1, x2, x3⟩, ⟨y1, y2, y3⟩, o1, o2, o3⟩ := id h2
  exact rel_ask h1 h2 h3 (ends_ask h1 x2 y2 o2 a0)
theorem rs_looked : sim_X8_looked Rel := by
  intro uX w hR
  obtain ⟨k, T, sqs, h1, h2, h3⟩ := hR
  obtain ⟨S1, S2, S3, z1, z2, z3, ⟨x1, x2, x3⟩, ⟨y1, y2, y3⟩, o1, o2, o3⟩ := id h2
  exact rel_ask h1 h2 h3 (looked_ask h1 x3 y3 o3)
theorem rs_one : sim_X8_one Rel := by
  intro a0 a1 a2 uX w hR
  obtain ⟨k, T, sqs, h1, h2, h3⟩ := hR
  exact rel_door h2 h3 (one_door h1 a0 a1 a2)
theorem rs_heat : sim_X8_heat Rel := by
  intro a0 a1 uX w hR
  obtain ⟨k, T, sqs, h1, h2, h3⟩ := hR
  exact rel_door h2 h3 (heat_door h1 a0 a1)
theorem rs_work : sim_X8_work Rel := by
  intro a0 a1 uX w hR
  obtain ⟨k, T, sqs, h1, h2, h3⟩ := hR
  exact rel_door h2 h3 (work_door h1 a0 a1)
theorem rs_anvil : sim_X8_anvil Rel := by
  intro a0 uX w hR
  obtain ⟨k, T, sqs, h1, h2, h3⟩ := hR
  exact rel_door h2 h3 (anvil_door h1 a0)
theorem rs_row : sim_X8_row Rel := by
  intro a0 a1 a2 uX w hR
  obtain ⟨k, T, sqs, h1, h2, h3⟩ := hR
  exact rel_door h2 h3 (row_door h1 a0 a1 a2)
theorem rs_pass : sim_X8_pass Rel := by
  intro a0 uX w hR
  obtain ⟨k, T, sqs, h1, h2, h3⟩ := hR
  exact rel_door h2 h3 (pass_door h1 a0)
theorem rs_away : sim_X8_away Rel := by
  intro a0 a1 ha uX w hR
  obtain ⟨k, T, sqs, h1, h2, h3⟩ := hR
  exact rel_door h2 h3 (away_door h1 a0 a1 ha)
theorem rs_judge : sim_X8_judge Rel := by
  intro a0 a1 uX w hR
  obtain ⟨k, T, sqs, h1, h2, h3⟩ := id hR
  exact rel_same hR (judge_sim h1 h3.2.2.2.1 a0 a1)
theorem rs_trace : sim_X8_trace Rel := by
  intro a0 uX w hR
  obtain ⟨k, T, sqs, h1, h2, h3⟩ := id hR
  exact rel_same hR (trace_sim h3.2.2.2.2 a0)
theorem rs_taken : sim_X8_taken Rel := by
  intro a0 a1 uX w hR
  obtain ⟨k, T, sqs, h1, h2, h3⟩ := id hR
  exact rel_same hR (taken_sim (RPpl_C h1) a0 a1)
theorem rs_read : sim_X8_read Rel := by
  intro a0 a1 uX w hR
  obtain ⟨k, T, sqs, h1, h2, h3⟩ := id hR
  exact rel_same hR (read_sim h3.2.2.2.1 a0 a1)
theorem rs_count : sim_X8_count Rel := by
  intro a0 uX w hR
  obtain ⟨k, T, sqs, h1, h2, h3⟩ := id hR
  obtain ⟨S1, S2, S3, z1, z2, z3, ⟨x1, x2, x3⟩, ⟨y1, y2, y3⟩, -, -, -⟩ := h2
  obtain ⟨⟨q1, q2, -, -⟩, ⟨tx, n, t1, t2, -⟩, -, -, ⟨c, -, c1, c2, -⟩⟩ := h3
  exact rel_same hR (count_tab h1.1.1 h1.2.1.1 h1.1.2.1 h1.2.1.2.1 q1 q2 x1.1 y1.1 x2.1 y2.1 x3.1 y3.1 t1.1 t2.1 c1 c2 a0)
theorem Core_far {k : Nat} {T : zT} {sqs : Nat → zQ} {uX uX' w w' : zM} (h : Core k T sqs uX w) (g1 : ∀ a i, 2 ≤ a → a ≤ 10 → gI uX' a i = gI uX a i) (g2 : gO uX' 2 12 = gO uX 2 12) (g3 : ∀ a i, 78 ≤ a → gI uX' a i = gI uX a i) (g4 : ∀ i, i ≤ 4 → gI w' 0 i = gI w 0 i) (g5 : gI w' 0 13 = gI w 0 13) (g6 : ∀ a i, 1 ≤ a → a ≤ 14 → a ≠ 8 → gI w' a i = gI w a i) : Core k T sqs uX' w' := by
  obtain ⟨h1, h2, h3, h4, h5, h6, h7⟩ := h
  exact ⟨VX_cg h1 (fun c i hc => g1 _ _ (by omega) (by omega)) g2, VM_cg h2 (fun i hi => g4 _ (by omega)) g5 (fun c i h1 h2 => g6 _ _ (by omega) (by omega) (by omega)), h3, h4, h5, SqX_cg h6 g3, SqM_cg (fun a i h1 h2 => g6 _ _ (by omega) (by omega) (by omega)) h7⟩
theorem rs_see : sim_X8_see Rel := by
  intro a0 a1 a2 ha uX w hR
  obtain ⟨k, T, sqs, h1, h2, h3⟩ := hR
  obtain ⟨S1, S2, S3, z1, z2, z3, ⟨x1, x2, x3⟩, ⟨y1, y2, y3⟩, o1, o2, o3⟩ := h2
  obtain ⟨r, uX', w', S', z', e1, e2, x', y', o', f1, f2⟩ := see_sim h1 x1 y1 o1 a0 a1 a2 ha
  refine ⟨r, uX', w', e1, e2, k, T, sqs, Core_far h1 (fun a i _ _ => f1.1 _ _ (by omega)) (f1.2.2 _ _) (fun a i _ => f1.1 _ _ (by omega)) (fun i _ => f2.1 _ _ (by omega)) (f2.1 _ _ (by omega)) (fun a i _ _ _ => f2.1 _ _ (by omega)), ⟨S', S2, S3, z', z2, z3, ⟨x', ⟨(f1.1 _ _ (by omega)).trans x2.1, fun i hi => ⟨(f1.1 _ _ (by omega)).trans (x2.2 i hi).1, fun q => (f1.1 _ _ (by omega)).trans ((x2.2 i hi).2 q)⟩⟩, ⟨(f1.1 _ _ (by omega)).trans x3.1, fun i hi => ⟨(f1.1 _ _ (by omega)).trans (x3.2 i hi).1, (f1.1 _ _ (by omega)).trans (x3.2 i hi).2⟩⟩⟩, ⟨y', ⟨(f2.1 _ _ (by omega)).trans y2.1, fun i hi => ⟨(f2.1 _ _ (by omega)).trans (y2.2 i hi).1, fun q => (f2.1 _ _ (by omega)).trans ((y2.2 i hi).2 q)⟩⟩, ⟨(f2.1 _ _ (by omega)).trans y3.1, fun i hi => ⟨(f2.1 _ _ (by omega)).trans (y3.2 i hi).1, (f2.1 _ _ (by omega)).trans (y3.2 i hi).2⟩⟩⟩, o', o2, o3⟩, Rest_cg (fun a i q => f1.1 _ _ (by unfold FX at q; omega)) (f1.2.2 _ _) f1.2.1 (fun a i q => f2.1 _ _ (by unfold FM at q; omega)) f2.2.1 h3⟩
theorem rs_plan : sim_X8_plan Rel := by
  intro a0 a1 uX w hR
  obtain ⟨k, T, sqs, h1, h2, h3⟩ := hR
  obtain ⟨S1, S2, S3, z1, z2, z3, ⟨x1, x2, x3⟩, ⟨y1, y2, y3⟩, o1, o2, o3⟩ := h2
  obtain ⟨r, uX', w', S', z', e1, e2, x', y', o', f1, f2⟩ := plan_sim h1 x2 y2 o2 a0 a1
  refine ⟨r, uX', w', e1, e2, k, T, sqs, Core_far h1 (fun a i _ _ => f1.1 _ _ (by omega)) (f1.2.2 _ _) (fun a i _ => f1.1 _ _ (by omega)) (fun i _ => f2.1 _ _ (by omega)) (f2.1 _ _ (by omega)) (fun a i _ _ _ => f2.1 _ _ (by omega)), ⟨S1, S', S3, z1, z', z3, ⟨⟨(f1.1 _ _ (by omega)).trans x1.1, fun i hi => ⟨(f1.1 _ _ (by omega)).trans (x1.2 i hi).1, (f1.1 _ _ (by omega)).trans (x1.2 i hi).2.1, (f1.1 _ _ (by omega)).trans (x1.2 i hi).2.2⟩⟩, x', ⟨(f1.1 _ _ (by omega)).trans x3.1, fun i hi => ⟨(f1.1 _ _ (by omega)).trans (x3.2 i hi).1, (f1.1 _ _ (by omega)).trans (x3.2 i hi).2⟩⟩⟩, ⟨⟨(f2.1 _ _ (by omega)).trans y1.1, fun i hi => ⟨(f2.1 _ _ (by omega)).trans (y1.2 i hi).1, (f2.1 _ _ (by omega)).trans (y1.2 i hi).2.1, (f2.1 _ _ (by omega)).trans (y1.2 i hi).2.2⟩⟩, y', ⟨(f2.1 _ _ (by omega)).trans y3.1, fun i hi => ⟨(f2.1 _ _ (by omega)).trans (y3.2 i hi).1, (f2.1 _ _ (by omega)).trans (y3.2 i hi).2⟩⟩⟩, o1, o', o3⟩, Rest_cg (fun a i q => f1.1 _ _ (by unfold FX at q; omega)) (f1.2.2 _ _) f1.2.1 (fun a i q => f2.1 _ _ (by unfold FM at q; omega)) f2.2.1 h3⟩
theorem rs_book : sim_X8_book Rel := by
  intro a0 a1 uX w hR
  obtain ⟨k, T, sqs, h1, h2, h3⟩ := hR
  obtain ⟨S1, S2, S3, z1, z2, z3, ⟨x1, x2, x3⟩, ⟨y1, y2, y3⟩, o1, o2, o3⟩ := h2
  obtain ⟨r, uX', w', S', z', e1, e2, x', y', o', f1, f2⟩ := book_sim h1 x3 y3 o3 a0 a1
  refine ⟨r, uX', w', e1, e2, k, T, sqs, Core_far h1 (fun a i _ _ => f1.1 _ _ (by omega)) (f1.2.2 _ _) (fun a i _ => f1.1 _ _ (by omega)) (fun i _ => f2.1 _ _ (by omega)) (f2.1 _ _ (by omega)) (fun a i _ _ _ => f2.1 _ _ (by omega)), ⟨S1, S2, S', z1, z2, z', ⟨⟨(f1.1 _ _ (by omega)).trans x1.1, fun i hi => ⟨(f1.1 _ _ (by omega)).trans (x1.2 i hi).1, (f1.1 _ _ (by omega)).trans (x1.2 i hi).2.1, (f1.1 _ _ (by omega)).trans (x1.2 i hi).2.2⟩⟩, ⟨(f1.1 _ _ (by omega)).trans x2.1, fun i hi => ⟨(f1.1 _ _ (by omega)).trans (x2.2 i hi).1, fun q => (f1.1 _ _ (by omega)).trans ((x2.2 i hi).2 q)⟩⟩, x'⟩, ⟨⟨(f2.1 _ _ (by omega)).trans y1.1, fun i hi => ⟨(f2.1 _ _ (by omega)).trans (y1.2 i hi).1, (f2.1 _ _ (by omega)).trans (y1.2 i hi).2.1, (f2.1 _ _ (by omega)).trans (y1.2 i hi).2.2⟩⟩, ⟨(f2.1 _ _ (by omega)).trans y2.1, fun i hi => ⟨(f2.1 _ _ (by omega)).trans (y2.2 i hi).1, fun q => (f2.1 _ _ (by omega)).trans ((y2.2 i hi).2 q)⟩⟩, y'⟩, o1, o2, o'⟩, Rest_cg (fun a i q => f1.1 _ _ (by unfold FX at q; omega)) (f1.2.2 _ _) f1.2.1 (fun a i q => f2.1 _ _ (by unfold FM at q; omega)) f2.2.1 h3⟩
theorem rs_act : sim_X8_act Rel := by
  intro a0 a1 a2 uX w hR
  obtain ⟨k, T, sqs, h1, h2, h3⟩ := hR
  obtain ⟨r, uX', w', e1, e2, hA, f1, f2⟩ := act_sim a0 a1 a2 (ppl_same (RPpl_C h1) a0)
  obtain ⟨q1, q2, q3, q4, -⟩ := h3
  exact ⟨r, uX', w', e1, e2, k, T, sqs, Core_far h1 (fun a i _ _ => f1.1 _ _ (by omega) (by omega)) (f1.2.2 _ _) (fun a i _ => f1.1 _ _ (by omega) (by omega)) (fun i _ => f2.1 _ _ (by omega) (by omega)) (f2.1 _ _ (by omega) (by omega)) (fun a i _ _ _ => f2.1 _ _ (by omega) (by omega)), Sh_cg (fun a i _ _ => f1.1 _ _ (by omega) (by omega)) (fun i _ => f2.1 _ _ (by omega) (by omega)) (fun a i _ _ => f2.1 _ _ (by omega) (by omega)) h2, Sq_cg (f1.1 _ _ (by omega) (by omega)) (f2.1 _ _ (by omega) (by omega)) (fun a i _ _ => f2.1 _ _ (by omega) (by omega)) (fun i => f2.1 _ _ (by omega) (by omega)) q1, Te_cg (f1.1 _ _ (by omega) (by omega)) (fun i => f1.1 _ _ (by omega) (by omega)) (f2.1 _ _ (by omega) (by omega)) (fun i => f2.1 _ _ (by omega) (by omega)) q2, Img_cg (f1.1 _ _ (by omega) (by omega)) (fun a i _ _ => f1.1 _ _ (by omega) (by omega)) (f1.2.2 _ _) (fun i _ _ => f2.1 _ _ (by omega) (by omega)) (fun a i _ _ => f2.1 _ _ (by omega) (by omega)) q3, Tp_cg (fun a i _ _ => f1.1 _ _ (by omega) (by omega)) (fun a i _ _ => f2.1 _ _ (by omega) (by omega)) f1.2.1 f2.2.1 q4, hA⟩
theorem rel_tp {fx fm : zM → Option (Int32 × zM)} {uX w : zM} (hR : Rel uX w) (h : zTpSim fx fm uX w) : ∃ r uX' w', fx uX = some (r, uX') ∧ fm w = some (r, w') ∧ Rel uX' w' := by
  obtain ⟨k, T, sqs, h1, h2, h3⟩ := hR
  obtain ⟨r, uX', w', e1, e2, hT, f1, f2⟩ := h
  obtain ⟨q1, q2, q3, -, q5⟩ := h3
  exact ⟨r, uX', w', e1, e2, k, T, sqs, Core_far h1 (fun a i _ _ => (f1 _ _ (by omega)).1) (f1 _ _ (by omega)).2 (fun a i _ => (f1 _ _ (by omega)).1) (fun i _ => f2 _ _ (by omega)) (f2 _ _ (by omega)) (fun a i _ _ _ => f2 _ _ (by omega)), Sh_cg (fun a i _ _ => (f1 _ _ (by omega)).1) (fun i _ => f2 _ _ (by omega)) (fun a i _ _ => f2 _ _ (by omega)) h2, Sq_cg (f1 _ _ (by omega)).1 (f2 _ _ (by omega)) (fun a i _ _ => f2 _ _ (by omega)) (fun i => f2 _ _ (by omega)) q1, Te_cg (f1 _ _ (by omega)).1 (fun i => (f1 _ _ (by omega)).1) (f2 _ _ (by omega)) (fun i => f2 _ _ (by omega)) q2, Img_cg (f1 _ _ (by omega)).1 (fun a i _ _ => (f1 _ _ (by omega)).1) (f1 _ _ (by omega)).2 (fun i _ _ => f2 _ _ (by omega)) (fun a i _ _ => f2 _ _ (by omega)) q3, hT, Ac_cg (f1 _ _ (by omega)).1 (fun i => (f1 _ _ (by omega)).1) (f2 _ _ (by omega)) (fun i => f2 _ _ (by omega)) q5⟩
theorem rs_tape : sim_X8_tape Rel := by
  intro a0 a1 a2 uX w hR
  obtain ⟨k, T, sqs, h1, h2, h3⟩ := id hR
  exact rel_tp hR (tape_sim h3.2.2.2.1 a0 a1 a2)
theorem rs_item : sim_X8_item Rel := by
  intro a0 a1 a2 uX w hR
  obtain ⟨k, T, sqs, h1, h2, h3⟩ := id hR
  exact rel_tp hR (item_sim h3.2.2.2.1 a0 a1 a2)
theorem rs_shift : sim_X8_shift Rel := by
  intro a0 a1 a2 a3 a4 uX w hR
  obtain ⟨k, T, sqs, h1, h2, h3⟩ := id hR
  exact rel_tp hR (shift_sim h3.2.2.2.1 a0 a1 a2 a3 a4)
theorem rs_feed : sim_X8_feed Rel := by
  intro a0 uX w hR
  obtain ⟨k, T, sqs, h1, h2, q1, ⟨tx, n, t1, t2, t3⟩, q3, q4, q5⟩ := hR
  obtain ⟨r, uX', w', tx', n', e1, e2, x, y, o, f1, f2⟩ := feed_sim t1 t2 t3 a0
  exact ⟨r, uX', w', e1, e2, k, T, sqs, Core_far h1 (fun a i _ _ => f1.1 _ _ (by omega) (by omega)) (f1.2.2 _ _) (fun a i _ => f1.1 _ _ (by omega) (by omega)) (fun i _ => f2.1 _ _ (by omega) (by omega)) (f2.1 _ _ (by omega) (by omega)) (fun a i _ _ _ => f2.1 _ _ (by omega) (by omega)), Sh_cg (fun a i _ _ => f1.1 _ _ (by omega) (by omega)) (fun i _ => f2.1 _ _ (by omega) (by omega)) (fun a i _ _ => f2.1 _ _ (by omega) (by omega)) h2, Sq_cg (f1.1 _ _ (by omega) (by omega)) (f2.1 _ _ (by omega) (by omega)) (fun a i _ _ => f2.1 _ _ (by omega) (by omega)) (fun i => f2.1 _ _ (by omega) (by omega)) q1, ⟨tx', n', x, y, o⟩, Img_cg (f1.1 _ _ (by omega) (by omega)) (fun a i _ _ => f1.1 _ _ (by omega) (by omega)) (f1.2.2 _ _) (fun i _ _ => f2.1 _ _ (by omega) (by omega)) (fun a i _ _ => f2.1 _ _ (by omega) (by omega)) q3, Tp_cg (fun a i _ _ => f1.1 _ _ (by omega) (by omega)) (fun a i _ _ => f2.1 _ _ (by omega) (by omega)) f1.2.1 f2.2.1 q4, Ac_cg (f1.1 _ _ (by omega) (by omega)) (fun i => f1.1 _ _ (by omega) (by omega)) (f2.1 _ _ (by omega) (by omega)) (fun i => f2.1 _ _ (by omega) (by omega)) q5⟩
theorem rs_square : sim_X8_square Rel := by
  intro uX w hR
  obtain ⟨k, T, sqs, h1, h2, ⟨s1, s2, s3, s4⟩, ⟨tx, n, t1, t2, t3⟩, q3, q4, q5⟩ := hR
  obtain ⟨r, uX', w', k', T', sqs', n', e1, e2, c, k1, k2, kk, B, n1, n2, x, y, o, l, f1, f2⟩ := square_sim h1 s1 s2 t1 t2 t3 s4 s3
  refine ⟨r, uX', w', e1, e2, k', T', sqs', c, ?_, ⟨k1, k2, B, l⟩, ⟨tx, n', x, y, o⟩, Img_up (Img_cg (f1.1 _ _ (by omega) (by omega) (by omega)) (fun a i _ _ => f1.1 _ _ (by omega) (by omega) (by omega)) (f1.2.2 _ _ (by omega) (by omega)) (fun i _ _ => f2.1 _ _ (by omega) (by omega)) (fun a i _ _ => f2.1 _ _ (by omega) (by omega)) q3) kk, Tp_cg (fun a i _ _ => f1.1 _ _ (by omega) (by omega) (by omega)) (fun a i _ _ => f2.1 _ _ (by omega) (by omega)) f1.2.1 f2.2.1 q4, Ac_cg (f1.1 _ _ (by omega) (by omega) (by omega)) (fun i => f1.1 _ _ (by omega) (by omega) (by omega)) (f2.1 _ _ (by omega) (by omega)) (fun i => f2.1 _ _ (by omega) (by omega)) q5⟩
  rw [n1, n2]
  exact Sh_cg (fun a i _ _ => f1.1 _ _ (by omega) (by omega) (by omega)) (fun i _ => f2.1 _ _ (by omega) (by omega)) (fun a i _ _ => f2.1 _ _ (by omega) (by omega)) h2
theorem rs_image : sim_X8_image Rel := by
  intro uX w hR
  obtain ⟨k, T, sqs, h1, h2, q1, q2, q3, q4, q5⟩ := hR
  obtain ⟨S1, S2, S3, z1, z2, z3, ⟨x1, x2, x3⟩, ⟨y1, y2, y3⟩, o1, o2, o3⟩ := id h2
  have hBX : BunX 1 uX T S1 z1 S2 z2 S3 z3 := ⟨h1.1, x1, x2, x3⟩
  have hBO : BunO k T S1 z1 S2 z2 S3 z3 := ⟨h1.2.2.1, h1.2.2.2.1, o1, o2, o3⟩
  obtain ⟨u1, e1, B1, g1, g1J, g1O⟩ := becW (t := 25) (o := 1) (by omega) hBX hBO h1.2.2.2.2.1.1
  obtain ⟨w1, e2, I2, s48, f2⟩ := image_all2 (k := k) w ⟨h1.2.1, y1, y2, y3⟩ hBO
  have gX : ∀ a i, (a < 26 ∨ 49 ≤ a) → ¬ (a = 0 ∧ i = 2) → gI (sI u1 0 2 (1 : Int32)) a i = gI uX a i := fun a i h h' => by rw [gI_sI, if_neg h', g1 a i (by omega)]
  have gB : ∀ a i, a ≠ 0 → gI (sI u1 0 2 (1 : Int32)) a i = gI u1 a i := fun a i h => by rw [gI_sI, if_neg (by omega)]
  have s2 : gI (sI u1 0 2 (1 : Int32)) 0 2 = nI 1 := by rw [gI_sI, if_pos ⟨rfl, rfl⟩]; rfl
  have f2' : ∀ a i, ¬ (30 ≤ a ∧ a ≤ 43) → ¬ (a = 0 ∧ 48 ≤ i ∧ i ≤ 57) → gI w1 a i = gI w a i := fun a i h h' => f2.1 a i (by omega)
  refine ⟨nI (T 0 0), sI u1 0 2 (1 : Int32), w1, ?_, e2, k, T, sqs, Core_far h1 (fun a i _ _ => gX _ _ (by omega) (by omega)) (g1O _ _ (by omega)) (fun a i _ => gX _ _ (by omega) (by omega)) (fun i _ => f2' _ _ (by omega) (by omega)) (f2' _ _ (by omega) (by omega)) (fun a i _ _ _ => f2' _ _ (by omega) (by omega)), Sh_cg (fun a i _ _ => gX _ _ (by omega) (by omega)) (fun i _ => f2' _ _ (by omega) (by omega)) (fun a i _ _ => f2' _ _ (by omega) (by omega)) h2, Sq_cg (gX _ _ (by omega) (by omega)) (f2' _ _ (by omega) (by omega)) (fun a i _ _ => f2' _ _ (by omega) (by omega)) (fun i => f2' _ _ (by omega) (by omega)) q1, Te_cg (gX _ _ (by omega) (by omega)) (fun i => gX _ _ (by omega) (by omega)) (f2' _ _ (by omega) (by omega)) (fun i => f2' _ _ (by omega) (by omega)) q2, ?_, Tp_cg (fun a i _ _ => gX _ _ (by omega) (by omega)) (fun a i _ _ => f2' _ _ (by omega) (by omega)) g1J f2.2.1 q4, Ac_cg (gX _ _ (by omega) (by omega)) (fun i => gX _ _ (by omega) (by omega)) (f2' _ _ (by omega) (by omega)) (fun i => f2' _ _ (by omega) (by omega)) q5⟩
  · unfold f_X8_image
    rw [e1, zb_s, zlet_s, gX 2 0 (by omega) (by omega), h1.1.1]
  · have hI : ImgR k (sI u1 0 2 (1 : Int32)) w1 := by
      refine Or.inr ⟨s2, s48, T, S1, S2, S3, z1, z2, z3, ?_, I2, hBO⟩
      obtain ⟨b0, b1, b2, b3⟩ := B1
      exact ⟨VX_cg b0 (fun c i hc => gB _ _ (by omega)) rfl, ⟨(gB _ _ (by omega)).trans b1.1, fun i hi => ⟨(gB _ _ (by omega)).trans (b1.2 i hi).1, (gB _ _ (by omega)).trans (b1.2 i hi).2.1, (gB _ _ (by omega)).trans (b1.2 i hi).2.2⟩⟩, ⟨(gB _ _ (by omega)).trans b2.1, fun i hi => ⟨(gB _ _ (by omega)).trans (b2.2 i hi).1, fun q => (gB _ _ (by omega)).trans ((b2.2 i hi).2 q)⟩⟩, ⟨(gB _ _ (by omega)).trans b3.1, fun i hi => ⟨(gB _ _ (by omega)).trans (b3.2 i hi).1, (gB _ _ (by omega)).trans (b3.2 i hi).2⟩⟩⟩
    exact hI
theorem rs_undo : sim_X8_undo Rel := by
  intro uX w hR
  obtain ⟨k, T, sqs, h1, h2, q1, q2, q3, q4, q5⟩ := id hR
  rcases q3 with ⟨i1, i2⟩ | ⟨i1, i2, T', S1, S2, S3, z1, z2, z3, bX, bI, bO⟩
  · refine rel_same hR ⟨-3, ?_, ?_⟩
    · unfold f_X8_undo
      rw [i1, if_pos (show nI 0 = (0 : Int32) from rfl)]
    · unfold f_X9_undo
      rw [i2, if_pos (show nI 0 = (0 : Int32) from rfl)]
  · obtain ⟨u1, e1, ⟨v0, v1, v2, v3⟩, g1, g1J, g1O⟩ := becW (t := 1) (o := 25) (by omega) bX bO h1.2.2.2.2.1.1
    obtain ⟨w1, e2, ⟨c0, c1, c2, c3⟩, f2⟩ := undo_all2 (k := k) w i2 bI bO
    have f2' : ∀ a i, ¬ (1 ≤ a ∧ a ≤ 7) → ¬ (23 ≤ a ∧ a ≤ 29) → ¬ (a = 0 ∧ (i ≤ 4 ∨ i = 13 ∨ i = 38 ∨ i = 42 ∨ i = 43)) → gI w1 a i = gI w a i := fun a i h h' h'' => f2.1 a i (by omega)
    refine ⟨nI (T' 0 0), u1, w1, ?_, e2, k, T', sqs, ⟨v0, c0, bO.1, bO.2.1, h1.2.2.2.2.1, SqX_cg h1.2.2.2.2.2.1 (fun a i _ => g1 _ _ (by omega)), SqM_cg (fun a i _ _ => f2' _ _ (by omega) (by omega) (by omega)) h1.2.2.2.2.2.2⟩, ⟨S1, S2, S3, z1, z2, z3, ⟨v1, v2, v3⟩, ⟨c1, c2, c3⟩, bO.2.2.1, bO.2.2.2.1, bO.2.2.2.2⟩, Sq_cg (g1 _ _ (by omega)) (f2' _ _ (by omega) (by omega) (by omega)) (fun a i _ _ => f2' _ _ (by omega) (by omega) (by omega)) (fun i => f2' _ _ (by omega) (by omega) (by omega)) q1, Te_cg (g1 _ _ (by omega)) (fun i => g1 _ _ (by omega)) (f2' _ _ (by omega) (by omega) (by omega)) (fun i => f2' _ _ (by omega) (by omega) (by omega)) q2, Img_cg (g1 _ _ (by omega)) (fun a i _ _ => g1 _ _ (by omega)) (g1O _ _ (by omega)) (fun i _ _ => f2' _ _ (by omega) (by omega) (by omega)) (fun a i _ _ => f2' _ _ (by omega) (by omega) (by omega)) (Or.inr ⟨i1, i2, T', S1, S2, S3, z1, z2, z3, bX, bI, bO⟩), Tp_cg (fun a i _ _ => g1 _ _ (by omega)) (fun a i _ _ => f2' _ _ (by omega) (by omega) (by omega)) g1J f2.2.1 q4, Ac_cg (g1 _ _ (by omega)) (fun i => g1 _ _ (by omega)) (f2' _ _ (by omega) (by omega) (by omega)) (fun i => f2' _ _ (by omega) (by omega) (by omega)) q5⟩
    unfold f_X8_undo
    rw [i1, if_neg (show ¬ nI 1 = (0 : Int32) from by decide), e1, zb_s, show gI u1 2 0 = nI (T' 0 0) from v0.1]
theorem rel_init : Rel uX0 uM0 := by
  refine ⟨0, fun _ _ => 0, fun _ => [], ⟨⟨?_, ?_, ?_, ?_, ?_, fun i hi => absurd hi (Nat.not_lt_zero _), fun j hj => absurd hj (Nat.not_lt_zero _), fun i hi => absurd hi (Nat.not_lt_zero _)⟩, ⟨?_, ?_, ?_, ?_, ?_, fun i hi => absurd hi (Nat.not_lt_zero _), fun j hj => absurd hj (Nat.not_lt_zero _), fun i hi => absurd hi (Nat.not_lt_zero _), 0, by decide, ?_, fun i hi => absurd hi (Nat.not_lt_zero _)⟩, ⟨by decide, by decide, by decide, by decide, by decide, fun i hi => absurd hi (Nat.not_lt_zero _), fun j hj => absurd hj (Nat.not_lt_zero _), fun i hi => absurd hi (Nat.not_lt_zero _)⟩, Nat.zero_le _, ⟨by decide, rfl, fun q _ => ⟨Nat.zero_le _, Nat.zero_le _, fun c hc => by cases hc⟩⟩, fun q h1 h2 => absurd h1 (by omega), fun q h1 h2 => absurd h1 (by omega)⟩, ⟨fun _ _ => 0, fun _ _ => 0, fun _ _ => 0, 0, 0, 0, ⟨⟨?_, fun i hi => absurd hi (Nat.not_lt_zero _)⟩, ⟨?_, fun i hi => absurd hi (Nat.not_lt_zero _)⟩, ⟨?_, fun i hi => absurd hi (Nat.not_lt_zero _)⟩⟩, ⟨⟨?_, fun i hi => absurd hi (Nat.not_lt_zero _)⟩, ⟨?_, fun i hi => absurd hi (Nat.not_lt_zero _)⟩, ⟨?_, fun i hi => absurd hi (Nat.not_lt_zero _)⟩⟩, ⟨by decide, fun i hi => absurd hi (Nat.not_lt_zero _)⟩, ⟨by decide, fun i hi => absurd hi (Nat.not_lt_zero _)⟩, ⟨by decide, fun i hi => absurd hi (Nat.not_lt_zero _)⟩⟩, ⟨?_, ?_, fun q h1 h2 => absurd h1 (by omega), ?_⟩, ⟨fun _ => 0, 0, ⟨?_, fun i hi => absurd hi (Nat.not_lt_zero _)⟩, ⟨?_, fun i hi => absurd hi (Nat.not_lt_zero _)⟩, ⟨by decide, fun i hi => absurd hi (Nat.not_lt_zero _)⟩⟩, Or.inl ⟨?_, ?_⟩, init_tp, init_ac⟩
  case refine_20 => exact ⟨by decide +kernel, by decide, by decide +kernel, by decide, by decide +kernel, by decide, by decide +kernel, by decide, by decide +kernel, by decide, by decide +kernel, by decide, by decide +kernel, by decide, by decide +kernel, by decide, by decide +kernel, by decide, by decide +kernel, by decide, by decide +kernel, by decide, by decide +kernel, by decide, by decide +kernel, by decide, trivial⟩
  all_goals decide +kernel
theorem rel_sims : zSims Rel := ⟨rs_one, rs_of, rs_heat, rs_away, rs_work, rs_piece, rs_anvil, rs_row, rs_feed, rs_square, rs_told, rs_pass, rs_on, rs_best, rs_talk, rs_see, rs_can, rs_odds, rs_mean, rs_plan, rs_ends, rs_book, rs_looked, rs_judge, rs_image, rs_undo, rs_act, rs_trace, rs_taken, rs_count, rs_tape, rs_item, rs_read, rs_shift⟩
theorem whole_start {p : Program} {e : Env} {s : State} {m : MethodId} {below : List Frame} {meth : Method} {c : Code} (l : Launch) (hfl : l.flags = flags0) {b L : Nat} {xs : Nat → Int32} (hL : L ≤ 3072) (C0 : lw_At p s m meth c b L xs) : W p l e room_1 s m #[Value.ref b] below meth c s.heap [] 0 0 (lw_Z below #[Value.ref b] s) (entryFrame m ([Value.ref b] : List Value).toArray 4) := whole_open rel_sims rel_init l hL C0
