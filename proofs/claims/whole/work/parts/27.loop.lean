/-! ===== the law's loop ===== -/
def zSims (Rel : zM → zM → Prop) : Prop := sim_X8_one Rel ∧ sim_X8_of Rel ∧ sim_X8_heat Rel ∧ sim_X8_away Rel ∧ sim_X8_work Rel ∧ sim_X8_piece Rel ∧ sim_X8_anvil Rel ∧ sim_X8_row Rel ∧ sim_X8_feed Rel ∧ sim_X8_square Rel ∧ sim_X8_told Rel ∧ sim_X8_pass Rel ∧ sim_X8_on Rel ∧ sim_X8_best Rel ∧ sim_X8_talk Rel ∧ sim_X8_see Rel ∧ sim_X8_can Rel ∧ sim_X8_odds Rel ∧ sim_X8_mean Rel ∧ sim_X8_plan Rel ∧ sim_X8_ends Rel ∧ sim_X8_book Rel ∧ sim_X8_looked Rel ∧ sim_X8_judge Rel ∧ sim_X8_image Rel ∧ sim_X8_undo Rel ∧ sim_X8_act Rel ∧ sim_X8_trace Rel ∧ sim_X8_taken Rel ∧ sim_X8_count Rel ∧ sim_X8_tape Rel ∧ sim_X8_item Rel ∧ sim_X8_read Rel ∧ sim_X8_shift Rel
section LawLoop
variable {p : Program} {l : Launch} {e : Env} {s : State} {m : MethodId} {below : List Frame} {meth : Method} {c : Code} {b Ln : Nat} {xs : Nat → Int32} {aX aM : Nat → Nat} {dA : Nat → ClassId} {D : va_G} {x3 : Int32} {pc : Nat} {st : List Value} {uX uM : zM}
theorem L_gt (C : LwC p s m c b Ln xs aX aM dA D) {x y : Int32} {off : Int} {tgt : Nat} (hdg : decode code pc = .ok (.if_icmp .gt off, 3)) (ht : (pc : Int) + off = (tgt : Int)) (k1 : y < x → GoL p l e s m below meth c b aX aM dA D x3 tgt st uX uM) (k2 : ¬ y < x → GoL p l e s m below meth c b aX aM dA D x3 (pc + 3) st uX uM) : GoL p l e s m below meth c b aX aM dA D x3 pc (.int y :: .int x :: st) uX uM := by
  obtain ⟨hx, hb, hml, hown, hts, hX, hbl, hK, hIX, hIM, hgX, hgM, hdis, hZX, hZM⟩ := C
  intro H locs ls hPX hPM hS hl
  exact lv_icmp_gt hx hb hdg ht (fun h => k1 h H locs ls hPX hPM hS hl) (fun h => k2 h H locs ls hPX hPM hS hl)
theorem L_tsIn (C : LwC p s m c b Ln xs aX aM dA D) {dflt lo hi : Int} {offs : Array Int} {len : Nat} {x v : Int32} {off : Int} {tgt : Nat} (hdg : decode code pc = .ok (.tableswitch dflt lo hi offs, len)) (hv : x = v) (h1 : ¬ v.toInt < lo) (h2 : ¬ hi < v.toInt) (ho : offs[(v.toInt - lo).toNat]? = some off) (ht : (pc : Int) + off = (tgt : Int)) (k : GoL p l e s m below meth c b aX aM dA D x3 tgt st uX uM) : GoL p l e s m below meth c b aX aM dA D x3 pc (.int x :: st) uX uM := by
  subst hv
  obtain ⟨hx, hb, hml, hown, hts, hX, hbl, hK, hIX, hIM, hgX, hgM, hdis, hZX, hZM⟩ := C
  intro H locs ls hPX hPM hS hl
  exact lv_tableIn hx hb hdg h1 h2 ho ht (k H locs ls hPX hPM hS hl)
theorem L_tsOut (C : LwC p s m c b Ln xs aX aM dA D) {dflt lo hi : Int} {offs : Array Int} {len : Nat} {x : Int32} {tgt : Nat} (hdg : decode code pc = .ok (.tableswitch dflt lo hi offs, len)) (h : x.toInt < lo ∨ hi < x.toInt) (ht : (pc : Int) + dflt = (tgt : Int)) (k : GoL p l e s m below meth c b aX aM dA D x3 tgt st uX uM) : GoL p l e s m below meth c b aX aM dA D x3 pc (.int x :: st) uX uM := by
  obtain ⟨hx, hb, hml, hown, hts, hX, hbl, hK, hIX, hIM, hgX, hgM, hdis, hZX, hZM⟩ := C
  intro H locs ls hPX hPM hS hl
  exact lv_tableOut hx hb hdg h ht (k H locs ls hPX hPM hS hl)
theorem L_iinc (C : LwC p s m c b Ln xs aX aM dA D) {n : Int} {v : Int32} (hdg : decode code pc = .ok (.iinc 3 n, 3)) (hv : Int32.ofInt n = v) (k : GoL p l e s m below meth c b aX aM dA D (x3 + v) (pc + 3) st uX uM) : GoL p l e s m below meth c b aX aM dA D x3 pc st uX uM := by
  subst hv
  obtain ⟨hx, hb, hml, hown, hts, hX, hbl, hK, hIX, hIM, hgX, hgM, hdis, hZX, hZM⟩ := C
  intro H locs ls hPX hPM hS hl
  exact lv_iinc (lv' := [(3, .int (x3 + Int32.ofInt n)), (0, .ref b), (1, .ref (aX 0)), (2, .ref (aM 0))]) hx hb hdg hl (k := 3) rfl rfl (by decide) rfl (fun ls hl => k H locs ls hPX hPM hS (lv_sub hl [1, 2, 3, 0] rfl))
theorem L_end (C : LwC p s m c b Ln xs aX aM dA D) (hr : meth.sig.returnType = ret) (hlocks : meth.locks = false) : GoL p l e s m below meth c b aX aM dA D x3 1337 [] uX uM := by
  obtain ⟨hx, hb, hml, hown, hts, hX, hbl, hK, hIX, hIM, hgX, hgM, hdis, hZX, hZM⟩ := C
  intro H locs ls hPX hPM hS hl
  refine lv_iconst (v := 1) hx hb dL_1337 (by decide) ?_
  refine va_forget (fun q hq => hS.2.2 q hq) ?_
  refine W.widen (k := 600000) (n := 7302250) (by decide) (by decide) ?_
  exact lw_ret hx hb hr hlocks dL_1338
theorem lw_sub6 {i n : Nat} (hi : i ≤ 4000) (hn : n ≤ 4000) : (nI n - 6 < nI i) ↔ ¬ (i + 6 ≤ n) := by
  rw [Int32.lt_iff_toInt_lt, Int32.toInt_sub, nI_toInt (by omega), nI_toInt (by omega), show (6 : Int32).toInt = 6 from rfl, Int.bmod_def]
  split <;> omega
theorem lw_in {i k n : Nat} (h : i + k < n) (hn : n ≤ 4000) : vp_in (nI i + nI k) n := by
  rw [nI_add]
  exact vp_in_nI h (by omega)
/-- a call of the script, whatever it is -/
theorem law_step (C : LwC p s m c b Ln xs aX aM dA D) {Rel : zM → zM → Prop} (hs : zSims Rel) (hRel : Rel uX uM) (h1 : vp_in (x3 + 1) Ln) (h2 : vp_in (x3 + 2) Ln) (h3 : vp_in (x3 + 3) Ln) (h4 : vp_in (x3 + 4) Ln) (h5 : vp_in (x3 + 5) Ln) (hcont : ∀ uX uM, Rel uX uM → GoL p l e s m below meth c b aX aM dA D x3 1331 [] uX uM) (v : Int32) : GoL p l e s m below meth c b aX aM dA D x3 33 [.int v] uX uM := by
  obtain ⟨sX8_one, sX8_of, sX8_heat, sX8_away, sX8_work, sX8_piece, sX8_anvil, sX8_row, sX8_feed, sX8_square, sX8_told, sX8_pass, sX8_on, sX8_best, sX8_talk, sX8_see, sX8_can, sX8_odds, sX8_mean, sX8_plan, sX8_ends, sX8_book, sX8_looked, sX8_judge, sX8_image, sX8_undo, sX8_act, sX8_trace, sX8_taken, sX8_count, sX8_tape, sX8_item, sX8_read, sX8_shift⟩ := hs
  by_cases g0 : v = 0
  · exact L_tsIn (v := 0) (off := 151) (tgt := 184) C dL_33 g0 (by decide) (by decide) rfl (by decide) (law_0 C sX8_one hRel h1 h2 h3 h4 h5 hcont)
  by_cases g1 : v = 1
  · exact L_tsIn (v := 1) (off := 194) (tgt := 227) C dL_33 g1 (by decide) (by decide) rfl (by decide) (law_1 C sX8_of hRel h1 h2 h3 h4 h5 hcont)
  by_cases g2 : v = 2
  · exact L_tsIn (v := 2) (off := 227) (tgt := 260) C dL_33 g2 (by decide) (by decide) rfl (by decide) (law_2 C sX8_heat hRel h1 h2 h3 h4 h5 hcont)
  by_cases g3 : v = 3
  · exact L_tsIn (v := 3) (off := 260) (tgt := 293) C dL_33 g3 (by decide) (by decide) rfl (by decide) (law_3 C sX8_away hRel h1 h2 h3 h4 h5 hcont)
  by_cases g4 : v = 4
  · exact L_tsIn (v := 4) (off := 309) (tgt := 342) C dL_33 g4 (by decide) (by decide) rfl (by decide) (law_4 C sX8_work hRel h1 h2 h3 h4 h5 hcont)
  by_cases g5 : v = 5
  · exact L_tsIn (v := 5) (off := 342) (tgt := 375) C dL_33 g5 (by decide) (by decide) rfl (by decide) (law_5 C sX8_piece hRel h1 h2 h3 h4 h5 hcont)
  by_cases g6 : v = 6
  · exact L_tsIn (v := 6) (off := 375) (tgt := 408) C dL_33 g6 (by decide) (by decide) rfl (by decide) (law_6 C sX8_anvil hRel h1 h2 h3 h4 h5 hcont)
  by_cases g7 : v = 7
  · exact L_tsIn (v := 7) (off := 398) (tgt := 431) C dL_33 g7 (by decide) (by decide) rfl (by decide) (law_7 C sX8_row hRel h1 h2 h3 h4 h5 hcont)
  by_cases g8 : v = 8
  · exact L_tsIn (v := 8) (off := 441) (tgt := 474) C dL_33 g8 (by decide) (by decide) rfl (by decide) (law_8 C sX8_feed hRel h1 h2 h3 h4 h5 hcont)
  by_cases g9 : v = 9
  · exact L_tsIn (v := 9) (off := 464) (tgt := 497) C dL_33 g9 (by decide) (by decide) rfl (by decide) (law_9 C sX8_square hRel h1 h2 h3 h4 h5 hcont)
  by_cases g10 : v = 10
  · exact L_tsIn (v := 10) (off := 477) (tgt := 510) C dL_33 g10 (by decide) (by decide) rfl (by decide) (law_10 C sX8_told hRel h1 h2 h3 h4 h5 hcont)
  by_cases g11 : v = 11
  · exact L_tsIn (v := 11) (off := 500) (tgt := 533) C dL_33 g11 (by decide) (by decide) rfl (by decide) (law_11 C sX8_pass hRel h1 h2 h3 h4 h5 hcont)
  by_cases g12 : v = 12
  · exact L_tsIn (v := 12) (off := 523) (tgt := 556) C dL_33 g12 (by decide) (by decide) rfl (by decide) (law_12 C sX8_on hRel h1 h2 h3 h4 h5 hcont)
  by_cases g13 : v = 13
  · exact L_tsIn (v := 13) (off := 556) (tgt := 589) C dL_33 g13 (by decide) (by decide) rfl (by decide) (law_13 C sX8_best hRel h1 h2 h3 h4 h5 hcont)
  by_cases g14 : v = 14
  · exact L_tsIn (v := 14) (off := 589) (tgt := 622) C dL_33 g14 (by decide) (by decide) rfl (by decide) (law_14 C sX8_talk hRel h1 h2 h3 h4 h5 hcont)
  by_cases g15 : v = 15
  · exact L_tsIn (v := 15) (off := 622) (tgt := 655) C dL_33 g15 (by decide) (by decide) rfl (by decide) (law_15 C sX8_see hRel h1 h2 h3 h4 h5 hcont)
  by_cases g16 : v = 16
  · exact L_tsIn (v := 16) (off := 681) (tgt := 714) C dL_33 g16 (by decide) (by decide) rfl (by decide) (law_16 C sX8_can hRel h1 h2 h3 h4 h5 hcont)
  by_cases g17 : v = 17
  · exact L_tsIn (v := 17) (off := 724) (tgt := 757) C dL_33 g17 (by decide) (by decide) rfl (by decide) (law_17 C sX8_odds hRel h1 h2 h3 h4 h5 hcont)
  by_cases g18 : v = 18
  · exact L_tsIn (v := 18) (off := 768) (tgt := 801) C dL_33 g18 (by decide) (by decide) rfl (by decide) (law_18 C sX8_mean hRel h1 h2 h3 h4 h5 hcont)
  by_cases g19 : v = 19
  · exact L_tsIn (v := 19) (off := 802) (tgt := 835) C dL_33 g19 (by decide) (by decide) rfl (by decide) (law_19 C sX8_plan hRel h1 h2 h3 h4 h5 hcont)
  by_cases g20 : v = 20
  · exact L_tsIn (v := 20) (off := 835) (tgt := 868) C dL_33 g20 (by decide) (by decide) rfl (by decide) (law_20 C sX8_ends hRel h1 h2 h3 h4 h5 hcont)
  by_cases g21 : v = 21
  · exact L_tsIn (v := 21) (off := 858) (tgt := 891) C dL_33 g21 (by decide) (by decide) rfl (by decide) (law_21 C sX8_book hRel h1 h2 h3 h4 h5 hcont)
  by_cases g22 : v = 22
  · exact L_tsIn (v := 22) (off := 891) (tgt := 924) C dL_33 g22 (by decide) (by decide) rfl (by decide) (law_22 C sX8_looked hRel h1 h2 h3 h4 h5 hcont)
  by_cases g23 : v = 23
  · exact L_tsIn (v := 23) (off := 904) (tgt := 937) C dL_33 g23 (by decide) (by decide) rfl (by decide) (law_23 C sX8_judge hRel h1 h2 h3 h4 h5 hcont)
  by_cases g24 : v = 24
  · exact L_tsIn (v := 24) (off := 937) (tgt := 970) C dL_33 g24 (by decide) (by decide) rfl (by decide) (law_24 C sX8_image hRel h1 h2 h3 h4 h5 hcont)
  by_cases g25 : v = 25
  · exact L_tsIn (v := 25) (off := 950) (tgt := 983) C dL_33 g25 (by decide) (by decide) rfl (by decide) (law_25 C sX8_undo hRel h1 h2 h3 h4 h5 hcont)
  by_cases g26 : v = 26
  · exact L_tsIn (v := 26) (off := 963) (tgt := 996) C dL_33 g26 (by decide) (by decide) rfl (by decide) (law_26 C sX8_act hRel h1 h2 h3 h4 h5 hcont)
  by_cases g27 : v = 27
  · exact L_tsIn (v := 27) (off := 1006) (tgt := 1039) C dL_33 g27 (by decide) (by decide) rfl (by decide) (law_27 C sX8_trace hRel h1 h2 h3 h4 h5 hcont)
  by_cases g28 : v = 28
  · exact L_tsIn (v := 28) (off := 1029) (tgt := 1062) C dL_33 g28 (by decide) (by decide) rfl (by decide) (law_28 C sX8_taken hRel h1 h2 h3 h4 h5 hcont)
  by_cases g29 : v = 29
  · exact L_tsIn (v := 29) (off := 1062) (tgt := 1095) C dL_33 g29 (by decide) (by decide) rfl (by decide) (law_29 C sX8_count hRel h1 h2 h3 h4 h5 hcont)
  by_cases g30 : v = 30
  · exact L_tsIn (v := 30) (off := 1085) (tgt := 1118) C dL_33 g30 (by decide) (by decide) rfl (by decide) (law_30 C sX8_tape hRel h1 h2 h3 h4 h5 hcont)
  by_cases g31 : v = 31
  · exact L_tsIn (v := 31) (off := 1128) (tgt := 1161) C dL_33 g31 (by decide) (by decide) rfl (by decide) (law_31 C sX8_item hRel h1 h2 h3 h4 h5 hcont)
  by_cases g32 : v = 32
  · exact L_tsIn (v := 32) (off := 1201) (tgt := 1234) C dL_33 g32 (by decide) (by decide) rfl (by decide) (law_32 C sX8_read hRel h1 h2 h3 h4 h5 hcont)
  by_cases g33 : v = 33
  · exact L_tsIn (v := 33) (off := 1235) (tgt := 1268) C dL_33 g33 (by decide) (by decide) rfl (by decide) (law_33 C sX8_shift hRel h1 h2 h3 h4 h5 hcont)
  refine L_tsOut (tgt := 1331) C dL_33 (?_) (by decide) (hcont uX uM hRel)
  have e0 := lv_neT (a := 0) g0 rfl
  have e1 := lv_neT (a := 1) g1 rfl
  have e2 := lv_neT (a := 2) g2 rfl
  have e3 := lv_neT (a := 3) g3 rfl
  have e4 := lv_neT (a := 4) g4 rfl
  have e5 := lv_neT (a := 5) g5 rfl
  have e6 := lv_neT (a := 6) g6 rfl
  have e7 := lv_neT (a := 7) g7 rfl
  have e8 := lv_neT (a := 8) g8 rfl
  have e9 := lv_neT (a := 9) g9 rfl
  have e10 := lv_neT (a := 10) g10 rfl
  have e11 := lv_neT (a := 11) g11 rfl
  have e12 := lv_neT (a := 12) g12 rfl
  have e13 := lv_neT (a := 13) g13 rfl
  have e14 := lv_neT (a := 14) g14 rfl
  have e15 := lv_neT (a := 15) g15 rfl
  have e16 := lv_neT (a := 16) g16 rfl
  have e17 := lv_neT (a := 17) g17 rfl
  have e18 := lv_neT (a := 18) g18 rfl
  have e19 := lv_neT (a := 19) g19 rfl
  have e20 := lv_neT (a := 20) g20 rfl
  have e21 := lv_neT (a := 21) g21 rfl
  have e22 := lv_neT (a := 22) g22 rfl
  have e23 := lv_neT (a := 23) g23 rfl
  have e24 := lv_neT (a := 24) g24 rfl
  have e25 := lv_neT (a := 25) g25 rfl
  have e26 := lv_neT (a := 26) g26 rfl
  have e27 := lv_neT (a := 27) g27 rfl
  have e28 := lv_neT (a := 28) g28 rfl
  have e29 := lv_neT (a := 29) g29 rfl
  have e30 := lv_neT (a := 30) g30 rfl
  have e31 := lv_neT (a := 31) g31 rfl
  have e32 := lv_neT (a := 32) g32 rfl
  have e33 := lv_neT (a := 33) g33 rfl
  omega
theorem law_loop (C : LwC p s m c b Ln xs aX aM dA D) (hr : meth.sig.returnType = ret) (hlocks : meth.locks = false) (hLn : Ln ≤ 3072) {Rel : zM → zM → Prop} (hs : zSims Rel) : ∀ (n i : Nat) (x3 : Int32) (uX uM : zM), i ≤ Ln + 6 → Ln + 1 ≤ i + n → x3 = nI i → Rel uX uM → GoL p l e s m below meth c b aX aM dA D x3 18 [] uX uM := by
  intro n
  induction n with
  | zero =>
    intro i x3 uX uM hi hn ex hRel
    refine L_iload3 C dL_18 ?_
    refine L_aload0 C dL_19 ?_
    refine L_slen C dL_20 ?_
    refine L_bipush (v := 6) C dL_21 (by decide) ?_
    refine L_isub C dL_23 ?_
    refine L_gt (tgt := 1337) C dL_24 (by decide) (fun _ => L_end C hr hlocks) (fun h => absurd ((lw_sub6 (i := i) (n := Ln) (by omega) (by omega)).mpr (by omega)) (by rw [ex] at h; exact h))
  | succ n ih =>
    intro i x3 uX uM hi hn ex hRel
    refine L_iload3 C dL_18 ?_
    refine L_aload0 C dL_19 ?_
    refine L_slen C dL_20 ?_
    refine L_bipush (v := 6) C dL_21 (by decide) ?_
    refine L_isub C dL_23 ?_
    refine L_gt (tgt := 1337) C dL_24 (by decide) (fun _ => L_end C hr hlocks) (fun h => ?_)
    have h6 : i + 6 ≤ Ln := by
      rcases Nat.lt_or_ge Ln (i + 6) with q | q
      · exact absurd ((lw_sub6 (i := i) (n := Ln) (by omega) (by omega)).mpr (by omega)) (by rw [ex] at h; exact h)
      · exact q
    have k1 : vp_in (x3 + 1) Ln := by rw [ex]; exact lw_in (k := 1) (by omega) (by omega)
    have k2 : vp_in (x3 + 2) Ln := by rw [ex]; exact lw_in (k := 2) (by omega) (by omega)
    have k3 : vp_in (x3 + 3) Ln := by rw [ex]; exact lw_in (k := 3) (by omega) (by omega)
    have k4 : vp_in (x3 + 4) Ln := by rw [ex]; exact lw_in (k := 4) (by omega) (by omega)
    have k5 : vp_in (x3 + 5) Ln := by rw [ex]; exact lw_in (k := 5) (by omega) (by omega)
    have k0 : vp_in x3 Ln := by rw [ex]; exact vp_in_nI (by omega) (by omega)
    refine L_aload0 C dL_27 ?_
    refine L_iload3 C dL_28 ?_
    refine L_sld C k0 dL_29 ?_
    refine L_bipush (v := 63) C dL_30 (by decide) ?_
    refine L_iand C dL_32 ?_
    refine law_step C hs hRel k1 k2 k3 k4 k5 (fun uX uM hRel => ?_) _
    refine L_iinc (v := 6) C dL_1331 (by decide) ?_
    refine L_goto (tgt := 18) C dL_1334 (by decide) ?_
    exact ih (i + 6) _ uX uM (by omega) (by omega) (by rw [ex]; exact nI_add i 6) hRel
end LawLoop
