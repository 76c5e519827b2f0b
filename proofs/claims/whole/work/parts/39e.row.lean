/-! ===== PURE: the row's door ===== -/
theorem mul4c (i c : Nat) : (4 : Int32) * nI i + nI c = nI (4 * i + c) := by
  rw [show (4 : Int32) = nI 4 from rfl, ← nI_add]
  congr 1
  exact (Int32.ofNat_mul 4 i).symm
theorem mulc4 (i c : Nat) : nI i * (4 : Int32) + nI c = nI (4 * i + c) := by
  rw [Int32.mul_comm]
  exact mul4c i c
theorem row_sim {uX w : zM} (h : RPpl uX w) (p1 p2 p3 : Int32) : ∃ r uX' w', f_X8_row p1 p2 p3 uX = some (r, uX') ∧ f_X9_row p1 p2 p3 w = some (r, w') ∧ RPpl uX' w' ∧ ((uX' = uX ∧ w' = w) ∨ ∃ i x, i < 24 ∧ uX' = sI uX 7 i x ∧ w' = sI w 4 i x) := by
  obtain ⟨n, hn, e1, e2, hp⟩ := id h
  unfold f_X8_row f_X9_row
  rcases nI_in_or (n := n) (by omega) p1 with ⟨i, hi, rfl⟩ | ho
  · rw [has1_t e1 hn hi, is1_t e2 hn hi, zb_s, zb_s, if1, if1]
    rcases nI_in_or (n := 4) (by decide) p2 with ⟨c, hc, rfl⟩ | ho2
    · rw [show f_X8_isWithin (nI c) 0 3 uX = some (1, uX) from wi_t (a := 0) (b := 3) (by omega) (by decide) _, show f_X9_in (nI c) 0 3 w = some (1, w) from in_t (a := 0) (b := 3) (by omega) (by decide) _, zb_s, zb_s, if1, if1]
      rcases nI_in_or (n := 10) (by decide) p3 with ⟨g, hg, rfl⟩ | ho3
      · rw [show f_X8_isWithin (nI g) 0 9 uX = some (1, uX) from wi_t (a := 0) (b := 9) (by omega) (by decide) _, show f_X9_in (nI g) 0 9 w = some (1, w) from in_t (a := 0) (b := 9) (by omega) (by decide) _, zb_s, zb_s, if1, if1]
        obtain ⟨⟨K, q1, q2, q3⟩, v, t, hr⟩ := hp i hi
        rw [inB_n (show i < 6 by omega) (by decide), zck_t, zck_t, nI_cl (n := i) (by omega), q2, q3]
        by_cases h6 : nI K = (6 : Int32)
        · obtain ⟨y, y1, y2, y3⟩ := hr c hc
          refine ⟨nI y, sI uX 7 (4 * i + c) (nI g), sI w 4 (4 * i + c) (nI g), ?_, ?_, ⟨n, hn, ?_, ?_, fun k hk => ?_⟩, Or.inr ⟨4 * i + c, nI g, by omega, rfl, rfl⟩⟩
          · rw [if_pos h6, zlx_s, mulc4, inB_n (show 4 * i + c < 24 by omega) (by decide), zck_t, zlx_s, zck_t, zlet_s, nI_cl (by omega), y2]
          · rw [if_pos h6, mul4c, inB_n (show 4 * i + c < 24 by omega) (by decide), zck_t, zlx_s, zck_t, zlet_s, nI_cl (by omega), y3]
          · rw [gI_sI, if_neg (by omega)]
            exact e1
          · rw [gI_sI, if_neg (by omega)]
            exact e2
          · obtain ⟨⟨K2, k1, k2, k3⟩, ⟨V, v1, v2, v3⟩, ⟨z, z1, z2, z3⟩, hr⟩ := hp k hk
            refine ⟨⟨K2, k1, ?_, ?_⟩, ⟨V, v1, ?_, ?_⟩, ⟨z, z1, ?_, ?_⟩, fun c' hc' => ?_⟩
            · rw [gI_sI, if_neg (by omega)]
              exact k2
            · rw [gI_sI, if_neg (by omega)]
              exact k3
            · rw [gI_sI, if_neg (by omega)]
              exact v2
            · rw [gI_sI, if_neg (by omega)]
              exact v3
            · rw [gI_sI, if_neg (by omega)]
              exact z2
            · rw [gI_sI, if_neg (by omega)]
              exact z3
            · obtain ⟨y', b1, b2, b3⟩ := hr c' hc'
              by_cases hki : 4 * k + c' = 4 * i + c
              · exact ⟨g, by omega, by rw [gI_sI, if_pos ⟨rfl, hki⟩], by rw [gI_sI, if_pos ⟨rfl, hki⟩]⟩
              · exact ⟨y', b1, by rw [gI_sI, if_neg (by omega)]; exact b2, by rw [gI_sI, if_neg (by omega)]; exact b3⟩
        · rw [if_neg h6, if_neg h6]
          exact ⟨-3, uX, w, rfl, rfl, h, Or.inl ⟨rfl, rfl⟩⟩
      · rw [show f_X8_isWithin p3 0 9 uX = some (0, uX) from wi_f (n := 9) (by decide) ho3 _, show f_X9_in p3 0 9 w = some (0, w) from in_f (n := 9) (by decide) ho3 _]
        exact ⟨-2, uX, w, rfl, rfl, h, Or.inl ⟨rfl, rfl⟩⟩
    · rw [show f_X8_isWithin p2 0 3 uX = some (0, uX) from wi_f (n := 3) (by decide) ho2 _, show f_X9_in p2 0 3 w = some (0, w) from in_f (n := 3) (by decide) ho2 _]
      exact ⟨-1, uX, w, rfl, rfl, h, Or.inl ⟨rfl, rfl⟩⟩
  · rw [has1_f e1 ho, is1_f e2 hn ho]
    exact ⟨-1, uX, w, rfl, rfl, h, Or.inl ⟨rfl, rfl⟩⟩
