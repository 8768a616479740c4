theorem rS_plan {w w2 : xw_M} {R : Nat} {g' : Nat → Int32} (hs : rS w.1 1 (w.1 120) R) (hw : ∀ k, 1 ≤ k → k < 17 → (k < 11 ∨ 14 ≤ k) → w2.1 k = w.1 k) (hg : ∀ j, (j < 75 ∨ 91 < j) → g' j = w.1 120 j) (hp : ∀ N, w.1 1 0 = nI N → N ≤ 6 → rP (w.1 11) (w.1 12) (w.1 13) (w.1 120) 75 8 (okP N) → rP (w2.1 11) (w2.1 12) (w2.1 13) g' 75 8 (okP N)) : rS w2.1 1 g' R := by
  obtain ⟨N, M, b1, b2, b3, b4, b5, bM, bD, bS, bP, bB⟩ := hs
  refine ⟨N, M, b1, b2, ?_, ?_, ?_, ?_, ?_, ?_, ?_, ?_⟩
  · rw [hw 1 (by omega) (by omega) (by omega)]; exact b3
  · rw [hg 60 (by omega)]; exact b4
  · rw [hw 1 (by omega) (by omega) (by omega)]; exact b5
  · rw [hw (1 + 1) (by omega) (by omega) (by omega), hw (1 + 2) (by omega) (by omega) (by omega), hw (1 + 3) (by omega) (by omega) (by omega), hw (1 + 4) (by omega) (by omega) (by omega), hw (1 + 5) (by omega) (by omega) (by omega), hw (1 + 6) (by omega) (by omega) (by omega)]
    exact rM_g b1 (fun j hj => hg j (by omega)) bM
  · rw [hw 1 (by omega) (by omega) (by omega)]
    exact rD_g (hg 61 (by omega)) (hg 62 (by omega)) (hg 63 (by omega)) bD
  · rw [hw (1 + 7) (by omega) (by omega) (by omega), hw (1 + 8) (by omega) (by omega) (by omega), hw (1 + 9) (by omega) (by omega) (by omega)]
    exact rP_g (fun j h1 h2 => hg j (by omega)) bS
  · exact hp N b3 b1 bP
  · rw [hw (1 + 13) (by omega) (by omega) (by omega), hw (1 + 14) (by omega) (by omega) (by omega), hw (1 + 15) (by omega) (by omega) (by omega)]
    exact rP_g (fun j h1 h2 => hg j (by omega)) bB
theorem rS_book {w w2 : xw_M} {R : Nat} {g' : Nat → Int32} (hs : rS w.1 1 (w.1 120) R) (hw : ∀ k, 1 ≤ k → k < 17 → (k < 14 ∨ 17 ≤ k) → w2.1 k = w.1 k) (hg : ∀ j, (j < 92 ∨ 108 < j) → g' j = w.1 120 j) (hp : ∀ N, w.1 1 0 = nI N → N ≤ 6 → rP (w.1 14) (w.1 15) (w.1 16) (w.1 120) 92 8 (okS N) → rP (w2.1 14) (w2.1 15) (w2.1 16) g' 92 8 (okS N)) : rS w2.1 1 g' R := by
  obtain ⟨N, M, b1, b2, b3, b4, b5, bM, bD, bS, bP, bB⟩ := hs
  refine ⟨N, M, b1, b2, ?_, ?_, ?_, ?_, ?_, ?_, ?_, ?_⟩
  · rw [hw 1 (by omega) (by omega) (by omega)]; exact b3
  · rw [hg 60 (by omega)]; exact b4
  · rw [hw 1 (by omega) (by omega) (by omega)]; exact b5
  · rw [hw (1 + 1) (by omega) (by omega) (by omega), hw (1 + 2) (by omega) (by omega) (by omega), hw (1 + 3) (by omega) (by omega) (by omega), hw (1 + 4) (by omega) (by omega) (by omega), hw (1 + 5) (by omega) (by omega) (by omega), hw (1 + 6) (by omega) (by omega) (by omega)]
    exact rM_g b1 (fun j hj => hg j (by omega)) bM
  · rw [hw 1 (by omega) (by omega) (by omega)]
    exact rD_g (hg 61 (by omega)) (hg 62 (by omega)) (hg 63 (by omega)) bD
  · rw [hw (1 + 7) (by omega) (by omega) (by omega), hw (1 + 8) (by omega) (by omega) (by omega), hw (1 + 9) (by omega) (by omega) (by omega)]
    exact rP_g (fun j h1 h2 => hg j (by omega)) bS
  · rw [hw (1 + 10) (by omega) (by omega) (by omega), hw (1 + 11) (by omega) (by omega) (by omega), hw (1 + 12) (by omega) (by omega) (by omega)]
    exact rP_g (fun j h1 h2 => hg j (by omega)) bP
  · exact hp N b3 b1 bB
theorem st_plan_add {w : xw_M} {R N z : Nat} {a1 a2 : Int32} (hR : Rel w) (c1 : R ≤ 6) (a6 : w.1 0 6 = nI R) (hS : rS w.1 1 (w.1 120) R) (b1 : N ≤ 6) (b3 : w.1 1 0 = nI N) (s2 : w.1 (1 + 10) 3 = nI z) (hz5 : z < 8) (hok : okP N a1 a2) {w1 : xw_M} (ew1 : w1 = xw_si (xw_si (xw_si w (1 + 10 + 1) z a1) (1 + 10 + 2) z a2) (1 + 10) 3 (nI (z + 1))) (g0 : w1.1 120 = w.1 120) : Rel (xw_si (xw_si (xw_si w1 120 (76 + 2 * z) a1) 120 (77 + 2 * z) a2) 120 75 (nI (z + 1))) := by
  refine Rel_now hR a6 c1 (fun k q1 q2 => ?_) (by show w1.2 = w.2; rw [ew1]; rfl) ?_
  · rw [pu_si0 _ _ _ q2, pu_si0 _ _ _ q2, pu_si0 _ _ _ q2, ew1, pu_si0 _ _ _ (by omega), pu_si0 _ _ _ (by omega), pu_si0 _ _ _ (by omega)]
  · have hg : ∀ j, (xw_si (xw_si (xw_si w1 120 (76 + 2 * z) a1) 120 (77 + 2 * z) a2) 120 75 (nI (z + 1))).1 120 j = if j = 75 then nI (z + 1) else if j = 77 + 2 * z then a2 else if j = 76 + 2 * z then a1 else w.1 120 j := by
      intro j
      simp only [pu_si1, upd, g0]
    generalize (xw_si (xw_si (xw_si w1 120 (76 + 2 * z) a1) 120 (77 + 2 * z) a2) 120 75 (nI (z + 1))).1 120 = g' at hg ⊢
    refine rS_plan hS (fun k h1 h2 h3 => ?_) (fun j hj => by rw [hg, if_neg (by omega), if_neg (by omega), if_neg (by omega)]) (fun N' e' _ hp => ?_)
    · rw [pu_si0 _ _ _ (by omega), pu_si0 _ _ _ (by omega), pu_si0 _ _ _ (by omega), ew1, pu_si0 _ _ _ (by omega), pu_si0 _ _ _ (by omega), pu_si0 _ _ _ (by omega)]
    · have eN : N' = N := (nI_eq (by omega) (by omega)).mp (e'.symm.trans b3)
      subst eN
      have := rP_push (g' := g') (a := a1) (c := a2) hp (by omega) s2 hz5 (by rw [hg, if_pos rfl]) (by rw [hg, if_neg (by omega), if_neg (by omega), if_pos (by omega)]) (by rw [hg, if_neg (by omega), if_pos (by omega)]) (fun r hr => ⟨by rw [hg, if_neg (by omega), if_neg (by omega), if_neg (by omega)], by rw [hg, if_neg (by omega), if_neg (by omega), if_neg (by omega)]⟩) (hok)
      simpa only [pu_sg, Nat.reduceAdd, Nat.reduceEqDiff, reduceIte, ew1] using this
theorem st_book_add {w : xw_M} {R N z : Nat} {a1 a2 : Int32} (hR : Rel w) (c1 : R ≤ 6) (a6 : w.1 0 6 = nI R) (hS : rS w.1 1 (w.1 120) R) (b1 : N ≤ 6) (b3 : w.1 1 0 = nI N) (s2 : w.1 (1 + 13) 3 = nI z) (hz5 : z < 8) (hok : okS N a1 a2) {w1 : xw_M} (ew1 : w1 = xw_si (xw_si (xw_si w (1 + 13 + 1) z a1) (1 + 13 + 2) z a2) (1 + 13) 3 (nI (z + 1))) (g0 : w1.1 120 = w.1 120) : Rel (xw_si (xw_si (xw_si w1 120 (93 + 2 * z) a1) 120 (94 + 2 * z) a2) 120 92 (nI (z + 1))) := by
  refine Rel_now hR a6 c1 (fun k q1 q2 => ?_) (by show w1.2 = w.2; rw [ew1]; rfl) ?_
  · rw [pu_si0 _ _ _ q2, pu_si0 _ _ _ q2, pu_si0 _ _ _ q2, ew1, pu_si0 _ _ _ (by omega), pu_si0 _ _ _ (by omega), pu_si0 _ _ _ (by omega)]
  · have hg : ∀ j, (xw_si (xw_si (xw_si w1 120 (93 + 2 * z) a1) 120 (94 + 2 * z) a2) 120 92 (nI (z + 1))).1 120 j = if j = 92 then nI (z + 1) else if j = 94 + 2 * z then a2 else if j = 93 + 2 * z then a1 else w.1 120 j := by
      intro j
      simp only [pu_si1, upd, g0]
    generalize (xw_si (xw_si (xw_si w1 120 (93 + 2 * z) a1) 120 (94 + 2 * z) a2) 120 92 (nI (z + 1))).1 120 = g' at hg ⊢
    refine rS_book hS (fun k h1 h2 h3 => ?_) (fun j hj => by rw [hg, if_neg (by omega), if_neg (by omega), if_neg (by omega)]) (fun N' e' _ hp => ?_)
    · rw [pu_si0 _ _ _ (by omega), pu_si0 _ _ _ (by omega), pu_si0 _ _ _ (by omega), ew1, pu_si0 _ _ _ (by omega), pu_si0 _ _ _ (by omega), pu_si0 _ _ _ (by omega)]
    · have eN : N' = N := (nI_eq (by omega) (by omega)).mp (e'.symm.trans b3)
      subst eN
      have := rP_push (g' := g') (a := a1) (c := a2) hp (by omega) s2 hz5 (by rw [hg, if_pos rfl]) (by rw [hg, if_neg (by omega), if_neg (by omega), if_pos (by omega)]) (by rw [hg, if_neg (by omega), if_pos (by omega)]) (fun r hr => ⟨by rw [hg, if_neg (by omega), if_neg (by omega), if_neg (by omega)], by rw [hg, if_neg (by omega), if_neg (by omega), if_neg (by omega)]⟩) (hok)
      simpa only [pu_sg, Nat.reduceAdd, Nat.reduceEqDiff, reduceIte, ew1] using this
theorem st_book (n : Nat) : xs_book n Rel := by
  intro a1 a2 w hR
  have hR0 := hR
  obtain ⟨R, c1, hS, -, -, -, a6, -⟩ := hR0
  have hS0 := hS
  obtain ⟨N, M, b1, b2, b3, b4, b5, bM, bD, bS, bP, bB⟩ := hS0
  have eo : (92 : Int32) = nI 92 := rfl
  by_cases h0 : a1 = -1
  · refine ⟨0, xw_si w (1 + 13) 3 0, xw_si (xw_si w (1 + 13) 3 0) 120 92 0, ?_, ?_, ?_⟩
    · unfold fX7_book
      rw [if_pos h0, pu_pempty, pu_b]
    · unfold fX8_book
      rw [if_pos h0]
      simp only [eo, pu_now 92 (by decide), pu_cl (show 92 < 2 ^ 31 by decide), pu_lt]
    · refine Rel_now hR a6 c1 (fun k h1 h2 => by rw [pu_si0 _ _ _ h2, pu_si0 _ _ _ (by omega)]) rfl ?_
      rw [pu_si1, pu_si0 _ _ _ (show (120 : Nat) ≠ 1 + 13 by decide)]
      refine rS_book hS (fun k h1 h2 h3 => by rw [pu_si0 _ _ _ (by omega), pu_si0 _ _ _ (by omega)]) (fun j hj => pk_un (by omega)) (fun N' _ _ hp => ?_)
      simp only [pu_sg, Nat.reduceAdd, Nat.reduceEqDiff, reduceIte]
      exact rP_nil hp pk_us
  by_cases h1 : 0 ≤ a1 ∧ a1 < nI N
  case neg => exact ⟨-1, w, w, by unfold fX7_book; simp only [if_neg h0, pu_has a1 b3, pu_bp, pu_biF h1, reduceIte], by unfold fX8_book; simp only [if_neg h0, pu_isOne a1 b1 b4, pu_bp, pu_biF h1, reduceIte], hR⟩
  by_cases h2 : 0 ≤ a2 ∧ a2 ≤ 9
  case neg => exact ⟨-1, w, w, by unfold fX7_book; simp only [if_neg h0, pu_has a1 b3, pu_within, pu_bp, pu_biT h1, pu_biF h2, pu_10, reduceIte], by unfold fX8_book; simp only [if_neg h0, pu_isOne a1 b1 b4, pu_isYard, pu_bp, pu_biT h1, pu_biF h2, pu_10, reduceIte], hR⟩
  obtain ⟨i, hi, hai⟩ := (pu_bnd (by omega)).mp h1
  obtain ⟨s0, z, s1, s2, s3, s4⟩ := id bB
  by_cases hz : z = 8
  · refine ⟨-4, w, w, ?_, ?_, hR⟩
    · unfold fX7_book
      simp only [if_neg h0, pu_has a1 b3, pu_within, pu_bp, pu_biT h1, pu_biT h2, pu_10, reduceIte, pu_pfull a1 a2 w s0 s2 (by omega) (by omega) (by omega), pu_b]
    · unfold fX8_book
      simp only [if_neg h0, pu_isOne a1 b1 b4, pu_isYard, pu_bp, pu_biT h1, pu_biT h2, pu_10, reduceIte, eo, pu_now 92 (by decide), pu_cl (show 92 < 2 ^ 31 by decide)]
      rw [s3, hz, if_pos (by rfl)]
  have hz5 : z < 8 := by omega
  obtain ⟨w1, ew1⟩ : ∃ u, u = xw_si (xw_si (xw_si w (1 + 13 + 1) z a1) (1 + 13 + 2) z a2) (1 + 13) 3 (nI (z + 1)) := ⟨_, rfl⟩
  have g0 : w1.1 120 = w.1 120 := by rw [ew1]; simp only [pu_sg, Nat.reduceAdd, Nat.reduceEqDiff, reduceIte]
  have i1 : (93 : Int32) + (2 : Int32) * nI z = nI (93 + 2 * z) := by rw [show (2 : Int32) = nI 2 from rfl, show (93 : Int32) = nI 93 from rfl, pk_mul, nI_add]
  have i2 : (94 : Int32) + (2 : Int32) * nI z = nI (94 + 2 * z) := by rw [show (2 : Int32) = nI 2 from rfl, show (94 : Int32) = nI 94 from rfl, pk_mul, nI_add]
  have e5 : ¬ nI z = (8 : Int32) := fun q => hz ((nI_eq (b := 8) (by omega) (by decide)).mp q)
  refine ⟨nI (z + 1), w1, xw_si (xw_si (xw_si w1 120 (93 + 2 * z) a1) 120 (94 + 2 * z) a2) 120 92 (nI (z + 1)), ?_, ?_, st_book_add hR c1 a6 hS b1 b3 s2 hz5 ⟨i, hi, hai⟩ ew1 g0⟩
  · unfold fX7_book
    simp only [if_neg h0, pu_has a1 b3, pu_within, pu_bp, pu_biT h1, pu_biT h2, pu_10, reduceIte, pu_padd a1 a2 w s0 s2 (by omega) hz5, pu_b]
    rw [ew1]
  · unfold fX8_book
    simp only [if_neg h0, pu_isOne (w := w1) (N := N) a1 b1 (by rw [g0]; exact b4), pu_isYard, pu_bp, pu_biT h1, pu_biT h2, pu_10, reduceIte, eo, pu_now 92 (by decide), pu_cl (show 92 < 2 ^ 31 by decide), pu_si1, g0, s3, if_neg e5, i1, i2, pu_lt, pu_now (93 + 2 * z) (by omega), pu_cl (show 93 + 2 * z < 2 ^ 31 by omega), pk_un (f := w.1 120) (k := 93 + 2 * z) (j := 92) (x := a1) (by omega), pu_now (94 + 2 * z) (by omega), pu_cl (show 94 + 2 * z < 2 ^ 31 by omega)]
    rw [pk_un (k := 94 + 2 * z) (j := 92) (by omega), pk_un (k := 93 + 2 * z) (j := 92) (by omega), s3, nI_1, pk_us]
theorem st_plan (n : Nat) : xs_plan n Rel := by
  intro a1 a2 w hR
  have hR0 := hR
  obtain ⟨R, c1, hS, -, -, -, a6, -⟩ := hR0
  have hS0 := hS
  obtain ⟨N, M, b1, b2, b3, b4, b5, bM, bD, bS, bP, bB⟩ := hS0
  have eo : (75 : Int32) = nI 75 := rfl
  by_cases h0 : a1 = -1
  · refine ⟨0, xw_si w (1 + 10) 3 0, xw_si (xw_si w (1 + 10) 3 0) 120 75 0, ?_, ?_, ?_⟩
    · unfold fX7_plan
      rw [if_pos h0, pu_pempty, pu_b]
    · unfold fX8_plan
      rw [if_pos h0]
      simp only [eo, pu_now 75 (by decide), pu_cl (show 75 < 2 ^ 31 by decide), pu_lt]
    · refine Rel_now hR a6 c1 (fun k h1 h2 => by rw [pu_si0 _ _ _ h2, pu_si0 _ _ _ (by omega)]) rfl ?_
      rw [pu_si1, pu_si0 _ _ _ (show (120 : Nat) ≠ 1 + 10 by decide)]
      refine rS_plan hS (fun k h1 h2 h3 => by rw [pu_si0 _ _ _ (by omega), pu_si0 _ _ _ (by omega)]) (fun j hj => pk_un (by omega)) (fun N' _ _ hp => ?_)
      simp only [pu_sg, Nat.reduceAdd, Nat.reduceEqDiff, reduceIte]
      exact rP_nil hp pk_us
  obtain ⟨s0, z, s1, s2, s3, s4⟩ := id bP
  have key : okP N a1 a2 → ∃ (r : Int32) (w1 w2 : xw_M), fX7_plan_41 a1 a2 w = some (r, w1) ∧ fX8_plan_38 a1 a2 w1 = some (r, w2) ∧ w1.1 120 = w.1 120 ∧ Rel w2 := by
    intro hok
    by_cases hz : z = 8
    · refine ⟨-4, w, w, ?_, ?_, rfl, hR⟩
      · unfold fX7_plan_41
        simp only [pu_pfull a1 a2 w s0 s2 (by omega) (by omega) (by omega), pu_b]
      · unfold fX8_plan_38
        simp only [eo, pu_now 75 (by decide), pu_cl (show 75 < 2 ^ 31 by decide)]
        rw [s3, hz, if_pos (by rfl)]
    have hz5 : z < 8 := by omega
    obtain ⟨w1, ew1⟩ : ∃ u, u = xw_si (xw_si (xw_si w (1 + 10 + 1) z a1) (1 + 10 + 2) z a2) (1 + 10) 3 (nI (z + 1)) := ⟨_, rfl⟩
    have g0 : w1.1 120 = w.1 120 := by rw [ew1]; simp only [pu_sg, Nat.reduceAdd, Nat.reduceEqDiff, reduceIte]
    have i1 : (76 : Int32) + (2 : Int32) * nI z = nI (76 + 2 * z) := by rw [show (2 : Int32) = nI 2 from rfl, show (76 : Int32) = nI 76 from rfl, pk_mul, nI_add]
    have i2 : (77 : Int32) + (2 : Int32) * nI z = nI (77 + 2 * z) := by rw [show (2 : Int32) = nI 2 from rfl, show (77 : Int32) = nI 77 from rfl, pk_mul, nI_add]
    have e5 : ¬ nI z = (8 : Int32) := fun q => hz ((nI_eq (b := 8) (by omega) (by decide)).mp q)
    refine ⟨nI (z + 1), w1, xw_si (xw_si (xw_si w1 120 (76 + 2 * z) a1) 120 (77 + 2 * z) a2) 120 75 (nI (z + 1)), ?_, ?_, g0, st_plan_add hR c1 a6 hS b1 b3 s2 hz5 hok ew1 g0⟩
    · unfold fX7_plan_41
      simp only [pu_padd a1 a2 w s0 s2 (by omega) hz5, pu_b]
      rw [ew1]
    · unfold fX8_plan_38
      simp only [eo, pu_now 75 (by decide), pu_cl (show 75 < 2 ^ 31 by decide), pu_si1, g0, s3, if_neg e5, i1, i2, pu_lt, pu_now (76 + 2 * z) (by omega), pu_cl (show 76 + 2 * z < 2 ^ 31 by omega), pk_un (f := w.1 120) (k := 76 + 2 * z) (j := 75) (x := a1) (by omega), pu_now (77 + 2 * z) (by omega), pu_cl (show 77 + 2 * z < 2 ^ 31 by omega)]
      rw [pk_un (k := 77 + 2 * z) (j := 75) (by omega), pk_un (k := 76 + 2 * z) (j := 75) (by omega), s3, nI_1, pk_us]
  by_cases h1 : 0 ≤ a1 ∧ a1 ≤ 3
  case neg => exact ⟨-1, w, w, by unfold fX7_plan; simp only [if_neg h0, pu_within, pu_bp, pu_biF h1, reduceIte], by unfold fX8_plan; simp only [if_neg h0, pu_isIn, pu_bp, pu_biF h1, reduceIte], hR⟩
  obtain ⟨k, hk, rfl⟩ := pu_ex (n := 3) (by decide) h1
  by_cases hk0 : k = 0
  · subst hk0
    obtain ⟨r, w1, w2, k1, k2, -, k3⟩ := key (Or.inl rfl)
    refine ⟨r, w1, w2, ?_, ?_, k3⟩
    · unfold fX7_plan
      simp only [if_neg h0, pu_within, pu_bp, pu_biT h1, pu_10, reduceIte, if_pos (show (nI 0 : Int32) = 0 from rfl)]
      exact k1
    · unfold fX8_plan
      simp only [if_neg h0, pu_isIn, pu_bp, pu_biT h1, pu_10, reduceIte, if_pos (show (nI 0 : Int32) ≤ 0 from nI_le (Nat.le_refl 0) (by decide))]
      exact k2
  have e1 : ¬ (nI k : Int32) = 0 := nI_ne0 (by omega) (by omega)
  have e2 : ¬ (nI k : Int32) ≤ 0 := nI_nle (by omega) (by omega)
  by_cases h2 : 0 ≤ a2 ∧ a2 < nI N
  case neg => exact ⟨-1, w, w, by unfold fX7_plan; simp only [if_neg h0, pu_within, pu_has a2 b3, pu_bp, pu_biT h1, pu_biF h2, pu_10, if_neg e1, reduceIte], by unfold fX8_plan; simp only [if_neg h0, pu_isIn, pu_isOne a2 b1 b4, pu_bp, pu_biT h1, pu_biF h2, pu_10, if_neg e2, reduceIte], hR⟩
  obtain ⟨r, w1, w2, k1, k2, k4, k3⟩ := key (Or.inr ⟨by rcases (show k = 1 ∨ k = 2 ∨ k = 3 by omega) with rfl | rfl | rfl; exact Or.inl rfl; exact Or.inr (Or.inl rfl); exact Or.inr (Or.inr rfl), (pu_bnd (by omega)).mp h2⟩)
  refine ⟨r, w1, w2, ?_, ?_, k3⟩
  · unfold fX7_plan
    simp only [if_neg h0, pu_within, pu_has a2 b3, pu_bp, pu_biT h1, pu_biT h2, pu_10, if_neg e1, reduceIte]
    exact k1
  · unfold fX8_plan
    simp only [if_neg h0, pu_isIn, pu_isOne (w := w1) (N := N) a2 b1 (by rw [k4]; exact b4), pu_bp, pu_biT h1, pu_biT h2, pu_10, if_neg e2, reduceIte]
    exact k2
