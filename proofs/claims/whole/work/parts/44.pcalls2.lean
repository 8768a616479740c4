/-! ===== mourner, the told rows ===== -/
theorem pu_clear {n i : Nat} (a1 a2 a3 a4 : Int32) (hn : 2000 ≤ n) (hi : i < 6) (w : xw_M) : ∃ w', xw_it (fun z => fX8_mourner_b65 n a1 a2 a3 a4 (nI i) z.1 z.2) n (nI 0, w) = some w' ∧ (∀ k, k ≠ 120 → w'.1 k = w.1 k) ∧ w'.2 = w.2 ∧ ∀ j, w'.1 120 j = if 10 * i ≤ j ∧ j < 10 * i + 10 then 0 else w.1 120 j := by
  refine pu_inv (fun z => fX8_mourner_b65 n a1 a2 a3 a4 (nI i) z.1 z.2) (fun k z => k ≤ 10 ∧ z.1 = nI k ∧ (∀ q, q ≠ 120 → z.2.1 q = w.1 q) ∧ z.2.2 = w.2 ∧ ∀ j, z.2.1 120 j = if 10 * i ≤ j ∧ j < 10 * i + k then 0 else w.1 120 j) 10 _ ?_ ?_ n 0 (nI 0, w) (by omega) (by omega) ⟨by omega, rfl, fun _ _ => rfl, rfl, fun j => by rw [if_neg (by omega)]⟩
  · rintro k ⟨x, u⟩ hk ⟨-, rfl, h1, h2, h3⟩
    refine Or.inl ⟨(nI (k + 1), xw_si u 120 (10 * i + k) 0), ?_, by omega, rfl, fun q hq => by rw [pu_si0 _ _ _ hq]; exact h1 q hq, h2, fun j => ?_⟩
    · show fX8_mourner_b65 n a1 a2 a3 a4 (nI i) (nI k) u = _
      unfold fX8_mourner_b65
      rw [show (10 : Int32) = nI 10 from rfl, if_neg (nI_ge hk (by decide)), pu_change _ _ (by omega), pu_b, pu_lt, nI_1]
    · show (xw_si u 120 (10 * i + k) 0).1 120 j = _
      rw [pu_si1]
      by_cases e : j = 10 * i + k
      · rw [e, pk_us, if_pos (by omega)]
      · rw [pk_un e, h3 j]
        by_cases q : 10 * i ≤ j ∧ j < 10 * i + k
        · rw [if_pos q, if_pos (by omega)]
        · rw [if_neg q, if_neg (by omega)]
  · rintro ⟨x, u⟩ ⟨-, rfl, h1, h2, h3⟩
    refine ⟨u, ?_, h1, h2, h3⟩
    show fX8_mourner_b65 n a1 a2 a3 a4 (nI i) (nI 10) u = _
    unfold fX8_mourner_b65
    rw [show (10 : Int32) = nI 10 from rfl, if_pos (nI_le (Nat.le_refl _) (by decide))]
theorem st_mourner (n : Nat) (hn : 2000 ≤ n) : xs_mourner n Rel := by
  intro a1 a2 a3 a4 w hR
  have hR0 := hR
  obtain ⟨R, c1, ⟨N, M, b1, b2, b3, b4, b5, bM, bD, bS, bP, bB⟩, -, -, -, a6, -⟩ := hR0
  by_cases h1 : 0 ≤ a1 ∧ a1 ≤ 6
  case neg => exact ⟨-1, w, w, by unfold fX7_mourner; simp only [pu_within, pu_bp, pu_biF h1, reduceIte], by unfold fX8_mourner; simp only [pu_isIn, pu_bp, pu_biF h1, reduceIte], hR⟩
  by_cases h4 : 0 ≤ a4 ∧ a4 ≤ 9
  case neg => exact ⟨-1, w, w, by unfold fX7_mourner; simp only [pu_within, pu_bp, pu_biT h1, pu_biF h4, pu_10, reduceIte], by unfold fX8_mourner; simp only [pu_isIn, pu_isYard, pu_bp, pu_biT h1, pu_biF h4, pu_10, reduceIte], hR⟩
  by_cases h2 : 0 ≤ a2 ∧ a2 ≤ 9
  case neg => exact ⟨-2, w, w, by unfold fX7_mourner; simp only [pu_within, pu_bp, pu_biT h1, pu_biT h4, pu_biF h2, pu_10, reduceIte], by unfold fX8_mourner; simp only [pu_isIn, pu_isYard, pu_bp, pu_biT h1, pu_biT h4, pu_biF h2, pu_10, reduceIte], hR⟩
  by_cases h3 : 0 ≤ a3 ∧ a3 ≤ 20
  case neg => exact ⟨-2, w, w, by unfold fX7_mourner; simp only [pu_within, pu_bp, pu_biT h1, pu_biT h4, pu_biT h2, pu_biF h3, pu_10, reduceIte], by unfold fX8_mourner; simp only [pu_isIn, pu_isYard, pu_bp, pu_biT h1, pu_biT h4, pu_biT h2, pu_biF h3, pu_10, reduceIte], hR⟩
  have e60 : (60 : Int32) = nI 60 := rfl
  by_cases h6 : N = 6
  · refine ⟨-4, w, w, ?_, ?_, hR⟩
    · unfold fX7_mourner
      simp only [pu_within, pu_bp, pu_biT h1, pu_biT h4, pu_biT h2, pu_biT h3, pu_10, reduceIte]
      rw [b3, h6, if_neg (by decide)]
    · unfold fX8_mourner
      simp only [pu_isIn, pu_isYard, pu_bp, pu_biT h1, pu_biT h4, pu_biT h2, pu_biT h3, pu_10, reduceIte, e60, pu_now 60 (by decide), pu_cl (show 60 < 2 ^ 31 by decide), pu_lt]
      rw [b4, h6, if_pos (by rfl)]
  have hN : N < 6 := by omega
  obtain ⟨k, hk, rfl⟩ := pu_ex (n := 6) (by decide) h1
  obtain ⟨y, hy, rfl⟩ := pu_ex (n := 9) (by decide) h4
  obtain ⟨w1, ew1⟩ : ∃ z, z = xw_si (xw_si (xw_si (xw_si (xw_si w (1 + 1) N (nI k)) (1 + 2) N a2) (1 + 3) N a3) (1 + 4) N (nI y)) 1 0 (nI (N + 1)) := ⟨_, rfl⟩
  have g0 : w1.1 120 = w.1 120 := by rw [ew1]; simp only [pu_sg, Nat.reduceAdd, Nat.reduceEqDiff, reduceIte]
  obtain ⟨w2, f1, f2, f3, f4⟩ := pu_clear (nI k) a2 a3 (nI y) hn hN w1
  refine ⟨nI N, w1, xw_si (xw_si (xw_si (xw_si (xw_si w2 120 (10 * N + 0) (nI k)) 120 (10 * N + 1) a2) 120 (10 * N + 2) a3) 120 (10 * N + 3) (nI y)) 120 60 (nI (N + 1)), ?_, ?_, ?_⟩
  · unfold fX7_mourner
    simp only [pu_within, pu_bp, pu_biT h1, pu_biT h4, pu_biT h2, pu_biT h3, pu_10, reduceIte]
    rw [b3, if_pos (show nI N < (6 : Int32) from nI_lt hN (by decide))]
    unfold fX5_add
    simp only [b3, pu_lt, pu_put _ _ (show N < 6 by omega) (show 6 < 2 ^ 31 by decide), pu_b, pu_si0 _ _ _ (show (1 : Nat) ≠ 1 + 1 by decide), pu_si0 _ _ _ (show (1 : Nat) ≠ 1 + 2 by decide), pu_si0 _ _ _ (show (1 : Nat) ≠ 1 + 3 by decide), pu_si0 _ _ _ (show (1 : Nat) ≠ 1 + 4 by decide), nI_1]
    rw [ew1]
  · unfold fX8_mourner
    simp only [pu_isIn, pu_isYard, pu_bp, pu_biT h1, pu_biT h4, pu_biT h2, pu_biT h3, pu_10, reduceIte, e60, pu_now 60 (by decide), pu_cl (show 60 < 2 ^ 31 by decide), pu_lt]
    rw [g0, b4, if_neg (show ¬ nI N = (6 : Int32) from fun q => h6 ((nI_eq (b := 6) (by omega) (by decide)).mp q))]
    unfold fX8_mourner_65
    rw [show (0 : Int32) = nI 0 from rfl, f1, pu_bp]
    show fX8_mourner_88 n (nI k) a2 a3 (nI y) (nI N) w2 = _
    unfold fX8_mourner_88
    have hz : ∀ (u : xw_M), u.1 120 60 = nI N → u.1 120 60 + 1 = nI (N + 1) := fun u h => by rw [h, nI_1]
    simp only [show (1 : Int32) = nI 1 from rfl, show (2 : Int32) = nI 2 from rfl, show (3 : Int32) = nI 3 from rfl, show (0 : Int32) = nI 0 from rfl, e60, pu_change _ _ (show 10 * N + 0 < 109 by omega), pu_change _ _ (show 10 * N + 1 < 109 by omega), pu_change _ _ (show 10 * N + 2 < 109 by omega), pu_change _ _ (show 10 * N + 3 < 109 by omega), pu_b, pu_now 60 (by decide), pu_cl (show 60 < 2 ^ 31 by decide), pu_lt]
    simp only [pu_si1]
    rw [pk_un (by omega), pk_un (by omega), pk_un (by omega), pk_un (by omega), f4 60, if_neg (by omega), g0, b4, nI_add]
  · have gw : ∀ q, q ≠ 120 → w2.1 q = w1.1 q := f2
    refine Rel_now hR a6 c1 (fun q q1 q2 => ?_) ?_ ?_
    · rw [pu_si0 _ _ _ q2, pu_si0 _ _ _ q2, pu_si0 _ _ _ q2, pu_si0 _ _ _ q2, pu_si0 _ _ _ q2, f2 q q2, ew1, pu_si0 _ _ _ (by omega), pu_si0 _ _ _ (by omega), pu_si0 _ _ _ (by omega), pu_si0 _ _ _ (by omega), pu_si0 _ _ _ (by omega)]
    · show w2.2 = w.2
      rw [f3, ew1]; rfl
    · have hg : ∀ j, (xw_si (xw_si (xw_si (xw_si (xw_si w2 120 (10 * N + 0) (nI k)) 120 (10 * N + 1) a2) 120 (10 * N + 2) a3) 120 (10 * N + 3) (nI y)) 120 60 (nI (N + 1))).1 120 j = if j = 60 then nI (N + 1) else if j = 10 * N + 3 then nI y else if j = 10 * N + 2 then a3 else if j = 10 * N + 1 then a2 else if j = 10 * N then nI k else if 10 * N ≤ j ∧ j < 10 * N + 10 then 0 else w.1 120 j := by
        intro j
        simp only [pu_si1, upd, f4, g0]
        rfl
      generalize hG : (xw_si (xw_si (xw_si (xw_si (xw_si w2 120 (10 * N + 0) (nI k)) 120 (10 * N + 1) a2) 120 (10 * N + 2) a3) 120 (10 * N + 3) (nI y)) 120 60 (nI (N + 1))).1 120 = g at hg ⊢
      have hold : ∀ j, j < 109 → j ≠ 60 → (j < 10 * N ∨ 10 * N + 10 ≤ j) → g j = w.1 120 j := fun j j1 j2 j3 => by rw [hg j, if_neg j2, if_neg (by omega), if_neg (by omega), if_neg (by omega), if_neg (by omega), if_neg (by omega)]
      have hlt : M < 2 ^ (N + 1) := Nat.lt_of_lt_of_le b2 (Nat.pow_le_pow_right (by decide) (by omega))
      refine ⟨N + 1, M, by omega, hlt, ?_, ?_, ?_, ?_, ?_, ?_, ?_, ?_⟩
      all_goals (try simp only [pu_sg, Nat.reduceAdd, Nat.reduceEqDiff, reduceIte, gw _ (show (1 : Nat) ≠ 120 by decide), gw _ (show (2 : Nat) ≠ 120 by decide), gw _ (show (3 : Nat) ≠ 120 by decide), gw _ (show (4 : Nat) ≠ 120 by decide), gw _ (show (5 : Nat) ≠ 120 by decide), gw _ (show (6 : Nat) ≠ 120 by decide), gw _ (show (7 : Nat) ≠ 120 by decide), gw _ (show (8 : Nat) ≠ 120 by decide), gw _ (show (9 : Nat) ≠ 120 by decide), gw _ (show (10 : Nat) ≠ 120 by decide), gw _ (show (11 : Nat) ≠ 120 by decide), gw _ (show (12 : Nat) ≠ 120 by decide), gw _ (show (13 : Nat) ≠ 120 by decide), gw _ (show (14 : Nat) ≠ 120 by decide), gw _ (show (15 : Nat) ≠ 120 by decide), gw _ (show (16 : Nat) ≠ 120 by decide), ew1])
      · exact pk_us
      · rw [hg 60, if_pos rfl]
      · rw [pk_un (by omega)]; exact b5
      · refine ⟨fun j hj => ?_, fun j j1 j2 => bM.2 j (by omega) j2⟩
        by_cases e : j = N
        · subst e
          obtain ⟨p0, r0⟩ := bM.2 j (Nat.le_refl _) hN
          rw [pk_us, pk_us, pk_us, pk_us]
          refine ⟨?_, ?_, ?_, ?_, ?_, ?_, fun q hq => ?_, ⟨k, hk, ?_⟩, ⟨y, hy, ?_⟩⟩
          · rw [hg, if_neg (by omega), if_neg (by omega), if_neg (by omega), if_neg (by omega), if_pos rfl]
          · rw [hg, if_neg (by omega), if_neg (by omega), if_neg (by omega), if_pos rfl]
          · rw [hg, if_neg (by omega), if_neg (by omega), if_pos rfl]
          · rw [hg, if_neg (by omega), if_pos rfl]
          · rw [hg, if_neg (by omega), if_neg (by omega), if_neg (by omega), if_neg (by omega), if_neg (by omega), if_pos (by omega), pu_biF (by rw [Nat.testBit_lt_two_pow b2]; decide)]
          · rw [hg, if_neg (by omega), if_neg (by omega), if_neg (by omega), if_neg (by omega), if_neg (by omega), if_pos (by omega)]; exact p0
          · rw [hg, if_neg (by omega), if_neg (by omega), if_neg (by omega), if_neg (by omega), if_neg (by omega), if_pos (by omega)]; exact r0 q hq
          · rw [hg, if_neg (by omega), if_neg (by omega), if_neg (by omega), if_neg (by omega), if_pos rfl]
          · rw [hg, if_neg (by omega), if_pos rfl]
        · have hjN : j < N := by omega
          obtain ⟨q1, q2, q3, q4, q5, q6, q7, q8, q9⟩ := bM.1 j hjN
          rw [pk_un e, pk_un e, pk_un e, pk_un e, hold (10 * j) (by omega) (by omega) (by omega), hold (10 * j + 1) (by omega) (by omega) (by omega), hold (10 * j + 2) (by omega) (by omega) (by omega), hold (10 * j + 3) (by omega) (by omega) (by omega), hold (10 * j + 4) (by omega) (by omega) (by omega), hold (10 * j + 5) (by omega) (by omega) (by omega)]
          exact ⟨q1, q2, q3, q4, q5, q6, fun q hq => by rw [hold _ (by omega) (by omega) (by omega)]; exact q7 q hq, q8, q9⟩
      · unfold rD
        rw [pk_un (k := 0) (j := 8) (by omega), pk_un (k := 0) (j := 9) (by omega), pk_un (k := 0) (j := 10) (by omega)]
        exact rD_g (hold 61 (by omega) (by omega) (by omega)) (hold 62 (by omega) (by omega) (by omega)) (hold 63 (by omega) (by omega) (by omega)) bD
      · obtain ⟨s0, z, s1, s2, s3, s4⟩ := rP_g (g' := g) (fun j h1 h2 => hold j (by omega) (by omega) (by omega)) bS
        exact ⟨s0, z, s1, s2, s3, fun r hr => ⟨(s4 r hr).1, (s4 r hr).2.1, (s4 r hr).2.2.imp (fun _ h => ⟨by omega, h.2⟩)⟩⟩
      · obtain ⟨s0, z, s1, s2, s3, s4⟩ := rP_g (g' := g) (fun j h1 h2 => hold j (by omega) (by omega) (by omega)) bP
        exact ⟨s0, z, s1, s2, s3, fun r hr => ⟨(s4 r hr).1, (s4 r hr).2.1, (s4 r hr).2.2.imp id (fun h => ⟨h.1, h.2.imp (fun _ h => ⟨by omega, h.2⟩)⟩)⟩⟩
      · obtain ⟨s0, z, s1, s2, s3, s4⟩ := rP_g (g' := g) (fun j h1 h2 => hold j (by omega) (by omega) (by omega)) bB
        exact ⟨s0, z, s1, s2, s3, fun r hr => ⟨(s4 r hr).1, (s4 r hr).2.1, (s4 r hr).2.2.imp (fun _ h => ⟨by omega, h.2⟩)⟩⟩
