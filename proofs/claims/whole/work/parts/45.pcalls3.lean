/-! ===== rows told by hand ===== -/
theorem pu_pempty {b : Nat} (w : xw_M) : fX1_empty b w = some (0, xw_si w b 3 0) := rfl
theorem pu_padd {b mo z : Nat} (a c : Int32) (w : xw_M) (h0 : w.1 b 0 = nI mo) (h3 : w.1 b 3 = nI z) (hmo : mo ≤ 8) (hz : z < mo) : fX1_add b a c w = some (nI (z + 1), xw_si (xw_si (xw_si w (b + 1) z a) (b + 2) z c) b 3 (nI (z + 1))) := by
  unfold fX1_add
  rw [h0, h3, if_pos (nI_lt hz (by omega)), pu_put _ _ (by omega) (by decide), pu_b, pu_si0 _ _ _ (by omega), h3, pu_put _ _ (by omega) (by decide), pu_b, pu_si0 _ _ _ (by omega), pu_si0 _ _ _ (by omega), h3, nI_1, pu_lt, pu_si1, pk_us]
theorem pu_pfull {b mo z : Nat} (a c : Int32) (w : xw_M) (h0 : w.1 b 0 = nI mo) (h3 : w.1 b 3 = nI z) (hmo : mo ≤ 8) (hz : mo ≤ z) (hz8 : z ≤ 8) : fX1_add b a c w = some (-4, w) := by
  unfold fX1_add
  rw [h0, h3, if_neg (nI_nlt hz (by omega))]
theorem rP_push {q f s g g' : Nat → Int32} {o mo z : Nat} {ok : Int32 → Int32 → Prop} {a c : Int32} (hr : rP q f s g o mo ok) (hmo : mo ≤ 8) (hz : q 3 = nI z) (hz8 : z < mo) (h0 : g' o = nI (z + 1)) (h1 : g' (o + 1 + 2 * z) = a) (h2 : g' (o + 2 + 2 * z) = c) (h3 : ∀ r, r < z → g' (o + 1 + 2 * r) = g (o + 1 + 2 * r) ∧ g' (o + 2 + 2 * r) = g (o + 2 + 2 * r)) (hok : ok a c) : rP (upd q 3 (nI (z + 1))) (upd f z a) (upd s z c) g' o mo ok := by
  obtain ⟨p0, z', p1, p2, p3, p4⟩ := hr
  have e : z' = z := (nI_eq (by omega) (by omega)).mp (p2.symm.trans hz)
  subst e
  refine ⟨by rw [pk_un (by omega)]; exact p0, z' + 1, hz8, pk_us, h0, fun r hr => ?_⟩
  by_cases e : r = z'
  · subst e
    rw [pk_us, pk_us, h1, h2]
    exact ⟨rfl, rfl, hok⟩
  · rw [pk_un e, pk_un e, (h3 r (by omega)).1, (h3 r (by omega)).2]
    exact p4 r (by omega)
theorem rP_nil {q f s g g' : Nat → Int32} {o mo : Nat} {ok : Int32 → Int32 → Prop} (hr : rP q f s g o mo ok) (h0 : g' o = 0) : rP (upd q 3 0) f s g' o mo ok :=
  ⟨by rw [pk_un (by omega)]; exact hr.1, 0, Nat.zero_le _, pk_us, h0, fun r hr => absurd hr (by omega)⟩
theorem pu_not1 {m : Int32} {n : Int32} (h : m = -1) : ¬ (0 ≤ m ∧ m < n) := by
  intro q; rw [h] at q; exact absurd q.1 (by decide)
/-- what a told row leaves of a Scene and its row: a new one of the three lists -/
theorem rS_see {w w2 : xw_M} {R : Nat} {g' : Nat → Int32} (hs : rS w.1 1 (w.1 120) R) (hw : ∀ k, 1 ≤ k → k < 17 → (k < 8 ∨ 11 ≤ k) → w2.1 k = w.1 k) (hg : ∀ j, (j < 64 ∨ 75 ≤ j) → g' j = w.1 120 j) (hp : ∀ N, w.1 1 0 = nI N → N ≤ 6 → rP (w.1 8) (w.1 9) (w.1 10) (w.1 120) 64 5 (okS N) → rP (w2.1 8) (w2.1 9) (w2.1 10) g' 64 5 (okS N)) : rS w2.1 1 g' R := by
  obtain ⟨N, M, b1, b2, b3, b4, b5, bM, bD, bS, bP, bB⟩ := hs
  refine ⟨N, M, b1, b2, ?_, ?_, ?_, ?_, ?_, hp N b3 b1 bS, ?_, ?_⟩
  · rw [hw 1 (by omega) (by omega) (by omega)]; exact b3
  · rw [hg 60 (by omega)]; exact b4
  · rw [hw 1 (by omega) (by omega) (by omega)]; exact b5
  · rw [hw (1 + 1) (by omega) (by omega) (by omega), hw (1 + 2) (by omega) (by omega) (by omega), hw (1 + 3) (by omega) (by omega) (by omega), hw (1 + 4) (by omega) (by omega) (by omega), hw (1 + 5) (by omega) (by omega) (by omega), hw (1 + 6) (by omega) (by omega) (by omega)]
    exact rM_g b1 (fun j hj => hg j (by omega)) bM
  · rw [hw 1 (by omega) (by omega) (by omega)]
    exact rD_g (hg 61 (by omega)) (hg 62 (by omega)) (hg 63 (by omega)) bD
  · rw [hw (1 + 10) (by omega) (by omega) (by omega), hw (1 + 11) (by omega) (by omega) (by omega), hw (1 + 12) (by omega) (by omega) (by omega)]
    exact rP_g (fun j h1 h2 => hg j (by omega)) bP
  · rw [hw (1 + 13) (by omega) (by omega) (by omega), hw (1 + 14) (by omega) (by omega) (by omega), hw (1 + 15) (by omega) (by omega) (by omega)]
    exact rP_g (fun j h1 h2 => hg j (by omega)) bB
theorem st_see (n : Nat) : xs_see n Rel := by
  intro a1 a2 w hR
  have hR0 := hR
  obtain ⟨R, c1, hS, -, -, -, a6, -⟩ := hR0
  have hS0 := hS
  obtain ⟨N, M, b1, b2, b3, b4, b5, bM, bD, bS, bP, bB⟩ := hS0
  have e64 : (64 : Int32) = nI 64 := rfl
  by_cases h0 : a1 = -1
  · refine ⟨0, xw_si w (1 + 7) 3 0, xw_si (xw_si w (1 + 7) 3 0) 120 64 0, ?_, ?_, ?_⟩
    · unfold fX7_see
      rw [if_pos h0, pu_pempty, pu_b]
    · unfold fX8_see
      rw [if_pos h0]
      simp only [e64, pu_now 64 (by decide), pu_cl (show 64 < 2 ^ 31 by decide), pu_lt]
    · refine Rel_now hR a6 c1 (fun k h1 h2 => by rw [pu_si0 _ _ _ h2, pu_si0 _ _ _ (by omega)]) rfl ?_
      rw [pu_si1, pu_si0 _ _ _ (show (120 : Nat) ≠ 1 + 7 by decide)]
      refine rS_see hS (fun k h1 h2 h3 => by rw [pu_si0 _ _ _ (by omega), pu_si0 _ _ _ (by omega)]) (fun j hj => pk_un (by omega)) (fun N' _ _ hp => ?_)
      simp only [pu_sg, Nat.reduceAdd, Nat.reduceEqDiff, reduceIte]
      exact rP_nil hp pk_us
  by_cases h1 : 0 ≤ a1 ∧ a1 < nI N
  case neg => exact ⟨-1, w, w, by unfold fX7_see; simp only [if_neg h0, pu_has a1 b3, pu_bp, pu_biF h1, reduceIte], by unfold fX8_see; simp only [if_neg h0, pu_isOne a1 b1 b4, pu_bp, pu_biF h1, reduceIte], hR⟩
  by_cases h2 : 0 ≤ a2 ∧ a2 ≤ 999
  case neg => exact ⟨-2, w, w, by unfold fX7_see; simp only [if_neg h0, pu_has a1 b3, pu_within, pu_bp, pu_biT h1, pu_biF h2, pu_10, reduceIte], by unfold fX8_see; simp only [if_neg h0, pu_isOne a1 b1 b4, pu_isIn, pu_bp, pu_biT h1, pu_biF h2, pu_10, reduceIte], hR⟩
  obtain ⟨i, hi, hai⟩ := (pu_bnd (by omega)).mp h1
  obtain ⟨s0, z, s1, s2, s3, s4⟩ := id bS
  by_cases hz : z = 5
  · refine ⟨-4, w, w, ?_, ?_, hR⟩
    · unfold fX7_see
      simp only [if_neg h0, pu_has a1 b3, pu_within, pu_bp, pu_biT h1, pu_biT h2, pu_10, reduceIte, pu_pfull a1 a2 w s0 s2 (by omega) (by omega) (by omega), pu_b]
    · unfold fX8_see
      simp only [if_neg h0, pu_isOne a1 b1 b4, pu_isIn, pu_bp, pu_biT h1, pu_biT h2, pu_10, reduceIte, e64, pu_now 64 (by decide), pu_cl (show 64 < 2 ^ 31 by decide)]
      rw [s3, hz, if_pos (by rfl)]
  have hz5 : z < 5 := by omega
  obtain ⟨w1, ew1⟩ : ∃ u, u = xw_si (xw_si (xw_si w (1 + 7 + 1) z a1) (1 + 7 + 2) z a2) (1 + 7) 3 (nI (z + 1)) := ⟨_, rfl⟩
  have g0 : w1.1 120 = w.1 120 := by rw [ew1]; simp only [pu_sg, Nat.reduceAdd, Nat.reduceEqDiff, reduceIte]
  refine ⟨nI (z + 1), w1, xw_si (xw_si (xw_si w1 120 (65 + 2 * z) a1) 120 (65 + 2 * z + 1) a2) 120 64 (nI (z + 1)), ?_, ?_, ?_⟩
  · unfold fX7_see
    simp only [if_neg h0, pu_has a1 b3, pu_within, pu_bp, pu_biT h1, pu_biT h2, pu_10, reduceIte, pu_padd a1 a2 w s0 s2 (by omega) hz5, pu_b]
    rw [ew1]
  · unfold fX8_see
    have i1 : (65 : Int32) + (2 : Int32) * nI z = nI (65 + 2 * z) := by rw [show (2 : Int32) = nI 2 from rfl, show (65 : Int32) = nI 65 from rfl, pk_mul, nI_add]
    simp only [if_neg h0, pu_isOne (w := w1) (N := N) a1 b1 (by rw [g0]; exact b4), pu_isIn, pu_bp, pu_biT h1, pu_biT h2, pu_10, reduceIte, e64, pu_now 64 (by decide), pu_cl (show 64 < 2 ^ 31 by decide), g0]
    rw [s3, if_neg (show ¬ nI z = (5 : Int32) from fun q => hz ((nI_eq (b := 5) (by omega) (by decide)).mp q)), i1]
    simp only [pu_lt, nI_1, pu_now (65 + 2 * z) (by omega), pu_now (65 + 2 * z + 1) (by omega), pu_cl (show 65 + 2 * z < 2 ^ 31 by omega), pu_cl (show 65 + 2 * z + 1 < 2 ^ 31 by omega), pu_si1]
    rw [pk_un (k := 65 + 2 * z + 1) (j := 64) (by omega), pk_un (k := 65 + 2 * z) (j := 64) (by omega), g0, s3, nI_1, pk_us]
  · refine Rel_now hR a6 c1 (fun k q1 q2 => ?_) (by show w1.2 = w.2; rw [ew1]; rfl) ?_
    · rw [pu_si0 _ _ _ q2, pu_si0 _ _ _ q2, pu_si0 _ _ _ q2, ew1, pu_si0 _ _ _ (by omega), pu_si0 _ _ _ (by omega), pu_si0 _ _ _ (by omega)]
    · have hg : ∀ j, (xw_si (xw_si (xw_si w1 120 (65 + 2 * z) a1) 120 (65 + 2 * z + 1) a2) 120 64 (nI (z + 1))).1 120 j = if j = 64 then nI (z + 1) else if j = 65 + 2 * z + 1 then a2 else if j = 65 + 2 * z then a1 else w.1 120 j := by
        intro j
        simp only [pu_si1, upd, g0]
      generalize (xw_si (xw_si (xw_si w1 120 (65 + 2 * z) a1) 120 (65 + 2 * z + 1) a2) 120 64 (nI (z + 1))).1 120 = g' at hg ⊢
      refine rS_see hS (fun k h1 h2 h3 => ?_) (fun j hj => by rw [hg, if_neg (by omega), if_neg (by omega), if_neg (by omega)]) (fun N' e' _ hp => ?_)
      · rw [pu_si0 _ _ _ (by omega), pu_si0 _ _ _ (by omega), pu_si0 _ _ _ (by omega), ew1, pu_si0 _ _ _ (by omega), pu_si0 _ _ _ (by omega), pu_si0 _ _ _ (by omega)]
      · have eN : N' = N := (nI_eq (by omega) (by omega)).mp (e'.symm.trans b3)
        subst eN
        have := rP_push (g' := g') (a := a1) (c := a2) hp (by omega) s2 hz5 (by rw [hg, if_pos rfl]) (by rw [hg, if_neg (by omega), if_neg (by omega), if_pos (by omega)]) (by rw [hg, if_neg (by omega), if_pos (by omega)]) (fun r hr => ⟨by rw [hg, if_neg (by omega), if_neg (by omega), if_neg (by omega)], by rw [hg, if_neg (by omega), if_neg (by omega), if_neg (by omega)]⟩) ⟨i, hi, hai⟩
        simpa only [pu_sg, Nat.reduceAdd, Nat.reduceEqDiff, reduceIte, ew1] using this
