/-! ===== image, undo ===== -/
theorem rS_take {w w' : xw_M} {a b R : Nat} {g g' : Nat → Int32} (hs : rS w.1 a g R) (T : pu_Tk b a w w') (h7 : w.1 (b + 7) 0 = nI 5) (h10 : w.1 (b + 10) 0 = nI 8) (h13 : w.1 (b + 13) 0 = nI 8) (hg : ∀ j, j < 109 → g' j = g j) : rS w'.1 b g' R := by
  obtain ⟨N, M, b1, b2, b3, b4, b5, bM, ⟨d1, d2, d3, d4⟩, bS, bP, bB⟩ := hs
  obtain ⟨-, -, t1, t2, t3, t4⟩ := T
  have lists : ∀ (q o mo : Nat) (ok : Int32 → Int32 → Prop), (q = 7 ∨ q = 10 ∨ q = 13) → mo ≤ 8 → o + 2 * mo < 109 → w.1 (b + q) 0 = nI mo → rP (w.1 (a + q)) (w.1 (a + q + 1)) (w.1 (a + q + 2)) g o mo ok → rP (w'.1 (b + q)) (w'.1 (b + q + 1)) (w'.1 (b + q + 2)) g' o mo ok := by
    intro q o mo ok hq hmo ho hq0 hr
    obtain ⟨u1, u2, u3⟩ := t4 q hq
    obtain ⟨r0, z, r1, r2, r3, r4⟩ := rP_g (g' := g') (fun j j1 j2 => hg j (by omega)) hr
    exact ⟨u2.trans hq0, z, r1, u1.trans r2, r3, fun r hr => ⟨(u3 r (by omega)).1.trans (r4 r hr).1, (u3 r (by omega)).2.trans (r4 r hr).2.1, (r4 r hr).2.2⟩⟩
  refine ⟨N, M, b1, b2, (t1 0 (by omega)).trans b3, (hg 60 (by decide)).trans b4, (t1 7 (by omega)).trans b5, rM_g b1 (fun j hj => hg j (by omega)) ⟨fun i hi => ?_, fun i h1 h2 => ?_⟩, ⟨?_, ?_, ?_, ?_⟩, lists 7 64 5 _ (Or.inl rfl) (by decide) (by decide) h7 bS, lists 10 75 8 _ (Or.inr (Or.inl rfl)) (by decide) (by decide) h10 bP, lists 13 92 8 _ (Or.inr (Or.inr rfl)) (by decide) (by decide) h13 bB⟩
  · obtain ⟨u1, u2, u3, u4, u5⟩ := t2 i (by omega)
    obtain ⟨c1, c2, c3, c4, c5, c6, c7, c8⟩ := bM.1 i hi
    exact ⟨u1.trans c1, u2.trans c2, u3.trans c3, u4.trans c4, c5, u5.trans c6, fun j hj => (t3 _ (by omega)).trans (c7 j hj), c8⟩
  · obtain ⟨u1, u2, u3, u4, u5⟩ := t2 i (by omega)
    obtain ⟨c1, c2⟩ := bM.2 i h1 h2
    exact ⟨u5.trans c1, fun j hj => (t3 _ (by omega)).trans (c2 j hj)⟩
  · rw [t1 8 (by omega), hg 61 (by decide)]; exact d1
  · rw [hg 61 (by decide)]; exact d2
  · rw [t1 9 (by omega), hg 62 (by decide)]; exact d3
  · rw [t1 10 (by omega), hg 63 (by decide)]; exact d4
theorem pm_im {n : Nat} (hn : 2000 ≤ n) (w : xw_M) : ∃ w', xw_it (fun z => fX8_image_b7 n z.1 z.2) n ((0 : Int32), w) = some w' ∧ (∀ k, k ≠ 122 → w'.1 k = w.1 k) ∧ w'.2 = w.2 ∧ ∀ j, j < 109 → w'.1 122 j = w.1 120 j := by
  refine pu_inv (fun z => fX8_image_b7 n z.1 z.2) (fun k z => k ≤ 109 ∧ z.1 = nI k ∧ (∀ q, q ≠ 122 → z.2.1 q = w.1 q) ∧ z.2.2 = w.2 ∧ ∀ j, j < k → z.2.1 122 j = w.1 120 j) 109 _ ?_ ?_ n 0 _ (by omega) (by omega) ⟨by omega, rfl, fun _ _ => rfl, rfl, fun j hj => absurd hj (by omega)⟩
  · rintro k ⟨x, u⟩ hk ⟨-, rfl, b1, b2, b3⟩
    refine Or.inl ⟨(nI (k + 1), xw_si u 122 k (w.1 120 k)), ?_, by omega, rfl, fun q hq => by rw [pu_si0 _ _ _ hq]; exact b1 q hq, b2, fun j hj => ?_⟩
    · show fX8_image_b7 n (nI k) u = _
      unfold fX8_image_b7
      rw [show (109 : Int32) = nI 109 from rfl, if_neg (nI_ge hk (by decide)), pu_ck hk (by decide), pu_ck hk (by decide), pu_lt, pu_cl (by omega), b1 120 (by decide), pu_lt, nI_1]
    · show (xw_si u 122 k _).1 122 j = _
      rw [pu_si1]
      by_cases q : j = k
      · rw [q, pk_us]
      · rw [pk_un q]; exact b3 j (by omega)
  · rintro ⟨x, u⟩ ⟨-, rfl, b1, b2, b3⟩
    refine ⟨u, ?_, b1, b2, b3⟩
    show fX8_image_b7 n (nI 109) u = _
    unfold fX8_image_b7
    rw [if_pos (show (109 : Int32) ≤ nI 109 by decide)]
theorem pm_un {n : Nat} (hn : 2000 ≤ n) (w : xw_M) : ∃ w', xw_it (fun z => fX8_undo_b12 n z.1 z.2) n ((0 : Int32), w) = some w' ∧ (∀ k, k ≠ 120 → w'.1 k = w.1 k) ∧ w'.2 = w.2 ∧ ∀ j, j < 109 → w'.1 120 j = w.1 122 j := by
  refine pu_inv (fun z => fX8_undo_b12 n z.1 z.2) (fun k z => k ≤ 109 ∧ z.1 = nI k ∧ (∀ q, q ≠ 120 → z.2.1 q = w.1 q) ∧ z.2.2 = w.2 ∧ ∀ j, j < k → z.2.1 120 j = w.1 122 j) 109 _ ?_ ?_ n 0 _ (by omega) (by omega) ⟨by omega, rfl, fun _ _ => rfl, rfl, fun j hj => absurd hj (by omega)⟩
  · rintro k ⟨x, u⟩ hk ⟨-, rfl, b1, b2, b3⟩
    refine Or.inl ⟨(nI (k + 1), xw_si u 120 k (w.1 122 k)), ?_, by omega, rfl, fun q hq => by rw [pu_si0 _ _ _ hq]; exact b1 q hq, b2, fun j hj => ?_⟩
    · show fX8_undo_b12 n (nI k) u = _
      unfold fX8_undo_b12
      rw [show (109 : Int32) = nI 109 from rfl, if_neg (nI_ge hk (by decide)), pu_ck hk (by decide), pu_ck hk (by decide), pu_lt, pu_cl (by omega), b1 122 (by decide), pu_lt, nI_1]
    · show (xw_si u 120 k _).1 120 j = _
      rw [pu_si1]
      by_cases q : j = k
      · rw [q, pk_us]
      · rw [pk_un q]; exact b3 j (by omega)
  · rintro ⟨x, u⟩ ⟨-, rfl, b1, b2, b3⟩
    refine ⟨u, ?_, b1, b2, b3⟩
    show fX8_undo_b12 n (nI 109) u = _
    unfold fX8_undo_b12
    rw [if_pos (show (109 : Int32) ≤ nI 109 by decide)]
theorem st_image (n : Nat) (hn : 2000 ≤ n) : xs_image n Rel := by
  intro w hR
  obtain ⟨R, a1, a2, a3, a4, a5, a6, a7, a8, a9, a10, a11, a12⟩ := id hR
  obtain ⟨N, M, K⟩ := rK_of a2
  obtain ⟨w0, e0, T⟩ := pu_take (a := 1) (b := 33) w (Or.inl (by decide))
  obtain ⟨w1, h1⟩ : ∃ u, u = xw_si w0 0 3 1 := ⟨_, rfl⟩
  have f0 : ∀ k, (k < 33 ∨ 49 ≤ k) → w0.1 k = w.1 k := fun k hk => T.2.1 k (by omega)
  have f1 : ∀ k, k ≠ 0 → w1.1 k = w0.1 k := fun k hk => by rw [h1, pu_si0 _ _ _ hk]
  have l1 : w1.2 = w.2 := by rw [h1]; exact T.1
  obtain ⟨v, ev, va, vb, vc⟩ := pm_im hn (xw_si w1 119 3 1)
  have fv : ∀ k, k ≠ 0 → (k < 33 ∨ 49 ≤ k) → k ≠ 119 → k ≠ 122 → v.1 k = w.1 k := fun k h0 h2 h3 h4 => by rw [va k h4, pu_si0 _ _ _ h3, f1 k h0, f0 k h2]
  have c0 : ∀ j, j ≠ 3 → v.1 0 j = w.1 0 j := fun j hj => by rw [va 0 (by decide), pu_si0 _ _ _ (by decide), h1, pu_si1, pk_un hj, f0 0 (by omega)]
  have c03 : v.1 0 3 = 1 := by rw [va 0 (by decide), pu_si0 _ _ _ (by decide), h1, pu_si1, pk_us]
  have c9 : ∀ j, j ≠ 3 → v.1 119 j = w.1 119 j := fun j hj => by rw [va 119 (by decide), pu_si1, pk_un hj, f1 119 (by decide), f0 119 (by omega)]
  have c93 : v.1 119 3 = 1 := by rw [va 119 (by decide), pu_si1, pk_us]
  have im : rS w0.1 33 (v.1 122) R := by
    refine rS_take a2 T a12.2.1 a12.2.2.1 a12.2.2.2 (fun j hj => ?_)
    rw [vc j hj, pu_si0 _ _ _ (by decide), f1 120 (by decide), f0 120 (by omega)]
  refine ⟨nI N, w1, v, ?_, ?_, ?_⟩
  · unfold fX7_image
    rw [e0, pu_b, ← h1, pu_lt, f1 1 (by decide), f0 1 (by omega), K.2.2.1]
  · unfold fX8_image fX8_image_7
    rw [pu_lt, ev, pu_bp]
    show fX8_image_31 n v = _
    unfold fX8_image_31
    rw [pu_n60, pu_c60, fv 120 (by decide) (by omega) (by decide) (by decide), K.2.2.2.1]
  · refine ⟨R, a1, ?_, by rw [c03, c93], Or.inr ⟨c03, rS_cong (fun k k1 k2 => ?_) im⟩, ?_, by rw [c0 6 (by decide)]; exact a6, by rw [c9 8 (by decide)]; exact a7, fun i hi => ?_, rA_cong (fun k k1 k2 => fv k (by omega) (by omega) (by omega) (by omega)) a9, ?_, fun t ht => ?_, ⟨fun k hk => ?_, ?_, ?_, ?_⟩⟩
    · rw [fv 120 (by decide) (by omega) (by decide) (by decide)]
      exact rS_cong (fun k k1 k2 => fv k (by omega) (by omega) (by omega) (by omega)) a2
    · rw [va k (by omega), pu_si0 _ _ _ (by omega), f1 k (by omega)]
    · exact rX_cong (by rw [fv 49 (by decide) (by omega) (by decide) (by decide)]) (c9 5 (by decide)) (fv 50 (by decide) (by omega) (by decide) (by decide)) (fv 123 (by decide) (by omega) (by decide) (by decide)) a5
    · exact rR_cong (fun k k1 k2 => fv k (by omega) (by omega) (by omega) (by omega)) (fun j _ => by rw [fv 124 (by decide) (by omega) (by decide) (by decide)]) (by rw [fv 125 (by decide) (by omega) (by decide) (by decide)]) (a8 i hi)
    · exact rB_cong (by rw [fv 68 (by decide) (by omega) (by decide) (by decide)]) (c9 26 (by decide)) (fv 69 (by decide) (by omega) (by decide) (by decide)) (fv 136 (by decide) (by omega) (by decide) (by decide)) a10
    · have l2 : v.2 = w.2 := vb.trans l1
      exact rT_cong (fv _ (by omega) (by omega) (by omega) (by omega)) (by rw [fv 137 (by decide) (by omega) (by decide) (by decide)]) (by rw [fv 138 (by decide) (by omega) (by decide) (by decide)]) (by rw [l2]) (fun j _ => by rw [l2]) (a11 t ht)
    · rw [fv k (by omega) (by omega) (by omega) (by omega)]; exact a12.1 k hk
    · rw [va 40 (by decide), pu_si0 _ _ _ (by decide), f1 40 (by decide), (T.2.2.2.2.2 7 (Or.inl rfl)).2.1]; exact a12.2.1
    · rw [va 43 (by decide), pu_si0 _ _ _ (by decide), f1 43 (by decide), (T.2.2.2.2.2 10 (Or.inr (Or.inl rfl))).2.1]; exact a12.2.2.1
    · rw [va 46 (by decide), pu_si0 _ _ _ (by decide), f1 46 (by decide), (T.2.2.2.2.2 13 (Or.inr (Or.inr rfl))).2.1]; exact a12.2.2.2
theorem st_undo (n : Nat) (hn : 2000 ≤ n) : xs_undo n Rel := by
  intro w hR
  obtain ⟨R, a1, a2, a3, a4, a5, a6, a7, a8, a9, a10, a11, a12⟩ := id hR
  rcases a4 with h | ⟨h, im⟩
  · exact ⟨-3, w, w, by unfold fX7_undo; rw [if_pos h], by unfold fX8_undo; rw [← a3, if_pos h], hR⟩
  have h0 : ¬ w.1 0 3 = 0 := by rw [h]; decide
  obtain ⟨N, M, b1, b2, b3, b4, b5, bM, bD, bS, bP, bB⟩ := a2
  obtain ⟨w1, e1, T⟩ := pu_take (a := 33) (b := 1) w (Or.inr (Or.inl (by decide)))
  have f1 : ∀ k, (k < 1 ∨ 17 ≤ k) → w1.1 k = w.1 k := fun k hk => T.2.1 k (by omega)
  obtain ⟨v, ev, va, vb, vc⟩ := pm_un hn w1
  have ns : rS w1.1 1 (v.1 120) R := by
    refine rS_take im T bS.1 bP.1 bB.1 (fun j hj => ?_)
    rw [vc j hj, f1 122 (by omega)]
  have hs : rS v.1 1 (v.1 120) R := rS_cong (fun k k1 k2 => va k (by omega)) ns
  obtain ⟨N', M', K⟩ := rK_of ns
  refine ⟨nI N', w1, v, ?_, ?_, Rel_now hR a6 a1 (fun k k1 k2 => by rw [va k k2, f1 k k1]) (vb.trans T.1) hs⟩
  · unfold fX7_undo
    rw [if_neg h0, e1, pu_b, K.2.2.1]
  · unfold fX8_undo fX8_undo_12
    rw [f1 119 (by omega), ← a3, if_neg h0, ev, pu_bp]
    show fX8_undo_36 n v = _
    unfold fX8_undo_36
    rw [pu_n60, pu_c60, K.2.2.2.1]
/-! ===== taken, looked ===== -/
def pg_ab (k : Nat) : Nat := ([0, 0, 0, 0, 1, 2, 3] : List Nat).getD k 0
theorem pg_abL : ∀ k, k < 7 → k ≠ 0 → xw_above k = nI (pg_ab k) ∧ pg_ab k < k := by decide
theorem pg_ab0 : xw_above 0 = -1 := by decide
theorem pm_134 : ∀ k, k < 7 → xn_m0.1 134 k = xw_above k := by decide +kernel
theorem pu_atS {n j : Nat} (f : Nat → Int32) (hj : j < n) (hn : n < 2 ^ 31) : fX7_atS n f (nI j) = some (f j) := by
  unfold fX7_atS
  rw [if_neg (nI_pos (by omega)), if_neg (nI_ge hj hn), pu_ck hj hn, pu_cl (by omega)]
theorem pu_taken {n k : Nat} {a own : Int32} {w : xw_M} (hk : k ≤ 6) (hw : ∀ j, j < 7 → w.1 134 j = xw_above j) : ∀ d c m m', d < 7 → c + d ≤ 6 → d + 1 < m → d + 1 < m' → ∃ b : Bool, xw_it (fun z => fX7_taken_b44 n a (nI k) own z.1 z.2 w) m (nI d, nI c) = some (if b = true then .inl own else .inr ()) ∧ xw_it (fun z => fX8_taken_b31 n a (nI k) z w) m' (nI d) = some (if b = true then nI k else -1) := by
  intro d
  induction d using Nat.strongRecOn with
  | ind d ih =>
    intro c m m' hd hc hm hm'
    obtain ⟨m, rfl⟩ : ∃ q, m = q + 1 := ⟨m - 1, by omega⟩
    obtain ⟨m', rfl⟩ : ∃ q, m' = q + 1 := ⟨m' - 1, by omega⟩
    have nd : ¬ nI d = -1 := fun z => by have := nI_pos' (n := d) (by omega); rw [z] at this; exact absurd this (by decide)
    by_cases q : d = k
    · refine ⟨true, ?_, ?_⟩
      · refine pu_it1 _ ?_
        show fX7_taken_b44 n a (nI k) own (nI d) (nI c) w = _
        unfold fX7_taken_b44
        rw [if_neg (nI_ge (show c < 7 by omega) (by decide)), if_neg (nI_pos (by omega)), if_pos (by rw [q])]
        rfl
      · refine pu_it1 _ ?_
        show fX8_taken_b31 n a (nI k) (nI d) w = _
        unfold fX8_taken_b31
        rw [if_neg nd, if_pos (by rw [q]), q]
        rfl
    · have nq : ¬ nI d = nI k := fun z => q ((nI_eq (by omega) (by omega)).mp z)
      have s7 : fX7_taken_b44 n a (nI k) own (nI d) (nI c) w = some (.inl (xw_above d, nI (c + 1))) := by
        unfold fX7_taken_b44
        rw [if_neg (nI_ge (show c < 7 by omega) (by decide)), if_neg (nI_pos (by omega)), if_neg nq, pu_atS _ hd (by decide), pu_bp, pu_lt, nI_1]
      have s8 : fX8_taken_b31 n a (nI k) (nI d) w = some (.inl (xw_above d)) := by
        unfold fX8_taken_b31
        rw [if_neg nd, if_neg nq, pu_ck hd (by decide), pu_cl (by omega), hw d hd, pu_lt]
      by_cases h0 : d = 0
      · subst h0
        rw [pg_ab0] at s7 s8
        obtain ⟨m, rfl⟩ : ∃ q, m = q + 1 := ⟨m - 1, by omega⟩
        obtain ⟨m', rfl⟩ : ∃ q, m' = q + 1 := ⟨m' - 1, by omega⟩
        refine ⟨false, ?_, ?_⟩
        · rw [pu_it0 (fun z => fX7_taken_b44 n a (nI k) own z.1 z.2 w) (a := (nI 0, nI c)) s7]
          refine pu_it1 _ ?_
          show fX7_taken_b44 n a (nI k) own (-1) (nI (c + 1)) w = _
          unfold fX7_taken_b44
          by_cases z : nI 7 ≤ nI (c + 1)
          · rw [if_pos z]; rfl
          · rw [if_neg z, if_pos (by decide)]; rfl
        · rw [pu_it0 (fun z => fX8_taken_b31 n a (nI k) z w) s8]
          refine pu_it1 _ ?_
          show fX8_taken_b31 n a (nI k) (-1) w = _
          unfold fX8_taken_b31
          rw [if_pos rfl]
          rfl
      · obtain ⟨l1, l2⟩ := pg_abL d hd h0
        rw [l1] at s7 s8
        rw [pu_it0 (fun z => fX7_taken_b44 n a (nI k) own z.1 z.2 w) (a := (nI d, nI c)) s7, pu_it0 (fun z => fX8_taken_b31 n a (nI k) z w) s8]
        exact ih (pg_ab d) l2 (c + 1) m m' (by omega) (by omega) (by omega) (by omega)
theorem st_taken (n : Nat) (hn : 2000 ≤ n) : xs_taken n Rel := by
  intro a b w hR
  obtain ⟨p, N, M, cl, Z⟩ := pu_Z_of hR
  obtain ⟨K, -⟩ := id Z
  obtain ⟨R, -, -, -, -, -, -, -, -, -, -, -, a12⟩ := id hR
  have hN := K.1
  have b3 := K.2.2.1
  have b4 := K.2.2.2.1
  by_cases h2 : 0 ≤ b ∧ b ≤ 6
  case neg => exact ⟨-2, by unfold fX7_taken; simp only [pu_within, pu_bp, pu_biF h2, reduceIte], by unfold fX8_taken; simp only [pu_isIn, pu_bp, pu_biF h2, reduceIte], hR⟩
  by_cases h1 : 0 ≤ a ∧ a < nI N
  case neg => exact ⟨-11, by unfold fX7_taken; simp only [pu_within, pu_has a b3, pu_bp, pu_biT h2, pu_biF h1, pu_10, reduceIte], by unfold fX8_taken; simp only [pu_isIn, pu_isOne a hN b4, pu_bp, pu_biT h2, pu_biF h1, pu_10, reduceIte], hR⟩
  obtain ⟨k, hk, rfl⟩ := pu_ex (n := 6) (by decide) h2
  obtain ⟨i, hi, rfl⟩ := (pu_bnd (by omega)).mp h1
  have hi6 : i < 6 := by omega
  obtain ⟨c1, c2, c3, c4, c5, c6, c7, ⟨d, hd, c8⟩, c9⟩ := K.2.2.2.2.2.1.1 i hi
  obtain ⟨v, e7, e8⟩ := pu_taken (n := n) (a := nI i) (own := nI d) (w := w) hk (fun j hj => by rw [a12.1 134 (by decide)]; exact pm_134 j hj) d 0 n n (by omega) (by omega) (by omega) (by omega)
  refine ⟨if v = true then nI d else -12, ?_, ?_, hR⟩
  · unfold fX7_taken
    simp only [pu_within, pu_has _ b3, pu_bp, pu_biT h2, pu_biT h1, pu_10, reduceIte, pu_at w hi6 (show 6 < 2 ^ 31 by decide), c1, c8]
    unfold fX7_taken_44
    rw [show (0 : Int32) = nI 0 from rfl, e7, pu_bp]
    cases v <;> rfl
  · unfold fX8_taken
    simp only [pu_isIn, pu_isOne _ hN b4, pu_bp, pu_biT h2, pu_biT h1, pu_10, reduceIte, pu_o0 hi6, c8]
    unfold fX8_taken_31
    rw [e8, pu_bp]
    show fX8_taken_51 n (nI i) (nI k) _ w = _
    unfold fX8_taken_51
    rw [pu_o0 hi6, pu_bp, c8]
    cases v with
    | true => rw [if_pos rfl]; exact if_pos rfl
    | false =>
      rw [if_neg (show ¬ (false = true) by decide)]
      exact if_neg (fun z => by have h3 : -1 = nI k := z; have := nI_pos' (n := k) (by omega); rw [← h3] at this; exact absurd this (by decide))
def pg_lk (g : Nat → Int32) : Nat → Nat → Int32
  | 0, _ => -5
  | e + 1, k => if g (10 * (g (93 + 2 * k)).toNatClampNeg + 3) = g (94 + 2 * k) then pg_lk g e (k + 1) else nI k
theorem pu_n92 {β : Type} (k : Option β) : xw_ck (92 : Int32) 109 k = k := pu_now 92 (by decide) k
theorem pu_c92 : (92 : Int32).toNatClampNeg = 92 := by decide
theorem st_looked (n : Nat) (hn : 2000 ≤ n) : xs_looked n Rel := by
  intro w hR
  obtain ⟨R, -, hS, -⟩ := id hR
  obtain ⟨N, M, K⟩ := rK_of hS
  have hN := K.1
  obtain ⟨g, hg⟩ : ∃ g, g = w.1 120 := ⟨_, rfl⟩
  obtain ⟨z, z8, s2, s3, s4⟩ : ∃ z, z ≤ 8 ∧ w.1 (1 + 13) 3 = nI z ∧ g 92 = nI z ∧ ∀ r, r < z → w.1 ((1 + 13) + 1) r = g (93 + 2 * r) ∧ w.1 ((1 + 13) + 2) r = g (94 + 2 * r) ∧ ∃ q, q < N ∧ g (93 + 2 * r) = nI q := by
    obtain ⟨N', M', b1, b2, b3, b4, b5, bM, bD, bS, bP, ⟨s0, z, s1, s2, s3, s4⟩⟩ := hS
    have eN : N' = N := (nI_eq (by omega) (by omega)).mp (b3.symm.trans K.2.2.1)
    subst eN
    refine ⟨z, s1, s2, by rw [hg]; exact s3, fun r hr => ?_⟩
    have := s4 r hr
    rw [show 92 + 1 + 2 * r = 93 + 2 * r by omega, show 92 + 2 + 2 * r = 94 + 2 * r by omega, ← hg] at this
    exact this
  have key : ∀ e k, e + k = z → ∀ m, e < m → xw_bp (xw_it (fun z => fX7_looked_b2 n z w) m (nI k)) (fun z => xw_su z (fun r => some r) (fun _ => fX7_looked_65 n w)) = some (pg_lk g e k) ∧ xw_bp (xw_it (fun z => fX8_looked_b2 n z w) m (nI k)) (fun z => xw_su z (fun r => some r) (fun _ => fX8_looked_51 n w)) = some (pg_lk g e k) := by
    intro e
    induction e with
    | zero =>
      intro k hk m hm
      obtain ⟨m', rfl⟩ : ∃ m', m = m' + 1 := ⟨m - 1, by omega⟩
      have s7 : fX7_looked_b2 n (nI k) w = some (.inr (.inr ())) := by
        unfold fX7_looked_b2
        rw [s2, if_pos (nI_le (by omega) (by omega))]
      have s8 : fX8_looked_b2 n (nI k) w = some (.inr (.inr ())) := by
        unfold fX8_looked_b2
        rw [pu_n92, pu_c92, ← hg, s3, if_pos (nI_le (by omega) (by omega))]
      exact ⟨by rw [pu_it1 (fun z => fX7_looked_b2 n z w) s7, pu_bp]; rfl, by rw [pu_it1 (fun z => fX8_looked_b2 n z w) s8, pu_bp]; rfl⟩
    | succ e ih =>
      intro k hk m hm
      obtain ⟨m', rfl⟩ : ∃ m', m = m' + 1 := ⟨m - 1, by omega⟩
      obtain ⟨u1, u2, q, hq, u3⟩ := s4 k (by omega)
      have hq6 : q < 6 := by omega
      obtain ⟨-, -, -, c4, -⟩ := K.2.2.2.2.2.1.1 q hq
      rw [← hg] at c4
      have el : pg_lk g (e + 1) k = if g (10 * q + 3) = g (94 + 2 * k) then pg_lk g e (k + 1) else nI k := by
        show (if g (10 * (g (93 + 2 * k)).toNatClampNeg + 3) = g (94 + 2 * k) then pg_lk g e (k + 1) else nI k) = _
        rw [u3, pu_cl (by omega)]
      have s7 : fX7_looked_b2 n (nI k) w = if g (10 * q + 3) = g (94 + 2 * k) then some (.inl (nI (k + 1))) else some (.inr (.inl (nI k))) := by
        unfold fX7_looked_b2
        rw [s2, if_neg (nI_ge (show k < z by omega) (by omega)), pu_at w (show k < 8 by omega) (by decide), pu_bp, u1, u3, pu_at w hq6 (by decide), pu_bp, pu_at w (show k < 8 by omega) (by decide), pu_bp, u2, show w.1 (1 + 4) q = g (10 * q + 3) from c4, pu_lt, nI_1]
      have s8 : fX8_looked_b2 n (nI k) w = if g (10 * q + 3) = g (94 + 2 * k) then some (.inl (nI (k + 1))) else some (.inr (.inl (nI k))) := by
        unfold fX8_looked_b2
        rw [pu_n92, pu_c92, ← hg, s3, if_neg (nI_ge (show k < z by omega) (by omega)), show (2 : Int32) * nI k = nI (2 * k) from pk_mul 2 k, show (93 : Int32) = nI 93 from rfl, show (94 : Int32) = nI 94 from rfl, nI_add, nI_add, pu_ck (show 93 + 2 * k < 109 by omega) (by decide), pu_cl (show 93 + 2 * k < 2 ^ 31 by omega), u3, pu_o3 hq6, pu_bp, pu_ck (show 94 + 2 * k < 109 by omega) (by decide), pu_cl (show 94 + 2 * k < 2 ^ 31 by omega), ← hg, pu_lt, nI_1]
      rw [el]
      by_cases c : g (10 * q + 3) = g (94 + 2 * k)
      · rw [if_pos c] at s7 s8 ⊢
        rw [pu_it0 (fun z => fX7_looked_b2 n z w) s7, pu_it0 (fun z => fX8_looked_b2 n z w) s8]
        exact ih (k + 1) (by omega) m' (by omega)
      · rw [if_neg c] at s7 s8 ⊢
        exact ⟨by rw [pu_it1 (fun z => fX7_looked_b2 n z w) s7, pu_bp]; rfl, by rw [pu_it1 (fun z => fX8_looked_b2 n z w) s8, pu_bp]; rfl⟩
  obtain ⟨k1, k2⟩ := key z 0 (by omega) n (by omega)
  exact ⟨_, k1, k2, hR⟩
