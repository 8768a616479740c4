/-! ===== act ===== -/
theorem Rel_act {w w' : xw_M} (h : Rel w) (hf : ∀ k, k ≠ 68 → k ≠ 69 → k ≠ 119 → k ≠ 136 → w'.1 k = w.1 k) (h2 : w'.2 = w.2) (h9 : ∀ j, j ≠ 26 → w'.1 119 j = w.1 119 j) (hB : rB w'.1) : Rel w' := by
  obtain ⟨R, a1, a2, a3, a4, a5, a6, a7, a8, a9, a10, a11, a12⟩ := h
  have e := hf
  refine ⟨R, a1, ?_, by rw [e 0 (by omega) (by omega) (by omega) (by omega), h9 3 (by decide)]; exact a3, ?_, ?_, by rw [e 0 (by omega) (by omega) (by omega) (by omega)]; exact a6, by rw [h9 8 (by decide)]; exact a7, fun i hi => ?_, rA_cong (fun k h1 h2 => e k (by omega) (by omega) (by omega) (by omega)) a9, hB, fun t ht => ?_, ⟨fun k hk => by rw [e k (by omega) (by omega) (by omega) (by omega)]; exact a12.1 k hk, by rw [e 40 (by omega) (by omega) (by omega) (by omega), e 43 (by omega) (by omega) (by omega) (by omega), e 46 (by omega) (by omega) (by omega) (by omega)]; exact a12.2⟩⟩
  · rw [e 120 (by omega) (by omega) (by omega) (by omega)]
    exact rS_cong (fun k h1 h2 => e k (by omega) (by omega) (by omega) (by omega)) a2
  · rw [e 0 (by omega) (by omega) (by omega) (by omega), e 122 (by omega) (by omega) (by omega) (by omega)]
    exact a4.imp id (fun q => ⟨q.1, rS_cong (fun k h1 h2 => e k (by omega) (by omega) (by omega) (by omega)) q.2⟩)
  · exact rX_cong (by rw [e 49 (by omega) (by omega) (by omega) (by omega)]) (h9 5 (by decide)) (e 50 (by omega) (by omega) (by omega) (by omega)) (e 123 (by omega) (by omega) (by omega) (by omega)) a5
  · exact rR_cong (fun k h1 h2 => e k (by omega) (by omega) (by omega) (by omega)) (fun j hj => by rw [e 124 (by omega) (by omega) (by omega) (by omega)]) (by rw [e 125 (by omega) (by omega) (by omega) (by omega)]) (a8 i hi)
  · exact rT_cong (e _ (by omega) (by omega) (by omega) (by omega)) (by rw [e 137 (by omega) (by omega) (by omega) (by omega)]) (by rw [e 138 (by omega) (by omega) (by omega) (by omega)]) (by rw [h2]) (fun j hj => by rw [h2]) (a11 t ht)
theorem st_act (n : Nat) (hn : 2000 ≤ n) : xs_act n Rel := by
  intro a act x w hR
  obtain ⟨p, N, M, cl, Z⟩ := pu_Z_of hR
  obtain ⟨K, -⟩ := id Z
  obtain ⟨R, -, -, -, -, -, -, -, -, -, -, -, a12⟩ := id hR
  have hN := K.1
  have b3 := K.2.2.1
  have b4 := K.2.2.2.1
  obtain ⟨w0, h0⟩ : ∃ u, u = xw_si w 68 3 0 := ⟨_, rfl⟩
  have c0 : ∀ k, k ≠ 68 → w0.1 k = w.1 k := fun k hk => by rw [h0, pu_si0 _ _ _ hk]
  have no : ∀ b, b = (0 ≤ a ∧ a < nI N) → (¬ b ∨ ¬ (0 ≤ act ∧ act ≤ 2)) → ∃ (r : Int32) (w1 w2 : xw_M), fX7_act n a act x w = some (r, w1) ∧ fX8_act n a act x w1 = some (r, w2) ∧ Rel w2 := by
    intro b hb hno
    refine ⟨0, w0, xw_si w0 119 26 0, ?_, ?_, Rel_act hR (fun k h1 h2 h3 h4 => by rw [pu_si0 _ _ _ h3, c0 k h1]) (by show w0.2 = _; rw [h0]; rfl) (fun j hj => by rw [pu_si1, pk_un hj, c0 119 (by decide)]) ⟨0, by decide, by rw [pu_si0 _ _ _ (by decide), h0, pu_si1, pk_us]; rfl, by rw [pu_si1, pk_us]; rfl, fun j _ hj => absurd hj (by omega)⟩⟩
    · unfold fX7_act fX0_clear
      rw [pu_lt, ← h0, pu_b, pu_has (b := 1) (N := N) a (by rw [c0 1 (by decide)]; exact b3), pu_bp]
      by_cases q : 0 ≤ a ∧ a < nI N
      · have q2 := hno.resolve_left (fun z => z (by rw [hb]; exact q))
        rw [pu_biT q, if_neg (by decide), pu_within, pu_bp, pu_biF q2, if_pos rfl]
      · rw [pu_biF q, if_pos rfl]
    · unfold fX8_act
      have i60 : (xw_si w0 119 26 0).1 120 60 = nI N := by rw [pu_si0 _ _ _ (by decide), c0 120 (by decide)]; exact b4
      rw [pu_lt, pu_isOne (N := N) a hN i60, pu_bp]
      by_cases q : 0 ≤ a ∧ a < nI N
      · have q2 := hno.resolve_left (fun z => z (by rw [hb]; exact q))
        rw [pu_biT q, if_neg (by decide), pu_isIn, pu_bp, pu_biF q2, if_pos rfl]
      · rw [pu_biF q, if_pos rfl]
  by_cases q1 : 0 ≤ a ∧ a < nI N
  case neg => exact no _ rfl (Or.inl q1)
  by_cases q2 : 0 ≤ act ∧ act ≤ 2
  case neg => exact no _ rfl (Or.inr q2)
  obtain ⟨i, hi, rfl⟩ := (pu_bnd (by omega)).mp q1
  obtain ⟨t, ht, rfl⟩ := pu_ex (n := 2) (by decide) q2
  have hi6 : i < 6 := by omega
  obtain ⟨d1, d2, d3, d4, d5, d6, d7, ⟨k, hk, d8⟩, d9⟩ := K.2.2.2.2.2.1.1 i hi
  obtain ⟨v, hv⟩ : ∃ v, v = w.1 120 (10 * i + 1) := ⟨_, rfl⟩
  obtain ⟨u, hu⟩ : ∃ u, u = xw_si (xw_si (xw_si w0 68 0 (nI i)) 68 1 v) 68 2 (nI k) := ⟨_, rfl⟩
  have cu : ∀ q, q ≠ 68 → u.1 q = w.1 q := fun q hq => by rw [hu, pu_si0 _ _ _ hq, pu_si0 _ _ _ hq, pu_si0 _ _ _ hq, c0 q hq]
  have lu : u.2 = w.2 := by rw [hu]; show w0.2 = _; rw [h0]; rfl
  have mk : ∀ m : xw_M, (∀ q, q ≠ 68 → q ≠ 69 → q ≠ 119 → m.1 q = w.1 q) → m.1 119 26 = 0 → ac_T i k v u m 0 := by
    intro m hm hm26
    refine ⟨?_, ?_, ?_, ?_, hm26, fun j _ hj => absurd hj (by omega), ?_, ?_, fun q hq => ?_, fun act ha q hq => ?_⟩
    · rw [hu, pu_si1, pk_un (by decide), pu_si1, pk_un (by decide), pu_si1, pk_us]
    · rw [hu, pu_si1, pk_un (by decide), pu_si1, pk_us]
    · rw [hu, pu_si1, pk_us]
    · rw [hu, pu_si1, pk_un (by decide), pu_si1, pk_un (by decide), pu_si1, pk_un (by decide), h0, pu_si1, pk_us]; rfl
    · rw [hm 120 (by decide) (by decide) (by decide)]; exact d8
    · rw [hm 120 (by decide) (by decide) (by decide), hv]
    · rw [hm 134 (by decide) (by decide) (by decide), a12.1 134 (by decide)]; exact pm_134 q hq
    · rw [hm 135 (by decide) (by decide) (by decide), a12.1 135 (by decide)]; exact ac_135 act ha q hq
  have P := ac_all (n := n) (i := i) (K := k) (v := v) hn hi6 (by omega) 9
  have dk := ac_d2 k (by omega)
  have bd : 0 + ac_B t (ac_d k) ≤ 99 := by
    rcases (show t = 0 ∨ t = 1 ∨ t = 2 by omega) with rfl | rfl | rfl
    · rw [ac_B0]; omega
    · rw [ac_B1]; omega
    · rw [ac_B2]; omega
  obtain ⟨r, w1, m', z', e1, -, -, -, f1, -⟩ := P t k 0 0 44 16 x u (xw_si w 119 26 0) (by omega) (by omega) (by omega) (by omega) (by omega) (by omega) bd (mk _ (fun q _ _ h3 => pu_si0 _ _ _ h3) (by rw [pu_si1, pk_us]))
  have cw : ∀ q, q ≠ 68 → q ≠ 69 → w1.1 q = w.1 q := fun q h1 h2 => (f1.1 q h1 h2).trans (cu q h1)
  obtain ⟨r2, u2, w2, z2, e2, e3, hz, T, -, g1⟩ := P t k 0 0 44 16 x u (xw_si w1 119 26 0) (by omega) (by omega) (by omega) (by omega) (by omega) (by omega) bd (mk _ (fun q h1 h2 h3 => by rw [pu_si0 _ _ _ h3, cw q h1 h2]) (by rw [pu_si1, pk_us]))
  rw [e1] at e2
  obtain ⟨rfl, rfl⟩ := xw_s2 e2
  refine ⟨r, w1, w2, ?_, ?_, Rel_act hR (fun q h1 h2 h3 h4 => ?_) ?_ (fun j hj => ?_) ?_⟩
  · unfold fX7_act fX0_clear
    rw [pu_lt, ← h0, pu_b, pu_has (b := 1) (N := N) _ (by rw [c0 1 (by decide)]; exact b3), pu_bp, pu_biT q1, if_neg (by decide), pu_within, pu_bp, pu_biT q2, if_neg (by decide)]
    unfold fX0_start
    rw [pu_lt, pu_at _ hi6 (by decide), pu_bp, pu_si0 _ _ _ (show 1 + 2 ≠ 68 by decide), c0 (1 + 2) (by decide), d2, ← hv, pu_lt, pu_at _ hi6 (by decide), pu_bp, pu_si0 _ _ _ (show 1 + 1 ≠ 68 by decide), pu_si0 _ _ _ (show 1 + 1 ≠ 68 by decide), c0 (1 + 1) (by decide), d1, d8, pu_lt, ← hu, show u.1 68 2 = nI k by rw [hu, pu_si1, pk_us], show (0 : Int32) = nI 0 from rfl, e1, pu_b, pu_b]
  · unfold fX8_act
    have i60 : (xw_si w1 119 26 0).1 120 60 = nI N := by rw [pu_si0 _ _ _ (by decide), cw 120 (by decide) (by decide)]; exact b4
    rw [pu_lt, pu_isOne (N := N) _ hN i60, pu_bp, pu_biT q1, if_neg (by decide), pu_isIn, pu_bp, pu_biT q2, if_neg (by decide), ac_allE (K := k) hi6 (by rw [pu_si0 _ _ _ (by decide), cw 120 (by decide) (by decide)]; exact d8), e3, pu_b, pu_b]
  · rw [g1.1 q h3 h4, pu_si0 _ _ _ h3, cw q h1 h2]
  · rw [g1.2.1]
    show w1.2 = _
    rw [f1.2, lu]
  · rw [g1.2.2 j hj, pu_si1, pk_un hj, cw 119 (by decide) (by decide)]
  · obtain ⟨-, -, -, t4, t5, t6, -⟩ := T
    have y68 : w2.1 68 = w1.1 68 := by rw [g1.1 68 (by decide) (by decide), pu_si0 _ _ _ (by decide)]
    have y69 : w2.1 69 = w1.1 69 := by rw [g1.1 69 (by decide) (by decide), pu_si0 _ _ _ (by decide)]
    exact ⟨z2, by omega, by rw [y68]; exact t4, t5, fun j h1 h2 => by rw [y69]; exact t6 j h1 h2⟩
