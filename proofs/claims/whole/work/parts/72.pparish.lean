/-! ===== parish ===== -/
theorem rS_mono {m : Nat → Nat → Int32} {b R : Nat} {g : Nat → Int32} (h : rS m b g R) : rS m b g (R + 1) := by
  obtain ⟨N, M, b1, b2, b3, b4, b5, bM, ⟨d1, d2, d3, k, hk, d4⟩, bS, bP, bB⟩ := h
  exact ⟨N, M, b1, b2, b3, b4, b5, bM, ⟨d1, d2, d3, k, by omega, d4⟩, bS, bP, bB⟩
theorem pm_cp1 {n T : Nat} (hn : 2000 ≤ n) (hT : T ≤ 100) (w : xw_M) (h : w.1 119 10 = nI T) : ∃ w', xw_it (fun z => fX8_parish_b22 n z.1 z.2) n ((0 : Int32), w) = some w' ∧ (∀ k, k ≠ 126 → w'.1 k = w.1 k) ∧ w'.2 = w.2 ∧ ∀ j, j < T → w'.1 126 j = w.1 123 j := by
  refine pu_inv (fun z => fX8_parish_b22 n z.1 z.2) (fun k z => k ≤ T ∧ z.1 = nI k ∧ (∀ q, q ≠ 126 → z.2.1 q = w.1 q) ∧ z.2.2 = w.2 ∧ ∀ j, j < k → z.2.1 126 j = w.1 123 j) T _ ?_ ?_ n 0 _ (by omega) (by omega) ⟨by omega, rfl, fun _ _ => rfl, rfl, fun j hj => absurd hj (by omega)⟩
  · rintro k ⟨x, u⟩ hk ⟨-, rfl, b1, b2, b3⟩
    refine Or.inl ⟨(nI (k + 1), xw_si u 126 k (w.1 123 k)), ?_, by omega, rfl, fun q hq => by rw [pu_si0 _ _ _ hq]; exact b1 q hq, b2, fun j hj => ?_⟩
    · show fX8_parish_b22 n (nI k) u = _
      unfold fX8_parish_b22
      rw [b1 119 (by decide), h, if_neg (nI_ge hk (by omega)), pu_ck (show k < 100 by omega) (by decide), pu_ck (show k < 100 by omega) (by decide), pu_lt, pu_cl (by omega), b1 123 (by decide), pu_lt, nI_1]
    · show (xw_si u 126 k _).1 126 j = _
      rw [pu_si1]
      by_cases q : j = k
      · rw [q, pk_us]
      · rw [pk_un q]; exact b3 j (by omega)
  · rintro ⟨x, u⟩ ⟨-, rfl, b1, b2, b3⟩
    refine ⟨u, ?_, b1, b2, b3⟩
    show fX8_parish_b22 n (nI T) u = _
    unfold fX8_parish_b22
    rw [b1 119 (by decide), h, if_pos (nI_le (Nat.le_refl _) (by omega))]
theorem pm_cp2 {n T R : Nat} (hn : 2000 ≤ n) (hT : T ≤ 100) (hR : R < 6) (w : xw_M) (h : w.1 119 10 = nI T) (h8 : w.1 119 8 = nI R) : ∃ w', xw_it (fun z => fX8_parish_b70 n z.1 z.2) n ((0 : Int32), w) = some w' ∧ (∀ k, k ≠ 124 → w'.1 k = w.1 k) ∧ w'.2 = w.2 ∧ ∀ q, w'.1 124 q = if 100 * R ≤ q ∧ q < 100 * R + T then w.1 126 (q - 100 * R) else w.1 124 q := by
  refine pu_inv (fun z => fX8_parish_b70 n z.1 z.2) (fun k z => k ≤ T ∧ z.1 = nI k ∧ (∀ q, q ≠ 124 → z.2.1 q = w.1 q) ∧ z.2.2 = w.2 ∧ ∀ q, z.2.1 124 q = if 100 * R ≤ q ∧ q < 100 * R + k then w.1 126 (q - 100 * R) else w.1 124 q) T _ ?_ ?_ n 0 _ (by omega) (by omega) ⟨by omega, rfl, fun _ _ => rfl, rfl, fun q => by rw [if_neg (by omega)]⟩
  · rintro k ⟨x, u⟩ hk ⟨-, rfl, b1, b2, b3⟩
    refine Or.inl ⟨(nI (k + 1), xw_si u 124 (100 * R + k) (w.1 126 k)), ?_, by omega, rfl, fun q hq => by rw [pu_si0 _ _ _ hq]; exact b1 q hq, b2, fun q => ?_⟩
    · show fX8_parish_b70 n (nI k) u = _
      unfold fX8_parish_b70
      rw [b1 119 (by decide), h, h8, if_neg (nI_ge hk (by omega)), show (100 : Int32) * nI R = nI (100 * R) from pk_mul 100 R, nI_add, pu_ck (show k < 100 by omega) (by decide), pu_ck (show 100 * R + k < 600 by omega) (by decide), pu_lt, pu_cl (show k < 2 ^ 31 by omega), pu_cl (show 100 * R + k < 2 ^ 31 by omega), b1 126 (by decide), pu_lt, nI_1]
    · show (xw_si u 124 _ _).1 124 q = _
      rw [pu_si1]
      by_cases e : q = 100 * R + k
      · rw [e, pk_us, if_pos (by omega), show 100 * R + k - 100 * R = k by omega]
      · rw [pk_un e, b3 q]
        by_cases e2 : 100 * R ≤ q ∧ q < 100 * R + k
        · rw [if_pos e2, if_pos (by omega)]
        · rw [if_neg e2, if_neg (by omega)]
  · rintro ⟨x, u⟩ ⟨-, rfl, b1, b2, b3⟩
    refine ⟨u, ?_, b1, b2, b3⟩
    show fX8_parish_b70 n (nI T) u = _
    unfold fX8_parish_b70
    rw [b1 119 (by decide), h, if_pos (nI_le (Nat.le_refl _) (by omega))]
theorem st_parish (n : Nat) (hn : 2000 ≤ n) : xs_parish n Rel := by
  intro w hR
  obtain ⟨R, a1, a2, a3, a4, ⟨T, x0, x1, x2, x3⟩, a6, a7, a8, a9, a10, a11, a12⟩ := id hR
  by_cases h6 : R = 6
  · refine ⟨-4, w, w, ?_, ?_, hR⟩
    · unfold fX7_parish fX7_parishAt
      rw [a6, h6, if_neg (by decide), if_pos (by decide), pu_bp, pu_om0]
    · unfold fX8_parish
      rw [a7, h6, if_pos (by decide)]
  have hR6 : R < 6 := by omega
  have hpa : xw_pa (71 + 6 * R) := by unfold xw_pa; omega
  obtain ⟨t, ht⟩ : ∃ t : pg_T, t = (fun j => (w.1 123 j).toNatClampNeg, T) := ⟨_, rfl⟩
  have tT : t.2 = T := by rw [ht]
  have t1 : ∀ j, j < T → t.1 j < 128 ∧ w.1 123 j = nI (t.1 j) ∧ w.1 50 j = nI (t.1 j) := by
    intro j hj
    obtain ⟨y1, c, hc, y2⟩ := x3 j hj
    have e : t.1 j = c := by rw [ht]; show (w.1 123 j).toNatClampNeg = c; rw [y2, pu_cl (by omega)]
    rw [e]
    exact ⟨hc, y2, y1.trans y2⟩
  have C0 : pr_C t (71 + 6 * R) w := ⟨by omega, fun j hj => ⟨(t1 j (by omega)).1, (t1 j (by omega)).2.2⟩, by omega, by omega, hpa⟩
  obtain ⟨w0, e0, f0, f2, f3, f5, f4⟩ := pr_readAll hn C0 (by rw [tT]; exact x1)
  have ePA : fX7_parishAt (nI R) w = some (some (71 + 6 * R)) := by
    unfold fX7_parishAt
    rw [if_neg (nI_pos (by omega)), if_neg (nI_ge hR6 (by decide)), pu_ck hR6 (by decide), pu_cl (by omega), pu_ccT hpa]
  have D : pm_D w := by
    unfold pm_D
    rw [a12.1 128 (by decide), a12.1 129 (by decide), a12.1 130 (by decide)]
    exact pm_D0
  -- the reference over any memory that has its side
  have ref : ∀ w1 : xw_M, (∀ k, 119 ≤ k → w1.1 k = w.1 k) → ∃ v2 : xw_M, ∃ ok : Bool, ∃ K : Int32, ∃ (s : Int32) (fa : Nat), fX8_parish n w1 = (if pu_bi ((pg_all t).1 = true) = 0 then some ((-10 : Int32) - nI (pg_all t).2.1, v2) else fX8_parish_70 n (0 : Int32) v2) ∧ (∀ k, k ≠ 119 → k ≠ 126 → v2.1 k = w1.1 k) ∧ v2.2 = w1.2 ∧ (∀ j, (j < 10 ∨ 15 < j) → j ≠ 5 → v2.1 119 j = w1.1 119 j) ∧ v2.1 119 5 = 0 ∧ v2.1 119 10 = nI T ∧ (∀ j, j < T → v2.1 126 j = nI (t.1 j)) ∧ v2 = v2 ∧ ok = ok ∧ K = K ∧ s = s ∧ fa = fa := by
    intro w1 hw1
    obtain ⟨u, eu, u1, u2, u3⟩ := pm_cp1 hn x0 (xw_si w1 119 10 (nI T)) (by rw [pu_si1, pk_us])
    obtain ⟨v, hv⟩ : ∃ v, v = xw_si u 119 5 0 := ⟨_, rfl⟩
    have vk : ∀ k, k ≠ 119 → k ≠ 126 → v.1 k = w1.1 k := fun k h1 h2 => by rw [hv, pu_si0 _ _ _ h1, u1 k h2, pu_si0 _ _ _ h1]
    have v9 : v.1 119 = upd (upd (w1.1 119) 10 (nI T)) 5 0 := by rw [hv, pu_si1, u1 119 (by decide), pu_si1]
    have v26 : ∀ j, j < T → v.1 126 j = nI (t.1 j) := fun j hj => by rw [hv, pu_si0 _ _ _ (by decide), u3 j hj, pu_si0 _ _ _ (by decide), hw1 123 (by decide)]; exact (t1 j hj).2.1
    have Cv : pm_C t v := ⟨by omega, by rw [v9, pk_un (by decide), pk_us, tT], fun j hj => ⟨(t1 j (by omega)).1, v26 j (by omega)⟩⟩
    have Dv : pm_D v := by
      unfold pm_D
      rw [vk 128 (by decide) (by decide), vk 129 (by decide) (by decide), vk 130 (by decide) (by decide), hw1 128 (by decide), hw1 129 (by decide), hw1 130 (by decide)]
      exact D
    obtain ⟨s, fa, ok, K, er, -, -⟩ := pm_readAll Cv Dv (f := v.1 127) (fun _ _ => rfl) hn
    have z9 : ∀ j, (j < 10 ∨ 15 < j) → (pm_w (pm_u v s fa) (pg_all t).2.1 ok K).1 119 j = v.1 119 j := fun j hj => by rw [pm_o _ _ _ _ (by omega) (by omega) (by omega), pm_u_o _ _ _ (by omega) (by omega)]
    refine ⟨pm_w (pm_u v s fa) (pg_all t).2.1 ok K, ok, K, s, fa, ?_, fun k h1 h2 => by rw [pm_k _ _ _ _ h1, pm_u_k _ _ _ h1, vk k h1 h2], by show v.2 = _; rw [hv]; exact u2, fun j hj h5 => ?_, ?_, ?_, fun j hj => by rw [pm_k _ _ _ _ (by decide), pm_u_k _ _ _ (by decide)]; exact v26 j hj, rfl, rfl, rfl, rfl, rfl⟩
    · have n6 : ¬ nI R = (6 : Int32) := fun z => h6 ((nI_eq (b := 6) (by omega) (by decide)).mp z)
      unfold fX8_parish
      rw [hw1 119 (by decide), a7, if_neg n6, x2, pu_lt]
      unfold fX8_parish_22
      rw [eu, pu_bp]
      show fX8_parish_48 n u = _
      unfold fX8_parish_48
      rw [pu_lt, ← hv, er, pu_b, pm_11]
    · rw [z9 j hj, v9, pk_un h5, pk_un (by omega)]
    · rw [z9 5 (by omega), v9, pk_us]
    · rw [pm_o _ _ _ _ (by decide) (by decide) (by decide), pm_u_o _ _ _ (by decide) (by decide), v9, pk_un (by decide), pk_us]
  obtain ⟨w1, hw1⟩ : ∃ u, u = w0 := ⟨_, rfl⟩
  have g1 : ∀ k, k ≠ 0 → k ≠ 49 → (k < 71 + 6 * R ∨ 77 + 6 * R ≤ k) → w1.1 k = w.1 k := fun k _ h2 h3 => by rw [hw1, f0 k h2 (by omega)]
  have gb : ∀ k, k ≠ 0 → w1.1 k = w0.1 k := fun k _ => by rw [hw1]
  have g10 : w1.1 0 = w.1 0 := by rw [hw1, f0 0 (by decide) (by omega)]
  have l1 : w1.2 = w.2 := by rw [hw1]; exact f2
  have s50 : w1.1 49 2 = nI (pg_all t).2.1 := by rw [gb 49 (by decide)]; exact f3
  have s51 : w1.1 49 1 = 0 := by rw [gb 49 (by decide)]; exact f5
  by_cases hg : (pg_all t).1 = true
  case neg =>
    obtain ⟨v, ok, K, s, fa, e8, v1, v2, v3, v4, v5, v6, -⟩ := ref w1 (fun k hk => g1 k (by omega) (by omega) (by omega))
    rw [pu_biF hg, if_pos rfl] at e8
    have vk : ∀ k, k ≠ 0 → k ≠ 49 → (k < 71 + 6 * R ∨ 77 + 6 * R ≤ k) → k ≠ 119 → k ≠ 126 → v.1 k = w.1 k := fun k h1 h2 h3 h4 h5 => by rw [v1 k h4 h5, g1 k h1 h2 h3]
    have v0 : v.1 0 = w.1 0 := by rw [v1 0 (by decide) (by decide), g10]
    have v49 : v.1 49 1 = 0 := by rw [v1 49 (by decide) (by decide)]; exact s51
    have v9 : ∀ j, (j < 10 ∨ 15 < j) → j ≠ 5 → v.1 119 j = w.1 119 j := fun j h1 h2 => by rw [v3 j h1 h2, g1 119 (by decide) (by decide) (by omega)]
    have lv : v.2 = w.2 := v2.trans l1
    refine ⟨-10 - nI (pg_all t).2.1, w1, v, ?_, e8, ?_⟩
    · unfold fX7_parish
      rw [a6, ePA, pu_bp, pu_om1, pu_ccT hpa, e0, pu_b, pu_biF hg, if_pos rfl, ← hw1, s50]
    · refine ⟨R, a1, ?_, ?_, ?_, ⟨0, by omega, by rw [v49]; rfl, by rw [v4]; rfl, fun j hj => absurd hj (by omega)⟩, by rw [v0]; exact a6, by rw [v9 8 (by omega) (by decide)]; exact a7, fun i hi => ?_, rA_cong (fun k h1 h2 => vk k (by omega) (by omega) (by omega) (by omega) (by omega)) a9, ?_, fun t' ht' => ?_, ⟨fun k hk => ?_, ?_⟩⟩
      · rw [vk 120 (by decide) (by decide) (by omega) (by decide) (by decide)]
        exact rS_cong (fun k h1 h2 => vk k (by omega) (by omega) (by omega) (by omega) (by omega)) a2
      · rw [v0, v9 3 (by omega) (by decide)]; exact a3
      · rw [v0, vk 122 (by decide) (by decide) (by omega) (by decide) (by decide)]
        exact a4.imp id (fun q => ⟨q.1, rS_cong (fun k h1 h2 => vk k (by omega) (by omega) (by omega) (by omega) (by omega)) q.2⟩)
      · exact rR_cong (fun k h1 h2 => vk k (by omega) (by omega) (by omega) (by omega) (by omega)) (fun j _ => by rw [vk 124 (by decide) (by decide) (by omega) (by decide) (by decide)]) (by rw [vk 125 (by decide) (by decide) (by omega) (by decide) (by decide)]) (a8 i hi)
      · exact rB_cong (by rw [vk 68 (by decide) (by decide) (by omega) (by decide) (by decide)]) (v9 26 (by omega) (by decide)) (vk 69 (by decide) (by decide) (by omega) (by decide) (by decide)) (vk 136 (by decide) (by decide) (by omega) (by decide) (by decide)) a10
      · exact rT_cong (vk _ (by omega) (by omega) (by omega) (by omega) (by omega)) (by rw [vk 137 (by decide) (by decide) (by omega) (by decide) (by decide)]) (by rw [vk 138 (by decide) (by decide) (by omega) (by decide) (by decide)]) (by rw [lv]) (fun j _ => by rw [lv]) (a11 t' ht')
      · rw [vk k (by omega) (by omega) (by omega) (by omega) (by omega)]; exact a12.1 k hk
      · rw [vk 40 (by decide) (by decide) (by omega) (by decide) (by decide), vk 43 (by decide) (by decide) (by omega) (by decide) (by decide), vk 46 (by decide) (by decide) (by omega) (by decide) (by decide)]
        exact a12.2
  obtain ⟨w3, hw3⟩ : ∃ u, u = xw_si (xw_si w1 1 10 (nI R)) 0 6 (nI (R + 1)) := ⟨_, rfl⟩
  have h3 : ∀ k, k ≠ 0 → k ≠ 1 → k ≠ 49 → (k < 71 + 6 * R ∨ 77 + 6 * R ≤ k) → w3.1 k = w.1 k := fun k k1 k2 k3 k4 => by rw [hw3, pu_si0 _ _ _ k1, pu_si0 _ _ _ k2, g1 k k1 k3 k4]
  have h3b : ∀ k, 71 + 6 * R ≤ k → w3.1 k = w0.1 k := fun k k1 => by rw [hw3, pu_si0 _ _ _ (by omega), pu_si0 _ _ _ (by omega), gb k (by omega)]
  have h30 : w3.1 0 = upd (w.1 0) 6 (nI (R + 1)) := by rw [hw3, pu_si1, pu_si0 _ _ _ (by decide), g10]
  have h349 : w3.1 49 1 = 0 := by rw [hw3, pu_si0 _ _ _ (by decide), pu_si0 _ _ _ (by decide)]; exact s51
  have h31 : w3.1 1 = upd (w.1 1) 10 (nI R) := by rw [hw3, pu_si0 _ _ _ (by decide), pu_si1, g1 1 (by decide) (by decide) (by omega)]
  have l3 : w3.2 = w.2 := by rw [hw3]; exact l1
  obtain ⟨v, ok, K, s, fa, e8, v1, v2, v3, v4, v5, v6, -⟩ := ref w3 (fun k hk => h3 k (by omega) (by omega) (by omega) (by omega))
  rw [pu_biT hg, if_neg (by decide)] at e8
  have v98 : v.1 119 8 = nI R := by rw [v3 8 (by omega) (by decide), h3 119 (by decide) (by decide) (by decide) (by omega)]; exact a7
  obtain ⟨y, ey, y1, y2, y3⟩ := pm_cp2 hn x0 hR6 v v5 v98
  obtain ⟨z, hz⟩ : ∃ u, u = xw_si (xw_si (xw_si y 125 R (nI T)) 119 8 (nI (R + 1))) 120 63 (nI (R + 1)) := ⟨_, rfl⟩
  have zk : ∀ k, k ≠ 119 → k ≠ 120 → k ≠ 124 → k ≠ 125 → k ≠ 126 → z.1 k = w3.1 k := fun k k1 k2 k3 k4 k5 => by rw [hz, pu_si0 _ _ _ k2, pu_si0 _ _ _ k1, pu_si0 _ _ _ k4, y1 k k3, v1 k k1 k5]
  have z9 : ∀ j, (j < 10 ∨ 15 < j) → j ≠ 5 → j ≠ 8 → z.1 119 j = w.1 119 j := fun j j1 j2 j3 => by rw [hz, pu_si0 _ _ _ (by decide), pu_si1, pk_un j3, pu_si0 _ _ _ (by decide), y1 119 (by decide), v3 j j1 j2, h3 119 (by decide) (by decide) (by decide) (by omega)]
  have z95 : z.1 119 5 = 0 := by rw [hz, pu_si0 _ _ _ (by decide), pu_si1, pk_un (by decide), pu_si0 _ _ _ (by decide), y1 119 (by decide), v4]
  have z98 : z.1 119 8 = nI (R + 1) := by rw [hz, pu_si0 _ _ _ (by decide), pu_si1, pk_us]
  have z120 : z.1 120 = upd (w.1 120) 63 (nI (R + 1)) := by rw [hz, pu_si1, pu_si0 _ _ _ (by decide), pu_si0 _ _ _ (by decide), y1 120 (by decide), v1 120 (by decide) (by decide), h3 120 (by decide) (by decide) (by decide) (by omega)]
  have z124 : ∀ q, z.1 124 q = if 100 * R ≤ q ∧ q < 100 * R + T then nI (t.1 (q - 100 * R)) else w.1 124 q := by
    intro q
    rw [hz, pu_si0 _ _ _ (by decide), pu_si0 _ _ _ (by decide), pu_si0 _ _ _ (by decide), y3 q]
    by_cases c : 100 * R ≤ q ∧ q < 100 * R + T
    · rw [if_pos c, if_pos c, v6 _ (by omega)]
    · rw [if_neg c, if_neg c, v1 124 (by decide) (by decide), h3 124 (by decide) (by decide) (by decide) (by omega)]
  have z125 : z.1 125 = upd (w.1 125) R (nI T) := by rw [hz, pu_si0 _ _ _ (by decide), pu_si0 _ _ _ (by decide), pu_si1, y1 125 (by decide), v1 125 (by decide) (by decide), h3 125 (by decide) (by decide) (by decide) (by omega)]
  have zw : ∀ k, k ≠ 0 → k ≠ 1 → k ≠ 49 → (k < 71 + 6 * R ∨ 77 + 6 * R ≤ k) → k ≠ 119 → k ≠ 120 → k ≠ 124 → k ≠ 125 → k ≠ 126 → z.1 k = w.1 k := fun k k1 k2 k3 k4 k5 k6 k7 k8 k9 => by rw [zk k k5 k6 k7 k8 k9, h3 k k1 k2 k3 k4]
  have z0 : z.1 0 = upd (w.1 0) 6 (nI (R + 1)) := by rw [zk 0 (by decide) (by decide) (by decide) (by decide) (by decide), h30]
  have z49 : z.1 49 1 = 0 := by rw [zk 49 (by decide) (by decide) (by decide) (by decide) (by decide)]; exact h349
  have z1 : z.1 1 = upd (w.1 1) 10 (nI R) := by rw [zk 1 (by decide) (by decide) (by decide) (by decide) (by decide), h31]
  have lz : z.2 = w.2 := by rw [hz]; show y.2 = _; rw [y2, v2, l3]
  refine ⟨nI R, w3, z, ?_, ?_, ?_⟩
  · unfold fX7_parish
    rw [a6, ePA, pu_bp, pu_om1, pu_ccT hpa, e0, pu_b, pu_biT hg, if_neg (by decide), ← hw1, show w1.1 0 6 = nI R by rw [g10]; exact a6, pu_lt, pu_si0 _ _ _ (show (0 : Nat) ≠ 1 by decide), show w1.1 0 6 = nI R by rw [g10]; exact a6, nI_1, pu_lt, ← hw3, h31, pk_us]
  · rw [e8]
    unfold fX8_parish_70
    rw [ey, pu_bp]
    show fX8_parish_104 n y = _
    unfold fX8_parish_104
    rw [y1 119 (by decide), v98, v5, pu_ck hR6 (by decide), pu_cl (by omega), pu_lt, pu_si0 _ _ _ (show (119 : Nat) ≠ 125 by decide), y1 119 (by decide), v98, nI_1, pu_lt, pu_n63, pu_c63, pu_si1, pk_us, pu_lt, ← hz, z98, nI_pred]
  · refine ⟨R + 1, by omega, ?_, ?_, ?_, ⟨0, by omega, by rw [z49]; rfl, by rw [z95]; rfl, fun j hj => absurd hj (by omega)⟩, by rw [z0, pk_us], z98, fun i hi => ?_, rA_cong (fun k k1 k2 => zw k (by omega) (by omega) (by omega) (by omega) (by omega) (by omega) (by omega) (by omega) (by omega)) a9, ?_, fun t' ht' => ?_, ⟨fun k hk => ?_, ?_⟩⟩
    · obtain ⟨N, M, b1, b2, b3, b4, b5, bM, ⟨d1, d2, d3, -⟩, bS, bP, bB⟩ := a2
      have e : ∀ k, 2 ≤ k → k < 17 → z.1 k = w.1 k := fun k k1 k2 => zw k (by omega) (by omega) (by omega) (by omega) (by omega) (by omega) (by omega) (by omega) (by omega)
      rw [z120]
      refine ⟨N, M, b1, b2, ?_, ?_, ?_, ?_, ⟨?_, ?_, ?_, R + 1, Nat.le_refl _, ?_, ?_⟩, ?_, ?_, ?_⟩
      · rw [z1, pk_un (by decide)]; exact b3
      · rw [pk_un (by decide)]; exact b4
      · rw [z1, pk_un (by decide)]; exact b5
      · rw [e (1 + 1) (by omega) (by omega), e (1 + 2) (by omega) (by omega), e (1 + 3) (by omega) (by omega), e (1 + 4) (by omega) (by omega), e (1 + 5) (by omega) (by omega), e (1 + 6) (by omega) (by omega)]
        exact rM_g b1 (fun j hj => pk_un (by omega)) bM
      · rw [z1, pk_un (by decide), pk_un (by decide)]; exact d1
      · rw [pk_un (by decide)]; exact d2
      · rw [z1, pk_un (by decide), pk_un (by decide)]; exact d3
      · rw [pk_us]
      · rw [z1, pk_us, nI_pred]
      · rw [e (1 + 7) (by omega) (by omega), e (1 + 8) (by omega) (by omega), e (1 + 9) (by omega) (by omega)]
        exact rP_g (fun j j1 j2 => pk_un (by omega)) bS
      · rw [e (1 + 10) (by omega) (by omega), e (1 + 11) (by omega) (by omega), e (1 + 12) (by omega) (by omega)]
        exact rP_g (fun j j1 j2 => pk_un (by omega)) bP
      · rw [e (1 + 13) (by omega) (by omega), e (1 + 14) (by omega) (by omega), e (1 + 15) (by omega) (by omega)]
        exact rP_g (fun j j1 j2 => pk_un (by omega)) bB
    · rw [z0, pk_un (by decide), z9 3 (by omega) (by decide) (by decide)]; exact a3
    · rw [z0, pk_un (by decide), zw 122 (by decide) (by decide) (by decide) (by omega) (by decide) (by decide) (by decide) (by decide) (by decide)]
      exact a4.imp id (fun q => ⟨q.1, rS_mono (rS_cong (fun k k1 k2 => zw k (by omega) (by omega) (by omega) (by omega) (by omega) (by omega) (by omega) (by omega) (by omega)) q.2)⟩)
    · by_cases c : i = R
      · subst c
        refine ⟨t, by omega, by rw [z125, pk_us, tT], fun j hj => ⟨(t1 j (by omega)).1, ?_⟩, hg, ?_⟩
        · rw [z124, if_pos (by omega), show 100 * i + j - 100 * i = j by omega]
        · refine rA_cong (fun k k1 k2 => ?_) (f4 hg)
          rw [zk k (by omega) (by omega) (by omega) (by omega) (by omega), h3b k k1]
      · exact rR_cong (fun k k1 k2 => zw k (by omega) (by omega) (by omega) (by omega) (by omega) (by omega) (by omega) (by omega) (by omega)) (fun j hj => by rw [z124, if_neg (by omega)]) (by rw [z125, pk_un c]) (a8 i (by omega))
    · exact rB_cong (by rw [zw 68 (by decide) (by decide) (by decide) (by omega) (by decide) (by decide) (by decide) (by decide) (by decide)]) (z9 26 (by omega) (by decide) (by decide)) (zw 69 (by decide) (by decide) (by decide) (by omega) (by decide) (by decide) (by decide) (by decide) (by decide)) (zw 136 (by decide) (by decide) (by decide) (by omega) (by decide) (by decide) (by decide) (by decide) (by decide)) a10
    · exact rT_cong (zw _ (by omega) (by omega) (by omega) (by omega) (by omega) (by omega) (by omega) (by omega) (by omega)) (by rw [zw 137 (by decide) (by decide) (by decide) (by omega) (by decide) (by decide) (by decide) (by decide) (by decide)]) (by rw [zw 138 (by decide) (by decide) (by decide) (by omega) (by decide) (by decide) (by decide) (by decide) (by decide)]) (by rw [lz]) (fun j _ => by rw [lz]) (a11 t' ht')
    · rw [zw k (by omega) (by omega) (by omega) (by omega) (by omega) (by omega) (by omega) (by omega) (by omega)]; exact a12.1 k hk
    · rw [zw 40 (by decide) (by decide) (by decide) (by omega) (by decide) (by decide) (by decide) (by decide) (by decide), zw 43 (by decide) (by decide) (by decide) (by omega) (by decide) (by decide) (by decide) (by decide) (by decide), zw 46 (by decide) (by decide) (by decide) (by omega) (by decide) (by decide) (by decide) (by decide) (by decide)]
      exact a12.2
