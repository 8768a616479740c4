/-! ===== pass, on ===== -/
theorem Rel_nf {w w' : xw_M} {R : Nat} (h : Rel w) (hR : w.1 0 6 = nI R) (hR6 : R ≤ 6) (hf : ∀ k, (k < 1 ∨ 17 ≤ k) → k ≠ 120 → ¬ pu_Sc k → w'.1 k = w.1 k) (h2 : w'.2 = w.2) (h9 : ∀ j, (j < 10 ∨ 15 < j) → w'.1 119 j = w.1 119 j) (hs : rS w'.1 1 (w'.1 120) R) : Rel w' := by
  obtain ⟨u, hu⟩ : ∃ u : xw_M, u = (fun k => if (1 ≤ k ∧ k < 17) ∨ k = 120 then w'.1 k else w.1 k, w.2) := ⟨_, rfl⟩
  have uin : ∀ k, (1 ≤ k ∧ k < 17) ∨ k = 120 → u.1 k = w'.1 k := fun k hk => by rw [hu]; exact if_pos hk
  have uout : ∀ k, ¬ ((1 ≤ k ∧ k < 17) ∨ k = 120) → u.1 k = w.1 k := fun k hk => by rw [hu]; exact if_neg hk
  have Ru : Rel u := by
    refine Rel_now h hR hR6 (fun k k1 k2 => uout k (by omega)) (by rw [hu]) ?_
    rw [uin 120 (Or.inr rfl)]
    exact rS_cong (fun k k1 k2 => uin k (Or.inl (by omega))) hs
  refine Rel_fr Ru ⟨fun k hk => ?_, fun k hk => by rw [h2, hu]⟩ ?_ ?_ ?_ ?_
  · by_cases q : (1 ≤ k ∧ k < 17) ∨ k = 120
    · exact (uin k q).symm
    · rw [uout k q]; exact hf k (by omega) (by omega) hk
  · rw [uout 119 (by omega)]; exact h9 3 (by omega)
  · rw [uout 119 (by omega)]; exact h9 5 (by omega)
  · rw [uout 119 (by omega)]; exact h9 8 (by omega)
  · rw [uout 119 (by omega)]; exact h9 26 (by omega)
theorem rS_rK {m0 m : Nat → Nat → Int32} {g0 g : Nat → Int32} {R N M : Nat} (hs : rS m0 1 g0 R) (K : rK m 1 g N M) (h0 : m 1 0 = m0 1 0) (h10 : m 1 10 = m0 1 10) (hp : ∀ k, 8 ≤ k → k < 17 → m k = m0 k) (hg : ∀ j, 63 ≤ j → g j = g0 j) (h61 : g 61 = g0 61) : rS m 1 g R := by
  obtain ⟨N', M', b1, b2, b3, b4, b5, bM, ⟨d1, d2, d3, d4⟩, bS, bP, bB⟩ := hs
  obtain ⟨k1, k2, k3, k4, k5, k6, k7, k8⟩ := K
  have eN : N' = N := (nI_eq (by omega) (by omega)).mp (b3.symm.trans (h0.symm.trans k3))
  subst eN
  refine ⟨N', M, k1, k2, k3, k4, k5, k6, ⟨k7, ?_, k8, ?_⟩, ?_, ?_, ?_⟩
  · rw [h61]; exact d2
  · rw [hg 63 (by omega), h10]; exact d4
  · rw [hp (1 + 7) (by omega) (by omega), hp (1 + 8) (by omega) (by omega), hp (1 + 9) (by omega) (by omega)]
    exact rP_g (fun j j1 j2 => hg j (by omega)) bS
  · rw [hp (1 + 10) (by omega) (by omega), hp (1 + 11) (by omega) (by omega), hp (1 + 12) (by omega) (by omega)]
    exact rP_g (fun j j1 j2 => hg j (by omega)) bP
  · rw [hp (1 + 13) (by omega) (by omega), hp (1 + 14) (by omega) (by omega), hp (1 + 15) (by omega) (by omega)]
    exact rP_g (fun j j1 j2 => hg j (by omega)) bB
theorem DY_eq {cl : List pg_Cl} {N : Nat} (hN : N ≤ 6) (mx : Int32) (g : Nat → Int32) {j : Nat} (h : ∀ m, m < 6 → j ≠ 10 * m + 3 ∧ j ≠ 10 * m + 5) (h62 : j ≠ 62) : DY cl N mx g j = g j := by
  unfold DY
  rw [pk_un h62, pg_py_eq _ _ _ _ _ _ (fun m hm => (h m (by omega)).2), (pg_mv_eq cl N g N hN).1 j (fun m hm => (h m (by omega)).1)]
def DN (cl : List pg_Cl) (N : Nat) (mx : Int32) (g : Nat → Int32) : Nat → (Nat → Int32)
  | 0 => g
  | k + 1 => DY cl N mx (DN cl N mx g k)
theorem DN_eq {cl : List pg_Cl} {N : Nat} (hN : N ≤ 6) (mx : Int32) (g : Nat → Int32) {j : Nat} (h : ∀ m, m < 6 → j ≠ 10 * m + 3 ∧ j ≠ 10 * m + 5) (h62 : j ≠ 62) : ∀ k, DN cl N mx g k j = g j := by
  intro k
  induction k with
  | zero => rfl
  | succ k ih => show DY cl N mx (DN cl N mx g k) j = g j; rw [DY_eq hN mx _ h h62, ih]
theorem st_pass (n : Nat) (hn : 2000 ≤ n) : xs_pass n Rel := by
  intro a w hR
  obtain ⟨p, N, M, cl, Z⟩ := pu_Z_of hR
  obtain ⟨K, -, hpa, hp, -, ho, hA, X⟩ := id Z
  obtain ⟨R, c1, hS, -, -, -, a6, -⟩ := id hR
  have hN := K.1
  have k9 := K.2.2.2.2.2.2.2
  by_cases h : 0 ≤ a ∧ a ≤ 20
  case neg => exact ⟨-2, w, w, by unfold fX7_pass; simp only [pu_within, pu_bp, pu_biF h, reduceIte], by unfold fX8_pass; simp only [pu_isIn, pu_bp, pu_biF h, reduceIte], hR⟩
  by_cases h9 : w.1 120 62 + a ≤ 9999
  case neg => exact ⟨-3, w, w, by unfold fX7_pass; simp only [pu_within, pu_bp, pu_biT h, pu_10, reduceIte, k9, if_neg h9], by unfold fX8_pass; simp only [pu_isIn, pu_bp, pu_biT h, pu_10, reduceIte, pu_n62, pu_c62, if_neg h9], hR⟩
  obtain ⟨e, he, rfl⟩ := pu_ex (n := 20) (by decide) h
  obtain ⟨w1, e1, f1, f2, f3, K1⟩ : ∃ w1, xw_it (fun z => fX7_pass_b32 n (nI e) z.1 z.2) n ((0 : Int32), w) = some w1 ∧ (∀ k, k ≠ 1 → k ≠ 5 → k ≠ 6 → k ≠ 65 → k ≠ 66 → k ≠ 67 → w1.1 k = w.1 k) ∧ w1.2 = w.2 ∧ (∀ j, j ≠ 9 → w1.1 1 j = w.1 1 j) ∧ rK w1.1 1 (DN cl N 999999 (w.1 120) e) N M := by
    refine pu_inv (fun z => fX7_pass_b32 n (nI e) z.1 z.2) (fun k z => k ≤ e ∧ z.1 = nI k ∧ (∀ q, q ≠ 1 → q ≠ 5 → q ≠ 6 → q ≠ 65 → q ≠ 66 → q ≠ 67 → z.2.1 q = w.1 q) ∧ z.2.2 = w.2 ∧ (∀ j, j ≠ 9 → z.2.1 1 j = w.1 1 j) ∧ rK z.2.1 1 (DN cl N 999999 (w.1 120) k) N M) e _ ?_ ?_ n 0 _ (by omega) (by omega) ⟨by omega, rfl, fun _ _ _ _ _ _ _ => rfl, rfl, fun _ _ => rfl, K⟩
    · rintro k ⟨x, u⟩ hk ⟨-, rfl, b1, b2, b3, Ku⟩
      obtain ⟨v, ev, g1, g2, g3, Kv⟩ := pc_goDay (999999 : Int32) hn (by decide) hp ho (rA_cong (fun q q1 q2 => b1 q (by omega) (by omega) (by omega) (by omega) (by omega) (by omega)) hA) Ku
      refine Or.inl ⟨(nI (k + 1), v), ?_, by omega, rfl, fun q q1 q2 q3 q4 q5 q6 => (g1 q q1 q2 q3 q4 q5 q6).trans (b1 q q1 q2 q3 q4 q5 q6), g2.trans b2, fun j hj => (g3 j hj).trans (b3 j hj), Kv⟩
      show fX7_pass_b32 n (nI e) (nI k) u = _
      unfold fX7_pass_b32
      rw [if_neg (nI_ge hk (by omega)), pu_held Z (b3 10 (by decide)), ev, pu_b, pu_lt, nI_1]
    · rintro ⟨x, u⟩ ⟨-, rfl, b1, b2, b3, Ku⟩
      refine ⟨u, ?_, b1, b2, b3, Ku⟩
      show fX7_pass_b32 n (nI e) (nI e) u = _
      unfold fX7_pass_b32
      rw [if_pos (nI_le (Nat.le_refl _) (by omega))]
  have X1 : pm_X cl N w1 := pm_X_hi (fun k hk => f1 k (by omega) (by omega) (by omega) (by omega) (by omega) (by omega)) X
  have w120 : w1.1 120 = w.1 120 := f1 120 (by decide) (by decide) (by decide) (by decide) (by decide) (by decide)
  obtain ⟨w2, e2, g1, g2, X2⟩ : ∃ w2, xw_it (fun z => fX8_pass_b33 n (nI e) z.1 z.2) n ((0 : Int32), w1) = some w2 ∧ pm_Fg w1 w2 ∧ w2.1 120 = DN cl N 999999 (w.1 120) e ∧ pm_X cl N w2 := by
    refine pu_inv (fun z => fX8_pass_b33 n (nI e) z.1 z.2) (fun k z => k ≤ e ∧ z.1 = nI k ∧ pm_Fg w1 z.2 ∧ z.2.1 120 = DN cl N 999999 (w.1 120) k ∧ pm_X cl N z.2) e _ ?_ ?_ n 0 _ (by omega) (by omega) ⟨by omega, rfl, pm_Fg_rf _, w120, X1⟩
    · rintro k ⟨x, u⟩ hk ⟨-, rfl, b1, b2, Xu⟩
      obtain ⟨v, ev, g1, g2, Xv⟩ := pm_day Xu hn 1 999999 (Or.inr ⟨rfl, rfl⟩)
      rw [show u.1 120 = _ from b2] at g2
      refine Or.inl ⟨(nI (k + 1), v), ?_, by omega, rfl, pm_Fg_tr b1 g1, g2, Xv⟩
      show fX8_pass_b33 n (nI e) (nI k) u = _
      unfold fX8_pass_b33
      rw [if_neg (nI_ge hk (by omega)), ev, pu_b, pu_lt, nI_1]
    · rintro ⟨x, u⟩ ⟨-, rfl, b1, b2, Xu⟩
      refine ⟨u, ?_, b1, b2, Xu⟩
      show fX8_pass_b33 n (nI e) (nI e) u = _
      unfold fX8_pass_b33
      rw [if_pos (nI_le (Nat.le_refl _) (by omega))]
  refine ⟨DN cl N 999999 (w.1 120) e 62, w1, w2, ?_, ?_, ?_⟩
  · unfold fX7_pass
    simp only [pu_within, pu_bp, pu_biT h, pu_10, reduceIte, k9, if_pos h9]
    unfold fX7_pass_32
    rw [e1, pu_bp]
    show fX7_pass_61 n (nI e) w1 = _
    unfold fX7_pass_61
    rw [K1.2.2.2.2.2.2.2]
  · unfold fX8_pass
    simp only [pu_isIn, pu_bp, pu_biT h, pu_10, reduceIte, pu_n62, pu_c62, w120, if_pos h9]
    unfold fX8_pass_33
    rw [e2, pu_bp]
    show fX8_pass_50 n (nI e) w2 = _
    unfold fX8_pass_50
    rw [pu_n62, pu_c62, g2]
  · refine Rel_nf hR a6 c1 (fun k k1 k2 k3 => ?_) (g1.2.1.trans f2) (fun j hj => ?_) ?_
    · unfold pu_Sc at k3
      rw [g1.1 k (by omega) (by omega) (by omega) (by omega) (by omega) (by omega), f1 k (by omega) (by omega) (by omega) (by omega) (by omega) (by omega)]
    · rw [g1.2.2 j hj, f1 119 (by omega) (by omega) (by omega) (by omega) (by omega) (by omega)]
    · have K2 : rK w2.1 1 (w2.1 120) N M := by
        rw [g2]
        exact rK_cong (fun k k1 k2 => g1.1 k (by omega) (by omega) (by omega) (by omega) (by omega) (by omega)) K1
      have t1 : w2.1 1 = w1.1 1 := g1.1 1 (by omega) (by omega) (by omega) (by omega) (by omega) (by omega)
      refine rS_rK hS K2 (by rw [t1, f3 0 (by decide)]) (by rw [t1, f3 10 (by decide)]) (fun k k1 k2 => ?_) (fun j hj => ?_) ?_
      · rw [g1.1 k (by omega) (by omega) (by omega) (by omega) (by omega) (by omega), f1 k (by omega) (by omega) (by omega) (by omega) (by omega) (by omega)]
      · rw [g2, DN_eq hN _ _ (fun m hm => ⟨by omega, by omega⟩) (by omega)]
      · rw [g2, DN_eq hN _ _ (fun m hm => ⟨by omega, by omega⟩) (by omega)]
/-! what is tried out: the class's later, the reference's row kept and laid back -/
theorem rK_take {w w' : xw_M} {N M : Nat} {g : Nat → Int32} (K : rK w.1 1 g N M) (T : pu_Tk 17 1 w w') : rK w'.1 17 g N M := by
  obtain ⟨k1, k2, k3, k4, k5, k6, k7, k8⟩ := K
  obtain ⟨-, -, t1, t2, t3, -⟩ := T
  refine ⟨k1, k2, (t1 0 (by omega)).trans k3, k4, (t1 7 (by omega)).trans k5, ⟨fun i hi => ?_, fun i h1 h2 => ?_⟩, (t1 8 (by omega)).trans k7, (t1 9 (by omega)).trans k8⟩
  · obtain ⟨u1, u2, u3, u4, u5⟩ := t2 i (by omega)
    obtain ⟨c1, c2, c3, c4, c5, c6, c7, c8⟩ := k6.1 i hi
    exact ⟨u1.trans c1, u2.trans c2, u3.trans c3, u4.trans c4, c5, u5.trans c6, fun j hj => (t3 _ (by omega)).trans (c7 j hj), c8⟩
  · obtain ⟨u1, u2, u3, u4, u5⟩ := t2 i (by omega)
    obtain ⟨c1, c2⟩ := k6.2 i h1 h2
    exact ⟨u5.trans c1, fun j hj => (t3 _ (by omega)).trans (c2 j hj)⟩
theorem pc_F_take {w w' : xw_M} (T : pu_Tk 17 1 w w') : pc_F w w' := ⟨fun k h1 _ _ _ => T.2.1 k (by omega), T.1⟩
theorem pu_tk (w : xw_M) : ∃ w', fX5_takeAfter 17 1 w = some ((), w') ∧ pu_Tk 17 1 w w' := pu_take w (Or.inr (Or.inr ⟨rfl, rfl⟩))
theorem pc_F_day {a b : xw_M} (h : ∀ k, k ≠ 17 → k ≠ 17 + 4 → k ≠ 17 + 5 → k ≠ 65 → k ≠ 66 → k ≠ 67 → b.1 k = a.1 k) (h2 : b.2 = a.2) : pc_F a b := ⟨fun k q q1 q2 q3 => h k (by omega) (by omega) (by omega) q1 q2 q3, h2⟩
theorem pm_keep {n : Nat} (hn : 2000 ≤ n) (w : xw_M) : ∃ w', fX8_keep n (0 : Int32) w = some ((), w') ∧ (∀ k, k ≠ 121 → w'.1 k = w.1 k) ∧ w'.2 = w.2 ∧ ∀ j, j < 109 → w'.1 121 j = w.1 120 j := by
  unfold fX8_keep fX8_keep_2
  obtain ⟨w', e, r⟩ : ∃ w', xw_it (fun z => fX8_keep_b2 n (0 : Int32) z.1 z.2) n ((0 : Int32), w) = some w' ∧ (∀ k, k ≠ 121 → w'.1 k = w.1 k) ∧ w'.2 = w.2 ∧ ∀ j, j < 109 → w'.1 121 j = w.1 120 j := by
    refine pu_inv (fun z => fX8_keep_b2 n (0 : Int32) z.1 z.2) (fun k z => k ≤ 109 ∧ z.1 = nI k ∧ (∀ q, q ≠ 121 → z.2.1 q = w.1 q) ∧ z.2.2 = w.2 ∧ ∀ j, j < k → z.2.1 121 j = w.1 120 j) 109 _ ?_ ?_ n 0 _ (by omega) (by omega) ⟨by omega, rfl, fun _ _ => rfl, rfl, fun j hj => absurd hj (by omega)⟩
    · rintro k ⟨x, u⟩ hk ⟨-, rfl, b1, b2, b3⟩
      refine Or.inl ⟨(nI (k + 1), xw_si u 121 k (w.1 120 k)), ?_, by omega, rfl, fun q hq => by rw [pu_si0 _ _ _ hq]; exact b1 q hq, b2, fun j hj => ?_⟩
      · show fX8_keep_b2 n (0 : Int32) (nI k) u = _
        unfold fX8_keep_b2
        rw [show (0 : Int32) = nI 0 from rfl, show (109 : Int32) = nI 109 from rfl, if_neg (nI_ge hk (by decide)), pu_ck hk (by decide), pk_mul, nI_add, show 109 * 0 + k = k by omega, pu_ck (show k < 218 by omega) (by decide), pu_lt, pu_cl (by omega), b1 120 (by decide), pu_lt, nI_1]
      · show (xw_si u 121 k _).1 121 j = _
        rw [pu_si1]
        by_cases q : j = k
        · rw [q, pk_us]
        · rw [pk_un q]; exact b3 j (by omega)
    · rintro ⟨x, u⟩ ⟨-, rfl, b1, b2, b3⟩
      refine ⟨u, ?_, b1, b2, b3⟩
      show fX8_keep_b2 n (0 : Int32) (nI 109) u = _
      unfold fX8_keep_b2
      rw [if_pos (show (109 : Int32) ≤ nI 109 by decide)]
  exact ⟨w', by rw [e, pu_bp]; rfl, r⟩
theorem pm_lay {n : Nat} (hn : 2000 ≤ n) (w : xw_M) : ∃ w', fX8_lay n (0 : Int32) w = some ((), w') ∧ (∀ k, k ≠ 120 → w'.1 k = w.1 k) ∧ w'.2 = w.2 ∧ ∀ j, w'.1 120 j = if j < 109 then w.1 121 j else w.1 120 j := by
  unfold fX8_lay fX8_lay_2
  obtain ⟨w', e, r⟩ : ∃ w', xw_it (fun z => fX8_lay_b2 n (0 : Int32) z.1 z.2) n ((0 : Int32), w) = some w' ∧ (∀ k, k ≠ 120 → w'.1 k = w.1 k) ∧ w'.2 = w.2 ∧ ∀ j, w'.1 120 j = if j < 109 then w.1 121 j else w.1 120 j := by
    refine pu_inv (fun z => fX8_lay_b2 n (0 : Int32) z.1 z.2) (fun k z => k ≤ 109 ∧ z.1 = nI k ∧ (∀ q, q ≠ 120 → z.2.1 q = w.1 q) ∧ z.2.2 = w.2 ∧ ∀ j, z.2.1 120 j = if j < k then w.1 121 j else w.1 120 j) 109 _ ?_ ?_ n 0 _ (by omega) (by omega) ⟨by omega, rfl, fun _ _ => rfl, rfl, fun j => by rw [if_neg (by omega)]⟩
    · rintro k ⟨x, u⟩ hk ⟨-, rfl, b1, b2, b3⟩
      refine Or.inl ⟨(nI (k + 1), xw_si u 120 k (w.1 121 k)), ?_, by omega, rfl, fun q hq => by rw [pu_si0 _ _ _ hq]; exact b1 q hq, b2, fun j => ?_⟩
      · show fX8_lay_b2 n (0 : Int32) (nI k) u = _
        unfold fX8_lay_b2
        rw [show (0 : Int32) = nI 0 from rfl, show (109 : Int32) = nI 109 from rfl, if_neg (nI_ge hk (by decide)), pk_mul, nI_add, show 109 * 0 + k = k by omega, pu_ck (show k < 218 by omega) (by decide), pu_ck hk (by decide), pu_lt, pu_cl (by omega), b1 121 (by decide), pu_lt, nI_1]
      · show (xw_si u 120 k _).1 120 j = _
        rw [pu_si1]
        by_cases q : j = k
        · rw [q, pk_us, if_pos (by omega)]
        · rw [pk_un q, b3 j]
          by_cases q2 : j < k
          · rw [if_pos q2, if_pos (by omega)]
          · rw [if_neg q2, if_neg (by omega)]
    · rintro ⟨x, u⟩ ⟨-, rfl, b1, b2, b3⟩
      refine ⟨u, ?_, b1, b2, b3⟩
      show fX8_lay_b2 n (0 : Int32) (nI 109) u = _
      unfold fX8_lay_b2
      rw [if_pos (show (109 : Int32) ≤ nI 109 by decide)]
  exact ⟨w', by rw [e, pu_bp]; rfl, r⟩
/-- after keeping, trying out and laying back all is as it was -/
theorem Rel_lay {w w1 k1 v u : xw_M} (h : Rel w) (f : pc_F w w1) (a1 : ∀ k, k ≠ 121 → k1.1 k = w1.1 k) (a2 : k1.2 = w1.2) (a3 : ∀ j, j < 109 → k1.1 121 j = w1.1 120 j) (g : ∀ k, k ≠ 119 → k ≠ 120 → k ≠ 126 → k ≠ 127 → k ≠ 131 → k ≠ 132 → k ≠ 133 → v.1 k = k1.1 k) (g2 : v.2 = k1.2) (g3 : ∀ j, (j < 10 ∨ 15 < j) → v.1 119 j = k1.1 119 j) (gh : ∀ j, 109 ≤ j → v.1 120 j = k1.1 120 j) (b1 : ∀ k, k ≠ 120 → u.1 k = v.1 k) (b2 : u.2 = v.2) (b3 : ∀ j, u.1 120 j = if j < 109 then v.1 121 j else v.1 120 j) : Rel u ∧ u.1 120 = w1.1 120 := by
  have e : u.1 120 = w1.1 120 := by
    funext j
    rw [b3 j]
    by_cases q : j < 109
    · rw [if_pos q, g 121 (by decide) (by decide) (by decide) (by decide) (by decide) (by decide) (by decide), a3 j q]
    · rw [if_neg q, gh j (by omega), a1 120 (by decide)]
  refine ⟨Rel_ask2 h f (fun k h1 h2 h3 h4 h5 h6 h7 => ?_) (by rw [b2, g2, a2]) (fun j hj => ?_), e⟩
  · by_cases q : k = 120
    · rw [q, e]
    · rw [b1 k q, g k h1 q h3 h4 h5 h6 h7, a1 k h2]
  · rw [b1 119 (by decide), g3 j hj, a1 119 (by decide)]
theorem pm_Xk {cl : List pg_Cl} {N : Nat} {w w' : xw_M} (a1 : ∀ k, k ≠ 121 → w'.1 k = w.1 k) (X : pm_X cl N w) : pm_X cl N w' := by
  obtain ⟨x1, x2, x3, x4, x5⟩ := X
  unfold pm_X pm_D
  rw [a1 128 (by decide), a1 129 (by decide), a1 130 (by decide), a1 120 (by decide)]
  exact ⟨x1, rH_cong (a1 124 (by decide)) (a1 125 (by decide)) rfl x2, x3, x4, x5⟩
theorem st_on (n : Nat) (hn : 2000 ≤ n) : xs_on n Rel := by
  intro a b w hR
  obtain ⟨p, N, M, cl, Z⟩ := pu_Z_of hR
  obtain ⟨K, -, hpa, hp, -, ho, hA, X⟩ := id Z
  have hN := K.1
  have b3 := K.2.2.1
  have b4 := K.2.2.2.1
  obtain ⟨y, hy⟩ : ∃ y : Prop, y = (0 ≤ b - 10 ∧ b - 10 < nI N) := ⟨_, rfl⟩
  obtain ⟨q, hq⟩ : ∃ q : Prop, q = (0 ≤ b - 20 ∧ b - 20 < nI N) := ⟨_, rfl⟩
  have key : y ∨ q → ∃ (r : Int32) (w1 w2 : xw_M), fX7_on_36 n a b (pu_bi (0 ≤ b - 10 ∧ b - 10 < nI N)) w = some (r, w1) ∧ fX8_on_24 n a b w1 = some (r, w2) ∧ w1.1 120 = w.1 120 ∧ Rel w2 := by
    intro hyq
    by_cases h : 0 ≤ a ∧ a ≤ 20
    case neg => exact ⟨-2, w, w, by unfold fX7_on_36; simp only [pu_within, pu_bp, pu_biF h, reduceIte], by unfold fX8_on_24; simp only [pu_isIn, pu_bp, pu_biF h, reduceIte], rfl, hR⟩
    obtain ⟨e, he, rfl⟩ := pu_ex (n := 20) (by decide) h
    obtain ⟨w0, e0, T0⟩ := pu_tk w
    have F0 := pc_F_take T0
    obtain ⟨w1, e1, F1, K1⟩ : ∃ w1, xw_it (fun z => fX7_on_b62 n (nI e) b (pu_bi (0 ≤ b - 10 ∧ b - 10 < nI N)) z.1 z.2) n ((0 : Int32), w0) = some w1 ∧ pc_F w w1 ∧ rK w1.1 17 (DN cl N 2147483647 (w.1 120) e) N M := by
      refine pu_inv (fun z => fX7_on_b62 n (nI e) b (pu_bi (0 ≤ b - 10 ∧ b - 10 < nI N)) z.1 z.2) (fun k z => k ≤ e ∧ z.1 = nI k ∧ pc_F w z.2 ∧ rK z.2.1 17 (DN cl N 2147483647 (w.1 120) k) N M) e _ ?_ ?_ n 0 _ (by omega) (by omega) ⟨by omega, rfl, F0, rK_take K T0⟩
      · rintro k ⟨x, u⟩ hk ⟨-, rfl, Fu, Ku⟩
        obtain ⟨v, ev, g1, g2, g3, Kv⟩ := pc_goDay (2147483647 : Int32) hn (by decide) hp ho (pc_A Fu hp hA) Ku
        refine Or.inl ⟨(nI (k + 1), v), ?_, by omega, rfl, pc_F_tr Fu (pc_F_day g1 g2), Kv⟩
        show fX7_on_b62 n (nI e) b _ (nI k) u = _
        unfold fX7_on_b62
        rw [if_neg (nI_ge hk (by omega)), pu_held Z (pc_10 Fu), ev, pu_b, pu_lt, nI_1]
      · rintro ⟨x, u⟩ ⟨-, rfl, Fu, Ku⟩
        refine ⟨u, ?_, Fu, Ku⟩
        show fX7_on_b62 n (nI e) b _ (nI e) u = _
        unfold fX7_on_b62
        rw [if_pos (nI_le (Nat.le_refl _) (by omega))]
    have w120 := pc_120 F1
    obtain ⟨k1, ek, ka, kb, kc⟩ := pm_keep hn w1
    obtain ⟨v, ev, gv, gv2, Xv⟩ : ∃ v, xw_it (fun z => fX8_on_b44 n (nI e) b z.1 z.2) n ((0 : Int32), k1) = some v ∧ pm_Fg k1 v ∧ v.1 120 = DN cl N 2147483647 (w.1 120) e ∧ pm_X cl N v := by
      refine pu_inv (fun z => fX8_on_b44 n (nI e) b z.1 z.2) (fun k z => k ≤ e ∧ z.1 = nI k ∧ pm_Fg k1 z.2 ∧ z.2.1 120 = DN cl N 2147483647 (w.1 120) k ∧ pm_X cl N z.2) e _ ?_ ?_ n 0 _ (by omega) (by omega) ⟨by omega, rfl, pm_Fg_rf _, (ka 120 (by decide)).trans w120, pm_Xk ka (pc_X F1 X)⟩
      · rintro k ⟨x, u⟩ hk ⟨-, rfl, c1, c2, Xu⟩
        obtain ⟨v, ev, g1, g2, Xv⟩ := pm_day Xu hn 0 2147483647 (Or.inl ⟨rfl, rfl⟩)
        rw [show u.1 120 = _ from c2] at g2
        refine Or.inl ⟨(nI (k + 1), v), ?_, by omega, rfl, pm_Fg_tr c1 g1, g2, Xv⟩
        show fX8_on_b44 n (nI e) b (nI k) u = _
        unfold fX8_on_b44
        rw [if_neg (nI_ge hk (by omega)), ev, pu_b, pu_lt, nI_1]
      · rintro ⟨x, u⟩ ⟨-, rfl, c1, c2, Xu⟩
        refine ⟨u, ?_, c1, c2, Xu⟩
        show fX8_on_b44 n (nI e) b (nI e) u = _
        unfold fX8_on_b44
        rw [if_pos (nI_le (Nat.le_refl _) (by omega))]
    obtain ⟨u, eu, ua, ub, uc⟩ := pm_lay hn v
    obtain ⟨Ru, -⟩ := Rel_lay hR F1 ka kb kc (fun k h1 h2 h3 h4 h5 h6 _ => gv.1 k h1 h2 h3 h4 h5 h6) gv.2.1 gv.2.2 (fun j hj => by rw [gv2, DN_eq hN _ _ (fun m hm => ⟨by omega, by omega⟩) (by omega), ka 120 (by decide), w120]) ua ub uc
    have s36 : ∀ r, (∃ i, i < N ∧ ((b = nI (10 + i) ∧ r = DN cl N 2147483647 (w.1 120) e (10 * i + 3)) ∨ (b = nI (20 + i) ∧ r = DN cl N 2147483647 (w.1 120) e (10 * i + 5)))) → fX7_on_36 n (nI e) b (pu_bi (0 ≤ b - 10 ∧ b - 10 < nI N)) w = some (r, w1) ∧ fX8_on_24 n (nI e) b w1 = some (r, u) := by
      rintro r ⟨i, hi, hbr⟩
      obtain ⟨m1, m2, m3, m4, m5, m6, -⟩ := K1.2.2.2.2.2.1.1 i hi
      constructor
      · unfold fX7_on_36
        simp only [pu_within, pu_bp, pu_biT h, pu_10, reduceIte]
        rw [e0, pu_b]
        unfold fX7_on_62
        rw [e1, pu_bp]
        show fX7_on_92 n (nI e) b _ w1 = _
        unfold fX7_on_92
        rcases hbr with ⟨rfl, rfl⟩ | ⟨rfl, rfl⟩
        · have s10 : nI (10 + i) - (10 : Int32) = nI i := by rw [show (10 : Int32) = nI 10 from rfl, pk_sub (by omega), show 10 + i - 10 = i by omega]
          have h1 : 0 ≤ nI (10 + i) - (10 : Int32) ∧ nI (10 + i) - (10 : Int32) < nI N := by rw [s10]; exact ⟨nI_pos' (by omega), nI_lt hi (by omega)⟩
          rw [pu_biT h1, if_neg (by decide), s10, pu_at w1 (show i < 6 by omega) (by decide), pu_bp, m4]
        · have s20 : nI (20 + i) - (20 : Int32) = nI i := by rw [show (20 : Int32) = nI 20 from rfl, pk_sub (by omega), show 20 + i - 20 = i by omega]
          have s10 : nI (20 + i) - (10 : Int32) = nI (10 + i) := by rw [show (10 : Int32) = nI 10 from rfl, pk_sub (by omega), show 20 + i - 10 = 10 + i by omega]
          have h1 : ¬ (0 ≤ nI (20 + i) - (10 : Int32) ∧ nI (20 + i) - (10 : Int32) < nI N) := fun z => by rw [s10] at z; exact absurd z.2 (nI_nlt (by omega) (by omega))
          rw [pu_biF h1, if_pos rfl, s20, pu_at w1 (show i < 6 by omega) (by decide), pu_bp, m6]
      · unfold fX8_on_24
        simp only [pu_isIn, pu_bp, pu_biT h, pu_10, reduceIte]
        rw [ek, pu_b]
        unfold fX8_on_44
        rw [ev, pu_bp]
        show fX8_on_61 n (nI e) b v = _
        unfold fX8_on_61 fX8_on_88
        rcases hbr with ⟨rfl, rfl⟩ | ⟨rfl, rfl⟩
        · have s10 : nI (10 + i) - (10 : Int32) = nI i := by rw [show (10 : Int32) = nI 10 from rfl, pk_sub (by omega), show 10 + i - 10 = i by omega]
          rw [if_neg (show ¬ (20 : Int32) ≤ nI (10 + i) from nI_ge (b := 20) (by omega) (by decide)), s10, pu_o3 (show i < 6 by omega), pu_bp, eu, pu_b, gv2]
        · have s20 : nI (20 + i) - (20 : Int32) = nI i := by rw [show (20 : Int32) = nI 20 from rfl, pk_sub (by omega), show 20 + i - 20 = i by omega]
          rw [if_pos (show (20 : Int32) ≤ nI (20 + i) from nI_le (a := 20) (by omega) (by omega)), s20, pu_o5 (show i < 6 by omega), pu_bp, eu, pu_b, gv2]
    rcases hyq with z | z
    · rw [hy] at z
      obtain ⟨i, hi, hb⟩ := (pu_bnd (by omega)).mp z
      have hb' : b = nI (10 + i) := by
        have : b = b - 10 + 10 := (Int32.sub_add_cancel b 10).symm
        rw [this, hb, show (10 : Int32) = nI 10 from rfl, nI_add, Nat.add_comm]
      obtain ⟨s1, s2⟩ := s36 _ ⟨i, hi, Or.inl ⟨hb', rfl⟩⟩
      exact ⟨_, w1, u, s1, s2, w120, Ru⟩
    · rw [hq] at z
      obtain ⟨i, hi, hb⟩ := (pu_bnd (by omega)).mp z
      have hb' : b = nI (20 + i) := by
        have : b = b - 20 + 20 := (Int32.sub_add_cancel b 20).symm
        rw [this, hb, show (20 : Int32) = nI 20 from rfl, nI_add, Nat.add_comm]
      obtain ⟨s1, s2⟩ := s36 _ ⟨i, hi, Or.inr ⟨hb', rfl⟩⟩
      exact ⟨_, w1, u, s1, s2, w120, Ru⟩
  by_cases hy1 : 0 ≤ b - 10 ∧ b - 10 < nI N
  · obtain ⟨r, w1, w2, k1, k2, k3, k4⟩ := key (Or.inl (by rw [hy]; exact hy1))
    refine ⟨r, w1, w2, ?_, ?_, k4⟩
    · rw [pu_biT hy1] at k1
      unfold fX7_on
      simp only [pu_has _ b3, pu_bp, pu_biT hy1, pu_10, reduceIte]
      exact k1
    · unfold fX8_on
      simp only [pu_isOne (w := w1) (N := N) _ hN (by rw [k3]; exact b4), pu_bp, pu_biT hy1, pu_10, reduceIte]
      exact k2
  · by_cases hq1 : 0 ≤ b - 20 ∧ b - 20 < nI N
    · obtain ⟨r, w1, w2, k1, k2, k3, k4⟩ := key (Or.inr (by rw [hq]; exact hq1))
      refine ⟨r, w1, w2, ?_, ?_, k4⟩
      · rw [pu_biF hy1] at k1
        unfold fX7_on
        simp only [pu_has _ b3, pu_bp, pu_biF hy1, pu_biT hq1, pu_10, reduceIte]
        exact k1
      · unfold fX8_on
        simp only [pu_isOne (w := w1) (N := N) _ hN (by rw [k3]; exact b4), pu_bp, pu_biF hy1, pu_biT hq1, pu_10, reduceIte]
        exact k2
    · exact ⟨-1, w, w, by unfold fX7_on; simp only [pu_has _ b3, pu_bp, pu_biF hy1, pu_biF hq1, reduceIte], by unfold fX8_on; simp only [pu_isOne _ hN b4, pu_bp, pu_biF hy1, pu_biF hq1, reduceIte], hR⟩
