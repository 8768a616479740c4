/-! ===== shift ===== -/
theorem pu_subL {a b : Nat} (ha : a < 2 ^ 30) (hb : b < 2 ^ 31) : (nI a - nI b).toInt = (a : Int) - b := by
  rw [Int32.toInt_sub, nI_toInt (by omega), nI_toInt (by omega)]
  exact Int.bmod_eq_of_le (by omega) (by omega)
theorem pc_has {b z : Nat} {i c : Int32} {w : xw_M} (hz : z ≤ 60) (h : w.1 b 1 = nI z) : fX6_hasPlaces b i c w = some (pu_bi (0 ≤ c ∧ 0 ≤ i ∧ i.toNatClampNeg + c.toNatClampNeg ≤ z)) := by
  unfold fX6_hasPlaces
  rw [h]
  by_cases h1 : c < 0
  · rw [if_pos h1, pu_biF (fun q => absurd h1 (pu_nlt.mpr q.1))]
  rw [if_neg h1]
  by_cases h2 : i < 0
  · rw [if_pos h2, pu_biF (fun q => absurd h2 (pu_nlt.mpr q.2.1))]
  rw [if_neg h2]
  obtain ⟨k, hk, rfl⟩ := nI_of h1
  obtain ⟨j, hj, rfl⟩ := nI_of h2
  rw [pu_cl hk, pu_cl hj]
  by_cases h3 : nI z < nI k
  · have := (nI_ltI (by omega) hk).mp h3
    rw [if_pos h3, pu_biF (fun q => by have := q.2.2; omega)]
  rw [if_neg h3]
  have h3' : k ≤ z := Nat.not_lt.mp (fun q => h3 (nI_lt q hk))
  rw [pk_sub h3']
  by_cases h4 : nI (z - k) < nI j
  · have := (nI_ltI (by omega) hj).mp h4
    rw [if_pos h4, pu_biF (fun q => by have := q.2.2; omega)]
  · have h4' : j ≤ z - k := Nat.not_lt.mp (fun q => h4 (nI_lt q hj))
    rw [if_neg h4, pu_biT ⟨nI_pos' hk, nI_pos' hj, by omega⟩]
theorem pm_mv1 {n t i c : Nat} {a3 a4 : Int32} (hn : 2000 ≤ n) (ht : t < 6) (hi : i + c ≤ 60) (w : xw_M) : ∃ w', xw_it (fun z => fX8_shift_b102 n (nI t) (nI i) a3 a4 (nI c) z.1 z.2) n ((0 : Int32), w) = some w' ∧ w'.1 = w.1 ∧ (∀ k, k ≠ 140 → w'.2 k = w.2 k) ∧ ∀ k, k < c → w'.2 140 k = w.2 139 (60 * t + i + k) := by
  refine pu_inv (fun z => fX8_shift_b102 n (nI t) (nI i) a3 a4 (nI c) z.1 z.2) (fun k y => k ≤ c ∧ y.1 = nI k ∧ y.2.1 = w.1 ∧ (∀ q, q ≠ 140 → y.2.2 q = w.2 q) ∧ ∀ j, j < k → y.2.2 140 j = w.2 139 (60 * t + i + j)) c _ ?_ ?_ n 0 _ (by omega) (by omega) ⟨by omega, rfl, rfl, fun _ _ => rfl, fun j hj => absurd hj (by omega)⟩
  · rintro k ⟨x, u⟩ hk ⟨-, rfl, c1, c2, c3⟩
    refine Or.inl ⟨(nI (k + 1), xw_sl u 140 k (w.2 139 (60 * t + i + k))), ?_, by omega, rfl, c1, fun q hq => by rw [pu_sl0 _ _ _ hq]; exact c2 q hq, fun j hj => ?_⟩
    · show fX8_shift_b102 n (nI t) (nI i) a3 a4 (nI c) (nI k) u = _
      unfold fX8_shift_b102
      rw [if_neg (nI_ge hk (by omega)), pu_60, nI_add, pu_ck (show 60 * t + i + k < 360 by omega) (by decide), pu_ck (show k < 60 by omega) (by decide), pu_lt, pu_lt, nI_1, pu_cl (show k < 2 ^ 31 by omega), pu_cl (show 60 * t + i + k < 2 ^ 31 by omega), c2 139 (by decide)]
    · show (xw_sl u 140 k _).2 140 j = _
      rw [pu_sl1]
      by_cases q : j = k
      · rw [q, pk_uLs]
      · rw [pk_uLn q]; exact c3 j (by omega)
  · rintro ⟨x, u⟩ ⟨-, rfl, c1, c2, c3⟩
    refine ⟨u, ?_, c1, c2, c3⟩
    show fX8_shift_b102 n (nI t) (nI i) a3 a4 (nI c) (nI c) u = _
    unfold fX8_shift_b102
    rw [if_pos (nI_le (Nat.le_refl _) (by omega))]
theorem pm_mv2 {n o j c : Nat} {a1 a2 : Int32} (hn : 2000 ≤ n) (ho : o < 6) (hj : j + c ≤ 60) (w : xw_M) : ∃ w', xw_it (fun z => fX8_shift_b139 n a1 a2 (nI o) (nI j) (nI c) z.1 z.2) n ((0 : Int32), w) = some w' ∧ w'.1 = w.1 ∧ (∀ k, k ≠ 139 → w'.2 k = w.2 k) ∧ ∀ q, w'.2 139 q = if 60 * o + j ≤ q ∧ q < 60 * o + j + c then w.2 140 (q - (60 * o + j)) else w.2 139 q := by
  refine pu_inv (fun z => fX8_shift_b139 n a1 a2 (nI o) (nI j) (nI c) z.1 z.2) (fun k y => k ≤ c ∧ y.1 = nI k ∧ y.2.1 = w.1 ∧ (∀ q, q ≠ 139 → y.2.2 q = w.2 q) ∧ ∀ q, y.2.2 139 q = if 60 * o + j ≤ q ∧ q < 60 * o + j + k then w.2 140 (q - (60 * o + j)) else w.2 139 q) c _ ?_ ?_ n 0 _ (by omega) (by omega) ⟨by omega, rfl, rfl, fun _ _ => rfl, fun q => by rw [if_neg (by omega)]⟩
  · rintro k ⟨x, u⟩ hk ⟨-, rfl, c1, c2, c3⟩
    refine Or.inl ⟨(nI (k + 1), xw_sl u 139 (60 * o + j + k) (w.2 140 k)), ?_, by omega, rfl, c1, fun q hq => by rw [pu_sl0 _ _ _ hq]; exact c2 q hq, fun q => ?_⟩
    · show fX8_shift_b139 n a1 a2 (nI o) (nI j) (nI c) (nI k) u = _
      unfold fX8_shift_b139
      rw [if_neg (nI_ge hk (by omega)), pu_60, nI_add, pu_ck (show k < 60 by omega) (by decide), pu_ck (show 60 * o + j + k < 360 by omega) (by decide), pu_lt, pu_lt, nI_1, pu_cl (show k < 2 ^ 31 by omega), pu_cl (show 60 * o + j + k < 2 ^ 31 by omega), c2 140 (by decide)]
    · show (xw_sl u 139 _ _).2 139 q = _
      rw [pu_sl1]
      by_cases e : q = 60 * o + j + k
      · rw [e, pk_uLs, if_pos (by omega), show 60 * o + j + k - (60 * o + j) = k by omega]
      · rw [pk_uLn e, c3 q]
        by_cases e2 : 60 * o + j ≤ q ∧ q < 60 * o + j + k
        · rw [if_pos e2, if_pos (by omega)]
        · rw [if_neg e2, if_neg (by omega)]
  · rintro ⟨x, u⟩ ⟨-, rfl, c1, c2, c3⟩
    refine ⟨u, ?_, c1, c2, c3⟩
    show fX8_shift_b139 n a1 a2 (nI o) (nI j) (nI c) (nI c) u = _
    unfold fX8_shift_b139
    rw [if_pos (nI_le (Nat.le_refl _) (by omega))]
theorem st_shift (n : Nat) (hn : 2000 ≤ n) : xs_shift n Rel := by
  intro a i o j c w hR
  by_cases h : 0 ≤ a ∧ a ≤ 5
  case neg =>
    refine ⟨-1, w, w, ?_, by unfold fX8_shift; rw [pu_isTape, pu_bp, pu_biF h, if_pos rfl], hR⟩
    unfold fX7_shift
    rw [pu_tapeNo w h, pu_bp, pu_om0]
    by_cases h2 : 0 ≤ o ∧ o ≤ 5
    · obtain ⟨t, ht, rfl, e⟩ := pu_tapeAt w h2
      rw [e, pu_bp, pu_om1, pu_ccT (pu_tp ht)]
    · rw [pu_tapeNo w h2, pu_bp, pu_om0]
  obtain ⟨t, ht, rfl, e⟩ := pu_tapeAt w h
  by_cases h2 : 0 ≤ o ∧ o ≤ 5
  case neg => exact ⟨-1, w, w, by unfold fX7_shift; rw [e, pu_bp, pu_om1, pu_ccT (pu_tp ht), pu_tapeNo w h2, pu_bp, pu_om0], by unfold fX8_shift; rw [pu_isTape, pu_bp, pu_biT h, if_neg (by decide), pu_isTape, pu_bp, pu_biF h2, if_pos rfl], hR⟩
  obtain ⟨r, hr, rfl, e2⟩ := pu_tapeAt w h2
  obtain ⟨R, -, -, -, -, -, -, -, -, -, -, hT, -⟩ := id hR
  obtain ⟨t0, ⟨k, hk, t1⟩, ⟨z, t2, t3, t4, tz⟩, t5⟩ := hT t ht
  obtain ⟨r0, ⟨k', hk', r1⟩, ⟨y, r2, r3, r4, ry⟩, r5⟩ := hT r hr
  have e7 : fX7_shift (nI t) i (nI r) j c w = if w.1 137 t = -1 then some ((-11 : Int32), w) else if w.1 137 r = -1 then some ((-11 : Int32), w) else if w.1 137 t = w.1 137 r then (if pu_bi (0 ≤ c ∧ 0 ≤ i ∧ i.toNatClampNeg + c.toNatClampNeg ≤ z) = 0 then some ((-13 : Int32), w) else if pu_bi (0 ≤ c ∧ 0 ≤ j ∧ j.toNatClampNeg + c.toNatClampNeg ≤ y) = 0 then some ((-13 : Int32), w) else xw_cc (¬ i < 0 ∧ ¬ j < 0 ∧ ¬ c < 0 ∧ i.toNatClampNeg + c.toNatClampNeg ≤ 60 ∧ j.toNatClampNeg + c.toNatClampNeg ≤ 60) (some (c, xw_cL w (107 + 2 * t + 1) (107 + 2 * r + 1) i.toNatClampNeg j.toNatClampNeg c.toNatClampNeg))) else some ((-12 : Int32), w) := by
    unfold fX7_shift
    rw [e, pu_bp, pu_om1, pu_ccT (pu_tp ht), e2, pu_bp, pu_om1, pu_ccT (pu_tp hr), pc_has t2 t3, pc_has r2 r3]
    unfold fX6_holdsRow
    rw [t0, r0]
    simp only [pu_bp, pu_lt]
    by_cases q1 : w.1 137 t = -1
    · rw [if_pos q1, if_pos q1, pu_bp, if_pos rfl]
    · rw [if_neg q1, if_neg q1, pu_bp, if_neg (by decide)]
      by_cases q2 : w.1 137 r = -1
      · rw [if_pos q2, if_pos q2, pu_bp, if_pos rfl]
      · rw [if_neg q2, if_neg q2, pu_bp, if_neg (by decide)]
  have e8 : ∀ u : xw_M, u.1 = w.1 → fX8_shift n (nI t) i (nI r) j c u = if w.1 137 t < 0 then some ((-11 : Int32), u) else if 0 ≤ w.1 137 r then (if w.1 137 t = w.1 137 r then if c < 0 then some ((-13 : Int32), u) else if i < 0 then some ((-13 : Int32), u) else if j < 0 then some ((-13 : Int32), u) else if nI z - i < c then some ((-13 : Int32), u) else if c ≤ nI y - j then fX8_shift_102 n (nI t) i (nI r) j c (0 : Int32) u else some ((-13 : Int32), u) else some ((-12 : Int32), u)) else some ((-11 : Int32), u) := by
    intro u hu
    unfold fX8_shift
    rw [pu_isTape, pu_bp, pu_biT h, if_neg (by decide), pu_isTape, pu_bp, pu_biT h2, if_neg (by decide), pu_ck ht (by decide), pu_ck hr (by decide), pu_ck ht (by decide), pu_ck hr (by decide), pu_ck ht (by decide), pu_ck hr (by decide), pu_cl (show t < 2 ^ 31 by omega), pu_cl (show r < 2 ^ 31 by omega), hu, t4, r4]
  have sg : ∀ s : Int32, (s = -1 ∨ s = 0 ∨ s = 1 ∨ s = 2 ∨ s = 3 ∨ s = 4) → (s < 0 ↔ s = -1) := by
    rintro s (q | q | q | q | q | q) <;> subst q <;> decide
  have sgt := sg _ (pu_sort hk t1)
  have sgr := sg _ (pu_sort hk' r1)
  by_cases q1 : w.1 137 t = -1
  · exact ⟨-11, w, w, by rw [e7, if_pos q1], by rw [e8 w rfl, if_pos (sgt.mpr q1)], hR⟩
  have q1' : ¬ w.1 137 t < 0 := fun z => q1 (sgt.mp z)
  by_cases q2 : w.1 137 r = -1
  · exact ⟨-11, w, w, by rw [e7, if_neg q1, if_pos q2], by rw [e8 w rfl, if_neg q1', if_neg (pu_nle.mpr (sgr.mpr q2))], hR⟩
  have q2' : 0 ≤ w.1 137 r := pu_nlt.mp (fun z => q2 (sgr.mp z))
  by_cases q3 : w.1 137 t = w.1 137 r
  case neg => exact ⟨-12, w, w, by rw [e7, if_neg q1, if_neg q2, if_neg q3], by rw [e8 w rfl, if_neg q1', if_pos q2', if_neg q3], hR⟩
  by_cases p1 : 0 ≤ c ∧ 0 ≤ i ∧ i.toNatClampNeg + c.toNatClampNeg ≤ z
  case neg =>
    refine ⟨-13, w, w, by rw [e7, if_neg q1, if_neg q2, if_pos q3, pu_biF p1, if_pos rfl], ?_, hR⟩
    rw [e8 w rfl, if_neg q1', if_pos q2', if_pos q3]
    by_cases m1 : c < 0
    · rw [if_pos m1]
    rw [if_neg m1]
    by_cases m2 : i < 0
    · rw [if_pos m2]
    rw [if_neg m2]
    by_cases m3 : j < 0
    · rw [if_pos m3]
    rw [if_neg m3]
    obtain ⟨c', hc', rfl⟩ := nI_of m1
    obtain ⟨i', hi', rfl⟩ := nI_of m2
    rw [pu_cl hc', pu_cl hi'] at p1
    rw [if_pos]
    rw [Int32.lt_iff_toInt_lt, pu_subL (by omega) hi', nI_toInt hc']
    have : ¬ i' + c' ≤ z := fun q => p1 ⟨nI_pos' hc', nI_pos' hi', q⟩
    omega
  by_cases p2 : 0 ≤ c ∧ 0 ≤ j ∧ j.toNatClampNeg + c.toNatClampNeg ≤ y
  case neg =>
    refine ⟨-13, w, w, by rw [e7, if_neg q1, if_neg q2, if_pos q3, pu_biT p1, if_neg (by decide), pu_biF p2, if_pos rfl], ?_, hR⟩
    rw [e8 w rfl, if_neg q1', if_pos q2', if_pos q3, if_neg (pu_nlt.mpr p1.1), if_neg (pu_nlt.mpr p1.2.1)]
    by_cases m3 : j < 0
    · rw [if_pos m3]
    rw [if_neg m3]
    by_cases m4 : nI z - i < c
    · rw [if_pos m4]
    rw [if_neg m4, if_neg]
    intro m5
    obtain ⟨c', hc', rfl⟩ := nI_of (pu_nlt.mpr p1.1)
    obtain ⟨j', hj', rfl⟩ := nI_of m3
    rw [pu_cl hc', pu_cl hj'] at p2
    rw [Int32.le_iff_toInt_le, pu_subL (by omega) hj', nI_toInt hc'] at m5
    exact p2 ⟨nI_pos' hc', nI_pos' hj', by omega⟩
  obtain ⟨c', hc', rfl⟩ := nI_of (pu_nlt.mpr p1.1)
  obtain ⟨i', hi', rfl⟩ := nI_of (pu_nlt.mpr p1.2.1)
  obtain ⟨j', hj', rfl⟩ := nI_of (pu_nlt.mpr p2.2.1)
  have l1 := p1.2.2
  have l2 := p2.2.2
  rw [pu_cl hc', pu_cl hi'] at l1
  rw [pu_cl hc', pu_cl hj'] at l2
  obtain ⟨w1, hw1⟩ : ∃ u, u = xw_cL w (107 + 2 * t + 1) (107 + 2 * r + 1) i' j' c' := ⟨_, rfl⟩
  have w11 : w1.1 = w.1 := by rw [hw1]; rfl
  have w12 : ∀ k, k ≠ 108 + 2 * r → w1.2 k = w.2 k := fun k hk => by rw [hw1]; exact if_neg (by omega)
  have w13 : w1.2 (108 + 2 * r) = va_cpy (w.2 (108 + 2 * t)) (w.2 (108 + 2 * r)) i' j' c' := by
    rw [hw1, show 107 + 2 * t + 1 = 108 + 2 * t by omega, show 107 + 2 * r + 1 = 108 + 2 * r by omega]
    exact if_pos rfl
  obtain ⟨u, eu, u1, u2, u3⟩ := pm_mv1 (a3 := nI r) (a4 := nI j') hn ht (show i' + c' ≤ 60 by omega) w1
  obtain ⟨v, ev, v1, v2, v3⟩ := pm_mv2 (a1 := nI t) (a2 := nI i') hn hr (show j' + c' ≤ 60 by omega) u
  refine ⟨nI c', w1, v, ?_, ?_, ?_⟩
  · rw [e7, if_neg q1, if_neg q2, if_pos q3, pu_biT p1, if_neg (by decide), pu_biT p2, if_neg (by decide), pu_cl hc', pu_cl hi', pu_cl hj', pu_ccT ⟨pu_nlt.mpr p1.2.1, pu_nlt.mpr p2.2.1, pu_nlt.mpr p1.1, by omega, by omega⟩, ← hw1]
  · rw [e8 w1 w11, if_neg q1', if_pos q2', if_pos q3, if_neg (pu_nlt.mpr p1.1), if_neg (pu_nlt.mpr p1.2.1), if_neg (pu_nlt.mpr p2.2.1), if_neg, if_pos]
    · unfold fX8_shift_102
      rw [eu, pu_bp]
      show fX8_shift_136 n (nI t) (nI i') (nI r) (nI j') (nI c') u = _
      unfold fX8_shift_136 fX8_shift_139
      rw [ev, pu_bp]
      rfl
    · rw [Int32.le_iff_toInt_le, pu_subL (by omega) hj', nI_toInt hc']
      omega
    · rw [Int32.lt_iff_toInt_lt, pu_subL (by omega) hi', nI_toInt hc']
      omega
  · have vw : v.1 = w.1 := v1.trans (u1.trans w11)
    have v1' : ∀ k, v.1 k = w.1 k := fun k => by rw [vw]
    refine Rel_tape (t := r) hR hr (fun q _ _ _ => v1' q) (fun q q1 q2 q3 => by rw [v2 q q2, u2 q q3, w12 q q1]) (fun q _ => by rw [vw]) (fun q _ => by rw [vw]) (fun q hq => ?_) ⟨by rw [vw]; exact r0, ⟨k', hk', by rw [vw]; exact r1⟩, ⟨y, r2, by rw [vw]; exact r3, by rw [vw]; exact r4, by rw [vw]; exact ry⟩, fun q hq => ?_⟩
    · rw [v3 q, if_neg (by omega), u2 139 (by decide), w12 139 (by omega)]
    · rw [v2 _ (by omega), u2 _ (by omega), w13, v3]
      by_cases m : j' ≤ q ∧ q < j' + c'
      · rw [pk_cpy_in m.1 m.2, if_pos (by omega), show 60 * r + q - (60 * r + j') = q - j' by omega, u3 _ (by omega), w12 139 (by omega), t5 _ (by omega), show 60 * t + i' + (q - j') = 60 * t + (i' + (q - j')) by omega]
      · rw [pk_cpy_out (by omega), if_neg (by omega), u2 139 (by decide), w12 139 (by omega)]
        exact r5 q hq
