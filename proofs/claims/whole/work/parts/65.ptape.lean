/-! ===== tapes ===== -/
/-- one tape changed on both sides -/
theorem Rel_tape {w w' : xw_M} {t : Nat} (h : Rel w) (ht : t < 6) (h1 : ∀ k, k ≠ 107 + 2 * t → k ≠ 137 → k ≠ 138 → w'.1 k = w.1 k) (h2 : ∀ k, k ≠ 108 + 2 * t → k ≠ 139 → k ≠ 140 → w'.2 k = w.2 k) (h7 : ∀ j, j ≠ t → w'.1 137 j = w.1 137 j) (h8 : ∀ j, j ≠ t → w'.1 138 j = w.1 138 j) (h9 : ∀ j, (j < 60 * t ∨ 60 * t + 60 ≤ j) → w'.2 139 j = w.2 139 j) (hT : rT w'.1 w'.2 t) : Rel w' := by
  obtain ⟨R, a1, a2, a3, a4, a5, a6, a7, a8, a9, a10, a11, a12⟩ := h
  have e : ∀ k, (k < 107 ∨ 118 < k) → k ≠ 137 → k ≠ 138 → w'.1 k = w.1 k := fun k k1 k2 k3 => h1 k (by omega) k2 k3
  refine ⟨R, a1, ?_, by rw [e 0 (by omega) (by omega) (by omega), e 119 (by omega) (by omega) (by omega)]; exact a3, ?_, ?_, by rw [e 0 (by omega) (by omega) (by omega)]; exact a6, by rw [e 119 (by omega) (by omega) (by omega)]; exact a7, fun i hi => ?_, rA_cong (fun k k1 k2 => e k (by omega) (by omega) (by omega)) a9, ?_, fun t' ht' => ?_, ⟨fun k hk => by rw [e k (by omega) (by omega) (by omega)]; exact a12.1 k hk, by rw [e 40 (by omega) (by omega) (by omega), e 43 (by omega) (by omega) (by omega), e 46 (by omega) (by omega) (by omega)]; exact a12.2⟩⟩
  · rw [e 120 (by omega) (by omega) (by omega)]
    exact rS_cong (fun k k1 k2 => e k (by omega) (by omega) (by omega)) a2
  · rw [e 0 (by omega) (by omega) (by omega), e 122 (by omega) (by omega) (by omega)]
    exact a4.imp id (fun q => ⟨q.1, rS_cong (fun k k1 k2 => e k (by omega) (by omega) (by omega)) q.2⟩)
  · exact rX_cong (by rw [e 49 (by omega) (by omega) (by omega)]) (by rw [e 119 (by omega) (by omega) (by omega)]) (e 50 (by omega) (by omega) (by omega)) (e 123 (by omega) (by omega) (by omega)) a5
  · exact rR_cong (fun k k1 k2 => e k (by omega) (by omega) (by omega)) (fun j _ => by rw [e 124 (by omega) (by omega) (by omega)]) (by rw [e 125 (by omega) (by omega) (by omega)]) (a8 i hi)
  · exact rB_cong (by rw [e 68 (by omega) (by omega) (by omega)]) (by rw [e 119 (by omega) (by omega) (by omega)]) (e 69 (by omega) (by omega) (by omega)) (e 136 (by omega) (by omega) (by omega)) a10
  · by_cases q : t' = t
    · rw [q]; exact hT
    · exact rT_cong (h1 _ (by omega) (by omega) (by omega)) (h7 t' q) (h8 t' q) (h2 _ (by omega) (by omega) (by omega)) (fun j hj => h9 _ (by omega)) (a11 t' ht')
theorem pc_become {n b z : Nat} (hn : 2000 ≤ n) (hz : z ≤ 60) (s : Int32) (w : xw_M) : ∃ w', fX6_become n b s (nI z) w = some ((), w') ∧ (∀ k, k ≠ b → w'.1 k = w.1 k) ∧ (∀ k, k ≠ b + 1 → w'.2 k = w.2 k) ∧ w'.1 b 0 = s ∧ w'.1 b 1 = nI z ∧ ∀ j, j < 60 → w'.2 (b + 1) j = 0 := by
  unfold fX6_become fX6_become_20
  have ez : (if nI 60 < nI z then nI 60 else nI z) = nI z := if_neg (nI_nlt hz (by omega))
  rw [ez, pu_lt, pu_lt]
  obtain ⟨v, ev, v1, v2, v3⟩ : ∃ v, xw_it (fun y => fX6_become_b20 n b s (nI z) y.1 y.2) n ((0 : Int32), xw_si (xw_si w b 0 s) b 1 (nI z)) = some v ∧ v.1 = (xw_si (xw_si w b 0 s) b 1 (nI z)).1 ∧ (∀ k, k ≠ b + 1 → v.2 k = w.2 k) ∧ ∀ j, j < 60 → v.2 (b + 1) j = 0 := by
    refine pu_inv (fun y => fX6_become_b20 n b s (nI z) y.1 y.2) (fun k y => k ≤ 60 ∧ y.1 = nI k ∧ y.2.1 = (xw_si (xw_si w b 0 s) b 1 (nI z)).1 ∧ (∀ q, q ≠ b + 1 → y.2.2 q = w.2 q) ∧ ∀ j, j < k → y.2.2 (b + 1) j = 0) 60 _ ?_ ?_ n 0 _ (by omega) (by omega) ⟨by omega, rfl, rfl, fun _ _ => rfl, fun j hj => absurd hj (by omega)⟩
    · rintro k ⟨x, u⟩ hk ⟨-, rfl, c1, c2, c3⟩
      refine Or.inl ⟨(nI (k + 1), xw_sl u (b + 1) k 0), ?_, by omega, rfl, c1, fun q hq => by rw [pu_sl0 _ _ _ hq]; exact c2 q hq, fun j hj => ?_⟩
      · show fX6_become_b20 n b s (nI z) (nI k) u = _
        unfold fX6_become_b20
        rw [if_neg (nI_ge hk (by decide)), pu_ck hk (by decide), pu_lt, pu_lt, pu_cl (by omega), nI_1]
      · show (xw_sl u (b + 1) k 0).2 (b + 1) j = 0
        rw [pu_sl1]
        by_cases q : j = k
        · rw [q, pk_uLs]
        · rw [pk_uLn q]; exact c3 j (by omega)
    · rintro ⟨x, u⟩ ⟨-, rfl, c1, c2, c3⟩
      refine ⟨u, ?_, c1, c2, c3⟩
      show fX6_become_b20 n b s (nI z) (nI 60) u = _
      unfold fX6_become_b20
      rw [if_pos (nI_le (Nat.le_refl _) (by decide))]
  refine ⟨v, by rw [ev, pu_bp]; rfl, fun k hk => by rw [v1, pu_si0 _ _ _ hk, pu_si0 _ _ _ hk], v2, ?_, ?_, v3⟩
  · rw [v1, pu_si1, pk_un (by decide), pu_si1, pk_us]
  · rw [v1, pu_si1, pk_us]
theorem pm_zero {n t : Nat} {a2 a3 : Int32} (hn : 2000 ≤ n) (ht : t < 6) (w : xw_M) : ∃ w', fX8_tape_67 n (nI t) a2 a3 (0 : Int32) w = some (1, w') ∧ w'.1 = w.1 ∧ (∀ k, k ≠ 139 → w'.2 k = w.2 k) ∧ ∀ j, w'.2 139 j = if 60 * t ≤ j ∧ j < 60 * t + 60 then 0 else w.2 139 j := by
  unfold fX8_tape_67
  obtain ⟨v, ev, v1, v2, v3⟩ : ∃ v, xw_it (fun y => fX8_tape_b67 n (nI t) a2 a3 y.1 y.2) n ((0 : Int32), w) = some v ∧ v.1 = w.1 ∧ (∀ k, k ≠ 139 → v.2 k = w.2 k) ∧ ∀ j, v.2 139 j = if 60 * t ≤ j ∧ j < 60 * t + 60 then 0 else w.2 139 j := by
    refine pu_inv (fun y => fX8_tape_b67 n (nI t) a2 a3 y.1 y.2) (fun k y => k ≤ 60 ∧ y.1 = nI k ∧ y.2.1 = w.1 ∧ (∀ q, q ≠ 139 → y.2.2 q = w.2 q) ∧ ∀ j, y.2.2 139 j = if 60 * t ≤ j ∧ j < 60 * t + k then 0 else w.2 139 j) 60 _ ?_ ?_ n 0 _ (by omega) (by omega) ⟨by omega, rfl, rfl, fun _ _ => rfl, fun j => by rw [if_neg (by omega)]⟩
    · rintro k ⟨x, u⟩ hk ⟨-, rfl, c1, c2, c3⟩
      refine Or.inl ⟨(nI (k + 1), xw_sl u 139 (60 * t + k) 0), ?_, by omega, rfl, c1, fun q hq => by rw [pu_sl0 _ _ _ hq]; exact c2 q hq, fun j => ?_⟩
      · show fX8_tape_b67 n (nI t) a2 a3 (nI k) u = _
        unfold fX8_tape_b67
        rw [if_neg (show ¬ (60 : Int32) ≤ nI k from nI_ge (b := 60) hk (by decide)), pu_60, pu_ck (show 60 * t + k < 360 by omega) (by decide), pu_lt, pu_lt, pu_cl (by omega), nI_1]
      · show (xw_sl u 139 _ 0).2 139 j = _
        rw [pu_sl1]
        by_cases q : j = 60 * t + k
        · rw [q, pk_uLs, if_pos (by omega)]
        · rw [pk_uLn q, c3 j]
          by_cases q2 : 60 * t ≤ j ∧ j < 60 * t + k
          · rw [if_pos q2, if_pos (by omega)]
          · rw [if_neg q2, if_neg (by omega)]
    · rintro ⟨x, u⟩ ⟨-, rfl, c1, c2, c3⟩
      refine ⟨u, ?_, c1, c2, c3⟩
      show fX8_tape_b67 n (nI t) a2 a3 (nI 60) u = _
      unfold fX8_tape_b67
      rw [if_pos (show (60 : Int32) ≤ nI 60 by decide)]
  exact ⟨v, by rw [ev, pu_bp]; rfl, v1, v2, v3⟩
theorem st_tape (n : Nat) (hn : 2000 ≤ n) : xs_tape n Rel := by
  intro a s c w hR
  by_cases h : 0 ≤ a ∧ a ≤ 5
  case neg => exact ⟨-1, w, w, by unfold fX7_tape; rw [pu_tapeNo w h, pu_bp, pu_om0], by unfold fX8_tape; rw [pu_isTape, pu_bp, pu_biF h, if_pos rfl], hR⟩
  obtain ⟨t, ht, rfl, e⟩ := pu_tapeAt w h
  obtain ⟨R, -, -, -, -, -, -, -, -, -, -, hT, -⟩ := id hR
  -- what becoming leaves on both sides
  have key : ∀ (z : Nat) (k : Nat), z ≤ 60 → k ≤ 5 → s = nI k - 1 → (s = -1 → z = 0) → ∃ (w1 w2 : xw_M), fX6_become n (107 + 2 * t) s (nI z) w = some ((), w1) ∧ fX8_tape_67 n (nI t) s c (0 : Int32) (xw_si (xw_si w1 137 t s) 138 t (nI z)) = some (1, w2) ∧ Rel w2 := by
    intro z k hz hk hsk hs1
    obtain ⟨w1, e1, f1, f2, f3, f4, f5⟩ := pc_become (b := 107 + 2 * t) hn hz s w
    obtain ⟨w2, e2, g1, g2, g3⟩ := pm_zero (a2 := s) (a3 := c) hn ht (xw_si (xw_si w1 137 t s) 138 t (nI z))
    have g1' : ∀ k, w2.1 k = (xw_si (xw_si w1 137 t s) 138 t (nI z)).1 k := fun k => by rw [g1]
    refine ⟨w1, w2, e1, e2, Rel_tape hR ht (fun q q1 q2 q3 => ?_) (fun q q1 q2 q3 => ?_) (fun j hj => ?_) (fun j hj => ?_) (fun j hj => ?_) ⟨?_, ⟨k, hk, ?_⟩, ⟨z, hz, ?_, ?_, ?_⟩, fun j hj => ?_⟩⟩
    · rw [g1', pu_si0 _ _ _ q3, pu_si0 _ _ _ q2, f1 q q1]
    · rw [g2 q q2]; exact f2 q (by omega)
    · rw [g1', pu_si0 _ _ _ (by decide), pu_si1, pk_un hj, f1 137 (by omega)]
    · rw [g1', pu_si1, pk_un hj, pu_si0 _ _ _ (by decide), f1 138 (by omega)]
    · rw [g3 j, if_neg (by omega)]
      show w1.2 139 j = _
      rw [f2 139 (by omega)]
    · rw [g1', g1', pu_si0 _ _ _ (by omega), pu_si0 _ _ _ (by omega), f3, pu_si0 _ _ _ (show (137 : Nat) ≠ 138 by decide), pu_si1, pk_us]
    · rw [g1', pu_si0 _ _ _ (show (137 : Nat) ≠ 138 by decide), pu_si1, pk_us]; exact hsk
    · rw [g1', pu_si0 _ _ _ (by omega), pu_si0 _ _ _ (by omega), f4]
    · rw [g1', pu_si1, pk_us]
    · rw [g1', pu_si0 _ _ _ (show (137 : Nat) ≠ 138 by decide), pu_si1, pk_us]; exact hs1
    · rw [g3, if_pos (by omega), g2 _ (by omega)]
      show w1.2 (108 + 2 * t) j = 0
      rw [show 108 + 2 * t = 107 + 2 * t + 1 by omega]
      exact f5 j hj
  have e63 : ∀ (v2 : Int32) (u : xw_M), fX8_tape_63 n (nI t) s c 138 (nI t) v2 u = fX8_tape_67 n (nI t) s c (0 : Int32) (xw_si u 138 t v2) := by
    intro v2 u
    unfold fX8_tape_63
    rw [pu_ck ht (by decide), pu_lt, pu_cl (by omega)]
  have e42 : ∀ u : xw_M, fX8_tape_42 n (nI t) s c u = if 0 ≤ s then fX8_tape_67 n (nI t) s c (0 : Int32) (xw_si (xw_si u 137 t s) 138 t c) else fX8_tape_67 n (nI t) s c (0 : Int32) (xw_si (xw_si u 137 t s) 138 t 0) := by
    intro u
    unfold fX8_tape_42
    rw [pu_ck ht (by decide), pu_lt, pu_cl (by omega), e63, e63]
  have e8 : ∀ u : xw_M, fX8_tape n (nI t) s c u = if pu_bi (-1 ≤ s ∧ s ≤ 4) = 0 then some ((-2 : Int32), u) else if s < 0 then fX8_tape_31 n (nI t) s c u else if c ≤ (60 : Int32) then fX8_tape_31 n (nI t) s c u else some ((-2 : Int32), u) := by
    intro u
    unfold fX8_tape
    rw [pu_isTape, pu_bp, pu_biT h, if_neg (by decide), pu_isIn, pu_bp]
  by_cases h1 : s = -1
  · subst h1
    obtain ⟨w1, w2, k1, k2, k3⟩ := key 0 0 (by omega) (by omega) (by decide) (fun _ => rfl)
    refine ⟨1, w1, w2, ?_, ?_, k3⟩
    · unfold fX7_tape
      rw [e, pu_bp, pu_om1, pu_ccT (pu_tp ht), if_pos rfl, show (0 : Int32) = nI 0 from rfl, k1, pu_b]
    · rw [e8, if_neg (by decide), if_pos (by decide)]
      unfold fX8_tape_31
      rw [if_pos (by decide), e42, if_neg (by decide)]
      exact k2
  have e7 : fX7_tape n (nI t) s c w = if pu_bi (0 ≤ s ∧ s ≤ 4) = 0 then some ((-2 : Int32), w) else if c ≤ (60 : Int32) then if 0 ≤ c then xw_b (fX6_become n (107 + 2 * t) s c w) (fun (_ : Unit) w12 => some ((1 : Int32), w12)) else some ((-14 : Int32), w) else some ((-2 : Int32), w) := by
    unfold fX7_tape
    rw [e, pu_bp, pu_om1, pu_ccT (pu_tp ht), if_neg h1, pu_within, pu_bp]
  by_cases h2 : 0 ≤ s ∧ s ≤ 4
  case neg =>
    have n2 : ¬ (-1 ≤ s ∧ s ≤ 4) := by
      intro q
      refine h2 ⟨?_, q.2⟩
      have q1 := Int32.le_iff_toInt_le.mp q.1
      have q3 : ¬ s.toInt = -1 := fun z => h1 (Int32.toInt_inj.mp (z.trans (by decide)))
      rw [Int32.le_iff_toInt_le]
      have : (-1 : Int32).toInt = -1 := by decide
      have : (0 : Int32).toInt = 0 := by decide
      omega
    exact ⟨-2, w, w, by rw [e7, pu_biF h2, if_pos rfl], by rw [e8, pu_biF n2, if_pos rfl], hR⟩
  obtain ⟨k, hk, hsk⟩ := pu_ex (n := 4) (by decide) h2
  have s0 : ¬ s < 0 := pu_nlt.mpr h2.1
  have y2 : -1 ≤ s ∧ s ≤ 4 := ⟨Int32.le_trans (by decide) h2.1, h2.2⟩
  by_cases h3 : c ≤ 60
  case neg => exact ⟨-2, w, w, by rw [e7, pu_biT h2, if_neg (by decide), if_neg h3], by rw [e8, pu_biT y2, if_neg (by decide), if_neg s0, if_neg h3], hR⟩
  by_cases h4 : 0 ≤ c
  case neg =>
    refine ⟨-14, w, w, by rw [e7, pu_biT h2, if_neg (by decide), if_pos h3, if_neg h4], ?_, hR⟩
    rw [e8, pu_biT y2, if_neg (by decide), if_neg s0, if_pos h3]
    unfold fX8_tape_31
    rw [if_neg s0, if_neg h4]
  obtain ⟨z, hz, hc⟩ := pu_ex (n := 60) (by decide) ⟨h4, h3⟩
  obtain ⟨w1, w2, k1, k2, k3⟩ := key z (k + 1) hz (by omega) (by rw [nI_pred]; exact hsk) (fun q => absurd q h1)
  refine ⟨1, w1, w2, ?_, ?_, k3⟩
  · rw [e7, pu_biT h2, if_neg (by decide), if_pos h3, if_pos h4, hc, k1, pu_b]
  · rw [e8, pu_biT y2, if_neg (by decide), if_neg s0, if_pos h3]
    unfold fX8_tape_31
    rw [if_neg s0, if_pos h4, e42, if_pos h2.1, show xw_si (xw_si w1 137 t s) 138 t c = xw_si (xw_si w1 137 t s) 138 t (nI z) by rw [hc]]
    exact k2
theorem pu_sort {s : Int32} {k : Nat} (hk : k ≤ 5) (h : s = nI k - 1) : s = -1 ∨ s = 0 ∨ s = 1 ∨ s = 2 ∨ s = 3 ∨ s = 4 := by
  subst h
  rcases (show k = 0 ∨ k = 1 ∨ k = 2 ∨ k = 3 ∨ k = 4 ∨ k = 5 by omega) with rfl | rfl | rfl | rfl | rfl | rfl <;> decide
theorem st_item (n : Nat) : xs_item n Rel := by
  intro a i v w hR
  by_cases h : 0 ≤ a ∧ a ≤ 5
  case neg => exact ⟨-1, w, w, by unfold fX7_item; rw [pu_tapeNo w h, pu_bp, pu_om0], by unfold fX8_item; rw [pu_isTape, pu_bp, pu_biF h, if_pos rfl], hR⟩
  obtain ⟨t, ht, rfl, e⟩ := pu_tapeAt w h
  obtain ⟨R, -, -, -, -, -, -, -, -, -, -, hT, -⟩ := id hR
  obtain ⟨t0, ⟨k, hk, t1⟩, ⟨z, t2, t3, t4, tz⟩, t5⟩ := hT t ht
  have e8 : ∀ u : xw_M, u.1 = w.1 → fX8_item (nI t) i v u = if 0 ≤ w.1 137 t then if pu_bi (0 ≤ i ∧ i < nI z) = 0 then some ((-13 : Int32), u) else (if w.1 137 t = 0 then fX8_item_116 (nI t) i v (((60 : Int32) * nI t) + i) v.toInt32.toInt8.toInt32.toInt64 u else if w.1 137 t = (1 : Int32) then fX8_item_116 (nI t) i v (((60 : Int32) * nI t) + i) v.toInt32.toInt16.toInt32.toInt64 u else if w.1 137 t = (2 : Int32) then fX8_item_116 (nI t) i v (((60 : Int32) * nI t) + i) v.toInt32.toInt64 u else if w.1 137 t = (3 : Int32) then fX8_item_116 (nI t) i v (((60 : Int32) * nI t) + i) v u else if (lg_cmp v (0 : Int64)) = 0 then fX8_item_116 (nI t) i v (((60 : Int32) * nI t) + i) (0 : Int64) u else fX8_item_116 (nI t) i v (((60 : Int32) * nI t) + i) (1 : Int64) u) else some ((-11 : Int32), u) := by
    intro u hu
    unfold fX8_item
    rw [pu_isTape, pu_bp, pu_biT h, if_neg (by decide), pu_ck ht (by decide), pu_ck ht (by decide), pu_ck ht (by decide), pu_cl (show t < 2 ^ 31 by omega), hu, t4, pu_isIn, pu_bp, pu_bic (pu_pred (m := i) (show z < 2 ^ 30 by omega)), pu_lt]
  have e7 : fX7_item (nI t) i v w = if w.1 137 t = -1 then some ((-11 : Int32), w) else xw_b (fX6_store (107 + 2 * t) i v w) (fun r8 w9 => if r8 = 0 then some ((-13 : Int32), w9) else some ((1 : Int32), w9)) := by
    unfold fX7_item
    rw [e, pu_bp, pu_om1, pu_ccT (pu_tp ht)]
    unfold fX6_holdsRow
    rw [t0]
    by_cases q : w.1 137 t = -1
    · rw [if_pos q, pu_bp, if_pos rfl, if_pos q]
    · rw [if_neg q, pu_bp, if_neg (by decide), if_neg q]
  rcases pu_sort hk t1 with q | q
  · exact ⟨-11, w, w, by rw [e7, if_pos q], by rw [e8 w rfl, if_neg (by rw [q]; decide)], hR⟩
  have n1 : ¬ w.1 137 t = -1 := by rcases q with q | q | q | q | q <;> rw [q] <;> decide
  have p0 : 0 ≤ w.1 137 t := by rcases q with q | q | q | q | q <;> rw [q] <;> decide
  by_cases h2 : 0 ≤ i ∧ i < nI z
  case neg =>
    refine ⟨-13, w, w, ?_, by rw [e8 w rfl, if_pos p0, pu_biF h2, if_pos rfl], hR⟩
    rw [e7, if_neg n1]
    unfold fX6_store
    rw [t3]
    by_cases c : i < 0
    · rw [if_pos c, pu_b, if_pos rfl]
    · rw [if_neg c, if_pos (pu_nlt.mp (fun y => h2 ⟨pu_nlt.mp c, y⟩)), pu_b, if_pos rfl]
  obtain ⟨j, hj, rfl⟩ := (pu_bnd (by omega)).mp h2
  obtain ⟨x, hx7, hx8⟩ : ∃ x : Int64, fX6_fitted (107 + 2 * t) v w = some x ∧ ∀ u : xw_M, u.1 = w.1 → fX8_item (nI t) (nI j) v u = fX8_item_116 (nI t) (nI j) v (((60 : Int32) * nI t) + nI j) x u := by
    unfold fX6_fitted
    rw [t0]
    have e8' : ∀ u : xw_M, u.1 = w.1 → fX8_item (nI t) (nI j) v u = (if w.1 137 t = 0 then fX8_item_116 (nI t) (nI j) v (((60 : Int32) * nI t) + nI j) v.toInt32.toInt8.toInt32.toInt64 u else if w.1 137 t = (1 : Int32) then fX8_item_116 (nI t) (nI j) v (((60 : Int32) * nI t) + nI j) v.toInt32.toInt16.toInt32.toInt64 u else if w.1 137 t = (2 : Int32) then fX8_item_116 (nI t) (nI j) v (((60 : Int32) * nI t) + nI j) v.toInt32.toInt64 u else if w.1 137 t = (3 : Int32) then fX8_item_116 (nI t) (nI j) v (((60 : Int32) * nI t) + nI j) v u else if (lg_cmp v (0 : Int64)) = 0 then fX8_item_116 (nI t) (nI j) v (((60 : Int32) * nI t) + nI j) (0 : Int64) u else fX8_item_116 (nI t) (nI j) v (((60 : Int32) * nI t) + nI j) (1 : Int64) u) := fun u hu => by rw [e8 u hu, if_pos p0, pu_biT h2, if_neg (by decide)]
    rcases q with q | q | q | q | q
    · exact ⟨_, by rw [if_pos q], fun u hu => by rw [e8' u hu, if_pos q]⟩
    · exact ⟨_, by rw [if_neg (by rw [q]; decide), if_pos q], fun u hu => by rw [e8' u hu, if_neg (by rw [q]; decide), if_pos q]⟩
    · exact ⟨_, by rw [if_neg (by rw [q]; decide), if_neg (by rw [q]; decide), if_pos q], fun u hu => by rw [e8' u hu, if_neg (by rw [q]; decide), if_neg (by rw [q]; decide), if_pos q]⟩
    · exact ⟨_, by rw [if_neg (by rw [q]; decide), if_neg (by rw [q]; decide), if_neg (by rw [q]; decide), if_pos q], fun u hu => by rw [e8' u hu, if_neg (by rw [q]; decide), if_neg (by rw [q]; decide), if_neg (by rw [q]; decide), if_pos q]⟩
    · by_cases c : lg_cmp v 0 = 0
      · exact ⟨0, by rw [if_neg (by rw [q]; decide), if_neg (by rw [q]; decide), if_neg (by rw [q]; decide), if_neg (by rw [q]; decide), if_pos q, if_pos c], fun u hu => by rw [e8' u hu, if_neg (by rw [q]; decide), if_neg (by rw [q]; decide), if_neg (by rw [q]; decide), if_neg (by rw [q]; decide), if_pos c]⟩
      · exact ⟨1, by rw [if_neg (by rw [q]; decide), if_neg (by rw [q]; decide), if_neg (by rw [q]; decide), if_neg (by rw [q]; decide), if_pos q, if_neg c], fun u hu => by rw [e8' u hu, if_neg (by rw [q]; decide), if_neg (by rw [q]; decide), if_neg (by rw [q]; decide), if_neg (by rw [q]; decide), if_neg c]⟩
  refine ⟨1, xw_sl w (107 + 2 * t + 1) j x, xw_sl (xw_sl w (107 + 2 * t + 1) j x) 139 (60 * t + j) x, ?_, ?_, ?_⟩
  · rw [e7, if_neg n1]
    unfold fX6_store
    rw [t3, if_neg (nI_pos (by omega)), if_neg (nI_ge hj (by omega)), if_pos (nI_lt (show j < 60 by omega) (by decide)), hx7, pu_bp, pu_ck (show j < 60 by omega) (by decide), pu_lt, pu_cl (by omega), pu_b, if_neg (by decide)]
  · rw [hx8 (xw_sl w (107 + 2 * t + 1) j x) rfl]
    unfold fX8_item_116
    rw [pu_60, pu_ck (show 60 * t + j < 360 by omega) (by decide), pu_lt, pu_cl (by omega)]
  · refine Rel_tape hR ht (fun _ _ _ _ => rfl) (fun q q1 q2 q3 => ?_) (fun _ _ => rfl) (fun _ _ => rfl) (fun j' hj' => ?_) ⟨t0, ⟨k, hk, t1⟩, ⟨z, t2, t3, t4, tz⟩, fun j' hj' => ?_⟩
    · rw [pu_sl0 _ _ _ q2, pu_sl0 _ _ _ (by omega)]
    · rw [pu_sl1, pk_uLn (by omega), pu_sl0 _ _ _ (by omega)]
    · rw [pu_sl0 _ _ _ (show 108 + 2 * t ≠ 139 by omega), pu_sl1, show 108 + 2 * t = 107 + 2 * t + 1 by omega, pu_sl1]
      by_cases c : j' = j
      · rw [c, pk_uLs, pk_uLs]
      · rw [pk_uLn c, pk_uLn (by omega), pu_sl0 _ _ _ (show 139 ≠ 107 + 2 * t + 1 by omega), show 107 + 2 * t + 1 = 108 + 2 * t by omega]
        exact t5 j' hj'
