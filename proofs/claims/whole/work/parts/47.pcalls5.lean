/-! ===== trace, read, feed ===== -/
theorem st_trace (n : Nat) : xs_trace n Rel := by
  intro a w hR
  have hR0 := hR
  obtain ⟨R, -, -, -, -, -, -, -, -, -, ⟨z, z0, z1, z2, z3⟩, -⟩ := hR0
  unfold fX7_trace fX8_trace
  rw [z1, z2]
  have em1 : (if nI 20 < nI z then nI 20 else nI z) = nI (min 20 z) := by
    by_cases h : 20 < z
    · rw [if_pos (nI_lt h (by omega)), Nat.min_eq_left (by omega)]
    · rw [if_neg (nI_nlt (by omega) (by omega)), Nat.min_eq_right (by omega)]
  have em2 : (if nI z < (20 : Int32) then nI z else 20) = nI (min 20 z) := by
    rw [show (20 : Int32) = nI 20 from rfl]
    by_cases h : z < 20
    · rw [if_pos (nI_lt h (by omega)), Nat.min_eq_right (by omega)]
    · rw [if_neg (nI_nlt (by omega) (by omega)), Nat.min_eq_left (by omega)]
  rw [em1, em2]
  have hm : min 20 z ≤ 20 := Nat.min_le_left _ _
  have hmz : min 20 z ≤ z := Nat.min_le_right _ _
  simp only [pu_isIn, pu_bp, pu_bi0, pu_pred (show min 20 z < 2 ^ 30 by omega)]
  by_cases h : 0 ≤ a ∧ a < nI (min 20 z)
  · obtain ⟨i, hi, rfl⟩ := (pu_bnd (by omega)).mp h
    refine ⟨w.1 136 i, ?_, ?_, hR⟩
    · rw [if_neg (nI_pos (by omega)), if_neg (nI_ge hi (by omega)), pu_at w (by omega) (by decide), pu_bp, z3 i (by omega) (by omega)]
    · rw [if_neg (fun q => q h), pu_ck (by omega) (by decide), pu_cl (by omega)]
  · refine ⟨-1, ?_, if_pos h, hR⟩
    by_cases h1 : a < 0
    · exact if_pos h1
    · rw [if_neg h1, if_pos]
      exact pu_nlt.mp (fun q => h ⟨pu_nlt.mp h1, q⟩)
theorem pu_tapeAt {a : Int32} (w : xw_M) (h : 0 ≤ a ∧ a ≤ 5) : ∃ t, t < 6 ∧ a = nI t ∧ fX7_tapeAt a w = some (some (107 + 2 * t)) := by
  obtain ⟨t, ht, rfl⟩ := pu_ex (n := 5) (by decide) h
  refine ⟨t, by omega, rfl, ?_⟩
  unfold fX7_tapeAt
  rw [if_neg (nI_pos (by omega)), if_neg (nI_ge (by omega) (by decide)), pu_ck (by omega) (by decide), pu_cl (by omega), pu_ccT (by unfold xw_tp; omega)]
theorem pu_tapeNo {a : Int32} (w : xw_M) (h : ¬ (0 ≤ a ∧ a ≤ 5)) : fX7_tapeAt a w = some none := by
  unfold fX7_tapeAt
  by_cases h1 : a < 0
  · exact if_pos h1
  · rw [if_neg h1, if_pos]
    refine Classical.byContradiction (fun q => ?_)
    obtain ⟨i, hi, rfl⟩ := nI_of h1
    have : i < 6 := (nI_ltI hi (by decide)).mp (pu_nle.mp q)
    exact h (pu_in (n := 5) (by omega) (by decide))
theorem pu_om0 {α β : Type} (a : Option β) (k : α → Option β) : xw_om (none : Option α) a k = a := rfl
theorem pu_om1 {α β : Type} (x : α) (a : Option β) (k : α → Option β) : xw_om (some x) a k = k x := rfl
theorem pu_tp {t : Nat} (h : t < 6) : xw_tp (107 + 2 * t) := by unfold xw_tp; omega
theorem pu_60 (t i : Nat) : (60 : Int32) * nI t + nI i = nI (60 * t + i) := by
  rw [show (60 : Int32) = nI 60 from rfl, pk_mul, nI_add]
theorem st_read (n : Nat) : xs_read n Rel := by
  intro a b w hR
  have hR0 := hR
  obtain ⟨R, -, -, -, -, -, -, -, -, -, -, hT, -⟩ := hR0
  unfold fX7_read fX8_read
  rw [pu_isTape]
  by_cases h : 0 ≤ a ∧ a ≤ 5
  case neg => exact ⟨_, by rw [pu_tapeNo w h, pu_bp, pu_om0], by rw [pu_bp, pu_biF h, if_pos rfl], hR⟩
  obtain ⟨t, ht, rfl, e⟩ := pu_tapeAt w h
  obtain ⟨t0, t1, ⟨z, t2, t3, t4, -⟩, t5⟩ := hT t ht
  simp only [e, pu_bp, pu_om1, pu_ccT (pu_tp ht), pu_biT h, pu_10, reduceIte, pu_ck ht (show 6 < 2 ^ 31 by decide), pu_cl (show t < 2 ^ 31 by omega), t4, pu_isIn, pu_bic (pu_pred (m := b) (show z < 2 ^ 30 by omega))]
  unfold fX6_itemAt
  rw [t3]
  by_cases h2 : 0 ≤ b ∧ b < nI z
  · obtain ⟨i, hi, rfl⟩ := (pu_bnd (by omega)).mp h2
    refine ⟨w.2 139 (60 * t + i), ?_, ?_, hR⟩
    · rw [if_neg (nI_pos (by omega)), if_neg (nI_ge hi (by omega)), if_neg (nI_ge (by omega) (by omega)), pu_ck (by omega) (by decide), pu_bp, pu_cl (by omega), ← t5 i (by omega)]
      rw [show 107 + 2 * t + 1 = 108 + 2 * t by omega]
    · simp only [pu_biT h2, pu_10, reduceIte]
      rw [pu_60, pu_ck (by omega) (by decide), pu_cl (by omega)]
  · refine ⟨-9223372036854775808, ?_, by rw [pu_biF h2]; exact if_pos rfl, hR⟩
    by_cases h1 : b < 0
    · rw [if_pos h1, pu_bp]
    · rw [if_neg h1, if_pos, pu_bp]
      exact pu_nlt.mp (fun q => h2 ⟨pu_nlt.mp h1, q⟩)
/-- a text that grew on both sides -/
theorem Rel_txt {w w' : xw_M} (h : Rel w) (hf : ∀ k, k ≠ 49 → k ≠ 50 → k ≠ 119 → k ≠ 123 → w'.1 k = w.1 k) (h2 : w'.2 = w.2) (h4 : ∀ j, j ≠ 5 → w'.1 119 j = w.1 119 j) (hx : rX w'.1) : Rel w' := by
  obtain ⟨R, a1, a2, a3, a4, a5, a6, a7, a8, a9, a10, a11, a12⟩ := h
  have e := hf
  refine ⟨R, a1, ?_, by rw [e 0 (by omega) (by omega) (by omega) (by omega), h4 3 (by decide)]; exact a3, ?_, hx, by rw [e 0 (by omega) (by omega) (by omega) (by omega)]; exact a6, by rw [h4 8 (by decide)]; exact a7, fun i hi => ?_, rA_cong (fun k h1 h2 => e k (by omega) (by omega) (by omega) (by omega)) a9, rB_cong (by rw [e 68 (by omega) (by omega) (by omega) (by omega)]) (h4 26 (by decide)) (e 69 (by omega) (by omega) (by omega) (by omega)) (e 136 (by omega) (by omega) (by omega) (by omega)) a10, fun t ht => ?_, ⟨fun k hk => by rw [e k (by omega) (by omega) (by omega) (by omega)]; exact a12.1 k hk, by rw [e 40 (by omega) (by omega) (by omega) (by omega), e 43 (by omega) (by omega) (by omega) (by omega), e 46 (by omega) (by omega) (by omega) (by omega)]; exact a12.2⟩⟩
  · rw [e 120 (by omega) (by omega) (by omega) (by omega)]
    exact rS_cong (fun k h1 h2 => e k (by omega) (by omega) (by omega) (by omega)) a2
  · rw [e 0 (by omega) (by omega) (by omega) (by omega), e 122 (by omega) (by omega) (by omega) (by omega)]
    exact a4.imp id (fun q => ⟨q.1, rS_cong (fun k h1 h2 => e k (by omega) (by omega) (by omega) (by omega)) q.2⟩)
  · exact rR_cong (fun k h1 h2 => e k (by omega) (by omega) (by omega) (by omega)) (fun j hj => by rw [e 124 (by omega) (by omega) (by omega) (by omega)]) (by rw [e 125 (by omega) (by omega) (by omega) (by omega)]) (a8 i hi)
  · exact rT_cong (e _ (by omega) (by omega) (by omega) (by omega)) (by rw [e 137 (by omega) (by omega) (by omega) (by omega)]) (by rw [e 138 (by omega) (by omega) (by omega) (by omega)]) (by rw [h2]) (fun j hj => by rw [h2]) (a11 t ht)
theorem pu_byte : ∀ c, c < 128 → vp_nar .byte (nI c).toInt8.toInt32 = nI c := by decide +kernel
theorem st_feed (n : Nat) : xs_feed n Rel := by
  intro a w hR
  have hR0 := hR
  obtain ⟨R, -, -, -, -, ⟨T, x0, x1, x2, x3⟩, -⟩ := hR0
  unfold fX7_feed fX3_append fX8_feed
  simp only [pu_within, pu_isIn, pu_bp]
  by_cases h : 0 ≤ a ∧ a ≤ 127
  case neg => exact ⟨-2, w, w, by rw [pu_biF h, if_pos rfl], by rw [pu_biF h, if_pos rfl], hR⟩
  obtain ⟨c, hc, rfl⟩ := pu_ex (n := 127) (by decide) h
  simp only [pu_biT h, pu_10, reduceIte, x1, if_neg (nI_pos (show T < 2 ^ 31 by omega))]
  by_cases hT : T = 100
  · subst hT
    exact ⟨-4, w, w, by rw [if_neg (nI_nlt (Nat.le_refl _) (by decide)), pu_b], by rw [x2]; exact if_pos rfl, hR⟩
  have hT2 : T < 100 := by omega
  obtain ⟨w1, ew⟩ : ∃ u, u = xw_si (xw_si w 50 T (nI c)) 49 1 (nI (T + 1)) := ⟨_, rfl⟩
  have y2 : w1.1 119 5 = nI T := by rw [ew, pu_si0 _ _ _ (by decide), pu_si0 _ _ _ (by decide), x2]
  refine ⟨nI (T + 1), w1, xw_si (xw_si w1 123 T (nI c)) 119 5 (nI (T + 1)), ?_, ?_, ?_⟩
  · rw [if_pos (nI_lt hT2 (by decide)), pu_ck hT2 (by decide), pu_cl (by omega)]
    simp only [pu_lt, pu_b, pu_byte c (by omega)]
    rw [pu_si1, pk_us, pu_si0 _ _ _ (show (49 : Nat) ≠ 50 by decide), x1, nI_1, ew]
  · have e100 : ¬ nI T = (100 : Int32) := fun q => hT ((nI_eq (b := 100) (by omega) (by decide)).mp q)
    rw [y2, if_neg e100, pu_ck hT2 (by decide), pu_cl (by omega)]
    simp only [pu_lt]
    rw [pu_si1, pk_us, pu_si0 _ _ _ (show (119 : Nat) ≠ 123 by decide), y2, nI_1]
  · refine Rel_txt hR (fun k h1 h2 h3 h4 => ?_) (by show w1.2 = w.2; rw [ew]; rfl) (fun j hj => ?_) ⟨T + 1, by omega, ?_, ?_, fun j hj => ?_⟩
    · rw [pu_si0 _ _ _ h3, pu_si0 _ _ _ h4, ew, pu_si0 _ _ _ h1, pu_si0 _ _ _ h2]
    · rw [pu_si1, pk_un hj, pu_si0 _ _ _ (by decide), ew, pu_si0 _ _ _ (by decide), pu_si0 _ _ _ (by decide)]
    · rw [pu_si0 _ _ _ (by decide), pu_si0 _ _ _ (by decide), ew, pu_si1, pk_us]
    · rw [pu_si1, pk_us]
    · simp only [pu_sg, ew, Nat.reduceAdd, Nat.reduceEqDiff, reduceIte]
      by_cases hj2 : j = T
      · subst hj2
        rw [pk_us, pk_us]
        exact ⟨rfl, c, by omega, rfl⟩
      · rw [pk_un hj2, pk_un hj2]
        exact x3 j (by omega)
