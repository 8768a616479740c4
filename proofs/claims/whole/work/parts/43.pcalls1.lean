/-! ===== mourners: has, isOne, rows of now ===== -/
theorem pu_bnd {m : Int32} {N : Nat} (hN : N < 2 ^ 31) : (0 ≤ m ∧ m < nI N) ↔ ∃ i, i < N ∧ m = nI i := by
  constructor
  · intro h
    obtain ⟨j, hj, rfl⟩ := nI_of (pu_nlt.mpr h.1)
    exact ⟨j, (nI_ltI hj hN).mp h.2, rfl⟩
  · rintro ⟨i, hi, rfl⟩
    exact ⟨nI_pos' (by omega), nI_lt hi hN⟩
theorem pu_has {w : xw_M} {b N : Nat} (m : Int32) (h : w.1 b 0 = nI N) : fX5_has b m w = some (pu_bi (0 ≤ m ∧ m < nI N)) := by
  unfold fX5_has
  rw [h]
  by_cases h1 : m < 0
  · rw [if_pos h1, pu_biF (fun q => absurd h1 (pu_nlt.mpr q.1))]
  · rw [if_neg h1]
    by_cases h2 : nI N ≤ m
    · rw [if_pos h2, pu_biF (fun q => absurd h2 (pu_nle.mpr q.2))]
    · rw [if_neg h2, pu_biT ⟨pu_nlt.mp h1, pu_nle.mp h2⟩]
theorem pu_pred {m : Int32} {N : Nat} (hN : N < 2 ^ 30) : (0 ≤ m ∧ m ≤ nI N - 1) ↔ (0 ≤ m ∧ m < nI N) := by
  have h1 : (nI N - 1 : Int32).toInt = (N : Int) - 1 := pk_sub_toInt (a := N) (b := 1) hN (by decide)
  have h2 : (nI N).toInt = (N : Int) := nI_toInt (by omega)
  rw [Int32.le_iff_toInt_le (y := nI N - 1), Int32.lt_iff_toInt_lt (y := nI N), h1, h2]
  constructor <;> intro h <;> exact ⟨h.1, by have := h.2; omega⟩
theorem pu_bic {p q : Prop} [Decidable p] [Decidable q] (h : p ↔ q) : pu_bi p = pu_bi q := by
  by_cases hp : p
  · rw [pu_biT hp, pu_biT (h.mp hp)]
  · rw [pu_biF hp, pu_biF (fun k => hp (h.mpr k))]
theorem pu_isOne {w : xw_M} {N : Nat} (m : Int32) (hN : N ≤ 6) (h : w.1 120 60 = nI N) : fX8_isOne m w = some (pu_bi (0 ≤ m ∧ m < nI N)) := by
  unfold fX8_isOne
  rw [show (60 : Int32) = nI 60 from rfl, pu_now 60 (by decide), pu_cl (by decide), h, pu_isIn, pu_bp, pu_ccT pu_bi01, pu_bic (pu_pred (by omega))]
/-! one column of one mourner changes -/
theorem rM_vs {kd vs lo ya pa ro g : Nat → Int32} {N M i : Nat} (v : Int32) (hr : rM kd vs lo ya pa ro g N M) (hN : N ≤ 6) (hi : i < N) : rM kd (upd vs i v) lo ya pa ro (upd g (10 * i + 1) v) N M := by
  refine ⟨fun j hj => ?_, hr.2⟩
  obtain ⟨a, b, c, d, e, f, k, l, m⟩ := hr.1 j hj
  rw [pk_un (j := 10 * j) (by omega), pk_un (j := 10 * j + 2) (by omega), pk_un (j := 10 * j + 3) (by omega), pk_un (j := 10 * j + 4) (by omega), pk_un (j := 10 * j + 5) (by omega)]
  refine ⟨a, ?_, c, d, e, f, fun q hq => by rw [pk_un (by omega)]; exact k q hq, l, m⟩
  by_cases h : j = i
  · subst h; rw [pk_us, pk_us]
  · rw [pk_un h, pk_un (by omega)]; exact b
theorem rM_lo {kd vs lo ya pa ro g : Nat → Int32} {N M i : Nat} (v : Int32) (hr : rM kd vs lo ya pa ro g N M) (hN : N ≤ 6) (hi : i < N) : rM kd vs (upd lo i v) ya pa ro (upd g (10 * i + 2) v) N M := by
  refine ⟨fun j hj => ?_, hr.2⟩
  obtain ⟨a, b, c, d, e, f, k, l, m⟩ := hr.1 j hj
  rw [pk_un (j := 10 * j) (by omega), pk_un (j := 10 * j + 1) (by omega), pk_un (j := 10 * j + 3) (by omega), pk_un (j := 10 * j + 4) (by omega), pk_un (j := 10 * j + 5) (by omega)]
  refine ⟨a, b, ?_, d, e, f, fun q hq => by rw [pk_un (by omega)]; exact k q hq, l, m⟩
  by_cases h : j = i
  · subst h; rw [pk_us, pk_us]
  · rw [pk_un h, pk_un (by omega)]; exact c
theorem rM_ya {kd vs lo ya pa ro g : Nat → Int32} {N M i y : Nat} (hy : y ≤ 9) (hr : rM kd vs lo ya pa ro g N M) (hN : N ≤ 6) (hi : i < N) : rM kd vs lo (upd ya i (nI y)) pa ro (upd g (10 * i + 3) (nI y)) N M := by
  refine ⟨fun j hj => ?_, hr.2⟩
  obtain ⟨a, b, c, d, e, f, k, l, m⟩ := hr.1 j hj
  rw [pk_un (j := 10 * j) (by omega), pk_un (j := 10 * j + 1) (by omega), pk_un (j := 10 * j + 2) (by omega), pk_un (j := 10 * j + 4) (by omega), pk_un (j := 10 * j + 5) (by omega)]
  by_cases h : j = i
  · subst h
    exact ⟨a, b, c, by rw [pk_us, pk_us], e, f, fun q hq => by rw [pk_un (by omega)]; exact k q hq, l, y, hy, pk_us⟩
  · refine ⟨a, b, c, by rw [pk_un h, pk_un (by omega)]; exact d, e, f, fun q hq => by rw [pk_un (by omega)]; exact k q hq, l, ?_⟩
    rw [pk_un (by omega)]
    exact m
theorem rM_pa {kd vs lo ya pa ro g : Nat → Int32} {N M i : Nat} (v : Int32) (hr : rM kd vs lo ya pa ro g N M) (hN : N ≤ 6) (hi : i < N) : rM kd vs lo ya (upd pa i v) ro (upd g (10 * i + 5) v) N M := by
  refine ⟨fun j hj => ?_, fun j h1 h2 => ⟨by rw [pk_un (by omega)]; exact (hr.2 j h1 h2).1, (hr.2 j h1 h2).2⟩⟩
  obtain ⟨a, b, c, d, e, f, k, l, m⟩ := hr.1 j hj
  rw [pk_un (j := 10 * j) (by omega), pk_un (j := 10 * j + 1) (by omega), pk_un (j := 10 * j + 2) (by omega), pk_un (j := 10 * j + 3) (by omega), pk_un (j := 10 * j + 4) (by omega)]
  refine ⟨a, b, c, d, e, ?_, fun q hq => by rw [pk_un (by omega)]; exact k q hq, l, m⟩
  by_cases h : j = i
  · subst h; rw [pk_us, pk_us]
  · rw [pk_un h, pk_un (by omega)]; exact f
theorem rM_ro {kd vs lo ya pa ro g : Nat → Int32} {N M i z : Nat} (v : Int32) (hz : z < 4) (hr : rM kd vs lo ya pa ro g N M) (hN : N ≤ 6) (hi : i < N) : rM kd vs lo ya pa (upd ro (4 * i + z) v) (upd g (10 * i + (6 + z)) v) N M := by
  refine ⟨fun j hj => ?_, fun j h1 h2 => ⟨(hr.2 j h1 h2).1, fun q hq => by rw [pk_un (by omega)]; exact (hr.2 j h1 h2).2 q hq⟩⟩
  obtain ⟨a, b, c, d, e, f, k, l, m⟩ := hr.1 j hj
  rw [pk_un (j := 10 * j) (by omega), pk_un (j := 10 * j + 1) (by omega), pk_un (j := 10 * j + 2) (by omega), pk_un (j := 10 * j + 3) (by omega), pk_un (j := 10 * j + 4) (by omega), pk_un (j := 10 * j + 5) (by omega)]
  refine ⟨a, b, c, d, e, f, fun q hq => ?_, l, m⟩
  by_cases h : 4 * j + q = 4 * i + z
  · have h1 : j = i := by omega
    have h2 : q = z := by omega
    subst h1; subst h2; rw [pk_us, pk_us]
  · rw [pk_un h, pk_un (by omega)]; exact k q hq
/-- away's bits -/
theorem pu_bits : ∀ M, M < 64 → ∀ i, i < 6 → ((nI M >>> (nI i &&& 31)) &&& (1 : Int32)) = pu_bi (M.testBit i = true) := by decide +kernel
theorem pu_bset : ∀ M, M < 64 → ∀ i, i < 6 → (nI M ||| ((1 : Int32) <<< (nI i &&& 31))) = nI (M ||| 2 ^ i) ∧ (nI M &&& (((1 : Int32) <<< (nI i &&& 31)) ^^^ (-1 : Int32))) = nI (M &&& (63 - 2 ^ i)) := by decide +kernel
theorem pu_bsetB : ((List.range 7).all fun N => (List.range (2 ^ N)).all fun M => (List.range N).all fun i => decide ((M ||| 2 ^ i) < 2 ^ N) && decide ((M &&& (63 - 2 ^ i)) < 2 ^ N) && (List.range 6).all fun j => ((M ||| 2 ^ i).testBit j == (if j = i then true else M.testBit j)) && ((M &&& (63 - 2 ^ i)).testBit j == (if j = i then false else M.testBit j))) = true := by decide +kernel
theorem pu_bset2 (N : Nat) (hN : N < 7) (M : Nat) (hM : M < 2 ^ N) (i : Nat) (hi : i < N) : (M ||| 2 ^ i) < 2 ^ N ∧ (M &&& (63 - 2 ^ i)) < 2 ^ N ∧ ∀ j, j < 6 → ((M ||| 2 ^ i).testBit j = (if j = i then true else M.testBit j)) ∧ ((M &&& (63 - 2 ^ i)).testBit j = (if j = i then false else M.testBit j)) := by
  have h1 := List.all_eq_true.mp (List.all_eq_true.mp (List.all_eq_true.mp pu_bsetB N (List.mem_range.mpr hN)) M (List.mem_range.mpr hM)) i (List.mem_range.mpr hi)
  simp only [Bool.and_eq_true, decide_eq_true_eq] at h1
  refine ⟨h1.1.1, h1.1.2, fun j hj => ?_⟩
  have h2 := List.all_eq_true.mp h1.2 j (List.mem_range.mpr hj)
  simp only [Bool.and_eq_true, beq_iff_eq] at h2
  exact h2
theorem pu_M64 {N M : Nat} (hN : N ≤ 6) (h : M < 2 ^ N) : M < 64 := Nat.lt_of_lt_of_le h (Nat.pow_le_pow_right (by decide) hN)
theorem rM_aw {kd vs lo ya pa ro g : Nat → Int32} {N M M' i : Nat} {v : Int32} {bv : Bool} (hv : v = pu_bi (bv = true)) (hb : ∀ j, j < 6 → M'.testBit j = (if j = i then bv else M.testBit j)) (hr : rM kd vs lo ya pa ro g N M) (hN : N ≤ 6) (hi : i < N) : rM kd vs lo ya pa ro (upd g (10 * i + 4) v) N M' := by
  refine ⟨fun j hj => ?_, hr.2⟩
  obtain ⟨a, b, c, d, e, f, k, l, m⟩ := hr.1 j hj
  rw [pk_un (j := 10 * j) (by omega), pk_un (j := 10 * j + 1) (by omega), pk_un (j := 10 * j + 2) (by omega), pk_un (j := 10 * j + 3) (by omega), pk_un (j := 10 * j + 5) (by omega)]
  refine ⟨a, b, c, d, ?_, f, fun q hq => by rw [pk_un (by omega)]; exact k q hq, l, m⟩
  by_cases h : j = i
  · subst h; rw [pk_us, hv]; rw [hb j (by omega), if_pos rfl]
  · rw [pk_un (by omega), hb j (by omega), if_neg h]; exact e
theorem pu_isAway {w : xw_M} {b N M i : Nat} (hN : N ≤ 6) (hM : M < 2 ^ N) (h : w.1 b 7 = nI M) (hi : i < 6) : fX5_isAway b (nI i) w = some (pu_bi (M.testBit i = true)) := by
  unfold fX5_isAway
  rw [h, pu_bits M (pu_M64 hN hM) i hi]
  by_cases q : M.testBit i = true
  · rw [pu_biT q, if_neg (by decide)]
  · rw [pu_biF q, if_pos rfl]
theorem pu_10 : ((1 : Int32) = 0) = False := by decide
theorem pu_sg (w : xw_M) (k j : Nat) (v : Int32) (k' : Nat) : (xw_si w k j v).1 k' = if k' = k then upd (w.1 k) j v else w.1 k' := by
  by_cases h : k' = k
  · subst h; rw [if_pos rfl, pu_si1]
  · rw [if_neg h, pu_si0 _ _ _ h]
theorem st_set (n : Nat) : xs_set n Rel := by
  intro a1 a2 a3 w hR
  have hR0 := hR
  obtain ⟨R, c1, ⟨N, M, b1, b2, b3, b4, b5, bM, bD, bS, bP, bB⟩, -, -, -, a6, -⟩ := hR0
  by_cases h1 : 0 ≤ a1 ∧ a1 < nI N
  case neg => exact ⟨-1, w, w, by unfold fX7_set; simp only [pu_has a1 b3, pu_bp, pu_biF h1, reduceIte], by unfold fX8_set; simp only [pu_isOne a1 b1 b4, pu_bp, pu_biF h1, reduceIte], hR⟩
  by_cases h2 : 0 ≤ a2 ∧ a2 ≤ 1
  case neg => exact ⟨-1, w, w, by unfold fX7_set; simp only [pu_has a1 b3, pu_within, pu_bp, pu_biT h1, pu_biF h2, pu_10, reduceIte], by unfold fX8_set; simp only [pu_isOne a1 b1 b4, pu_isIn, pu_bp, pu_biT h1, pu_biF h2, pu_10, reduceIte], hR⟩
  obtain ⟨i, hi, rfl⟩ := (pu_bnd (by omega)).mp h1
  obtain ⟨k, hk, rfl⟩ := pu_ex (n := 1) (by decide) h2
  rcases (show k = 0 ∨ k = 1 by omega) with rfl | rfl
  · have e0 : (nI 0 : Int32) = 0 := rfl
    by_cases h3 : 0 ≤ a3 ∧ a3 ≤ 20
    case neg => exact ⟨-2, w, w, by unfold fX7_set fX7_set_33; simp only [pu_has _ b3, pu_within, pu_bp, pu_biT h1, pu_biT h2, pu_biF h3, pu_10, if_pos e0, reduceIte], by unfold fX8_set fX8_set_32; simp only [pu_isOne _ b1 b4, pu_isIn, pu_bp, pu_biT h1, pu_biT h2, pu_biF h3, pu_10, if_pos e0, reduceIte], hR⟩
    refine ⟨w.1 120 (10 * i + 2), xw_si w (1 + 3) i a3, xw_si (xw_si w (1 + 3) i a3) 120 (10 * i + 2) a3, ?_, ?_, ?_⟩
    · unfold fX7_set fX7_set_33 fX7_set_63
      simp only [pu_has _ b3, pu_within, pu_bp, pu_biT h1, pu_biT h2, pu_biT h3, pu_10, if_pos e0, reduceIte, pu_at w (show i < 6 by omega) (by decide), pu_put a3 w (show i < 6 by omega) (by decide), pu_b]
      rw [(bM.1 i hi).2.2.1]
    · unfold fX8_set fX8_set_32
      simp only [pu_isOne (w := xw_si w (1 + 3) i a3) (N := N) _ b1 (by rw [pu_si0 _ _ _ (by decide)]; exact b4), pu_isIn, pu_bp, pu_biT h1, pu_biT h2, pu_biT h3, pu_10, if_pos e0, reduceIte]
      rw [show (2 : Int32) + nI 0 = nI 2 from rfl, pu_change _ _ (by omega), pu_b, pu_si0 _ _ _ (by decide)]
    · refine Rel_now hR a6 c1 (fun k h1 h2 => by rw [pu_si0 _ _ _ h2, pu_si0 _ _ _ (by omega)]) rfl ?_
      refine ⟨N, M, b1, b2, ?_, ?_, ?_, ?_, ?_, ?_, ?_, ?_⟩ <;> simp only [pu_sg, Nat.reduceAdd, Nat.reduceEqDiff, reduceIte]
      · exact b3
      · rw [pk_un (by omega)]; exact b4
      · exact b5
      · exact rM_lo a3 bM b1 hi
      · exact rD_g (pk_un (by omega)) (pk_un (by omega)) (pk_un (by omega)) bD
      · exact rP_g (fun j h1 h2 => pk_un (by omega)) bS
      · exact rP_g (fun j h1 h2 => pk_un (by omega)) bP
      · exact rP_g (fun j h1 h2 => pk_un (by omega)) bB
  · have e1 : ¬ ((nI 1 : Int32) = 0) := by decide
    by_cases h3 : 0 ≤ a3 ∧ a3 ≤ 9
    case neg => exact ⟨-2, w, w, by unfold fX7_set fX7_set_33; simp only [pu_has _ b3, pu_within, pu_bp, pu_biT h1, pu_biT h2, pu_biF h3, pu_10, if_neg e1, reduceIte], by unfold fX8_set fX8_set_32; simp only [pu_isOne _ b1 b4, pu_isIn, pu_bp, pu_biT h1, pu_biT h2, pu_biF h3, pu_10, if_neg e1, reduceIte], hR⟩
    obtain ⟨y, hy, rfl⟩ := pu_ex (n := 9) (by decide) h3
    refine ⟨w.1 120 (10 * i + 3), xw_si w (1 + 4) i (nI y), xw_si (xw_si w (1 + 4) i (nI y)) 120 (10 * i + 3) (nI y), ?_, ?_, ?_⟩
    · unfold fX7_set fX7_set_33 fX7_set_63
      simp only [pu_has _ b3, pu_within, pu_bp, pu_biT h1, pu_biT h2, pu_biT h3, pu_10, if_neg e1, reduceIte, pu_at w (show i < 6 by omega) (by decide), pu_put _ w (show i < 6 by omega) (by decide), pu_b]
      rw [(bM.1 i hi).2.2.2.1]
    · unfold fX8_set fX8_set_32
      simp only [pu_isOne (w := xw_si w (1 + 4) i (nI y)) (N := N) _ b1 (by rw [pu_si0 _ _ _ (by decide)]; exact b4), pu_isIn, pu_bp, pu_biT h1, pu_biT h2, pu_biT h3, pu_10, if_neg e1, reduceIte]
      rw [show (2 : Int32) + nI 1 = nI 3 from rfl, pu_change _ _ (by omega), pu_b, pu_si0 _ _ _ (by decide)]
    · refine Rel_now hR a6 c1 (fun k h1 h2 => by rw [pu_si0 _ _ _ h2, pu_si0 _ _ _ (by omega)]) rfl ?_
      refine ⟨N, M, b1, b2, ?_, ?_, ?_, ?_, ?_, ?_, ?_, ?_⟩ <;> simp only [pu_sg, Nat.reduceAdd, Nat.reduceEqDiff, reduceIte]
      · exact b3
      · rw [pk_un (by omega)]; exact b4
      · exact b5
      · exact rM_ya hy bM b1 hi
      · exact rD_g (pk_un (by omega)) (pk_un (by omega)) (pk_un (by omega)) bD
      · exact rP_g (fun j h1 h2 => pk_un (by omega)) bS
      · exact rP_g (fun j h1 h2 => pk_un (by omega)) bP
      · exact rP_g (fun j h1 h2 => pk_un (by omega)) bB
theorem st_away (n : Nat) : xs_away n Rel := by
  intro a1 a2 hz w hR
  have hR0 := hR
  obtain ⟨R, c1, ⟨N, M, b1, b2, b3, b4, b5, bM, bD, bS, bP, bB⟩, -, -, -, a6, -⟩ := hR0
  by_cases h1 : 0 ≤ a1 ∧ a1 < nI N
  case neg => exact ⟨-1, w, w, by unfold fX7_away; simp only [pu_has a1 b3, pu_bp, pu_biF h1, reduceIte], by unfold fX8_away; simp only [pu_isOne a1 b1 b4, pu_bp, pu_biF h1, reduceIte], hR⟩
  obtain ⟨i, hi, rfl⟩ := (pu_bnd (by omega)).mp h1
  have hm := pu_bset M (pu_M64 b1 b2) i (by omega)
  have hm2 := pu_bset2 N (by omega) M b2 i hi
  have key : ∀ (M' : Nat) (bv : Bool), M' < 2 ^ N → (∀ j, j < 6 → M'.testBit j = (if j = i then bv else M.testBit j)) → fX5_send 1 (nI i) a2 w = some ((), xw_si w 1 7 (nI M')) → a2 = pu_bi (bv = true) →
      ∃ (r : Int32) (w1 w2 : xw_M), fX7_away (nI i) a2 w = some (r, w1) ∧ fX8_away (nI i) a2 w1 = some (r, w2) ∧ Rel w2 := by
    intro M' bv hM' hb hs ha
    refine ⟨pu_bi (M.testBit i = true), xw_si w 1 7 (nI M'), xw_si (xw_si w 1 7 (nI M')) 120 (10 * i + 4) a2, ?_, ?_, ?_⟩
    · unfold fX7_away
      simp only [pu_has _ b3, pu_bp, pu_biT h1, pu_10, reduceIte, pu_isAway b1 b2 b5 (show i < 6 by omega), hs, pu_b]
      by_cases q : M.testBit i = true
      · rw [pu_biT q, if_neg (by decide)]
      · rw [pu_biF q, if_pos rfl]
    · unfold fX8_away fX8_away_20
      simp only [pu_isOne (w := xw_si w 1 7 (nI M')) (N := N) _ b1 (by rw [pu_si0 _ _ _ (by decide)]; exact b4), pu_bp, pu_biT h1, pu_10, reduceIte]
      rw [show (4 : Int32) = nI 4 from rfl, pu_change _ _ (by omega), pu_change _ _ (by omega), pu_b, pu_b, pu_si0 _ _ _ (by decide), (bM.1 i hi).2.2.2.2.1]
      rcases hz with e | e
      · rw [if_pos e, e]
      · rw [if_neg (by rw [e]; decide), e]
    · refine Rel_now hR a6 c1 (fun k h1 h2 => by rw [pu_si0 _ _ _ h2, pu_si0 _ _ _ (by omega)]) rfl ?_
      refine ⟨N, M', b1, hM', ?_, ?_, ?_, ?_, ?_, ?_, ?_, ?_⟩ <;> simp only [pu_sg, Nat.reduceAdd, Nat.reduceEqDiff, reduceIte]
      · rw [pk_un (by omega)]; exact b3
      · rw [pk_un (by omega)]; exact b4
      · exact pk_us
      · exact rM_aw ha hb bM b1 hi
      · unfold rD
        rw [pk_un (k := 7) (j := 8) (by omega), pk_un (k := 7) (j := 9) (by omega), pk_un (k := 7) (j := 10) (by omega)]
        exact rD_g (pk_un (by omega)) (pk_un (by omega)) (pk_un (by omega)) bD
      · exact rP_g (fun j h1 h2 => pk_un (by omega)) bS
      · exact rP_g (fun j h1 h2 => pk_un (by omega)) bP
      · exact rP_g (fun j h1 h2 => pk_un (by omega)) bB
  rcases hz with e | e
  · refine key (M &&& (63 - 2 ^ i)) false hm2.2.1 (fun j hj => (hm2.2.2 j hj).2) ?_ (by rw [e]; rfl)
    unfold fX5_send fX5_send_26
    rw [if_pos e, pu_lt, b5, hm.2]
  · refine key (M ||| 2 ^ i) true hm2.1 (fun j hj => (hm2.2.2 j hj).1) ?_ (by rw [e]; rfl)
    unfold fX5_send fX5_send_26
    rw [if_neg (by rw [e]; decide), pu_lt, b5, hm.1]
theorem st_row (n : Nat) : xs_row n Rel := by
  intro a1 a2 a3 w hR
  have hR0 := hR
  obtain ⟨R, c1, ⟨N, M, b1, b2, b3, b4, b5, bM, bD, bS, bP, bB⟩, -, -, -, a6, -⟩ := hR0
  by_cases h1 : 0 ≤ a1 ∧ a1 < nI N
  case neg => exact ⟨-1, w, w, by unfold fX7_row; simp only [pu_has a1 b3, pu_bp, pu_biF h1, reduceIte], by unfold fX8_row; simp only [pu_isOne a1 b1 b4, pu_bp, pu_biF h1, reduceIte], hR⟩
  by_cases h2 : 0 ≤ a2 ∧ a2 ≤ 3
  case neg => exact ⟨-1, w, w, by unfold fX7_row; simp only [pu_has a1 b3, pu_within, pu_bp, pu_biT h1, pu_biF h2, pu_10, reduceIte], by unfold fX8_row; simp only [pu_isOne a1 b1 b4, pu_isIn, pu_bp, pu_biT h1, pu_biF h2, pu_10, reduceIte], hR⟩
  by_cases h3 : 0 ≤ a3 ∧ a3 ≤ 9
  case neg => exact ⟨-2, w, w, by unfold fX7_row; simp only [pu_has a1 b3, pu_within, pu_bp, pu_biT h1, pu_biT h2, pu_biF h3, pu_10, reduceIte], by unfold fX8_row; simp only [pu_isOne a1 b1 b4, pu_isIn, pu_bp, pu_biT h1, pu_biT h2, pu_biF h3, pu_10, reduceIte], hR⟩
  obtain ⟨i, hi, rfl⟩ := (pu_bnd (by omega)).mp h1
  obtain ⟨z, hz, rfl⟩ := pu_ex (n := 3) (by decide) h2
  have e0 : fX8_one (nI i) (0 : Int32) w = some (w.1 120 (10 * i)) := pu_one (j := 0) w (by omega)
  have e4 : nI i * (4 : Int32) + nI z = nI (4 * i + z) := by rw [show (4 : Int32) = nI 4 from rfl, pk_mul, nI_add, Nat.mul_comm]
  by_cases h4 : w.1 120 (10 * i) = 6
  case neg =>
    refine ⟨-3, w, w, ?_, ?_, hR⟩
    · unfold fX7_row
      simp only [pu_has _ b3, pu_within, pu_bp, pu_biT h1, pu_biT h2, pu_biT h3, pu_10, reduceIte, pu_at w (show i < 6 by omega) (by decide)]
      rw [(bM.1 i hi).1, if_neg h4]
    · unfold fX8_row
      simp only [pu_isOne _ b1 b4, pu_isIn, pu_bp, pu_biT h1, pu_biT h2, pu_biT h3, pu_10, reduceIte, e0, if_neg h4]
  refine ⟨w.1 120 (10 * i + (6 + z)), xw_si w (1 + 6) (4 * i + z) a3, xw_si (xw_si w (1 + 6) (4 * i + z) a3) 120 (10 * i + (6 + z)) a3, ?_, ?_, ?_⟩
  · unfold fX7_row
    simp only [pu_has _ b3, pu_within, pu_bp, pu_biT h1, pu_biT h2, pu_biT h3, pu_10, reduceIte, pu_at w (show i < 6 by omega) (by decide)]
    rw [(bM.1 i hi).1, if_pos h4, pu_lt, e4, pu_at w (show 4 * i + z < 24 by omega) (by decide), pu_bp, pu_put _ w (show 4 * i + z < 24 by omega) (by decide), pu_b, (bM.1 i hi).2.2.2.2.2.2.1 z (by omega)]
  · unfold fX8_row
    have e0' : fX8_one (nI i) (0 : Int32) (xw_si w (1 + 6) (4 * i + z) a3) = some (w.1 120 (10 * i)) := by rw [← pu_si0 w (k := 1 + 6) (k' := 120) (4 * i + z) a3 (by decide)]; exact pu_one (j := 0) _ (by omega)
    simp only [pu_isOne (w := xw_si w (1 + 6) (4 * i + z) a3) (N := N) _ b1 (by rw [pu_si0 _ _ _ (by decide)]; exact b4), pu_isIn, pu_bp, pu_biT h1, pu_biT h2, pu_biT h3, pu_10, reduceIte, e0', if_pos h4]
    rw [show (6 : Int32) + nI z = nI (6 + z) from nI_add 6 z, pu_change _ _ (by omega), pu_b, pu_si0 _ _ _ (by decide)]
  · refine Rel_now hR a6 c1 (fun k h1 h2 => by rw [pu_si0 _ _ _ h2, pu_si0 _ _ _ (by omega)]) rfl ?_
    refine ⟨N, M, b1, b2, ?_, ?_, ?_, ?_, ?_, ?_, ?_, ?_⟩ <;> simp only [pu_sg, Nat.reduceAdd, Nat.reduceEqDiff, reduceIte]
    · exact b3
    · rw [pk_un (by omega)]; exact b4
    · exact b5
    · exact rM_ro a3 (by omega) bM b1 hi
    · exact rD_g (pk_un (by omega)) (pk_un (by omega)) (pk_un (by omega)) bD
    · exact rP_g (fun j h1 h2 => pk_un (by omega)) bS
    · exact rP_g (fun j h1 h2 => pk_un (by omega)) bP
    · exact rP_g (fun j h1 h2 => pk_un (by omega)) bB
