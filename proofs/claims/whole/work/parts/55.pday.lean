/-! ===== worth, where it is best to stand, a day ===== -/
def pg_w1 (g : Nat → Int32) (i y : Nat) : Nat → Int32 := upd (upd g (10 * i + 3) (nI y)) (10 * i + 4) 0
def WO (cl : List pg_Cl) (N : Nat) (g : Nat → Int32) (i y : Nat) : Int32 := g (10 * i + 2) * (10 - nI y) - SH cl (pg_w1 g i y) N i
def pg_bs (cl : List pg_Cl) (N : Nat) (g : Nat → Int32) (i : Nat) : Nat → Nat × Int32
  | 0 => (0, WO cl N g i 0)
  | k + 1 => if WO cl N g i (k + 1) ≤ (pg_bs cl N g i k).2 then pg_bs cl N g i k else (k + 1, WO cl N g i (k + 1))
def BE (cl : List pg_Cl) (N : Nat) (g : Nat → Int32) (i : Nat) : Nat := (pg_bs cl N g i 9).1
theorem pg_bs_le (cl : List pg_Cl) (N : Nat) (g : Nat → Int32) (i : Nat) : ∀ k, (pg_bs cl N g i k).1 ≤ k := by
  intro k
  induction k with
  | zero => exact Nat.le_refl _
  | succ k ih =>
    show (if WO cl N g i (k + 1) ≤ (pg_bs cl N g i k).2 then pg_bs cl N g i k else (k + 1, WO cl N g i (k + 1))).1 ≤ k + 1
    by_cases h : WO cl N g i (k + 1) ≤ (pg_bs cl N g i k).2
    · rw [if_pos h]; omega
    · rw [if_neg h]; exact Nat.le_refl _
def pg_m1 (cl : List pg_Cl) (N k : Nat) (r : (Nat → Int32) × Nat) : (Nat → Int32) × Nat := if r.1 (10 * k + 4) = 0 then (if WO cl N r.1 k (BE cl N r.1 k) ≤ WO cl N r.1 k (pg_y r.1 k) then r else (upd r.1 (10 * k + 3) (nI (BE cl N r.1 k)), r.2 + 1)) else r
def pg_mv (cl : List pg_Cl) (N : Nat) (g : Nat → Int32) : Nat → (Nat → Int32) × Nat
  | 0 => (g, 0)
  | k + 1 => pg_m1 cl N k (pg_mv cl N g k)
def pg_cp (mx v : Int32) : Int32 := if v < mx then v else mx
def pg_py (cl : List pg_Cl) (N : Nat) (mx : Int32) (g : Nat → Int32) : Nat → (Nat → Int32)
  | 0 => g
  | k + 1 => upd (pg_py cl N mx g k) (10 * k + 5) (pg_cp mx (pg_py cl N mx g k (10 * k + 5) + SH cl g N k))
def DY (cl : List pg_Cl) (N : Nat) (mx : Int32) (g : Nat → Int32) : Nat → Int32 := upd (pg_py cl N mx (pg_mv cl N g N).1 N) 62 (pg_py cl N mx (pg_mv cl N g N).1 N 62 + 1)
theorem pg_cp_max (v : Int32) : pg_cp 2147483647 v = v := by
  unfold pg_cp
  by_cases h : v < 2147483647
  · rw [if_pos h]
  · rw [if_neg h]
    exact Int32.le_antisymm (pu_nlt.mp h) (Int32.le_maxValue v)
theorem pg_rt_cong {cl : List pg_Cl} {g g' : Nat → Int32} {i : Nat} (y : Nat) (h : ∀ j, (j = 10 * i ∨ j = 10 * i + 1 ∨ j = 10 * i + 2 ∨ (10 * i + 6 ≤ j ∧ j ≤ 10 * i + 9) ∨ j = 62) → g' j = g j) : pg_rt cl g' i y = pg_rt cl g i y := by
  have e0 := h (10 * i) (by omega)
  have e1 := h (10 * i + 1) (by omega)
  have e2 := h (10 * i + 2) (by omega)
  have e62 := h 62 (by omega)
  have e6 := h (10 * i + (6 + y % 4)) (by have := Nat.mod_lt y (show 4 > 0 by decide); omega)
  have ef : pg_fa g' i y = pg_fa g i y := by
    unfold pg_fa
    rw [e0, e1, e2, e62]
  simp only [pg_rt, ef, e0, e1, e62, e6]
theorem SH_cong {cl : List pg_Cl} {g g' : Nat → Int32} {N i : Nat} (hN : N ≤ 6) (hi : i < N) (h : ∀ j, j < 63 → (∀ m, m < 6 → j ≠ 10 * m + 5) → g' j = g j) : SH cl g' N i = SH cl g N i := by
  unfold SH
  rw [h 61 (by decide) (by omega)]
  refine sh_cong _ hi (fun m hm _ => ?_) (fun m hm => ?_)
  · unfold pg_ro pg_y
    rw [h (10 * m + 3) (by omega) (by omega)]
    exact pg_rt_cong _ (fun j hj => h j (by omega) (by omega))
  · unfold pg_he
    rw [h (10 * m + 4) (by omega) (by omega)]
/-! the class -/
theorem pc_R_cong {cl : List pg_Cl} {g g' : Nat → Int32} {N : Nat} {m m' : Nat → Nat → Int32} (hm : m' 65 = m 65) (h : ∀ i, i < N → ∀ j, (j = 10 * i ∨ j = 10 * i + 1 ∨ j = 10 * i + 2 ∨ (10 * i + 6 ≤ j ∧ j ≤ 10 * i + 9) ∨ j = 62) → g' j = g j) (R : pc_R cl g N m) : pc_R cl g' N m' := by
  intro i y hi hy
  rw [hm, pg_rt_cong y (h i hi)]
  exact R i y hi hy
theorem rK_y {m : Nat → Nat → Int32} {b N M : Nat} {g : Nat → Int32} (K : rK m b g N M) {i : Nat} (hi : i < N) : pg_y g i ≤ 9 ∧ g (10 * i + 3) = nI (pg_y g i) ∧ m (b + 4) i = nI (pg_y g i) := by
  obtain ⟨k1, k2, k3, k4, k5, k6, k7, k8⟩ := K
  obtain ⟨c1, c2, c3, c4, c5, c6, c7, -, y, hy, c8⟩ := k6.1 i hi
  have e : pg_y g i = y := by unfold pg_y; rw [c8, pu_cl (by omega)]
  rw [e]
  exact ⟨hy, c8, c4.trans c8⟩
theorem pg_he_M {m : Nat → Nat → Int32} {b N M : Nat} {g : Nat → Int32} (K : rK m b g N M) {i : Nat} (hi : i < N) : pg_he g i = !M.testBit i := by
  obtain ⟨c1, c2, c3, c4, c5, -⟩ := K.2.2.2.2.2.1.1 i hi
  unfold pg_he
  rw [c5]
  cases M.testBit i
  · rw [pu_biF (by decide)]; rfl
  · rw [pu_biT rfl]; rfl
theorem pc_share {n b N M i B : Nat} {D : Int32} {g : Nat → Int32} {cl : List pg_Cl} {w : xw_M} (hn : 2000 ≤ n) (hb : b + 7 ≤ 58) (K : rK w.1 b g N M) (R : pc_R cl g N w.1) (hB : B < 64) (hi : i < N) : ∃ w', fX4_share n b (nI i) D (nI B) w = some (sh (pg_ro cl g) (fun m => !B.testBit m) N D i, w') ∧ (∀ k, k ≠ 67 → w'.1 k = w.1 k) ∧ w'.2 = w.2 := by
  have hN := K.1
  obtain ⟨w', e, f1, f2⟩ := pc_pays (n := n) (D := D) (P := fun m z => pg_rt cl g m z) (Y := pg_y g) hn hb hN K.2.2.1 (fun m hm => ⟨(rK_y K hm).1, (rK_y K hm).2.2⟩) (fun m z hm hz => R m z hm hz) hB hi (rK_y K hi).1
  refine ⟨w', ?_, f1, f2⟩
  unfold fX4_share
  rw [pu_at w (show i < 6 by omega) (by decide), pu_bp, (rK_y K hi).2.2, e, pu_b]
  congr 2
  refine sh_cong _ hi (fun m hm _ => ?_) (fun m hm => rfl)
  show pg_rt cl g m (if m = i then pg_y g i else pg_y g m) = pg_rt cl g m (pg_y g m)
  by_cases q : m = i
  · rw [if_pos q, q]
  · rw [if_neg q]
theorem pc_SH {m : Nat → Nat → Int32} {b N M i : Nat} {g : Nat → Int32} {cl : List pg_Cl} (K : rK m b g N M) (hi : i < N) : sh (pg_ro cl g) (fun m => !M.testBit m) N (g 61) i = SH cl g N i := by
  unfold SH
  exact sh_cong _ hi (fun m hm _ => rfl) (fun m hm => (pg_he_M K hm).symm)
theorem pc_worth {n b N M i y : Nat} {g : Nat → Int32} {cl : List pg_Cl} {w : xw_M} (hn : 2000 ≤ n) (hb : b + 7 ≤ 58) (K : rK w.1 b g N M) (R : pc_R cl g N w.1) (hi : i < N) (hy : y ≤ 9) : ∃ w', fX4_worth n b (nI i) (nI y) w = some (WO cl N g i y, w') ∧ (∀ k, k ≠ 67 → w'.1 k = w.1 k) ∧ w'.2 = w.2 := by
  have hN := K.1
  have hM := pu_M64 hN K.2.1
  have hbs := pu_bset2 N (by omega) M K.2.1 i hi
  obtain ⟨w', e, f1, f2⟩ := pc_pays (n := n) (D := g 61) (B := M &&& (63 - 2 ^ i)) (P := fun m z => pg_rt cl g m z) (Y := pg_y g) hn hb hN K.2.2.1 (fun m hm => ⟨(rK_y K hm).1, (rK_y K hm).2.2⟩) (fun m z hm hz => R m z hm hz) (Nat.lt_of_le_of_lt Nat.and_le_left hM) hi hy
  refine ⟨w', ?_, f1, f2⟩
  unfold fX4_worth
  rw [K.2.2.2.2.1, (pu_bset M hM i (by omega)).2, pu_lt, pu_at w (show i < 6 by omega) (by decide), pu_bp, (K.2.2.2.2.2.1.1 i hi).2.2.1, pu_lt, K.2.2.2.2.2.2.1, e, pu_b]
  unfold WO
  congr 3
  unfold SH
  rw [show pg_w1 g i y 61 = g 61 by unfold pg_w1; rw [pk_un (by omega), pk_un (by omega)]]
  refine sh_cong _ hi (fun m hm _ => ?_) (fun m hm => ?_)
  · show pg_rt cl g m (if m = i then y else pg_y g m) = pg_rt cl (pg_w1 g i y) m (pg_y (pg_w1 g i y) m)
    have e1 : pg_y (pg_w1 g i y) m = if m = i then y else pg_y g m := by
      unfold pg_y pg_w1
      rw [pk_un (by omega)]
      by_cases q : m = i
      · rw [if_pos q, q, pk_us, pu_cl (by omega)]
      · rw [if_neg q, pk_un (by omega)]
    rw [e1]
    refine (pg_rt_cong _ (fun j hj => ?_)).symm
    unfold pg_w1
    rw [pk_un (by omega), pk_un (by omega)]
  · show (!(M &&& (63 - 2 ^ i)).testBit m) = pg_he (pg_w1 g i y) m
    rw [(hbs.2.2 m (by omega)).2]
    unfold pg_he pg_w1
    by_cases q : m = i
    · rw [if_pos q, q, pk_us]; rfl
    · rw [if_neg q, pk_un (by omega), pk_un (by omega), ← pg_he_M K hm]; rfl
theorem pc_best {n b N M i : Nat} {g : Nat → Int32} {cl : List pg_Cl} {w : xw_M} (hn : 2000 ≤ n) (hb : b + 7 ≤ 58) (K : rK w.1 b g N M) (R : pc_R cl g N w.1) (hi : i < N) : ∃ w', fX4_best n b (nI i) w = some (nI (BE cl N g i), w') ∧ (∀ k, k ≠ 67 → w'.1 k = w.1 k) ∧ w'.2 = w.2 := by
  unfold fX4_best fX4_best_14
  obtain ⟨w1, e1, f1, f2⟩ := pc_worth (cl := cl) (y := 0) hn hb K R hi (by omega)
  rw [show (0 : Int32) = nI 0 from rfl, e1, pu_b]
  obtain ⟨⟨F, u⟩, e, hF, h1, h2⟩ : ∃ r : Int32 × xw_M, xw_it (fun z => fX4_best_b14 n b (nI i) z.1 z.2.1 z.2.2.1 z.2.2.2) n (nI 0, WO cl N g i 0, (1 : Int32), w1) = some r ∧ r.1 = nI (BE cl N g i) ∧ (∀ k, k ≠ 67 → r.2.1 k = w.1 k) ∧ r.2.2 = w.2 := by
    refine pu_inv (fun z => fX4_best_b14 n b (nI i) z.1 z.2.1 z.2.2.1 z.2.2.2) (fun k z => k ≤ 9 ∧ z.1 = nI (pg_bs cl N g i k).1 ∧ z.2.1 = (pg_bs cl N g i k).2 ∧ z.2.2.1 = nI (k + 1) ∧ (∀ q, q ≠ 67 → z.2.2.2.1 q = w.1 q) ∧ z.2.2.2.2 = w.2) 9 _ ?_ ?_ n 0 _ (by omega) (by omega) ⟨by omega, rfl, rfl, rfl, f1, f2⟩
    · rintro k ⟨x3, x4, x5, v⟩ hk ⟨-, rfl, rfl, rfl, a1, a2⟩
      have Kv : rK v.1 b g N M := rK_cong (fun q q1 q2 => a1 q (by omega)) K
      have Rv : pc_R cl g N v.1 := pc_R_cong (a1 65 (by decide)) (fun _ _ _ _ => rfl) R
      obtain ⟨v', e', g1, g2⟩ := pc_worth (cl := cl) (y := k + 1) hn hb Kv Rv hi (by omega)
      refine Or.inl ⟨(nI (pg_bs cl N g i (k + 1)).1, (pg_bs cl N g i (k + 1)).2, nI (k + 1 + 1), v'), ?_, by omega, rfl, rfl, rfl, fun q hq => (g1 q hq).trans (a1 q hq), g2.trans a2⟩
      show fX4_best_b14 n b (nI i) _ _ (nI (k + 1)) v = _
      unfold fX4_best_b14
      rw [if_neg (show ¬ (10 : Int32) ≤ nI (k + 1) from nI_ge (b := 10) (by omega) (by decide)), e', pu_b]
      unfold fX4_best_45
      rw [pu_lt, nI_1, pu_lt]
      have eb : pg_bs cl N g i (k + 1) = if WO cl N g i (k + 1) ≤ (pg_bs cl N g i k).2 then pg_bs cl N g i k else (k + 1, WO cl N g i (k + 1)) := rfl
      rw [eb]
      by_cases q : WO cl N g i (k + 1) ≤ (pg_bs cl N g i k).2
      · rw [if_pos q, if_pos q]
      · rw [if_neg q, if_neg q]
    · intro z hz
      refine ⟨(nI (BE cl N g i), z.2.2.2), ?_, rfl, hz.2.2.2.2.1, hz.2.2.2.2.2⟩
      have h3 := hz.2.2.2.1
      have h1 := hz.2.1
      show fX4_best_b14 n b (nI i) z.1 z.2.1 z.2.2.1 z.2.2.2 = _
      unfold fX4_best_b14
      rw [h3, if_pos (show (10 : Int32) ≤ nI (9 + 1) by decide), h1]
      rfl
  simp only [] at hF h1 h2
  subst hF
  exact ⟨u, by rw [e, pu_bp]; rfl, h1, h2⟩
theorem rK_ya {w : xw_M} {b N M i y : Nat} {g : Nat → Int32} (K : rK w.1 b g N M) (hi : i < N) (hy : y ≤ 9) : rK (xw_si w (b + 4) i (nI y)).1 b (upd g (10 * i + 3) (nI y)) N M := by
  obtain ⟨k1, k2, k3, k4, k5, k6, k7, k8⟩ := K
  unfold rK
  rw [pu_si1, pu_si0 _ _ _ (show b ≠ b + 4 by omega), pu_si0 _ _ _ (show b + 1 ≠ b + 4 by omega), pu_si0 _ _ _ (show b + 2 ≠ b + 4 by omega), pu_si0 _ _ _ (show b + 3 ≠ b + 4 by omega), pu_si0 _ _ _ (show b + 5 ≠ b + 4 by omega), pu_si0 _ _ _ (show b + 6 ≠ b + 4 by omega), pk_un (j := 60) (by omega), pk_un (j := 61) (by omega), pk_un (j := 62) (by omega)]
  exact ⟨k1, k2, k3, k4, k5, rM_ya hy k6 k1 hi, k7, k8⟩
theorem rK_pa {w : xw_M} {b N M i : Nat} {g : Nat → Int32} (K : rK w.1 b g N M) (hi : i < N) (v : Int32) : rK (xw_si w (b + 5) i v).1 b (upd g (10 * i + 5) v) N M := by
  obtain ⟨k1, k2, k3, k4, k5, k6, k7, k8⟩ := K
  unfold rK
  rw [pu_si1, pu_si0 _ _ _ (show b ≠ b + 5 by omega), pu_si0 _ _ _ (show b + 1 ≠ b + 5 by omega), pu_si0 _ _ _ (show b + 2 ≠ b + 5 by omega), pu_si0 _ _ _ (show b + 3 ≠ b + 5 by omega), pu_si0 _ _ _ (show b + 4 ≠ b + 5 by omega), pu_si0 _ _ _ (show b + 6 ≠ b + 5 by omega), pk_un (j := 60) (by omega), pk_un (j := 61) (by omega), pk_un (j := 62) (by omega)]
  exact ⟨k1, k2, k3, k4, k5, rM_pa v k6 k1 hi, k7, k8⟩
theorem rK_day {w : xw_M} {b N M : Nat} {g : Nat → Int32} (K : rK w.1 b g N M) (v : Int32) : rK (xw_si w b 9 v).1 b (upd g 62 v) N M := by
  obtain ⟨k1, k2, k3, k4, k5, k6, k7, k8⟩ := K
  unfold rK
  rw [pu_si1, pu_si0 _ _ _ (show b + 1 ≠ b by omega), pu_si0 _ _ _ (show b + 2 ≠ b by omega), pu_si0 _ _ _ (show b + 3 ≠ b by omega), pu_si0 _ _ _ (show b + 4 ≠ b by omega), pu_si0 _ _ _ (show b + 5 ≠ b by omega), pu_si0 _ _ _ (show b + 6 ≠ b by omega), pk_un (j := 60) (by omega), pk_un (j := 61) (by omega), pk_us, pk_un (j := 0) (by omega), pk_un (j := 7) (by omega), pk_un (j := 8) (by omega), pk_us]
  exact ⟨k1, k2, k3, k4, k5, rM_g k1 (fun j hj => pk_un (by omega)) k6, k7, rfl⟩
theorem pc_away {w : xw_M} {b N M i : Nat} {g : Nat → Int32} (K : rK w.1 b g N M) (hi : i < N) : fX5_isAway b (nI i) w = some (if g (10 * i + 4) = 0 then 0 else 1) := by
  have hN := K.1
  rw [pu_isAway hN K.2.1 K.2.2.2.2.1 (show i < 6 by omega)]
  obtain ⟨c1, c2, c3, c4, c5, -⟩ := K.2.2.2.2.2.1.1 i hi
  rw [c5]
  by_cases q : M.testBit i = true
  · rw [pu_biT q, if_neg (by decide)]
  · rw [pu_biF q, if_pos rfl]
theorem pg_mv_eq (cl : List pg_Cl) (N : Nat) (g : Nat → Int32) : ∀ k, k ≤ 6 → (∀ j, (∀ m, m < k → j ≠ 10 * m + 3) → (pg_mv cl N g k).1 j = g j) ∧ (pg_mv cl N g k).2 ≤ k := by
  intro k
  induction k with
  | zero => intro _; exact ⟨fun _ _ => rfl, Nat.le_refl _⟩
  | succ k ih =>
    intro hk
    obtain ⟨i1, i2⟩ := ih (by omega)
    show (∀ j, (∀ m, m < k + 1 → j ≠ 10 * m + 3) → (pg_m1 cl N k (pg_mv cl N g k)).1 j = g j) ∧ (pg_m1 cl N k (pg_mv cl N g k)).2 ≤ k + 1
    have old : (∀ j, (∀ m, m < k + 1 → j ≠ 10 * m + 3) → (pg_mv cl N g k).1 j = g j) ∧ (pg_mv cl N g k).2 ≤ k + 1 := ⟨fun j hj => i1 j (fun m hm => hj m (by omega)), by omega⟩
    unfold pg_m1
    by_cases a : (pg_mv cl N g k).1 (10 * k + 4) = 0
    · rw [if_pos a]
      by_cases c : WO cl N (pg_mv cl N g k).1 k (BE cl N (pg_mv cl N g k).1 k) ≤ WO cl N (pg_mv cl N g k).1 k (pg_y (pg_mv cl N g k).1 k)
      · rw [if_pos c]; exact old
      · rw [if_neg c]
        exact ⟨fun j hj => (pk_un (hj k (by omega))).trans (i1 j (fun m hm => hj m (by omega))), by show (pg_mv cl N g k).2 + 1 ≤ k + 1; omega⟩
    · rw [if_neg a]; exact old
theorem pg_py_eq (cl : List pg_Cl) (N : Nat) (mx : Int32) (g : Nat → Int32) : ∀ k j, (∀ m, m < k → j ≠ 10 * m + 5) → pg_py cl N mx g k j = g j := by
  intro k
  induction k with
  | zero => intro j _; rfl
  | succ k ih =>
    intro j hj
    show upd (pg_py cl N mx g k) (10 * k + 5) _ j = g j
    rw [pk_un (hj k (by omega))]
    exact ih j (fun m hm => hj m (by omega))
theorem pc_moves {n b p N M : Nat} {mx : Int32} {g : Nat → Int32} {cl : List pg_Cl} {w : xw_M} (hn : 2000 ≤ n) (hb : b + 7 ≤ 58) (K : rK w.1 b g N M) (R : pc_R cl g N w.1) : ∃ w', xw_it (fun z => fX4_goDay_b12 n b p mx z.1 z.2.1 z.2.2) n ((0 : Int32), (0 : Int32), w) = some (nI (pg_mv cl N g N).2, w') ∧ (∀ k, k ≠ b + 4 → k ≠ 67 → w'.1 k = w.1 k) ∧ w'.2 = w.2 ∧ rK w'.1 b (pg_mv cl N g N).1 N M ∧ pc_R cl (pg_mv cl N g N).1 N w'.1 := by
  have hN := K.1
  obtain ⟨⟨c, u⟩, e, rfl, h1, h2, h3, h4⟩ : ∃ r : Int32 × xw_M, xw_it (fun z => fX4_goDay_b12 n b p mx z.1 z.2.1 z.2.2) n ((0 : Int32), (0 : Int32), w) = some r ∧ r.1 = nI (pg_mv cl N g N).2 ∧ (∀ k, k ≠ b + 4 → k ≠ 67 → r.2.1 k = w.1 k) ∧ r.2.2 = w.2 ∧ rK r.2.1 b (pg_mv cl N g N).1 N M ∧ pc_R cl (pg_mv cl N g N).1 N r.2.1 := by
    refine pu_inv (fun z => fX4_goDay_b12 n b p mx z.1 z.2.1 z.2.2) (fun k z => k ≤ N ∧ z.1 = nI (pg_mv cl N g k).2 ∧ z.2.1 = nI k ∧ (∀ q, q ≠ b + 4 → q ≠ 67 → z.2.2.1 q = w.1 q) ∧ z.2.2.2 = w.2 ∧ rK z.2.2.1 b (pg_mv cl N g k).1 N M ∧ pc_R cl (pg_mv cl N g k).1 N z.2.2.1) N _ ?_ ?_ n 0 _ (by omega) (by omega) ⟨by omega, rfl, rfl, fun _ _ _ => rfl, rfl, K, R⟩
    · rintro k ⟨x4, x5, v⟩ hk ⟨-, rfl, rfl, a1, a2, Kv, Rv⟩
      have ek : pg_mv cl N g (k + 1) = pg_m1 cl N k (pg_mv cl N g k) := rfl
      generalize pg_mv cl N g k = r at Kv Rv ek
      obtain ⟨gk, c⟩ := r
      simp only [] at Kv Rv
      have hk6 : k < 6 := by omega
      obtain ⟨v1, e1, p1, p2⟩ := pc_best (cl := cl) hn hb Kv Rv hk
      have Kv1 : rK v1.1 b gk N M := rK_cong (fun q q1 q2 => p1 q (by omega)) Kv
      have Rv1 : pc_R cl gk N v1.1 := pc_R_cong (p1 65 (by decide)) (fun _ _ _ _ => rfl) Rv
      have hbe := pg_bs_le cl N gk k 9
      obtain ⟨v2, e2, r1, r2⟩ := pc_worth (cl := cl) (y := BE cl N gk k) hn hb Kv1 Rv1 hk hbe
      have Kv2 : rK v2.1 b gk N M := rK_cong (fun q q1 q2 => r1 q (by omega)) Kv1
      have Rv2 : pc_R cl gk N v2.1 := pc_R_cong (r1 65 (by decide)) (fun _ _ _ _ => rfl) Rv1
      obtain ⟨v3, e3, s1, s2⟩ := pc_worth (cl := cl) (y := pg_y gk k) hn hb Kv2 Rv2 hk (rK_y Kv hk).1
      have Kv3 : rK v3.1 b gk N M := rK_cong (fun q q1 q2 => s1 q (by omega)) Kv2
      have Rv3 : pc_R cl gk N v3.1 := pc_R_cong (s1 65 (by decide)) (fun _ _ _ _ => rfl) Rv2
      have e0 : fX4_goDay_b12 n b p mx (nI c) (nI k) v = if gk (10 * k + 4) = 0 then (if WO cl N gk k (BE cl N gk k) ≤ WO cl N gk k (pg_y gk k) then some (.inl (nI c, nI (k + 1), v3)) else some (.inl (nI (c + 1), nI (k + 1), xw_si v3 (b + 4) k (nI (BE cl N gk k))))) else some (.inl (nI c, nI (k + 1), v1)) := by
        unfold fX4_goDay_b12
        rw [Kv.2.2.1, if_neg (nI_ge hk (by omega)), pu_at v hk6 (by decide), pu_bp, (rK_y Kv hk).2.2, e1, pu_b, pc_away Kv1 hk, pu_bp]
        unfold fX4_goDay_85
        by_cases q : gk (10 * k + 4) = 0
        · rw [if_pos q, if_pos rfl, if_pos q, e2, pu_b, e3, pu_b]
          by_cases q2 : WO cl N gk k (BE cl N gk k) ≤ WO cl N gk k (pg_y gk k)
          · rw [if_pos q2, if_pos q2, pu_lt, nI_1]
          · rw [if_neg q2, if_neg q2, pu_put _ _ hk6 (by decide), pu_b, pu_lt, pu_lt, nI_1, nI_1]
        · rw [if_neg q, if_neg (by decide), if_neg q, pu_lt, nI_1]
      unfold pg_m1 at ek
      simp only [] at ek
      by_cases q : gk (10 * k + 4) = 0
      · rw [if_pos q] at e0 ek
        by_cases q2 : WO cl N gk k (BE cl N gk k) ≤ WO cl N gk k (pg_y gk k)
        · rw [if_pos q2] at e0 ek
          exact Or.inl ⟨_, e0, by omega, by rw [ek], rfl, fun q z1 z2 => (s1 q z2).trans ((r1 q z2).trans ((p1 q z2).trans (a1 q z1 z2))), s2.trans (r2.trans (p2.trans a2)), by rw [ek]; exact Kv3, by rw [ek]; exact Rv3⟩
        · rw [if_neg q2] at e0 ek
          refine Or.inl ⟨_, e0, by omega, by rw [ek], rfl, fun q z1 z2 => ?_, s2.trans (r2.trans (p2.trans a2)), by rw [ek]; exact rK_ya Kv3 hk hbe, ?_⟩
          · show (xw_si v3 (b + 4) k _).1 q = _
            rw [pu_si0 _ _ _ z1]
            exact (s1 q z2).trans ((r1 q z2).trans ((p1 q z2).trans (a1 q z1 z2)))
          · rw [ek]
            refine pc_R_cong (pu_si0 _ _ _ (by omega)) (fun i hi j hj => ?_) Rv3
            exact pk_un (by omega)
      · rw [if_neg q] at e0 ek
        exact Or.inl ⟨_, e0, by omega, by rw [ek], rfl, fun q z1 z2 => (p1 q z2).trans (a1 q z1 z2), p2.trans a2, by rw [ek]; exact Kv1, by rw [ek]; exact Rv1⟩
    · rintro ⟨x4, x5, v⟩ ⟨-, rfl, rfl, a1, a2, Kv, Rv⟩
      refine ⟨(nI (pg_mv cl N g N).2, v), ?_, rfl, a1, a2, Kv, Rv⟩
      show fX4_goDay_b12 n b p mx (nI (pg_mv cl N g N).2) (nI N) v = _
      unfold fX4_goDay_b12
      rw [Kv.2.2.1, if_pos (nI_le (Nat.le_refl _) (by omega))]
  exact ⟨u, e, h1, h2, h3, h4⟩
theorem pc_pay {n b p N M : Nat} {mx x4 : Int32} {g : Nat → Int32} {cl : List pg_Cl} {w : xw_M} (hn : 2000 ≤ n) (hb : b + 7 ≤ 58) (K : rK w.1 b g N M) (R : pc_R cl g N w.1) : ∃ w', xw_it (fun z => fX4_goDay_b94 n b p mx x4 z.1 z.2) n ((0 : Int32), w) = some w' ∧ (∀ k, k ≠ b + 5 → k ≠ 67 → w'.1 k = w.1 k) ∧ w'.2 = w.2 ∧ rK w'.1 b (pg_py cl N mx g N) N M := by
  have hN := K.1
  refine pu_inv (fun z => fX4_goDay_b94 n b p mx x4 z.1 z.2) (fun k z => k ≤ N ∧ z.1 = nI k ∧ (∀ q, q ≠ b + 5 → q ≠ 67 → z.2.1 q = w.1 q) ∧ z.2.2 = w.2 ∧ rK z.2.1 b (pg_py cl N mx g k) N M) N _ ?_ ?_ n 0 _ (by omega) (by omega) ⟨by omega, rfl, fun _ _ _ => rfl, rfl, K⟩
  · rintro k ⟨x5, v⟩ hk ⟨-, rfl, a1, a2, Kv⟩
    have hk6 : k < 6 := by omega
    have sim : ∀ j, j < 63 → (∀ m, m < 6 → j ≠ 10 * m + 5) → pg_py cl N mx g k j = g j := fun j _ hj => pg_py_eq cl N mx g k j (fun m hm => hj m (by omega))
    have Rv : pc_R cl (pg_py cl N mx g k) N v.1 := pc_R_cong (a1 65 (by omega) (by decide)) (fun i hi j hj => sim j (by omega) (by omega)) R
    obtain ⟨v1, e1, p1, p2⟩ := pc_share (D := pg_py cl N mx g k 61) hn hb Kv Rv (pu_M64 hN Kv.2.1) hk
    rw [pc_SH Kv hk, SH_cong hN hk sim] at e1
    have Kv1 : rK v1.1 b (pg_py cl N mx g k) N M := rK_cong (fun q q1 q2 => p1 q (by omega)) Kv
    refine Or.inl ⟨(nI (k + 1), xw_si v1 (b + 5) k (pg_cp mx (pg_py cl N mx g k (10 * k + 5) + SH cl g N k))), ?_, by omega, rfl, fun q q1 q2 => ?_, p2.trans a2, rK_pa Kv1 hk _⟩
    · show fX4_goDay_b94 n b p mx x4 (nI k) v = _
      unfold fX4_goDay_b94
      rw [Kv.2.2.1, if_neg (nI_ge hk (by omega)), pu_at v hk6 (by decide), pu_bp, (Kv.2.2.2.2.2.1.1 k hk).2.2.2.2.2.1, Kv.2.2.2.2.2.2.1, Kv.2.2.2.2.1, e1, pu_b, pu_lt, pu_put _ _ hk6 (by decide), pu_b, pu_lt, nI_1]
      rfl
    · show (xw_si v1 (b + 5) k _).1 q = _
      rw [pu_si0 _ _ _ q1]
      exact (p1 q q2).trans (a1 q q1 q2)
  · rintro ⟨x5, v⟩ ⟨-, rfl, a1, a2, Kv⟩
    refine ⟨v, ?_, a1, a2, Kv⟩
    show fX4_goDay_b94 n b p mx x4 (nI N) v = _
    unfold fX4_goDay_b94
    rw [Kv.2.2.1, if_pos (nI_le (Nat.le_refl _) (by omega))]
/-- a day, for the class -/
theorem pc_goDay {n b p N M : Nat} (mx : Int32) {g : Nat → Int32} {cl : List pg_Cl} {w : xw_M} (hn : 2000 ≤ n) (hb : b + 7 ≤ 58) (hp : p = 58 ∨ 71 ≤ p) (ho : pc_ok cl) (hA : rA w.1 p cl) (K : rK w.1 b g N M) : ∃ w', fX4_goDay n b p mx w = some (nI (pg_mv cl N g N).2, w') ∧ (∀ k, k ≠ b → k ≠ b + 4 → k ≠ b + 5 → k ≠ 65 → k ≠ 66 → k ≠ 67 → w'.1 k = w.1 k) ∧ w'.2 = w.2 ∧ (∀ j, j ≠ 9 → w'.1 b j = w.1 b j) ∧ rK w'.1 b (DY cl N mx g) N M := by
  obtain ⟨w1, e1, f1, f2, R1⟩ := pc_look hn hb hp ho hA K
  have K1 : rK w1.1 b g N M := rK_cong (fun q q1 q2 => f1 q (by omega) (by omega)) K
  obtain ⟨w2, e2, g1, g2, K2, R2⟩ := pc_moves (p := p) (mx := mx) hn hb K1 R1
  obtain ⟨w3, e3, h1, h2, K3⟩ := pc_pay (p := p) (mx := mx) (x4 := nI (pg_mv cl N g N).2) hn hb K2 R2
  refine ⟨xw_si w3 b 9 (pg_py cl N mx (pg_mv cl N g N).1 N 62 + 1), ?_, fun k k1 k2 k3 k4 k5 k6 => ?_, h2.trans (g2.trans f2), fun j hj => ?_, rK_day K3 _⟩
  · unfold fX4_goDay fX4_goDay_12
    rw [e1, pu_b, e2, pu_bp]
    show fX4_goDay_91 n b p mx _ w2 = _
    unfold fX4_goDay_91 fX4_goDay_94
    rw [e3, pu_bp]
    show fX4_goDay_151 n b p mx _ w3 = _
    unfold fX4_goDay_151
    rw [K3.2.2.2.2.2.2.2, pu_lt]
  · rw [pu_si0 _ _ _ k1, h1 k k3 k6, g1 k k2 k6, f1 k k4 k5]
  · rw [pu_si1, pk_un hj, h1 b (by omega) (by omega), g1 b (by omega) (by omega), f1 b (by omega) (by omega)]
/-! the reference -/
def pm_X (cl : List pg_Cl) (N : Nat) (w : xw_M) : Prop := pm_D w ∧ rH w.1 (w.1 120) cl ∧ N ≤ 6 ∧ w.1 120 60 = nI N ∧ ∀ m, m < N → ∃ y, y ≤ 9 ∧ w.1 120 (10 * m + 3) = nI y
def pm_Fg (w w' : xw_M) : Prop := (∀ k, k ≠ 119 → k ≠ 120 → k ≠ 126 → k ≠ 127 → k ≠ 131 → k ≠ 132 → w'.1 k = w.1 k) ∧ w'.2 = w.2 ∧ ∀ j, (j < 10 ∨ 15 < j) → w'.1 119 j = w.1 119 j
theorem pm_Fg_of {a b : xw_M} (h : pm_Fs a b) : pm_Fg a b := ⟨fun k h1 _ h2 h3 h4 h5 => h.1 k h1 h2 h3 h4 h5, h.2.1, h.2.2⟩
theorem pm_Fg_tr {a b c : xw_M} (h : pm_Fg a b) (g : pm_Fg b c) : pm_Fg a c := ⟨fun k h1 h2 h3 h4 h5 h6 => (g.1 k h1 h2 h3 h4 h5 h6).trans (h.1 k h1 h2 h3 h4 h5 h6), g.2.1.trans h.2.1, fun j hj => (g.2.2 j hj).trans (h.2.2 j hj)⟩
theorem pm_Fg_rf (a : xw_M) : pm_Fg a a := ⟨fun _ _ _ _ _ _ _ => rfl, rfl, fun _ _ => rfl⟩
theorem pm_Fg_si (w : xw_M) (j : Nat) (v : Int32) : pm_Fg w (xw_si w 120 j v) := ⟨fun k _ h _ _ _ _ => pu_si0 w j v h, rfl, fun i _ => by rw [pu_si0 w j v (by decide)]⟩
theorem pm_Fs_120 {a b : xw_M} (h : pm_Fs a b) : b.1 120 = a.1 120 := h.1 120 (by decide) (by decide) (by decide) (by decide) (by decide)
theorem pm_X_fg {cl : List pg_Cl} {N : Nat} {w w' : xw_M} (X : pm_X cl N w) (f : pm_Fg w w') (h60 : w'.1 120 60 = w.1 120 60) (h63 : w'.1 120 63 = w.1 120 63) (hy : ∀ m, m < N → ∃ y, y ≤ 9 ∧ w'.1 120 (10 * m + 3) = nI y) : pm_X cl N w' := by
  refine ⟨?_, rH_cong (f.1 124 (by decide) (by decide) (by decide) (by decide) (by decide) (by decide)) (f.1 125 (by decide) (by decide) (by decide) (by decide) (by decide) (by decide)) h63 X.2.1, X.2.2.1, h60.trans X.2.2.2.1, hy⟩
  unfold pm_D
  rw [f.1 128 (by decide) (by decide) (by decide) (by decide) (by decide) (by decide), f.1 129 (by decide) (by decide) (by decide) (by decide) (by decide) (by decide), f.1 130 (by decide) (by decide) (by decide) (by decide) (by decide) (by decide)]
  exact X.1
theorem pm_X_fs {cl : List pg_Cl} {N : Nat} {w w' : xw_M} (X : pm_X cl N w) (f : pm_Fs w w') : pm_X cl N w' :=
  pm_X_fg X (pm_Fg_of f) (by rw [pm_Fs_120 f]) (by rw [pm_Fs_120 f]) (fun m hm => by rw [pm_Fs_120 f]; exact X.2.2.2.2 m hm)
theorem pu_ch3 {i : Nat} (hi : i < 6) (v : Int32) (u : xw_M) : fX8_change (nI i) (3 : Int32) v u = some (u.1 120 (10 * i + 3), xw_si u 120 (10 * i + 3) v) := pu_change (j := 3) v u (by omega)
theorem pu_ch4 {i : Nat} (hi : i < 6) (v : Int32) (u : xw_M) : fX8_change (nI i) (4 : Int32) v u = some (u.1 120 (10 * i + 4), xw_si u 120 (10 * i + 4) v) := pu_change (j := 4) v u (by omega)
theorem pu_ch5 {i : Nat} (hi : i < 6) (v : Int32) (u : xw_M) : fX8_change (nI i) (5 : Int32) v u = some (u.1 120 (10 * i + 5), xw_si u 120 (10 * i + 5) v) := pu_change (j := 5) v u (by omega)
theorem pu_ch1 {i : Nat} (hi : i < 6) (v : Int32) (u : xw_M) : fX8_change (nI i) (1 : Int32) v u = some (u.1 120 (10 * i + 1), xw_si u 120 (10 * i + 1) v) := pu_change (j := 1) v u (by omega)
theorem pm_worth {w : xw_M} {cl : List pg_Cl} {N n i y : Nat} (X : pm_X cl N w) (hn : 2000 ≤ n) (hi : i < N) (hy : y ≤ 9) : ∃ w', fX8_worth n (nI i) (nI y) w = some (WO cl N (w.1 120) i y, w') ∧ pm_Fs w w' := by
  have hN := X.2.2.1
  have hi6 : i < 6 := by omega
  obtain ⟨w5, h5⟩ : ∃ u, u = xw_si (xw_si w 120 (10 * i + 3) (nI y)) 120 (10 * i + 4) 0 := ⟨_, rfl⟩
  have f5 : pm_Fg w w5 := by rw [h5]; exact pm_Fg_tr (pm_Fg_si _ _ _) (pm_Fg_si _ _ _)
  have g5 : w5.1 120 = pg_w1 (w.1 120) i y := by rw [h5, pu_si1, pu_si1]; rfl
  have X5 : pm_X cl N w5 := by
    refine pm_X_fg X f5 ?_ ?_ (fun m hm => ?_)
    · rw [g5]; unfold pg_w1; rw [pk_un (by omega), pk_un (by omega)]
    · rw [g5]; unfold pg_w1; rw [pk_un (by omega), pk_un (by omega)]
    · rw [g5]
      unfold pg_w1
      rw [pk_un (by omega)]
      by_cases q : m = i
      · rw [q, pk_us]; exact ⟨y, hy, rfl⟩
      · rw [pk_un (by omega)]; exact X.2.2.2.2 m hm
  obtain ⟨w8, e8, f8, s8⟩ := pm_share X5.1 X5.2.1 hn hN X5.2.2.2.1 X5.2.2.2.2
  obtain ⟨w14, h14⟩ : ∃ u, u = xw_si (xw_si w8 120 (10 * i + 3) (w.1 120 (10 * i + 3))) 120 (10 * i + 4) (w.1 120 (10 * i + 4)) := ⟨_, rfl⟩
  have g14 : w14.1 120 = w.1 120 := by
    rw [h14, pu_si1, pu_si1, pm_Fs_120 f8, g5]
    funext j
    unfold pg_w1
    by_cases a : j = 10 * i + 4
    · rw [a, pk_us]
    · rw [pk_un a]
      by_cases c : j = 10 * i + 3
      · rw [c, pk_us]
      · rw [pk_un c, pk_un a, pk_un c]
  refine ⟨w14, ?_, ?_⟩
  · unfold fX8_worth
    rw [pu_ch3 hi6, pu_b, pu_ch4 hi6, pu_b, ← h5, e8, pu_b, pu_ch3 hi6, pu_b, pu_ch4 hi6, pu_b, pu_si1, pk_un (show 10 * i + 4 ≠ 10 * i + 3 by omega), ← h14, pu_o2 hi6, pu_bp, pu_ck hi6 (by decide), pu_cl (by omega), g14]
    have : w14.1 132 i = SH cl (pg_w1 (w.1 120) i y) N i := by
      rw [h14, pu_si0 _ _ _ (by decide), pu_si0 _ _ _ (by decide), s8 i hi, g5]
    rw [this]
    rfl
  · have fg : pm_Fg w w14 := by rw [h14]; exact pm_Fg_tr f5 (pm_Fg_tr (pm_Fg_of f8) (pm_Fg_tr (pm_Fg_si _ _ _) (pm_Fg_si _ _ _)))
    refine ⟨fun k h1 h2 h3 h4 h5 => ?_, fg.2.1, fg.2.2⟩
    by_cases q : k = 120
    · rw [q, g14]
    · exact fg.1 k h1 q h2 h3 h4 h5
theorem pm_best {w : xw_M} {cl : List pg_Cl} {N n i : Nat} (X : pm_X cl N w) (hn : 2000 ≤ n) (hi : i < N) : ∃ w', fX8_best n (nI i) w = some (nI (BE cl N (w.1 120) i), w') ∧ pm_Fs w w' := by
  unfold fX8_best fX8_best_12
  obtain ⟨w1, e1, f1⟩ := pm_worth (y := 0) X hn hi (by omega)
  rw [show (0 : Int32) = nI 0 from rfl, e1, pu_b]
  obtain ⟨⟨F, u⟩, e, rfl, h1⟩ : ∃ r : Int32 × xw_M, xw_it (fun z => fX8_best_b12 n (nI i) z.1 z.2.1 z.2.2.1 z.2.2.2) n (nI 0, WO cl N (w.1 120) i 0, (1 : Int32), w1) = some r ∧ r.1 = nI (BE cl N (w.1 120) i) ∧ pm_Fs w r.2 := by
    refine pu_inv (fun z => fX8_best_b12 n (nI i) z.1 z.2.1 z.2.2.1 z.2.2.2) (fun k z => k ≤ 9 ∧ z.1 = nI (pg_bs cl N (w.1 120) i k).1 ∧ z.2.1 = (pg_bs cl N (w.1 120) i k).2 ∧ z.2.2.1 = nI (k + 1) ∧ pm_Fs w z.2.2.2) 9 _ ?_ ?_ n 0 _ (by omega) (by omega) ⟨by omega, rfl, rfl, rfl, f1⟩
    · rintro k ⟨x3, x4, x5, v⟩ hk ⟨-, rfl, rfl, rfl, a1⟩
      obtain ⟨v', e', g1⟩ := pm_worth (y := k + 1) (pm_X_fs X a1) hn hi (by omega)
      rw [pm_Fs_120 a1] at e'
      refine Or.inl ⟨(nI (pg_bs cl N (w.1 120) i (k + 1)).1, (pg_bs cl N (w.1 120) i (k + 1)).2, nI (k + 1 + 1), v'), ?_, by omega, rfl, rfl, rfl, pm_Fs_tr a1 g1⟩
      show fX8_best_b12 n (nI i) _ _ (nI (k + 1)) v = _
      unfold fX8_best_b12
      rw [if_neg (show ¬ (10 : Int32) ≤ nI (k + 1) from nI_ge (b := 10) (by omega) (by decide)), e', pu_b]
      unfold fX8_best_40
      simp only [pu_lt, nI_1]
      have eb : pg_bs cl N (w.1 120) i (k + 1) = if WO cl N (w.1 120) i (k + 1) ≤ (pg_bs cl N (w.1 120) i k).2 then pg_bs cl N (w.1 120) i k else (k + 1, WO cl N (w.1 120) i (k + 1)) := rfl
      rw [eb]
      by_cases q : WO cl N (w.1 120) i (k + 1) ≤ (pg_bs cl N (w.1 120) i k).2
      · rw [if_pos q, if_pos q]
        by_cases q2 : WO cl N (w.1 120) i (k + 1) < (pg_bs cl N (w.1 120) i k).2
        · rw [if_pos q2]
        · rw [if_neg q2, Int32.le_antisymm q (pu_nlt.mp q2)]
      · rw [if_neg q, if_neg q, if_neg (fun z => q (Int32.le_of_lt z))]
    · intro z hz
      refine ⟨(nI (BE cl N (w.1 120) i), z.2.2.2), ?_, rfl, hz.2.2.2.2⟩
      have h3 := hz.2.2.2.1
      have h1 := hz.2.1
      show fX8_best_b12 n (nI i) z.1 z.2.1 z.2.2.1 z.2.2.2 = _
      unfold fX8_best_b12
      rw [h3, if_pos (show (10 : Int32) ≤ nI (9 + 1) by decide), h1]
      rfl
  exact ⟨u, by rw [e, pu_bp]; rfl, h1⟩
theorem pm_moves {w : xw_M} {cl : List pg_Cl} {N n : Nat} (X : pm_X cl N w) (hn : 2000 ≤ n) : ∃ w', fX8_moves n w = some (nI (pg_mv cl N (w.1 120) N).2, w') ∧ pm_Fg w w' ∧ w'.1 120 = (pg_mv cl N (w.1 120) N).1 ∧ pm_X cl N w' := by
  have hN := X.2.2.1
  unfold fX8_moves fX8_moves_4
  obtain ⟨⟨F, u⟩, e, rfl, h1, h2, h3⟩ : ∃ r : Int32 × xw_M, xw_it (fun z => fX8_moves_b4 n z.1 z.2.1 z.2.2) n ((0 : Int32), (0 : Int32), w) = some r ∧ r.1 = nI (pg_mv cl N (w.1 120) N).2 ∧ pm_Fg w r.2 ∧ r.2.1 120 = (pg_mv cl N (w.1 120) N).1 ∧ pm_X cl N r.2 := by
    refine pu_inv (fun z => fX8_moves_b4 n z.1 z.2.1 z.2.2) (fun k z => k ≤ N ∧ z.1 = nI (pg_mv cl N (w.1 120) k).2 ∧ z.2.1 = nI k ∧ pm_Fg w z.2.2 ∧ z.2.2.1 120 = (pg_mv cl N (w.1 120) k).1 ∧ pm_X cl N z.2.2) N _ ?_ ?_ n 0 _ (by omega) (by omega) ⟨by omega, rfl, rfl, pm_Fg_rf w, rfl, X⟩
    · rintro k ⟨x1, x2, v⟩ hk ⟨-, rfl, rfl, a1, a2, Xv⟩
      have hk6 : k < 6 := by omega
      have ek : pg_mv cl N (w.1 120) (k + 1) = pg_m1 cl N k (pg_mv cl N (w.1 120) k) := rfl
      generalize pg_mv cl N (w.1 120) k = r at a2 ek
      obtain ⟨gk, c⟩ := r
      simp only [] at a2
      obtain ⟨v1, e1, p1⟩ := pm_best Xv hn hk
      have X1 := pm_X_fs Xv p1
      have g1 := pm_Fs_120 p1
      have hbe := pg_bs_le cl N gk k 9
      rw [a2] at e1 g1
      obtain ⟨v2, e2, p2⟩ := pm_worth (y := BE cl N gk k) X1 hn hk hbe
      have X2 := pm_X_fs X1 p2
      have g2 := pm_Fs_120 p2
      rw [g1] at e2 g2
      obtain ⟨y, hy, hyy⟩ := Xv.2.2.2.2 k hk
      have hyg : pg_y gk k = y := by unfold pg_y; rw [← a2, hyy, pu_cl (by omega)]
      obtain ⟨v3, e3, p3⟩ := pm_worth (y := y) X2 hn hk hy
      have X3 := pm_X_fs X2 p3
      have g3 := pm_Fs_120 p3
      rw [g2] at e3 g3
      have e0 : fX8_moves_b4 n (nI c) (nI k) v = if gk (10 * k + 4) = 0 then (if WO cl N gk k (BE cl N gk k) ≤ WO cl N gk k (pg_y gk k) then some (.inl (nI c, nI (k + 1), v3)) else some (.inl (nI (c + 1), nI (k + 1), xw_si v3 120 (10 * k + 3) (nI (BE cl N gk k))))) else some (.inl (nI c, nI (k + 1), v)) := by
        unfold fX8_moves_b4
        rw [pu_n60, pu_c60, Xv.2.2.2.1, if_neg (nI_ge hk (by omega)), pm_isHere hk6, pu_bp, a2]
        unfold fX8_moves_60
        by_cases q : gk (10 * k + 4) = 0
        · rw [if_pos q, if_neg (by decide), if_pos q, e1, pu_b, e2, pu_b, pu_o3 hk6, pu_bp, g2, show gk (10 * k + 3) = nI y by rw [← a2]; exact hyy, e3, pu_b, hyg]
          by_cases q2 : WO cl N gk k (BE cl N gk k) ≤ WO cl N gk k y
          · rw [if_pos q2, if_pos q2, pu_lt, nI_1]
          · rw [if_neg q2, if_neg q2, pu_ch3 hk6, pu_b, pu_lt, pu_lt, nI_1, nI_1]
        · rw [if_neg q, if_pos rfl, if_neg q, pu_lt, nI_1]
      unfold pg_m1 at ek
      simp only [] at ek
      by_cases q : gk (10 * k + 4) = 0
      · rw [if_pos q] at e0 ek
        have f3 : pm_Fg w v3 := pm_Fg_tr a1 (pm_Fg_of (pm_Fs_tr p1 (pm_Fs_tr p2 p3)))
        by_cases q2 : WO cl N gk k (BE cl N gk k) ≤ WO cl N gk k (pg_y gk k)
        · rw [if_pos q2] at e0 ek
          exact Or.inl ⟨_, e0, by omega, by rw [ek], rfl, f3, by rw [ek]; exact g3, X3⟩
        · rw [if_neg q2] at e0 ek
          refine Or.inl ⟨_, e0, by omega, by rw [ek], rfl, pm_Fg_tr f3 (pm_Fg_si _ _ _), ?_, ?_⟩
          · rw [ek]
            show (xw_si v3 120 _ _).1 120 = _
            rw [pu_si1, g3]
          · refine pm_X_fg X3 (pm_Fg_si _ _ _) ?_ ?_ (fun m hm => ?_)
            · rw [pu_si1, pk_un (by omega)]
            · rw [pu_si1, pk_un (by omega)]
            · rw [pu_si1]
              by_cases z : m = k
              · rw [z, pk_us]; exact ⟨_, hbe, rfl⟩
              · rw [pk_un (by omega)]; exact X3.2.2.2.2 m hm
      · rw [if_neg q] at e0 ek
        exact Or.inl ⟨_, e0, by omega, by rw [ek], rfl, a1, by rw [ek]; exact a2, Xv⟩
    · rintro ⟨x1, x2, v⟩ ⟨-, rfl, rfl, a1, a2, Xv⟩
      refine ⟨(nI (pg_mv cl N (w.1 120) N).2, v), ?_, rfl, a1, a2, Xv⟩
      show fX8_moves_b4 n (nI (pg_mv cl N (w.1 120) N).2) (nI N) v = _
      unfold fX8_moves_b4
      rw [pu_n60, pu_c60, Xv.2.2.2.1, if_pos (nI_le (Nat.le_refl _) (by omega))]
  exact ⟨u, by rw [e, pu_bp]; rfl, h1, h2, h3⟩
/-- a day, for the reference -/
theorem pm_day {w : xw_M} {cl : List pg_Cl} {N n : Nat} (X : pm_X cl N w) (hn : 2000 ≤ n) (a mx : Int32) (ha : (a = 0 ∧ mx = 2147483647) ∨ (a = 1 ∧ mx = 999999)) : ∃ w', fX8_day n a w = some (nI (pg_mv cl N (w.1 120) N).2, w') ∧ pm_Fg w w' ∧ w'.1 120 = DY cl N mx (w.1 120) ∧ pm_X cl N w' := by
  have hN := X.2.2.1
  obtain ⟨w1, e1, f1, g1, X1⟩ := pm_moves X hn
  obtain ⟨w2, e2, f2, s2⟩ := pm_share X1.1 X1.2.1 hn hN X1.2.2.2.1 X1.2.2.2.2
  have X2 := pm_X_fs X1 f2
  rw [g1] at s2
  obtain ⟨w3, e3, f3, g3⟩ : ∃ r : xw_M, xw_it (fun z => fX8_day_b11 n a (nI (pg_mv cl N (w.1 120) N).2) z.1 z.2) n ((0 : Int32), w2) = some r ∧ pm_Fg w r ∧ r.1 120 = pg_py cl N mx (pg_mv cl N (w.1 120) N).1 N := by
    refine pu_inv (fun z => fX8_day_b11 n a (nI (pg_mv cl N (w.1 120) N).2) z.1 z.2) (fun k z => k ≤ N ∧ z.1 = nI k ∧ pm_Fg w z.2 ∧ z.2.1 120 = pg_py cl N mx (pg_mv cl N (w.1 120) N).1 k ∧ z.2.1 132 = w2.1 132) N _ ?_ ?_ n 0 _ (by omega) (by omega) ⟨by omega, rfl, pm_Fg_tr f1 (pm_Fg_of f2), by show w2.1 120 = _; rw [pm_Fs_120 f2, g1]; rfl, rfl⟩
    · rintro k ⟨x3, v⟩ hk ⟨-, rfl, a1, a2, a3⟩
      have hk6 : k < 6 := by omega
      have h60 : v.1 120 60 = nI N := by
        rw [a2, pg_py_eq _ _ _ _ _ _ (by omega), ← g1, X1.2.2.2.1]
      refine Or.inl ⟨(nI (k + 1), xw_si v 120 (10 * k + 5) (pg_cp mx (v.1 120 (10 * k + 5) + w2.1 132 k))), ?_, by omega, rfl, pm_Fg_tr a1 (pm_Fg_si _ _ _), ?_, ?_⟩
      · show fX8_day_b11 n a _ (nI k) v = _
        unfold fX8_day_b11
        rw [pu_n60, pu_c60, h60, if_neg (nI_ge hk (by omega)), pu_o5 hk6, pu_bp, pu_ck hk6 (by decide), pu_cl (by omega), pu_lt, a3]
        unfold fX8_day_56
        rw [pu_ch5 hk6, pu_ch5 hk6, pu_b, pu_b, pu_lt, pu_lt, nI_1]
        rcases ha with ⟨rfl, rfl⟩ | ⟨rfl, rfl⟩
        · rw [if_pos rfl, pg_cp_max]
        · rw [if_neg (by decide)]; rfl
      · show (xw_si v 120 _ _).1 120 = _
        rw [pu_si1, a2, s2 k hk]
        rfl
      · show (xw_si v 120 _ _).1 132 = _
        rw [pu_si0 _ _ _ (by decide)]; exact a3
    · rintro ⟨x3, v⟩ ⟨-, rfl, a1, a2, a3⟩
      refine ⟨v, ?_, a1, a2⟩
      show fX8_day_b11 n a _ (nI N) v = _
      unfold fX8_day_b11
      have h60 : v.1 120 60 = nI N := by
        rw [a2, pg_py_eq _ _ _ _ _ _ (by omega), ← g1, X1.2.2.2.1]
      rw [pu_n60, pu_c60, h60, if_pos (nI_le (Nat.le_refl _) (by omega))]
  have gf : (xw_si w3 120 62 (w3.1 120 62 + 1)).1 120 = DY cl N mx (w.1 120) := by
    rw [pu_si1, g3]
    rfl
  refine ⟨xw_si w3 120 62 (w3.1 120 62 + 1), ?_, pm_Fg_tr f3 (pm_Fg_si _ _ _), gf, ?_⟩
  · unfold fX8_day fX8_day_11
    rw [e1, pu_b, e2, pu_b, e3, pu_bp]
    show fX8_day_66 n a _ w3 = _
    unfold fX8_day_66
    rw [pu_n62, pu_n62, pu_c62, pu_lt]
  · have py : ∀ j, (∀ m, m < N → j ≠ 10 * m + 5) → w3.1 120 j = w1.1 120 j := fun j hj => by rw [g3, pg_py_eq _ _ _ _ _ _ hj, g1]
    have mv : ∀ j, (∀ m, m < N → j ≠ 10 * m + 3) → w1.1 120 j = w.1 120 j := fun j hj => by rw [g1]; exact (pg_mv_eq cl N (w.1 120) N hN).1 j hj
    refine pm_X_fg X (pm_Fg_tr f3 (pm_Fg_si _ _ _)) ?_ ?_ (fun m hm => ?_)
    · rw [pu_si1, pk_un (by omega), py 60 (by omega), mv 60 (by omega)]
    · rw [pu_si1, pk_un (by omega), py 63 (by omega), mv 63 (by omega)]
    · rw [pu_si1, pk_un (by omega), py _ (by omega)]
      exact X1.2.2.2.2 m hm
