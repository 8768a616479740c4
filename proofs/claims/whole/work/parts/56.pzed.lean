/-! ===== from the relation to what one reckons with ===== -/
def pu_Z (w : xw_M) (p N M : Nat) (cl : List pg_Cl) : Prop := rK w.1 1 (w.1 120) N M ∧ (∀ u : xw_M, u.1 1 10 = w.1 1 10 → fX7_held u = some (some p)) ∧ xw_pa p ∧ (p = 58 ∨ 71 ≤ p) ∧ p ≤ 101 ∧ pc_ok cl ∧ rA w.1 p cl ∧ pm_X cl N w
theorem pm_D0 : pm_D xn_m0 := by
  refine ⟨?_, ?_, ?_⟩ <;> decide +kernel
theorem rK_of {m : Nat → Nat → Int32} {b : Nat} {g : Nat → Int32} {R : Nat} (h : rS m b g R) : ∃ N M, rK m b g N M := by
  obtain ⟨N, M, b1, b2, b3, b4, b5, bM, bD, -⟩ := h
  exact ⟨N, M, b1, b2, b3, b4, b5, bM, bD.1, bD.2.2.1⟩
theorem pu_Z_of {w : xw_M} (h : Rel w) : ∃ p N M cl, pu_Z w p N M cl := by
  obtain ⟨R, c1, hS, -, -, -, a6, a7, a8, a9, -, -, a12⟩ := h
  obtain ⟨N, M, K⟩ := rK_of hS
  obtain ⟨N', M', b1, b2, b3, b4, b5, bM, ⟨d1, d2, d3, k, hk, d4, d5⟩, -⟩ := hS
  have D : pm_D w := by
    unfold pm_D
    rw [a12.1 128 (by decide), a12.1 129 (by decide), a12.1 130 (by decide)]
    exact pm_D0
  have hy : ∀ m, m < N → ∃ y, y ≤ 9 ∧ w.1 120 (10 * m + 3) = nI y := fun m hm => ⟨_, (rK_y K hm).1, (rK_y K hm).2.1⟩
  cases k with
  | zero =>
    refine ⟨58, N, M, [], K, fun u hu => ?_, by decide, Or.inl rfl, by decide, ⟨Nat.zero_le _, Nat.zero_le _⟩, a9, D, Or.inl ⟨d4, rfl⟩, K.1, K.2.2.2.1, hy⟩
    unfold fX7_held fX7_parishAt
    rw [hu, d5, if_pos (by decide), pu_bp, pu_om0]
  | succ k =>
    obtain ⟨t, t1, t2, t3, t4, t5⟩ := a8 k (by omega)
    have hpa : xw_pa (71 + 6 * k) := by unfold xw_pa; omega
    refine ⟨71 + 6 * k, N, M, (pg_all t).2.2, K, fun u hu => ?_, hpa, Or.inr (by omega), by omega, pg_all_ok t1, t5, D, Or.inr ⟨k, by omega, d4, t, t1, t2, t3, t4, rfl⟩, K.1, K.2.2.2.1, hy⟩
    unfold fX7_held fX7_parishAt
    rw [hu, d5, nI_pred, if_neg (nI_pos (by omega)), if_neg (nI_ge (show k < 6 by omega) (by decide)), pu_ck (by omega) (by decide), pu_cl (by omega), pu_ccT hpa, pu_bp, pu_om1, pu_ccT hpa]
theorem pu_held {β : Type} {w u : xw_M} {p N M : Nat} {cl : List pg_Cl} (Z : pu_Z w p N M cl) (hu : u.1 1 10 = w.1 1 10) (a : Option β) (k : Nat → Option β) : xw_bp (fX7_held u) (fun r => xw_om r a (fun t => xw_cc (xw_pa t) (k t))) = k p := by
  rw [Z.2.1 u hu, pu_bp, pu_om1, pu_ccT Z.2.2.1]
/-- the reference's side sees none of the class's -/
theorem pm_X_hi {cl : List pg_Cl} {N : Nat} {w w' : xw_M} (h : ∀ k, 119 ≤ k → w'.1 k = w.1 k) (X : pm_X cl N w) : pm_X cl N w' := by
  obtain ⟨x1, x2, x3, x4, x5⟩ := X
  unfold pm_X pm_D
  rw [h 128 (by decide), h 129 (by decide), h 130 (by decide), h 120 (by decide)]
  exact ⟨x1, rH_cong (h 124 (by decide)) (h 125 (by decide)) rfl x2, x3, x4, x5⟩
/-- what the class only asks leaves as it was -/
def pc_F (w w' : xw_M) : Prop := (∀ k, (k < 17 ∨ 32 < k) → k ≠ 65 → k ≠ 66 → k ≠ 67 → w'.1 k = w.1 k) ∧ w'.2 = w.2
theorem pc_F_tr {a b c : xw_M} (h : pc_F a b) (g : pc_F b c) : pc_F a c := ⟨fun k h1 h2 h3 h4 => (g.1 k h1 h2 h3 h4).trans (h.1 k h1 h2 h3 h4), g.2.trans h.2⟩
theorem pc_F_rf (a : xw_M) : pc_F a a := ⟨fun _ _ _ _ _ => rfl, rfl⟩
theorem pc_F_67 {a b : xw_M} (h : ∀ k, k ≠ 67 → b.1 k = a.1 k) (h2 : b.2 = a.2) : pc_F a b := ⟨fun k _ _ _ q => h k q, h2⟩
theorem pc_F_look {a b : xw_M} (h : ∀ k, k ≠ 65 → k ≠ 66 → b.1 k = a.1 k) (h2 : b.2 = a.2) : pc_F a b := ⟨fun k _ q1 q2 _ => h k q1 q2, h2⟩
/-- both sides only asked -/
theorem Rel_ask {w w1 w2 : xw_M} (h : Rel w) (f : pc_F w w1) (g : pm_Fs w1 w2) : Rel w2 := by
  refine Rel_fr h ⟨fun k hk => ?_, fun k hk => by rw [g.2.1, f.2]⟩ ?_ ?_ ?_ ?_
  · unfold pu_Sc at hk
    rw [g.1 k (by omega) (by omega) (by omega) (by omega) (by omega), f.1 k (by omega) (by omega) (by omega) (by omega)]
  · rw [g.2.2 3 (by omega), f.1 119 (by omega) (by omega) (by omega) (by omega)]
  · rw [g.2.2 5 (by omega), f.1 119 (by omega) (by omega) (by omega) (by omega)]
  · rw [g.2.2 8 (by omega), f.1 119 (by omega) (by omega) (by omega) (by omega)]
  · rw [g.2.2 26 (by omega), f.1 119 (by omega) (by omega) (by omega) (by omega)]
/-- the same, where the reference tried it out on its row and laid it back -/
theorem Rel_ask2 {w w1 w2 : xw_M} (h : Rel w) (f : pc_F w w1) (g : ∀ k, k ≠ 119 → k ≠ 121 → k ≠ 126 → k ≠ 127 → k ≠ 131 → k ≠ 132 → k ≠ 133 → w2.1 k = w1.1 k) (g2 : w2.2 = w1.2) (g3 : ∀ j, (j < 10 ∨ 15 < j) → w2.1 119 j = w1.1 119 j) : Rel w2 := by
  refine Rel_fr h ⟨fun k hk => ?_, fun k hk => by rw [g2, f.2]⟩ ?_ ?_ ?_ ?_
  · unfold pu_Sc at hk
    rw [g k (by omega) (by omega) (by omega) (by omega) (by omega) (by omega) (by omega), f.1 k (by omega) (by omega) (by omega) (by omega)]
  · rw [g3 3 (by omega), f.1 119 (by omega) (by omega) (by omega) (by omega)]
  · rw [g3 5 (by omega), f.1 119 (by omega) (by omega) (by omega) (by omega)]
  · rw [g3 8 (by omega), f.1 119 (by omega) (by omega) (by omega) (by omega)]
  · rw [g3 26 (by omega), f.1 119 (by omega) (by omega) (by omega) (by omega)]
theorem pc_X {cl : List pg_Cl} {N : Nat} {w w' : xw_M} (f : pc_F w w') (X : pm_X cl N w) : pm_X cl N w' := pm_X_hi (fun k hk => f.1 k (by omega) (by omega) (by omega) (by omega)) X
theorem pc_120 {w w' : xw_M} (f : pc_F w w') : w'.1 120 = w.1 120 := f.1 120 (by omega) (by omega) (by omega) (by omega)
theorem pc_K1 {w w' : xw_M} {N M : Nat} {g : Nat → Int32} (f : pc_F w w') (K : rK w.1 1 g N M) : rK w'.1 1 g N M := rK_cong (fun k h1 h2 => f.1 k (by omega) (by omega) (by omega) (by omega)) K
theorem pc_A {w w' : xw_M} {p : Nat} {cl : List pg_Cl} (f : pc_F w w') (hp : p = 58 ∨ 71 ≤ p) (A : rA w.1 p cl) : rA w'.1 p cl := rA_cong (fun k h1 h2 => f.1 k (by omega) (by omega) (by omega) (by omega)) A
theorem pc_10 {w w' : xw_M} (f : pc_F w w') : w'.1 1 10 = w.1 1 10 := by rw [f.1 1 (by omega) (by omega) (by omega) (by omega)]
/-! of -/
theorem pu_isYes {a : Int32} {y : Nat} (hy : y ≤ 9) (h : a = nI y) : fX8_isYard a = some 1 := by
  rw [pu_isYard, h]
  exact congrArg some (pu_biT (pu_in (n := 9) hy (by decide)))
theorem pu_sub10 {a : Int32} {d : Nat} (hd : d ≤ 100) : (0 ≤ a - nI d ∧ a - nI d ≤ 9) ↔ ∃ y, y ≤ 9 ∧ a = nI (d + y) := by
  constructor
  · intro h
    obtain ⟨y, hy, e⟩ := pu_ex (n := 9) (by decide) h
    refine ⟨y, hy, ?_⟩
    have : a = a - nI d + nI d := (Int32.sub_add_cancel a (nI d)).symm
    rw [this, e, nI_add, Nat.add_comm]
  · rintro ⟨y, hy, rfl⟩
    rw [pk_sub (by omega), show d + y - d = y by omega]
    exact pu_in (n := 9) hy (by decide)
theorem st_of (n : Nat) (hn : 2000 ≤ n) : xs_of n Rel := by
  intro a1 a2 w hR
  obtain ⟨p, N, M, cl, Z⟩ := pu_Z_of hR
  obtain ⟨K, -, hpa, hp, -, ho, hA, X⟩ := id Z
  have b1 := K.1
  have b3 := K.2.2.1
  have b4 := K.2.2.2.1
  by_cases h1 : 0 ≤ a1 ∧ a1 < nI N
  case neg => exact ⟨-10001, w, w, by unfold fX7_of; simp only [pu_has a1 b3, pu_bp, pu_biF h1, reduceIte], by unfold fX8_of; simp only [pu_isOne a1 b1 b4, pu_bp, pu_biF h1, reduceIte], hR⟩
  obtain ⟨i, hi, rfl⟩ := (pu_bnd (by omega)).mp h1
  have hi6 : i < 6 := by omega
  obtain ⟨c1, c2, c3, c4, c5, c6, -⟩ := K.2.2.2.2.2.1.1 i hi
  by_cases h2 : 0 ≤ a2 ∧ a2 ≤ 5
  · obtain ⟨z, hz, rfl⟩ := pu_ex (n := 5) (by decide) h2
    refine ⟨w.1 120 (10 * i + z), w, w, ?_, ?_, hR⟩
    · unfold fX7_of
      simp only [pu_has _ b3, pu_bp, pu_biT h1, pu_10, reduceIte, pu_at w hi6 (show 6 < 2 ^ 31 by decide), c1, c2, c3, c4, c6, pc_away K hi]
      rcases (show z = 0 ∨ z = 1 ∨ z = 2 ∨ z = 3 ∨ z = 4 ∨ z = 5 by omega) with rfl | rfl | rfl | rfl | rfl | rfl
      · rw [if_pos (show (nI 0 : Int32) = 0 from rfl)]; rfl
      · rw [if_neg (show ¬ (nI 1 : Int32) = 0 by decide), if_pos (show (nI 1 : Int32) = 1 from rfl)]
      · rw [if_neg (show ¬ (nI 2 : Int32) = 0 by decide), if_neg (show ¬ (nI 2 : Int32) = 1 by decide), if_pos (show (nI 2 : Int32) = 2 from rfl)]
      · rw [if_neg (show ¬ (nI 3 : Int32) = 0 by decide), if_neg (show ¬ (nI 3 : Int32) = 1 by decide), if_neg (show ¬ (nI 3 : Int32) = 2 by decide), if_pos (show (nI 3 : Int32) = 3 from rfl)]
      · rw [if_neg (show ¬ (nI 4 : Int32) = 0 by decide), if_neg (show ¬ (nI 4 : Int32) = 1 by decide), if_neg (show ¬ (nI 4 : Int32) = 2 by decide), if_neg (show ¬ (nI 4 : Int32) = 3 by decide), if_pos (show (nI 4 : Int32) = 4 from rfl), c5]
        by_cases q : M.testBit i = true
        · rw [pu_biT q, if_neg (by decide)]
        · rw [pu_biF q, if_pos rfl, if_pos rfl]
      · rw [if_neg (show ¬ (nI 5 : Int32) = 0 by decide), if_neg (show ¬ (nI 5 : Int32) = 1 by decide), if_neg (show ¬ (nI 5 : Int32) = 2 by decide), if_neg (show ¬ (nI 5 : Int32) = 3 by decide), if_neg (show ¬ (nI 5 : Int32) = 4 by decide), if_pos (show (nI 5 : Int32) = 5 from rfl)]
    · unfold fX8_of
      simp only [pu_isOne _ b1 b4, pu_isIn, pu_bp, pu_biT h1, pu_biT h2, pu_10, reduceIte]
      rw [pu_one w (by omega), pu_bp]
  obtain ⟨w1, e1, f1, f2, R1⟩ := pc_look hn (by decide) hp ho hA K
  have K1 : rK w1.1 1 (w.1 120) N M := rK_cong (fun k k1 k2 => f1 k (by omega) (by omega)) K
  have F1 := pc_F_look f1 f2
  have n0 : ¬ a2 = 0 := fun z => h2 (by rw [z]; decide)
  have n1 : ¬ a2 = 1 := fun z => h2 (by rw [z]; decide)
  have n2 : ¬ a2 = 2 := fun z => h2 (by rw [z]; decide)
  have n3 : ¬ a2 = 3 := fun z => h2 (by rw [z]; decide)
  have n4 : ¬ a2 = 4 := fun z => h2 (by rw [z]; decide)
  have n5 : ¬ a2 = 5 := fun z => h2 (by rw [z]; decide)
  have e7 : fX7_of n (nI i) a2 w = xw_b (if a2 = (6 : Int32) then xw_b (fX4_share n 1 (nI i) (w1.1 1 8) (w1.1 1 7) w1) (fun r17 w18 => some (r17, w18)) else if a2 = (7 : Int32) then xw_b (fX4_best n 1 (nI i) w1) (fun r14 w15 => some (r14, w15)) else if a2 < (10 : Int32) then fX7_reckonedOf_92 n (nI i) a2 w1 else if (20 : Int32) ≤ a2 then fX7_reckonedOf_92 n (nI i) a2 w1 else xw_bp (fX4_rate (nI i) (a2 - (10 : Int32)) w1) (fun r12 => some (r12, w1))) (fun r23 w24 => some (r23, w24)) := by
    unfold fX7_of
    simp only [pu_has _ b3, pu_bp, pu_biT h1, pu_10, reduceIte, if_neg n0, if_neg n1, if_neg n2, if_neg n3, if_neg n4, if_neg n5]
    unfold fX7_reckonedOf
    rw [pu_held Z rfl, e1, pu_b]
  have e8 : ∀ u : xw_M, u.1 120 = w.1 120 → fX8_of n (nI i) a2 u = if a2 = (6 : Int32) then xw_b (fX8_share n u) (fun (_ : Unit) w25 => xw_ck (nI i) 6 (some (w25.1 132 (nI i).toNatClampNeg, w25))) else if a2 = (7 : Int32) then xw_b (fX8_best n (nI i) u) (fun r21 w22 => some (r21, w22)) else xw_bp (fX8_isYard (a2 - (10 : Int32))) (fun r9 => if r9 = 0 then xw_bp (fX8_isYard (a2 - (20 : Int32))) (fun r12 => if r12 = 0 then some ((-10001 : Int32), u) else xw_b (fX8_worth n (nI i) (a2 - (20 : Int32)) u) (fun r15 w16 => some (r15, w16))) else xw_b (fX8_rate n (nI i) (a2 - (10 : Int32)) u) (fun r18 w19 => some (r18, w19))) := by
    intro u hu
    unfold fX8_of
    simp only [pu_isOne (w := u) (N := N) _ b1 (by rw [hu]; exact b4), pu_isIn, pu_bp, pu_biT h1, pu_biF h2, pu_10, reduceIte]
  by_cases h6 : a2 = 6
  · obtain ⟨w2, e2, g1, g2⟩ := pc_share (D := w.1 120 61) hn (by decide) K1 R1 (pu_M64 b1 K1.2.1) hi
    rw [pc_SH K1 hi] at e2
    have F2 := pc_F_tr F1 (pc_F_67 g1 g2)
    have X2 := pc_X F2 X
    obtain ⟨w3, e3, g3, s3⟩ := pm_share X2.1 X2.2.1 hn b1 X2.2.2.2.1 X2.2.2.2.2
    refine ⟨SH cl (w.1 120) N i, w2, w3, ?_, ?_, Rel_ask hR F2 g3⟩
    · rw [e7, if_pos h6, K1.2.2.2.2.2.2.1, K1.2.2.2.2.1, e2, pu_b, pu_b]
    · rw [e8 w2 (pc_120 F2), if_pos h6, e3, pu_b, pu_ck hi6 (by decide), pu_cl (by omega), s3 i hi, pc_120 F2]
  by_cases h7 : a2 = 7
  · obtain ⟨w2, e2, g1, g2⟩ := pc_best hn (by decide) K1 R1 hi
    have F2 := pc_F_tr F1 (pc_F_67 g1 g2)
    obtain ⟨w3, e3, g3⟩ := pm_best (pc_X F2 X) hn hi
    rw [pc_120 F2] at e3
    refine ⟨nI (BE cl N (w.1 120) i), w2, w3, ?_, ?_, Rel_ask hR F2 g3⟩
    · rw [e7, if_neg h6, if_pos h7, e2, pu_b, pu_b]
    · rw [e8 w2 (pc_120 F2), if_neg h6, if_pos h7, e3, pu_b]
  by_cases h10 : 0 ≤ a2 - nI 10 ∧ a2 - nI 10 ≤ 9
  · obtain ⟨y, hy, rfl⟩ := (pu_sub10 (by decide)).mp h10
    obtain ⟨w3, e3, g3⟩ := pm_rate (i := i) (y := y) (pc_X F1 X).1 (pc_X F1 X).2.1 hn hi6 hy
    rw [pc_120 F1] at e3
    have s10 : nI (10 + y) - (10 : Int32) = nI y := by rw [show (10 : Int32) = nI 10 from rfl, pk_sub (by omega), show 10 + y - 10 = y by omega]
    refine ⟨pg_rt cl (w.1 120) i y, w1, w3, ?_, ?_, Rel_ask hR F1 (pm_Fs_of g3)⟩
    · rw [e7, if_neg h6, if_neg h7, if_neg (show ¬ nI (10 + y) < (10 : Int32) from nI_nlt (b := 10) (by omega) (by omega)), if_neg (show ¬ (20 : Int32) ≤ nI (10 + y) from nI_ge (b := 20) (by omega) (by decide)), s10]
      unfold fX4_rate
      rw [show (10 : Int32) = nI 10 from rfl, pk_mul, nI_add, show i * 10 + y = 10 * i + y by omega, pu_at w1 (show 10 * i + y < 60 by omega) (by decide), pu_bp, pu_bp, pu_b, R1 i y hi (by omega)]
    · rw [e8 w1 (pc_120 F1), if_neg h6, if_neg h7, s10, pu_isYes hy rfl, pu_bp, if_neg (by decide), e3, pu_b]
  have ny10 : fX8_isYard (a2 - (10 : Int32)) = some 0 := by rw [pu_isYard]; exact congrArg some (pu_biF h10)
  by_cases h20 : 0 ≤ a2 - nI 20 ∧ a2 - nI 20 ≤ 9
  · obtain ⟨y, hy, rfl⟩ := (pu_sub10 (by decide)).mp h20
    obtain ⟨w2, e2, g1, g2⟩ := pc_worth hn (by decide) K1 R1 hi hy
    have F2 := pc_F_tr F1 (pc_F_67 g1 g2)
    obtain ⟨w3, e3, g3⟩ := pm_worth (pc_X F2 X) hn hi hy
    rw [pc_120 F2] at e3
    have s20 : nI (20 + y) - (20 : Int32) = nI y := by rw [show (20 : Int32) = nI 20 from rfl, pk_sub (by omega), show 20 + y - 20 = y by omega]
    refine ⟨WO cl N (w.1 120) i y, w2, w3, ?_, ?_, Rel_ask hR F2 g3⟩
    · rw [e7, if_neg h6, if_neg h7, if_neg (show ¬ nI (20 + y) < (10 : Int32) from nI_nlt (b := 10) (by omega) (by omega)), if_pos (show (20 : Int32) ≤ nI (20 + y) from nI_le (a := 20) (by omega) (by omega))]
      unfold fX7_reckonedOf_92
      rw [if_neg (show ¬ nI (20 + y) < (20 : Int32) from nI_nlt (b := 20) (by omega) (by omega)), if_neg (show ¬ (30 : Int32) ≤ nI (20 + y) from nI_ge (b := 30) (by omega) (by decide)), s20, e2, pu_b, pu_b]
    · rw [e8 w2 (pc_120 F2), if_neg h6, if_neg h7, ny10, pu_bp, if_pos rfl, s20, pu_isYes hy rfl, pu_bp, if_neg (by decide), e3, pu_b]
  have ny20 : fX8_isYard (a2 - (20 : Int32)) = some 0 := by rw [pu_isYard]; exact congrArg some (pu_biF h20)
  refine ⟨-10001, w1, w1, ?_, ?_, Rel_ask hR F1 (pm_Fs_rf _)⟩
  · have e92 : fX7_reckonedOf_92 n (nI i) a2 w1 = some (-10001, w1) := by
      unfold fX7_reckonedOf_92
      by_cases q : a2 < 20
      · rw [if_pos q]
      · rw [if_neg q]
        by_cases q2 : 30 ≤ a2
        · rw [if_pos q2]
        · refine absurd ((pu_sub10 (by decide)).mpr ?_) h20
          obtain ⟨j, hj, rfl⟩ := nI_of (fun z => q (Int32.lt_trans z (by decide)))
          have l1 : ¬ j < 20 := fun z => q (nI_lt (b := 20) z (by decide))
          have l2 : ¬ 30 ≤ j := fun z => q2 (nI_le (a := 30) z hj)
          exact ⟨j - 20, by omega, by rw [show 20 + (j - 20) = j by omega]⟩
    rw [e7, if_neg h6, if_neg h7, e92]
    by_cases q : a2 < 10
    · rw [if_pos q, pu_b]
    · rw [if_neg q]
      by_cases q2 : 20 ≤ a2
      · rw [if_pos q2, pu_b]
      · refine absurd ((pu_sub10 (by decide)).mpr ?_) h10
        obtain ⟨j, hj, rfl⟩ := nI_of (fun z => q (Int32.lt_trans z (by decide)))
        have l1 : ¬ j < 10 := fun z => q (nI_lt (b := 10) z (by decide))
        have l2 : ¬ 20 ≤ j := fun z => q2 (nI_le (a := 20) z hj)
        exact ⟨j - 10, by omega, by rw [show 10 + (j - 10) = j by omega]⟩
  · rw [e8 w1 (pc_120 F1), if_neg h6, if_neg h7, ny10, pu_bp, if_pos rfl, ny20, pu_bp, if_pos rfl]
