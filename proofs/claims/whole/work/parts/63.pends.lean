/-! ===== ends ===== -/
theorem pu_n75 {β : Type} (k : Option β) : xw_ck (75 : Int32) 109 k = k := pu_now 75 (by decide) k
theorem pu_c75 : (75 : Int32).toNatClampNeg = 75 := by decide
theorem rK_aw {w : xw_M} {b N M M' i : Nat} {g : Nat → Int32} {v : Int32} {bv : Bool} (K : rK w.1 b g N M) (hi : i < N) (hM : M' < 2 ^ N) (hv : v = pu_bi (bv = true)) (hb : ∀ j, j < 6 → M'.testBit j = (if j = i then bv else M.testBit j)) : rK (xw_si w b 7 (nI M')).1 b (upd g (10 * i + 4) v) N M' := by
  obtain ⟨k1, k2, k3, k4, k5, k6, k7, k8⟩ := K
  unfold rK
  rw [pu_si1, pu_si0 _ _ _ (show b + 1 ≠ b by omega), pu_si0 _ _ _ (show b + 2 ≠ b by omega), pu_si0 _ _ _ (show b + 3 ≠ b by omega), pu_si0 _ _ _ (show b + 4 ≠ b by omega), pu_si0 _ _ _ (show b + 5 ≠ b by omega), pu_si0 _ _ _ (show b + 6 ≠ b by omega), pk_un (j := 60) (by omega), pk_un (j := 61) (by omega), pk_un (j := 62) (by omega), pk_us, pk_un (j := 0) (by omega), pk_un (j := 8) (by omega), pk_un (j := 9) (by omega)]
  exact ⟨k1, hM, k3, k4, rfl, rM_aw hv hb k6 k1 hi, k7, k8⟩
def pg_e1 (cl : List pg_Cl) (N : Nat) (a b : Int32) (g : Nat → Int32) : Nat → Int32 := if a = 0 then DY cl N 2147483647 g else if a = 3 then upd g (10 * b.toNatClampNeg + 3) 0 else upd g (10 * b.toNatClampNeg + 4) (2 - a)
def pg_es (cl : List pg_Cl) (N : Nat) (g : Nat → Int32) : Nat → (Nat → Int32)
  | 0 => g
  | k + 1 => pg_e1 cl N (g (76 + 2 * k)) (g (77 + 2 * k)) (pg_es cl N g k)
def pg_su (f : Nat → Int32) : Nat → Int32
  | 0 => 0
  | k + 1 => pg_su f k + f k
theorem pc_step {n p N M Mk : Nat} {cl : List pg_Cl} {w u : xw_M} {g : Nat → Int32} {a b : Int32} (hn : 2000 ≤ n) (Z : pu_Z w p N M cl) (Fu : pc_F w u) (K : rK u.1 17 g N Mk) (hab : okP N a b) : ∃ v Mv, fX7_goStep n a b u = some ((), v) ∧ pc_F w v ∧ rK v.1 17 (pg_e1 cl N a b g) N Mv := by
  obtain ⟨K0, -, hpa, hp, -, ho, hA, X⟩ := id Z
  have hN := K0.1
  unfold fX7_goStep pg_e1
  by_cases h0 : a = 0
  · obtain ⟨v, ev, g1, g2, g3, Kv⟩ := pc_goDay (2147483647 : Int32) hn (by decide) hp ho (pc_A Fu hp hA) K
    refine ⟨v, Mk, ?_, pc_F_tr Fu (pc_F_day g1 g2), by rw [if_pos h0]; exact Kv⟩
    rw [if_neg (by rw [h0]; decide), if_neg (by rw [h0]; decide), if_neg (by rw [h0]; decide), pu_held Z (pc_10 Fu), ev, pu_b]
  · obtain ⟨hk, i, hi, rfl⟩ := hab.resolve_left h0
    have hi6 : i < 6 := by omega
    have hM := pu_M64 hN K.2.1
    have hbs := pu_bset2 N (by omega) Mk K.2.1 i hi
    have F7 : ∀ v : Int32, pc_F w (xw_si u 17 7 v) := fun v => ⟨fun k h1 h2 h3 h4 => by rw [pu_si0 _ _ _ (by omega)]; exact Fu.1 k h1 h2 h3 h4, Fu.2⟩
    rw [pu_cl (show i < 2 ^ 31 by omega), if_neg h0]
    rcases hk with rfl | rfl | rfl
    · refine ⟨xw_si u 17 7 (nI (Mk ||| 2 ^ i)), Mk ||| 2 ^ i, ?_, F7 _, ?_⟩
      · rw [if_pos rfl]
        unfold fX5_send fX5_send_26
        rw [if_neg (by decide), K.2.2.2.2.1, (pu_bset Mk hM i hi6).1, pu_lt, pu_b]
      · rw [if_neg (by decide)]
        exact rK_aw (bv := true) K hi hbs.1 (by decide) (fun j hj => (hbs.2.2 j hj).1)
    · refine ⟨xw_si u 17 7 (nI (Mk &&& (63 - 2 ^ i))), Mk &&& (63 - 2 ^ i), ?_, F7 _, ?_⟩
      · rw [if_neg (by decide), if_pos rfl]
        unfold fX5_send fX5_send_26
        rw [if_pos rfl, K.2.2.2.2.1, (pu_bset Mk hM i hi6).2, pu_lt, pu_b]
      · rw [if_neg (by decide)]
        exact rK_aw (bv := false) K hi hbs.2.1 (by decide) (fun j hj => (hbs.2.2 j hj).2)
    · refine ⟨xw_si u (17 + 4) i (nI 0), Mk, ?_, ⟨fun k h1 h2 h3 h4 => by rw [pu_si0 _ _ _ (by omega)]; exact Fu.1 k h1 h2 h3 h4, Fu.2⟩, ?_⟩
      · rw [if_neg (by decide), if_neg (by decide), if_pos rfl, show (0 : Int32) = nI 0 from rfl, pu_put _ _ hi6 (by decide), pu_b]
      · rw [if_pos rfl]
        exact rK_ya K hi (by decide)
theorem pg_e1_hi {cl : List pg_Cl} {N : Nat} (hN : N ≤ 6) {a b : Int32} {g : Nat → Int32} (hab : okP N a b) {j : Nat} (hj : j = 60 ∨ 63 ≤ j) : pg_e1 cl N a b g j = g j := by
  unfold pg_e1
  by_cases h0 : a = 0
  · rw [if_pos h0]; exact DY_eq hN _ _ (fun m hm => ⟨by omega, by omega⟩) (by omega)
  · obtain ⟨hk, i, hi, rfl⟩ := hab.resolve_left h0
    rw [if_neg h0, pu_cl (show i < 2 ^ 31 by omega)]
    by_cases h3 : a = 3
    · rw [if_pos h3, pk_un (by omega)]
    · rw [if_neg h3, pk_un (by omega)]
theorem pg_es_hi {cl : List pg_Cl} {N z : Nat} (hN : N ≤ 6) {g : Nat → Int32} (hr : ∀ r, r < z → okP N (g (76 + 2 * r)) (g (77 + 2 * r))) {j : Nat} (hj : j = 60 ∨ 63 ≤ j) : ∀ k, k ≤ z → pg_es cl N g k j = g j := by
  intro k
  induction k with
  | zero => intro _; rfl
  | succ k ih => intro hk; show pg_e1 cl N _ _ _ j = _; rw [pg_e1_hi hN (hr k (by omega)) hj, ih (by omega)]
theorem st_ends (n : Nat) (hn : 2000 ≤ n) : xs_ends n Rel := by
  intro a w hR
  obtain ⟨p, N, M, cl, Z⟩ := pu_Z_of hR
  obtain ⟨K, -, hpa, hp, -, ho, hA, X⟩ := id Z
  obtain ⟨R, c1, hS, -, -, -, a6, -⟩ := id hR
  have hN := K.1
  obtain ⟨g, hg⟩ : ∃ g, g = w.1 120 := ⟨_, rfl⟩
  obtain ⟨z, z8, s2, s3, s4⟩ : ∃ z, z ≤ 8 ∧ w.1 (1 + 10) 3 = nI z ∧ g 75 = nI z ∧ ∀ r, r < z → w.1 ((1 + 10) + 1) r = g (76 + 2 * r) ∧ w.1 ((1 + 10) + 2) r = g (77 + 2 * r) ∧ okP N (g (76 + 2 * r)) (g (77 + 2 * r)) := by
    obtain ⟨N', M', b1, b2, b3, b4, b5, bM, bD, bS, ⟨s0, z, s1, s2, s3, s4⟩, bB⟩ := hS
    have eN : N' = N := (nI_eq (by omega) (by omega)).mp (b3.symm.trans K.2.2.1)
    subst eN
    refine ⟨z, s1, s2, by rw [hg]; exact s3, fun r hr => ?_⟩
    have := s4 r hr
    rw [show 75 + 1 + 2 * r = 76 + 2 * r by omega, show 75 + 2 + 2 * r = 77 + 2 * r by omega, ← hg] at this
    exact this
  have s5 : ∀ r, r < z → okP N (g (76 + 2 * r)) (g (77 + 2 * r)) := fun r hr => (s4 r hr).2.2
  by_cases h : 0 ≤ a ∧ a ≤ 1
  case neg => exact ⟨-1, w, w, by unfold fX7_ends; simp only [pu_within, pu_bp, pu_biF h, reduceIte], by unfold fX8_ends; simp only [pu_isIn, pu_bp, pu_biF h, reduceIte], hR⟩
  obtain ⟨w0, e0, T0⟩ := pu_tk w
  obtain ⟨w1, e1, F1, M1, K1⟩ : ∃ w1, xw_it (fun z => fX7_ends_b23 n a z.1 z.2) n ((0 : Int32), w0) = some w1 ∧ pc_F w w1 ∧ ∃ M1, rK w1.1 17 (pg_es cl N g z) N M1 := by
    refine pu_inv (fun z => fX7_ends_b23 n a z.1 z.2) (fun k y => k ≤ z ∧ y.1 = nI k ∧ pc_F w y.2 ∧ ∃ Mk, rK y.2.1 17 (pg_es cl N g k) N Mk) z _ ?_ ?_ n 0 _ (by omega) (by omega) ⟨by omega, rfl, pc_F_take T0, M, by rw [hg]; exact rK_take K T0⟩
    · rintro k ⟨x, u⟩ hk ⟨-, rfl, Fu, Mk, Ku⟩
      obtain ⟨t1, t2, t3⟩ := s4 k hk
      obtain ⟨v, Mv, ev, Fv, Kv⟩ := pc_step hn Z Fu Ku t3
      refine Or.inl ⟨(nI (k + 1), v), ?_, by omega, rfl, Fv, Mv, Kv⟩
      show fX7_ends_b23 n a (nI k) u = _
      unfold fX7_ends_b23
      rw [Fu.1 (1 + 10) (by omega) (by omega) (by omega) (by omega), s2, if_neg (nI_ge hk (by omega)), pu_at u (show k < 8 by omega) (by decide), pu_bp, pu_at u (show k < 8 by omega) (by decide), pu_bp, Fu.1 ((1 + 10) + 1) (by omega) (by omega) (by omega) (by omega), Fu.1 ((1 + 10) + 2) (by omega) (by omega) (by omega) (by omega), t1, t2, ev, pu_b, pu_lt, nI_1]
    · rintro ⟨x, u⟩ ⟨-, rfl, Fu, Mk, Ku⟩
      refine ⟨u, ?_, Fu, Mk, Ku⟩
      show fX7_ends_b23 n a (nI z) u = _
      unfold fX7_ends_b23
      rw [Fu.1 (1 + 10) (by omega) (by omega) (by omega) (by omega), s2, if_pos (nI_le (Nat.le_refl _) (by omega))]
  have t120 : w1.1 120 = g := (pc_120 F1).trans hg.symm
  obtain ⟨gz, hgz⟩ : ∃ gz, gz = pg_es cl N g z := ⟨_, rfl⟩
  rw [← hgz] at K1
  obtain ⟨f, hf⟩ : ∃ f : Nat → Int32, f = fun m => if a = 0 then gz (10 * m + 5) else gz (10 * m + 3) := ⟨_, rfl⟩
  have e2 : xw_it (fun z => fX7_ends_b79 n a z.1 z.2 w1) n ((0 : Int32), (0 : Int32)) = some (pg_su f N) := by
    refine pu_up (fun z => fX7_ends_b79 n a z.1 z.2 w1) (fun k => (pg_su f k, nI k)) N _ (fun k hk => ?_) ?_ (by omega)
    · show fX7_ends_b79 n a (pg_su f k) (nI k) w1 = some (.inl (pg_su f k + f k, nI (k + 1)))
      obtain ⟨m1, m2, m3, m4, m5, m6, -⟩ := K1.2.2.2.2.2.1.1 k hk
      unfold fX7_ends_b79
      rw [K1.2.2.1, if_neg (nI_ge hk (by omega))]
      unfold fX7_ends_112
      rw [pu_at w1 (show k < 6 by omega) (by decide), pu_at w1 (show k < 6 by omega) (by decide), pu_bp, pu_bp, m6, m4, pu_lt, pu_lt, pu_lt, pu_lt, nI_1, hf]
      by_cases q : a = 0
      · rw [if_pos q]; simp only [if_pos q]
      · rw [if_neg q]; simp only [if_neg q]
    · show fX7_ends_b79 n a _ (nI N) w1 = _
      unfold fX7_ends_b79
      rw [K1.2.2.1, if_pos (nI_le (Nat.le_refl _) (by omega))]
  obtain ⟨k1, ek, ka, kb, kc⟩ := pm_keep hn w1
  obtain ⟨v, ev, fv, gv, Xv⟩ : ∃ v, xw_it (fun z => fX8_ends_b18 n a z.1 z.2) n ((0 : Int32), k1) = some v ∧ pm_Fg k1 v ∧ v.1 120 = gz ∧ pm_X cl N v := by
    rw [hgz]
    refine pu_inv (fun z => fX8_ends_b18 n a z.1 z.2) (fun k y => k ≤ z ∧ y.1 = nI k ∧ pm_Fg k1 y.2 ∧ y.2.1 120 = pg_es cl N g k ∧ pm_X cl N y.2) z _ ?_ ?_ n 0 _ (by omega) (by omega) ⟨by omega, rfl, pm_Fg_rf _, (ka 120 (by decide)).trans t120, pm_Xk ka (pc_X F1 X)⟩
    · rintro k ⟨x, u⟩ hk ⟨-, rfl, c1, c2, Xu⟩
      have t3 := s5 k hk
      have h75 : u.1 120 75 = nI z := by rw [c2, pg_es_hi hN s5 (by omega) k (by omega), s3]
      have h76 : u.1 120 (76 + 2 * k) = g (76 + 2 * k) := by rw [c2, pg_es_hi hN s5 (by omega) k (by omega)]
      have h77 : u.1 120 (77 + 2 * k) = g (77 + 2 * k) := by rw [c2, pg_es_hi hN s5 (by omega) k (by omega)]
      have es : pg_es cl N g (k + 1) = pg_e1 cl N (g (76 + 2 * k)) (g (77 + 2 * k)) (pg_es cl N g k) := rfl
      have fin : ∃ t, fX8_ends_b18 n a (nI k) u = some (.inl (nI (k + 1), t)) ∧ pm_Fg k1 t ∧ t.1 120 = pg_es cl N g (k + 1) ∧ pm_X cl N t := by
        rw [es]
        unfold fX8_ends_b18
        rw [pu_n75, pu_c75, h75, if_neg (nI_ge hk (by omega)), show (2 : Int32) * nI k = nI (2 * k) from pk_mul 2 k, show (76 : Int32) = nI 76 from rfl, show (77 : Int32) = nI 77 from rfl, nI_add, nI_add, pu_ck (show 76 + 2 * k < 109 by omega) (by decide), pu_cl (show 76 + 2 * k < 2 ^ 31 by omega), pu_lt, pu_ck (show 77 + 2 * k < 109 by omega) (by decide), pu_cl (show 77 + 2 * k < 2 ^ 31 by omega), pu_lt, h76, h77]
        unfold fX8_ends_95 pg_e1
        by_cases h0 : g (76 + 2 * k) = 0
        · obtain ⟨t, et, ft, gt, Xt⟩ := pm_day Xu hn 0 2147483647 (Or.inl ⟨rfl, rfl⟩)
          rw [c2] at gt
          rw [if_pos h0, if_pos h0, et, pu_b, pu_lt, nI_1]
          exact ⟨t, rfl, pm_Fg_tr c1 ft, gt, Xt⟩
        · obtain ⟨hk3, i, hi, ei⟩ := t3.resolve_left h0
          have hi6 : i < 6 := by omega
          rw [if_neg h0, if_neg h0, ei, pu_cl (show i < 2 ^ 31 by omega)]
          by_cases h3 : g (76 + 2 * k) = 3
          · rw [if_pos h3, if_pos h3, pu_ch3 hi6, pu_b, pu_lt, nI_1]
            refine ⟨xw_si u 120 (10 * i + 3) 0, rfl, pm_Fg_tr c1 (pm_Fg_si _ _ _), by rw [pu_si1, c2], pm_X_fg Xu (pm_Fg_si _ _ _) ?_ ?_ (fun m hm => ?_)⟩
            · rw [pu_si1, pk_un (by omega)]
            · rw [pu_si1, pk_un (by omega)]
            · rw [pu_si1]
              by_cases c : m = i
              · rw [c, pk_us]; exact ⟨0, by omega, rfl⟩
              · rw [pk_un (by omega)]; exact Xu.2.2.2.2 m hm
          · rw [if_neg h3, if_neg h3, pu_ch4 hi6, pu_b, pu_lt, nI_1]
            refine ⟨xw_si u 120 (10 * i + 4) (2 - g (76 + 2 * k)), rfl, pm_Fg_tr c1 (pm_Fg_si _ _ _), by rw [pu_si1, c2], pm_X_fg Xu (pm_Fg_si _ _ _) ?_ ?_ (fun m hm => ?_)⟩
            · rw [pu_si1, pk_un (by omega)]
            · rw [pu_si1, pk_un (by omega)]
            · rw [pu_si1, pk_un (by omega)]; exact Xu.2.2.2.2 m hm
      obtain ⟨t, t1, t2, t3, t4⟩ := fin
      exact Or.inl ⟨_, t1, by omega, rfl, t2, t3, t4⟩
    · rintro ⟨x, u⟩ ⟨-, rfl, c1, c2, Xu⟩
      refine ⟨u, ?_, c1, c2, Xu⟩
      show fX8_ends_b18 n a (nI z) u = _
      unfold fX8_ends_b18
      have h75 : u.1 120 75 = nI z := by rw [show u.1 120 = pg_es cl N g z from c2, pg_es_hi hN s5 (by omega) z (by omega), s3]
      rw [pu_n75, pu_c75, h75, if_pos (nI_le (Nat.le_refl _) (by omega))]
  have e3 : xw_it (fun z => fX8_ends_b105 n a z.1 z.2 v) n ((0 : Int32), (0 : Int32)) = some (pg_su f N) := by
    refine pu_up (fun z => fX8_ends_b105 n a z.1 z.2 v) (fun k => (pg_su f k, nI k)) N _ (fun k hk => ?_) ?_ (by omega)
    · show fX8_ends_b105 n a (pg_su f k) (nI k) v = some (.inl (pg_su f k + f k, nI (k + 1)))
      unfold fX8_ends_b105
      rw [pu_n60, pu_c60, Xv.2.2.2.1, if_neg (nI_ge hk (by omega))]
      unfold fX8_ends_128
      rw [pu_o5 (show k < 6 by omega), pu_o3 (show k < 6 by omega), pu_bp, pu_bp, pu_lt, pu_lt, pu_lt, pu_lt, nI_1, hf, gv]
      by_cases q : a = 0
      · rw [if_pos q]; simp only [if_pos q]
      · rw [if_neg q]; simp only [if_neg q]
    · show fX8_ends_b105 n a _ (nI N) v = _
      unfold fX8_ends_b105
      rw [pu_n60, pu_c60, Xv.2.2.2.1, if_pos (nI_le (Nat.le_refl _) (by omega))]
  obtain ⟨l, el, la, lb, lc⟩ := pm_lay hn v
  obtain ⟨Rl, -⟩ := Rel_lay hR F1 ka kb kc (fun k h1 h2 h3 h4 h5 h6 _ => fv.1 k h1 h2 h3 h4 h5 h6) fv.2.1 fv.2.2 (fun j hj => by rw [gv, hgz, pg_es_hi hN s5 (by omega) z (by omega), ka 120 (by decide), t120]) la lb lc
  refine ⟨pg_su f N, w1, l, ?_, ?_, Rl⟩
  · unfold fX7_ends
    simp only [pu_within, pu_bp, pu_biT h, pu_10, reduceIte]
    rw [e0, pu_b]
    unfold fX7_ends_23
    rw [e1, pu_bp]
    show fX7_ends_75 n a w1 = _
    unfold fX7_ends_75 fX7_ends_79
    rw [e2, pu_bp]
    rfl
  · unfold fX8_ends
    simp only [pu_isIn, pu_bp, pu_biT h, pu_10, reduceIte]
    rw [ek, pu_b]
    unfold fX8_ends_18
    rw [ev, pu_bp]
    show fX8_ends_101 n a v = _
    unfold fX8_ends_101 fX8_ends_105
    rw [e3, pu_bp]
    show fX8_ends_139 n a _ v = _
    unfold fX8_ends_139
    rw [el, pu_b]
/-! ===== judge ===== -/
def pg_jd (A : Int32) (z : Nat) (I : Nat → Int64) (S : Nat → Int32) : Nat → Nat → Int32
  | 0, _ => -5
  | e + 1, k => if A < 0 then nI (100 + k) else if z ≤ A.toNatClampNeg + k then nI (100 + k) else if I (A.toNatClampNeg + k) = (S k).toInt64 then pg_jd A z I S e (k + 1) else nI k
theorem pu_pos_lt {j k z : Nat} (hj : j < 2 ^ 31) (hk : k ≤ 6) (hz : z ≤ 60) : nI j < nI z - nI k ↔ j + k < z := by
  rw [Int32.lt_iff_toInt_lt, nI_toInt hj, pk_sub_toInt (by omega) (by omega)]
  omega
theorem pc_judge {n N M t z : Nat} {a1 A : Int32} {cl : List pg_Cl} {g : Nat → Int32} {w : xw_M} (hn : 2000 ≤ n) (K : rK w.1 1 g N M) (R : pc_R cl g N w.1) (ht : t < 6) (hz : z ≤ 60) (h1 : w.1 (107 + 2 * t) 1 = nI z) : ∀ e k, e + k = N → ∀ m, e < m → ∀ u, (∀ q, q ≠ 67 → u.1 q = w.1 q) → u.2 = w.2 → ∃ v, xw_bp (xw_it (fun z => fX7_judge_b61 n a1 A (107 + 2 * t) z.1 z.2) m (nI k, u)) (fun z => xw_su z (fun r => some r) (fun z => (fun (w : xw_M) => fX7_judge_143 n a1 A w) z)) = some (pg_jd A z (fun j => w.2 (108 + 2 * t) j) (SH cl g N) e k, v) ∧ (∀ q, q ≠ 67 → v.1 q = w.1 q) ∧ v.2 = w.2 := by
  have hN := K.1
  intro e
  induction e with
  | zero =>
    intro k hk m hm u c1 c2
    obtain ⟨m', rfl⟩ : ∃ m', m = m' + 1 := ⟨m - 1, by omega⟩
    have step : fX7_judge_b61 n a1 A (107 + 2 * t) (nI k) u = some (.inr (.inr u)) := by
      unfold fX7_judge_b61
      rw [c1 1 (by decide), K.2.2.1, if_pos (nI_le (by omega) (by omega))]
    refine ⟨u, ?_, c1, c2⟩
    rw [pu_it1 (fun z => fX7_judge_b61 n a1 A (107 + 2 * t) z.1 z.2) (a := (nI k, u)) step, pu_bp]
    rfl
  | succ e ih =>
    intro k hk m hm u c1 c2
    obtain ⟨m', rfl⟩ : ∃ m', m = m' + 1 := ⟨m - 1, by omega⟩
    have hkN : k < N := by omega
    have Ku : rK u.1 1 g N M := rK_cong (fun q q1 q2 => c1 q (by omega)) K
    have Ru : pc_R cl g N u.1 := pc_R_cong (c1 65 (by decide)) (fun _ _ _ _ => rfl) R
    obtain ⟨v, ev, v1, v2⟩ := pc_share (D := g 61) hn (by decide) Ku Ru (pu_M64 hN Ku.2.1) hkN
    rw [pc_SH Ku hkN] at ev
    have ej : pg_jd A z (fun j => w.2 (108 + 2 * t) j) (SH cl g N) (e + 1) k = if A < 0 then nI (100 + k) else if z ≤ A.toNatClampNeg + k then nI (100 + k) else if w.2 (108 + 2 * t) (A.toNatClampNeg + k) = (SH cl g N k).toInt64 then pg_jd A z (fun j => w.2 (108 + 2 * t) j) (SH cl g N) e (k + 1) else nI k := rfl
    have h100 : (100 : Int32) + nI k = nI (100 + k) := nI_add 100 k
    rw [ej]
    by_cases hA : A < 0
    · have step : fX7_judge_b61 n a1 A (107 + 2 * t) (nI k) u = some (.inr (.inl (nI (100 + k), u))) := by
        unfold fX7_judge_b61
        rw [Ku.2.2.1, if_neg (nI_ge hkN (by omega)), if_pos hA, h100]
      rw [if_pos hA, pu_it1 (fun z => fX7_judge_b61 n a1 A (107 + 2 * t) z.1 z.2) (a := (nI k, u)) step, pu_bp]
      exact ⟨u, rfl, c1, c2⟩
    · obtain ⟨j, hj, rfl⟩ := nI_of hA
      rw [if_neg hA, pu_cl hj]
      by_cases hz2 : z ≤ j + k
      · have step : fX7_judge_b61 n a1 (nI j) (107 + 2 * t) (nI k) u = some (.inr (.inl (nI (100 + k), u))) := by
          unfold fX7_judge_b61
          rw [Ku.2.2.1, if_neg (nI_ge hkN (by omega)), if_neg hA, c1 (107 + 2 * t) (by omega), h1, if_neg (fun q => by have := (pu_pos_lt hj (by omega) hz).mp q; omega), h100]
        rw [if_pos hz2, pu_it1 (fun z => fX7_judge_b61 n a1 (nI j) (107 + 2 * t) z.1 z.2) (a := (nI k, u)) step, pu_bp]
        exact ⟨u, rfl, c1, c2⟩
      · have e0 : fX7_judge_b61 n a1 (nI j) (107 + 2 * t) (nI k) u = if w.2 (108 + 2 * t) (j + k) = (SH cl g N k).toInt64 then some (.inl (nI (k + 1), v)) else some (.inr (.inl (nI k, v))) := by
          unfold fX7_judge_b61
          rw [Ku.2.2.1, if_neg (nI_ge hkN (by omega)), if_neg hA, c1 (107 + 2 * t) (by omega), h1, if_pos ((pu_pos_lt hj (by omega) hz).mpr (by omega)), nI_add]
          unfold fX6_itemAt
          rw [c1 (107 + 2 * t) (by omega), h1, if_neg (nI_pos (by omega)), if_neg (nI_ge (show j + k < z by omega) (by omega)), if_neg (nI_ge (show j + k < 60 by omega) (by decide)), pu_ck (show j + k < 60 by omega) (by decide), pu_bp, pu_cl (by omega), Ku.2.2.2.2.2.2.1, Ku.2.2.2.2.1, ev, pu_b, pu_lt, nI_1, c2, show 107 + 2 * t + 1 = 108 + 2 * t by omega]
          by_cases q : w.2 (108 + 2 * t) (j + k) = (SH cl g N k).toInt64
          · rw [if_pos ((lg_cmp_eq _ _).mpr q), if_pos q]
          · rw [if_neg (fun y => q ((lg_cmp_eq _ _).mp y)), if_neg q]
        rw [if_neg hz2]
        by_cases q : w.2 (108 + 2 * t) (j + k) = (SH cl g N k).toInt64
        · rw [if_pos q] at e0 ⊢
          rw [pu_it0 (fun z => fX7_judge_b61 n a1 (nI j) (107 + 2 * t) z.1 z.2) (a := (nI k, u)) e0]
          exact ih (k + 1) (by omega) m' (by omega) v (fun q hq => (v1 q hq).trans (c1 q hq)) (v2.trans c2)
        · rw [if_neg q] at e0 ⊢
          rw [pu_it1 (fun z => fX7_judge_b61 n a1 (nI j) (107 + 2 * t) z.1 z.2) (a := (nI k, u)) e0, pu_bp]
          exact ⟨v, rfl, fun q hq => (v1 q hq).trans (c1 q hq), v2.trans c2⟩
theorem pm_judge {n N t z : Nat} {A : Int32} {w : xw_M} {I : Nat → Int64} {S : Nat → Int32} (hN : N ≤ 6) (ht : t < 6) (hz : z ≤ 60) (h60 : w.1 120 60 = nI N) (h138 : w.1 138 t = nI z) (hI : ∀ j, j < z → w.2 139 (60 * t + j) = I j) (hS : ∀ k, k < N → w.1 132 k = S k) : ∀ e k, e + k = N → ∀ m, e < m → xw_bp (xw_it (fun z => fX8_judge_b38 n (nI t) A z w) m (nI k)) (fun z => xw_su z (fun r => some r) (fun _ => fX8_judge_110 n (nI t) A w)) = some (pg_jd A z I S e k, w) := by
  intro e
  induction e with
  | zero =>
    intro k hk m hm
    obtain ⟨m', rfl⟩ : ∃ m', m = m' + 1 := ⟨m - 1, by omega⟩
    have step : fX8_judge_b38 n (nI t) A (nI k) w = some (.inr (.inr ())) := by
      unfold fX8_judge_b38
      rw [pu_n60, pu_c60, h60, if_pos (nI_le (by omega) (by omega))]
    rw [pu_it1 (fun z => fX8_judge_b38 n (nI t) A z w) step, pu_bp]
    rfl
  | succ e ih =>
    intro k hk m hm
    obtain ⟨m', rfl⟩ : ∃ m', m = m' + 1 := ⟨m - 1, by omega⟩
    have hkN : k < N := by omega
    have ej : pg_jd A z I S (e + 1) k = if A < 0 then nI (100 + k) else if z ≤ A.toNatClampNeg + k then nI (100 + k) else if I (A.toNatClampNeg + k) = (S k).toInt64 then pg_jd A z I S e (k + 1) else nI k := rfl
    have h100 : (100 : Int32) + nI k = nI (100 + k) := nI_add 100 k
    rw [ej]
    by_cases hA : A < 0
    · have step : fX8_judge_b38 n (nI t) A (nI k) w = some (.inr (.inl (nI (100 + k), w))) := by
        unfold fX8_judge_b38
        rw [pu_n60, pu_c60, h60, if_neg (nI_ge hkN (by omega)), pu_lt, if_pos hA, h100]
      rw [if_pos hA, pu_it1 (fun z => fX8_judge_b38 n (nI t) A z w) step, pu_bp]
      rfl
    · obtain ⟨j, hj, rfl⟩ := nI_of hA
      rw [if_neg hA, pu_cl hj]
      have hl : (nI j).toInt64 + (nI k).toInt64 = lN (j + k) := by rw [nI_l hj, nI_l (by omega), lN_add]
      have e0 : fX8_judge_b38 n (nI t) (nI j) (nI k) w = if z ≤ j + k then some (.inr (.inl (nI (100 + k), w))) else if I (j + k) = (S k).toInt64 then some (.inl (nI (k + 1))) else some (.inr (.inl (nI k, w))) := by
        unfold fX8_judge_b38
        rw [pu_n60, pu_c60, h60, if_neg (nI_ge hkN (by omega)), hl, pu_lt, if_neg hA, pu_ck ht (by decide), pu_cl (by omega), h138, nI_l (show z < 2 ^ 31 by omega)]
        by_cases q : z ≤ j + k
        · rw [if_neg (fun y => by have := (pk_lLT (by omega) (by omega)).mp ((lg_cmp_lt _ _).mp y); omega), if_pos q, h100]
        · rw [if_pos ((lg_cmp_lt _ _).mpr ((pk_lLT (by omega) (by omega)).mpr (by omega))), if_neg q, lN_i, show (60 : Int32) * nI t = nI (60 * t) from pk_mul 60 t, nI_add, pu_ck (show 60 * t + (j + k) < 360 by omega) (by decide), pu_ck (show k < 6 by omega) (by decide), pu_cl (show 60 * t + (j + k) < 2 ^ 31 by omega), pu_cl (show k < 2 ^ 31 by omega), hI (j + k) (by omega), hS k hkN, pu_lt, nI_1]
          by_cases q2 : I (j + k) = (S k).toInt64
          · rw [if_pos ((lg_cmp_eq _ _).mpr q2), if_pos q2]
          · rw [if_neg (fun y => q2 ((lg_cmp_eq _ _).mp y)), if_neg q2]
      by_cases hz2 : z ≤ j + k
      · rw [if_pos hz2] at e0 ⊢
        rw [pu_it1 (fun z => fX8_judge_b38 n (nI t) (nI j) z w) e0, pu_bp]
        rfl
      · rw [if_neg hz2] at e0 ⊢
        by_cases q : I (j + k) = (S k).toInt64
        · rw [if_pos q] at e0 ⊢
          rw [pu_it0 (fun z => fX8_judge_b38 n (nI t) (nI j) z w) e0]
          have := ih (k + 1) (by omega) m' (by omega)
          exact this
        · rw [if_neg q] at e0 ⊢
          rw [pu_it1 (fun z => fX8_judge_b38 n (nI t) (nI j) z w) e0, pu_bp]
          rfl
theorem st_judge (n : Nat) (hn : 2000 ≤ n) : xs_judge n Rel := by
  intro a A w hR
  obtain ⟨p, N, M, cl, Z⟩ := pu_Z_of hR
  obtain ⟨K, -, hpa, hp, -, ho, hA, X⟩ := id Z
  obtain ⟨R, c1, hS, -, -, -, a6, -, -, -, -, hT, -⟩ := id hR
  have hN := K.1
  by_cases h : 0 ≤ a ∧ a ≤ 5
  case neg => exact ⟨-1, w, w, by unfold fX7_judge; rw [pu_tapeNo w h, pu_bp, pu_om0], by unfold fX8_judge; rw [pu_isTape, pu_bp, pu_biF h, if_pos rfl], hR⟩
  obtain ⟨t, ht, rfl, e⟩ := pu_tapeAt w h
  obtain ⟨t0, ⟨s, hs, t1⟩, ⟨z, t2, t3, t4, -⟩, t5⟩ := hT t ht
  obtain ⟨g, hg⟩ : ∃ g, g = w.1 120 := ⟨_, rfl⟩
  have key : ∃ (r : Int32) (w1 w2 : xw_M), fX7_judge_30 n (nI t) A (107 + 2 * t) w = some (r, w1) ∧ fX8_judge_32 n (nI t) A w1 = some (r, w2) ∧ pc_F w w1 ∧ Rel w2 := by
    unfold fX7_judge_30
    by_cases h0 : N = 0
    · have hw0 : w.1 1 0 = 0 := by rw [K.2.2.1, h0]; rfl
      obtain ⟨v, ev, fv, sv⟩ := pm_share X.1 X.2.1 hn hN X.2.2.2.1 X.2.2.2.2
      refine ⟨-5, w, v, by rw [if_pos hw0], ?_, pc_F_rf w, Rel_ask hR (pc_F_rf w) fv⟩
      unfold fX8_judge_32 fX8_judge_38
      rw [ev, pu_b]
      exact pm_judge (n := n) (A := A) (z := z) (I := fun j => v.2 139 (60 * t + j)) (S := fun k => v.1 132 k) hN ht t2 (pm_X_fs X fv).2.2.2.1 (by rw [fv.1 138 (by decide) (by decide) (by decide) (by decide) (by decide)]; exact t4) (fun _ _ => rfl) (fun _ _ => rfl) 0 0 (by omega) n (by omega)
    · have hw0 : ¬ w.1 1 0 = 0 := by rw [K.2.2.1]; exact nI_ne0 (by omega) (by omega)
      obtain ⟨w1, e1, f1, f2, R1⟩ := pc_look hn (by decide) hp ho hA K
      have F1 := pc_F_look f1 f2
      have K1 := pc_K1 F1 K
      rw [← hg] at K1 R1
      obtain ⟨w2, e2, g1, g2⟩ := pc_judge (a1 := nI t) (A := A) hn K1 R1 ht t2 (by rw [f1 _ (by omega) (by omega)]; exact t3) N 0 (by omega) n (by omega) w1 (fun _ _ => rfl) rfl
      have F2 := pc_F_tr F1 (pc_F_67 g1 g2)
      have X2 := pc_X F2 X
      have t120 : w2.1 120 = g := (pc_120 F2).trans hg.symm
      obtain ⟨v, ev, fv, sv⟩ := pm_share X2.1 X2.2.1 hn hN X2.2.2.2.1 X2.2.2.2.2
      rw [t120] at sv
      refine ⟨pg_jd A z (fun j => w1.2 (108 + 2 * t) j) (SH cl g N) N 0, w2, v, ?_, ?_, F2, Rel_ask hR F2 fv⟩
      · rw [if_neg hw0, pu_held Z rfl, e1, pu_b]
        unfold fX7_judge_61
        exact e2
      · unfold fX8_judge_32 fX8_judge_38
        rw [ev, pu_b]
        refine pm_judge (n := n) (A := A) hN ht t2 (pm_X_fs X2 fv).2.2.2.1 ?_ (fun j hj => ?_) sv N 0 (by omega) n (by omega)
        · rw [fv.1 138 (by decide) (by decide) (by decide) (by decide) (by decide), F2.1 138 (by omega) (by omega) (by omega) (by omega)]; exact t4
        · rw [fv.2.1, F2.2, f2]; exact (t5 j (by omega)).symm
  have h7 : fX7_judge n (nI t) A w = if w.1 137 t = -1 then fX7_judge_30 n (nI t) A (107 + 2 * t) w else if w.1 137 t = 1 then fX7_judge_30 n (nI t) A (107 + 2 * t) w else some (-12, w) := by
    unfold fX7_judge
    rw [e, pu_bp, pu_om1, pu_ccT (pu_tp ht)]
    unfold fX6_holdsRow
    rw [t0]
    by_cases hm : w.1 137 t = -1
    · rw [if_pos hm, pu_bp, if_pos rfl, if_pos hm]
    · rw [if_neg hm, pu_bp, if_neg (by decide), if_neg hm]
  have h8 : ∀ u : xw_M, fX8_judge n (nI t) A u = if u.1 137 t = -1 then fX8_judge_32 n (nI t) A u else if u.1 137 t = 1 then fX8_judge_32 n (nI t) A u else some (-12, u) := by
    intro u
    unfold fX8_judge
    rw [pu_isTape, pu_bp, pu_biT h, if_neg (by decide), pu_ck ht (by decide), pu_ck ht (by decide), pu_cl (show t < 2 ^ 31 by omega)]
  obtain ⟨r, w1, w2, k1, k2, k3, k4⟩ := key
  have k137 : w1.1 137 t = w.1 137 t := by rw [k3.1 137 (by omega) (by omega) (by omega) (by omega)]
  by_cases hm : w.1 137 t = -1
  · exact ⟨r, w1, w2, by rw [h7, if_pos hm]; exact k1, by rw [h8, k137, if_pos hm]; exact k2, k4⟩
  · by_cases h1 : w.1 137 t = 1
    · exact ⟨r, w1, w2, by rw [h7, if_neg hm, if_pos h1]; exact k1, by rw [h8, k137, if_neg hm, if_pos h1]; exact k2, k4⟩
    · exact ⟨-12, w, w, by rw [h7, if_neg hm, if_neg h1], by rw [h8, if_neg hm, if_neg h1], hR⟩
