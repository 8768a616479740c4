/-! ===== still, gains, told ===== -/
def pg_st (cl : List pg_Cl) (N : Nat) (g : Nat → Int32) : Nat → Nat → Int32
  | 0, _ => -5
  | e + 1, k => if (pg_mv cl N (DN cl N 2147483647 g k) N).2 = 0 then nI k else pg_st cl N g e (k + 1)
theorem pg_mv0 {cl : List pg_Cl} {N : Nat} (hN : N ≤ 6) (g : Nat → Int32) : nI (pg_mv cl N g N).2 = 0 ↔ (pg_mv cl N g N).2 = 0 := by
  have := (pg_mv_eq cl N g N hN).2
  exact nI_eq (b := 0) (by omega) (by decide)
theorem pc_still {n p N M : Nat} {cl : List pg_Cl} {w : xw_M} (hn : 2000 ≤ n) (Z : pu_Z w p N M cl) : ∀ e k, e + k = 21 → ∀ m, e < m → ∀ u, pc_F w u → rK u.1 17 (DN cl N 2147483647 (w.1 120) k) N M → ∃ v, xw_bp (xw_it (fun z => fX7_still_b13 n z.1 z.2) m (nI k, u)) (fun z => xw_su z (fun r => some r) (fun z => (fun (w : xw_M) => fX7_still_47 n w) z)) = some (pg_st cl N (w.1 120) e k, v) ∧ pc_F w v := by
  obtain ⟨K, -, hpa, hp, -, ho, hA, X⟩ := id Z
  have hN := K.1
  intro e
  induction e with
  | zero =>
    intro k hk m hm u Fu Ku
    obtain ⟨m', rfl⟩ : ∃ m', m = m' + 1 := ⟨m - 1, by omega⟩
    have hk0 : k = 21 := by omega
    subst hk0
    refine ⟨u, ?_, Fu⟩
    have step : fX7_still_b13 n (nI 21) u = some (.inr (.inr u)) := by
      unfold fX7_still_b13
      rw [if_pos (show (20 : Int32) < nI 21 by decide)]
    rw [pu_it1 (fun z => fX7_still_b13 n z.1 z.2) (a := (nI 21, u)) step, pu_bp]
    rfl
  | succ e ih =>
    intro k hk m hm u Fu Ku
    obtain ⟨m', rfl⟩ : ∃ m', m = m' + 1 := ⟨m - 1, by omega⟩
    obtain ⟨v, ev, g1, g2, g3, Kv⟩ := pc_goDay (2147483647 : Int32) hn (by decide) hp ho (pc_A Fu hp hA) Ku
    have Fv := pc_F_tr Fu (pc_F_day g1 g2)
    have es : pg_st cl N (w.1 120) (e + 1) k = if (pg_mv cl N (DN cl N 2147483647 (w.1 120) k) N).2 = 0 then nI k else pg_st cl N (w.1 120) e (k + 1) := rfl
    have e0 : fX7_still_b13 n (nI k) u = if (pg_mv cl N (DN cl N 2147483647 (w.1 120) k) N).2 = 0 then some (.inr (.inl (nI k, v))) else some (.inl (nI (k + 1), v)) := by
      unfold fX7_still_b13
      rw [if_neg (show ¬ (20 : Int32) < nI k from nI_nlt (a := 20) (by omega) (by decide)), pu_held Z (pc_10 Fu), ev, pu_b, pu_lt, nI_1]
      by_cases q : (pg_mv cl N (DN cl N 2147483647 (w.1 120) k) N).2 = 0
      · rw [if_pos ((pg_mv0 hN _).mpr q), if_pos q]
      · rw [if_neg (fun z => q ((pg_mv0 hN _).mp z)), if_neg q]
    rw [es]
    by_cases q : (pg_mv cl N (DN cl N 2147483647 (w.1 120) k) N).2 = 0
    · rw [if_pos q] at e0 ⊢
      refine ⟨v, ?_, Fv⟩
      rw [pu_it1 (fun z => fX7_still_b13 n z.1 z.2) (a := (nI k, u)) e0, pu_bp]
      rfl
    · rw [if_neg q] at e0 ⊢
      rw [pu_it0 (fun z => fX7_still_b13 n z.1 z.2) (a := (nI k, u)) e0]
      exact ih (k + 1) (by omega) m' (by omega) v Fv Kv
theorem pm_still {n N : Nat} {cl : List pg_Cl} {g : Nat → Int32} {k1 : xw_M} (hn : 2000 ≤ n) (hN : N ≤ 6) : ∀ e k, e + k = 21 → ∀ m, e + 1 < m → ∀ u, pm_Fg k1 u → u.1 120 = DN cl N 2147483647 g k → pm_X cl N u → ∃ v, xw_it (fun z => fX8_still_b10 n z.1 z.2.1 z.2.2) m ((-5 : Int32), nI k, u) = some (pg_st cl N g e k, v) ∧ pm_Fg k1 v ∧ ∃ k', v.1 120 = DN cl N 2147483647 g k' := by
  intro e
  induction e with
  | zero =>
    intro k hk m hm u Fu gu Xu
    obtain ⟨m', rfl⟩ : ∃ m', m = m' + 1 := ⟨m - 1, by omega⟩
    have hk0 : k = 21 := by omega
    subst hk0
    refine ⟨u, pu_it1 _ ?_, Fu, 21, gu⟩
    show fX8_still_b10 n (-5) (nI 21) u = _
    unfold fX8_still_b10
    rw [if_pos (show (20 : Int32) < nI 21 by decide)]
    rfl
  | succ e ih =>
    intro k hk m hm u Fu gu Xu
    obtain ⟨m', rfl⟩ : ∃ m', m = m' + 1 := ⟨m - 1, by omega⟩
    obtain ⟨v, ev, f1, g1, Xv⟩ := pm_day Xu hn 0 2147483647 (Or.inl ⟨rfl, rfl⟩)
    rw [gu] at ev g1
    have Fv := pm_Fg_tr Fu f1
    have es : pg_st cl N g (e + 1) k = if (pg_mv cl N (DN cl N 2147483647 g k) N).2 = 0 then nI k else pg_st cl N g e (k + 1) := rfl
    have e0 : fX8_still_b10 n (-5) (nI k) u = if (pg_mv cl N (DN cl N 2147483647 g k) N).2 = 0 then some (.inl (nI k, nI (k + 1), v)) else some (.inl (-5, nI (k + 1), v)) := by
      unfold fX8_still_b10
      rw [if_neg (show ¬ (20 : Int32) < nI k from nI_nlt (a := 20) (by omega) (by decide)), if_pos rfl, ev, pu_b]
      unfold fX8_still_36
      rw [pu_lt, pu_lt, nI_1]
      by_cases q : (pg_mv cl N (DN cl N 2147483647 g k) N).2 = 0
      · rw [if_pos ((pg_mv0 hN _).mpr q), if_pos q]
      · rw [if_neg (fun z => q ((pg_mv0 hN _).mp z)), if_neg q]
    rw [es]
    by_cases q : (pg_mv cl N (DN cl N 2147483647 g k) N).2 = 0
    · rw [if_pos q] at e0 ⊢
      obtain ⟨m2, rfl⟩ : ∃ m2, m' = m2 + 1 := ⟨m' - 1, by omega⟩
      have e1 : fX8_still_b10 n (nI k) (nI (k + 1)) v = some (.inr (nI k, v)) := by
        unfold fX8_still_b10
        by_cases c : (20 : Int32) < nI (k + 1)
        · rw [if_pos c]
        · rw [if_neg c, if_neg (show ¬ nI k = -5 from fun z => by have := nI_pos' (n := k) (by omega); rw [z] at this; exact absurd this (by decide))]
      exact ⟨v, (pu_it0 (fun z => fX8_still_b10 n z.1 z.2.1 z.2.2) (a := (-5, nI k, u)) e0).trans (pu_it1 (fun z => fX8_still_b10 n z.1 z.2.1 z.2.2) (a := (nI k, nI (k + 1), v)) e1), Fv, k + 1, g1⟩
    · rw [if_neg q] at e0 ⊢
      rw [pu_it0 (fun z => fX8_still_b10 n z.1 z.2.1 z.2.2) (a := (-5, nI k, u)) e0]
      exact ih (k + 1) (by omega) m' (by omega) v Fv g1 Xv
theorem st_still {w : xw_M} {n : Nat} (hn : 2000 ≤ n) (hR : Rel w) : ∃ (r : Int32) (w1 w2 : xw_M), fX7_still n w = some (r, w1) ∧ fX8_still n w1 = some (r, w2) ∧ Rel w2 := by
  obtain ⟨p, N, M, cl, Z⟩ := pu_Z_of hR
  obtain ⟨K, -, hpa, hp, -, ho, hA, X⟩ := id Z
  have hN := K.1
  obtain ⟨w0, e0, T0⟩ := pu_tk w
  obtain ⟨w1, e1, F1⟩ := pc_still hn Z 21 0 rfl n (by omega) w0 (pc_F_take T0) (rK_take K T0)
  have w120 := pc_120 F1
  obtain ⟨k1, ek, ka, kb, kc⟩ := pm_keep hn w1
  obtain ⟨v, ev, fv, k', gv⟩ := pm_still (cl := cl) (g := w.1 120) hn hN 21 0 rfl n (by omega) k1 (pm_Fg_rf k1) ((ka 120 (by decide)).trans w120) (pm_Xk ka (pc_X F1 X))
  obtain ⟨u, eu, ua, ub, uc⟩ := pm_lay hn v
  obtain ⟨Ru, -⟩ := Rel_lay hR F1 ka kb kc (fun k h1 h2 h3 h4 h5 h6 _ => fv.1 k h1 h2 h3 h4 h5 h6) fv.2.1 fv.2.2 (fun j hj => by rw [gv, DN_eq hN _ _ (fun m hm => ⟨by omega, by omega⟩) (by omega), ka 120 (by decide), w120]) ua ub uc
  refine ⟨pg_st cl N (w.1 120) 21 0, w1, u, ?_, ?_, Ru⟩
  · unfold fX7_still fX7_still_13
    rw [e0, pu_b]
    exact e1
  · unfold fX8_still fX8_still_10
    rw [ek, pu_b, show (0 : Int32) = nI 0 from rfl, ev, pu_bp]
    show fX8_still_43 n _ v = _
    unfold fX8_still_43
    rw [eu, pu_b]
theorem pc_worth2 {n b N M i y : Nat} {gk g : Nat → Int32} {cl : List pg_Cl} {w : xw_M} (hn : 2000 ≤ n) (hb : b + 7 ≤ 58) (K : rK w.1 b gk N M) (R : pc_R cl g N w.1) (hs : ∀ j, j < 62 → (∀ m, m < 6 → j ≠ 10 * m + 5) → gk j = g j) (hi : i < N) (hy : y ≤ 9) : ∃ w', fX4_worth n b (nI i) (nI y) w = some (WO cl N g i y, w') ∧ (∀ k, k ≠ 67 → w'.1 k = w.1 k) ∧ w'.2 = w.2 := by
  have hN := K.1
  have hM := pu_M64 hN K.2.1
  have hbs := pu_bset2 N (by omega) M K.2.1 i hi
  obtain ⟨w', e, f1, f2⟩ := pc_pays (n := n) (D := g 61) (B := M &&& (63 - 2 ^ i)) (P := fun m z => pg_rt cl g m z) (Y := pg_y gk) hn hb hN K.2.2.1 (fun m hm => ⟨(rK_y K hm).1, (rK_y K hm).2.2⟩) (fun m z hm hz => R m z hm hz) (Nat.lt_of_le_of_lt Nat.and_le_left hM) hi hy
  refine ⟨w', ?_, f1, f2⟩
  unfold fX4_worth
  rw [K.2.2.2.2.1, (pu_bset M hM i (by omega)).2, pu_lt, pu_at w (show i < 6 by omega) (by decide), pu_bp, (K.2.2.2.2.2.1.1 i hi).2.2.1, pu_lt, K.2.2.2.2.2.2.1, hs 61 (by decide) (by omega), hs (10 * i + 2) (by omega) (by omega), e, pu_b]
  unfold WO
  congr 3
  unfold SH
  rw [show pg_w1 g i y 61 = g 61 by unfold pg_w1; rw [pk_un (by omega), pk_un (by omega)]]
  refine sh_cong _ hi (fun m hm _ => ?_) (fun m hm => ?_)
  · show pg_rt cl g m (if m = i then y else pg_y gk m) = pg_rt cl (pg_w1 g i y) m (pg_y (pg_w1 g i y) m)
    have e1 : pg_y (pg_w1 g i y) m = if m = i then y else pg_y gk m := by
      unfold pg_y pg_w1
      rw [pk_un (by omega)]
      by_cases q : m = i
      · rw [if_pos q, q, pk_us, pu_cl (by omega)]
      · rw [if_neg q, pk_un (by omega), hs (10 * m + 3) (by omega) (by omega)]
    rw [e1]
    refine (pg_rt_cong _ (fun j hj => ?_)).symm
    unfold pg_w1
    rw [pk_un (by omega), pk_un (by omega)]
  · show (!(M &&& (63 - 2 ^ i)).testBit m) = pg_he (pg_w1 g i y) m
    rw [(hbs.2.2 m (by omega)).2]
    have hh := pg_he_M K hm
    unfold pg_he at hh
    rw [hs (10 * m + 4) (by omega) (by omega)] at hh
    unfold pg_he pg_w1
    by_cases q : m = i
    · rw [if_pos q, q, pk_us]; rfl
    · rw [if_neg q, pk_un (by omega), pk_un (by omega), ← hh]
def pg_gn (cl : List pg_Cl) (N : Nat) (gm g : Nat → Int32) : Nat → Int32
  | 0 => 0
  | k + 1 => if g (10 * k + 4) = 0 ∧ ¬ WO cl N gm k (pg_y gm k) ≤ WO cl N g k (pg_y g k) then pg_gn cl N gm g k ||| ((1 : Int32) <<< (nI k &&& 31)) else pg_gn cl N gm g k
theorem st_gains {w : xw_M} {n : Nat} (hn : 2000 ≤ n) (hR : Rel w) : ∃ (r : Int32) (w1 w2 : xw_M), fX7_gains n w = some (r, w1) ∧ fX8_gains n w1 = some (r, w2) ∧ Rel w2 := by
  obtain ⟨p, N, M, cl, Z⟩ := pu_Z_of hR
  obtain ⟨K, -, hpa, hp, -, ho, hA, X⟩ := id Z
  have hN := K.1
  obtain ⟨g, hg⟩ : ∃ g, g = w.1 120 := ⟨_, rfl⟩
  obtain ⟨gm, hgm⟩ : ∃ gm, gm = (pg_mv cl N g N).1 := ⟨_, rfl⟩
  have mvh : ∀ j, (∀ m, m < N → j ≠ 10 * m + 3) → gm j = g j := fun j hj => by rw [hgm]; exact (pg_mv_eq cl N g N hN).1 j hj
  obtain ⟨w0, e0, T0⟩ := pu_tk w
  have F0 := pc_F_take T0
  obtain ⟨w1, e1, a1, a2, a3, K17⟩ := pc_goDay (2147483647 : Int32) hn (by decide) hp ho (pc_A F0 hp hA) (rK_take K T0)
  have F1 := pc_F_tr F0 (pc_F_day a1 a2)
  obtain ⟨w2, e2, b1, b2, R2⟩ := pc_look hn (by decide) hp ho (pc_A F1 hp hA) (pc_K1 F1 K)
  have F2 := pc_F_tr F1 (pc_F_look b1 b2)
  have K2 := pc_K1 F2 K
  have K17' : rK w2.1 17 (DY cl N 2147483647 (w.1 120)) N M := rK_cong (fun k h1 h2 => b1 k (by omega) (by omega)) K17
  rw [← hg] at K2 K17' R2
  have hs : ∀ j, j < 62 → (∀ m, m < 6 → j ≠ 10 * m + 5) → DY cl N 2147483647 g j = gm j := by
    intro j hj h5
    unfold DY
    rw [pk_un (by omega), pg_py_eq _ _ _ _ _ _ (fun m hm => h5 m (by omega)), hgm]
  have Rm : pc_R cl gm N w2.1 := pc_R_cong rfl (fun i hi j hj => mvh j (by omega)) R2
  obtain ⟨⟨r, w3⟩, e3, hr, F3⟩ : ∃ y : Int32 × xw_M, xw_it (fun z => fX7_gains_b48 n z.1 z.2.1 z.2.2) n ((0 : Int32), (0 : Int32), w2) = some y ∧ y.1 = pg_gn cl N gm g N ∧ pc_F w y.2 := by
    refine pu_inv (fun z => fX7_gains_b48 n z.1 z.2.1 z.2.2) (fun k z => k ≤ N ∧ z.1 = pg_gn cl N gm g k ∧ z.2.1 = nI k ∧ (∀ q, q ≠ 67 → z.2.2.1 q = w2.1 q) ∧ z.2.2.2 = w2.2) N _ ?_ ?_ n 0 _ (by omega) (by omega) ⟨by omega, rfl, rfl, fun _ _ => rfl, rfl⟩
    · rintro k ⟨x1, x2, u⟩ hk ⟨-, rfl, rfl, c1, c2⟩
      have k6 : k < 6 := by omega
      have Ku : rK u.1 1 g N M := rK_cong (fun q q1 q2 => c1 q (by omega)) K2
      have Ku17 : rK u.1 17 (DY cl N 2147483647 g) N M := rK_cong (fun q q1 q2 => c1 q (by omega)) K17'
      have Ru : pc_R cl g N u.1 := pc_R_cong (c1 65 (by decide)) (fun _ _ _ _ => rfl) R2
      have Rmu : pc_R cl gm N u.1 := pc_R_cong (c1 65 (by decide)) (fun _ _ _ _ => rfl) Rm
      have ym : pg_y (DY cl N 2147483647 g) k = pg_y gm k := by unfold pg_y; rw [hs _ (by omega) (by omega)]
      obtain ⟨y9, -, y17⟩ := rK_y Ku17 hk
      rw [ym] at y9 y17
      obtain ⟨v, ev, v1, v2⟩ := pc_worth2 (y := pg_y gm k) hn (by decide) Ku17 Rmu hs hk y9
      have Kv : rK v.1 1 g N M := rK_cong (fun q q1 q2 => v1 q (by omega)) Ku
      have Rv : pc_R cl g N v.1 := pc_R_cong (v1 65 (by decide)) (fun _ _ _ _ => rfl) Ru
      obtain ⟨z9, -, z1⟩ := rK_y Kv hk
      obtain ⟨v', ev', w1', w2'⟩ := pc_worth (cl := cl) (y := pg_y g k) hn (by decide) Kv Rv hk z9
      have eg : pg_gn cl N gm g (k + 1) = if g (10 * k + 4) = 0 ∧ ¬ WO cl N gm k (pg_y gm k) ≤ WO cl N g k (pg_y g k) then pg_gn cl N gm g k ||| ((1 : Int32) <<< (nI k &&& 31)) else pg_gn cl N gm g k := rfl
      have fin : ∃ t : xw_M, fX7_gains_b48 n (pg_gn cl N gm g k) (nI k) u = some (.inl (pg_gn cl N gm g (k + 1), nI (k + 1), t)) ∧ (∀ q, q ≠ 67 → t.1 q = w2.1 q) ∧ t.2 = w2.2 := by
        rw [eg]
        unfold fX7_gains_b48
        rw [Ku.2.2.1, if_neg (nI_ge hk (by omega)), pc_away Ku hk, pu_bp]
        unfold fX7_gains_125
        by_cases q : g (10 * k + 4) = 0
        · rw [if_pos q, if_pos rfl, pu_at u k6 (by decide), pu_bp, y17, ev, pu_b, pu_at v k6 (by decide), pu_bp, z1, ev', pu_b, pu_lt, pu_lt, pu_lt, nI_1]
          refine ⟨v', ?_, fun q hq => (w1' q hq).trans ((v1 q hq).trans (c1 q hq)), w2'.trans (v2.trans c2)⟩
          by_cases q2 : WO cl N gm k (pg_y gm k) ≤ WO cl N g k (pg_y g k)
          · rw [if_pos q2, if_neg (fun z => z.2 q2)]
          · rw [if_neg q2, if_pos ⟨q, q2⟩]
        · rw [if_neg q, if_neg (by decide), pu_lt, nI_1, if_neg (fun z => q z.1)]
          exact ⟨u, rfl, c1, c2⟩
      obtain ⟨t, t1, t2, t3⟩ := fin
      exact Or.inl ⟨_, t1, by omega, rfl, rfl, t2, t3⟩
    · rintro ⟨x1, x2, u⟩ ⟨-, rfl, rfl, c1, c2⟩
      refine ⟨(pg_gn cl N gm g N, u), ?_, rfl, pc_F_tr F2 (pc_F_67 c1 c2)⟩
      show fX7_gains_b48 n _ (nI N) u = _
      unfold fX7_gains_b48
      rw [show u.1 1 0 = nI N by rw [show u.1 1 = w2.1 1 from c1 1 (by decide)]; exact K2.2.2.1, if_pos (nI_le (Nat.le_refl _) (by omega))]
  simp only [] at hr F3
  subst hr
  have w120 := pc_120 F3
  obtain ⟨k1, ek, ka, kb, kc⟩ := pm_keep hn w3
  have X3 := pc_X F3 X
  obtain ⟨v, ev, fv, gv, Xv⟩ := pm_moves (pm_Xk ka X3) hn
  rw [(ka 120 (by decide)).trans w120, ← hg] at ev gv
  rw [← hgm] at gv
  obtain ⟨v2, ev2, fv2, gv2, hv2⟩ : ∃ r : xw_M, xw_it (fun z => fX8_gains_b14 n (0 : Int32) z.1 z.2) n ((0 : Int32), v) = some r ∧ ((∀ k, k ≠ 119 → k ≠ 126 → k ≠ 127 → k ≠ 131 → k ≠ 132 → k ≠ 133 → r.1 k = v.1 k) ∧ r.2 = v.2 ∧ ∀ j, (j < 10 ∨ 15 < j) → r.1 119 j = v.1 119 j) ∧ pm_X cl N r ∧ ∀ i, i < N → r.1 133 i = WO cl N gm i (pg_y gm i) := by
    refine pu_inv (fun z => fX8_gains_b14 n (0 : Int32) z.1 z.2) (fun k z => k ≤ N ∧ z.1 = nI k ∧ ((∀ q, q ≠ 119 → q ≠ 126 → q ≠ 127 → q ≠ 131 → q ≠ 132 → q ≠ 133 → z.2.1 q = v.1 q) ∧ z.2.2 = v.2 ∧ ∀ j, (j < 10 ∨ 15 < j) → z.2.1 119 j = v.1 119 j) ∧ pm_X cl N z.2 ∧ ∀ i, i < k → z.2.1 133 i = WO cl N gm i (pg_y gm i)) N _ ?_ ?_ n 0 _ (by omega) (by omega) ⟨by omega, rfl, ⟨fun _ _ _ _ _ _ _ => rfl, rfl, fun _ _ => rfl⟩, Xv, fun i hi => absurd hi (by omega)⟩
    · rintro k ⟨x, u⟩ hk ⟨-, rfl, ⟨c1, c2, c3⟩, Xu, c4⟩
      have k6 : k < 6 := by omega
      have gu : u.1 120 = gm := (c1 120 (by decide) (by decide) (by decide) (by decide) (by decide) (by decide)).trans gv
      obtain ⟨y, hy, hyy⟩ := Xu.2.2.2.2 k hk
      obtain ⟨t, et, ft⟩ := pm_worth (y := y) Xu hn hk hy
      have ey : pg_y gm k = y := by unfold pg_y; rw [← gu, hyy, pu_cl (by omega)]
      have gt : t.1 120 = u.1 120 := pm_Fs_120 ft
      rw [gu, ← ey] at et
      refine Or.inl ⟨(nI (k + 1), xw_si t 133 k (WO cl N gm k (pg_y gm k))), ?_, by omega, rfl, ⟨fun q q1 q2 q3 q4 q5 q6 => ?_, ?_, fun j hj => ?_⟩, ?_, fun i hi => ?_⟩
      · show fX8_gains_b14 n (0 : Int32) (nI k) u = _
        unfold fX8_gains_b14
        rw [pu_n60, pu_c60, Xu.2.2.2.1, if_neg (nI_ge hk (by omega)), pu_o3 k6, pu_bp, hyy, ← ey, et, pu_b, pu_ck k6 (by decide), pu_cl (by omega), pu_lt, pu_lt, nI_1]
      · show (xw_si t 133 k _).1 q = _
        rw [pu_si0 _ _ _ q6, ft.1 q q1 q2 q3 q4 q5]; exact c1 q q1 q2 q3 q4 q5 q6
      · show t.2 = _
        rw [ft.2.1]; exact c2
      · show (xw_si t 133 k _).1 119 j = _
        rw [pu_si0 _ _ _ (by decide), ft.2.2 j hj]; exact c3 j hj
      · obtain ⟨x1, x2, x3, x4, x5⟩ := pm_X_fs Xu ft
        show pm_X cl N (xw_si t 133 k _)
        unfold pm_X pm_D
        rw [pu_si0 _ _ _ (show (128 : Nat) ≠ 133 by decide), pu_si0 _ _ _ (show (129 : Nat) ≠ 133 by decide), pu_si0 _ _ _ (show (130 : Nat) ≠ 133 by decide), pu_si0 _ _ _ (show (120 : Nat) ≠ 133 by decide)]
        exact ⟨x1, rH_cong (pu_si0 _ _ _ (by decide)) (pu_si0 _ _ _ (by decide)) rfl x2, x3, x4, x5⟩
      · show (xw_si t 133 k _).1 133 i = _
        rw [pu_si1]
        by_cases q : i = k
        · rw [q, pk_us]
        · rw [pk_un q, ft.1 133 (by decide) (by decide) (by decide) (by decide) (by decide)]; exact c4 i (by omega)
    · rintro ⟨x, u⟩ ⟨-, rfl, c1, Xu, c4⟩
      refine ⟨u, ?_, c1, Xu, c4⟩
      show fX8_gains_b14 n (0 : Int32) (nI N) u = _
      unfold fX8_gains_b14
      rw [pu_n60, pu_c60, Xu.2.2.2.1, if_pos (nI_le (Nat.le_refl _) (by omega))]
  obtain ⟨l, el, la, lb, lc⟩ := pm_lay hn v2
  obtain ⟨Rl, gl⟩ := Rel_lay hR F3 ka kb kc (fun k h1 h2 h3 h4 h5 h6 h7 => (fv2.1 k h1 h3 h4 h5 h6 h7).trans (fv.1 k h1 h2 h3 h4 h5 h6)) (fv2.2.1.trans fv.2.1) (fun j hj => (fv2.2.2 j hj).trans (fv.2.2 j hj)) (fun j hj => by rw [fv2.1 120 (by decide) (by decide) (by decide) (by decide) (by decide) (by decide), gv, mvh j (by omega), ka 120 (by decide), w120, hg]) la lb lc
  rw [w120, ← hg] at gl
  have Xl : pm_X cl N l := by
    obtain ⟨x1, x2, x3, x4, x5⟩ := gv2
    unfold pm_X pm_D
    rw [la 128 (by decide), la 129 (by decide), la 130 (by decide), gl]
    obtain ⟨y1, y2, y3, y4, y5⟩ := X
    rw [← hg] at y2 y4 y5
    refine ⟨x1, rH_cong ?_ ?_ rfl y2, x3, y4, y5⟩
    · rw [la 124 (by decide), fv2.1 124 (by decide) (by decide) (by decide) (by decide) (by decide) (by decide), fv.1 124 (by decide) (by decide) (by decide) (by decide) (by decide) (by decide), ka 124 (by decide), F3.1 124 (by omega) (by omega) (by omega) (by omega)]
    · rw [la 125 (by decide), fv2.1 125 (by decide) (by decide) (by decide) (by decide) (by decide) (by decide), fv.1 125 (by decide) (by decide) (by decide) (by decide) (by decide) (by decide), ka 125 (by decide), F3.1 125 (by omega) (by omega) (by omega) (by omega)]
  obtain ⟨⟨r2, z⟩, ez, hr2, fz⟩ : ∃ y : Int32 × xw_M, xw_it (fun z => fX8_gains_b55 n z.1 z.2.1 z.2.2) n ((0 : Int32), (0 : Int32), l) = some y ∧ y.1 = pg_gn cl N gm g N ∧ pm_Fs l y.2 := by
    refine pu_inv (fun z => fX8_gains_b55 n z.1 z.2.1 z.2.2) (fun k z => k ≤ N ∧ z.1 = pg_gn cl N gm g k ∧ z.2.1 = nI k ∧ pm_Fs l z.2.2) N _ ?_ ?_ n 0 _ (by omega) (by omega) ⟨by omega, rfl, rfl, pm_Fs_rf l⟩
    · rintro k ⟨x1, x2, u⟩ hk ⟨-, rfl, rfl, fu⟩
      have k6 : k < 6 := by omega
      have Xu := pm_X_fs Xl fu
      have gu : u.1 120 = g := (pm_Fs_120 fu).trans gl
      obtain ⟨y, hy, hyy⟩ := Xu.2.2.2.2 k hk
      obtain ⟨t, et, ft⟩ := pm_worth (y := y) Xu hn hk hy
      have ey : pg_y g k = y := by unfold pg_y; rw [← gu, hyy, pu_cl (by omega)]
      rw [gu, ← ey] at et
      have t133 : t.1 133 k = WO cl N gm k (pg_y gm k) := by
        rw [ft.1 133 (by decide) (by decide) (by decide) (by decide) (by decide), fu.1 133 (by decide) (by decide) (by decide) (by decide) (by decide), la 133 (by decide)]
        exact hv2 k hk
      have eg : pg_gn cl N gm g (k + 1) = if g (10 * k + 4) = 0 ∧ ¬ WO cl N gm k (pg_y gm k) ≤ WO cl N g k (pg_y g k) then pg_gn cl N gm g k ||| ((1 : Int32) <<< (nI k &&& 31)) else pg_gn cl N gm g k := rfl
      have fin : ∃ t' : xw_M, fX8_gains_b55 n (pg_gn cl N gm g k) (nI k) u = some (.inl (pg_gn cl N gm g (k + 1), nI (k + 1), t')) ∧ pm_Fs l t' := by
        rw [eg]
        unfold fX8_gains_b55
        rw [pu_n60, pu_c60, Xu.2.2.2.1, if_neg (nI_ge hk (by omega)), pm_isHere k6, pu_bp, gu]
        unfold fX8_gains_101 fX8_gains_102
        by_cases q : g (10 * k + 4) = 0
        · rw [if_pos q, if_neg (by decide), pu_ck k6 (by decide), pu_o3 k6, pu_bp, hyy, ← ey, et, pu_b, pu_cl (by omega), show u.1 133 k = t.1 133 k by rw [ft.1 133 (by decide) (by decide) (by decide) (by decide) (by decide)], t133]
          simp only [pu_lt, nI_1]
          refine ⟨t, ?_, pm_Fs_tr fu ft⟩
          by_cases q2 : WO cl N gm k (pg_y gm k) ≤ WO cl N g k (pg_y g k)
          · rw [if_pos q2, if_neg (fun z => z.2 q2), Int32.or_zero]
          · rw [if_neg q2, if_pos ⟨q, q2⟩]
        · simp only [pu_lt, nI_1]
          rw [if_neg q, if_pos rfl, if_neg (fun z => q z.1), Int32.or_zero]
          exact ⟨u, rfl, fu⟩
      obtain ⟨t', t1, t2⟩ := fin
      exact Or.inl ⟨_, t1, by omega, rfl, rfl, t2⟩
    · rintro ⟨x1, x2, u⟩ ⟨-, rfl, rfl, fu⟩
      refine ⟨(pg_gn cl N gm g N, u), ?_, rfl, fu⟩
      show fX8_gains_b55 n _ (nI N) u = _
      unfold fX8_gains_b55
      rw [pu_n60, pu_c60, (pm_X_fs Xl fu).2.2.2.1, if_pos (nI_le (Nat.le_refl _) (by omega))]
  simp only [] at hr2 fz
  subst hr2
  refine ⟨pg_gn cl N gm g N, w3, z, ?_, ?_, Rel_ask Rl (pc_F_rf l) fz⟩
  · unfold fX7_gains
    rw [e0, pu_b, pu_held Z (pc_10 F0), e1, pu_b, pu_held Z (pc_10 F1), e2, pu_b]
    unfold fX7_gains_48
    rw [e3, pu_bp]
    rfl
  · unfold fX8_gains fX8_gains_14
    rw [ek, pu_b, ev, pu_b, ev2, pu_bp]
    show fX8_gains_48 n (0 : Int32) v2 = _
    unfold fX8_gains_48 fX8_gains_55
    rw [el, pu_b, ez, pu_bp]
    rfl
theorem pu_awB : ∀ M, M < 64 → ∀ k, k < 6 → nI (M % 2 ^ k) ||| (if M.testBit k = true then ((1 : Int32) <<< (nI k &&& 31)) else 0) = nI (M % 2 ^ (k + 1)) := by decide +kernel
theorem pm_aways {w : xw_M} {n N M : Nat} {m : Nat → Nat → Int32} {b : Nat} (hn : 2000 ≤ n) (K : rK m b (w.1 120) N M) : fX8_aways n w = some (nI M) := by
  have hN := K.1
  have hM := pu_M64 hN K.2.1
  unfold fX8_aways fX8_aways_4
  have e : xw_it (fun z => fX8_aways_b4 n z.1 z.2 w) n ((0 : Int32), (0 : Int32)) = some (nI (M % 2 ^ N)) := by
    have e0 : ((0 : Int32), (0 : Int32)) = (fun k => (nI (M % 2 ^ k), nI k)) 0 := by
      show _ = (nI (M % 2 ^ 0), nI 0)
      rw [Nat.pow_zero, Nat.mod_one]
      rfl
    rw [e0]
    refine pu_up (fun z => fX8_aways_b4 n z.1 z.2 w) (fun k => (nI (M % 2 ^ k), nI k)) N _ (fun k hk => ?_) ?_ (by omega)
    · show fX8_aways_b4 n _ (nI k) w = _
      unfold fX8_aways_b4
      rw [pu_n60, pu_c60, K.2.2.2.1, if_neg (nI_ge hk (by omega)), pm_isHere (show k < 6 by omega), pu_bp, (K.2.2.2.2.2.1.1 k hk).2.2.2.2.1, ← pu_awB M hM k (by omega)]
      unfold fX8_aways_31
      simp only [pu_lt, nI_1]
      by_cases q : M.testBit k = true
      · rw [pu_biT q, if_neg (show ¬ (1 : Int32) = 0 by decide), if_pos (show (0 : Int32) = 0 from rfl), if_pos q]
      · rw [pu_biF q, if_pos (show (0 : Int32) = 0 from rfl), if_neg (show ¬ (1 : Int32) = 0 by decide), if_neg q]
    · show fX8_aways_b4 n _ (nI N) w = _
      unfold fX8_aways_b4
      rw [pu_n60, pu_c60, K.2.2.2.1, if_pos (nI_le (Nat.le_refl _) (by omega))]
  rw [e, pu_bp, Nat.mod_eq_of_lt K.2.1]
  rfl
theorem st_told (n : Nat) (hn : 2000 ≤ n) : xs_told n Rel := by
  intro a w hR
  obtain ⟨p, N, M, cl, Z⟩ := pu_Z_of hR
  obtain ⟨K, -, hpa, hp, -, ho, hA, X⟩ := id Z
  have hN := K.1
  unfold fX7_told fX8_told
  by_cases h0 : a = 0
  · exact ⟨w.1 120 62, w, w, by rw [if_pos h0, K.2.2.2.2.2.2.2], by rw [if_pos h0, pu_n62, pu_c62], hR⟩
  simp only [if_neg h0]
  by_cases h1 : a = 1
  · simp only [if_pos h1]
    obtain ⟨u, e, fu, -, u15⟩ := pm_readFor (i := 0) (y := 0) X.1 X.2.1 hn (by decide)
    refine ⟨nI (pg_fall cl 2), w, u, ?_, ?_, Rel_ask hR (pc_F_rf w) (pm_Fs_of fu)⟩
    · rw [pu_held Z rfl, hA.1]
    · rw [show (0 : Int32) = nI 0 from rfl, e, pu_b, u15]
  simp only [if_neg h1]
  by_cases h2 : a = 2
  · exact ⟨w.1 120 61, w, w, by rw [if_pos h2, K.2.2.2.2.2.2.1], by rw [if_pos h2, pu_n61, pu_c61], hR⟩
  simp only [if_neg h2]
  by_cases h3 : a = 3
  · exact ⟨nI M, w, w, by rw [if_pos h3, K.2.2.2.2.1], by rw [if_pos h3, pm_aways hn K, pu_bp], hR⟩
  simp only [if_neg h3]
  by_cases h4 : a = 4
  · obtain ⟨r, w1, w2, e1, e2, R2⟩ := st_still hn hR
    exact ⟨r, w1, w2, by rw [if_pos h4, e1, pu_b], by rw [if_pos h4, e2, pu_b], R2⟩
  simp only [if_neg h4]
  by_cases h5 : a = 5
  · obtain ⟨r, w1, w2, e1, e2, R2⟩ := st_gains hn hR
    exact ⟨r, w1, w2, by rw [if_pos h5, e1, pu_b], by rw [if_pos h5, e2, pu_b], R2⟩
  simp only [if_neg h5]
  by_cases h6 : a = 6
  · obtain ⟨r, w1, w2, e1, e2, R2⟩ := st_owed hn 0 1 (Or.inl ⟨rfl, rfl⟩) hR
    exact ⟨r, w1, w2, by rw [if_pos h6, e1, pu_b], by rw [if_pos h6, e2, pu_b], R2⟩
  simp only [if_neg h6]
  by_cases h7 : a = 7
  · obtain ⟨r, w1, w2, e1, e2, R2⟩ := st_owed hn 1 0 (Or.inr ⟨rfl, rfl⟩) hR
    exact ⟨r, w1, w2, by rw [if_pos h7, e1, pu_b], by rw [if_pos h7, e2, pu_b], R2⟩
  exact ⟨-1, w, w, by rw [if_neg h7], by rw [if_neg h7], hR⟩
