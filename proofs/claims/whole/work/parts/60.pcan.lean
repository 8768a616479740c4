/-! ===== can ===== -/
theorem pc_S_cong {m m' : Nat → Nat → Int32} {b : Nat} {g : Nat → Int32} (h : ∀ k, b + 7 ≤ k → k ≤ b + 9 → m' k = m k) (T : pc_S m b g) : pc_S m' b g := by
  unfold pc_S
  rw [h (b + 7) (by omega) (by omega), h (b + 7 + 1) (by omega) (by omega), h (b + 7 + 2) (by omega) (by omega)]
  exact T
theorem pc_S_g {m : Nat → Nat → Int32} {b : Nat} {g g' : Nat → Int32} (h : ∀ j, 64 ≤ j → g' j = g j) (T : pc_S m b g) : pc_S m b g' := by
  refine ⟨T.1.trans (h 64 (by omega)).symm, fun r hr h5 => ?_⟩
  rw [h 64 (by omega)] at hr
  rw [h (65 + 2 * r) (by omega), h (66 + 2 * r) (by omega)]
  exact T.2 r hr h5
theorem pg_S_g {g g' : Nat → Int32} {N : Nat} (h : ∀ j, 64 ≤ j → g' j = g j) (S : pg_S g N) : pg_S g' N := by
  obtain ⟨z, z5, z1, z2⟩ := S
  exact ⟨z, z5, (h 64 (by omega)).trans z1, fun r hr => by rw [h _ (by omega)]; exact z2 r hr⟩
theorem pc_S_take {w w' : xw_M} {g : Nat → Int32} (S : pc_S w.1 1 g) (T : pu_Tk 17 1 w w') : pc_S w'.1 17 g := by
  obtain ⟨-, -, -, -, -, t⟩ := T
  obtain ⟨t1, -, t2⟩ := t 7 (Or.inl rfl)
  exact ⟨t1.trans S.1, fun r hr h5 => ⟨(t2 r (by omega)).1.trans (S.2 r hr h5).1, (t2 r (by omega)).2.trans (S.2 r hr h5).2⟩⟩
theorem rK_vs {w : xw_M} {b N M i : Nat} {g : Nat → Int32} (K : rK w.1 b g N M) (hi : i < N) (v : Int32) : rK (xw_si w (b + 2) i v).1 b (upd g (10 * i + 1) v) N M := by
  obtain ⟨k1, k2, k3, k4, k5, k6, k7, k8⟩ := K
  unfold rK
  rw [pu_si1, pu_si0 _ _ _ (show b ≠ b + 2 by omega), pu_si0 _ _ _ (show b + 1 ≠ b + 2 by omega), pu_si0 _ _ _ (show b + 3 ≠ b + 2 by omega), pu_si0 _ _ _ (show b + 4 ≠ b + 2 by omega), pu_si0 _ _ _ (show b + 5 ≠ b + 2 by omega), pu_si0 _ _ _ (show b + 6 ≠ b + 2 by omega), pk_un (j := 60) (by omega), pk_un (j := 61) (by omega), pk_un (j := 62) (by omega)]
  exact ⟨k1, k2, k3, k4, k5, rM_vs v k6 k1 hi, k7, k8⟩
theorem upd_off {g g' : Nat → Int32} {k : Nat} (h : ∀ j, j ≠ k → g' j = g j) (v : Int32) : upd g' k v = upd g k v := by
  funext j
  by_cases q : j = k
  · rw [q, pk_us, pk_us]
  · rw [pk_un q, pk_un q, h j q]
theorem pc_can {n p N M i : Nat} {a2 : Int32} {cl : List pg_Cl} {w : xw_M} (hn : 2000 ≤ n) (Z : pu_Z w p N M cl) (S : pg_S (w.1 120) N) (hi : i < N) : ∀ e, e ≤ 1000 → ∀ m, e < m → ∀ (s : Int32 × Int32) (u : xw_M) (g' : Nat → Int32), pc_F w u → (∀ j, j ≠ 10 * i + 1 → g' j = w.1 120 j) → rK u.1 17 g' N M → pc_S u.1 17 (w.1 120) → ∃ v, xw_it (fun z => fX7_can_b42 n (nI i) a2 z.1 z.2.1 z.2.2.1 z.2.2.2) m (s.1, s.2, pg_xe e, u) = some ((pg_od (fun v => FT cl N (w.1 120 61) (upd (w.1 120) (10 * i + 1) (nI v))) e s).1, (pg_od (fun v => FT cl N (w.1 120 61) (upd (w.1 120) (10 * i + 1) (nI v))) e s).2, v) ∧ pc_F w v := by
  obtain ⟨K, -, hpa, hp, -, ho, hA, X⟩ := id Z
  have hN := K.1
  intro e
  induction e with
  | zero =>
    intro _ m hm s u g' Fu hg Ku Su
    obtain ⟨m', rfl⟩ : ∃ m', m = m' + 1 := ⟨m - 1, by omega⟩
    refine ⟨u, pu_it1 _ ?_, Fu⟩
    show fX7_can_b42 n (nI i) a2 s.1 s.2 (pg_xe 0) u = _
    unfold fX7_can_b42
    rw [if_pos pg_xe_0]
    rfl
  | succ e ih =>
    intro he m hm s u g' Fu hg Ku Su
    obtain ⟨m', rfl⟩ : ∃ m', m = m' + 1 := ⟨m - 1, by omega⟩
    obtain ⟨u1, hu1⟩ : ∃ u1, u1 = xw_si u (17 + 2) i (nI e) := ⟨_, rfl⟩
    have F1 : pc_F w u1 := ⟨fun k h1 h2 h3 h4 => by rw [hu1, pu_si0 _ _ _ (by omega)]; exact Fu.1 k h1 h2 h3 h4, by rw [hu1]; exact Fu.2⟩
    have K1 : rK u1.1 17 (upd (w.1 120) (10 * i + 1) (nI e)) N M := by
      rw [hu1, ← upd_off hg]
      exact rK_vs Ku hi _
    have S1 : pc_S u1.1 17 (w.1 120) := pc_S_cong (fun k h1 h2 => by rw [hu1, pu_si0 _ _ _ (by omega)]) Su
    obtain ⟨u2, e2, f1, f2, R2⟩ := pc_look hn (by decide) hp ho (pc_A F1 hp hA) K1
    have F2 := pc_F_tr F1 (pc_F_look f1 f2)
    have K2 : rK u2.1 17 (upd (w.1 120) (10 * i + 1) (nI e)) N M := rK_cong (fun q q1 q2 => f1 q (by omega) (by omega)) K1
    have S2 : pc_S u2.1 17 (w.1 120) := pc_S_cong (fun k h1 h2 => f1 k (by omega) (by omega)) S1
    have hi64 : ∀ j, 64 ≤ j → upd (w.1 120) (10 * i + 1) (nI e) j = w.1 120 j := fun j hj => pk_un (by omega)
    obtain ⟨u3, e3, g1, g2⟩ := pc_fits (D := w.1 120 61) hn (by decide) K2 R2 (pg_S_g hi64 S) (pc_S_g hi64 S2)
    have F3 := pc_F_tr F2 (pc_F_67 g1 g2)
    obtain ⟨Fn, hFn⟩ : ∃ Fn : Nat → Bool, Fn = fun v => FT cl N (w.1 120 61) (upd (w.1 120) (10 * i + 1) (nI v)) := ⟨_, rfl⟩
    rw [show FT cl N (w.1 120 61) (upd (w.1 120) (10 * i + 1) (nI e)) = Fn e by rw [hFn]] at e3
    have od : pg_od Fn (e + 1) s = pg_od Fn e (if Fn e = true then (s.1 + 1, nI e) else s) := rfl
    have step : fX7_can_b42 n (nI i) a2 s.1 s.2 (pg_xe (e + 1)) u = some (.inl ((if Fn e = true then (s.1 + 1, nI e) else s).1, (if Fn e = true then (s.1 + 1, nI e) else s).2, pg_xe e, u3)) := by
      unfold fX7_can_b42
      rw [pg_xe_s, if_neg (nI_pos (by omega)), pu_put _ _ (show i < 6 by omega) (by decide), pu_b, ← hu1, pu_held Z (pc_10 F1), e2, pu_b, K2.2.2.2.2.2.2.1, pk_un (show 61 ≠ 10 * i + 1 by omega), e3, pu_b]
      unfold fX7_can_103
      by_cases c : Fn e = true
      · rw [pu_biT c, if_neg (by decide), if_pos c, pu_lt, pu_lt]; rfl
      · rw [pu_biF c, if_pos rfl, if_neg c, pu_lt]; rfl
    obtain ⟨v, ev, Fv⟩ := ih (by omega) m' (by omega) (if Fn e = true then (s.1 + 1, nI e) else s) u3 _ F3 (fun j hj => pk_un hj) (rK_cong (fun q q1 q2 => g1 q (by omega)) K2) (pc_S_cong (fun k h1 h2 => g1 k (by omega)) S2)
    rw [← hFn] at ev ⊢
    rw [od]
    exact ⟨v, (pu_it0 (fun z => fX7_can_b42 n (nI i) a2 z.1 z.2.1 z.2.2.1 z.2.2.2) (a := (s.1, s.2, pg_xe (e + 1), u)) step).trans ev, Fv⟩
theorem pm_can {n N i : Nat} {a2 x3 : Int32} {cl : List pg_Cl} {w : xw_M} (hn : 2000 ≤ n) (X : pm_X cl N w) (S : pg_S (w.1 120) N) (hi : i < N) : ∀ e, e ≤ 1000 → ∀ m, e < m → ∀ (s : Int32 × Int32) (u : xw_M), pm_Fg w u → (∀ j, j ≠ 10 * i + 1 → u.1 120 j = w.1 120 j) → ∃ v, xw_it (fun z => fX8_can_b37 n (nI i) a2 x3 z.1 z.2.1 z.2.2.1 z.2.2.2) m (s.1, s.2, pg_xe e, u) = some ((pg_od (fun v => FT cl N (w.1 120 61) (upd (w.1 120) (10 * i + 1) (nI v))) e s).1, (pg_od (fun v => FT cl N (w.1 120 61) (upd (w.1 120) (10 * i + 1) (nI v))) e s).2, v) ∧ pm_Fg w v ∧ ∀ j, j ≠ 10 * i + 1 → v.1 120 j = w.1 120 j := by
  have hN := X.2.2.1
  intro e
  induction e with
  | zero =>
    intro _ m hm s u h1 h2
    obtain ⟨m', rfl⟩ : ∃ m', m = m' + 1 := ⟨m - 1, by omega⟩
    refine ⟨u, pu_it1 _ ?_, h1, h2⟩
    show fX8_can_b37 n (nI i) a2 x3 s.1 s.2 (pg_xe 0) u = _
    unfold fX8_can_b37
    rw [if_pos pg_xe_0]
    rfl
  | succ e ih =>
    intro he m hm s u h1 h2
    obtain ⟨m', rfl⟩ : ∃ m', m = m' + 1 := ⟨m - 1, by omega⟩
    obtain ⟨u1, hu1⟩ : ∃ u1, u1 = xw_si u 120 (10 * i + 1) (nI e) := ⟨_, rfl⟩
    have f1 : pm_Fg w u1 := by rw [hu1]; exact pm_Fg_tr h1 (pm_Fg_si _ _ _)
    have g1 : u1.1 120 = upd (w.1 120) (10 * i + 1) (nI e) := by rw [hu1, pu_si1]; exact upd_off h2 _
    have o1 : ∀ j, j ≠ 10 * i + 1 → u1.1 120 j = w.1 120 j := fun j hj => by rw [g1, pk_un hj]
    have X1 : pm_X cl N u1 := pm_X_fg X f1 (o1 60 (by omega)) (o1 63 (by omega)) (fun m hm => by rw [o1 _ (by omega)]; exact X.2.2.2.2 m hm)
    have S1 : pg_S (u1.1 120) N := pg_S_g (fun j hj => o1 j (by omega)) S
    obtain ⟨v, ev, fv⟩ := pm_seen X1 S1 hn
    obtain ⟨Fn, hFn⟩ : ∃ Fn : Nat → Bool, Fn = fun v => FT cl N (w.1 120 61) (upd (w.1 120) (10 * i + 1) (nI v)) := ⟨_, rfl⟩
    rw [o1 61 (by omega), g1, show FT cl N (w.1 120 61) (upd (w.1 120) (10 * i + 1) (nI e)) = Fn e by rw [hFn]] at ev
    have od : pg_od Fn (e + 1) s = pg_od Fn e (if Fn e = true then (s.1 + 1, nI e) else s) := rfl
    have step : fX8_can_b37 n (nI i) a2 x3 s.1 s.2 (pg_xe (e + 1)) u = some (.inl ((if Fn e = true then (s.1 + 1, nI e) else s).1, (if Fn e = true then (s.1 + 1, nI e) else s).2, pg_xe e, v)) := by
      unfold fX8_can_b37
      rw [pg_xe_s, if_neg (nI_pos (by omega)), pu_ch1 (show i < 6 by omega), pu_b, ← hu1, ev, pu_b]
      unfold fX8_can_69 fX8_can_84
      by_cases c : Fn e = true
      · rw [pu_biT c, if_neg (by decide), if_pos c, pu_lt, if_neg (by decide), pu_lt]; rfl
      · rw [pu_biF c, if_pos rfl, if_neg c, pu_lt, if_pos rfl, pu_lt, Int32.add_zero]; rfl
    obtain ⟨v2, e2, k1, k2⟩ := ih (by omega) m' (by omega) (if Fn e = true then (s.1 + 1, nI e) else s) v (pm_Fg_tr f1 (pm_Fg_of fv)) (fun j hj => by rw [pm_Fs_120 fv]; exact o1 j hj)
    rw [← hFn] at e2 ⊢
    rw [od]
    exact ⟨v2, (pu_it0 (fun z => fX8_can_b37 n (nI i) a2 x3 z.1 z.2.1 z.2.2.1 z.2.2.2) (a := (s.1, s.2, pg_xe (e + 1), u)) step).trans e2, k1, k2⟩
theorem st_can (n : Nat) (hn : 2000 ≤ n) : xs_can n Rel := by
  intro a b w hR
  obtain ⟨p, N, M, cl, Z⟩ := pu_Z_of hR
  obtain ⟨K, -, hpa, hp, -, ho, hA, X⟩ := id Z
  obtain ⟨R, c1, hS, -, -, -, a6, -⟩ := id hR
  obtain ⟨S, T⟩ := pg_S_of hS K
  have hN := K.1
  have b3 := K.2.2.1
  have b4 := K.2.2.2.1
  by_cases h1 : 0 ≤ a ∧ a < nI N
  case neg => exact ⟨-1, w, w, by unfold fX7_can; simp only [pu_has a b3, pu_bp, pu_biF h1, reduceIte], by unfold fX8_can; simp only [pu_isOne a hN b4, pu_bp, pu_biF h1, reduceIte], hR⟩
  by_cases h2 : 0 ≤ b ∧ b ≤ 1
  case neg => exact ⟨-1, w, w, by unfold fX7_can; simp only [pu_has a b3, pu_within, pu_bp, pu_biT h1, pu_biF h2, pu_10, reduceIte], by unfold fX8_can; simp only [pu_isOne a hN b4, pu_isIn, pu_bp, pu_biT h1, pu_biF h2, pu_10, reduceIte], hR⟩
  obtain ⟨i, hi, rfl⟩ := (pu_bnd (by omega)).mp h1
  have hi6 : i < 6 := by omega
  obtain ⟨w0, e0, T0⟩ := pu_tk w
  obtain ⟨w1, e1, F1⟩ := pc_can (a2 := b) hn Z S hi 10 (by omega) n (by omega) (0, -5) w0 (w.1 120) (pc_F_take T0) (fun _ _ => rfl) (rK_take K T0) (pc_S_take T T0)
  have t120 := pc_120 F1
  have X1 := pc_X F1 X
  obtain ⟨v, ev, fv, ov⟩ := pm_can (a2 := b) (x3 := w.1 120 (10 * i + 1)) hn X1 (by rw [t120]; exact S) hi 10 (by omega) n (by omega) (0, -5) w1 (pm_Fg_rf _) (fun _ _ => rfl)
  rw [t120] at ev ov
  generalize pg_od (fun v => FT cl N (w.1 120 61) (upd (w.1 120) (10 * i + 1) (nI v))) 10 (0, -5) = s at e1 ev
  have h120 : (xw_si v 120 (10 * i + 1) (w.1 120 (10 * i + 1))).1 120 = w.1 120 := by
    rw [pu_si1]
    funext j
    by_cases q : j = 10 * i + 1
    · rw [q, pk_us]
    · rw [pk_un q]; exact ov j q
  refine ⟨if b = 0 then s.1 else s.2, w1, xw_si v 120 (10 * i + 1) (w.1 120 (10 * i + 1)), ?_, ?_, Rel_ask hR F1 ⟨fun k h1 h2 h3 h4 h5 => ?_, fv.2.1, fun j hj => ?_⟩⟩
  · unfold fX7_can
    simp only [pu_has _ b3, pu_within, pu_bp, pu_biT h1, pu_biT h2, pu_10, reduceIte]
    rw [e0, pu_b]
    unfold fX7_can_42
    rw [show (9 : Int32) = pg_xe 10 by decide]
    rw [e1, pu_bp]
    show fX7_can_109 n (nI i) b s.1 s.2 w1 = _
    unfold fX7_can_109
    by_cases q : b = 0
    · rw [if_pos q, if_pos q]
    · rw [if_neg q, if_neg q]
  · unfold fX8_can
    simp only [pu_isOne (w := w1) (N := N) _ hN (by rw [t120]; exact b4), pu_isIn, pu_bp, pu_biT h1, pu_biT h2, pu_10, reduceIte, pu_o1 hi6, t120]
    unfold fX8_can_37
    rw [show (9 : Int32) = pg_xe 10 by decide]
    rw [ev, pu_bp]
    show fX8_can_92 n (nI i) b _ s.1 s.2 v = _
    unfold fX8_can_92
    rw [pu_ch1 hi6, pu_b]
    by_cases q : b = 0
    · rw [if_pos q, if_pos q]
    · rw [if_neg q, if_neg q]
  · by_cases q : k = 120
    · rw [q, h120, t120]
    · rw [pu_si0 _ _ _ q]
      exact fv.1 k h1 q h2 h3 h4 h5
  · rw [pu_si0 _ _ _ (by decide)]
    exact fv.2.2 j hj
/-! ===== fractions ===== -/
theorem pc_frac {n a b : Nat} {p : Int32} (hn : 2000 ≤ n) (ha : a ≤ 999) (hb : b ≤ 6) : fX7_fraction n (nI a) (nI b) p = some (if b = 0 then -9223372036854775808 else if p = 0 then lN (a / Nat.gcd a b) else lN (b / Nat.gcd a b)) := by
  unfold fX7_fraction fX7_fraction_2
  by_cases h0 : b = 0
  · subst h0
    obtain ⟨n', rfl⟩ : ∃ n', n = n' + 1 := ⟨n - 1, by omega⟩
    have step : fX7_fraction_b2 (n' + 1) (nI a) (nI 0) p (nI 0) = some (.inr (.inr ())) := by
      unfold fX7_fraction_b2
      rw [if_pos (show (nI 0 : Int32) ≤ 0 by decide)]
    rw [pu_it1 (fun z => fX7_fraction_b2 (n' + 1) (nI a) (nI 0) p z) step, pu_bp, if_pos rfl]
    rfl
  · rw [if_neg h0]
    have hG : 0 < Nat.gcd a b := Nat.gcd_pos_of_pos_right a (by omega)
    have hGb : Nat.gcd a b ≤ b := Nat.gcd_le_right a (by omega)
    have key : ∀ j m, Nat.gcd a b + j ≤ b → j < m → xw_it (fun z => fX7_fraction_b2 n (nI a) (nI b) p z) m (nI (Nat.gcd a b + j)) = some (.inr ()) ∨ xw_it (fun z => fX7_fraction_b2 n (nI a) (nI b) p z) m (nI (Nat.gcd a b + j)) = some (.inl (if p = 0 then lN (a / Nat.gcd a b) else lN (b / Nat.gcd a b))) := by
      intro j
      induction j with
      | zero =>
        intro m h1 h2
        obtain ⟨m', rfl⟩ : ∃ m', m = m' + 1 := ⟨m - 1, by omega⟩
        refine Or.inr (pu_it1 _ ?_)
        show fX7_fraction_b2 n (nI a) (nI b) p (nI (Nat.gcd a b)) = _
        unfold fX7_fraction_b2
        have da : a % Nat.gcd a b = 0 := Nat.mod_eq_zero_of_dvd (Nat.gcd_dvd_left a b)
        have db : b % Nat.gcd a b = 0 := Nat.mod_eq_zero_of_dvd (Nat.gcd_dvd_right a b)
        have nz : ¬ nI (Nat.gcd a b) = 0 := nI_ne0 hG (by omega)
        rw [if_neg (nI_nle hG (by omega)), pu_ccT nz, pk_rem (by omega) hG (by omega), da, if_pos (show nI 0 = 0 from rfl), pu_ccT nz, pk_rem (by omega) hG (by omega), db, if_pos (show nI 0 = 0 from rfl), pu_ccT nz, pu_ccT nz, pk_div (by omega) hG (by omega), pk_div (by omega) hG (by omega), nI_l (Nat.lt_of_le_of_lt (Nat.div_le_self _ _) (by omega)), nI_l (Nat.lt_of_le_of_lt (Nat.div_le_self _ _) (by omega))]
        by_cases q : p = 0
        · rw [if_pos q, if_pos q]
        · rw [if_neg q, if_neg q]
      | succ j ih =>
        intro m h1 h2
        obtain ⟨m', rfl⟩ : ∃ m', m = m' + 1 := ⟨m - 1, by omega⟩
        have nz : ¬ nI (Nat.gcd a b + (j + 1)) = 0 := nI_ne0 (by omega) (by omega)
        have step : fX7_fraction_b2 n (nI a) (nI b) p (nI (Nat.gcd a b + (j + 1))) = some (.inl (nI (Nat.gcd a b + j))) := by
          unfold fX7_fraction_b2
          rw [if_neg (nI_nle (by omega) (by omega)), pu_ccT nz, pk_rem (by omega) (by omega) (by omega), pu_ccT nz, pk_rem (by omega) (by omega) (by omega)]
          unfold fX7_fraction_34
          rw [show Nat.gcd a b + (j + 1) = (Nat.gcd a b + j) + 1 by omega, pk_m1, pu_lt]
          by_cases da : nI (a % (Nat.gcd a b + j + 1)) = 0
          · rw [if_pos da]
            by_cases db : nI (b % (Nat.gcd a b + j + 1)) = 0
            · exfalso
              have hl : ∀ x, x ≤ 999 → nI (x % (Nat.gcd a b + j + 1)) = 0 → x % (Nat.gcd a b + j + 1) = 0 := fun x hx z => (nI_eq (b := 0) (Nat.lt_of_le_of_lt (Nat.mod_le _ _) (by omega)) (by decide)).mp z
              have d1 := Nat.dvd_of_mod_eq_zero (hl a ha da)
              have d2 := Nat.dvd_of_mod_eq_zero (hl b (by omega) db)
              have := Nat.le_of_dvd hG (Nat.dvd_gcd d1 d2)
              omega
            · rw [if_neg db]
          · rw [if_neg da]
        rw [pu_it0 (fun z => fX7_fraction_b2 n (nI a) (nI b) p z) step]
        exact ih m' (by omega) (by omega)
    have key2 : ∀ j m, Nat.gcd a b + j ≤ b → j < m → ¬ xw_it (fun z => fX7_fraction_b2 n (nI a) (nI b) p z) m (nI (Nat.gcd a b + j)) = some (.inr ()) := by
      intro j
      induction j with
      | zero =>
        intro m h1 h2 h3
        obtain ⟨m', rfl⟩ : ∃ m', m = m' + 1 := ⟨m - 1, by omega⟩
        have da : a % Nat.gcd a b = 0 := Nat.mod_eq_zero_of_dvd (Nat.gcd_dvd_left a b)
        have db : b % Nat.gcd a b = 0 := Nat.mod_eq_zero_of_dvd (Nat.gcd_dvd_right a b)
        have nz : ¬ nI (Nat.gcd a b) = 0 := nI_ne0 hG (by omega)
        have step : fX7_fraction_b2 n (nI a) (nI b) p (nI (Nat.gcd a b)) = some (.inr (.inl (if p = 0 then (nI (a / Nat.gcd a b)).toInt64 else (nI (b / Nat.gcd a b)).toInt64))) := by
          unfold fX7_fraction_b2
          rw [if_neg (nI_nle hG (by omega)), pu_ccT nz, pk_rem (by omega) hG (by omega), da, if_pos (show nI 0 = 0 from rfl), pu_ccT nz, pk_rem (by omega) hG (by omega), db, if_pos (show nI 0 = 0 from rfl), pu_ccT nz, pu_ccT nz, pk_div (by omega) hG (by omega), pk_div (by omega) hG (by omega)]
          by_cases q : p = 0
          · rw [if_pos q, if_pos q]
          · rw [if_neg q, if_neg q]
        rw [show Nat.gcd a b + 0 = Nat.gcd a b from rfl, pu_it1 (fun z => fX7_fraction_b2 n (nI a) (nI b) p z) step] at h3
        cases h3
      | succ j ih =>
        intro m h1 h2 h3
        rcases key (j + 1) m h1 h2 with k | k
        · obtain ⟨m', rfl⟩ : ∃ m', m = m' + 1 := ⟨m - 1, by omega⟩
          have nz : ¬ nI (Nat.gcd a b + (j + 1)) = 0 := nI_ne0 (by omega) (by omega)
          have step : fX7_fraction_b2 n (nI a) (nI b) p (nI (Nat.gcd a b + (j + 1))) = some (.inl (nI (Nat.gcd a b + j))) := by
            unfold fX7_fraction_b2
            rw [if_neg (nI_nle (by omega) (by omega)), pu_ccT nz, pk_rem (by omega) (by omega) (by omega), pu_ccT nz, pk_rem (by omega) (by omega) (by omega)]
            unfold fX7_fraction_34
            rw [show Nat.gcd a b + (j + 1) = (Nat.gcd a b + j) + 1 by omega, pk_m1, pu_lt]
            by_cases da : nI (a % (Nat.gcd a b + j + 1)) = 0
            · rw [if_pos da]
              by_cases db : nI (b % (Nat.gcd a b + j + 1)) = 0
              · exfalso
                have hl : ∀ x, x ≤ 999 → nI (x % (Nat.gcd a b + j + 1)) = 0 → x % (Nat.gcd a b + j + 1) = 0 := fun x hx z => (nI_eq (b := 0) (Nat.lt_of_le_of_lt (Nat.mod_le _ _) (by omega)) (by decide)).mp z
                have d1 := Nat.dvd_of_mod_eq_zero (hl a ha da)
                have d2 := Nat.dvd_of_mod_eq_zero (hl b (by omega) db)
                have := Nat.le_of_dvd hG (Nat.dvd_gcd d1 d2)
                omega
              · rw [if_neg db]
            · rw [if_neg da]
          rw [pu_it0 (fun z => fX7_fraction_b2 n (nI a) (nI b) p z) step] at h3
          exact ih m' (by omega) (by omega) h3
        · rw [k] at h3; cases h3
    have hj : Nat.gcd a b + (b - Nat.gcd a b) = b := by omega
    have k1 := key (b - Nat.gcd a b) n (by omega) (by omega)
    have k2 := key2 (b - Nat.gcd a b) n (by omega) (by omega)
    rw [hj] at k1 k2
    rcases k1 with k | k
    · exact absurd k k2
    · rw [k, pu_bp]
      rfl
theorem pm_frac {n a b : Nat} {p : Int32} (hn : 2000 ≤ n) (ha : a ≤ 999) (h0 : 0 < b) (hb : b ≤ 6) : fX8_fraction n (nI a).toInt64 (nI b).toInt64 p = some (if p = 0 then lN (a / Nat.gcd a b) else lN (b / Nat.gcd a b)) := by
  have key : ∀ y x m, x ≤ 999 → y ≤ 999 → y < m → xw_it (fun z => fX8_fraction_b6 n (lN a) (lN b) p z.1 z.2) m (lN x, lN y) = some (lN (Nat.gcd x y)) := by
    intro y
    induction y using Nat.strongRecOn with
    | ind y ih =>
      intro x m hx hy hm
      obtain ⟨m', rfl⟩ : ∃ m', m = m' + 1 := ⟨m - 1, by omega⟩
      by_cases q : y = 0
      · subst q
        rw [Nat.gcd_zero_right]
        refine pu_it1 _ ?_
        show fX8_fraction_b6 n (lN a) (lN b) p (lN x) (lN 0) = _
        unfold fX8_fraction_b6
        rw [if_pos (show lg_cmp (lN 0) 0 = 0 from (lg_cmp_eq _ _).mpr rfl)]
      · have nz : ¬ lN y = 0 := fun z => q ((pk_lEQ (b := 0) (by omega) (by decide)).mp z)
        have step : fX8_fraction_b6 n (lN a) (lN b) p (lN x) (lN y) = some (.inl (lN y, lN (x % y))) := by
          unfold fX8_fraction_b6
          rw [if_neg (fun z => nz ((lg_cmp_eq _ _).mp z)), pu_ccT nz, pk_lRem (by omega) (by omega) (by omega), pu_lt]
        have hlt : x % y < y := Nat.mod_lt _ (by omega)
        rw [pu_it0 (fun z => fX8_fraction_b6 n (lN a) (lN b) p z.1 z.2) (a := (lN x, lN y)) step, ih (x % y) hlt y m' hy (by omega) (by omega), Nat.gcd_comm y, ← Nat.gcd_rec, Nat.gcd_comm]
  have hG : 0 < Nat.gcd a b := Nat.gcd_pos_of_pos_right a h0
  have hGb : Nat.gcd a b ≤ b := Nat.gcd_le_right a h0
  have nz : ¬ lN (Nat.gcd a b) = 0 := fun z => by have := (pk_lEQ (a := Nat.gcd a b) (b := 0) (by omega) (by decide)).mp z; omega
  rw [nI_l (by omega), nI_l (by omega)]
  unfold fX8_fraction fX8_fraction_6
  rw [key b a n ha (by omega) (by omega), pu_bp]
  show fX8_fraction_31 n (lN a) (lN b) p (lN (Nat.gcd a b)) = _
  unfold fX8_fraction_31
  rw [pu_ccT nz, pu_ccT nz, pk_lDiv (by omega) hG (by omega), pk_lDiv (by omega) hG (by omega)]
  by_cases q : p = 0
  · rw [if_pos q, if_pos q]
  · rw [if_neg q, if_neg q]
