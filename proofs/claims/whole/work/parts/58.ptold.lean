/-! ===== whether all of SEEN is so ===== -/
def pg_ft (F : Nat → Int32) (sx : Nat → Nat) (sv : Nat → Int32) : Nat → Bool
  | 0 => true
  | k + 1 => pg_ft F sx sv k && decide (F (sx k) = sv k)
def FT (cl : List pg_Cl) (N : Nat) (D : Int32) (g : Nat → Int32) : Bool := pg_ft (fun m => sh (pg_ro cl g) (pg_he g) N D m) (fun r => (g (65 + 2 * r)).toNatClampNeg) (fun r => g (66 + 2 * r)) (g 64).toNatClampNeg
theorem pg_ft_f {F : Nat → Int32} {sx : Nat → Nat} {sv : Nat → Int32} {k : Nat} (h : ¬ F (sx k) = sv k) : ∀ z, k < z → pg_ft F sx sv z = false := by
  intro z
  induction z with
  | zero => intro hk; omega
  | succ z ih =>
    intro hk
    show (pg_ft F sx sv z && decide (F (sx z) = sv z)) = false
    by_cases q : k = z
    · subst q
      rw [decide_eq_false h, Bool.and_false]
    · rw [ih (by omega), Bool.false_and]
/-- SEEN of a Scene, and of a row of the reference's -/
def pg_S (g : Nat → Int32) (N : Nat) : Prop := ∃ z, z ≤ 5 ∧ g 64 = nI z ∧ ∀ r, r < z → ∃ q, q < N ∧ g (65 + 2 * r) = nI q
def pc_S (m : Nat → Nat → Int32) (b : Nat) (g : Nat → Int32) : Prop := m (b + 7) 3 = g 64 ∧ ∀ r, nI r < g 64 → r < 5 → m (b + 7 + 1) r = g (65 + 2 * r) ∧ m (b + 7 + 2) r = g (66 + 2 * r)
theorem pg_S_of {m : Nat → Nat → Int32} {b : Nat} {g : Nat → Int32} {R N M : Nat} (hs : rS m b g R) (K : rK m b g N M) : pg_S g N ∧ pc_S m b g := by
  obtain ⟨N', M', b1, b2, b3, b4, b5, bM, bD, ⟨s0, z, s1, s2, s3, s4⟩, -⟩ := hs
  have hN := K.1
  have eN : N' = N := (nI_eq (by omega) (by omega)).mp (b3.symm.trans K.2.2.1)
  subst eN
  refine ⟨⟨z, s1, s3, fun r hr => ?_⟩, s2.trans s3.symm, fun r hr h5 => ?_⟩
  · obtain ⟨-, -, q, hq, e⟩ := s4 r hr
    exact ⟨q, hq, by rw [show 65 + 2 * r = 64 + 1 + 2 * r by omega]; exact e⟩
  · rw [s3] at hr
    have hz : r < z := (nI_ltI (by omega) (by omega)).mp hr
    obtain ⟨t1, t2, -⟩ := s4 r hz
    rw [show 65 + 2 * r = 64 + 1 + 2 * r by omega, show 66 + 2 * r = 64 + 2 + 2 * r by omega]
    exact ⟨t1, t2⟩
theorem pc_fits {n b N M : Nat} {D : Int32} {g : Nat → Int32} {cl : List pg_Cl} {w : xw_M} (hn : 2000 ≤ n) (hb : b + 16 ≤ 58) (K : rK w.1 b g N M) (R : pc_R cl g N w.1) (S : pg_S g N) (T : pc_S w.1 b g) : ∃ w', fX4_fits n b D w = some (pu_bi (FT cl N D g = true), w') ∧ (∀ k, k ≠ 67 → w'.1 k = w.1 k) ∧ w'.2 = w.2 := by
  have hN := K.1
  obtain ⟨z, z5, z1, z2⟩ := S
  obtain ⟨t1, t2⟩ := T
  obtain ⟨F, hF⟩ : ∃ F : Nat → Int32, F = fun m => sh (pg_ro cl g) (pg_he g) N D m := ⟨_, rfl⟩
  have eFT : FT cl N D g = pg_ft F (fun r => (g (65 + 2 * r)).toNatClampNeg) (fun r => g (66 + 2 * r)) z := by
    unfold FT
    rw [← hF, z1, pu_cl (by omega)]
  rw [eFT]
  unfold fX4_fits fX4_fits_2
  obtain ⟨r, e, hr⟩ : ∃ r, xw_it (fun z => fX4_fits_b2 n b D z.1 z.2) n ((0 : Int32), w) = some r ∧ ((∃ u, r = .inl (0, u) ∧ pg_ft F (fun r => (g (65 + 2 * r)).toNatClampNeg) (fun r => g (66 + 2 * r)) z = false ∧ (∀ k, k ≠ 67 → u.1 k = w.1 k) ∧ u.2 = w.2) ∨ ∃ u, r = .inr u ∧ pg_ft F (fun r => (g (65 + 2 * r)).toNatClampNeg) (fun r => g (66 + 2 * r)) z = true ∧ (∀ k, k ≠ 67 → u.1 k = w.1 k) ∧ u.2 = w.2) := by
    refine pu_inv (fun z => fX4_fits_b2 n b D z.1 z.2) (fun k y => k ≤ z ∧ y.1 = nI k ∧ pg_ft F (fun r => (g (65 + 2 * r)).toNatClampNeg) (fun r => g (66 + 2 * r)) k = true ∧ (∀ q, q ≠ 67 → y.2.1 q = w.1 q) ∧ y.2.2 = w.2) z _ ?_ ?_ n 0 _ (by omega) (by omega) ⟨by omega, rfl, rfl, fun _ _ => rfl, rfl⟩
    · rintro k ⟨x, u⟩ hk ⟨-, rfl, a0, a1, a2⟩
      have Ku : rK u.1 b g N M := rK_cong (fun q q1 q2 => a1 q (by omega)) K
      have Ru : pc_R cl g N u.1 := pc_R_cong (a1 65 (by decide)) (fun _ _ _ _ => rfl) R
      obtain ⟨q, hq, eq⟩ := z2 k hk
      obtain ⟨u1, u2⟩ := t2 k (by rw [z1]; exact nI_lt hk (by omega)) (by omega)
      obtain ⟨v, ev, g1, g2⟩ := pc_share (D := D) hn (by omega) Ku Ru (pu_M64 hN Ku.2.1) hq
      have es : sh (pg_ro cl g) (fun m => !M.testBit m) N D q = F q := by
        rw [hF]
        exact sh_cong _ hq (fun m hm _ => rfl) (fun m hm => (pg_he_M K hm).symm)
      rw [es] at ev
      have eft : pg_ft F (fun r => (g (65 + 2 * r)).toNatClampNeg) (fun r => g (66 + 2 * r)) (k + 1) = (pg_ft F (fun r => (g (65 + 2 * r)).toNatClampNeg) (fun r => g (66 + 2 * r)) k && decide (F (g (65 + 2 * k)).toNatClampNeg = g (66 + 2 * k))) := rfl
      rw [eq, pu_cl (by omega)] at eft
      have step : fX4_fits_b2 n b D (nI k) u = if F q = g (66 + 2 * k) then some (.inl (nI (k + 1), v)) else some (.inr (.inl (0, v))) := by
        unfold fX4_fits_b2
        rw [a1 (b + 7) (by omega), t1, z1, if_neg (nI_ge hk (by omega)), pu_at u (show k < 8 by omega) (by decide), pu_bp, a1 (b + 7 + 1) (by omega), u1, eq, Ku.2.2.2.2.1, ev, pu_b, pu_at v (show k < 8 by omega) (by decide), pu_bp, g1 (b + 7 + 2) (by omega), a1 (b + 7 + 2) (by omega), u2, pu_lt, nI_1]
      by_cases c : F q = g (66 + 2 * k)
      · rw [if_pos c] at step
        exact Or.inl ⟨_, step, by omega, rfl, by rw [eft, a0, decide_eq_true c]; rfl, fun q hq => (g1 q hq).trans (a1 q hq), g2.trans a2⟩
      · rw [if_neg c] at step
        refine Or.inr ⟨_, step, Or.inl ⟨v, rfl, pg_ft_f (k := k) ?_ z hk, fun q hq => (g1 q hq).trans (a1 q hq), g2.trans a2⟩⟩
        show ¬ F (g (65 + 2 * k)).toNatClampNeg = g (66 + 2 * k)
        rw [eq, pu_cl (by omega)]
        exact c
    · rintro ⟨x, u⟩ ⟨-, rfl, a0, a1, a2⟩
      refine ⟨.inr u, ?_, Or.inr ⟨u, rfl, a0, a1, a2⟩⟩
      show fX4_fits_b2 n b D (nI z) u = _
      unfold fX4_fits_b2
      rw [a1 (b + 7) (by omega), t1, z1, if_pos (nI_le (Nat.le_refl _) (by omega))]
  rcases hr with ⟨u, rfl, a0, a1, a2⟩ | ⟨u, rfl, a0, a1, a2⟩
  · exact ⟨u, by rw [e, pu_bp, a0]; rfl, a1, a2⟩
  · exact ⟨u, by rw [e, pu_bp, a0]; rfl, a1, a2⟩
theorem FT_cong {cl : List pg_Cl} {g g' : Nat → Int32} {N : Nat} (D : Int32) (hN : N ≤ 6) (S : pg_S g N) (h : ∀ j, j ≠ 61 → j < 75 → g' j = g j) : FT cl N D g' = FT cl N D g := by
  obtain ⟨z, z5, z1, z2⟩ := S
  unfold FT
  rw [h 64 (by decide) (by decide), z1, pu_cl (by omega)]
  have key : ∀ k, k ≤ z → pg_ft (fun m => sh (pg_ro cl g') (pg_he g') N D m) (fun r => (g' (65 + 2 * r)).toNatClampNeg) (fun r => g' (66 + 2 * r)) k = pg_ft (fun m => sh (pg_ro cl g) (pg_he g) N D m) (fun r => (g (65 + 2 * r)).toNatClampNeg) (fun r => g (66 + 2 * r)) k := by
    intro k
    induction k with
    | zero => intro _; rfl
    | succ k ih =>
      intro hk
      show (_ && decide (sh (pg_ro cl g') (pg_he g') N D (g' (65 + 2 * k)).toNatClampNeg = g' (66 + 2 * k))) = (_ && decide (sh (pg_ro cl g) (pg_he g) N D (g (65 + 2 * k)).toNatClampNeg = g (66 + 2 * k)))
      obtain ⟨q, hq, eq⟩ := z2 k (by omega)
      rw [ih (by omega), h (65 + 2 * k) (by omega) (by omega), h (66 + 2 * k) (by omega) (by omega), eq, pu_cl (by omega), sh_cong (ρ := pg_ro cl g') (ρ' := pg_ro cl g) (h := pg_he g') (h' := pg_he g) D hq (fun m hm _ => ?_) (fun m hm => ?_)]
      · unfold pg_ro pg_y
        rw [h (10 * m + 3) (by omega) (by omega)]
        exact pg_rt_cong _ (fun j hj => h j (by omega) (by omega))
      · unfold pg_he
        rw [h (10 * m + 4) (by omega) (by omega)]
  exact key z (Nat.le_refl _)
theorem pm_seen {w : xw_M} {cl : List pg_Cl} {N n : Nat} (X : pm_X cl N w) (S : pg_S (w.1 120) N) (hn : 2000 ≤ n) : ∃ w', fX8_isAllSeen n w = some (pu_bi (FT cl N (w.1 120 61) (w.1 120) = true), w') ∧ pm_Fs w w' := by
  have hN := X.2.2.1
  obtain ⟨z, z5, z1, z2⟩ := S
  obtain ⟨v, ev, fv, sv⟩ := pm_share X.1 X.2.1 hn hN X.2.2.2.1 X.2.2.2.2
  obtain ⟨F, hF⟩ : ∃ F : Nat → Int32, F = fun m => sh (pg_ro cl (w.1 120)) (pg_he (w.1 120)) N (w.1 120 61) m := ⟨_, rfl⟩
  have eFT : FT cl N (w.1 120 61) (w.1 120) = pg_ft F (fun r => (w.1 120 (65 + 2 * r)).toNatClampNeg) (fun r => w.1 120 (66 + 2 * r)) z := by
    unfold FT
    rw [← hF, z1, pu_cl (by omega)]
  rw [eFT]
  have gv := pm_Fs_120 fv
  refine ⟨v, ?_, fv⟩
  unfold fX8_isAllSeen fX8_isAllSeen_8
  rw [ev, pu_b]
  have e : xw_it (fun z => fX8_isAllSeen_b8 n z.1 z.2 v) n ((1 : Int32), (0 : Int32)) = some (pu_bi (pg_ft F (fun r => (w.1 120 (65 + 2 * r)).toNatClampNeg) (fun r => w.1 120 (66 + 2 * r)) z = true)) := by
    refine pu_up (fun z => fX8_isAllSeen_b8 n z.1 z.2 v) (fun k => (pu_bi (pg_ft F (fun r => (w.1 120 (65 + 2 * r)).toNatClampNeg) (fun r => w.1 120 (66 + 2 * r)) k = true), nI k)) z _ (fun k hk => ?_) ?_ (by omega)
    · show fX8_isAllSeen_b8 n _ (nI k) v = _
      obtain ⟨q, hq, eq⟩ := z2 k hk
      have eft : pg_ft F (fun r => (w.1 120 (65 + 2 * r)).toNatClampNeg) (fun r => w.1 120 (66 + 2 * r)) (k + 1) = (pg_ft F (fun r => (w.1 120 (65 + 2 * r)).toNatClampNeg) (fun r => w.1 120 (66 + 2 * r)) k && decide (F (w.1 120 (65 + 2 * k)).toNatClampNeg = w.1 120 (66 + 2 * k))) := rfl
      rw [eq, pu_cl (by omega)] at eft
      rw [eft]
      unfold fX8_isAllSeen_b8
      rw [pu_n64, pu_c64, gv, z1, if_neg (nI_ge hk (by omega)), pu_lt, show (2 : Int32) = nI 2 from rfl, show (65 : Int32) = nI 65 from rfl, pk_mul, nI_add, nI_1, pu_ck (show 65 + 2 * k < 109 by omega) (by decide), pu_ck (show 65 + 2 * k + 1 < 109 by omega) (by decide), pu_cl (show 65 + 2 * k < 2 ^ 31 by omega), pu_cl (show 65 + 2 * k + 1 < 2 ^ 31 by omega), eq, pu_ck (show q < 6 by omega) (by decide), pu_cl (show q < 2 ^ 31 by omega), sv q hq, show SH cl (w.1 120) N q = F q by rw [hF]; rfl, show 65 + 2 * k + 1 = 66 + 2 * k by omega]
      unfold fX8_isAllSeen_56 fX8_isAllSeen_57
      rw [pu_lt, pu_lt, nI_1]
      generalize pg_ft F (fun r => (w.1 120 (65 + 2 * r)).toNatClampNeg) (fun r => w.1 120 (66 + 2 * r)) k = o
      cases o with
      | false => rfl
      | true =>
        rw [pu_biT rfl, if_neg (show ¬ (1 : Int32) = 0 by decide)]
        by_cases c : F q = w.1 120 (66 + 2 * k)
        · rw [if_pos c, decide_eq_true c]; rfl
        · rw [if_neg c, decide_eq_false c]; rfl
    · show fX8_isAllSeen_b8 n _ (nI z) v = _
      unfold fX8_isAllSeen_b8
      rw [pu_n64, pu_c64, gv, z1, if_pos (nI_le (Nat.le_refl _) (by omega))]
  rw [e, pu_bp]
  exact pu_ccT pu_bi01 _
/-! from the most down to 0: how many, the least -/
def pg_od (F : Nat → Bool) : Nat → Int32 × Int32 → Int32 × Int32
  | 0, s => s
  | e + 1, s => pg_od F e (if F e = true then (s.1 + 1, nI e) else s)
def pg_xe (e : Nat) : Int32 := nI e + (-1)
theorem pg_xe_s (e : Nat) : pg_xe (e + 1) = nI e := pk_m1 e
theorem pg_xe_0 : pg_xe 0 < 0 := by decide
theorem pc_owed {n N M : Nat} {a : Int32} {g : Nat → Int32} {cl : List pg_Cl} {w : xw_M} (hn : 2000 ≤ n) (K : rK w.1 1 g N M) (R : pc_R cl g N w.1) (S : pg_S g N) (T : pc_S w.1 1 g) : ∀ e, e ≤ 1000 → ∀ m, e < m → ∀ (s : Int32 × Int32) (u : xw_M), (∀ k, k ≠ 67 → u.1 k = w.1 k) → u.2 = w.2 → ∃ v, xw_it (fun z => fX7_owed_b25 n a z.1 z.2.1 z.2.2.1 z.2.2.2) m (s.1, s.2, pg_xe e, u) = some ((pg_od (fun v => FT cl N (nI v) g) e s).1, (pg_od (fun v => FT cl N (nI v) g) e s).2, v) ∧ (∀ k, k ≠ 67 → v.1 k = w.1 k) ∧ v.2 = w.2 := by
  intro e
  induction e with
  | zero =>
    intro _ m hm s u h1 h2
    obtain ⟨m', rfl⟩ : ∃ m', m = m' + 1 := ⟨m - 1, by omega⟩
    refine ⟨u, pu_it1 _ ?_, h1, h2⟩
    show fX7_owed_b25 n a s.1 s.2 (pg_xe 0) u = _
    unfold fX7_owed_b25
    rw [if_pos pg_xe_0]
    rfl
  | succ e ih =>
    intro he m hm s u h1 h2
    obtain ⟨m', rfl⟩ : ∃ m', m = m' + 1 := ⟨m - 1, by omega⟩
    have Ku : rK u.1 1 g N M := rK_cong (fun q q1 q2 => h1 q (by omega)) K
    have Ru : pc_R cl g N u.1 := pc_R_cong (h1 65 (by decide)) (fun _ _ _ _ => rfl) R
    have Tu : pc_S u.1 1 g := by
      unfold pc_S
      rw [h1 (1 + 7) (by decide), h1 (1 + 7 + 1) (by decide), h1 (1 + 7 + 2) (by decide)]
      exact T
    obtain ⟨v, ev, g1, g2⟩ := pc_fits (D := nI e) hn (by decide) Ku Ru S Tu
    have od : pg_od (fun v => FT cl N (nI v) g) (e + 1) s = pg_od (fun v => FT cl N (nI v) g) e (if FT cl N (nI e) g = true then (s.1 + 1, nI e) else s) := rfl
    have step : fX7_owed_b25 n a s.1 s.2 (pg_xe (e + 1)) u = some (.inl ((if FT cl N (nI e) g = true then (s.1 + 1, nI e) else s).1, (if FT cl N (nI e) g = true then (s.1 + 1, nI e) else s).2, pg_xe e, v)) := by
      unfold fX7_owed_b25
      rw [pg_xe_s, if_neg (nI_pos (by omega)), ev, pu_b]
      unfold fX7_owed_52
      by_cases c : FT cl N (nI e) g = true
      · rw [pu_biT c, if_neg (by decide), if_pos c, pu_lt, pu_lt]; rfl
      · rw [pu_biF c, if_pos rfl, if_neg c, pu_lt]; rfl
    obtain ⟨v2, e2, k1, k2⟩ := ih (by omega) m' (by omega) (if FT cl N (nI e) g = true then (s.1 + 1, nI e) else s) v (fun k hk => (g1 k hk).trans (h1 k hk)) (g2.trans h2)
    rw [od]
    exact ⟨v2, (pu_it0 (fun z => fX7_owed_b25 n a z.1 z.2.1 z.2.2.1 z.2.2.2) (a := (s.1, s.2, pg_xe (e + 1), u)) step).trans e2, k1, k2⟩
theorem pm_owed {n N : Nat} {a x2 : Int32} {cl : List pg_Cl} {w : xw_M} (hn : 2000 ≤ n) (X : pm_X cl N w) (S : pg_S (w.1 120) N) : ∀ e, e ≤ 1000 → ∀ m, e < m → ∀ (s : Int32 × Int32) (u : xw_M), pm_Fg w u → (∀ j, j ≠ 61 → u.1 120 j = w.1 120 j) → ∃ v, xw_it (fun z => fX8_owed_b19 n a x2 z.1 z.2.1 z.2.2.1 z.2.2.2) m (s.1, s.2, pg_xe e, u) = some ((pg_od (fun v => FT cl N (nI v) (w.1 120)) e s).1, (pg_od (fun v => FT cl N (nI v) (w.1 120)) e s).2, v) ∧ pm_Fg w v ∧ ∀ j, j ≠ 61 → v.1 120 j = w.1 120 j := by
  have hN := X.2.2.1
  intro e
  induction e with
  | zero =>
    intro _ m hm s u h1 h2
    obtain ⟨m', rfl⟩ : ∃ m', m = m' + 1 := ⟨m - 1, by omega⟩
    refine ⟨u, pu_it1 _ ?_, h1, h2⟩
    show fX8_owed_b19 n a x2 s.1 s.2 (pg_xe 0) u = _
    unfold fX8_owed_b19
    rw [if_pos pg_xe_0]
    rfl
  | succ e ih =>
    intro he m hm s u h1 h2
    obtain ⟨m', rfl⟩ : ∃ m', m = m' + 1 := ⟨m - 1, by omega⟩
    obtain ⟨u1, hu1⟩ : ∃ u1, u1 = xw_si u 120 61 (nI e) := ⟨_, rfl⟩
    have f1 : pm_Fg w u1 := by rw [hu1]; exact pm_Fg_tr h1 (pm_Fg_si _ _ _)
    have o1 : ∀ j, j ≠ 61 → u1.1 120 j = w.1 120 j := fun j hj => by rw [hu1, pu_si1, pk_un hj]; exact h2 j hj
    have d1 : u1.1 120 61 = nI e := by rw [hu1, pu_si1, pk_us]
    have X1 : pm_X cl N u1 := pm_X_fg X f1 (o1 60 (by decide)) (o1 63 (by decide)) (fun m hm => by rw [o1 _ (by omega)]; exact X.2.2.2.2 m hm)
    have S1 : pg_S (u1.1 120) N := by
      obtain ⟨z, z5, z1, z2⟩ := S
      exact ⟨z, z5, by rw [o1 64 (by decide)]; exact z1, fun r hr => by rw [o1 _ (by omega)]; exact z2 r hr⟩
    obtain ⟨v, ev, fv⟩ := pm_seen X1 S1 hn
    rw [d1, FT_cong _ hN S (fun j hj _ => o1 j hj)] at ev
    have od : pg_od (fun v => FT cl N (nI v) (w.1 120)) (e + 1) s = pg_od (fun v => FT cl N (nI v) (w.1 120)) e (if FT cl N (nI e) (w.1 120) = true then (s.1 + 1, nI e) else s) := rfl
    have step : fX8_owed_b19 n a x2 s.1 s.2 (pg_xe (e + 1)) u = some (.inl ((if FT cl N (nI e) (w.1 120) = true then (s.1 + 1, nI e) else s).1, (if FT cl N (nI e) (w.1 120) = true then (s.1 + 1, nI e) else s).2, pg_xe e, v)) := by
      unfold fX8_owed_b19
      rw [pg_xe_s, if_neg (nI_pos (by omega)), pu_n61, pu_c61, pu_lt, ← hu1, ev, pu_b]
      unfold fX8_owed_50 fX8_owed_64
      by_cases c : FT cl N (nI e) (w.1 120) = true
      · rw [pu_biT c, if_neg (by decide), if_pos c, pu_lt, if_neg (by decide), pu_lt]; rfl
      · rw [pu_biF c, if_pos rfl, if_neg c, pu_lt, if_pos rfl, pu_lt, Int32.add_zero]; rfl
    obtain ⟨v2, e2, k1, k2⟩ := ih (by omega) m' (by omega) (if FT cl N (nI e) (w.1 120) = true then (s.1 + 1, nI e) else s) v (pm_Fg_tr f1 (pm_Fg_of fv)) (fun j hj => by rw [pm_Fs_120 fv]; exact o1 j hj)
    rw [od]
    exact ⟨v2, (pu_it0 (fun z => fX8_owed_b19 n a x2 z.1 z.2.1 z.2.2.1 z.2.2.2) (a := (s.1, s.2, pg_xe (e + 1), u)) step).trans e2, k1, k2⟩
theorem st_owed {w : xw_M} {n : Nat} (hn : 2000 ≤ n) (a a' : Int32) (ha : (a = 0 ∧ a' = 1) ∨ (a = 1 ∧ a' = 0)) (hR : Rel w) : ∃ (r : Int32) (w1 w2 : xw_M), fX7_owed n a w = some (r, w1) ∧ fX8_owed n a' w1 = some (r, w2) ∧ Rel w2 := by
  obtain ⟨p, N, M, cl, Z⟩ := pu_Z_of hR
  obtain ⟨K, -, hpa, hp, -, ho, hA, X⟩ := id Z
  obtain ⟨R, c1, hS, -, -, -, a6, -⟩ := id hR
  obtain ⟨S, T⟩ := pg_S_of hS K
  obtain ⟨w1, e1, f1, f2, R1⟩ := pc_look hn (by decide) hp ho hA K
  have F1 := pc_F_look f1 f2
  have K1 := pc_K1 F1 K
  have T1 : pc_S w1.1 1 (w.1 120) := by
    unfold pc_S
    rw [f1 (1 + 7) (by decide) (by decide), f1 (1 + 7 + 1) (by decide) (by decide), f1 (1 + 7 + 2) (by decide) (by decide)]
    exact T
  obtain ⟨w2, e2, g1, g2⟩ := pc_owed (a := a) hn K1 R1 S T1 1000 (by omega) n (by omega) (0, -5) w1 (fun _ _ => rfl) rfl
  have F2 := pc_F_tr F1 (pc_F_67 g1 g2)
  have X2 := pc_X F2 X
  have t120 := pc_120 F2
  obtain ⟨v, e3, fv, ov⟩ := pm_owed (a := a') (x2 := w.1 120 61) hn X2 (by rw [t120]; exact S) 1000 (by omega) n (by omega) (0, -5) w2 (pm_Fg_rf _) (fun _ _ => rfl)
  rw [t120] at e3 ov
  generalize pg_od (fun v => FT cl N (nI v) (w.1 120)) 1000 (0, -5) = s at e2 e3
  have h120 : (xw_si v 120 61 (w.1 120 61)).1 120 = w.1 120 := by
    rw [pu_si1]
    funext j
    by_cases q : j = 61
    · rw [q, pk_us]
    · rw [pk_un q]; exact ov j q
  refine ⟨if a = 0 then s.1 else s.2, w2, xw_si v 120 61 (w.1 120 61), ?_, ?_, Rel_ask hR F2 ⟨fun k h1 h2 h3 h4 h5 => ?_, fv.2.1, fun j hj => ?_⟩⟩
  · unfold fX7_owed
    rw [pu_held Z rfl, e1, pu_b]
    unfold fX7_owed_25
    rw [show (999 : Int32) = pg_xe 1000 by decide]
    rw [e2, pu_bp]
    show fX7_owed_58 n a s.1 s.2 w2 = _
    unfold fX7_owed_58
    by_cases q : a = 0
    · rw [if_pos q, if_pos q]
    · rw [if_neg q, if_neg q]
  · unfold fX8_owed
    rw [pu_n61, pu_c61, pu_lt, t120]
    unfold fX8_owed_19
    rw [show (999 : Int32) = pg_xe 1000 by decide]
    rw [e3, pu_bp]
    show fX8_owed_72 n a' _ s.1 s.2 v = _
    unfold fX8_owed_72
    rw [pu_n61, pu_c61, pu_lt]
    rcases ha with ⟨rfl, rfl⟩ | ⟨rfl, rfl⟩
    · rw [if_neg (by decide), if_pos rfl]
    · rw [if_pos rfl, if_neg (by decide)]
  · by_cases q : k = 120
    · rw [q, h120, t120]
    · rw [pu_si0 _ _ _ q]
      exact fv.1 k h1 q h2 h3 h4 h5
  · rw [pu_si0 _ _ _ (by decide)]
    exact fv.2.2 j hj
