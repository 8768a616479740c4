/-! ===== odds, mean ===== -/
theorem pm_Fs_of_g {a b : xw_M} (h : pm_Fg a b) (g : b.1 120 = a.1 120) : pm_Fs a b := by
  refine ⟨fun k h1 h2 h3 h4 h5 => ?_, h.2.1, h.2.2⟩
  by_cases q : k = 120
  · rw [q, g]
  · exact h.1 k h1 q h2 h3 h4 h5
def SHo (cl : List pg_Cl) (g : Nat → Int32) (N m i : Nat) : Int32 := sh (pg_ro cl g) (fun q => if q = m then false else pg_he g q) N (g 61) i
def pg_dd (cl : List pg_Cl) (N : Nat) (g : Nat → Int32) (i : Nat) : Nat → Nat × Nat
  | 0 => (0, 0)
  | k + 1 => if k = i ∨ ¬ g (10 * k + 4) = 0 then pg_dd cl N g i k else ((pg_dd cl N g i k).1 + 1, if SHo cl g N k i ≤ SH cl g N i then (pg_dd cl N g i k).2 else (pg_dd cl N g i k).2 + 1)
theorem pg_dd_le (cl : List pg_Cl) (N : Nat) (g : Nat → Int32) (i : Nat) : ∀ k, (pg_dd cl N g i k).2 ≤ (pg_dd cl N g i k).1 ∧ (pg_dd cl N g i k).1 ≤ k := by
  intro k
  induction k with
  | zero => exact ⟨Nat.le_refl _, Nat.le_refl _⟩
  | succ k ih =>
    obtain ⟨i1, i2⟩ := ih
    unfold pg_dd
    by_cases h : k = i ∨ ¬ g (10 * k + 4) = 0
    · rw [if_pos h]; exact ⟨i1, by omega⟩
    · rw [if_neg h]
      by_cases q : SHo cl g N k i ≤ SH cl g N i
      · rw [if_pos q]; exact ⟨by show _ ≤ (pg_dd cl N g i k).1 + 1; omega, by show (pg_dd cl N g i k).1 + 1 ≤ k + 1; omega⟩
      · rw [if_neg q]; exact ⟨by show (pg_dd cl N g i k).2 + 1 ≤ (pg_dd cl N g i k).1 + 1; omega, by show (pg_dd cl N g i k).1 + 1 ≤ k + 1; omega⟩
theorem st_odds (n : Nat) (hn : 2000 ≤ n) : xs_odds n Rel := by
  intro a b w hR
  obtain ⟨p, N, M, cl, Z⟩ := pu_Z_of hR
  obtain ⟨K, -, hpa, hp, -, ho, hA, X⟩ := id Z
  have hN := K.1
  have b3 := K.2.2.1
  have b4 := K.2.2.2.1
  by_cases h1 : 0 ≤ a ∧ a < nI N
  case neg => exact ⟨-9223372036854775808, w, w, by unfold fX7_odds; simp only [pu_has a b3, pu_bp, pu_biF h1, reduceIte], by unfold fX8_odds; simp only [pu_isOne a hN b4, pu_bp, pu_biF h1, reduceIte], hR⟩
  by_cases h2 : 0 ≤ b ∧ b ≤ 1
  case neg => exact ⟨-9223372036854775808, w, w, by unfold fX7_odds; simp only [pu_has a b3, pu_within, pu_bp, pu_biT h1, pu_biF h2, pu_10, reduceIte], by unfold fX8_odds; simp only [pu_isOne a hN b4, pu_isIn, pu_bp, pu_biT h1, pu_biF h2, pu_10, reduceIte], hR⟩
  obtain ⟨i, hi, rfl⟩ := (pu_bnd (by omega)).mp h1
  have hi6 : i < 6 := by omega
  by_cases h3 : w.1 120 (10 * i + 4) = 0
  case neg => exact ⟨-9223372036854775808, w, w, by unfold fX7_odds; simp only [pu_has _ b3, pu_within, pu_bp, pu_biT h1, pu_biT h2, pu_10, reduceIte, pc_away K hi, if_neg h3], by unfold fX8_odds; simp only [pu_isOne _ hN b4, pu_isIn, pu_bp, pu_biT h1, pu_biT h2, pu_10, reduceIte, pm_isHere hi6, if_neg h3], hR⟩
  obtain ⟨g, hg⟩ : ∃ g, g = w.1 120 := ⟨_, rfl⟩
  have hM := pu_M64 hN K.2.1
  obtain ⟨w1, e1, f1, f2, R1⟩ := pc_look hn (by decide) hp ho hA K
  have F1 := pc_F_look f1 f2
  have K1 := pc_K1 F1 K
  obtain ⟨w2, e2, g1, g2⟩ := pc_share (D := w.1 120 61) hn (by decide) K1 R1 hM hi
  rw [pc_SH K1 hi] at e2
  have F2 := pc_F_tr F1 (pc_F_67 g1 g2)
  have K2 := pc_K1 F2 K
  have R2 : pc_R cl (w.1 120) N w2.1 := pc_R_cong (g1 65 (by decide)) (fun _ _ _ _ => rfl) R1
  rw [← hg] at e2 K2 R2
  obtain ⟨⟨o, d, w3⟩, e3, ho3, hd3, F3⟩ : ∃ y : Int32 × Int32 × xw_M, xw_it (fun z => fX7_odds_b85 n (nI i) b (SH cl g N i) z.1 z.2.1 z.2.2.1 z.2.2.2) n ((0 : Int32), (0 : Int32), (0 : Int32), w2) = some y ∧ y.1 = nI (pg_dd cl N g i N).1 ∧ y.2.1 = nI (pg_dd cl N g i N).2 ∧ pc_F w y.2.2 := by
    refine pu_inv (fun z => fX7_odds_b85 n (nI i) b (SH cl g N i) z.1 z.2.1 z.2.2.1 z.2.2.2) (fun k z => k ≤ N ∧ z.1 = nI (pg_dd cl N g i k).1 ∧ z.2.1 = nI (pg_dd cl N g i k).2 ∧ z.2.2.1 = nI k ∧ (∀ q, q ≠ 67 → z.2.2.2.1 q = w2.1 q) ∧ z.2.2.2.2 = w2.2) N _ ?_ ?_ n 0 _ (by omega) (by omega) ⟨by omega, rfl, rfl, rfl, fun _ _ => rfl, rfl⟩
    · rintro k ⟨x4, x5, x6, u⟩ hk ⟨-, rfl, rfl, rfl, c1, c2⟩
      have Ku : rK u.1 1 g N M := rK_cong (fun q q1 q2 => c1 q (by omega)) K2
      have Ru : pc_R cl g N u.1 := pc_R_cong (c1 65 (by decide)) (fun _ _ _ _ => rfl) R2
      have hbs := pu_bset2 N (by omega) M K.2.1 k hk
      obtain ⟨v, ev, v1, v2⟩ := pc_share (D := g 61) (B := M ||| 2 ^ k) hn (by decide) Ku Ru (pu_M64 hN hbs.1) hi
      have es : sh (pg_ro cl g) (fun m => !(M ||| 2 ^ k).testBit m) N (g 61) i = SHo cl g N k i := by
        unfold SHo
        refine sh_cong _ hi (fun m hm _ => rfl) (fun m hm => ?_)
        show (!(M ||| 2 ^ k).testBit m) = if m = k then false else pg_he g m
        rw [(hbs.2.2 m (by omega)).1, pg_he_M K2 hm]
        by_cases q : m = k
        · rw [if_pos q, if_pos q]; rfl
        · rw [if_neg q, if_neg q]
      rw [es] at ev
      have ed : pg_dd cl N g i (k + 1) = if k = i ∨ ¬ g (10 * k + 4) = 0 then pg_dd cl N g i k else ((pg_dd cl N g i k).1 + 1, if SHo cl g N k i ≤ SH cl g N i then (pg_dd cl N g i k).2 else (pg_dd cl N g i k).2 + 1) := rfl
      have fin : ∃ t : xw_M, fX7_odds_b85 n (nI i) b (SH cl g N i) (nI (pg_dd cl N g i k).1) (nI (pg_dd cl N g i k).2) (nI k) u = some (.inl (nI (pg_dd cl N g i (k + 1)).1, nI (pg_dd cl N g i (k + 1)).2, nI (k + 1), t)) ∧ (∀ q, q ≠ 67 → t.1 q = w2.1 q) ∧ t.2 = w2.2 := by
        rw [ed]
        unfold fX7_odds_b85
        rw [Ku.2.2.1, if_neg (nI_ge hk (by omega)), pc_away Ku hk, pu_bp, Ku.2.2.2.2.2.2.1, Ku.2.2.2.2.1, (pu_bset M hM k (by omega)).1, ev]
        unfold fX7_odds_164 fX7_odds_167
        simp only [pu_lt, nI_1, pu_b]
        by_cases q : k = i
        · rw [if_pos (show nI k = nI i by rw [q]), if_pos (Or.inl q)]
          exact ⟨u, rfl, c1, c2⟩
        · rw [if_neg (show ¬ nI k = nI i from fun z => q ((nI_eq (by omega) (by omega)).mp z))]
          by_cases q2 : g (10 * k + 4) = 0
          · have nq : ¬ (k = i ∨ ¬ g (10 * k + 4) = 0) := fun z => z.elim q (fun z => z q2)
            rw [if_pos q2, if_pos rfl, if_neg nq]
            refine ⟨v, ?_, fun q hq => (v1 q hq).trans (c1 q hq), v2.trans c2⟩
            by_cases q3 : SHo cl g N k i ≤ SH cl g N i
            · rw [if_pos q3, if_pos q3, Int32.add_zero]
            · rw [if_neg q3, if_neg q3]
          · rw [if_neg q2, if_neg (by decide), if_pos (Or.inr q2)]
            exact ⟨u, rfl, c1, c2⟩
      obtain ⟨t, t1, t2, t3⟩ := fin
      exact Or.inl ⟨_, t1, by omega, rfl, rfl, rfl, t2, t3⟩
    · rintro ⟨x4, x5, x6, u⟩ ⟨-, rfl, rfl, rfl, c1, c2⟩
      refine ⟨(nI (pg_dd cl N g i N).1, nI (pg_dd cl N g i N).2, u), ?_, rfl, rfl, pc_F_tr F2 (pc_F_67 c1 c2)⟩
      show fX7_odds_b85 n (nI i) b _ _ _ (nI N) u = _
      unfold fX7_odds_b85
      rw [show u.1 1 0 = nI N by rw [c1 1 (by decide)]; exact K2.2.2.1, if_pos (nI_le (Nat.le_refl _) (by omega))]
  simp only [] at ho3 hd3 F3
  subst ho3
  subst hd3
  have t120 : w3.1 120 = g := (pc_120 F3).trans hg.symm
  have X3 := pc_X F3 X
  obtain ⟨v, ev, fv, sv⟩ := pm_share X3.1 X3.2.1 hn hN X3.2.2.2.1 X3.2.2.2.2
  have Xv := pm_X_fs X3 fv
  have gv : v.1 120 = g := (pm_Fs_120 fv).trans t120
  rw [t120] at sv
  obtain ⟨⟨o, d, z⟩, ez, hoz, hdz, fz⟩ : ∃ y : Int32 × Int32 × xw_M, xw_it (fun z => fX8_odds_b49 n (nI i) b (SH cl g N i) z.1 z.2.1 z.2.2.1 z.2.2.2) n ((0 : Int32), (0 : Int32), (0 : Int32), v) = some y ∧ y.1 = nI (pg_dd cl N g i N).1 ∧ y.2.1 = nI (pg_dd cl N g i N).2 ∧ pm_Fs v y.2.2 := by
    refine pu_inv (fun z => fX8_odds_b49 n (nI i) b (SH cl g N i) z.1 z.2.1 z.2.2.1 z.2.2.2) (fun k z => k ≤ N ∧ z.1 = nI (pg_dd cl N g i k).1 ∧ z.2.1 = nI (pg_dd cl N g i k).2 ∧ z.2.2.1 = nI k ∧ pm_Fs v z.2.2.2) N _ ?_ ?_ n 0 _ (by omega) (by omega) ⟨by omega, rfl, rfl, rfl, pm_Fs_rf v⟩
    · rintro k ⟨x4, x5, x6, u⟩ hk ⟨-, rfl, rfl, rfl, fu⟩
      have k6 : k < 6 := by omega
      have Xu := pm_X_fs Xv fu
      have gu : u.1 120 = g := (pm_Fs_120 fu).trans gv
      obtain ⟨u1, hu1⟩ : ∃ u1, u1 = xw_si u 120 (10 * k + 4) 1 := ⟨_, rfl⟩
      have gu1 : u1.1 120 = upd g (10 * k + 4) 1 := by rw [hu1, pu_si1, gu]
      have fu1 : pm_Fg u u1 := by rw [hu1]; exact pm_Fg_si _ _ _
      have X1 : pm_X cl N u1 := pm_X_fg Xu fu1 (by rw [gu1, pk_un (by omega), gu]) (by rw [gu1, pk_un (by omega), gu]) (fun m hm => by rw [gu1, pk_un (by omega), ← gu]; exact Xu.2.2.2.2 m hm)
      obtain ⟨t, et, ft, st⟩ := pm_share X1.1 X1.2.1 hn hN X1.2.2.2.1 X1.2.2.2.2
      have st' : t.1 132 i = SHo cl g N k i := by
        rw [st i hi, gu1]
        unfold SH SHo
        rw [pk_un (show 61 ≠ 10 * k + 4 by omega)]
        refine sh_cong _ hi (fun m hm _ => ?_) (fun m hm => ?_)
        · unfold pg_ro pg_y
          rw [pk_un (show 10 * m + 3 ≠ 10 * k + 4 by omega)]
          exact pg_rt_cong _ (fun j hj => pk_un (by omega))
        · unfold pg_he
          by_cases q : m = k
          · rw [if_pos q, q, pk_us]; decide
          · rw [if_neg q, pk_un (show 10 * m + 4 ≠ 10 * k + 4 by omega)]
      have ed : pg_dd cl N g i (k + 1) = if k = i ∨ ¬ g (10 * k + 4) = 0 then pg_dd cl N g i k else ((pg_dd cl N g i k).1 + 1, if SHo cl g N k i ≤ SH cl g N i then (pg_dd cl N g i k).2 else (pg_dd cl N g i k).2 + 1) := rfl
      have fin : ∃ t' : xw_M, fX8_odds_b49 n (nI i) b (SH cl g N i) (nI (pg_dd cl N g i k).1) (nI (pg_dd cl N g i k).2) (nI k) u = some (.inl (nI (pg_dd cl N g i (k + 1)).1, nI (pg_dd cl N g i (k + 1)).2, nI (k + 1), t')) ∧ pm_Fs v t' := by
        rw [ed]
        unfold fX8_odds_b49
        rw [pu_n60, pu_c60, Xu.2.2.2.1, if_neg (nI_ge hk (by omega)), pm_isHere k6, pu_bp, gu]
        unfold fX8_odds_109 fX8_odds_121
        simp only [pu_lt, nI_1, pu_ch4 k6, pu_b, ← hu1, et, pu_ck hi6 (show 6 < 2 ^ 31 by decide), pu_cl (show i < 2 ^ 31 by omega), st']
        by_cases q : k = i
        · rw [if_pos (show nI k = nI i by rw [q]), if_pos (Or.inl q)]
          exact ⟨u, rfl, fu⟩
        · rw [if_neg (show ¬ nI k = nI i from fun z => q ((nI_eq (by omega) (by omega)).mp z))]
          by_cases q2 : g (10 * k + 4) = 0
          · have nq : ¬ (k = i ∨ ¬ g (10 * k + 4) = 0) := fun z => z.elim q (fun z => z q2)
            rw [if_pos q2, if_neg (show ¬ (1 : Int32) = 0 by decide), if_neg nq]
            refine ⟨xw_si t 120 (10 * k + 4) 0, ?_, pm_Fs_tr fu (pm_Fs_of_g (pm_Fg_tr fu1 (pm_Fg_tr (pm_Fg_of ft) (pm_Fg_si _ _ _))) ?_)⟩
            · by_cases q3 : SHo cl g N k i ≤ SH cl g N i
              · rw [if_pos q3, if_pos q3, Int32.add_zero]
              · rw [if_neg q3, if_neg q3]
            · rw [pu_si1, pm_Fs_120 ft, gu1, gu]
              funext j
              by_cases c : j = 10 * k + 4
              · rw [c, pk_us, q2]
              · rw [pk_un c, pk_un c]
          · rw [if_neg q2, if_pos rfl, if_pos (Or.inr q2)]
            exact ⟨u, rfl, fu⟩
      obtain ⟨t', t1, t2⟩ := fin
      exact Or.inl ⟨_, t1, by omega, rfl, rfl, rfl, t2⟩
    · rintro ⟨x4, x5, x6, u⟩ ⟨-, rfl, rfl, rfl, fu⟩
      refine ⟨(nI (pg_dd cl N g i N).1, nI (pg_dd cl N g i N).2, u), ?_, rfl, rfl, fu⟩
      show fX8_odds_b49 n (nI i) b _ _ _ (nI N) u = _
      unfold fX8_odds_b49
      rw [pu_n60, pu_c60, (pm_X_fs Xv fu).2.2.2.1, if_pos (nI_le (Nat.le_refl _) (by omega))]
  simp only [] at hoz hdz fz
  subst hoz
  subst hdz
  have le := pg_dd_le cl N g i N
  refine ⟨if (pg_dd cl N g i N).1 = 0 then -9223372036854775808 else if b = 0 then lN ((pg_dd cl N g i N).2 / Nat.gcd (pg_dd cl N g i N).2 (pg_dd cl N g i N).1) else lN ((pg_dd cl N g i N).1 / Nat.gcd (pg_dd cl N g i N).2 (pg_dd cl N g i N).1), w3, z, ?_, ?_, Rel_ask hR F3 (pm_Fs_tr fv fz)⟩
  · unfold fX7_odds
    simp only [pu_has _ b3, pu_within, pu_bp, pu_biT h1, pu_biT h2, pu_10, reduceIte, pc_away K hi, if_pos h3]
    rw [pu_held Z rfl, e1, pu_b, K1.2.2.2.2.2.2.1, K1.2.2.2.2.1, ← hg, e2, pu_b]
    unfold fX7_odds_85
    rw [e3, pu_bp]
    show fX7_odds_173 n (nI i) b _ _ w3 = _
    unfold fX7_odds_173
    rw [pc_frac hn (by omega) (by omega), pu_bp]
  · unfold fX8_odds
    simp only [pu_isOne (w := w3) (N := N) _ hN (by rw [t120, hg]; exact b4), pu_isIn, pu_bp, pu_biT h1, pu_biT h2, pu_10, reduceIte, pm_isHere hi6, show w3.1 120 (10 * i + 4) = 0 by rw [t120, hg]; exact h3]
    rw [ev, pu_b, pu_ck hi6 (by decide), pu_cl (by omega), pu_lt, sv i hi]
    unfold fX8_odds_49
    rw [ez, pu_bp]
    show fX8_odds_127 n (nI i) b _ _ z = _
    unfold fX8_odds_127
    by_cases q : (pg_dd cl N g i N).1 = 0
    · rw [if_pos q, if_pos (show nI (pg_dd cl N g i N).1 = 0 by rw [q]; rfl)]
    · rw [if_neg q, if_neg (nI_ne0 (by omega) (by omega)), pm_frac hn (by omega) (by omega) (by omega), pu_bp]
def pg_pc (M : Nat) : Nat → Nat
  | 0 => 0
  | k + 1 => pg_pc M k + (M.testBit k).toNat
theorem pg_pc_le (M : Nat) : ∀ k, pg_pc M k ≤ k := by
  intro k
  induction k with
  | zero => exact Nat.le_refl _
  | succ k ih =>
    show pg_pc M k + (M.testBit k).toNat ≤ k + 1
    cases M.testBit k
    · exact Nat.le_succ_of_le ih
    · exact Nat.succ_le_succ ih
theorem pg_pc_hi {M N : Nat} (h : M < 2 ^ N) : ∀ j, pg_pc M (N + j) = pg_pc M N := by
  intro j
  induction j with
  | zero => rfl
  | succ j ih =>
    show pg_pc M (N + j) + (M.testBit (N + j)).toNat = pg_pc M N
    rw [Nat.testBit_lt_two_pow (Nat.lt_of_lt_of_le h (Nat.pow_le_pow_right (by decide) (by omega))), ih]
    rfl
theorem pu_bitN : ∀ s, s < 64 → ∀ k, k < 6 → (nI s >>> (nI k &&& 31)) &&& (1 : Int32) = nI (s.testBit k).toNat := by decide +kernel
theorem pm_many {n s : Nat} (hn : 2000 ≤ n) (hs : s < 64) : fX8_many n (nI s) = some (nI (pg_pc s 6)) := by
  unfold fX8_many fX8_many_4
  have e : xw_it (fun z => fX8_many_b4 n (nI s) z.1 z.2) n ((0 : Int32), (0 : Int32)) = some (nI (pg_pc s 6)) := by
    refine pu_up (fun z => fX8_many_b4 n (nI s) z.1 z.2) (fun k => (nI (pg_pc s k), nI k)) 6 _ (fun k hk => ?_) ?_ (by omega)
    · show fX8_many_b4 n (nI s) (nI (pg_pc s k)) (nI k) = _
      unfold fX8_many_b4
      rw [show (6 : Int32) = nI 6 from rfl, if_neg (nI_ge hk (by decide)), pu_bitN s hs k hk, nI_add, pu_lt, pu_lt, nI_1]
      rfl
    · show fX8_many_b4 n (nI s) (nI (pg_pc s 6)) (nI 6) = _
      unfold fX8_many_b4
      rw [if_pos (show (6 : Int32) ≤ nI 6 by decide)]
  rw [e, pu_bp]
  rfl
theorem st_mean (n : Nat) (hn : 2000 ≤ n) : xs_mean n Rel := by
  intro a w hR
  obtain ⟨p, N, M, cl, Z⟩ := pu_Z_of hR
  obtain ⟨K, -, hpa, hp, -, ho, hA, X⟩ := id Z
  obtain ⟨R, c1, ⟨N', M', q1, q2, q3, q4, q5, qM, ⟨d1, ⟨dd, hd, d2⟩, d3⟩, -⟩, -⟩ := id hR
  have hN := K.1
  have b3 := K.2.2.1
  have b4 := K.2.2.2.1
  have hM := pu_M64 hN K.2.1
  have hpc : pg_pc M 6 = pg_pc M N := by
    have := pg_pc_hi K.2.1 (6 - N)
    rw [show N + (6 - N) = 6 by omega] at this
    exact this
  have hle := pg_pc_le M N
  have e7 : fX7_mean n a w = fX7_mean_40 n a (nI (N - pg_pc M N)) w := by
    unfold fX7_mean fX7_mean_4
    have e : xw_it (fun z => fX7_mean_b4 n a z.1 z.2 w) n ((0 : Int32), (0 : Int32)) = some (nI (N - pg_pc M N)) := by
      refine pu_up (fun z => fX7_mean_b4 n a z.1 z.2 w) (fun k => (nI (k - pg_pc M k), nI k)) N _ (fun k hk => ?_) ?_ (by omega)
      · show fX7_mean_b4 n a (nI (k - pg_pc M k)) (nI k) w = some (.inl (nI (k + 1 - (pg_pc M k + (M.testBit k).toNat)), nI (k + 1)))
        have hk1 := pg_pc_le M k
        unfold fX7_mean_b4
        rw [b3, if_neg (nI_ge hk (by omega)), pc_away K hk, pu_bp, (K.2.2.2.2.2.1.1 k hk).2.2.2.2.1]
        unfold fX7_mean_32
        simp only [pu_lt, nI_1]
        by_cases q : M.testBit k = true
        · rw [q, pu_biT rfl, if_neg (show ¬ (1 : Int32) = 0 by decide), if_neg (show ¬ (1 : Int32) = 0 by decide), Int32.add_zero, show k + 1 - (pg_pc M k + true.toNat) = k - pg_pc M k by simp]
        · rw [Bool.not_eq_true] at q
          rw [q, pu_biF (by decide), if_pos (show (0 : Int32) = 0 from rfl), show k + 1 - (pg_pc M k + false.toNat) = k - pg_pc M k + 1 by simp; omega]
          exact if_pos rfl
      · show fX7_mean_b4 n a (nI (N - pg_pc M N)) (nI N) w = _
        unfold fX7_mean_b4
        rw [b3, if_pos (nI_le (Nat.le_refl _) (by omega))]
    rw [e, pu_bp]
  have e8 : fX8_mean n a w = if pu_bi (0 ≤ a ∧ a ≤ 1) = 0 then some (-9223372036854775808 : Int64) else if nI (N - pg_pc M N) ≤ 0 then some (-9223372036854775808 : Int64) else xw_bp (fX8_fraction n ((w.1 120 61).toInt64) (nI (N - pg_pc M N)).toInt64 a) (fun r12 => some r12) := by
    unfold fX8_mean
    rw [pu_n60, pu_c60, pm_aways hn K, pu_bp, pm_many hn hM, pu_bp, b4, hpc, pk_sub hle, pu_lt, pu_isIn, pu_bp, pu_n61, pu_c61]
  rw [e7, e8]
  unfold fX7_mean_40
  rw [pu_within, pu_bp]
  by_cases h : 0 ≤ a ∧ a ≤ 1
  case neg => exact ⟨-9223372036854775808, by rw [pu_biF h, if_pos rfl], by rw [pu_biF h, if_pos rfl], hR⟩
  rw [pu_biT h, if_neg (by decide), if_neg (by decide), d1, d2, pc_frac hn (by omega) (by omega), pu_bp]
  by_cases q : N - pg_pc M N = 0
  · rw [q, if_pos rfl, if_pos (show (nI 0 : Int32) ≤ 0 by decide)]
    exact ⟨_, rfl, rfl, hR⟩
  · rw [if_neg q, if_neg (nI_nle (by omega) (by omega)), pm_frac hn (by omega) (by omega) (by omega), pu_bp]
    exact ⟨_, rfl, rfl, hR⟩
