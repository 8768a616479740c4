/-! ===== kept ===== -/
def KS (cl : List pg_Cl) (g : Nat → Int32) (N M i s : Nat) : Int32 := sh (pg_ro cl g) (fun m => !(M ||| s).testBit m) N (g 61) i
def pg_lt (o : Option Nat) (s : Nat) : Bool := match o with
  | none => true
  | some b => decide (pg_pc s 6 < pg_pc b 6)
def pg_kp (F : Nat → Int32) (i T : Nat) (q : Int32) : Nat → Option Nat
  | 0 => none
  | s + 1 => if s < T ∧ s.testBit i = false ∧ pg_lt (pg_kp F i T q s) s = true ∧ ¬ F s < q then some s else pg_kp F i T q s
theorem pg_kp_lt (F : Nat → Int32) (i T : Nat) (q : Int32) : ∀ s b, pg_kp F i T q s = some b → b < s := by
  intro s
  induction s with
  | zero => intro b h; cases h
  | succ s ih =>
    intro b h
    unfold pg_kp at h
    by_cases c : s < T ∧ s.testBit i = false ∧ pg_lt (pg_kp F i T q s) s = true ∧ ¬ F s < q
    · rw [if_pos c] at h
      cases h
      omega
    · rw [if_neg c] at h
      have := ih b h
      omega
theorem pg_kp_T (F : Nat → Int32) (i T : Nat) (q : Int32) : ∀ j, pg_kp F i T q (T + j) = pg_kp F i T q T := by
  intro j
  induction j with
  | zero => rfl
  | succ j ih =>
    show (if _ then _ else pg_kp F i T q (T + j)) = _
    rw [if_neg (fun z => absurd z.1 (Nat.not_lt.mpr (Nat.le_add_right T j))), ih]
def pg_kx (o : Option Nat) : Int32 := match o with
  | none => -5
  | some b => nI b
def pg_kf (o : Option Nat) : Int32 := match o with
  | none => 7
  | some b => nI (pg_pc b 6)
theorem pg_kf_le (o : Option Nat) (s : Nat) : pg_kf o ≤ nI (pg_pc s 6) ↔ ¬ pg_lt o s = true := by
  have hs := pg_pc_le s 6
  cases o with
  | none => exact ⟨fun z => absurd z (nI_ge (b := 7) (by omega) (by decide)), fun z => absurd rfl z⟩
  | some b =>
    have hb := pg_pc_le b 6
    show nI (pg_pc b 6) ≤ nI (pg_pc s 6) ↔ ¬ decide (pg_pc s 6 < pg_pc b 6) = true
    rw [nI_leI (by omega) (by omega), decide_eq_true_iff]
    omega
theorem pu_bcnt : ∀ s, s < 64 → fJ6_bitCount_0f7a4 (nI s) = some (nI (pg_pc s 6)) := by decide +kernel
theorem pu_shN : ∀ s, s < 64 → ∀ N, N < 7 → ((nI s >>> (nI N &&& 31)) = 0 ↔ s < 2 ^ N) := by decide +kernel
theorem pu_1shl : ∀ N, N < 7 → (1 : Int32) <<< (nI N &&& 31) = nI (2 ^ N) := by decide +kernel
theorem pu_bit1 : ∀ s, s < 64 → ∀ m, m < 6 → (((nI s >>> (nI m &&& 31)) &&& (1 : Int32)) = 1 ↔ s.testBit m = true) := by decide +kernel
theorem pu_2N {N : Nat} (h : N ≤ 6) : 2 ^ N ≤ 64 := Nat.pow_le_pow_right (show 2 > 0 by decide) h
def pm_Fk (w w' : xw_M) : Prop := (∀ k, k ≠ 119 → k ≠ 121 → k ≠ 126 → k ≠ 127 → k ≠ 131 → k ≠ 132 → w'.1 k = w.1 k) ∧ w'.2 = w.2 ∧ ∀ j, (j < 10 ∨ 15 < j) → w'.1 119 j = w.1 119 j
theorem pm_Fk_tr {a b c : xw_M} (h : pm_Fk a b) (g : pm_Fk b c) : pm_Fk a c := ⟨fun k h1 h2 h3 h4 h5 h6 => (g.1 k h1 h2 h3 h4 h5 h6).trans (h.1 k h1 h2 h3 h4 h5 h6), g.2.1.trans h.2.1, fun j hj => (g.2.2 j hj).trans (h.2.2 j hj)⟩
theorem pm_Fk_rf (a : xw_M) : pm_Fk a a := ⟨fun _ _ _ _ _ _ _ => rfl, rfl, fun _ _ => rfl⟩
theorem pm_Fk_X {cl : List pg_Cl} {N : Nat} {w w' : xw_M} (f : pm_Fk w w') (X : pm_X cl N w) : pm_X cl N w' := by
  obtain ⟨x1, x2, x3, x4, x5⟩ := X
  have a : ∀ k, k ≠ 119 → k ≠ 121 → k ≠ 126 → k ≠ 127 → k ≠ 131 → k ≠ 132 → w'.1 k = w.1 k := f.1
  unfold pm_X pm_D
  rw [a 128 (by decide) (by decide) (by decide) (by decide) (by decide) (by decide), a 129 (by decide) (by decide) (by decide) (by decide) (by decide) (by decide), a 130 (by decide) (by decide) (by decide) (by decide) (by decide) (by decide), a 120 (by decide) (by decide) (by decide) (by decide) (by decide) (by decide)]
  exact ⟨x1, rH_cong (a 124 (by decide) (by decide) (by decide) (by decide) (by decide) (by decide)) (a 125 (by decide) (by decide) (by decide) (by decide) (by decide) (by decide)) rfl x2, x3, x4, x5⟩
/-- one set of others is tried: who is away, the shares, laid back -/
theorem pm_try {n N M i s : Nat} {q x3 : Int32} {cl : List pg_Cl} {u : xw_M} {m0 : Nat → Nat → Int32} {b : Nat} (hn : 2000 ≤ n) (X : pm_X cl N u) (K : rK m0 b (u.1 120) N M) (hi : i < N) (hs : s < 2 ^ N) : ∃ t, fX8_kept_79 n (nI i) q x3 (nI s) u = some (.inl (if KS cl (u.1 120) N M i s < q then x3 else nI s, nI (s + 1), t)) ∧ pm_Fk u t := by
  have hN := X.2.2.1
  have hs64 : s < 64 := Nat.lt_of_lt_of_le hs (pu_2N hN)
  obtain ⟨g, hg⟩ : ∃ g, g = u.1 120 := ⟨_, rfl⟩
  obtain ⟨k1, ek, ka, kb, kc⟩ := pm_keep hn u
  have Xk := pm_Xk ka X
  have gk : k1.1 120 = g := (ka 120 (by decide)).trans hg.symm
  obtain ⟨v, ev, fv, va, vb⟩ : ∃ v, xw_it (fun z => fX8_kept_b87 n (nI i) q x3 (nI s) z.1 z.2) n ((0 : Int32), k1) = some v ∧ pm_Fg k1 v ∧ (∀ m, m < N → v.1 120 (10 * m + 4) = if s.testBit m = true then 1 else g (10 * m + 4)) ∧ ∀ j, (∀ m, m < N → j ≠ 10 * m + 4) → v.1 120 j = g j := by
    refine pu_inv (fun z => fX8_kept_b87 n (nI i) q x3 (nI s) z.1 z.2) (fun k z => k ≤ N ∧ z.1 = nI k ∧ pm_Fg k1 z.2 ∧ (∀ m, m < k → z.2.1 120 (10 * m + 4) = if s.testBit m = true then 1 else g (10 * m + 4)) ∧ ∀ j, (∀ m, m < k → j ≠ 10 * m + 4) → z.2.1 120 j = g j) N _ ?_ ?_ n 0 _ (by omega) (by omega) ⟨by omega, rfl, pm_Fg_rf _, fun m hm => absurd hm (by omega), fun j _ => by rw [show ((0 : Int32), k1).2 = k1 from rfl, gk]⟩
    · rintro k ⟨x, v⟩ hk ⟨-, rfl, c1, c2, c3⟩
      have k6 : k < 6 := by omega
      have h60 : v.1 120 60 = nI N := by rw [c3 60 (by omega), hg]; exact X.2.2.2.1
      have h4 : v.1 120 (10 * k + 4) = g (10 * k + 4) := c3 _ (by omega)
      refine Or.inl ⟨(nI (k + 1), xw_si v 120 (10 * k + 4) (if s.testBit k = true then 1 else g (10 * k + 4))), ?_, by omega, rfl, pm_Fg_tr c1 (pm_Fg_si _ _ _), fun m hm => ?_, fun j hj => ?_⟩
      · show fX8_kept_b87 n (nI i) q x3 (nI s) (nI k) v = _
        unfold fX8_kept_b87
        rw [pu_n60, pu_c60, h60, if_neg (nI_ge hk (by omega))]
        unfold fX8_kept_125
        by_cases c : s.testBit k = true
        · rw [if_pos ((pu_bit1 s hs64 k k6).mpr c), if_pos c, pu_ch4 k6, pu_b, pu_lt, nI_1]
        · rw [if_neg (fun z => c ((pu_bit1 s hs64 k k6).mp z)), if_neg c, pu_o4 k6, pu_bp, h4, pu_ch4 k6, pu_b, pu_lt, nI_1]
      · show (xw_si v 120 _ _).1 120 (10 * m + 4) = _
        rw [pu_si1]
        by_cases e : m = k
        · rw [e, pk_us]
        · rw [pk_un (by omega)]; exact c2 m (by omega)
      · show (xw_si v 120 _ _).1 120 j = _
        rw [pu_si1, pk_un (hj k (by omega))]
        exact c3 j (fun m hm => hj m (by omega))
    · rintro ⟨x, v⟩ ⟨-, rfl, c1, c2, c3⟩
      refine ⟨v, ?_, c1, c2, c3⟩
      show fX8_kept_b87 n (nI i) q x3 (nI s) (nI N) v = _
      unfold fX8_kept_b87
      rw [pu_n60, pu_c60, c3 60 (by omega), hg, X.2.2.2.1, if_pos (nI_le (Nat.le_refl _) (by omega))]
  have Xv : pm_X cl N v := pm_X_fg Xk fv (by rw [vb 60 (by omega), gk]) (by rw [vb 63 (by omega), gk]) (fun m hm => by rw [vb _ (by omega), ← gk]; exact Xk.2.2.2.2 m hm)
  obtain ⟨t, et, ft, st⟩ := pm_share Xv.1 Xv.2.1 hn hN Xv.2.2.2.1 Xv.2.2.2.2
  have st' : t.1 132 i = KS cl g N M i s := by
    rw [st i hi]
    unfold SH KS
    rw [vb 61 (by omega)]
    refine sh_cong _ hi (fun m hm _ => ?_) (fun m hm => ?_)
    · unfold pg_ro pg_y
      rw [vb (10 * m + 3) (by omega)]
      exact pg_rt_cong _ (fun j hj => vb j (by omega))
    · have hM := pg_he_M K hm
      rw [← hg] at hM
      unfold pg_he at hM ⊢
      rw [va m hm, Nat.testBit_or]
      by_cases c : s.testBit m = true
      · rw [if_pos c, c, Bool.or_true]; decide
      · rw [if_neg c, hM]
        rw [Bool.not_eq_true] at c
        rw [c, Bool.or_false]
  obtain ⟨l, el, la, lb, lc⟩ := pm_lay hn t
  have l120 : l.1 120 = g := by
    funext j
    rw [lc j]
    by_cases c : j < 109
    · rw [if_pos c, ft.1 121 (by decide) (by decide) (by decide) (by decide) (by decide), fv.1 121 (by decide) (by decide) (by decide) (by decide) (by decide) (by decide), kc j c, hg]
    · rw [if_neg c, pm_Fs_120 ft, vb j (by omega)]
  refine ⟨l, ?_, ⟨fun k h1 h2 h3 h4 h5 h6 => ?_, lb.trans (ft.2.1.trans (fv.2.1.trans kb)), fun j hj => ?_⟩⟩
  · unfold fX8_kept_79 fX8_kept_87
    rw [ek, pu_b, ev, pu_bp]
    show fX8_kept_135 n (nI i) q x3 (nI s) v = _
    unfold fX8_kept_135 fX8_kept_155 fX8_kept_161
    rw [et, pu_b, pu_ck (show i < 6 by omega) (by decide), pu_cl (by omega), st', el, pu_b, pu_b, pu_lt, pu_lt, nI_1, ← hg]
    by_cases c : KS cl g N M i s < q
    · rw [if_pos c, if_pos c]
    · rw [if_neg c, if_neg c]
  · by_cases c : k = 120
    · rw [c, l120, hg]
    · rw [la k c, ft.1 k h1 h3 h4 h5 h6, fv.1 k h1 c h3 h4 h5 h6, ka k h2]
  · rw [la 119 (by decide), ft.2.2 j hj, fv.2.2 j hj, ka 119 (by decide)]
theorem st_kept (n : Nat) (hn : 2000 ≤ n) : xs_kept n Rel := by
  intro a q w hR
  obtain ⟨p, N, M, cl, Z⟩ := pu_Z_of hR
  obtain ⟨K, -, hpa, hp, -, ho, hA, X⟩ := id Z
  have hN := K.1
  have b3 := K.2.2.1
  have b4 := K.2.2.2.1
  by_cases h1 : 0 ≤ a ∧ a < nI N
  case neg => exact ⟨-1, w, w, by unfold fX7_kept; simp only [pu_has a b3, pu_bp, pu_biF h1, reduceIte], by unfold fX8_kept; simp only [pu_isOne a hN b4, pu_bp, pu_biF h1, reduceIte], hR⟩
  by_cases h2 : 0 ≤ q ∧ q ≤ 999
  case neg => exact ⟨-2, w, w, by unfold fX7_kept; simp only [pu_has a b3, pu_within, pu_bp, pu_biT h1, pu_biF h2, pu_10, reduceIte], by unfold fX8_kept; simp only [pu_isOne a hN b4, pu_isIn, pu_bp, pu_biT h1, pu_biF h2, pu_10, reduceIte], hR⟩
  obtain ⟨i, hi, rfl⟩ := (pu_bnd (by omega)).mp h1
  have hi6 : i < 6 := by omega
  have T64 := pu_2N hN
  have hT : 0 < 2 ^ N := Nat.two_pow_pos N
  by_cases h3 : w.1 120 (10 * i + 4) = 0
  case neg =>
    refine ⟨-5, w, w, by unfold fX7_kept; simp only [pu_has _ b3, pu_within, pu_bp, pu_biT h1, pu_biT h2, pu_10, reduceIte, pc_away K hi, if_neg h3], ?_, hR⟩
    unfold fX8_kept
    simp only [pu_isOne _ hN b4, pu_isIn, pu_bp, pu_biT h1, pu_biT h2, pu_10, reduceIte]
    unfold fX8_kept_30
    obtain ⟨n', rfl⟩ : ∃ n', n = n' + 1 := ⟨n - 1, by omega⟩
    have step : fX8_kept_b30 (n' + 1) (nI i) q (-5) (0 : Int32) w = some (.inr (-5, w)) := by
      unfold fX8_kept_b30
      rw [pu_n60, pu_c60, b4, pu_1shl N (by omega), show (0 : Int32) = nI 0 from rfl, if_neg (nI_ge hT (by omega)), pm_isHere hi6, pu_bp, if_neg h3]
      exact if_pos rfl
    rw [pu_it1 (fun z => fX8_kept_b30 (n' + 1) (nI i) q z.1 z.2.1 z.2.2) (a := (-5, (0 : Int32), w)) step, pu_bp]
    rfl
  obtain ⟨g, hg⟩ : ∃ g, g = w.1 120 := ⟨_, rfl⟩
  have hM := pu_M64 hN K.2.1
  obtain ⟨w1, e1, f1, f2, R1⟩ := pc_look hn (by decide) hp ho hA K
  have F1 := pc_F_look f1 f2
  have K1 := pc_K1 F1 K
  rw [← hg] at K1 R1
  obtain ⟨F, hF⟩ : ∃ F : Nat → Int32, F = KS cl g N M i := ⟨_, rfl⟩
  obtain ⟨⟨r, w3⟩, e3, hr, F3⟩ : ∃ y : Int32 × xw_M, xw_it (fun z => fX7_kept_b65 n (nI i) q z.1 z.2.1 z.2.2.1 z.2.2.2) n ((-5 : Int32), (7 : Int32), (0 : Int32), w1) = some y ∧ y.1 = pg_kx (pg_kp F i (2 ^ N) q 64) ∧ pc_F w y.2 := by
    refine pu_inv (fun z => fX7_kept_b65 n (nI i) q z.1 z.2.1 z.2.2.1 z.2.2.2) (fun s z => s ≤ 64 ∧ z.1 = pg_kx (pg_kp F i (2 ^ N) q s) ∧ z.2.1 = pg_kf (pg_kp F i (2 ^ N) q s) ∧ z.2.2.1 = nI s ∧ (∀ q, q ≠ 67 → z.2.2.2.1 q = w1.1 q) ∧ z.2.2.2.2 = w1.2) 64 _ ?_ ?_ n 0 _ (by omega) (by omega) ⟨by omega, rfl, rfl, rfl, fun _ _ => rfl, rfl⟩
    · rintro s ⟨x3, x4, x5, u⟩ hs ⟨-, rfl, rfl, rfl, c1, c2⟩
      have Ku : rK u.1 1 g N M := rK_cong (fun q q1 q2 => c1 q (by omega)) K1
      have Ru : pc_R cl g N u.1 := pc_R_cong (c1 65 (by decide)) (fun _ _ _ _ => rfl) R1
      obtain ⟨v, ev, v1, v2⟩ := pc_share (D := g 61) (B := M ||| s) hn (by decide) Ku Ru (Nat.or_lt_two_pow (n := 6) hM hs) hi
      rw [show sh (pg_ro cl g) (fun m => !(M ||| s).testBit m) N (g 61) i = F s by rw [hF]; rfl] at ev
      have ek : pg_kp F i (2 ^ N) q (s + 1) = if s < 2 ^ N ∧ s.testBit i = false ∧ pg_lt (pg_kp F i (2 ^ N) q s) s = true ∧ ¬ F s < q then some s else pg_kp F i (2 ^ N) q s := rfl
      generalize pg_kp F i (2 ^ N) q s = o at ek
      have fin : ∃ t : xw_M, fX7_kept_b65 n (nI i) q (pg_kx o) (pg_kf o) (nI s) u = some (.inl (pg_kx (pg_kp F i (2 ^ N) q (s + 1)), pg_kf (pg_kp F i (2 ^ N) q (s + 1)), nI (s + 1), t)) ∧ (∀ q, q ≠ 67 → t.1 q = w1.1 q) ∧ t.2 = w1.2 := by
        rw [ek]
        unfold fX7_kept_b65
        rw [if_neg (show ¬ (64 : Int32) ≤ nI s from nI_ge (b := 64) hs (by decide)), Ku.2.2.1]
        unfold fX7_kept_98 fX7_kept_99 fX7_kept_159
        rw [Ku.2.2.2.2.2.2.1, Ku.2.2.2.2.1, pg_nIor (by omega) (by omega)]
        simp only [pu_bcnt s hs, pu_bp, ev, pu_b, pu_lt, nI_1]
        by_cases d1 : s < 2 ^ N
        · rw [if_pos ((pu_shN s hs N (by omega)).mpr d1)]
          by_cases d2 : s.testBit i = true
          · rw [if_neg (fun z => (pu_bit s hs i hi6).mp z d2), if_pos trivial, if_neg (fun z => by have := z.2.1; rw [d2] at this; exact Bool.noConfusion this)]
            exact ⟨u, rfl, c1, c2⟩
          · rw [if_pos ((pu_bit s hs i hi6).mpr d2), if_neg (show ¬ (1 : Int32) = 0 by decide)]
            by_cases d3 : pg_lt o s = true
            · rw [if_neg (fun z => (pg_kf_le o s).mp z d3)]
              refine ⟨v, ?_, fun q hq => (v1 q hq).trans (c1 q hq), v2.trans c2⟩
              by_cases d4 : F s < q
              · rw [if_pos d4, if_neg (fun z => z.2.2.2 d4)]
              · rw [if_neg d4, if_pos ⟨d1, by rw [Bool.not_eq_true] at d2; exact d2, d3, d4⟩]
                rfl
            · rw [if_pos ((pg_kf_le o s).mpr d3), if_neg (fun z => d3 z.2.2.1)]
              exact ⟨u, rfl, c1, c2⟩
        · rw [if_neg (fun z => d1 ((pu_shN s hs N (by omega)).mp z)), if_pos trivial, if_neg (fun z => d1 z.1)]
          exact ⟨u, rfl, c1, c2⟩
      obtain ⟨t, t1, t2, t3⟩ := fin
      exact Or.inl ⟨_, t1, by omega, rfl, rfl, rfl, t2, t3⟩
    · rintro ⟨x3, x4, x5, u⟩ ⟨-, rfl, rfl, rfl, c1, c2⟩
      refine ⟨(pg_kx (pg_kp F i (2 ^ N) q 64), u), ?_, rfl, pc_F_tr F1 (pc_F_67 c1 c2)⟩
      show fX7_kept_b65 n (nI i) q _ _ (nI 64) u = _
      unfold fX7_kept_b65
      rw [if_pos (show (64 : Int32) ≤ nI 64 by decide)]
  simp only [] at hr F3
  subst hr
  have hE : pg_kp F i (2 ^ N) q 64 = pg_kp F i (2 ^ N) q (2 ^ N) := by
    have := pg_kp_T F i (2 ^ N) q (64 - 2 ^ N)
    rw [show 2 ^ N + (64 - 2 ^ N) = 64 by omega] at this
    exact this
  rw [hE] at e3
  have t120 : w3.1 120 = g := (pc_120 F3).trans hg.symm
  have X3 := pc_X F3 X
  obtain ⟨⟨r, z⟩, ez, hrz, fz⟩ : ∃ y : Int32 × xw_M, xw_it (fun z => fX8_kept_b30 n (nI i) q z.1 z.2.1 z.2.2) n ((-5 : Int32), (0 : Int32), w3) = some y ∧ y.1 = pg_kx (pg_kp F i (2 ^ N) q (2 ^ N)) ∧ pm_Fk w3 y.2 := by
    refine pu_inv (fun z => fX8_kept_b30 n (nI i) q z.1 z.2.1 z.2.2) (fun s z => s ≤ 2 ^ N ∧ z.1 = pg_kx (pg_kp F i (2 ^ N) q s) ∧ z.2.1 = nI s ∧ pm_Fk w3 z.2.2) (2 ^ N) _ ?_ ?_ n 0 _ (by omega) (by omega) ⟨by omega, rfl, rfl, pm_Fk_rf _⟩
    · rintro s ⟨x3, x4, u⟩ hs ⟨-, rfl, rfl, c1⟩
      have hs64 : s < 64 := by omega
      have Xu := pm_Fk_X c1 X3
      have gu : u.1 120 = g := (c1.1 120 (by decide) (by decide) (by decide) (by decide) (by decide) (by decide)).trans t120
      have Ku : rK w1.1 1 (u.1 120) N M := by rw [gu]; exact K1
      have ek : pg_kp F i (2 ^ N) q (s + 1) = if s < 2 ^ N ∧ s.testBit i = false ∧ pg_lt (pg_kp F i (2 ^ N) q s) s = true ∧ ¬ F s < q then some s else pg_kp F i (2 ^ N) q s := rfl
      have lo := pg_kp_lt F i (2 ^ N) q s
      generalize pg_kp F i (2 ^ N) q s = o at ek lo
      obtain ⟨t, et, ft⟩ := pm_try (q := q) (x3 := pg_kx o) hn Xu Ku hi hs
      rw [gu, show KS cl g N M i s = F s by rw [hF]] at et
      have fin : ∃ t' : xw_M, fX8_kept_b30 n (nI i) q (pg_kx o) (nI s) u = some (.inl (pg_kx (pg_kp F i (2 ^ N) q (s + 1)), nI (s + 1), t')) ∧ pm_Fk w3 t' := by
        rw [ek]
        unfold fX8_kept_b30
        rw [pu_n60, pu_c60, Xu.2.2.2.1, pu_1shl N (by omega), if_neg (nI_ge hs (by omega)), pm_isHere hi6, pu_bp, gu, if_pos (show g (10 * i + 4) = 0 by rw [hg]; exact h3), if_neg (show ¬ (1 : Int32) = 0 by decide), pm_many hn hs64, pu_bp]
        by_cases d2 : s.testBit i = true
        · rw [if_neg (fun z => (pu_bit s hs64 i hi6).mp z d2), if_neg (fun z => by have := z.2.1; rw [d2] at this; exact Bool.noConfusion this)]
          unfold fX8_kept_161
          exact ⟨u, by rw [pu_lt, nI_1], c1⟩
        · rw [if_pos ((pu_bit s hs64 i hi6).mpr d2)]
          have yes : pg_lt o s = true → ∃ t' : xw_M, fX8_kept_79 n (nI i) q (pg_kx o) (nI s) u = some (.inl (pg_kx (if s < 2 ^ N ∧ s.testBit i = false ∧ pg_lt o s = true ∧ ¬ F s < q then some s else o), nI (s + 1), t')) ∧ pm_Fk w3 t' := by
            intro d3
            refine ⟨t, ?_, pm_Fk_tr c1 ft⟩
            rw [et]
            by_cases d4 : F s < q
            · rw [if_pos d4, if_neg (fun z => z.2.2.2 d4)]
            · rw [if_neg d4, if_pos ⟨hs, by rw [Bool.not_eq_true] at d2; exact d2, d3, d4⟩]
              rfl
          cases o with
          | none =>
            rw [if_pos (show pg_kx none = -5 from rfl)]
            exact yes rfl
          | some b =>
            have hb := lo b rfl
            rw [if_neg (show ¬ pg_kx (some b) = -5 from fun z => by have h5 : nI b = -5 := z; have := nI_pos' (n := b) (by omega); rw [h5] at this; exact absurd this (by decide)), show pg_kx (some b) = nI b from rfl, pm_many hn (by omega), pu_bp]
            have := pg_kf_le (some b) s
            by_cases d3 : pg_lt (some b) s = true
            · rw [if_neg (show ¬ nI (pg_pc b 6) ≤ nI (pg_pc s 6) from fun z => (this.mp z) d3)]
              exact yes d3
            · rw [if_pos (show nI (pg_pc b 6) ≤ nI (pg_pc s 6) from this.mpr d3), if_neg (fun z => d3 z.2.2.1)]
              unfold fX8_kept_161
              exact ⟨u, by rw [pu_lt, nI_1]; rfl, c1⟩
      obtain ⟨t', t1, t2⟩ := fin
      exact Or.inl ⟨_, t1, by omega, rfl, rfl, t2⟩
    · rintro ⟨x3, x4, u⟩ ⟨-, rfl, rfl, c1⟩
      refine ⟨(pg_kx (pg_kp F i (2 ^ N) q (2 ^ N)), u), ?_, rfl, c1⟩
      show fX8_kept_b30 n (nI i) q _ (nI (2 ^ N)) u = _
      unfold fX8_kept_b30
      rw [pu_n60, pu_c60, (pm_Fk_X c1 X3).2.2.2.1, pu_1shl N (by omega), if_pos (nI_le (Nat.le_refl _) (by omega))]
  simp only [] at hrz fz
  subst hrz
  refine ⟨pg_kx (pg_kp F i (2 ^ N) q (2 ^ N)), w3, z, ?_, ?_, Rel_ask2 hR F3 (fun k h1 h2 h3 h4 h5 h6 _ => fz.1 k h1 h2 h3 h4 h5 h6) fz.2.1 fz.2.2⟩
  · unfold fX7_kept
    simp only [pu_has _ b3, pu_within, pu_bp, pu_biT h1, pu_biT h2, pu_10, reduceIte, pc_away K hi, if_pos h3]
    rw [pu_held Z rfl, e1, pu_b]
    unfold fX7_kept_65
    rw [e3, pu_bp]
    rfl
  · unfold fX8_kept
    simp only [pu_isOne (w := w3) (N := N) _ hN (by rw [t120, hg]; exact b4), pu_isIn, pu_bp, pu_biT h1, pu_biT h2, pu_10, reduceIte]
    unfold fX8_kept_30
    rw [ez, pu_bp]
    rfl
