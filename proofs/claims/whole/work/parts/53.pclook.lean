/-! ===== the class reckons rates ===== -/
theorem pc_at6 (a : Int32) (w : xw_M) : fX7_at 66 6 a w = some (pg_f6 (w.1 66) a) := by
  unfold fX7_at pg_f6
  by_cases h1 : a < 0
  · rw [if_pos h1, if_pos h1]
  · rw [if_neg h1, if_neg h1]
    by_cases h2 : nI 6 ≤ a
    · rw [if_pos h2, if_pos h2]
    · rw [if_neg h2, if_neg h2]
      obtain ⟨j, hj, rfl⟩ := nI_of h1
      exact pu_ck (Nat.lt_of_not_le (fun z => h2 (nI_le z hj))) (by decide) _
theorem pg_f6_cong {f f' : Nat → Int32} (h : ∀ k, k < 6 → f k = f' k) (a : Int32) : pg_f6 f a = pg_f6 f' a := by
  unfold pg_f6
  by_cases h1 : a < 0
  · rw [if_pos h1, if_pos h1]
  · rw [if_neg h1, if_neg h1]
    by_cases h2 : nI 6 ≤ a
    · rw [if_pos h2, if_pos h2]
    · rw [if_neg h2, if_neg h2]
      obtain ⟨j, hj, rfl⟩ := nI_of h1
      rw [pu_cl hj]
      exact h j (Nat.lt_of_not_le (fun z => h2 (nI_le z hj)))
theorem pg_ri_cong {f f' : Nat → Int32} (h : ∀ k, k < 6 → f k = f' k) : ∀ (l : List pg_St) (T : Int32), pg_ri f l T = pg_ri f' l T := by
  intro l
  induction l with
  | nil => intro T; rfl
  | cons s l ih =>
    intro T
    show pg_ri f l (pg_rs f s T) = pg_ri f' l (pg_rs f' s T)
    have e : pg_rs f s T = pg_rs f' s T := by unfold pg_rs; rw [pg_f6_cong h]
    rw [e]
    exact ih _
theorem pg_sm_cong {f f' : Nat → Int32} (h : ∀ k, k < 6 → f k = f' k) : ∀ (l : List pg_Cl) (a : Int32), pg_sm f l a = pg_sm f' l a := by
  intro l
  induction l with
  | nil => intro a; rfl
  | cons c l ih =>
    intro a
    cases c with
    | inl n => exact ih a
    | inr c =>
      obtain ⟨n, st⟩ := c
      show pg_sm f l (if pg_ri f st 0 &&& 1 = 0 then a else a + n) = pg_sm f' l (if pg_ri f' st 0 &&& 1 = 0 then a else a + n)
      rw [pg_ri_cong h]
      exact ih _
/-- steps stand in a parish's rows -/
def pc_T (b : Nat) (m : Nat → Nat → Int32) (k : Nat) (l : List pg_St) : Prop := ∀ j (h : j < l.length), m (b + 3) (k + j) = nI (l[j]).1 ∧ m (b + 4) (k + j) = nI (l[j]).2.1 ∧ m (b + 5) (k + j) = nI (l[j]).2.2
theorem pc_hold {w : xw_M} {n b e : Nat} {a1 : Int32} (he : e ≤ 100) : ∀ (l : List pg_St) (k : Nat) (T : Int32) (m : Nat), k + l.length = e → l.length < m → pc_T b w.1 k l → xw_it (fun z => fX2_holdsFrom_b6 n b a1 (nI e) 66 6 z.1 z.2 w) m (T, nI k) = some (pg_ri (w.1 66) l T) := by
  intro l
  induction l with
  | nil =>
    intro k T m hk hm hT
    obtain ⟨m', rfl⟩ : ∃ m', m = m' + 1 := ⟨m - 1, by omega⟩
    refine pu_it1 _ ?_
    show fX2_holdsFrom_b6 n b a1 (nI e) 66 6 T (nI k) w = _
    unfold fX2_holdsFrom_b6
    have hk0 : k + 0 = e := hk
    rw [if_pos (nI_le (show e ≤ k by omega) (by omega))]
    rfl
  | cons s l ih =>
    intro k T m hk hm hT
    have hk' : k + (l.length + 1) = e := hk
    have hm' : l.length + 1 < m := hm
    obtain ⟨m', rfl⟩ : ∃ m', m = m' + 1 := ⟨m - 1, by omega⟩
    obtain ⟨t1, t2, t3⟩ := hT 0 (by show 0 < l.length + 1; omega)
    have step : fX2_holdsFrom_b6 n b a1 (nI e) 66 6 T (nI k) w = some (.inl (pg_rs (w.1 66) s T, nI (k + 1))) := by
      unfold fX2_holdsFrom_b6
      rw [if_neg (nI_ge (show k < e by omega) (by omega)), pu_at w (show k < 100 by omega) (by decide), pu_at w (show k < 100 by omega) (by decide), pu_at w (show k < 100 by omega) (by decide), show w.1 (b + 3) k = nI s.1 from t1, show w.1 (b + 4) k = nI s.2.1 from t2, show w.1 (b + 5) k = nI s.2.2 from t3]
      simp only [pu_lt, pu_bp, pc_at6, pg_passes]
      unfold fX2_holdsFrom_131 fX2_holdsFrom_134 pg_rs
      simp only [pu_lt, nI_1]
      by_cases h6 : nI s.1 = 6
      · rw [if_pos h6, if_pos h6]
      · rw [if_neg h6, if_neg h6]
        by_cases h7 : nI s.1 = 7
        · rw [if_pos h7, if_pos h7]
        · rw [if_neg h7, if_neg h7]
          by_cases h8 : nI s.1 = 8
          · rw [if_pos h8, if_pos h8]
          · rw [if_neg h8, if_neg h8]
            rcases pg_pb01 (pg_f6 (w.1 66) (nI s.1)) (nI s.2.1) (nI s.2.2) with q | q
            · rw [q, if_pos rfl]
            · rw [q, if_neg (by decide)]
    rw [pu_it0 (fun z => fX2_holdsFrom_b6 n b a1 (nI e) 66 6 z.1 z.2 w) (a := (T, nI k)) step]
    refine ih (k + 1) _ m' (by omega) (by omega) (fun j hj => ?_)
    have := hT (j + 1) (by show j + 1 < l.length + 1; omega)
    rw [show k + 1 + j = k + (j + 1) by omega]
    exact this
theorem pc_holds {w : xw_M} {n b k : Nat} {l : List pg_St} (hn : 2000 ≤ n) (he : k + l.length ≤ 100) (hT : pc_T b w.1 k l) : fX2_holdsFrom n b (nI k) (nI (k + l.length)) 66 6 w = some (if pg_ri (w.1 66) l 0 &&& 1 = 0 then 0 else 1) := by
  unfold fX2_holdsFrom fX2_holdsFrom_6
  rw [pc_hold he l k 0 n rfl (by omega) hT, pu_bp]
  show fX2_holdsFrom_140 _ _ _ _ _ _ _ _ = _
  unfold fX2_holdsFrom_140
  by_cases h : pg_ri (w.1 66) l 0 &&& 1 = 0
  · rw [if_pos h, if_pos h]
  · rw [if_neg h, if_neg h]
def pg_nS : List pg_Cl → Nat
  | [] => 0
  | .inl _ :: l => pg_nS l
  | .inr (_, st) :: l => st.length + pg_nS l
theorem pc_sum {w : xw_M} {n b E : Nat} (hn : 2000 ≤ n) (hE : E ≤ 10) (hb : w.1 b 1 = nI E) : ∀ (cl : List pg_Cl) (c k : Nat) (a : Int32) (m : Nat), c + pg_nE cl = E → k + pg_nS cl ≤ 100 → pg_nE cl < m → rC (w.1 (b + 1)) (w.1 (b + 2)) (w.1 (b + 3)) (w.1 (b + 4)) (w.1 (b + 5)) cl c k → xw_it (fun z => fX2_sumOf_b19 n b 66 6 z.1 z.2.1 z.2.2 w) m (a, nI k, nI c) = some (pg_sm (w.1 66) cl a) := by
  intro cl
  induction cl with
  | nil =>
    intro c k a m hc hk hm hr
    obtain ⟨m', rfl⟩ : ∃ m', m = m' + 1 := ⟨m - 1, by omega⟩
    have hc0 : c + 0 = E := hc
    refine pu_it1 _ ?_
    show fX2_sumOf_b19 n b 66 6 a (nI k) (nI c) w = _
    unfold fX2_sumOf_b19
    rw [hb, if_pos (nI_le (show E ≤ c by omega) (by omega))]
    rfl
  | cons x cl ih =>
    intro c k a m hc hk hm hr
    cases x with
    | inl v => exact ih c k a m hc hk hm hr
    | inr x =>
      obtain ⟨v, st⟩ := x
      obtain ⟨r1, r2, r3, r4⟩ := hr
      have hc' : c + (pg_nE cl + 1) = E := hc
      have hk' : k + (st.length + pg_nS cl) ≤ 100 := hk
      have hm' : pg_nE cl + 1 < m := hm
      obtain ⟨m', rfl⟩ : ∃ m', m = m' + 1 := ⟨m - 1, by omega⟩
      have step : fX2_sumOf_b19 n b 66 6 a (nI k) (nI c) w = some (.inl ((if pg_ri (w.1 66) st 0 &&& 1 = 0 then a else a + v), nI (k + st.length), nI (c + 1))) := by
        unfold fX2_sumOf_b19
        rw [hb, if_neg (nI_ge (show c < E by omega) (by omega)), pu_at w (show c < 10 by omega) (by decide), pu_bp, r2, pc_holds hn (by omega) (fun j hj => r3 j hj), pu_bp, pu_at w (show c < 10 by omega) (by decide), pu_bp, r1]
        unfold fX2_sumOf_62
        simp only [pu_lt, nI_1]
        by_cases h : pg_ri (w.1 66) st 0 &&& 1 = 0
        · rw [if_pos h, if_pos rfl, if_pos h]
        · rw [if_neg h, if_neg (by decide), if_neg h]
      rw [pu_it0 (fun z => fX2_sumOf_b19 n b 66 6 z.1 z.2.1 z.2.2 w) (a := (a, nI k, nI c)) step]
      exact ih (c + 1) (k + st.length) _ m' (by omega) (by omega) (by omega) r4
def pc_ok (cl : List pg_Cl) : Prop := pg_nE cl ≤ 10 ∧ pg_nS cl ≤ 100
theorem pc_sumOf {w : xw_M} {n b : Nat} {cl : List pg_Cl} (hn : 2000 ≤ n) (ho : pc_ok cl) (hA : rA w.1 b cl) : fX2_sumOf n b 66 6 w = some (pg_sm (w.1 66) cl 20 - nI (pg_fall cl 2) * w.1 66 4) := by
  obtain ⟨a0, a1, a2⟩ := hA
  have h1 := ho.1
  unfold fX2_sumOf fX2_sumOf_19
  rw [show (4 : Int32) = nI 4 from rfl, pu_at w (show 4 < 6 by decide) (by decide), pu_bp, pu_lt, a0]
  have := pc_sum hn ho.1 a1 cl 0 0 ((20 : Int32) - nI (pg_fall cl 2) * w.1 66 4) n (by omega) (by have := ho.2; omega) (by omega) a2
  rw [show (0 : Int32) = nI 0 from rfl, this, pu_bp]
  show some _ = some _
  rw [Int32.sub_eq_add_neg, pg_sm_add, ← Int32.sub_eq_add_neg]
theorem pg_nE_app : ∀ (a b : List pg_Cl), pg_nE (a ++ b) = pg_nE a + pg_nE b := by
  intro a
  induction a with
  | nil => intro b; exact (Nat.zero_add _).symm
  | cons c a ih =>
    intro b
    cases c with
    | inl n => exact ih b
    | inr c => show pg_nE (a ++ b) + 1 = pg_nE a + 1 + pg_nE b; rw [ih]; omega
theorem pg_nS_app : ∀ (a b : List pg_Cl), pg_nS (a ++ b) = pg_nS a + pg_nS b := by
  intro a
  induction a with
  | nil => intro b; exact (Nat.zero_add _).symm
  | cons c a ih =>
    intro b
    cases c with
    | inl n => exact ih b
    | inr c => obtain ⟨v, st⟩ := c; show st.length + pg_nS (a ++ b) = st.length + pg_nS a + pg_nS b; rw [ih]; omega
theorem pg_clause_n (t : pg_T) {p : Nat} (hp : p ≤ t.2) : pg_nE (pg_clause t p).2.2.toList ≤ 1 ∧ pg_nS (pg_clause t p).2.2.toList + p ≤ (pg_clause t p).2.1 := by
  have hle := pg_wd_le t (pg_lead t p) true p (pg_lead_ne t p) hp
  rw [show pg_wd t true (pg_lead t p) p = pg_word t (pg_lead t p) p from if_pos rfl] at hle
  have no := pg_num_ok t hle.2
  have n1 := no.1
  have h0 := hle.1
  have le := (pg_clause_le t hp).1
  have none_ok : ∀ q, p ≤ q → pg_nE ((none : Option pg_Cl).toList) ≤ 1 ∧ pg_nS ((none : Option pg_Cl).toList) + p ≤ q := fun q hq => ⟨Nat.zero_le _, by show 0 + p ≤ q; omega⟩
  show pg_nE ((if _ then if _ then if _ then _ else if _ then _ else _ else _ else _ : pg_C).2.2.toList) ≤ 1 ∧ pg_nS ((if _ then if _ then if _ then _ else if _ then _ else _ else _ else _ : pg_C).2.2.toList) + p ≤ (if _ then if _ then if _ then _ else if _ then _ else _ else _ else _ : pg_C).2.1
  by_cases h1 : (pg_word t (pg_lead t p) p).1 = true
  · rw [if_pos h1]
    by_cases h2 : (pg_num t (pg_word t (pg_lead t p) p).2).1 = true
    · rw [if_pos h2]
      by_cases h3 : pg_c t p = 121
      · rw [if_pos h3]
        exact none_ok _ (Nat.le_trans h0 n1)
      · rw [if_neg h3]
        by_cases h4 : pg_c t (pg_num t (pg_word t (pg_lead t p) p).2).2.1 = 32
        · rw [if_pos h4]
          have l := pg_cl h4 (by decide)
          have o := pg_any_ok (pg_part_ok t 4) _ l
          refine ⟨Nat.le_refl 1, ?_⟩
          have o2 := o.2.2
          have o3 : p ≤ (pg_num t (pg_word t (pg_lead t p) p).2).2.1 := Nat.le_trans h0 n1
          show (pg_any t (pg_part t 4) ((pg_num t (pg_word t (pg_lead t p) p).2).2.1 + 1)).2.2.length + 0 + p ≤ (pg_any t (pg_part t 4) ((pg_num t (pg_word t (pg_lead t p) p).2).2.1 + 1)).2.1
          exact Nat.le_trans (Nat.add_le_add_left (Nat.le_trans o3 (Nat.le_succ _)) _) o2
        · rw [if_neg h4]
          exact none_ok _ (Nat.le_trans h0 n1)
    · rw [if_neg h2]
      exact none_ok _ (Nat.le_trans h0 n1)
  · rw [if_neg h1]
    exact none_ok _ h0
theorem pg_re_n (t : pg_T) : ∀ e (r : Bool × Nat), r.2 ≤ t.2 → pg_nE (pg_re t e r).2.2 ≤ e ∧ pg_nS (pg_re t e r).2.2 + r.2 ≤ (pg_re t e r).2.1 ∧ (pg_re t e r).2.1 ≤ t.2 := by
  intro e
  induction e with
  | zero =>
    intro r hr
    have : pg_re t 0 r = (r.1, r.2, []) := if_neg (fun z => absurd rfl z.2.1)
    rw [this]
    exact ⟨Nat.le_refl _, by show 0 + r.2 ≤ r.2; omega, hr⟩
  | succ e ih =>
    intro r hr
    by_cases h : r.1 = true ∧ e + 1 ≠ 0 ∧ pg_c t r.2 = 59
    · have er : pg_re t (e + 1) r = pg_cls t (e + 1) (r.2 + 1) := if_pos h
      have l := pg_cl h.2.2 (by decide)
      have c := pg_clause_n t l
      have c1 := c.1
      have c2 := c.2
      have cle := pg_clause_le t l
      obtain ⟨i1, i2, i3⟩ := ih ((pg_clause t (r.2 + 1)).1, (pg_clause t (r.2 + 1)).2.1) cle.2
      rw [er, pg_cls_un]
      have i2' : pg_nS (pg_re t e ((pg_clause t (r.2 + 1)).1, (pg_clause t (r.2 + 1)).2.1)).2.2 + (pg_clause t (r.2 + 1)).2.1 ≤ (pg_re t e ((pg_clause t (r.2 + 1)).1, (pg_clause t (r.2 + 1)).2.1)).2.1 := i2
      refine ⟨?_, ?_, i3⟩
      · show pg_nE (_ ++ _) ≤ e + 1
        rw [pg_nE_app]
        exact Nat.le_trans (Nat.add_le_add c1 i1) (by omega)
      · show pg_nS (_ ++ _) + r.2 ≤ _
        rw [pg_nS_app]
        refine Nat.le_trans ?_ i2'
        have c3 : pg_nS (pg_clause t (r.2 + 1)).2.2.toList + r.2 ≤ (pg_clause t (r.2 + 1)).2.1 := Nat.le_trans (Nat.le_succ _) c2
        rw [Nat.add_comm (pg_nS _) (pg_nS _), Nat.add_assoc]
        exact Nat.add_le_add_left c3 _
    · have er : pg_re t (e + 1) r = (r.1, r.2, []) := if_neg h
      rw [er]
      exact ⟨Nat.zero_le _, by show 0 + r.2 ≤ r.2; omega, hr⟩
theorem pg_all_ok {t : pg_T} (ht : t.2 ≤ 100) : pc_ok (pg_all t).2.2 := by
  show pc_ok (pg_cls t (9 + 1) 0).2.2
  rw [pg_cls_un]
  have c := pg_clause_n t (Nat.zero_le t.2)
  have c1 := c.1
  have c2 := c.2
  have cle := pg_clause_le t (Nat.zero_le t.2)
  obtain ⟨i1, i2, i3⟩ := pg_re_n t 9 ((pg_clause t 0).1, (pg_clause t 0).2.1) cle.2
  have i2' : pg_nS (pg_re t 9 ((pg_clause t 0).1, (pg_clause t 0).2.1)).2.2 + (pg_clause t 0).2.1 ≤ (pg_re t 9 ((pg_clause t 0).1, (pg_clause t 0).2.1)).2.1 := i2
  refine ⟨?_, ?_⟩
  · show pg_nE (_ ++ _) ≤ 10
    rw [pg_nE_app]; omega
  · show pg_nS (_ ++ _) ≤ 100
    rw [pg_nS_app]; omega
/-- a Scene at b, as far as one reckons with it, and a row of the reference's -/
def rK (m : Nat → Nat → Int32) (b : Nat) (g : Nat → Int32) (N M : Nat) : Prop := N ≤ 6 ∧ M < 2 ^ N ∧ m b 0 = nI N ∧ g 60 = nI N ∧ m b 7 = nI M ∧ rM (m (b + 1)) (m (b + 2)) (m (b + 3)) (m (b + 4)) (m (b + 5)) (m (b + 6)) g N M ∧ m b 8 = g 61 ∧ m b 9 = g 62
theorem rK_cong {m m' : Nat → Nat → Int32} {b : Nat} {g : Nat → Int32} {N M : Nat} (h : ∀ k, b ≤ k → k < b + 7 → m' k = m k) (hr : rK m b g N M) : rK m' b g N M := by
  unfold rK
  rw [h b (by omega) (by omega), h (b + 1) (by omega) (by omega), h (b + 2) (by omega) (by omega), h (b + 3) (by omega) (by omega), h (b + 4) (by omega) (by omega), h (b + 5) (by omega) (by omega), h (b + 6) (by omega) (by omega)]
  exact hr
theorem pc_rate {w : xw_M} {b N M i y : Nat} {g : Nat → Int32} {cl : List pg_Cl} (K : rK w.1 b g N M) (hi : i < N) (hy : y < 10) : fX4_rateBySum b (nI i) (nI y) (pg_sm (pg_fa g i y) cl 20 - nI (pg_fall cl 2) * nI y) w = some (pg_rt cl g i y) := by
  obtain ⟨k1, k2, k3, k4, k5, k6, k7, k8⟩ := K
  obtain ⟨c1, c2, c3, c4, c5, c6, c7, -, -⟩ := k6.1 i hi
  have e6 : fX7_at (b + 6) 24 ((nI i * (4 : Int32)) + (nI y - nI y / (4 : Int32) * (4 : Int32))) w = some (g (10 * i + (6 + y % 4))) := by
    have hlt : y % 4 < 4 := Nat.mod_lt _ (by decide)
    rw [show (4 : Int32) = nI 4 from rfl, pk_rem (by omega) (by decide) (by decide), pk_mul, nI_add, pu_at w (by omega) (by decide), show i * 4 + y % 4 = 4 * i + y % 4 by omega, c7 _ hlt]
  have ev : ∀ v : Int32, fX4_rateBySum_20 b (nI i) (nI y) (pg_sm (pg_fa g i y) cl 20 - nI (pg_fall cl 2) * nI y) (g (10 * i + 1)) v w = some ((if g (10 * i) = 1 then (pg_sm (pg_fa g i y) cl 20 - nI (pg_fall cl 2) * nI y) + g (10 * i + 1) else if g (10 * i) = 2 then (pg_sm (pg_fa g i y) cl 20 - nI (pg_fall cl 2) * nI y) / 2 else if g (10 * i) = 3 then v else if g (10 * i) = 4 then (if g 62 - g 62 / 7 * 7 = 0 then 0 else (pg_sm (pg_fa g i y) cl 20 - nI (pg_fall cl 2) * nI y) + g (10 * i + 1)) else if g (10 * i) = 5 then (pg_sm (pg_fa g i y) cl 20 - nI (pg_fall cl 2) * nI y) / 2 + 5 else if g (10 * i) = 6 then v + g (10 * i + (6 + y % 4)) else (pg_sm (pg_fa g i y) cl 20 - nI (pg_fall cl 2) * nI y))) := by
    intro v
    unfold fX4_rateBySum_20
    simp only [pu_at w (show i < 6 by omega) (show 6 < 2 ^ 31 by decide), pu_bp, e6, k8, c1]
    generalize pg_sm (pg_fa g i y) cl 20 - nI (pg_fall cl 2) * nI y = s
    rw [pu_ccT (by decide), pu_ccT (by decide), pu_ccT (by decide), pu_ccT (by decide)]
    by_cases h1 : g (10 * i) = 1
    · rw [if_pos h1, if_pos h1]
    rw [if_neg h1, if_neg h1]
    by_cases h2 : g (10 * i) = 2
    · rw [if_pos h2, if_pos h2]
    rw [if_neg h2, if_neg h2]
    by_cases h3 : g (10 * i) = 3
    · rw [if_pos h3, if_pos h3]
    rw [if_neg h3, if_neg h3]
    by_cases h4 : g (10 * i) = 4
    · rw [if_pos h4, if_pos h4]
      by_cases h7 : g 62 - g 62 / 7 * 7 = 0
      · rw [if_pos h7, if_pos h7]
      · rw [if_neg h7, if_neg h7]
    rw [if_neg h4, if_neg h4]
    by_cases h5 : g (10 * i) = 5
    · rw [if_pos h5, if_pos h5]
    rw [if_neg h5, if_neg h5]
    by_cases h6 : g (10 * i) = 6
    · rw [if_pos h6, if_pos h6]
    rw [if_neg h6, if_neg h6]
  unfold fX4_rateBySum pg_rt
  rw [pu_at w (show i < 6 by omega) (by decide), pu_bp, c2]
  by_cases h : y < 5
  · rw [if_pos (show nI y < (5 : Int32) from nI_lt (b := 5) h (by decide)), ev]; simp only [if_pos h]
  · rw [if_neg (show ¬ nI y < (5 : Int32) from nI_nlt (b := 5) (by omega) (by omega)), ev]; simp only [if_neg h]
/-- all rates stand in the row -/
def pc_R (cl : List pg_Cl) (g : Nat → Int32) (N : Nat) (m : Nat → Nat → Int32) : Prop := ∀ i y, i < N → y < 10 → m 65 (10 * i + y) = pg_rt cl g i y
theorem pc_row {n b p N M i : Nat} {g : Nat → Int32} {cl : List pg_Cl} {w0 : xw_M} (hn : 2000 ≤ n) (hb : b + 7 ≤ 58) (hp : p = 58 ∨ 71 ≤ p) (ho : pc_ok cl) (hA : rA w0.1 p cl) (K : rK w0.1 b g N M) (hi : i < N) (w : xw_M) (h1 : ∀ k, k ≠ 65 → k ≠ 66 → w.1 k = w0.1 k) (h2 : w.2 = w0.2) (h3 : ∀ k, k < 6 → k ≠ 4 → w.1 66 k = pg_fa g i 0 k) (h4 : ∀ i' y, i' < i → y < 10 → w.1 65 (10 * i' + y) = pg_rt cl g i' y) : ∃ w', xw_it (fun z => fX4_look_b85 n b p (nI i) z.1 z.2) n ((0 : Int32), w) = some w' ∧ (∀ k, k ≠ 65 → k ≠ 66 → w'.1 k = w0.1 k) ∧ w'.2 = w0.2 ∧ w'.1 66 5 = w.1 66 5 ∧ ∀ i' y, i' < i + 1 → y < 10 → w'.1 65 (10 * i' + y) = pg_rt cl g i' y := by
  have hN := K.1
  refine pu_inv (fun z => fX4_look_b85 n b p (nI i) z.1 z.2) (fun k z => k ≤ 10 ∧ z.1 = nI k ∧ (∀ q, q ≠ 65 → q ≠ 66 → z.2.1 q = w0.1 q) ∧ z.2.2 = w0.2 ∧ z.2.1 66 5 = w.1 66 5 ∧ (∀ q, q < 6 → q ≠ 4 → z.2.1 66 q = pg_fa g i 0 q) ∧ ∀ i' y, (i' < i ∨ i' = i ∧ y < k) → y < 10 → z.2.1 65 (10 * i' + y) = pg_rt cl g i' y) 10 _ ?_ ?_ n 0 ((0 : Int32), w) (by omega) (by omega) ⟨by omega, rfl, h1, h2, rfl, h3, fun i' y h hy => h4 i' y (by omega) hy⟩
  · rintro k ⟨x, u⟩ hk ⟨-, rfl, a1, a2, a5, a3, a4⟩
    obtain ⟨v, hv⟩ : ∃ v, v = xw_si u 66 4 (nI k) := ⟨_, rfl⟩
    have v1 : ∀ q, q ≠ 65 → q ≠ 66 → v.1 q = w0.1 q := fun q q1 q2 => by rw [hv, pu_si0 _ _ _ q2]; exact a1 q q1 q2
    have v2 : ∀ q, q < 6 → v.1 66 q = pg_fa g i k q := by
      intro q hq
      rw [hv, pu_si1]
      by_cases e : q = 4
      · subst e; rw [pk_us]; rfl
      · rw [pk_un e, a3 q hq e]
        unfold pg_fa
        rw [if_neg e, if_neg e]
    refine Or.inl ⟨(nI (k + 1), xw_si v 65 (10 * i + k) (pg_rt cl g i k)), ?_, by omega, rfl, fun q q1 q2 => ?_, ?_, ?_, fun q hq q4 => ?_, fun i' y h hy => ?_⟩
    · show fX4_look_b85 n b p (nI i) (nI k) u = _
      unfold fX4_look_b85
      have Av : rA v.1 p cl := rA_cong (fun q q1 q2 => v1 q (by omega) (by omega)) hA
      have Kv : rK v.1 b g N M := rK_cong (fun q q1 q2 => v1 q (by omega) (by omega)) K
      rw [show (10 : Int32) = nI 10 from rfl, if_neg (nI_ge hk (by decide)), show (4 : Int32) = nI 4 from rfl, pu_put _ _ (show 4 < 6 by decide) (by decide), pu_b, ← hv, pc_sumOf hn ho Av, pu_bp, pg_sm_cong v2, v2 4 (by decide), show pg_fa g i k 4 = nI k from rfl, pc_rate Kv hi hk, pu_bp, pk_mul, nI_add, show i * 10 + k = 10 * i + k by omega, pu_put _ _ (show 10 * i + k < 60 by omega) (by decide), pu_b, pu_lt, nI_1]
    · show (xw_si v 65 _ _).1 q = _
      rw [pu_si0 _ _ _ q1]; exact v1 q q1 q2
    · show v.2 = _
      rw [hv]; exact a2
    · show (xw_si v 65 _ _).1 66 5 = _
      rw [pu_si0 _ _ _ (by decide), hv, pu_si1, pk_un (by decide)]; exact a5
    · show (xw_si v 65 _ _).1 66 q = _
      rw [pu_si0 _ _ _ (by decide), hv, pu_si1, pk_un q4]; exact a3 q hq q4
    · show (xw_si v 65 _ _).1 65 _ = _
      rw [pu_si1]
      by_cases e : 10 * i' + y = 10 * i + k
      · have e1 : i' = i := by omega
        have e2 : y = k := by omega
        rw [e1, e2, pk_us]
      · rw [pk_un e, hv, pu_si0 _ _ _ (by decide)]
        exact a4 i' y (by omega) hy
  · rintro ⟨x, u⟩ ⟨-, rfl, a1, a2, a5, a3, a4⟩
    refine ⟨u, ?_, a1, a2, a5, fun i' y h hy => a4 i' y (by omega) hy⟩
    show fX4_look_b85 n b p (nI i) (nI 10) u = _
    unfold fX4_look_b85
    rw [if_pos (show (10 : Int32) ≤ nI 10 by decide)]
theorem pc_look {n b p N M : Nat} {g : Nat → Int32} {cl : List pg_Cl} {w : xw_M} (hn : 2000 ≤ n) (hb : b + 7 ≤ 58) (hp : p = 58 ∨ 71 ≤ p) (ho : pc_ok cl) (hA : rA w.1 p cl) (K : rK w.1 b g N M) : ∃ w', fX4_look n b p w = some ((), w') ∧ (∀ k, k ≠ 65 → k ≠ 66 → w'.1 k = w.1 k) ∧ w'.2 = w.2 ∧ pc_R cl g N w'.1 := by
  have hN := K.1
  have k3 := K.2.2.1
  have k8 := K.2.2.2.2.2.2.2
  unfold fX4_look fX4_look_17
  rw [pu_ccT (by decide), k8, show (5 : Int32) = nI 5 from rfl, pu_put _ _ (show 5 < 6 by decide) (by decide), pu_b]
  obtain ⟨w', e, r⟩ : ∃ w', xw_it (fun z => fX4_look_b17 n b p z.1 z.2) n ((0 : Int32), xw_si w 66 5 (g 62 - g 62 / 10 * 10)) = some w' ∧ (∀ k, k ≠ 65 → k ≠ 66 → w'.1 k = w.1 k) ∧ w'.2 = w.2 ∧ pc_R cl g N w'.1 := by
    refine pu_inv (fun z => fX4_look_b17 n b p z.1 z.2) (fun k z => k ≤ N ∧ z.1 = nI k ∧ (∀ q, q ≠ 65 → q ≠ 66 → z.2.1 q = w.1 q) ∧ z.2.2 = w.2 ∧ z.2.1 66 5 = g 62 - g 62 / 10 * 10 ∧ ∀ i' y, i' < k → y < 10 → z.2.1 65 (10 * i' + y) = pg_rt cl g i' y) N _ ?_ ?_ n 0 _ (by omega) (by omega) ⟨by omega, rfl, fun q q1 q2 => pu_si0 _ _ _ q2, rfl, by show (xw_si w 66 5 _).1 66 5 = _; rw [pu_si1, pk_us], fun i' y h hy => absurd h (by omega)⟩
    · rintro i ⟨x, u⟩ hi ⟨-, rfl, a1, a2, a3, a4⟩
      obtain ⟨c1, c2, c3, -⟩ := K.2.2.2.2.2.1.1 i hi
      obtain ⟨v, hv⟩ : ∃ v, v = xw_si (xw_si (xw_si (xw_si u 66 0 (nI i)) 66 1 (g (10 * i))) 66 2 (g (10 * i + 1))) 66 3 (g (10 * i + 2)) := ⟨_, rfl⟩
      have v1 : ∀ q, q ≠ 65 → q ≠ 66 → v.1 q = w.1 q := fun q q1 q2 => by rw [hv, pu_si0 _ _ _ q2, pu_si0 _ _ _ q2, pu_si0 _ _ _ q2, pu_si0 _ _ _ q2]; exact a1 q q1 q2
      have v5 : v.1 66 5 = g 62 - g 62 / 10 * 10 := by
        rw [hv]
        simp only [pu_si1]
        rw [pk_un (by decide), pk_un (by decide), pk_un (by decide), pk_un (by decide)]
        exact a3
      have v3 : ∀ k, k < 6 → k ≠ 4 → v.1 66 k = pg_fa g i 0 k := by
        intro k hk h4
        rcases (show k = 0 ∨ k = 1 ∨ k = 2 ∨ k = 3 ∨ k = 5 by omega) with rfl | rfl | rfl | rfl | rfl
        · rw [hv]; simp [pu_si1, upd, pg_fa]
        · rw [hv]; simp [pu_si1, upd, pg_fa]
        · rw [hv]; simp [pu_si1, upd, pg_fa]
        · rw [hv]; simp [pu_si1, upd, pg_fa]
        · rw [v5]; rfl
      obtain ⟨w', e, f1, f2, f3, f4⟩ := pc_row hn hb hp ho hA K hi v v1 (by rw [hv]; exact a2) v3 (fun i' y h hy => by rw [hv, pu_si0 _ _ _ (by decide), pu_si0 _ _ _ (by decide), pu_si0 _ _ _ (by decide), pu_si0 _ _ _ (by decide)]; exact a4 i' y h hy)
      refine Or.inl ⟨(nI (i + 1), w'), ?_, by omega, rfl, f1, f2, by rw [f3]; exact v5, f4⟩
      show fX4_look_b17 n b p (nI i) u = _
      unfold fX4_look_b17
      have t0 : u.1 b = w.1 b := a1 b (by omega) (by omega)
      have t1 : u.1 (b + 1) = w.1 (b + 1) := a1 _ (by omega) (by omega)
      have t2 : u.1 (b + 2) = w.1 (b + 2) := a1 _ (by omega) (by omega)
      have t3 : u.1 (b + 3) = w.1 (b + 3) := a1 _ (by omega) (by omega)
      rw [t0, k3, if_neg (nI_ge hi (by omega)), show (0 : Int32) = nI 0 from rfl, pu_put _ _ (show 0 < 6 by decide) (by decide), pu_b, pu_at _ (show i < 6 by omega) (by decide), pu_bp, pu_si0 _ _ _ (show b + 1 ≠ 66 by omega), t1, c1, show (1 : Int32) = nI 1 from rfl, pu_put _ _ (show 1 < 6 by decide) (by decide), pu_b, pu_at _ (show i < 6 by omega) (by decide), pu_bp, pu_si0 _ _ _ (show b + 2 ≠ 66 by omega), pu_si0 _ _ _ (show b + 2 ≠ 66 by omega), t2, c2, show (2 : Int32) = nI 2 from rfl, pu_put _ _ (show 2 < 6 by decide) (by decide), pu_b, pu_at _ (show i < 6 by omega) (by decide), pu_bp, pu_si0 _ _ _ (show b + 3 ≠ 66 by omega), pu_si0 _ _ _ (show b + 3 ≠ 66 by omega), pu_si0 _ _ _ (show b + 3 ≠ 66 by omega), t3, c3, show (3 : Int32) = nI 3 from rfl, pu_put _ _ (show 3 < 6 by decide) (by decide), pu_b, ← hv]
      unfold fX4_look_85
      rw [show (nI 0 : Int32) = 0 from rfl, e, pu_bp]
      show fX4_look_141 n b p (nI i) w' = _
      unfold fX4_look_141
      rw [pu_lt, nI_1]
    · rintro ⟨x, u⟩ ⟨-, rfl, a1, a2, a3, a4⟩
      refine ⟨u, ?_, a1, a2, a4⟩
      show fX4_look_b17 n b p (nI N) u = _
      unfold fX4_look_b17
      rw [a1 b (by omega) (by omega), k3, if_pos (nI_le (Nat.le_refl _) (by omega))]
  exact ⟨w', by rw [e, pu_bp]; rfl, r⟩
