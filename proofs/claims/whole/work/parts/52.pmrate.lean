/-! ===== the reference's rates ===== -/
theorem pu_k0 {β : Type} (k : Option β) : xw_ck (0 : Int32) 6 k = k := pu_ck (j := 0) (by decide) (by decide) k
theorem pu_k1 {β : Type} (k : Option β) : xw_ck (1 : Int32) 6 k = k := pu_ck (j := 1) (by decide) (by decide) k
theorem pu_k2 {β : Type} (k : Option β) : xw_ck (2 : Int32) 6 k = k := pu_ck (j := 2) (by decide) (by decide) k
theorem pu_k3 {β : Type} (k : Option β) : xw_ck (3 : Int32) 6 k = k := pu_ck (j := 3) (by decide) (by decide) k
theorem pu_k4 {β : Type} (k : Option β) : xw_ck (4 : Int32) 6 k = k := pu_ck (j := 4) (by decide) (by decide) k
theorem pu_k5 {β : Type} (k : Option β) : xw_ck (5 : Int32) 6 k = k := pu_ck (j := 5) (by decide) (by decide) k
theorem pu_n60 {β : Type} (k : Option β) : xw_ck (60 : Int32) 109 k = k := pu_now 60 (by decide) k
theorem pu_n61 {β : Type} (k : Option β) : xw_ck (61 : Int32) 109 k = k := pu_now 61 (by decide) k
theorem pu_n62 {β : Type} (k : Option β) : xw_ck (62 : Int32) 109 k = k := pu_now 62 (by decide) k
theorem pu_n63 {β : Type} (k : Option β) : xw_ck (63 : Int32) 109 k = k := pu_now 63 (by decide) k
theorem pu_n64 {β : Type} (k : Option β) : xw_ck (64 : Int32) 109 k = k := pu_now 64 (by decide) k
theorem pu_c0 : (0 : Int32).toNatClampNeg = 0 := by decide
theorem pu_c1 : (1 : Int32).toNatClampNeg = 1 := by decide
theorem pu_c2 : (2 : Int32).toNatClampNeg = 2 := by decide
theorem pu_c3 : (3 : Int32).toNatClampNeg = 3 := by decide
theorem pu_c4 : (4 : Int32).toNatClampNeg = 4 := by decide
theorem pu_c5 : (5 : Int32).toNatClampNeg = 5 := by decide
theorem pu_c60 : (60 : Int32).toNatClampNeg = 60 := by decide
theorem pu_c61 : (61 : Int32).toNatClampNeg = 61 := by decide
theorem pu_c62 : (62 : Int32).toNatClampNeg = 62 := by decide
theorem pu_c63 : (63 : Int32).toNatClampNeg = 63 := by decide
theorem pu_c64 : (64 : Int32).toNatClampNeg = 64 := by decide
theorem pu_o0 {i : Nat} (hi : i < 6) (u : xw_M) : fX8_one (nI i) (0 : Int32) u = some (u.1 120 (10 * i)) := pu_one (j := 0) u (by omega)
theorem pu_o1 {i : Nat} (hi : i < 6) (u : xw_M) : fX8_one (nI i) (1 : Int32) u = some (u.1 120 (10 * i + 1)) := pu_one (j := 1) u (by omega)
theorem pu_o2 {i : Nat} (hi : i < 6) (u : xw_M) : fX8_one (nI i) (2 : Int32) u = some (u.1 120 (10 * i + 2)) := pu_one (j := 2) u (by omega)
theorem pu_o3 {i : Nat} (hi : i < 6) (u : xw_M) : fX8_one (nI i) (3 : Int32) u = some (u.1 120 (10 * i + 3)) := pu_one (j := 3) u (by omega)
theorem pu_o4 {i : Nat} (hi : i < 6) (u : xw_M) : fX8_one (nI i) (4 : Int32) u = some (u.1 120 (10 * i + 4)) := pu_one (j := 4) u (by omega)
theorem pu_o5 {i : Nat} (hi : i < 6) (u : xw_M) : fX8_one (nI i) (5 : Int32) u = some (u.1 120 (10 * i + 5)) := pu_one (j := 5) u (by omega)
/-- what a clause may look at -/
def pg_fa (g : Nat → Int32) (i y : Nat) : Nat → Int32 := fun k => if k = 0 then nI i else if k = 1 then g (10 * i) else if k = 2 then g (10 * i + 1) else if k = 3 then g (10 * i + 2) else if k = 4 then nI y else if k = 5 then g 62 - g 62 / 10 * 10 else 0
/-- the rule that holds says these clauses -/
def rH (m : Nat → Nat → Int32) (g : Nat → Int32) (cl : List pg_Cl) : Prop := (g 63 = 0 ∧ cl = []) ∨ ∃ i, i < 6 ∧ g 63 = nI (i + 1) ∧ ∃ t : pg_T, t.2 ≤ 100 ∧ m 125 i = nI t.2 ∧ (∀ j, j < t.2 → t.1 j < 128 ∧ m 124 (100 * i + j) = nI (t.1 j)) ∧ (pg_all t).1 = true ∧ cl = (pg_all t).2.2
theorem rH_cong {m m' : Nat → Nat → Int32} {g g' : Nat → Int32} {cl : List pg_Cl} (h4 : m' 124 = m 124) (h5 : m' 125 = m 125) (hg : g' 63 = g 63) (h : rH m g cl) : rH m' g' cl := by
  unfold rH
  rw [h4, h5, hg]
  exact h
/-- what a rate leaves as it was -/
def pm_Fr (w w' : xw_M) : Prop := (∀ k, k ≠ 119 → k ≠ 126 → k ≠ 127 → w'.1 k = w.1 k) ∧ w'.2 = w.2 ∧ ∀ j, (j < 10 ∨ 15 < j) → w'.1 119 j = w.1 119 j
theorem pm_Fr_tr {a b c : xw_M} (h : pm_Fr a b) (g : pm_Fr b c) : pm_Fr a c := ⟨fun k h1 h2 h3 => (g.1 k h1 h2 h3).trans (h.1 k h1 h2 h3), g.2.1.trans h.2.1, fun j hj => (g.2.2 j hj).trans (h.2.2 j hj)⟩
theorem pm_Fr_rf (a : xw_M) : pm_Fr a a := ⟨fun _ _ _ _ => rfl, rfl, fun _ _ => rfl⟩
theorem pm_Fr_127 (w : xw_M) (j : Nat) (v : Int32) : pm_Fr w (xw_si w 127 j v) := ⟨fun k _ _ h => pu_si0 w j v h, rfl, fun i _ => by rw [pu_si0 w j v (by decide)]⟩
theorem pm_Fr_119 (w : xw_M) {j : Nat} (v : Int32) (hj : 10 ≤ j ∧ j ≤ 15) : pm_Fr w (xw_si w 119 j v) := ⟨fun k h _ _ => pu_si0 w j v h, rfl, fun i hi => by rw [pu_si1, pk_un (by omega)]⟩
theorem pm_Fr_w (w : xw_M) (p : Nat) (ok : Bool) (K : Int32) : pm_Fr w (pm_w w p ok K) := ⟨fun k h _ _ => pm_k w p ok K h, rfl, fun j hj => pm_o w p ok K (by omega) (by omega) (by omega)⟩
theorem pm_Fr_u (w : xw_M) (s : Int32) (fa : Nat) : pm_Fr w (pm_u w s fa) := ⟨fun k h _ _ => pm_u_k w s fa h, rfl, fun j hj => pm_u_o w s fa (by omega) (by omega)⟩
/-- the rule that is copied to be read -/
theorem pm_copy {n i : Nat} (hn : 2000 ≤ n) (hi : i < 6) {t : pg_T} (ht : t.2 ≤ 100) (a1 a2 : Int32) (w : xw_M) (h10 : w.1 119 10 = nI t.2) (hr : ∀ j, j < t.2 → t.1 j < 128 ∧ w.1 124 (100 * i + j) = nI (t.1 j)) : ∃ w', xw_it (fun z => fX8_readFor_b113 n a1 a2 (nI i) z.1 z.2) n ((0 : Int32), w) = some w' ∧ (∀ k, k ≠ 126 → w'.1 k = w.1 k) ∧ w'.2 = w.2 ∧ ∀ j, j < t.2 → t.1 j < 128 ∧ w'.1 126 j = nI (t.1 j) := by
  refine pu_inv (fun z => fX8_readFor_b113 n a1 a2 (nI i) z.1 z.2) (fun k z => k ≤ t.2 ∧ z.1 = nI k ∧ (∀ q, q ≠ 126 → z.2.1 q = w.1 q) ∧ z.2.2 = w.2 ∧ ∀ j, j < k → z.2.1 126 j = nI (t.1 j)) t.2 _ ?_ ?_ n 0 ((0 : Int32), w) (by omega) (by omega) ⟨by omega, rfl, fun _ _ => rfl, rfl, fun j hj => absurd hj (by omega)⟩
  · rintro k ⟨x, u⟩ hk ⟨-, rfl, h1, h2, h3⟩
    refine Or.inl ⟨(nI (k + 1), xw_si u 126 k (nI (t.1 k))), ?_, by omega, rfl, fun q hq => by rw [pu_si0 _ _ _ hq]; exact h1 q hq, h2, fun j hj => ?_⟩
    · show fX8_readFor_b113 n a1 a2 (nI i) (nI k) u = _
      unfold fX8_readFor_b113
      rw [h1 119 (by decide), h10, if_neg (nI_ge hk (by omega)), show (100 : Int32) = nI 100 from rfl, pk_mul, nI_add, pu_ck (by omega) (by decide), pu_ck (by omega) (by decide), pu_lt, pu_lt, nI_1, pu_cl (by omega), pu_cl (by omega), h1 124 (by decide), (hr k hk).2]
    · show (xw_si u 126 k _).1 126 j = _
      rw [pu_si1]
      by_cases e : j = k
      · rw [e, pk_us]
      · rw [pk_un e]; exact h3 j (by omega)
  · rintro ⟨x, u⟩ ⟨-, rfl, h1, h2, h3⟩
    refine ⟨u, ?_, h1, h2, fun j hj => ⟨(hr j hj).1, h3 j hj⟩⟩
    show fX8_readFor_b113 n a1 a2 (nI i) (nI t.2) u = _
    unfold fX8_readFor_b113
    rw [h1 119 (by decide), h10, if_pos (nI_le (Nat.le_refl _) (by omega))]
theorem pm_readFor {w : xw_M} {cl : List pg_Cl} (D : pm_D w) (H : rH w.1 (w.1 120) cl) {n : Nat} (hn : 2000 ≤ n) {i y : Nat} (hi : i < 6) : ∃ w', fX8_readFor n (nI i) (nI y) w = some ((), w') ∧ pm_Fr w w' ∧ w'.1 119 14 = pg_sm (pg_fa (w.1 120) i y) cl 20 - nI (pg_fall cl 2) * nI y ∧ w'.1 119 15 = nI (pg_fall cl 2) := by
  unfold fX8_readFor
  simp only [pu_k0, pu_k1, pu_k2, pu_k3, pu_k4, pu_k5, pu_n62, pu_n63, pu_c0, pu_c1, pu_c2, pu_c3, pu_c4, pu_c5, pu_c62, pu_c63, pu_lt, pu_bp, pu_o0 hi, pu_o1 hi, pu_o2 hi, pu_si0 _ _ _ (show (120 : Nat) ≠ 127 by decide)]
  rw [pu_ccT (by decide)]
  obtain ⟨u, hu⟩ : ∃ u, u = xw_si (xw_si (xw_si (xw_si (xw_si (xw_si w 127 0 (nI i)) 127 1 (w.1 120 (10 * i))) 127 2 (w.1 120 (10 * i + 1))) 127 3 (w.1 120 (10 * i + 2))) 127 4 (nI y)) 127 5 (w.1 120 62 - w.1 120 62 / 10 * 10) := ⟨_, rfl⟩
  rw [← hu]
  have fu : pm_Fr w u := by
    rw [hu]
    exact pm_Fr_tr (pm_Fr_tr (pm_Fr_tr (pm_Fr_tr (pm_Fr_tr (pm_Fr_127 _ _ _) (pm_Fr_127 _ _ _)) (pm_Fr_127 _ _ _)) (pm_Fr_127 _ _ _)) (pm_Fr_127 _ _ _)) (pm_Fr_127 _ _ _)
  have nu : ∀ k, k < 6 → u.1 127 k = pg_fa (w.1 120) i y k := by
    intro k hk
    rw [hu]
    simp only [pu_si1]
    rcases (show k = 0 ∨ k = 1 ∨ k = 2 ∨ k = 3 ∨ k = 4 ∨ k = 5 by omega) with rfl | rfl | rfl | rfl | rfl | rfl <;> simp [upd, pg_fa]
  rcases H with ⟨g0, rfl⟩ | ⟨r, hr, gr, t, t1, t2, t3, t4, rfl⟩
  · rw [if_pos g0]
    unfold fX8_readFor_152
    refine ⟨_, rfl, ?_, ?_, ?_⟩
    · exact pm_Fr_tr fu (pm_Fr_tr (pm_Fr_tr (pm_Fr_119 _ _ (by decide)) (pm_Fr_119 _ _ (by decide))) (pm_Fr_119 _ _ (by decide)))
    · rw [pu_si1, pk_us]
      simp only [pu_si1]
      rw [pk_un (by decide), pk_us, pk_us]
      rfl
    · rw [pu_si1, pk_un (by decide), pu_si1, pk_us]
      rfl
  · rw [gr, if_neg (nI_ne0 (by omega) (by omega)), nI_pred, pu_ck hr (by decide), pu_cl (by omega), fu.1 125 (by decide) (by decide) (by decide), t2]
    unfold fX8_readFor_113
    obtain ⟨v, v1, v2, v3, v4⟩ := pm_copy hn hr t1 (nI i) (nI y) (xw_si u 119 10 (nI t.2)) (by rw [pu_si1, pk_us]) (fun j hj => by rw [pu_si0 _ _ _ (by decide), fu.1 124 (by decide) (by decide) (by decide)]; exact t3 j hj)
    rw [v1, pu_bp]
    show ∃ w', fX8_readFor_147 n (nI i) (nI y) v = _ ∧ _
    unfold fX8_readFor_147
    have C : pm_C t v := ⟨t1, by rw [v2 119 (by decide), pu_si1, pk_us], v4⟩
    have Dv : pm_D v := by
      unfold pm_D
      rw [v2 128 (by decide), v2 129 (by decide), v2 130 (by decide), pu_si0 _ _ _ (by decide), pu_si0 _ _ _ (by decide), pu_si0 _ _ _ (by decide), fu.1 128 (by decide) (by decide) (by decide), fu.1 129 (by decide) (by decide) (by decide), fu.1 130 (by decide) (by decide) (by decide)]
      exact D
    obtain ⟨s, fa, ok, K, e, e2, -⟩ := pm_readAll C Dv (f := pg_fa (w.1 120) i y) (fun k hk => by rw [v2 127 (by decide), pu_si0 _ _ _ (by decide)]; exact nu k hk) hn
    obtain ⟨rfl, rfl⟩ := e2 t4
    rw [e, pu_b]
    unfold fX8_readFor_152
    rw [pm_14, pm_15, pu_lt, pm_s14]
    refine ⟨_, rfl, ?_, by rw [pm_14], by rw [pm_15]⟩
    have fv : pm_Fr (xw_si u 119 10 (nI t.2)) v := ⟨fun k _ h _ => v2 k h, v3, fun j _ => by rw [v2 119 (by decide)]⟩
    exact pm_Fr_tr fu (pm_Fr_tr (pm_Fr_119 _ _ (by decide)) (pm_Fr_tr fv (pm_Fr_tr (pm_Fr_u _ _ _) (pm_Fr_w _ _ _ _))))
/-- the rate of a mourner at a yard -/
def pg_rt (cl : List pg_Cl) (g : Nat → Int32) (i y : Nat) : Int32 :=
  let s := pg_sm (pg_fa g i y) cl 20 - nI (pg_fall cl 2) * nI y
  let v := if y < 5 then s else 1
  if g (10 * i) = 1 then s + g (10 * i + 1) else if g (10 * i) = 2 then s / 2 else if g (10 * i) = 3 then v else if g (10 * i) = 4 then (if g 62 - g 62 / 7 * 7 = 0 then 0 else s + g (10 * i + 1)) else if g (10 * i) = 5 then s / 2 + 5 else if g (10 * i) = 6 then v + g (10 * i + (6 + y % 4)) else s
theorem pm_rate {w : xw_M} {cl : List pg_Cl} (D : pm_D w) (H : rH w.1 (w.1 120) cl) {n : Nat} (hn : 2000 ≤ n) {i y : Nat} (hi : i < 6) (hy : y ≤ 9) : ∃ w', fX8_rate n (nI i) (nI y) w = some (pg_rt cl (w.1 120) i y, w') ∧ pm_Fr w w' := by
  obtain ⟨u, e, fu, u14, -⟩ := pm_readFor D H hn (y := y) hi
  refine ⟨u, ?_, fu⟩
  unfold fX8_rate
  rw [e, pu_b, u14]
  have g : u.1 120 = w.1 120 := fu.1 120 (by decide) (by decide) (by decide)
  have ev : ∀ v : Int32, fX8_rate_19 n (nI i) (nI y) v u = some ((if w.1 120 (10 * i) = 1 then (pg_sm (pg_fa (w.1 120) i y) cl 20 - nI (pg_fall cl 2) * nI y) + w.1 120 (10 * i + 1) else if w.1 120 (10 * i) = 2 then (pg_sm (pg_fa (w.1 120) i y) cl 20 - nI (pg_fall cl 2) * nI y) / 2 else if w.1 120 (10 * i) = 3 then v else if w.1 120 (10 * i) = 4 then (if w.1 120 62 - w.1 120 62 / 7 * 7 = 0 then 0 else (pg_sm (pg_fa (w.1 120) i y) cl 20 - nI (pg_fall cl 2) * nI y) + w.1 120 (10 * i + 1)) else if w.1 120 (10 * i) = 5 then (pg_sm (pg_fa (w.1 120) i y) cl 20 - nI (pg_fall cl 2) * nI y) / 2 + 5 else if w.1 120 (10 * i) = 6 then v + w.1 120 (10 * i + (6 + y % 4)) else (pg_sm (pg_fa (w.1 120) i y) cl 20 - nI (pg_fall cl 2) * nI y)), u) := by
    intro v
    unfold fX8_rate_19
    have e6 : fX8_one (nI i) ((6 : Int32) + (nI y - nI y / (4 : Int32) * (4 : Int32))) u = some (w.1 120 (10 * i + (6 + y % 4))) := by
      rw [show (4 : Int32) = nI 4 from rfl, pk_rem (by omega) (by decide) (by decide), show (6 : Int32) = nI 6 from rfl, nI_add, pu_one u (by omega), g]
    simp only [pu_o0 hi, pu_o1 hi, pu_bp, pu_n62, pu_c62, g, u14, e6]
    generalize pg_sm (pg_fa (w.1 120) i y) cl 20 - nI (pg_fall cl 2) * nI y = s
    rw [pu_ccT (by decide), pu_ccT (by decide), pu_ccT (by decide), pu_ccT (by decide)]
    by_cases h1 : w.1 120 (10 * i) = 1
    · rw [if_pos h1, if_pos h1]
    rw [if_neg h1, if_neg h1]
    by_cases h2 : w.1 120 (10 * i) = 2
    · rw [if_pos h2, if_pos h2]
    rw [if_neg h2, if_neg h2]
    by_cases h3 : w.1 120 (10 * i) = 3
    · rw [if_pos h3, if_pos h3]
    rw [if_neg h3, if_neg h3]
    by_cases h4 : w.1 120 (10 * i) = 4
    · rw [if_pos h4, if_pos h4]
      by_cases h7 : w.1 120 62 - w.1 120 62 / 7 * 7 = 0
      · rw [if_pos h7, if_pos h7]
      · rw [if_neg h7, if_neg h7]
    rw [if_neg h4, if_neg h4]
    by_cases h5 : w.1 120 (10 * i) = 5
    · rw [if_pos h5, if_pos h5]
    rw [if_neg h5, if_neg h5]
    by_cases h6 : w.1 120 (10 * i) = 6
    · rw [if_pos h6, if_pos h6]
    rw [if_neg h6, if_neg h6]
  unfold pg_rt
  by_cases h : y < 5
  · rw [if_pos (show nI y < (5 : Int32) from nI_lt (b := 5) h (by decide)), ev]; simp only [if_pos h]
  · rw [if_neg (show ¬ nI y < (5 : Int32) from nI_nlt (b := 5) (by omega) (by omega)), ev]; simp only [if_neg h]
