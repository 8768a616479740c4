/-! ===== what the relation looks at ===== -/
theorem rS_cong {m m' : Nat → Nat → Int32} {b : Nat} {g : Nat → Int32} {R : Nat} (h : ∀ k, b ≤ k → k < b + 16 → m' k = m k) (hr : rS m b g R) : rS m' b g R := by
  unfold rS
  rw [h b (by omega) (by omega), h (b + 1) (by omega) (by omega), h (b + 2) (by omega) (by omega), h (b + 3) (by omega) (by omega), h (b + 4) (by omega) (by omega), h (b + 5) (by omega) (by omega), h (b + 6) (by omega) (by omega), h (b + 7) (by omega) (by omega), h (b + 8) (by omega) (by omega), h (b + 9) (by omega) (by omega), h (b + 10) (by omega) (by omega), h (b + 11) (by omega) (by omega), h (b + 12) (by omega) (by omega), h (b + 13) (by omega) (by omega), h (b + 14) (by omega) (by omega), h (b + 15) (by omega) (by omega)]
  exact hr
theorem rA_cong {m m' : Nat → Nat → Int32} {p : Nat} {cl : List pg_Cl} (h : ∀ k, p ≤ k → k < p + 6 → m' k = m k) (hr : rA m p cl) : rA m' p cl := by
  unfold rA
  rw [h p (by omega) (by omega), h (p + 1) (by omega) (by omega), h (p + 2) (by omega) (by omega), h (p + 3) (by omega) (by omega), h (p + 4) (by omega) (by omega), h (p + 5) (by omega) (by omega)]
  exact hr
theorem rR_cong {m m' : Nat → Nat → Int32} {i : Nat} (h : ∀ k, 71 + 6 * i ≤ k → k < 77 + 6 * i → m' k = m k) (h4 : ∀ j, j < 100 → m' 124 (100 * i + j) = m 124 (100 * i + j)) (h5 : m' 125 i = m 125 i) (hr : rR m i) : rR m' i := by
  obtain ⟨t, h1, h2, h3, hg, ha⟩ := hr
  exact ⟨t, h1, by rw [h5]; exact h2, fun j hj => ⟨(h3 j hj).1, by rw [h4 j (by omega)]; exact (h3 j hj).2⟩, hg, rA_cong (fun k a b => h k a (by omega)) ha⟩
theorem rX_cong {m m' : Nat → Nat → Int32} (h0 : m' 49 1 = m 49 1) (h1 : m' 119 5 = m 119 5) (h2 : m' 50 = m 50) (h3 : m' 123 = m 123) (hr : rX m) : rX m' := by
  unfold rX
  rw [h0, h1, h2, h3]
  exact hr
theorem rT_cong {m m' : Nat → Nat → Int32} {l l' : Nat → Nat → Int64} {t : Nat} (h0 : m' (107 + 2 * t) = m (107 + 2 * t)) (h1 : m' 137 t = m 137 t) (h2 : m' 138 t = m 138 t) (h3 : l' (108 + 2 * t) = l (108 + 2 * t)) (h4 : ∀ j, j < 60 → l' 139 (60 * t + j) = l 139 (60 * t + j)) (hr : rT m l t) : rT m' l' t := by
  obtain ⟨a, b, c, d⟩ := hr
  exact ⟨by rw [h0, h1]; exact a, by rw [h1]; exact b, by rw [h0, h1, h2]; exact c, fun j hj => by rw [h3, h4 j hj]; exact d j hj⟩
theorem rB_cong {m m' : Nat → Nat → Int32} (h0 : m' 68 3 = m 68 3) (h1 : m' 119 26 = m 119 26) (h2 : m' 69 = m 69) (h3 : m' 136 = m 136) (hr : rB m) : rB m' := by
  unfold rB
  rw [h0, h1, h2, h3]
  exact hr
/-- scratch: what no promise looks at behind a call -/
def pu_Sc (k : Nat) : Prop := (17 ≤ k ∧ k ≤ 32) ∨ (51 ≤ k ∧ k ≤ 57) ∨ (64 ≤ k ∧ k ≤ 67) ∨ k = 119 ∨ k = 121 ∨ k = 126 ∨ k = 127 ∨ (131 ≤ k ∧ k ≤ 133) ∨ k = 140
theorem pu_nS {k : Nat} (h : (k ≤ 16) ∨ (33 ≤ k ∧ k ≤ 50) ∨ (58 ≤ k ∧ k ≤ 63) ∨ (68 ≤ k ∧ k ≤ 118) ∨ k = 120 ∨ (122 ≤ k ∧ k ≤ 125) ∨ (128 ≤ k ∧ k ≤ 130) ∨ (134 ≤ k ∧ k ≤ 139)) : ¬ pu_Sc k := by unfold pu_Sc; omega
theorem Rel_fr {w w' : xw_M} (h : Rel w) (hf : pu_Fr pu_Sc w w') (h3 : w'.1 119 3 = w.1 119 3) (h5 : w'.1 119 5 = w.1 119 5) (h8 : w'.1 119 8 = w.1 119 8) (h26 : w'.1 119 26 = w.1 119 26) : Rel w' := by
  obtain ⟨R, a1, a2, a3, a4, a5, a6, a7, a8, a9, a10, a11, a12⟩ := h
  have e : ∀ k, ((k ≤ 16) ∨ (33 ≤ k ∧ k ≤ 50) ∨ (58 ≤ k ∧ k ≤ 63) ∨ (68 ≤ k ∧ k ≤ 118) ∨ k = 120 ∨ (122 ≤ k ∧ k ≤ 125) ∨ (128 ≤ k ∧ k ≤ 130) ∨ (134 ≤ k ∧ k ≤ 139)) → w'.1 k = w.1 k := fun k hk => hf.1 k (pu_nS hk)
  have e2 : ∀ k, ((k ≤ 16) ∨ (33 ≤ k ∧ k ≤ 50) ∨ (58 ≤ k ∧ k ≤ 63) ∨ (68 ≤ k ∧ k ≤ 118) ∨ k = 120 ∨ (122 ≤ k ∧ k ≤ 125) ∨ (128 ≤ k ∧ k ≤ 130) ∨ (134 ≤ k ∧ k ≤ 139)) → w'.2 k = w.2 k := fun k hk => hf.2 k (pu_nS hk)
  have e0 := e 0 (by omega)
  refine ⟨R, a1, ?_, by rw [e0, h3]; exact a3, ?_, ?_, by rw [e0]; exact a6, by rw [h8]; exact a7, fun i hi => ?_, rA_cong (fun k h1 h2 => e k (by omega)) a9, rB_cong (by rw [e 68 (by omega)]) h26 (e 69 (by omega)) (e 136 (by omega)) a10, fun t ht => ?_, ⟨fun k hk => by rw [e k (by omega)]; exact a12.1 k hk, by rw [e 40 (by omega), e 43 (by omega), e 46 (by omega)]; exact a12.2⟩⟩
  · rw [e 120 (by omega)]
    exact rS_cong (fun k h1 h2 => e k (by omega)) a2
  · rw [e0, e 122 (by omega)]
    exact a4.imp id (fun q => ⟨q.1, rS_cong (fun k h1 h2 => e k (by omega)) q.2⟩)
  · exact rX_cong (by rw [e 49 (by omega)]) h5 (e 50 (by omega)) (e 123 (by omega)) a5
  · exact rR_cong (fun k h1 h2 => e k (by omega)) (fun j hj => by rw [e 124 (by omega)]) (by rw [e 125 (by omega)]) (a8 i hi)
  · exact rT_cong (e _ (by omega)) (by rw [e 137 (by omega)]) (by rw [e 138 (by omega)]) (e2 _ (by omega)) (fun j hj => by rw [e2 139 (by omega)]) (a11 t ht)
/-- a new state of 'now' on both sides; all else stays -/
theorem Rel_now {w w' : xw_M} {R : Nat} (h : Rel w) (hR : w.1 0 6 = nI R) (hR6 : R ≤ 6) (hf : ∀ k, (k < 1 ∨ 17 ≤ k) → k ≠ 120 → w'.1 k = w.1 k) (h2 : w'.2 = w.2) (hs : rS w'.1 1 (w'.1 120) R) : Rel w' := by
  obtain ⟨R', a1, a2, a3, a4, a5, a6, a7, a8, a9, a10, a11, a12⟩ := h
  have hRR : R' = R := (nI_eq (by omega) (by omega)).mp (a6.symm.trans hR)
  subst hRR
  have e := fun k h1 h2 => hf k h1 h2
  have e0 := hf 0 (by omega) (by omega)
  have e9 := hf 119 (by omega) (by omega)
  refine ⟨R', a1, hs, by rw [e0, e9]; exact a3, ?_, ?_, by rw [e0]; exact a6, by rw [e9]; exact a7, fun i hi => ?_, rA_cong (fun k h1 h2 => e k (by omega) (by omega)) a9, rB_cong (by rw [e 68 (by omega) (by omega)]) (by rw [e9]) (e 69 (by omega) (by omega)) (e 136 (by omega) (by omega)) a10, fun t ht => ?_, ⟨fun k hk => by rw [e k (by omega) (by omega)]; exact a12.1 k hk, by rw [e 40 (by omega) (by omega), e 43 (by omega) (by omega), e 46 (by omega) (by omega)]; exact a12.2⟩⟩
  · rw [e0, e 122 (by omega) (by omega)]
    exact a4.imp id (fun q => ⟨q.1, rS_cong (fun k h1 h2 => e k (by omega) (by omega)) q.2⟩)
  · exact rX_cong (by rw [e 49 (by omega) (by omega)]) (by rw [e9]) (e 50 (by omega) (by omega)) (e 123 (by omega) (by omega)) a5
  · exact rR_cong (fun k h1 h2 => e k (by omega) (by omega)) (fun j hj => by rw [e 124 (by omega) (by omega)]) (by rw [e 125 (by omega) (by omega)]) (a8 i hi)
  · exact rT_cong (e _ (by omega) (by omega)) (by rw [e 137 (by omega) (by omega)]) (by rw [e 138 (by omega) (by omega)]) (by rw [h2]) (fun j hj => by rw [h2]) (a11 t ht)
/-! the row of the reference's changes: what does not look there -/
theorem rM_g {kd vs lo ya pa ro g g' : Nat → Int32} {N M : Nat} (hN : N ≤ 6) (h : ∀ j, j < 60 → g' j = g j) (hr : rM kd vs lo ya pa ro g N M) : rM kd vs lo ya pa ro g' N M := by
  refine ⟨fun i hi => ?_, hr.2⟩
  obtain ⟨a, b, c, d, e, f, k, l, m⟩ := hr.1 i hi
  rw [h (10 * i) (by omega), h (10 * i + 1) (by omega), h (10 * i + 2) (by omega), h (10 * i + 3) (by omega), h (10 * i + 4) (by omega), h (10 * i + 5) (by omega)]
  exact ⟨a, b, c, d, e, f, fun j hj => by rw [h _ (by omega)]; exact k j hj, l, m⟩
theorem rD_g {o g g' : Nat → Int32} {R : Nat} (h1 : g' 61 = g 61) (h2 : g' 62 = g 62) (h3 : g' 63 = g 63) (hr : rD o g R) : rD o g' R := by
  unfold rD
  rw [h1, h2, h3]
  exact hr
theorem rP_g {q f s g g' : Nat → Int32} {o mo : Nat} {ok : Int32 → Int32 → Prop} (h : ∀ j, o ≤ j → j ≤ o + 2 * mo → g' j = g j) (hr : rP q f s g o mo ok) : rP q f s g' o mo ok := by
  obtain ⟨a, z, hz, b, c, d⟩ := hr
  refine ⟨a, z, hz, b, by rw [h o (by omega) (by omega)]; exact c, fun r hr => ?_⟩
  rw [h (o + 1 + 2 * r) (by omega) (by omega), h (o + 2 + 2 * r) (by omega) (by omega)]
  exact d r hr
theorem st_debt (n : Nat) : xs_debt n Rel := by
  intro a w hR
  have hR0 := hR
  obtain ⟨R, a1, ⟨N, M, b1, b2, b3, b4, b5, bM, bD, bS, bP, bB⟩, -, -, -, a6, -⟩ := hR0
  unfold fX7_debt fX8_debt
  simp only [pu_within, pu_isIn, pu_bp, pu_bi0]
  by_cases h : 0 ≤ a ∧ a ≤ 999
  · rw [if_neg (fun q => q h)]
    simp only [pu_lt]
    obtain ⟨d, hd, rfl⟩ := pu_ex (n := 999) (by decide) h
    refine ⟨w.1 1 8, xw_si w 1 8 (nI d), xw_si (xw_si w 1 8 (nI d)) 120 61 (nI d), rfl, ?_, ?_⟩
    · rw [if_neg (fun q => q h)]
      rw [show (61 : Int32) = nI 61 from rfl]
      simp only [pu_now 61 (by decide), pu_cl (show 61 < 2 ^ 31 by decide), pu_si0 w 8 (nI d) (show (120 : Nat) ≠ 1 by decide)]
      rw [bD.1]
    · refine Rel_now hR a6 a1 (fun k h1 h2 => ?_) rfl ?_
      · rw [pu_si0 _ _ _ h2, pu_si0 _ _ _ (by omega)]
      · rw [pu_si1, pu_si0 w 8 (nI d) (show (120 : Nat) ≠ 1 by decide)]
        refine ⟨N, M, b1, b2, b3, b4, b5, rM_g b1 (fun j hj => pk_un (by omega)) bM, ⟨?_, ⟨d, hd, pk_us⟩, ?_⟩, rP_g (fun j h1 h2 => pk_un (by omega)) bS, rP_g (fun j h1 h2 => pk_un (by omega)) bP, rP_g (fun j h1 h2 => pk_un (by omega)) bB⟩
        · rw [pk_us]; rfl
        · exact bD.2.2
  · exact ⟨-2, w, w, by rw [if_pos h], by rw [if_pos h], hR⟩
theorem st_count (n : Nat) : xs_count n Rel := by
  intro a w hR
  have hR0 := hR
  obtain ⟨R, a1, ⟨N, M, b1, b2, b3, b4, b5, bM, bD, bS, bP, bB⟩, -, -, ⟨T, -, x1, x2, -⟩, a6, a7, -, -, ⟨z, -, z1, z2, -⟩, -⟩ := hR0
  obtain ⟨-, s1, -, s2, s3, -⟩ := bS
  obtain ⟨-, p1, -, p2, p3, -⟩ := bP
  obtain ⟨-, q1, -, q2, q3, -⟩ := bB
  unfold fX7_count fX8_count
  simp only [show (60 : Int32) = nI 60 from rfl, show (64 : Int32) = nI 64 from rfl, show (75 : Int32) = nI 75 from rfl, show (92 : Int32) = nI 92 from rfl, pu_now 60 (by decide), pu_now 64 (by decide), pu_now 75 (by decide), pu_now 92 (by decide), pu_cl (show 60 < 2 ^ 31 by decide), pu_cl (show 64 < 2 ^ 31 by decide), pu_cl (show 75 < 2 ^ 31 by decide), pu_cl (show 92 < 2 ^ 31 by decide)]
  rw [b3, b4, a6, a7, s2, s3, p2, p3, q2, q3, x1, x2, z1, z2]
  by_cases h0 : a = 0
  · exact ⟨_, if_pos h0, if_pos h0, hR⟩
  by_cases h1 : a = 1
  · exact ⟨nI R, by rw [if_neg h0, if_pos h1], by rw [if_neg h0, if_pos h1], hR⟩
  by_cases h2 : a = 2
  · exact ⟨nI s1, by rw [if_neg h0, if_neg h1, if_pos h2], by rw [if_neg h0, if_neg h1, if_pos h2], hR⟩
  by_cases h3 : a = 3
  · exact ⟨nI p1, by rw [if_neg h0, if_neg h1, if_neg h2, if_pos h3], by rw [if_neg h0, if_neg h1, if_neg h2, if_pos h3], hR⟩
  by_cases h4 : a = 4
  · exact ⟨nI q1, by rw [if_neg h0, if_neg h1, if_neg h2, if_neg h3, if_pos h4], by rw [if_neg h0, if_neg h1, if_neg h2, if_neg h3, if_pos h4], hR⟩
  by_cases h5 : a = 5
  · exact ⟨nI T, by rw [if_neg h0, if_neg h1, if_neg h2, if_neg h3, if_neg h4, if_pos h5], by rw [if_neg h0, if_neg h1, if_neg h2, if_neg h3, if_neg h4, if_pos h5], hR⟩
  by_cases h6 : a = 6
  · exact ⟨nI z, by rw [if_neg h0, if_neg h1, if_neg h2, if_neg h3, if_neg h4, if_neg h5, if_pos h6], by rw [if_neg h0, if_neg h1, if_neg h2, if_neg h3, if_neg h4, if_neg h5, if_pos h6], hR⟩
  exact ⟨-2, by rw [if_neg h0, if_neg h1, if_neg h2, if_neg h3, if_neg h4, if_neg h5, if_neg h6], by rw [if_neg h0, if_neg h1, if_neg h2, if_neg h3, if_neg h4, if_neg h5, if_neg h6], hR⟩
