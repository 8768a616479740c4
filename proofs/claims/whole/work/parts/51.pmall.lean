/-! ===== the reference reads clauses, and for a mourner and a yard ===== -/
def pm_u (w : xw_M) (s : Int32) (fa : Nat) : xw_M := xw_si (xw_si w 119 14 s) 119 15 (nI fa)
theorem pm_u_k (w : xw_M) (s : Int32) (fa : Nat) {k : Nat} (h : k ≠ 119) : (pm_u w s fa).1 k = w.1 k := by
  unfold pm_u
  rw [pu_si0 _ _ _ h, pu_si0 _ _ _ h]
theorem pm_u_o (w : xw_M) (s : Int32) (fa : Nat) {j : Nat} (h1 : j ≠ 14) (h2 : j ≠ 15) : (pm_u w s fa).1 119 j = w.1 119 j := by
  unfold pm_u
  rw [pu_si1, pk_un h2, pu_si1, pk_un h1]
theorem pm_14 (w : xw_M) (s : Int32) (fa p : Nat) (ok : Bool) (K : Int32) : (pm_w (pm_u w s fa) p ok K).1 119 14 = s := by
  rw [pm_o _ _ _ _ (by decide) (by decide) (by decide)]
  unfold pm_u
  rw [pu_si1, pk_un (by decide), pu_si1, pk_us]
theorem pm_15 (w : xw_M) (s : Int32) (fa p : Nat) (ok : Bool) (K : Int32) : (pm_w (pm_u w s fa) p ok K).1 119 15 = nI fa := by
  rw [pm_o _ _ _ _ (by decide) (by decide) (by decide)]
  unfold pm_u
  rw [pu_si1, pk_us]
theorem pm_s14 (w : xw_M) (s : Int32) (fa p : Nat) (ok : Bool) (K x : Int32) : xw_si (pm_w (pm_u w s fa) p ok K) 119 14 x = pm_w (pm_u w x fa) p ok K := by
  refine pu_ext (fun k => ?_) (fun k => rfl)
  unfold pm_w pm_u
  by_cases h : k = 119
  · subst h
    simp only [pu_si1]
    funext j
    by_cases a : j = 14
    · subst a; simp [upd]
    · simp [upd, a]
  · simp only [pu_si0 _ _ _ h]
theorem pm_s15 (w : xw_M) (s : Int32) (fa p : Nat) (ok : Bool) (K : Int32) (x : Nat) : xw_si (pm_w (pm_u w s fa) p ok K) 119 15 (nI x) = pm_w (pm_u w s x) p ok K := by
  refine pu_ext (fun k => ?_) (fun k => rfl)
  unfold pm_w pm_u
  by_cases h : k = 119
  · subst h
    simp only [pu_si1]
    funext j
    by_cases a : j = 15
    · subst a; simp [upd]
    · simp [upd, a]
  · simp only [pu_si0 _ _ _ h]
theorem pm_C_u {t : pg_T} {w : xw_M} (C : pm_C t w) (s : Int32) (fa : Nat) : pm_C t (pm_u w s fa) := ⟨C.1, by rw [pm_u_o _ _ _ (by decide) (by decide)]; exact C.2.1, fun j hj => by rw [pm_u_k _ _ _ (by decide)]; exact C.2.2 j hj⟩
theorem pm_D_u {w : xw_M} (D : pm_D w) (s : Int32) (fa : Nat) : pm_D (pm_u w s fa) := by
  unfold pm_D
  rw [pm_u_k _ _ _ (by decide), pm_u_k _ _ _ (by decide), pm_u_k _ _ _ (by decide)]
  exact D
def pg_ws (x i : Nat) : Nat → List Nat
  | 0 => []
  | e + 1 => pg_W (5 * x + i) :: pg_ws x (i + 1) e
theorem pg_W4 : ∀ x, x < 3 → pg_W (5 * x + 4) = 0 := by decide
theorem pg_Wn : ∀ x, x < 3 → ∀ i, i < 4 → pg_W (5 * x + i) ≠ 0 := by decide
theorem pm_words {t : pg_T} {w : xw_M} (C : pm_C t w) (D : pm_D w) {n x : Nat} (hx : x < 3) (K : Int32) : ∀ e i, i + e = 4 → ∀ (p : Nat) (ok : Bool), p ≤ t.2 → ∀ m, e < m → xw_it (fun z => fX8_clause_b47 n (nI x) z.1 z.2) m (nI i, pm_w w p ok K) = some (pm_w w (pg_wd t ok (pg_ws x i e) p).2 (pg_wd t ok (pg_ws x i e) p).1 K) := by
  intro e
  induction e with
  | zero =>
    intro i hi p ok hp m hm
    obtain ⟨m', rfl⟩ : ∃ m', m = m' + 1 := ⟨m - 1, by omega⟩
    have hi4 : i = 4 := by omega
    subst hi4
    refine pu_it1 _ ?_
    show fX8_clause_b47 n (nI x) (nI 4) _ = _
    unfold fX8_clause_b47
    rw [if_neg (show ¬ (5 : Int32) ≤ nI 4 by decide), show (5 : Int32) = nI 5 from rfl, pk_mul, nI_add, pu_ck (by omega) (by decide), pu_cl (by omega), pm_k _ _ _ _ (by decide), D.2.2 _ (by omega), pg_W4 x hx, if_pos (show nI 0 = 0 from rfl)]
    cases ok <;> rfl
  | succ e ih =>
    intro i hi p ok hp m hm
    obtain ⟨m', rfl⟩ : ∃ m', m = m' + 1 := ⟨m - 1, by omega⟩
    have hw := pg_Wl (5 * x + i) (by omega)
    have step : fX8_clause_b47 n (nI x) (nI i) (pm_w w p ok K) = some (.inl (nI (i + 1), if ok = true ∧ pg_c t p = pg_W (5 * x + i) then pm_w w (p + 1) true K else pm_w w p false K)) := by
      unfold fX8_clause_b47
      rw [if_neg (show ¬ (5 : Int32) ≤ nI i from nI_ge (b := 5) (by omega) (by decide)), show (5 : Int32) = nI 5 from rfl, pk_mul, nI_add, pu_ck (by omega) (by decide), pu_cl (by omega), pm_k _ _ _ _ (by decide), D.2.2 _ (by omega), if_neg (nI_ne0 (by have := pg_Wn x hx i (by omega); omega) (by omega)), pu_ck (by omega) (by decide), pm_takes C hp ok K hw, pu_b, pu_lt, nI_1]
    rw [pu_it0 (fun z => fX8_clause_b47 n (nI x) z.1 z.2) (a := (nI i, pm_w w p ok K)) step]
    show _ = some (pm_w w (pg_wd t ok (pg_W (5 * x + i) :: pg_ws x (i + 1) e) p).2 (pg_wd t ok (pg_W (5 * x + i) :: pg_ws x (i + 1) e) p).1 K)
    rw [pg_wd_c]
    by_cases h : ok = true ∧ pg_c t p = pg_W (5 * x + i)
    · rw [if_pos h, if_pos h]
      exact ih (i + 1) (by omega) (p + 1) true (pg_cl h.2 (by omega)) m' (by omega)
    · rw [if_neg h, if_neg h, ih (i + 1) (by omega) p false hp m' (by omega), pg_wd_f]
def pg_nb (c : Nat) : Nat → Int32
  | 0 => -1
  | i + 1 => if c = pg_B i then nI i else pg_nb c i
theorem pm_which {t : pg_T} {w : xw_M} (C : pm_C t w) (D : pm_D w) {n : Nat} (hn : 2000 ≤ n) {p : Nat} (hp : p ≤ t.2) (K : Int32) : xw_it (fun z => fX8_clause_b4 n z.1 z.2 (pm_w w p true K)) n ((-1 : Int32), (0 : Int32)) = some (pg_nb (pg_c t p) 3) := by
  refine pu_up (fun z => fX8_clause_b4 n z.1 z.2 (pm_w w p true K)) (fun i => (pg_nb (pg_c t p) i, nI i)) 3 _ (fun i hi => ?_) ?_ (by omega)
  · show fX8_clause_b4 n _ (nI i) _ = _
    unfold fX8_clause_b4
    rw [show (3 : Int32) = nI 3 from rfl, if_neg (nI_ge hi (by decide)), pu_ck hi (by decide), pu_cl (by omega), pm_k _ _ _ _ (by decide), D.2.1 i hi, pm_isAt C hp true K (pg_Bl i hi), pu_bp]
    show _ = some (Sum.inl ((if pg_c t p = pg_B i then nI i else pg_nb (pg_c t p) i), nI (i + 1)))
    by_cases q : pg_c t p = pg_B i
    · rw [pu_biT ⟨rfl, q⟩, if_neg (by decide), if_pos q]
      unfold fX8_clause_27
      rw [pu_lt, nI_1]
    · rw [pu_biF (fun z => q z.2), if_pos rfl, if_neg q]
      unfold fX8_clause_27
      rw [pu_lt, nI_1]
  · show fX8_clause_b4 n _ (nI 3) _ = _
    unfold fX8_clause_b4
    rw [if_pos (show (3 : Int32) ≤ nI 3 by decide)]
theorem pg_nb3 (c : Nat) : (c = 121 ∧ pg_nb c 3 = nI 2) ∨ (c ≠ 121 ∧ c = 108 ∧ pg_nb c 3 = nI 1) ∨ (c ≠ 121 ∧ c ≠ 108 ∧ c = 109 ∧ pg_nb c 3 = nI 0) ∨ (c ≠ 121 ∧ c ≠ 108 ∧ c ≠ 109 ∧ pg_nb c 3 = -1) := by
  by_cases h1 : c = 121
  · subst h1; exact Or.inl ⟨rfl, by decide⟩
  by_cases h2 : c = 108
  · subst h2; exact Or.inr (Or.inl ⟨h1, rfl, by decide⟩)
  by_cases h3 : c = 109
  · subst h3; exact Or.inr (Or.inr (Or.inl ⟨h1, h2, rfl, by decide⟩))
  · exact Or.inr (Or.inr (Or.inr ⟨h1, h2, h3, by simp [pg_nb, pg_B, h1, h2, h3]⟩))
/-- what a clause leaves -/
def pm_G (t : pg_T) (f : Nat → Int32) (w : xw_M) (p : Nat) (s : Int32) (fa : Nat) (o : Option (Unit × xw_M)) : Prop := ∃ (s' : Int32) (fa' : Nat) (K' : Int32), o = some ((), pm_w (pm_u w s' fa') (pg_clause t p).2.1 (pg_clause t p).1 K') ∧ ((pg_clause t p).1 = true → s' = pg_sm f (pg_clause t p).2.2.toList s ∧ fa' = pg_fall (pg_clause t p).2.2.toList fa)
theorem pm_clause {t : pg_T} {w : xw_M} {f : Nat → Int32} (C : pm_C t w) (D : pm_D w) (hf : ∀ k, k < 6 → w.1 127 k = f k) {n : Nat} (hn : 2000 ≤ n) {p : Nat} (hp : p ≤ t.2) (K s : Int32) (fa : Nat) : pm_G t f w p s fa (fX8_clause n (pm_w (pm_u w s fa) p true K)) := by
  have Cu := fun s fa => pm_C_u C s fa
  have Du := fun s fa => pm_D_u D s fa
  have fu : ∀ s fa k, k < 6 → (pm_u w s fa).1 127 k = f k := fun s fa k hk => by rw [pm_u_k _ _ _ (by decide)]; exact hf k hk
  unfold fX8_clause fX8_clause_4
  rw [pm_which (Cu s fa) (Du s fa) hn hp K, pu_bp]
  show pm_G t f w p s fa (fX8_clause_34 n (pg_nb (pg_c t p) 3) _)
  unfold fX8_clause_34
  have main : ∀ x, x < 3 → pg_nb (pg_c t p) 3 = nI x → pg_lead t p = pg_ws x 0 4 ++ [32] → (x = 2 ↔ pg_c t p = 121) → (x = 0 ↔ ¬ (pg_c t p = 121) ∧ ¬ pg_c t p = 108) → pm_G t f w p s fa (fX8_clause_47 n (nI x) (0 : Int32) (pm_w (pm_u w s fa) p true K)) := by
    intro x hx hnb hl hx2 hx0
    have hlead := pg_wd_app t (pg_ws x 0 4) [32] true p
    rw [← hl] at hlead
    have hwd : pg_wd t true (pg_lead t p) p = pg_word t (pg_lead t p) p := if_pos rfl
    have hle := pg_wd_le t (pg_lead t p) true p (pg_lead_ne t p) hp
    have hle0 := pg_wd_le t (pg_ws x 0 4) true p (fun c hc => pg_lead_ne t p c (by rw [hl]; exact List.mem_append_left _ hc)) hp
    unfold fX8_clause_47
    rw [show (0 : Int32) = nI 0 from rfl, pm_words (Cu s fa) (Du s fa) hx K 4 0 rfl p true hp n (by omega), pu_bp]
    show pm_G t f w p s fa (fX8_clause_85 n (nI x) _)
    unfold fX8_clause_85
    rw [show (32 : Int32) = nI 32 from rfl, pm_takes (Cu s fa) hle0.2 _ K (by decide), pu_b]
    have e32 : (if (pg_wd t true (pg_ws x 0 4) p).1 = true ∧ pg_c t (pg_wd t true (pg_ws x 0 4) p).2 = 32 then pm_w (pm_u w s fa) ((pg_wd t true (pg_ws x 0 4) p).2 + 1) true K else pm_w (pm_u w s fa) (pg_wd t true (pg_ws x 0 4) p).2 false K) = pm_w (pm_u w s fa) (pg_wd t true (pg_lead t p) p).2 (pg_wd t true (pg_lead t p) p).1 K := by
      rw [hlead, pg_wd_c]
      by_cases q : (pg_wd t true (pg_ws x 0 4) p).1 = true ∧ pg_c t (pg_wd t true (pg_ws x 0 4) p).2 = 32
      · rw [if_pos q, if_pos q]; rfl
      · rw [if_neg q, if_neg q]
    rw [e32, hwd]
    rw [hwd] at hle
    have ecl : pg_clause t p = (if (pg_word t (pg_lead t p) p).1 = true then if (pg_num t (pg_word t (pg_lead t p) p).2).1 = true then if pg_c t p = 121 then (true, (pg_num t (pg_word t (pg_lead t p) p).2).2.1, some (.inl (pg_num t (pg_word t (pg_lead t p) p).2).2.2)) else if pg_c t (pg_num t (pg_word t (pg_lead t p) p).2).2.1 = 32 then ((pg_any t (pg_part t 4) ((pg_num t (pg_word t (pg_lead t p) p).2).2.1 + 1)).1, (pg_any t (pg_part t 4) ((pg_num t (pg_word t (pg_lead t p) p).2).2.1 + 1)).2.1, some (.inr (if pg_c t p = 108 then -nI (pg_num t (pg_word t (pg_lead t p) p).2).2.2 else nI (pg_num t (pg_word t (pg_lead t p) p).2).2.2, (pg_any t (pg_part t 4) ((pg_num t (pg_word t (pg_lead t p) p).2).2.1 + 1)).2.2))) else (false, (pg_num t (pg_word t (pg_lead t p) p).2).2.1, none) else (false, (pg_num t (pg_word t (pg_lead t p) p).2).2.1, none) else (false, (pg_word t (pg_lead t p) p).2, none)) := rfl
    generalize pg_word t (pg_lead t p) p = wd at hle ecl ⊢
    obtain ⟨o1, p1⟩ := wd
    simp only [] at hle ecl ⊢
    -- what an E leaves where it is read badly
    have bad : ∀ (q : Nat) (r20 : Int32), q ≤ t.2 → pg_clause t p = (false, q, none) → pm_G t f w p s fa (xw_b (fX8_takes (nI 32) (pm_w (pm_u w s fa) q false K)) (fun (_ : Unit) w25 => xw_lt (xw_si w25 119 13 (0 : Int32)) (fun w27 => xw_b (fX8_any n (fX8_factor n 8) w27) (fun r28 w29 => if r28 = 0 then fX8_clause_146 n (w29.1 119 14) (0 : Int32) w29 else if nI x = 0 then fX8_clause_146 n (w29.1 119 14) r20 w29 else fX8_clause_146 n (w29.1 119 14) (-r20) w29)))) := by
      intro q r20 hq hc
      have A := pm_any (n := n) (Cu s fa) (pg_part_ok t 4) (pm_factor (Cu s fa) (Du s fa) (fu s fa) hn 4 0 8 rfl (by decide)) hn
      obtain ⟨y, hy, e⟩ := A.2 q hq
      rw [pm_takes (Cu s fa) hq false K (by decide), pu_b, if_neg (fun z => absurd z.1 (by decide)), pm_s13, pu_lt, show (0 : Int32) = nI 0 from rfl, e, pu_b]
      unfold fX8_clause_146
      unfold pm_G
      rw [hc]
      by_cases h0 : y = nI 0
      · exact ⟨_, fa, nI 0, by rw [if_pos h0, pm_s14, pu_lt], fun z => Bool.noConfusion z⟩
      · rw [if_neg h0]
        by_cases h1 : nI x = nI 0
        · exact ⟨_, fa, nI 0, by rw [if_pos h1, pm_s14, pu_lt], fun z => Bool.noConfusion z⟩
        · exact ⟨_, fa, nI 0, by rw [if_neg h1, pm_s14, pu_lt], fun z => Bool.noConfusion z⟩
    cases o1 with
    | false =>
      rw [if_neg (by decide)] at ecl
      rw [pm_num0 (Cu s fa) hle.2 K, pu_b]
      by_cases h2 : nI x = (2 : Int32)
      · rw [if_pos h2, pu_lt, show (0 : Int32) = nI 0 from rfl, pm_s15]
        unfold pm_G
        rw [ecl]
        exact ⟨s, 0, K, rfl, fun z => Bool.noConfusion z⟩
      · rw [if_neg h2]
        exact bad p1 0 hle.2 ecl
    | true =>
      rw [if_pos rfl] at ecl
      have no := pg_num_ok t hle.2
      rw [pm_num (Cu s fa) hle.2 K, pu_b]
      generalize pg_num t p1 = nm at ecl no ⊢
      obtain ⟨o2, p2, v⟩ := nm
      simp only [] at ecl no ⊢
      by_cases h2 : nI x = (2 : Int32)
      · have hc : pg_c t p = 121 := hx2.mp ((nI_eq (b := 2) (by omega) (by decide)).mp h2)
        rw [if_pos h2, pu_lt, pm_s15]
        unfold pm_G
        rw [ecl]
        cases o2 with
        | false => rw [if_neg (by decide)]; exact ⟨s, v, K, rfl, fun z => Bool.noConfusion z⟩
        | true => rw [if_pos rfl, if_pos hc]; exact ⟨s, v, K, rfl, fun _ => ⟨rfl, rfl⟩⟩
      · have hc : ¬ pg_c t p = 121 := fun z => h2 (by rw [hx2.mpr z]; rfl)
        rw [if_neg h2]
        cases o2 with
        | false =>
          rw [if_neg (by decide)] at ecl
          exact bad p2 (nI v) no.2 ecl
        | true =>
          rw [if_pos rfl, if_neg hc] at ecl
          by_cases h32 : pg_c t p2 = 32
          · rw [if_pos h32] at ecl
            have l := pg_cl h32 (by decide)
            have A := pm_any (n := n) (Cu s fa) (pg_part_ok t 4) (pm_factor (Cu s fa) (Du s fa) (fu s fa) hn 4 0 8 rfl (by decide)) hn
            obtain ⟨y, hy, e, hv⟩ := A.1 (p2 + 1) l
            rw [pm_takes (Cu s fa) no.2 true K (by decide), pu_b, if_pos ⟨rfl, h32⟩, pm_s13, pu_lt, show (0 : Int32) = nI 0 from rfl, e, pu_b]
            unfold fX8_clause_146
            unfold pm_G
            rw [ecl]
            have hi : (pg_any t (pg_part t 4) (p2 + 1)).1 = true → (pg_ri f (pg_any t (pg_part t 4) (p2 + 1)).2.2 0 &&& 1 = 0 ↔ y = 0) := by
              intro z
              have q := pg_V_hi (hv z) (by decide)
              unfold pg_hi at q
              constructor
              · intro z1
                rcases hy with rfl | rfl
                · rfl
                · exact absurd z1 (q.mpr rfl)
              · intro z1
                refine Classical.byContradiction (fun z2 => ?_)
                have := q.mp z2
                rw [z1] at this
                exact absurd this (by decide)
            have sm : ∀ (a : Int32) (l : List pg_St), pg_sm f ((some (Sum.inr (a, l) : pg_Cl)).toList) s = if pg_ri f l 0 &&& 1 = 0 then s else s + a := fun a l => rfl
            by_cases h0 : y = nI 0
            · refine ⟨s, fa, nI 0, by rw [if_pos h0, pm_14, pm_s14, pu_lt, show (nI 0 : Int32) = 0 from rfl, Int32.add_zero], fun z => ⟨?_, rfl⟩⟩
              rw [sm, if_pos ((hi z).mpr h0)]
            · rw [if_neg h0]
              by_cases h1 : nI x = nI 0
              · have c0 := hx0.mp ((nI_eq (by omega) (by decide)).mp h1)
                refine ⟨s + nI v, fa, nI 0, by rw [if_pos h1, pm_14, pm_s14, pu_lt], fun z => ⟨?_, rfl⟩⟩
                rw [sm, if_neg (fun z1 => h0 ((hi z).mp z1)), if_neg c0.2]
              · have c0 : pg_c t p = 108 := Classical.byContradiction (fun z => h1 (by rw [hx0.mpr ⟨hc, z⟩]))
                refine ⟨s + -nI v, fa, nI 0, by rw [if_neg h1, pm_14, pm_s14, pu_lt], fun z => ⟨?_, rfl⟩⟩
                rw [sm, if_neg (fun z1 => h0 ((hi z).mp z1)), if_pos c0]
          · rw [if_neg h32] at ecl
            have := bad p2 (nI v) no.2 ecl
            rw [pm_takes (Cu s fa) no.2 false K (by decide), if_neg (fun z => absurd z.1 (by decide))] at this
            rw [pm_takes (Cu s fa) no.2 true K (by decide), if_neg (fun z => h32 z.2)]
            exact this
  rcases pg_nb3 (pg_c t p) with ⟨c, e⟩ | ⟨c1, c, e⟩ | ⟨c1, c2, c, e⟩ | ⟨c1, c2, c3, e⟩
  · rw [e, if_neg (by decide)]
    exact main 2 (by decide) e (by unfold pg_lead; rw [if_pos c]; rfl) ⟨fun _ => c, fun _ => rfl⟩ ⟨fun z => absurd z (by decide), fun z => absurd c z.1⟩
  · rw [e, if_neg (by decide)]
    exact main 1 (by decide) e (by unfold pg_lead; rw [if_neg c1, if_pos c]; rfl) ⟨fun z => absurd z (by decide), fun z => absurd z c1⟩ ⟨fun z => absurd z (by decide), fun z => absurd c z.2⟩
  · rw [e, if_neg (by decide)]
    exact main 0 (by decide) e (by unfold pg_lead; rw [if_neg c1, if_neg c2]; rfl) ⟨fun z => absurd z (by decide), fun z => absurd z c1⟩ ⟨fun _ => ⟨c1, c2⟩, fun _ => rfl⟩
  · rw [e, if_pos rfl, pm_s12, pu_lt]
    have ecl : pg_clause t p = (false, p, none) := by
      have e1 : pg_word t (pg_lead t p) p = (false, p) := by
        unfold pg_lead
        rw [if_neg c1, if_neg c2]
        exact if_neg c3
      show (if (pg_word t (pg_lead t p) p).1 = true then _ else _) = _
      rw [e1]
      exact if_neg (show ¬ (false = true) by decide)
    unfold pm_G
    rw [ecl]
    exact ⟨s, fa, K, rfl, fun z => Bool.noConfusion z⟩
theorem pg_clause_le (t : pg_T) {p : Nat} (hp : p ≤ t.2) : p ≤ (pg_clause t p).2.1 ∧ (pg_clause t p).2.1 ≤ t.2 := by
  have hle := pg_wd_le t (pg_lead t p) true p (pg_lead_ne t p) hp
  rw [show pg_wd t true (pg_lead t p) p = pg_word t (pg_lead t p) p from if_pos rfl] at hle
  have no := pg_num_ok t hle.2
  show p ≤ (if _ then if _ then if _ then _ else if _ then _ else _ else _ else _ : pg_C).2.1 ∧ (if _ then if _ then if _ then _ else if _ then _ else _ else _ else _ : pg_C).2.1 ≤ t.2
  by_cases h1 : (pg_word t (pg_lead t p) p).1 = true
  · rw [if_pos h1]
    by_cases h2 : (pg_num t (pg_word t (pg_lead t p) p).2).1 = true
    · rw [if_pos h2]
      by_cases h3 : pg_c t p = 121
      · rw [if_pos h3]
        exact ⟨Nat.le_trans hle.1 no.1, no.2⟩
      · rw [if_neg h3]
        by_cases h4 : pg_c t (pg_num t (pg_word t (pg_lead t p) p).2).2.1 = 32
        · rw [if_pos h4]
          have l := pg_cl h4 (by decide)
          have o := pg_any_ok (pg_part_ok t 4) _ l
          have o1 := o.1
          have n1 := no.1
          have h0 := hle.1
          exact ⟨Nat.le_trans (Nat.le_trans (Nat.le_trans h0 n1) (Nat.le_succ _)) o1, o.2.1⟩
        · rw [if_neg h4]
          exact ⟨Nat.le_trans hle.1 no.1, no.2⟩
    · rw [if_neg h2]
      exact ⟨Nat.le_trans hle.1 no.1, no.2⟩
  · rw [if_neg h1]
    exact hle
theorem pm_cls {t : pg_T} {w : xw_M} {f : Nat → Int32} (C : pm_C t w) (D : pm_D w) (hf : ∀ k, k < 6 → w.1 127 k = f k) {n : Nat} (hn : 2000 ≤ n) : ∀ e, e ≤ 9 → ∀ m, e < m → ∀ (r : Bool × Nat) (s : Int32) (fa : Nat) (K : Int32), r.2 ≤ t.2 → ∃ (s' : Int32) (fa' : Nat) (K' : Int32), xw_it (fun z => fX8_readAll_b27 n z.1 z.2) m (nI (10 - e), pm_w (pm_u w s fa) r.2 r.1 K) = some (pm_w (pm_u w s' fa') (pg_re t e r).2.1 (pg_re t e r).1 K') ∧ ((pg_re t e r).1 = true → s' = pg_sm f (pg_re t e r).2.2 s ∧ fa' = pg_fall (pg_re t e r).2.2 fa) := by
  intro e
  induction e with
  | zero =>
    intro _ m hm r s fa K hr
    obtain ⟨m', rfl⟩ : ∃ m', m = m' + 1 := ⟨m - 1, by omega⟩
    have e : pg_re t 0 r = (r.1, r.2, []) := if_neg (fun z => absurd rfl z.2.1)
    rw [e]
    refine ⟨s, fa, K, pu_it1 _ ?_, fun _ => ⟨rfl, rfl⟩⟩
    show fX8_readAll_b27 n (nI 10) _ = _
    unfold fX8_readAll_b27
    rw [if_pos (show (10 : Int32) ≤ nI 10 by decide)]
  | succ e ih =>
    intro he m hm r s fa K hr
    obtain ⟨m', rfl⟩ : ∃ m', m = m' + 1 := ⟨m - 1, by omega⟩
    have nx : ¬ (10 : Int32) ≤ nI (10 - (e + 1)) := nI_ge (b := 10) (by omega) (by decide)
    by_cases h : r.1 = true ∧ pg_c t r.2 = 59
    · have l := pg_cl h.2 (by decide)
      have er : pg_re t (e + 1) r = pg_cls t (e + 1) (r.2 + 1) := if_pos ⟨h.1, by omega, h.2⟩
      obtain ⟨s1, fa1, K1, e1, v1⟩ := pm_clause C D hf hn l K s fa
      have cl := pg_clause_le t l
      obtain ⟨s2, fa2, K2, e2, v2⟩ := ih (by omega) m' (by omega) ((pg_clause t (r.2 + 1)).1, (pg_clause t (r.2 + 1)).2.1) s1 fa1 K1 cl.2
      have step : fX8_readAll_b27 n (nI (10 - (e + 1))) (pm_w (pm_u w s fa) r.2 r.1 K) = some (.inl (nI (10 - e), pm_w (pm_u w s1 fa1) (pg_clause t (r.2 + 1)).2.1 (pg_clause t (r.2 + 1)).1 K1)) := by
        unfold fX8_readAll_b27
        rw [if_neg nx, show (59 : Int32) = nI 59 from rfl, pm_isAt (pm_C_u C s fa) hr _ K (by decide), pu_bp, pu_biT h, if_neg (by decide), pm_11, nI_1, pm_s11, pu_lt, h.1, e1, pu_b, pu_lt, nI_1, show 10 - (e + 1) + 1 = 10 - e by omega]
      rw [er, pg_cls_un]
      refine ⟨s2, fa2, K2, (pu_it0 (fun z => fX8_readAll_b27 n z.1 z.2) (a := (nI (10 - (e + 1)), pm_w (pm_u w s fa) r.2 r.1 K)) step).trans e2, fun z => ?_⟩
      have c1 : (pg_clause t (r.2 + 1)).1 = true := by
        refine Classical.byContradiction (fun q => ?_)
        have : pg_re t e ((pg_clause t (r.2 + 1)).1, (pg_clause t (r.2 + 1)).2.1) = ((pg_clause t (r.2 + 1)).1, (pg_clause t (r.2 + 1)).2.1, []) := if_neg (fun z => q z.1)
        rw [this] at z
        exact q z
      obtain ⟨a1, a2⟩ := v1 c1
      obtain ⟨b1, b2⟩ := v2 z
      rw [b1, b2, a1, a2, pg_sm_app, pg_fall_app]
      exact ⟨rfl, rfl⟩
    · have er : pg_re t (e + 1) r = (r.1, r.2, []) := if_neg (fun z => h ⟨z.1, z.2.2⟩)
      rw [er]
      refine ⟨s, fa, K, pu_it1 _ ?_, fun _ => ⟨rfl, rfl⟩⟩
      show fX8_readAll_b27 n (nI (10 - (e + 1))) _ = _
      unfold fX8_readAll_b27
      rw [if_neg nx, show (59 : Int32) = nI 59 from rfl, pm_isAt (pm_C_u C s fa) hr _ K (by decide), pu_bp, pu_biF h, if_pos rfl]
theorem pm_start (w : xw_M) : xw_si (xw_si (xw_si (xw_si w 119 11 0) 119 12 1) 119 14 20) 119 15 2 = pm_w (pm_u w 20 2) 0 true (w.1 119 13) := by
  refine pu_ext (fun k => ?_) (fun k => rfl)
  unfold pm_w pm_u
  rw [show pu_bi (true = true) = 1 from rfl, show (nI 0 : Int32) = 0 from rfl, show (nI 2 : Int32) = 2 from rfl]
  by_cases h : k = 119
  · subst h
    simp only [pu_si1]
    funext j
    by_cases a : j = 13
    · subst a; simp [upd]
    · by_cases b : j = 11
      · subst b; simp [upd]
      · by_cases c : j = 12
        · subst c; simp [upd]
        · simp [upd, a, b, c]
  · simp only [pu_si0 _ _ _ h]
theorem pm_readAll {t : pg_T} {w : xw_M} {f : Nat → Int32} (C : pm_C t w) (D : pm_D w) (hf : ∀ k, k < 6 → w.1 127 k = f k) {n : Nat} (hn : 2000 ≤ n) : ∃ (s : Int32) (fa : Nat) (ok : Bool) (K : Int32), fX8_readAll n w = some (pu_bi ((pg_all t).1 = true), pm_w (pm_u w s fa) (pg_all t).2.1 ok K) ∧ ((pg_all t).1 = true → s = pg_sm f (pg_all t).2.2 20 ∧ fa = pg_fall (pg_all t).2.2 2) ∧ (pg_all t).2.1 ≤ t.2 := by
  obtain ⟨s1, fa1, K1, e1, v1⟩ := pm_clause C D hf hn (Nat.zero_le t.2) (w.1 119 13) 20 2
  have cl := pg_clause_le t (Nat.zero_le t.2)
  obtain ⟨s2, fa2, K2, e2, v2⟩ := pm_cls C D hf hn 9 (Nat.le_refl _) n (by omega) ((pg_clause t 0).1, (pg_clause t 0).2.1) s1 fa1 K1 cl.2
  have un := pg_cls_un t 9 0
  have ea : pg_all t = ((pg_cls t (9 + 1) 0).1 && decide ((pg_cls t (9 + 1) 0).2.1 = t.2), (pg_cls t (9 + 1) 0).2.1, (pg_cls t (9 + 1) 0).2.2) := rfl
  have rl : ∀ e r, r.2 ≤ t.2 → (pg_re t e r).2.1 ≤ t.2 := by
    intro e
    induction e with
    | zero =>
      intro r hr
      have : pg_re t 0 r = (r.1, r.2, []) := if_neg (fun z => absurd rfl z.2.1)
      rw [this]; exact hr
    | succ e ih =>
      intro r hr
      by_cases h : r.1 = true ∧ e + 1 ≠ 0 ∧ pg_c t r.2 = 59
      · have : pg_re t (e + 1) r = pg_cls t (e + 1) (r.2 + 1) := if_pos h
        rw [this, pg_cls_un]
        exact ih _ (pg_clause_le t (pg_cl h.2.2 (by decide))).2
      · have : pg_re t (e + 1) r = (r.1, r.2, []) := if_neg h
        rw [this]; exact hr
  have rle := rl 9 ((pg_clause t 0).1, (pg_clause t 0).2.1) cl.2
  rw [un] at ea
  refine ⟨s2, fa2, (pg_re t 9 ((pg_clause t 0).1, (pg_clause t 0).2.1)).1, K2, ?_, fun z => ?_, by rw [ea]; exact rle⟩
  · unfold fX8_readAll
    simp only [pu_lt]
    rw [pm_start, e1, pu_b]
    unfold fX8_readAll_27
    rw [show (1 : Int32) = nI (10 - 9) from rfl, e2, pu_bp]
    show fX8_readAll_62 n _ = _
    unfold fX8_readAll_62
    rw [pm_12, pm_11, pm_o _ _ _ _ (by decide) (by decide) (by decide), (pm_C_u C s2 fa2).2.1, ea]
    generalize pg_re t 9 ((pg_clause t 0).1, (pg_clause t 0).2.1) = r at rle ⊢
    obtain ⟨o, p, l⟩ := r
    simp only [] at rle ⊢
    cases o with
    | false => rw [if_pos (pu_biF (by decide)), pu_biF (by simp)]
    | true =>
      rw [if_neg (by rw [pu_biT rfl]; decide)]
      have c1 := C.1
      by_cases h : p = t.2
      · rw [if_pos (by rw [h]), pu_biT (by simpa using h)]
      · rw [if_neg (fun z => h ((nI_eq (by omega) (by omega)).mp z)), pu_biF (by simpa using h)]
  · have z1 : (pg_re t 9 ((pg_clause t 0).1, (pg_clause t 0).2.1)).1 = true := by
      rw [ea] at z
      simp only [Bool.and_eq_true] at z
      exact z.1
    have c1 : (pg_clause t 0).1 = true := by
      refine Classical.byContradiction (fun q => ?_)
      have : pg_re t 9 ((pg_clause t 0).1, (pg_clause t 0).2.1) = ((pg_clause t 0).1, (pg_clause t 0).2.1, []) := if_neg (fun z => q z.1)
      rw [this] at z1
      exact q z1
    obtain ⟨a1, a2⟩ := v1 c1
    obtain ⟨b1, b2⟩ := v2 z1
    rw [ea, b1, b2, a1, a2, pg_sm_app, pg_fall_app]
    exact ⟨rfl, rfl⟩
