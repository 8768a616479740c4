/-! ===== the class reads clauses ===== -/
def pg_al : List pg_Cl → List pg_St
  | [] => []
  | .inl _ :: l => pg_al l
  | .inr (_, st) :: l => st ++ pg_al l
theorem pg_al_len : ∀ l, (pg_al l).length = pg_nS l := by
  intro l
  induction l with
  | nil => rfl
  | cons c l ih =>
    cases c with
    | inl n => exact ih
    | inr c => obtain ⟨n, st⟩ := c; show (st ++ pg_al l).length = st.length + pg_nS l; rw [List.length_append, ih]
theorem pg_al_app : ∀ a b, pg_al (a ++ b) = pg_al a ++ pg_al b := by
  intro a
  induction a with
  | nil => intro b; rfl
  | cons c a ih =>
    intro b
    cases c with
    | inl n => exact ih b
    | inr c => obtain ⟨n, st⟩ := c; show st ++ pg_al (a ++ b) = st ++ pg_al a ++ pg_al b; rw [ih, List.append_assoc]
def pr_E (ad en : Nat → Int32) : List pg_Cl → Nat → Nat → Prop
  | [], _, _ => True
  | .inl _ :: l, c, k => pr_E ad en l c k
  | .inr (n, st) :: l, c, k => ad c = n ∧ en c = nI (k + st.length) ∧ pr_E ad en l (c + 1) (k + st.length)
theorem pr_E_inl {ad en : Nat → Int32} {v : Nat} : ∀ (cl : List pg_Cl) (c k : Nat), pr_E ad en cl c k → pr_E ad en (cl ++ [.inl v]) c k := by
  intro cl
  induction cl with
  | nil => intro c k _; exact trivial
  | cons x cl ih =>
    intro c k h
    cases x with
    | inl n => exact ih c k h
    | inr x => obtain ⟨n, st⟩ := x; exact ⟨h.1, h.2.1, ih _ _ h.2.2⟩
theorem pr_E_inr {ad en : Nat → Int32} {n : Int32} {st : List pg_St} : ∀ (cl : List pg_Cl) (c k : Nat), pr_E ad en cl c k → pr_E (upd ad (c + pg_nE cl) n) (upd en (c + pg_nE cl) (nI (k + pg_nS cl + st.length))) (cl ++ [.inr (n, st)]) c k := by
  intro cl
  induction cl with
  | nil => intro c k _; exact ⟨pk_us, pk_us, trivial⟩
  | cons x cl ih =>
    intro c k h
    cases x with
    | inl v => exact ih c k h
    | inr x =>
      obtain ⟨v, s⟩ := x
      have := ih (c + 1) (k + s.length) h.2.2
      have e1 : c + pg_nE (.inr (v, s) :: cl) = c + 1 + pg_nE cl := by show c + (pg_nE cl + 1) = _; omega
      have e2 : k + pg_nS (.inr (v, s) :: cl) + st.length = k + s.length + pg_nS cl + st.length := by show k + (s.length + pg_nS cl) + st.length = _; omega
      rw [e1, e2]
      exact ⟨(pk_un (by omega)).trans h.1, (pk_un (by omega)).trans h.2.1, this⟩
theorem pr_rC {m : Nat → Nat → Int32} {b : Nat} : ∀ (cl : List pg_Cl) (c k : Nat), pr_E (m (b + 1)) (m (b + 2)) cl c k → (∀ j (h : j < (pg_al cl).length), m (b + 3) (k + j) = nI ((pg_al cl)[j]).1 ∧ m (b + 4) (k + j) = nI ((pg_al cl)[j]).2.1 ∧ m (b + 5) (k + j) = nI ((pg_al cl)[j]).2.2) → rC (m (b + 1)) (m (b + 2)) (m (b + 3)) (m (b + 4)) (m (b + 5)) cl c k := by
  intro cl
  induction cl with
  | nil => intro c k _ _; exact trivial
  | cons x cl ih =>
    intro c k h T
    cases x with
    | inl v => exact ih c k h T
    | inr x =>
      obtain ⟨v, s⟩ := x
      have T' : ∀ j (h : j < (s ++ pg_al cl).length), m (b + 3) (k + j) = nI ((s ++ pg_al cl)[j]).1 ∧ m (b + 4) (k + j) = nI ((s ++ pg_al cl)[j]).2.1 ∧ m (b + 5) (k + j) = nI ((s ++ pg_al cl)[j]).2.2 := T
      refine ⟨h.1, h.2.1, fun j hj => ?_, ih _ _ h.2.2 (fun j hj => ?_)⟩
      · have := T' j (by rw [List.length_append]; omega)
        rw [List.getElem_append_left hj] at this
        exact this
      · have := T' (s.length + j) (by rw [List.length_append]; omega)
        rw [List.getElem_append_right (by omega)] at this
        simp only [Nat.add_sub_cancel_left] at this
        rw [← Nat.add_assoc] at this
        exact this
/-- where the reader stands between clauses -/
def pr_B (t : pg_T) (b : Nat) (w0 w : xw_M) (p : Nat) : Prop := p ≤ t.2 ∧ (∀ k, k ≠ 49 → (k < b ∨ b + 6 ≤ k) → w.1 k = w0.1 k) ∧ w.2 = w0.2 ∧ w.1 49 1 = nI t.2 ∧ w.1 49 5 = nI b ∧ w.1 49 2 = nI p ∧ w.1 49 3 = pr_sg t p
def pr_A (t : pg_T) (b : Nat) (w0 w : xw_M) (p : Nat) (cl : List pg_Cl) : Prop := pr_B t b w0 w p ∧ pg_nS cl ≤ p ∧ w.1 b 4 = nI (pg_nS cl) ∧ w.1 b 0 = nI (pg_fall cl 2) ∧ w.1 b 1 = nI (pg_nE cl) ∧ pc_T b w.1 0 (pg_al cl) ∧ pr_E (w.1 (b + 1)) (w.1 (b + 2)) cl 0 0
theorem pr_C_B {t : pg_T} {b p : Nat} {w0 w : xw_M} (C : pr_C t b w0) (B : pr_B t b w0 w p) : pr_C t b w := by
  have := C.2.2.1
  have := C.2.2.2.1
  exact ⟨C.1, fun j hj => ⟨(C.2.1 j hj).1, by rw [B.2.1 50 (by decide) (by omega)]; exact (C.2.1 j hj).2⟩, C.2.2.1, C.2.2.2.1, C.2.2.2.2⟩
theorem pr_B_S {t : pg_T} {b p L : Nat} {w0 w w' : xw_M} {q : Nat} (B : pr_B t b w0 w p) (S : pr_S t b w w' q L) (hb : 71 ≤ b) : pr_B t b w0 w' q := ⟨S.1, fun k h1 h2 => (S.2.2.1 k h1 (by omega) (by omega) (by omega) (by omega)).trans (B.2.1 k h1 h2), S.2.2.2.1.trans B.2.2.1, S.2.2.2.2.2.1, S.2.2.2.2.2.2.1, S.2.2.2.2.2.2.2.1, S.2.2.2.2.2.2.2.2.1⟩
theorem pr_endc {t : pg_T} {b p L E : Nat} {w0 w w' : xw_M} {q : Nat} (hb : 71 ≤ b) (B : pr_B t b w0 w p) (S : pr_S t b w w' q L) (hE : E ≤ 9) (h1 : w.1 b 1 = nI E) (v : Int32) : ∃ u, fX2_endClause b v w' = some ((), u) ∧ pr_B t b w0 u q ∧ u.1 b 4 = nI L ∧ u.1 b 0 = w.1 b 0 ∧ u.1 b 1 = nI (E + 1) ∧ u.1 (b + 1) = upd (w.1 (b + 1)) E v ∧ u.1 (b + 2) = upd (w.1 (b + 2)) E (nI L) ∧ u.1 (b + 3) = w'.1 (b + 3) ∧ u.1 (b + 4) = w'.1 (b + 4) ∧ u.1 (b + 5) = w'.1 (b + 5) := by
  obtain ⟨s1, s2, s3, s4, s5, s6, s7, s8, s9, s10⟩ := id S
  have e1 : w'.1 b 1 = nI E := (s5 1 (by decide)).trans h1
  obtain ⟨u, hu⟩ : ∃ u, u = xw_si (xw_si (xw_si w' (b + 1) E v) (b + 2) E (nI L)) b 1 (nI (E + 1)) := ⟨_, rfl⟩
  have f : ∀ k, k ≠ b → k ≠ b + 1 → k ≠ b + 2 → u.1 k = w'.1 k := fun k k1 k2 k3 => by rw [hu, pu_si0 _ _ _ k1, pu_si0 _ _ _ k3, pu_si0 _ _ _ k2]
  have fb : u.1 b = upd (w'.1 b) 1 (nI (E + 1)) := by rw [hu, pu_si1, pu_si0 _ _ _ (by omega), pu_si0 _ _ _ (by omega)]
  have B' := pr_B_S B S hb
  have f50 : u.1 49 = w'.1 49 := f 49 (by omega) (by omega) (by omega)
  refine ⟨u, ?_, ⟨s1, fun k k1 k2 => (f k (by omega) (by omega) (by omega)).trans (B'.2.1 k k1 k2), by rw [hu]; exact B'.2.2.1, by rw [f50]; exact s6, by rw [f50]; exact s7, by rw [f50]; exact s8, by rw [f50]; exact s9⟩, by rw [fb, pk_un (by decide)]; exact s10, by rw [fb, pk_un (by decide)]; exact s5 0 (by decide), by rw [fb, pk_us], ?_, ?_, f _ (by omega) (by omega) (by omega), f _ (by omega) (by omega) (by omega), f _ (by omega) (by omega) (by omega)⟩
  · unfold fX2_endClause
    rw [e1, pu_put _ _ (show E < 10 by omega) (by decide), pu_b, pu_si0 _ _ _ (show b ≠ b + 1 by omega), e1, s10, pu_put _ _ (show E < 10 by omega) (by decide), pu_b, pu_si0 _ _ _ (show b ≠ b + 2 by omega), pu_si0 _ _ _ (show b ≠ b + 1 by omega), e1, nI_1, pu_lt, ← hu]
  · rw [hu, pu_si0 _ _ _ (by omega), pu_si0 _ _ _ (by omega), pu_si1, s3 (b + 1) (by omega) (by omega) (by omega) (by omega) (by omega)]
  · rw [hu, pu_si0 _ _ _ (by omega), pu_si1, pu_si0 _ _ _ (by omega), s3 (b + 2) (by omega) (by omega) (by omega) (by omega) (by omega)]
theorem pr_clause {t : pg_T} {b n p : Nat} {w0 w : xw_M} {cl : List pg_Cl} (hn : 2000 ≤ n) (C0 : pr_C t b w0) (A : pr_A t b w0 w p cl) (hE : pg_nE cl ≤ 9) : ∃ w', fX3_readClause n w = some (pu_bi ((pg_clause t p).1 = true), w') ∧ pr_B t b w0 w' (pg_clause t p).2.1 ∧ ((pg_clause t p).1 = true → pr_A t b w0 w' (pg_clause t p).2.1 (cl ++ (pg_clause t p).2.2.toList)) := by
  obtain ⟨B, a1, a2, a3, a4, a5, a6⟩ := A
  have C := pr_C_B C0 B
  have hb := C.2.2.1
  have hpa := C.2.2.2.2
  have h128 := fun j hj => (C.2.1 j hj).1
  have s9 : w.1 49 3 = pr_sg t p := B.2.2.2.2.2.2
  have S : pr_S t b w w p (pg_nS cl) := ⟨B.1, a1, fun _ _ _ _ _ _ => rfl, rfl, fun _ _ => rfl, B.2.2.2.1, B.2.2.2.2.1, B.2.2.2.2.2.1, s9, a2⟩
  have main : ∀ (k : Nat) (x1 x2 : Int32), k < 3 → (pr_W k).length = 5 → pg_lead t p = pr_l k 0 5 → (x1 = 0 ↔ ¬ pg_c t p = 121) → (x2 = 0 ↔ ¬ pg_c t p = 108) → ∃ w', fX3_readClause_51 n x1 x2 k w = some (pu_bi ((pg_clause t p).1 = true), w') ∧ pr_B t b w0 w' (pg_clause t p).2.1 ∧ ((pg_clause t p).1 = true → pr_A t b w0 w' (pg_clause t p).2.1 (cl ++ (pg_clause t p).2.2.toList)) := by
    intro k x1 x2 hk hkl hl hx1 hx2
    obtain ⟨w1, e1, S1, f1, -⟩ := pr_rdw (k := k) (e := 5) hn C (by omega) hkl S
    rw [← hl] at e1 S1
    have ecl : pg_clause t p = (if (pg_word t (pg_lead t p) p).1 = true then if (pg_num t (pg_word t (pg_lead t p) p).2).1 = true then if pg_c t p = 121 then (true, (pg_num t (pg_word t (pg_lead t p) p).2).2.1, some (.inl (pg_num t (pg_word t (pg_lead t p) p).2).2.2)) else if pg_c t (pg_num t (pg_word t (pg_lead t p) p).2).2.1 = 32 then ((pg_any t (pg_part t 4) ((pg_num t (pg_word t (pg_lead t p) p).2).2.1 + 1)).1, (pg_any t (pg_part t 4) ((pg_num t (pg_word t (pg_lead t p) p).2).2.1 + 1)).2.1, some (.inr (if pg_c t p = 108 then -nI (pg_num t (pg_word t (pg_lead t p) p).2).2.2 else nI (pg_num t (pg_word t (pg_lead t p) p).2).2.2, (pg_any t (pg_part t 4) ((pg_num t (pg_word t (pg_lead t p) p).2).2.1 + 1)).2.2))) else (false, (pg_num t (pg_word t (pg_lead t p) p).2).2.1, none) else (false, (pg_num t (pg_word t (pg_lead t p) p).2).2.1, none) else (false, (pg_word t (pg_lead t p) p).2, none)) := rfl
    unfold fX3_readClause_51
    rw [e1, pu_b]
    generalize pg_word t (pg_lead t p) p = wd at S1 ecl ⊢
    obtain ⟨o1, p1⟩ := wd
    simp only [] at S1 ecl ⊢
    cases o1 with
    | false =>
      rw [if_neg (show ¬ (false = true) by decide)] at ecl
      rw [pu_biF (show ¬ (false = true) by decide), if_pos (show (0 : Int32) = 0 from rfl), ecl]
      exact ⟨w1, rfl, pr_B_S B S1 hb, fun z => Bool.noConfusion z⟩
    | true =>
      rw [if_pos (show true = true from rfl)] at ecl
      obtain ⟨w2, e2, S2, f2, m2⟩ := pr_num C S1
      rw [pu_biT (show true = true from rfl), if_neg (show ¬ (1 : Int32) = 0 by decide), e2, pu_b]
      generalize pg_num t p1 = nm at S2 m2 ecl ⊢
      obtain ⟨o2, p2, v⟩ := nm
      simp only [] at S2 m2 ecl ⊢
      have g : ∀ q, q ≠ 49 → w2.1 q = w.1 q := fun q hq => (f2 q hq).trans (f1 q hq)
      cases o2 with
      | false =>
        rw [if_neg (show ¬ (false = true) by decide)] at ecl
        rw [pu_biF (show ¬ (false = true) by decide), if_pos (show (0 : Int32) = 0 from rfl), ecl]
        exact ⟨w2, rfl, pr_B_S B S2 hb, fun z => Bool.noConfusion z⟩
      | true =>
        rw [if_pos (show true = true from rfl)] at ecl
        rw [pu_biT (show true = true from rfl), if_neg (show ¬ (1 : Int32) = 0 by decide)]
        have mv : w2.1 49 4 = nI v := m2 rfl
        by_cases c121 : pg_c t p = 121
        · rw [if_pos c121] at ecl
          rw [if_neg (fun z => hx1.mp z c121), pr_pa C S2, pu_ccT hpa, pu_lt, mv, ecl]
          have B2 := pr_B_S B S2 hb
          have f50 : (xw_si w2 b 0 (nI v)).1 49 = w2.1 49 := pu_si0 _ _ _ (by omega)
          refine ⟨xw_si w2 b 0 (nI v), rfl, ?_, fun _ => ?_⟩
          · exact ⟨B2.1, fun k h1 h2 => by rw [pu_si0 _ _ _ (by omega)]; exact B2.2.1 k h1 h2, B2.2.2.1, by rw [f50]; exact B2.2.2.2.1, by rw [f50]; exact B2.2.2.2.2.1, by rw [f50]; exact B2.2.2.2.2.2.1, by rw [f50]; exact B2.2.2.2.2.2.2⟩
          · have el : (some (Sum.inl v : pg_Cl)).toList = [Sum.inl v] := rfl
            refine ⟨⟨B2.1, fun k h1 h2 => by rw [pu_si0 _ _ _ (by omega)]; exact B2.2.1 k h1 h2, B2.2.2.1, by rw [f50]; exact B2.2.2.2.1, by rw [f50]; exact B2.2.2.2.2.1, by rw [f50]; exact B2.2.2.2.2.2.1, by rw [f50]; exact B2.2.2.2.2.2.2⟩, ?_, ?_, ?_, ?_, ?_, ?_⟩
            · rw [el, pg_nS_app]; exact S2.2.1
            · rw [el, pg_nS_app, pu_si1, pk_un (by decide), g b (by omega)]; exact a2
            · rw [el, pg_fall_app, pu_si1, pk_us]; rfl
            · rw [el, pg_nE_app, pu_si1, pk_un (by decide), g b (by omega)]; exact a4
            · rw [el, pg_al_app]
              show pc_T b _ 0 (pg_al cl ++ [])
              rw [List.append_nil]
              exact pc_T_cong (by rw [pu_si0 _ _ _ (by omega), g _ (by omega)]) (by rw [pu_si0 _ _ _ (by omega), g _ (by omega)]) (by rw [pu_si0 _ _ _ (by omega), g _ (by omega)]) a5
            · rw [el, pu_si0 _ _ _ (by omega), pu_si0 _ _ _ (by omega), g _ (by omega), g _ (by omega)]
              exact pr_E_inl cl 0 0 a6
        · rw [if_neg c121] at ecl
          rw [if_pos (hx1.mpr c121), mv]
          obtain ⟨x, hx, ex⟩ : ∃ x : Int32, x = (if pg_c t p = 108 then -nI v else nI v) ∧ (if x2 = 0 then fX3_readClause_99 n (nI v) w2 else fX3_readClause_99 n (-(nI v)) w2) = fX3_readClause_99 n x w2 := by
            by_cases c108 : pg_c t p = 108
            · exact ⟨_, rfl, by rw [if_neg (fun z => hx2.mp z c108), if_pos c108]⟩
            · exact ⟨_, rfl, by rw [if_pos (hx2.mpr c108), if_neg c108]⟩
          rw [ex]
          rw [← hx] at ecl
          have T2 : pc_T b w2.1 0 (pg_al cl) := pc_T_cong (g _ (by omega)) (g _ (by omega)) (g _ (by omega)) a5
          unfold fX3_readClause_99
          obtain ⟨w3, e3, S3, f3, -⟩ := pr_rdw (k := 3) (e := 1) hn C (by decide) rfl S2
          have ew : pg_word t (pr_l 3 0 1) p2 = if pg_c t p2 = 32 then (true, p2 + 1) else (false, p2) := rfl
          rw [ew] at e3 S3
          by_cases c32 : pg_c t p2 = 32
          · rw [if_pos c32] at e3 S3 ecl
            have e3' : fX3_readWord n 3 w2 = some (1, w3) := e3
            rw [e3', pu_b, if_neg (show ¬ (1 : Int32) = 0 by decide)]
            have T3 : pc_T b w3.1 0 (pg_al cl) := pc_T_cong (f3 _ (by omega)) (f3 _ (by omega)) (f3 _ (by omega)) T2
            obtain ⟨w4, e4, R4⟩ := pr_any hn C (pg_part_ok t 4) (pr_part hn C 4 0 8 rfl (by decide)) w3 (p2 + 1) (pg_al cl) ⟨by show pr_S t b w w3 (p2 + 1) (pg_al cl).length; rw [pg_al_len]; exact S3, fun _ => T3⟩
            rw [show (0 : Int32) = nI 0 from rfl, e4, pu_b, ecl]
            generalize pg_any t (pg_part t 4) (p2 + 1) = r at R4 ⊢
            obtain ⟨S4, T4⟩ := R4
            obtain ⟨u, eu, u1, u2, u3, u4, u5, u6, u7, u8, u9⟩ := pr_endc hb B S4 hE a4 x
            have e122 : ∀ v0 : Int32, (v0 = 0 ∨ v0 = 1) → fX3_readClause_122 n x v0 w4 = some (v0, u) := by
              intro v0 h0
              unfold fX3_readClause_122
              rw [pr_pa C S4, pu_ccT hpa, eu, pu_b, pu_ccT h0]
            refine ⟨u, ?_, u1, fun z => ?_⟩
            · unfold fX3_readClause_121
              by_cases c : r.1 = true
              · rw [pu_biT c, if_neg (show ¬ (1 : Int32) = nI 0 by decide), e122 1 (Or.inr rfl)]
              · rw [pu_biF c, if_pos (show (0 : Int32) = nI 0 from rfl)]
                exact e122 0 (Or.inl rfl)
            · have el : (some (Sum.inr (x, r.2.2) : pg_Cl)).toList = [Sum.inr (x, r.2.2)] := rfl
              have hS4 : (pg_al cl ++ r.2.2).length = pg_nS cl + r.2.2.length := by rw [List.length_append, pg_al_len]
              have en : pg_nS (cl ++ [Sum.inr (x, r.2.2)]) = pg_nS cl + r.2.2.length := by
                rw [pg_nS_app]; show pg_nS cl + (r.2.2.length + 0) = _; omega
              have le4 : (pg_al cl ++ r.2.2).length ≤ r.2.1 := S4.2.1
              have u2' : u.1 b 4 = nI (pg_al cl ++ r.2.2).length := u2
              have u6' : u.1 (b + 2) = upd (w.1 (b + 2)) (pg_nE cl) (nI (pg_al cl ++ r.2.2).length) := u6
              refine ⟨u1, ?_, ?_, ?_, ?_, ?_, ?_⟩
              · rw [el, en]; show _ ≤ r.2.1; omega
              · rw [el, en, u2', hS4]
              · rw [el, pg_fall_app, u3, a3]; rfl
              · rw [el, pg_nE_app, u4]; rfl
              · rw [el, pg_al_app]
                show pc_T b u.1 0 (pg_al cl ++ (r.2.2 ++ []))
                rw [List.append_nil]
                exact pc_T_cong u7 u8 u9 (T4 z)
              · rw [el, u5, u6', hS4]
                have := pr_E_inr (n := x) (st := r.2.2) cl 0 0 a6
                rw [Nat.zero_add, Nat.zero_add] at this
                exact this
          · rw [if_neg c32] at e3 S3 ecl
            have e3' : fX3_readWord n 3 w2 = some (0, w3) := e3
            rw [e3', pu_b, if_pos (show (0 : Int32) = 0 from rfl), ecl]
            obtain ⟨u, eu, u1, -⟩ := pr_endc hb B S3 hE a4 x
            refine ⟨u, ?_, u1, fun z => Bool.noConfusion z⟩
            unfold fX3_readClause_121 fX3_readClause_122
            rw [pr_pa C S3, pu_ccT hpa, eu, pu_b, pu_ccT (Or.inl rfl)]
            rfl
  have g121 : pr_sg t p = (121 : Int32) ↔ pg_c t p = 121 := pr_sgc h128 p (by decide)
  have g108 : pr_sg t p = (108 : Int32) ↔ pg_c t p = 108 := pr_sgc h128 p (by decide)
  unfold fX3_readClause fX3_readClause_14 fX3_readClause_29
  rw [s9]
  by_cases c1 : pg_c t p = 121
  · have n108 : ¬ pg_c t p = 108 := fun z => by rw [c1] at z; exact absurd z (by decide)
    rw [if_pos (g121.mpr c1), if_neg (fun z => n108 (g108.mp z)), if_neg (show ¬ (1 : Int32) = 0 by decide)]
    exact main 0 1 0 (by decide) rfl (by unfold pg_lead; rw [if_pos c1]; rfl) ⟨fun z => absurd z (by decide), fun z => absurd c1 z⟩ ⟨fun _ => n108, fun _ => rfl⟩
  · rw [if_neg (fun z => c1 (g121.mp z))]
    by_cases c2 : pg_c t p = 108
    · rw [if_pos (g108.mpr c2), if_pos (show (0 : Int32) = 0 from rfl), if_neg (show ¬ (1 : Int32) = 0 by decide)]
      exact main 1 0 1 (by decide) rfl (by unfold pg_lead; rw [if_neg c1, if_pos c2]; rfl) ⟨fun _ => c1, fun _ => rfl⟩ ⟨fun z => absurd z (by decide), fun z => absurd c2 z⟩
    · rw [if_neg (fun z => c2 (g108.mp z)), if_pos (show (0 : Int32) = 0 from rfl), if_pos (show (0 : Int32) = 0 from rfl)]
      exact main 2 0 0 (by decide) rfl (by unfold pg_lead; rw [if_neg c1, if_neg c2]; rfl) ⟨fun _ => c1, fun _ => rfl⟩ ⟨fun _ => c2, fun _ => rfl⟩
theorem pr_cls {t : pg_T} {b n : Nat} {w0 : xw_M} {a2 : Nat} (hn : 2000 ≤ n) (C0 : pr_C t b w0) : ∀ e, e ≤ 9 → ∀ m, e < m → ∀ (r : Bool × Nat) (w : xw_M) (cl : List pg_Cl), pr_B t b w0 w r.2 → (r.1 = true → pr_A t b w0 w r.2 cl ∧ pg_nE cl ≤ 10 - e) → ∃ w', xw_it (fun z => fX3_readAll_b28 n a2 z.1 z.2.1 z.2.2) m (pu_bi (r.1 = true), nI (10 - e), w) = some (pu_bi ((pg_re t e r).1 = true), w') ∧ pr_B t b w0 w' (pg_re t e r).2.1 ∧ ((pg_re t e r).1 = true → pr_A t b w0 w' (pg_re t e r).2.1 (cl ++ (pg_re t e r).2.2)) := by
  have h128 := fun j hj => (C0.2.1 j hj).1
  intro e
  induction e with
  | zero =>
    intro _ m hm r w cl B A
    obtain ⟨m, rfl⟩ : ∃ q, m = q + 1 := ⟨m - 1, by omega⟩
    have er : pg_re t 0 r = (r.1, r.2, []) := if_neg (fun z => absurd rfl z.2.1)
    rw [er]
    refine ⟨w, pu_it1 _ ?_, B, fun z => by rw [List.append_nil]; exact (A z).1⟩
    show fX3_readAll_b28 n a2 (pu_bi (r.1 = true)) (nI 10) w = _
    unfold fX3_readAll_b28
    rw [if_pos (show (10 : Int32) ≤ nI 10 by decide)]
  | succ e ih =>
    intro he m hm r w cl B A
    obtain ⟨m, rfl⟩ : ∃ q, m = q + 1 := ⟨m - 1, by omega⟩
    have nx : ¬ (10 : Int32) ≤ nI (10 - (e + 1)) := nI_ge (b := 10) (by omega) (by decide)
    have g59 : pr_sg t r.2 = (59 : Int32) ↔ pg_c t r.2 = 59 := pr_sgc h128 r.2 (by decide)
    have s9 : w.1 49 3 = pr_sg t r.2 := B.2.2.2.2.2.2
    by_cases h : r.1 = true ∧ pg_c t r.2 = 59
    · have hp := pg_cl h.2 (by decide)
      have er : pg_re t (e + 1) r = pg_cls t (e + 1) (r.2 + 1) := if_pos ⟨h.1, by omega, h.2⟩
      obtain ⟨A1, hE⟩ := A h.1
      have C := pr_C_B C0 B
      have hb := C.2.2.1
      have S : pr_S t b w w r.2 (pg_nS cl) := ⟨B.1, A1.2.1, fun _ _ _ _ _ _ => rfl, rfl, fun _ _ => rfl, B.2.2.2.1, B.2.2.2.2.1, B.2.2.2.2.2.1, s9, A1.2.2.1⟩
      obtain ⟨w1, e1, S1, f1, -⟩ := pr_adv C S hp
      have B1 := pr_B_S B S1 hb
      have A1' : pr_A t b w0 w1 (r.2 + 1) cl := by
        obtain ⟨-, d1, d2, d3, d4, d5, d6⟩ := A1
        refine ⟨B1, by omega, by rw [f1 b (by omega)]; exact d2, by rw [f1 b (by omega)]; exact d3, by rw [f1 b (by omega)]; exact d4, pc_T_cong (f1 _ (by omega)) (f1 _ (by omega)) (f1 _ (by omega)) d5, by rw [f1 _ (by omega), f1 _ (by omega)]; exact d6⟩
      obtain ⟨w2, e2, B2, A2⟩ := pr_clause hn C0 A1' (by omega)
      have cn := pg_clause_n t hp
      obtain ⟨w3, e3, B3, A3⟩ := ih (by omega) m (by omega) ((pg_clause t (r.2 + 1)).1, (pg_clause t (r.2 + 1)).2.1) w2 (cl ++ (pg_clause t (r.2 + 1)).2.2.toList) B2 (fun z => ⟨A2 z, by rw [pg_nE_app]; exact Nat.le_trans (Nat.add_le_add hE cn.1) (by omega)⟩)
      have step : fX3_readAll_b28 n a2 (pu_bi (r.1 = true)) (nI (10 - (e + 1))) w = some (.inl (pu_bi ((pg_clause t (r.2 + 1)).1 = true), nI (10 - e), w2)) := by
        unfold fX3_readAll_b28
        rw [if_neg nx, pu_biT h.1, if_neg (show ¬ (1 : Int32) = 0 by decide), s9, if_pos (g59.mpr h.2), e1, pu_b, e2, pu_b, pu_lt, nI_1, show 10 - (e + 1) + 1 = 10 - e by omega]
      rw [er, pg_cls_un]
      refine ⟨w3, (pu_it0 (fun z => fX3_readAll_b28 n a2 z.1 z.2.1 z.2.2) (a := (pu_bi (r.1 = true), nI (10 - (e + 1)), w)) step).trans e3, B3, fun z => ?_⟩
      have := A3 z
      rw [List.append_assoc] at this
      exact this
    · have er : pg_re t (e + 1) r = (r.1, r.2, []) := if_neg (fun z => h ⟨z.1, z.2.2⟩)
      rw [er]
      refine ⟨w, pu_it1 _ ?_, B, fun z => by rw [List.append_nil]; exact (A z).1⟩
      show fX3_readAll_b28 n a2 (pu_bi (r.1 = true)) (nI (10 - (e + 1))) w = _
      unfold fX3_readAll_b28
      rw [if_neg nx]
      by_cases c : r.1 = true
      · rw [pu_biT c, if_neg (show ¬ (1 : Int32) = 0 by decide), s9, if_neg (fun z => h ⟨c, g59.mp z⟩)]
      · rw [pu_biF c, if_pos (show (0 : Int32) = 0 from rfl)]
theorem pr_readAll {t : pg_T} {b n : Nat} {w0 : xw_M} (hn : 2000 ≤ n) (C0 : pr_C t b w0) (hs : w0.1 49 1 = nI t.2) : ∃ w', fX3_readAll n b w0 = some (pu_bi ((pg_all t).1 = true), w') ∧ (∀ k, k ≠ 49 → (k < b ∨ b + 6 ≤ k) → w'.1 k = w0.1 k) ∧ w'.2 = w0.2 ∧ w'.1 49 2 = nI (pg_all t).2.1 ∧ w'.1 49 1 = 0 ∧ ((pg_all t).1 = true → rA w'.1 b (pg_all t).2.2) := by
  have ht := C0.1
  have hb := C0.2.2.1
  have hb2 := C0.2.2.2.1
  have hpa := C0.2.2.2.2
  obtain ⟨u, hu⟩ : ∃ u, u = xw_si (xw_si (xw_si (xw_si (xw_si w0 49 5 (nI b)) b 0 2) b 1 0) b 4 0) 49 2 (-1) := ⟨_, rfl⟩
  have fu : ∀ k, k ≠ 49 → k ≠ b → u.1 k = w0.1 k := fun k h1 h2 => by rw [hu, pu_si0 _ _ _ h1, pu_si0 _ _ _ h2, pu_si0 _ _ _ h2, pu_si0 _ _ _ h2, pu_si0 _ _ _ h1]
  have fb : u.1 b = upd (upd (upd (w0.1 b) 0 2) 1 0) 4 0 := by rw [hu, pu_si0 _ _ _ (by omega), pu_si1, pu_si1, pu_si1, pu_si0 _ _ _ (by omega)]
  have f50 : u.1 49 = upd (upd (w0.1 49) 5 (nI b)) 2 (-1) := by rw [hu, pu_si1, pu_si0 _ _ _ (by omega), pu_si0 _ _ _ (by omega), pu_si0 _ _ _ (by omega), pu_si1]
  have e1 := pr_adv0 (t := t) (u := u) (q := 0) ht (fun j hj => by rw [fu 50 (by decide) (by omega)]; exact (C0.2.1 j hj).2) (by rw [f50, pk_un (by decide), pk_un (by decide)]; exact hs) (by rw [f50, pk_us]; rfl) (by omega)
  obtain ⟨w1, hw1⟩ : ∃ w1, w1 = xw_si (xw_si u 49 2 (nI 0)) 49 3 (pr_sg t 0) := ⟨_, rfl⟩
  rw [← hw1] at e1
  have g : ∀ k, k ≠ 49 → w1.1 k = u.1 k := fun k hk => by rw [hw1, pu_si0 _ _ _ hk, pu_si0 _ _ _ hk]
  have B1 : pr_B t b w0 w1 0 := by
    refine ⟨Nat.zero_le _, fun k h1 h2 => by rw [g k h1, fu k h1 (by omega)], by rw [hw1, hu]; rfl, ?_, ?_, ?_, ?_⟩
    · rw [hw1, pu_si1, pk_un (by decide), pu_si1, pk_un (by decide), f50, pk_un (by decide), pk_un (by decide)]; exact hs
    · rw [hw1, pu_si1, pk_un (by decide), pu_si1, pk_un (by decide), f50, pk_un (by decide), pk_us]
    · rw [hw1, pu_si1, pk_un (by decide), pu_si1, pk_us]
    · rw [hw1, pu_si1, pk_us]
  have A1 : pr_A t b w0 w1 0 [] := by
    refine ⟨B1, Nat.zero_le _, ?_, ?_, ?_, fun j hj => absurd hj (Nat.not_lt_zero j), trivial⟩
    · rw [g b (by omega), fb, pk_us]; rfl
    · rw [g b (by omega), fb, pk_un (by decide), pk_un (by decide), pk_us]; rfl
    · rw [g b (by omega), fb, pk_un (by decide), pk_us]; rfl
  obtain ⟨w2, e2, B2, A2⟩ := pr_clause hn C0 A1 (Nat.zero_le _)
  have cn := pg_clause_n t (Nat.zero_le t.2)
  obtain ⟨w3, e3, B3, A3⟩ := pr_cls (a2 := b) hn C0 9 (Nat.le_refl _) n (by omega) ((pg_clause t 0).1, (pg_clause t 0).2.1) w2 ([] ++ (pg_clause t 0).2.2.toList) B2 (fun z => ⟨A2 z, by rw [List.nil_append]; exact cn.1⟩)
  have ea : pg_all t = ((pg_cls t (9 + 1) 0).1 && decide ((pg_cls t (9 + 1) 0).2.1 = t.2), (pg_cls t (9 + 1) 0).2.1, (pg_cls t (9 + 1) 0).2.2) := rfl
  rw [pg_cls_un] at ea
  refine ⟨xw_si w3 49 1 0, ?_, fun k h1 h2 => by rw [pu_si0 _ _ _ h1]; exact B3.2.1 k h1 h2, B3.2.2.1, by rw [pu_si1, pk_un (by decide), ea]; exact B3.2.2.2.2.2.1, by rw [pu_si1, pk_us], fun z => ?_⟩
  · unfold fX3_readAll fX2_clear
    rw [pu_lt, show (xw_si w0 49 5 (nI b)).1 49 5 = nI b by rw [pu_si1, pk_us], pu_cl (by omega), pu_ccT hpa, pu_lt, pu_lt, pu_lt, pu_b, pu_lt, ← hu, e1, pu_b, e2, pu_b]
    unfold fX3_readAll_28
    rw [show (1 : Int32) = nI (10 - 9) from rfl, e3, pu_bp]
    show fX3_readAll_62 n b _ w3 = _
    unfold fX3_readAll_62
    rw [pu_lt, pu_si1, pk_un (by decide), B3.2.2.2.2.2.2, ea]
    generalize pg_re t 9 ((pg_clause t 0).1, (pg_clause t 0).2.1) = r at B3 ⊢
    have hle := B3.1
    obtain ⟨o, p, l⟩ := r
    simp only [] at hle ⊢
    cases o with
    | false => rw [pu_biF (show ¬ (false = true) by decide), if_pos (show (0 : Int32) = 0 from rfl), pu_biF (by simp)]
    | true =>
      rw [pu_biT (show true = true from rfl), if_neg (show ¬ (1 : Int32) = 0 by decide)]
      unfold pr_sg
      by_cases c : p = t.2
      · rw [if_neg (show ¬ p < t.2 by omega), if_pos rfl, pu_biT (by simpa using c)]
      · have h128 := (C0.2.1 p (by omega)).1
        rw [if_pos (show p < t.2 by omega), if_neg (fun z => pr_neg _ (by omega) z.symm), pu_biF (by simpa using c)]
  · have z1 : (pg_re t 9 ((pg_clause t 0).1, (pg_clause t 0).2.1)).1 = true := by
      rw [ea] at z
      simp only [Bool.and_eq_true] at z
      exact z.1
    obtain ⟨-, -, -, d3, d4, d5, d6⟩ := A3 z1
    rw [List.nil_append] at d3 d4 d5 d6
    refine rA_cong (m := w3.1) (fun k k1 k2 => pu_si0 _ _ _ (by omega)) ?_
    rw [ea]
    exact ⟨d3, d4, pr_rC _ 0 0 d6 (fun j hj => d5 j hj)⟩
