/-! ===== the language: how far a reading goes ===== -/
def pg_ok (t : pg_T) (p : Nat) (r : pg_R) : Prop := p ≤ r.2.1 ∧ r.2.1 ≤ t.2 ∧ r.2.2.length + p ≤ r.2.1
def pg_okF (t : pg_T) (F : Nat → pg_R) : Prop := ∀ p, p ≤ t.2 → pg_ok t p (F p)
theorem pg_cl {t : pg_T} {p c : Nat} (h : pg_c t p = c) (hc : c ≠ 200) : p < t.2 := by
  unfold pg_c at h
  by_cases q : p < t.2
  · exact q
  · rw [if_neg q] at h; exact absurd h.symm hc
theorem pg_dl {t : pg_T} {p : Nat} (h : pg_dig (pg_c t p) = true) : p < t.2 := by
  unfold pg_c at h
  by_cases q : p < t.2
  · exact q
  · rw [if_neg q] at h; exact absurd h (by decide)
theorem pg_wl {t : pg_T} {p : Nat} (h : ¬ pg_what (pg_c t p) = 6) : p < t.2 := by
  unfold pg_c at h
  by_cases q : p < t.2
  · exact q
  · rw [if_neg q] at h; exact absurd (by decide) h
theorem pg_num_ok (t : pg_T) {p : Nat} (h : p ≤ t.2) : p ≤ (pg_num t p).2.1 ∧ (pg_num t p).2.1 ≤ t.2 := by
  unfold pg_num
  by_cases h1 : pg_dig (pg_c t p) = true
  · have a := pg_dl h1
    rw [if_pos h1]
    by_cases h2 : pg_dig (pg_c t (p + 1)) = true
    · have b := pg_dl h2
      rw [if_pos h2]; exact ⟨by show p ≤ p + 2; omega, by show p + 2 ≤ t.2; omega⟩
    · rw [if_neg h2]; exact ⟨by show p ≤ p + 1; omega, a⟩
  · rw [if_neg h1]; exact ⟨Nat.le_refl _, h⟩
theorem pg_test_ok (t : pg_T) : pg_okF t (pg_test t) := by
  intro p hp
  unfold pg_test
  by_cases h : pg_what (pg_c t p) = 6
  · rw [if_pos h]; exact ⟨Nat.le_refl _, hp, by show 0 + p ≤ p; omega⟩
  · have a := pg_wl h
    rw [if_neg h]
    by_cases h2 : pg_c t (p + 1) = 60 ∨ pg_c t (p + 1) = 61 ∨ pg_c t (p + 1) = 62
    · have b : p + 1 < t.2 := by rcases h2 with e | e | e <;> exact pg_cl e (by decide)
      have n := pg_num_ok t (show p + 2 ≤ t.2 by omega)
      rw [if_pos h2]
      exact ⟨by show p ≤ (pg_num t (p + 2)).2.1; omega, n.2, by show 1 + p ≤ (pg_num t (p + 2)).2.1; omega⟩
    · rw [if_neg h2]; exact ⟨by show p ≤ p + 1; omega, by show p + 1 ≤ t.2; omega, by show 0 + p ≤ p + 1; omega⟩
theorem pg_step_ok {t : pg_T} {op p : Nat} {F : Nat → pg_R} (hF : pg_okF t F) {r : pg_R} (h : pg_ok t p r) (l : r.2.1 < t.2) : pg_ok t p ((F (r.2.1 + 1)).1, (F (r.2.1 + 1)).2.1, r.2.2 ++ (F (r.2.1 + 1)).2.2 ++ [(op, 0, 0)]) := by
  have q := hF (r.2.1 + 1) l
  have a := h.1
  have b := h.2.2
  have c := q.1
  have d := q.2.2
  refine ⟨by show p ≤ (F (r.2.1 + 1)).2.1; omega, q.2.1, ?_⟩
  show (r.2.2 ++ (F (r.2.1 + 1)).2.2 ++ [(op, 0, 0)]).length + p ≤ (F (r.2.1 + 1)).2.1
  rw [List.length_append, List.length_append, List.length_singleton]
  omega
theorem pg_join_ok {t : pg_T} {sg op : Nat} {F : Nat → pg_R} (hs : sg ≠ 200) (hF : pg_okF t F) : ∀ f p r, pg_ok t p r → pg_ok t p (pg_join t sg op F f r) := by
  intro f
  induction f with
  | zero => intro p r h; exact h
  | succ f ih =>
    intro p r h
    show pg_ok t p (if _ then _ else r)
    by_cases c : r.1 = true ∧ pg_c t r.2.1 = sg
    · rw [if_pos c]
      exact ih p _ (pg_step_ok hF h (pg_cl c.2 hs))
    · rw [if_neg c]; exact h
theorem pg_join_st {t : pg_T} {sg op : Nat} {F : Nat → pg_R} (hs : sg ≠ 200) (hF : pg_okF t F) : ∀ f f' (r : pg_R), r.2.1 ≤ t.2 → t.2 < f + r.2.1 → t.2 < f' + r.2.1 → pg_join t sg op F f r = pg_join t sg op F f' r := by
  intro f
  induction f with
  | zero => intro f' r h1 h2; omega
  | succ f ih =>
    intro f' r h1 h2 h3
    cases f' with
    | zero => omega
    | succ f' =>
      show (if _ then _ else r) = (if _ then _ else r)
      by_cases c : r.1 = true ∧ pg_c t r.2.1 = sg
      · rw [if_pos c, if_pos c]
        have l := pg_cl c.2 hs
        have q := hF (r.2.1 + 1) l
        have q1 := q.1
        exact ih f' _ q.2.1 (by show t.2 < f + (F (r.2.1 + 1)).2.1; omega) (by show t.2 < f' + (F (r.2.1 + 1)).2.1; omega)
      · rw [if_neg c, if_neg c]
/-- the join as it unfolds: enough fuel is enough -/
theorem pg_join_fx {t : pg_T} {sg op : Nat} {F : Nat → pg_R} (hs : sg ≠ 200) (hF : pg_okF t F) (ht : t.2 ≤ 100) (r : pg_R) (h : r.2.1 ≤ t.2) : pg_join t sg op F 101 r = if r.1 = true ∧ pg_c t r.2.1 = sg then pg_join t sg op F 101 ((F (r.2.1 + 1)).1, (F (r.2.1 + 1)).2.1, r.2.2 ++ (F (r.2.1 + 1)).2.2 ++ [(op, 0, 0)]) else r := by
  rw [pg_join_st hs hF 101 (101 + 1) r h (by omega) (by omega)]
  rfl
theorem pg_both_ok {t : pg_T} {F : Nat → pg_R} (hF : pg_okF t F) : pg_okF t (pg_both t F) := fun p hp => pg_join_ok (by decide) hF 101 p _ (hF p hp)
theorem pg_any_ok {t : pg_T} {F : Nat → pg_R} (hF : pg_okF t F) : pg_okF t (pg_any t F) := fun p hp => pg_join_ok (by decide) (pg_both_ok hF) 101 p _ (pg_both_ok hF p hp)
theorem pg_part_ok (t : pg_T) : ∀ k, pg_okF t (pg_part t k) := by
  intro k
  induction k with
  | zero =>
    intro p hp
    show pg_ok t p (if _ then _ else _)
    by_cases h : pg_c t p = 33 ∨ pg_c t p = 40
    · rw [if_pos h]; exact ⟨Nat.le_refl _, hp, by show 0 + p ≤ p; omega⟩
    · rw [if_neg h]; exact pg_test_ok t p hp
  | succ k ih =>
    intro p hp
    show pg_ok t p (if _ then _ else if _ then (if _ then _ else _) else _)
    by_cases h : pg_c t p = 33
    · rw [if_pos h]
      have q := ih (p + 1) (pg_cl h (by decide))
      have a := q.1
      have b := q.2.2
      refine ⟨by show p ≤ (pg_part t k (p + 1)).2.1; omega, q.2.1, ?_⟩
      show ((pg_part t k (p + 1)).2.2 ++ [(6, 0, 0)]).length + p ≤ (pg_part t k (p + 1)).2.1
      rw [List.length_append, List.length_singleton]
      omega
    · rw [if_neg h]
      by_cases h2 : pg_c t p = 40
      · rw [if_pos h2]
        have q := pg_any_ok ih (p + 1) (pg_cl h2 (by decide))
        have a := q.1
        have b := q.2.2
        by_cases h3 : (pg_any t (pg_part t k) (p + 1)).1 = true ∧ pg_c t (pg_any t (pg_part t k) (p + 1)).2.1 = 41
        · rw [if_pos h3]
          have c := pg_cl h3.2 (by decide)
          exact ⟨by show p ≤ (pg_any t (pg_part t k) (p + 1)).2.1 + 1; omega, c, by show (pg_any t (pg_part t k) (p + 1)).2.2.length + p ≤ (pg_any t (pg_part t k) (p + 1)).2.1 + 1; omega⟩
        · rw [if_neg h3]
          exact ⟨by show p ≤ (pg_any t (pg_part t k) (p + 1)).2.1; omega, q.2.1, by show (pg_any t (pg_part t k) (p + 1)).2.2.length + p ≤ (pg_any t (pg_part t k) (p + 1)).2.1; omega⟩
      · rw [if_neg h2]; exact pg_test_ok t p hp
/-! what steps do with truths that wait -/
def pg_f6 (f : Nat → Int32) (a : Int32) : Int32 := if a < 0 then 0 else if nI 6 ≤ a then 0 else f a.toNatClampNeg
def pg_ps (a0 a1 a2 : Int32) : Prop := if a1 = 60 then a0 < a2 else if a1 = 62 then a2 < a0 else a0 = a2
def pg_pb (a0 a1 a2 : Int32) : Int32 := if a1 = 60 then pu_bi (a0 < a2) else if a1 = 62 then pu_bi (a2 < a0) else pu_bi (a0 = a2)
theorem pg_passes (a0 a1 a2 : Int32) : fX2_passes a0 a1 a2 = some (pg_pb a0 a1 a2) := by
  unfold fX2_passes pg_pb
  by_cases h : a1 = 60
  · rw [if_pos h, if_pos h]
    by_cases q : a2 ≤ a0
    · rw [if_pos q, pu_biF (pu_nlt.mpr q)]
    · rw [if_neg q, pu_biT (pu_nle.mp q)]
  · rw [if_neg h, if_neg h]
    by_cases h2 : a1 = 62
    · rw [if_pos h2, if_pos h2]
      by_cases q : a0 ≤ a2
      · rw [if_pos q, pu_biF (pu_nlt.mpr q)]
      · rw [if_neg q, pu_biT (pu_nle.mp q)]
    · rw [if_neg h2, if_neg h2]
      by_cases q : a0 = a2
      · rw [if_pos q, pu_biT q]
      · rw [if_neg q, pu_biF q]
theorem pg_pb01 (a0 a1 a2 : Int32) : pg_pb a0 a1 a2 = 0 ∨ pg_pb a0 a1 a2 = 1 := by
  unfold pg_pb
  by_cases h : a1 = 60
  · rw [if_pos h]; exact pu_bi01
  · rw [if_neg h]
    by_cases h2 : a1 = 62
    · rw [if_pos h2]; exact pu_bi01
    · rw [if_neg h2]; exact pu_bi01
def pg_rs (f : Nat → Int32) (s : pg_St) (T : Int32) : Int32 := if nI s.1 = 6 then T ^^^ 1 else if nI s.1 = 7 then (T >>> ((1 : Int32) &&& 31)) &&& ((T &&& 1) ||| (-2 : Int32)) else if nI s.1 = 8 then (T >>> ((1 : Int32) &&& 31)) ||| (T &&& 1) else (T <<< ((1 : Int32) &&& 31)) ||| pg_pb (pg_f6 f (nI s.1)) (nI s.2.1) (nI s.2.2)
def pg_ri (f : Nat → Int32) : List pg_St → Int32 → Int32
  | [], T => T
  | s :: l, T => pg_ri f l (pg_rs f s T)
theorem pg_ri_app (f : Nat → Int32) (a b : List pg_St) (T : Int32) : pg_ri f (a ++ b) T = pg_ri f b (pg_ri f a T) := by
  induction a generalizing T with
  | nil => rfl
  | cons s a ih => exact ih _
theorem pg_lo (b : Bool) (τ : Nat) : (2 * τ + b.toNat) % 2 = b.toNat ∧ (2 * τ + b.toNat) / 2 = τ := by cases b <;> simp <;> omega
theorem pg_bv {x y : Int32} (h : ∀ i, i < 32 → x.toBitVec.getLsbD i = y.toBitVec.getLsbD i) : x = y := Int32.toBitVec_inj.mp (BitVec.eq_of_getLsbD_eq (fun i hi => h i hi))
theorem pg_nIb {n : Nat} (hn : n < 2 ^ 31) (i : Nat) : (nI n).toBitVec.getLsbD i = n.testBit i := by
  rw [BitVec.getLsbD, pk_tn (by omega)]
theorem pg_nIor {a b : Nat} (ha : a < 2 ^ 31) (hb : b < 2 ^ 31) : nI a ||| nI b = nI (a ||| b) := by
  refine pg_bv (fun i hi => ?_)
  rw [Int32.toBitVec_or, BitVec.getLsbD_or, pg_nIb ha, pg_nIb hb, pg_nIb (Nat.or_lt_two_pow ha hb), Nat.testBit_or]
theorem pg_nIxor {a b : Nat} (ha : a < 2 ^ 31) (hb : b < 2 ^ 31) : nI a ^^^ nI b = nI (a ^^^ b) := by
  refine pg_bv (fun i hi => ?_)
  rw [Int32.toBitVec_xor, BitVec.getLsbD_xor, pg_nIb ha, pg_nIb hb, pg_nIb (Nat.xor_lt_two_pow ha hb), Nat.testBit_xor]
theorem pg_nIand {a b : Nat} (ha : a < 2 ^ 31) (hb : b < 2 ^ 31) : nI a &&& nI b = nI (a &&& b) := by
  refine pg_bv (fun i hi => ?_)
  rw [Int32.toBitVec_and, BitVec.getLsbD_and, pg_nIb ha, pg_nIb hb, pg_nIb (Nat.and_lt_two_pow a hb), Nat.testBit_and]
theorem pg_half {n : Nat} (h : n < 2 ^ 31) : nI n >>> ((1 : Int32) &&& 31) = nI (n / 2) := pk_shrN h _ 1 (by decide)
theorem pg_low {n : Nat} (h : n < 2 ^ 31) : nI n &&& (1 : Int32) = nI (n % 2) := pk_andN (by omega) 1 (by decide)
theorem pg_dbl {n : Nat} (h : n < 2 ^ 30) : nI n <<< ((1 : Int32) &&& 31) = nI (2 * n) := by
  rw [pk_shlN _ 1 (by decide) (by omega)]
  congr 1
  omega
/-- a truth on top of others -/
def pg_tp (τ : Nat) (b : Bool) : Nat := 2 * τ + b.toNat
theorem pg_tp_lt {τ k : Nat} (b : Bool) (h : τ < 2 ^ k) : pg_tp τ b < 2 ^ (k + 1) := by
  unfold pg_tp
  rw [Nat.pow_succ]
  cases b <;> simp <;> omega
theorem pg_or1 {n : Nat} (h : n < 2 ^ 30) (b : Bool) : nI (2 * n) ||| nI b.toNat = nI (pg_tp n b) := by
  rw [pg_nIor (by omega) (by cases b <;> decide)]
  congr 1
  unfold pg_tp
  have := Nat.two_pow_add_eq_or_of_lt (i := 1) (b := b.toNat) (by cases b <;> decide) n
  rw [show 2 ^ 1 = 2 from rfl] at this
  exact this.symm
theorem pg_not1 {τ : Nat} (h : τ < 2 ^ 30) (b : Bool) : nI (pg_tp τ b) ^^^ (1 : Int32) = nI (pg_tp τ (!b)) := by
  rw [show (1 : Int32) = nI 1 from rfl, pg_nIxor (by have := pg_tp_lt b h; omega) (by decide)]
  congr 1
  refine Nat.eq_of_testBit_eq (fun i => ?_)
  rw [Nat.testBit_xor]
  unfold pg_tp
  cases i with
  | zero => cases b <;> simp [Nat.testBit_zero] <;> omega
  | succ i =>
    rw [Nat.testBit_succ, Nat.testBit_succ, Nat.testBit_succ, (pg_lo b τ).2, (pg_lo (!b) τ).2, show (1 : Nat) / 2 = 0 from rfl, Nat.zero_testBit, Bool.xor_false]
theorem pg_and1 {τ : Nat} (h : τ < 2 ^ 29) (a b : Bool) : (nI (pg_tp (pg_tp τ a) b) >>> ((1 : Int32) &&& 31)) &&& ((nI (pg_tp (pg_tp τ a) b) &&& 1) ||| (-2 : Int32)) = nI (pg_tp τ (a && b)) := by
  have h1 := pg_tp_lt a h
  have h2 := pg_tp_lt b h1
  rw [pg_half h2, pg_low h2]
  unfold pg_tp at h1 h2 ⊢
  rw [(pg_lo b _).2, (pg_lo b _).1]
  have hx : τ < 2 ^ 30 := by omega
  cases b with
  | true =>
    rw [show nI (true.toNat) ||| (-2 : Int32) = -1 from by decide, Bool.and_true]
    exact Int32.and_neg_one
  | false =>
    rw [show nI (false.toNat) ||| (-2 : Int32) = -2 from by decide, Bool.and_false]
    refine pg_bv (fun i hi => ?_)
    rw [Int32.toBitVec_and, BitVec.getLsbD_and, pg_nIb (by omega), pg_nIb (by simp; omega)]
    cases i with
    | zero => rw [show (-2 : Int32).toBitVec.getLsbD 0 = false from by decide, Bool.and_false]; simp [Nat.testBit_zero]
    | succ i =>
      have : (-2 : Int32).toBitVec.getLsbD (i + 1) = true := by
        have hi2 : i < 31 := by omega
        have key : ∀ j, j < 31 → (-2 : Int32).toBitVec.getLsbD (j + 1) = true := by decide
        exact key i hi2
      rw [this, Bool.and_true, Nat.testBit_succ, Nat.testBit_succ, (pg_lo a τ).2, (pg_lo false τ).2]
theorem pg_orr {τ : Nat} (h : τ < 2 ^ 29) (a b : Bool) : (nI (pg_tp (pg_tp τ a) b) >>> ((1 : Int32) &&& 31)) ||| (nI (pg_tp (pg_tp τ a) b) &&& 1) = nI (pg_tp τ (a || b)) := by
  have h1 := pg_tp_lt a h
  have h2 := pg_tp_lt b h1
  rw [pg_half h2, pg_low h2]
  unfold pg_tp at h1 h2 ⊢
  rw [(pg_lo b _).2, (pg_lo b _).1, pg_nIor (by omega) (by cases b <;> decide)]
  congr 1
  refine Nat.eq_of_testBit_eq (fun i => ?_)
  rw [Nat.testBit_or]
  cases i with
  | zero => cases a <;> cases b <;> simp [Nat.testBit_zero] <;> omega
  | succ i =>
    rw [Nat.testBit_succ, Nat.testBit_succ, Nat.testBit_succ, (pg_lo a τ).2, (pg_lo (a || b) τ).2, show b.toNat / 2 = 0 from by cases b <;> rfl, Nat.zero_testBit, Bool.or_false]
theorem pg_rs6 (f : Nat → Int32) (T : Int32) : pg_ri f [(6, 0, 0)] T = T ^^^ 1 := by
  unfold pg_ri pg_ri pg_rs
  exact if_pos rfl
theorem pg_rs7 (f : Nat → Int32) (T : Int32) : pg_ri f [(7, 0, 0)] T = (T >>> ((1 : Int32) &&& 31)) &&& ((T &&& 1) ||| (-2 : Int32)) := by
  unfold pg_ri pg_ri pg_rs
  exact (if_neg (by decide)).trans (if_pos rfl)
theorem pg_rs8 (f : Nat → Int32) (T : Int32) : pg_ri f [(8, 0, 0)] T = (T >>> ((1 : Int32) &&& 31)) ||| (T &&& 1) := by
  unfold pg_ri pg_ri pg_rs
  exact (if_neg (by decide)).trans ((if_neg (by decide)).trans (if_pos rfl))
/-- steps leave one truth more, and need so much room -/
def pg_V (f : Nat → Int32) (l : List pg_St) (v : Bool) (d : Nat) : Prop := ∀ τ k, τ < 2 ^ k → k + d ≤ 29 → pg_ri f l (nI τ) = nI (pg_tp τ v)
theorem pg_V_mo {f : Nat → Int32} {l : List pg_St} {v : Bool} {d d' : Nat} (h : pg_V f l v d) (hd : d ≤ d') : pg_V f l v d' := fun τ k h1 h2 => h τ k h1 (by omega)
theorem pg_V_not {f : Nat → Int32} {l : List pg_St} {v : Bool} {d : Nat} (h : pg_V f l v d) : pg_V f (l ++ [(6, 0, 0)]) (!v) d := by
  intro τ k h1 h2
  rw [pg_ri_app, h τ k h1 h2]
  rw [pg_rs6]
  exact pg_not1 (Nat.lt_of_lt_of_le h1 (Nat.pow_le_pow_right (by decide) (by omega))) v
theorem pg_V_and {f : Nat → Int32} {a b : List pg_St} {v u : Bool} {d : Nat} (h : pg_V f a v (d + 1)) (g : pg_V f b u d) : pg_V f (a ++ b ++ [(7, 0, 0)]) (v && u) (d + 1) := by
  intro τ k h1 h2
  rw [pg_ri_app, pg_ri_app, h τ k h1 h2, g _ (k + 1) (pg_tp_lt v h1) (by omega)]
  rw [pg_rs7]
  exact pg_and1 (Nat.lt_of_lt_of_le h1 (Nat.pow_le_pow_right (by decide) (by omega))) v u
theorem pg_V_or {f : Nat → Int32} {a b : List pg_St} {v u : Bool} {d : Nat} (h : pg_V f a v (d + 1)) (g : pg_V f b u d) : pg_V f (a ++ b ++ [(8, 0, 0)]) (v || u) (d + 1) := by
  intro τ k h1 h2
  rw [pg_ri_app, pg_ri_app, h τ k h1 h2, g _ (k + 1) (pg_tp_lt v h1) (by omega)]
  rw [pg_rs8]
  exact pg_orr (Nat.lt_of_lt_of_le h1 (Nat.pow_le_pow_right (by decide) (by omega))) v u
theorem pg_V_test {f : Nat → Int32} {a s n : Nat} (ha : a < 6) : pg_V f [(a, s, n)] (decide (pg_pb (f a) (nI s) (nI n) = 1)) 0 := by
  intro τ k h1 h2
  show pg_rs f (a, s, n) (nI τ) = _
  have h3 : τ < 2 ^ 30 := Nat.lt_of_lt_of_le h1 (Nat.pow_le_pow_right (by decide) (by omega))
  have e : pg_f6 f (nI a) = f a := by
    unfold pg_f6
    rw [if_neg (nI_pos (by omega)), if_neg (nI_ge ha (by decide)), pu_cl (by omega)]
  have n6 : ¬ nI a = (6 : Int32) := fun q => by have := (nI_eq (a := a) (b := 6) (by omega) (by decide)).mp q; omega
  have n7 : ¬ nI a = (7 : Int32) := fun q => by have := (nI_eq (a := a) (b := 7) (by omega) (by decide)).mp q; omega
  have n8 : ¬ nI a = (8 : Int32) := fun q => by have := (nI_eq (a := a) (b := 8) (by omega) (by decide)).mp q; omega
  unfold pg_rs
  simp only []
  rw [if_neg n6, if_neg n7, if_neg n8, e, pg_dbl h3]
  rcases pg_pb01 (f a) (nI s) (nI n) with q | q
  · rw [q]; exact pg_or1 h3 false
  · rw [q]; exact pg_or1 h3 true
/-- what the steps of a clause say -/
def pg_hi (f : Nat → Int32) (l : List pg_St) : Prop := ¬ (pg_ri f l 0 &&& 1 = 0)
theorem pg_V_hi {f : Nat → Int32} {l : List pg_St} {v : Bool} {d : Nat} (h : pg_V f l v d) (hd : d ≤ 20) : pg_hi f l ↔ v = true := by
  have := h 0 0 (by decide) (by omega)
  unfold pg_hi
  rw [show (0 : Int32) = nI 0 from rfl, this]
  cases v <;> decide
/-! clauses one behind the other -/
def pg_re (t : pg_T) (e : Nat) (r : Bool × Nat) : Bool × Nat × List pg_Cl := if r.1 = true ∧ e ≠ 0 ∧ pg_c t r.2 = 59 then pg_cls t e (r.2 + 1) else (r.1, r.2, [])
theorem pg_cls_un (t : pg_T) (e p : Nat) : pg_cls t (e + 1) p = ((pg_re t e ((pg_clause t p).1, (pg_clause t p).2.1)).1, (pg_re t e ((pg_clause t p).1, (pg_clause t p).2.1)).2.1, (pg_clause t p).2.2.toList ++ (pg_re t e ((pg_clause t p).1, (pg_clause t p).2.1)).2.2) := by
  show (if (pg_clause t p).1 = true then if e ≠ 0 ∧ pg_c t (pg_clause t p).2.1 = 59 then _ else _ else _) = _
  unfold pg_re
  by_cases h : (pg_clause t p).1 = true
  · rw [if_pos h]
    by_cases g : e ≠ 0 ∧ pg_c t (pg_clause t p).2.1 = 59
    · rw [if_pos g, if_pos (show (pg_clause t p).1 = true ∧ e ≠ 0 ∧ pg_c t (pg_clause t p).2.1 = 59 from ⟨h, g⟩)]
    · rw [if_neg g, if_neg (show ¬ ((pg_clause t p).1 = true ∧ e ≠ 0 ∧ pg_c t (pg_clause t p).2.1 = 59) from fun z => g z.2), List.append_nil, h]
  · rw [if_neg h, if_neg (show ¬ ((pg_clause t p).1 = true ∧ e ≠ 0 ∧ pg_c t (pg_clause t p).2.1 = 59) from fun z => h z.1), List.append_nil]
    rw [Bool.not_eq_true] at h
    rw [h]
/-- words from where one stands, well or not -/
def pg_wd (t : pg_T) (ok : Bool) (l : List Nat) (p : Nat) : Bool × Nat := if ok = true then pg_word t l p else (false, p)
theorem pg_wd_c (t : pg_T) (ok : Bool) (c : Nat) (l : List Nat) (p : Nat) : pg_wd t ok (c :: l) p = if ok = true ∧ pg_c t p = c then pg_wd t true l (p + 1) else (false, p) := by
  unfold pg_wd
  cases ok with
  | false => rw [if_neg (by decide), if_neg (fun z => absurd z.1 (by decide))]
  | true =>
    rw [if_pos rfl, if_pos rfl]
    show (if pg_c t p = c then _ else _) = _
    by_cases h : pg_c t p = c
    · rw [if_pos h, if_pos ⟨rfl, h⟩]
    · rw [if_neg h, if_neg (fun z => h z.2)]
theorem pg_wd_f (t : pg_T) (l : List Nat) (p : Nat) : pg_wd t false l p = (false, p) := if_neg (by decide)
theorem pg_wd_app (t : pg_T) : ∀ (a b : List Nat) (ok : Bool) (p : Nat), pg_wd t ok (a ++ b) p = pg_wd t (pg_wd t ok a p).1 b (pg_wd t ok a p).2 := by
  intro a
  induction a with
  | nil =>
    intro b ok p
    cases ok
    · rw [pg_wd_f, pg_wd_f, pg_wd_f]
    · rfl
  | cons c a ih =>
    intro b ok p
    rw [List.cons_append, pg_wd_c, pg_wd_c]
    by_cases h : ok = true ∧ pg_c t p = c
    · rw [if_pos h, if_pos h, ih]
    · rw [if_neg h, if_neg h, pg_wd_f]
theorem pg_wd_le (t : pg_T) : ∀ (l : List Nat) (ok : Bool) (p : Nat), (∀ c, c ∈ l → c ≠ 200) → p ≤ t.2 → p ≤ (pg_wd t ok l p).2 ∧ (pg_wd t ok l p).2 ≤ t.2 := by
  intro l
  induction l with
  | nil => intro ok p h hp; cases ok <;> exact ⟨Nat.le_refl _, hp⟩
  | cons c l ih =>
    intro ok p h hp
    rw [pg_wd_c]
    by_cases g : ok = true ∧ pg_c t p = c
    · rw [if_pos g]
      have := ih true (p + 1) (fun c hc => h c (List.mem_cons_of_mem _ hc)) (pg_cl g.2 (h c List.mem_cons_self))
      exact ⟨by omega, this.2⟩
    · rw [if_neg g]; exact ⟨Nat.le_refl _, hp⟩
theorem pg_lead_ne (t : pg_T) (p : Nat) : ∀ c, c ∈ pg_lead t p → c ≠ 200 := by
  unfold pg_lead
  by_cases h : pg_c t p = 121
  · rw [if_pos h]; decide
  · rw [if_neg h]
    by_cases g : pg_c t p = 108
    · rw [if_pos g]; decide
    · rw [if_neg g]; decide
/-- what clauses add, and what the yards fall by -/
def pg_sm (f : Nat → Int32) : List pg_Cl → Int32 → Int32
  | [], a => a
  | .inl _ :: l, a => pg_sm f l a
  | .inr (n, st) :: l, a => pg_sm f l (if pg_ri f st 0 &&& 1 = 0 then a else a + n)
theorem pg_sm_app (f : Nat → Int32) : ∀ (a b : List pg_Cl) (x : Int32), pg_sm f (a ++ b) x = pg_sm f b (pg_sm f a x) := by
  intro a
  induction a with
  | nil => intro b x; rfl
  | cons c a ih =>
    intro b x
    cases c with
    | inl n => exact ih b x
    | inr c => exact ih b _
theorem pg_fall_app : ∀ (a b : List pg_Cl) (x : Nat), pg_fall (a ++ b) x = pg_fall b (pg_fall a x) := by
  intro a
  induction a with
  | nil => intro b x; rfl
  | cons c a ih =>
    intro b x
    cases c with
    | inl n => exact ih b n
    | inr c => exact ih b x
theorem pg_sm_add (f : Nat → Int32) : ∀ (l : List pg_Cl) (a b : Int32), pg_sm f l (a + b) = pg_sm f l a + b := by
  intro l
  induction l with
  | nil => intro a b; rfl
  | cons c l ih =>
    intro a b
    cases c with
    | inl n => exact ih a b
    | inr c =>
      obtain ⟨n, st⟩ := c
      show pg_sm f l (if _ then _ else _) = pg_sm f l (if _ then _ else _) + b
      by_cases h : pg_ri f st 0 &&& 1 = 0
      · rw [if_pos h, if_pos h]; exact ih a b
      · rw [if_neg h, if_neg h, show a + b + n = a + n + b by rw [Int32.add_assoc, Int32.add_comm b n, ← Int32.add_assoc]]
        exact ih _ b
