/-! ===== the class reads ===== -/
def pr_sg (t : pg_T) (p : Nat) : Int32 := if p < t.2 then nI (t.1 p) else -1
def pr_C (t : pg_T) (b : Nat) (w0 : xw_M) : Prop := t.2 ≤ 100 ∧ (∀ j, j < t.2 → t.1 j < 128 ∧ w0.1 50 j = nI (t.1 j)) ∧ 71 ≤ b ∧ b ≤ 101 ∧ xw_pa b
/-- where the class's reader stands: the place, how many steps -/
def pr_S (t : pg_T) (b : Nat) (w0 w : xw_M) (p L : Nat) : Prop := p ≤ t.2 ∧ L ≤ p ∧ (∀ k, k ≠ 49 → k ≠ b → k ≠ b + 3 → k ≠ b + 4 → k ≠ b + 5 → w.1 k = w0.1 k) ∧ w.2 = w0.2 ∧ (∀ j, j ≠ 4 → w.1 b j = w0.1 b j) ∧ w.1 49 1 = nI t.2 ∧ w.1 49 5 = nI b ∧ w.1 49 2 = nI p ∧ w.1 49 3 = pr_sg t p ∧ w.1 b 4 = nI L
theorem pr_neg (j : Nat) (hj : j < 2 ^ 31) : ¬ (-1 : Int32) = nI j := fun z => by have := nI_pos' hj; rw [← z] at this; exact absurd this (by decide)
theorem pr_sgc {t : pg_T} (h : ∀ j, j < t.2 → t.1 j < 128) (p : Nat) {c : Nat} (hc : c < 128) : pr_sg t p = nI c ↔ pg_c t p = c := by
  unfold pr_sg pg_c
  by_cases q : p < t.2
  · have := h p q
    rw [if_pos q, if_pos q, nI_eq (by omega) (by omega)]
  · rw [if_neg q, if_neg q]
    exact ⟨fun z => absurd z (pr_neg c (by omega)), fun z => by omega⟩
theorem pr_dig {t : pg_T} (h : ∀ j, j < t.2 → t.1 j < 128) (p : Nat) : (pr_sg t p < 48 → ¬ pg_dig (pg_c t p) = true) ∧ (57 < pr_sg t p → ¬ pg_dig (pg_c t p) = true) ∧ (¬ pr_sg t p < 48 → ¬ 57 < pr_sg t p → pg_dig (pg_c t p) = true ∧ p < t.2 ∧ 48 ≤ t.1 p ∧ t.1 p ≤ 57) := by
  unfold pr_sg pg_c pg_dig
  by_cases q : p < t.2
  · have h1 := h p q
    rw [if_pos q, if_pos q, show (48 : Int32) = nI 48 from rfl, show (57 : Int32) = nI 57 from rfl, nI_ltI (by omega) (by decide), nI_ltI (by decide) (by omega)]
    simp only [Bool.and_eq_true, decide_eq_true_eq]
    omega
  · rw [if_neg q, if_neg q]
    exact ⟨fun _ => by decide, fun _ => by decide, fun z => absurd (show (-1 : Int32) < 48 by decide) z⟩
theorem pr_adv0 {t : pg_T} {u : xw_M} {q : Nat} (ht : t.2 ≤ 100) (hT : ∀ j, j < t.2 → u.1 50 j = nI (t.1 j)) (h1 : u.1 49 1 = nI t.2) (h2 : u.1 49 2 + 1 = nI q) (hq : q ≤ 100) : fX3_advance u = some ((), xw_si (xw_si u 49 2 (nI q)) 49 3 (pr_sg t q)) := by
  unfold fX3_advance
  rw [h2, pu_lt, pu_si1, pk_us, pk_un (by decide), h1, if_neg (nI_pos (by omega)), pu_si0 _ _ _ (show (50 : Nat) ≠ 49 by decide)]
  unfold fX3_advance_53 fX3_advance_54 pr_sg
  by_cases c : q < t.2
  · rw [if_neg (nI_ge c (by omega)), if_neg (nI_ge (show q < 100 by omega) (by decide)), pu_ck (show q < 100 by omega) (by decide), pu_cl (by omega), hT q c, if_pos c]
    rfl
  · rw [if_pos (nI_le (by omega) (by omega)), if_neg c]
    rfl
theorem pr_adv {t : pg_T} {b p L : Nat} {w0 w : xw_M} (C : pr_C t b w0) (S : pr_S t b w0 w p L) (hp : p < t.2) : ∃ w', fX3_advance w = some ((), w') ∧ pr_S t b w0 w' (p + 1) L ∧ (∀ k, k ≠ 49 → w'.1 k = w.1 k) ∧ w'.1 49 4 = w.1 49 4 := by
  obtain ⟨c1, c2, c3, c4, c5⟩ := C
  obtain ⟨s1, s2, s3, s4, s5, s6, s7, s8, s9, s10⟩ := S
  have e := pr_adv0 (t := t) (u := w) (q := p + 1) c1 (fun j hj => by rw [s3 50 (by decide) (by omega) (by omega) (by omega) (by omega)]; exact (c2 j hj).2) s6 (by rw [s8, nI_1]) (by omega)
  have f : ∀ k, k ≠ 49 → (xw_si (xw_si w 49 2 (nI (p + 1))) 49 3 (pr_sg t (p + 1))).1 k = w.1 k := fun k hk => by rw [pu_si0 _ _ _ hk, pu_si0 _ _ _ hk]
  refine ⟨_, e, ⟨hp, by omega, fun k h1 h2 h3 h4 h5 => by rw [f k h1]; exact s3 k h1 h2 h3 h4 h5, s4, fun j hj => by rw [f b (by omega)]; exact s5 j hj, ?_, ?_, ?_, ?_, by rw [f b (by omega)]; exact s10⟩, f, ?_⟩
  · rw [pu_si1, pk_un (by decide), pu_si1, pk_un (by decide)]; exact s6
  · rw [pu_si1, pk_un (by decide), pu_si1, pk_un (by decide)]; exact s7
  · rw [pu_si1, pk_un (by decide), pu_si1, pk_us]
  · rw [pu_si1, pk_us]
  · rw [pu_si1, pk_un (by decide), pu_si1, pk_un (by decide)]
/-- the number that is kept changes nothing else -/
theorem pr_S4 {t : pg_T} {b p L : Nat} {w0 w : xw_M} (hb : 71 ≤ b) (S : pr_S t b w0 w p L) (v : Int32) : pr_S t b w0 (xw_si w 49 4 v) p L := by
  obtain ⟨s1, s2, s3, s4, s5, s6, s7, s8, s9, s10⟩ := S
  refine ⟨s1, s2, fun k h1 h2 h3 h4 h5 => by rw [pu_si0 _ _ _ h1]; exact s3 k h1 h2 h3 h4 h5, s4, fun j hj => by rw [pu_si0 _ _ _ (by omega)]; exact s5 j hj, ?_, ?_, ?_, ?_, by rw [pu_si0 _ _ _ (by omega)]; exact s10⟩
  · rw [pu_si1, pk_un (by decide)]; exact s6
  · rw [pu_si1, pk_un (by decide)]; exact s7
  · rw [pu_si1, pk_un (by decide)]; exact s8
  · rw [pu_si1, pk_un (by decide)]; exact s9
theorem pr_num {t : pg_T} {b p L : Nat} {w0 w : xw_M} (C : pr_C t b w0) (S : pr_S t b w0 w p L) : ∃ w', fX3_readNumber w = some (pu_bi ((pg_num t p).1 = true), w') ∧ pr_S t b w0 w' (pg_num t p).2.1 L ∧ (∀ k, k ≠ 49 → w'.1 k = w.1 k) ∧ ((pg_num t p).1 = true → w'.1 49 4 = nI (pg_num t p).2.2) := by
  have h128 := fun j hj => (C.2.1 j hj).1
  have hb := C.2.2.1
  have s9 := S.2.2.2.2.2.2.2.2.1
  obtain ⟨g1, g2, g3⟩ := pr_dig h128 p
  unfold fX3_readNumber pg_num
  rw [s9]
  by_cases d : pg_dig (pg_c t p) = true
  · have n1 : ¬ pr_sg t p < 48 := fun z => g1 z d
    have n2 : ¬ 57 < pr_sg t p := fun z => g2 z d
    obtain ⟨-, hp, l1, l2⟩ := g3 n1 n2
    have ec : pg_c t p = t.1 p := if_pos hp
    have es : pr_sg t p = nI (t.1 p) := if_pos hp
    rw [if_neg n1, if_pos (pu_nlt.mp n2), if_pos d, pu_lt]
    obtain ⟨w1, e1, S1, f1, m1⟩ := pr_adv C (pr_S4 hb S (pr_sg t p - 48)) hp
    have s91 := S1.2.2.2.2.2.2.2.2.1
    have m1' : w1.1 49 4 = nI (pg_c t p - 48) := by
      rw [m1, pu_si1, pk_us, es, ec, show (48 : Int32) = nI 48 from rfl, pk_sub l1]
    have f1' : ∀ k, k ≠ 49 → w1.1 k = w.1 k := fun k hk => by rw [f1 k hk, pu_si0 _ _ _ hk]
    obtain ⟨k1, k2, k3⟩ := pr_dig h128 (p + 1)
    rw [e1, pu_b, s91]
    by_cases d2 : pg_dig (pg_c t (p + 1)) = true
    · have n3 : ¬ pr_sg t (p + 1) < 48 := fun z => k1 z d2
      have n4 : ¬ 57 < pr_sg t (p + 1) := fun z => k2 z d2
      obtain ⟨-, hp2, l3, l4⟩ := k3 n3 n4
      have ec2 : pg_c t (p + 1) = t.1 (p + 1) := if_pos hp2
      have es2 : pr_sg t (p + 1) = nI (t.1 (p + 1)) := if_pos hp2
      rw [if_neg n3, if_neg n4, if_pos d2, pu_lt]
      obtain ⟨w2, e2, S2, f2, m2⟩ := pr_adv C (pr_S4 hb S1 (w1.1 49 4 * 10 + pr_sg t (p + 1) - 48)) hp2
      refine ⟨w2, by rw [e2, pu_b]; rfl, S2, fun k hk => by rw [f2 k hk, pu_si0 _ _ _ hk, f1' k hk], fun _ => ?_⟩
      rw [m2, pu_si1, pk_us, m1', es2, ec, ec2, show (10 : Int32) = nI 10 from rfl, pk_mul, nI_add, show (48 : Int32) = nI 48 from rfl, pk_sub (by omega)]
      show nI _ = nI ((t.1 p - 48) * 10 + (t.1 (p + 1) - 48))
      rw [show (t.1 p - 48) * 10 + t.1 (p + 1) - 48 = (t.1 p - 48) * 10 + (t.1 (p + 1) - 48) by omega]
    · rw [if_neg d2]
      refine ⟨w1, ?_, S1, f1', fun _ => m1'⟩
      by_cases c : pr_sg t (p + 1) < 48
      · rw [if_pos c]; rfl
      · rw [if_neg c]
        by_cases c2 : 57 < pr_sg t (p + 1)
        · rw [if_pos c2]; rfl
        · exact absurd (k3 c c2).1 d2
  · rw [if_neg d]
    refine ⟨w, ?_, S, fun _ _ => rfl, fun z => Bool.noConfusion z⟩
    by_cases c : pr_sg t p < 48
    · rw [if_pos c]; rfl
    · rw [if_neg c]
      by_cases c2 : 57 < pr_sg t p
      · rw [if_neg (pu_nle.mpr c2)]; rfl
      · exact absurd (g3 c c2).1 d
def pr_W (k : Nat) : List Nat := ([[121, 97, 114, 100, 32], [108, 101, 115, 115, 32], [109, 111, 114, 101, 32], [32], [41]] : List (List Nat)).getD k []
def pr_w (k i : Nat) : Nat := (pr_W k).getD i 0
def pr_l (k i : Nat) : Nat → List Nat
  | 0 => []
  | e + 1 => pr_w k i :: pr_l k (i + 1) e
theorem pr_len : ∀ k, k < 5 → fJ0_length_8abf5 k = some (nI (pr_W k).length) := by decide +kernel
theorem pr_chr : ∀ k, k < 5 → ∀ i, i < (pr_W k).length → fJ0_charAt_5068e k (nI i) = some (nI (pr_w k i)) := by decide +kernel
theorem pr_w128 : ∀ k, k < 5 → ∀ i, i < (pr_W k).length → pr_w k i < 128 := by decide +kernel
theorem pr_Wl : ∀ k, k < 5 → (pr_W k).length ≤ 5 := by decide
theorem pr_word {t : pg_T} {b L n k : Nat} {w0 : xw_M} (C : pr_C t b w0) (hk : k < 5) : ∀ e i, i + e = (pr_W k).length → ∀ m, e < m → ∀ (w : xw_M) (p : Nat), pr_S t b w0 w p L → ∃ w', xw_bp (xw_it (fun z => fX3_readWord_b2 n k z.1 z.2) m (nI i, w)) (fun z => xw_su z (fun r => some r) (fun z => (fun (w : xw_M) => fX3_readWord_34 n k w) z)) = some (pu_bi ((pg_word t (pr_l k i e) p).1 = true), w') ∧ pr_S t b w0 w' (pg_word t (pr_l k i e) p).2 L ∧ (∀ q, q ≠ 49 → w'.1 q = w.1 q) ∧ w'.1 49 4 = w.1 49 4 := by
  have h128 := fun j hj => (C.2.1 j hj).1
  have hl := pr_Wl k hk
  intro e
  induction e with
  | zero =>
    intro i hi m hm w p S
    obtain ⟨m, rfl⟩ : ∃ q, m = q + 1 := ⟨m - 1, by omega⟩
    have st : fX3_readWord_b2 n k (nI i) w = some (.inr (.inr w)) := by
      unfold fX3_readWord_b2
      rw [pr_len k hk, pu_bp, if_pos (nI_le (by omega) (by omega))]
    refine ⟨w, ?_, S, fun _ _ => rfl, rfl⟩
    rw [pu_it1 (fun z => fX3_readWord_b2 n k z.1 z.2) (a := (nI i, w)) st, pu_bp]
    rfl
  | succ e ih =>
    intro i hi m hm w p S
    obtain ⟨m, rfl⟩ : ∃ q, m = q + 1 := ⟨m - 1, by omega⟩
    have hc := pr_w128 k hk i (by omega)
    have s9 := S.2.2.2.2.2.2.2.2.1
    have ew : pg_word t (pr_l k i (e + 1)) p = if pg_c t p = pr_w k i then pg_word t (pr_l k (i + 1) e) (p + 1) else (false, p) := rfl
    rw [ew]
    by_cases c : pg_c t p = pr_w k i
    · have hp := pg_cl c (by omega)
      obtain ⟨w1, e1, S1, f1, m1⟩ := pr_adv C S hp
      have st : fX3_readWord_b2 n k (nI i) w = some (.inl (nI (i + 1), w1)) := by
        unfold fX3_readWord_b2
        rw [pr_len k hk, pu_bp, if_neg (nI_ge (show i < (pr_W k).length by omega) (by omega)), pr_chr k hk i (by omega), pu_bp, s9, if_pos ((pr_sgc h128 p hc).mpr c), e1, pu_b, pu_lt, nI_1]
      rw [if_pos c, pu_it0 (fun z => fX3_readWord_b2 n k z.1 z.2) (a := (nI i, w)) st]
      obtain ⟨w2, e2, S2, f2, m2⟩ := ih (i + 1) (by omega) m (by omega) w1 (p + 1) S1
      exact ⟨w2, e2, S2, fun q hq => (f2 q hq).trans (f1 q hq), m2.trans m1⟩
    · have st : fX3_readWord_b2 n k (nI i) w = some (.inr (.inl (0, w))) := by
        unfold fX3_readWord_b2
        rw [pr_len k hk, pu_bp, if_neg (nI_ge (show i < (pr_W k).length by omega) (by omega)), pr_chr k hk i (by omega), pu_bp, s9, if_neg (fun z => c ((pr_sgc h128 p hc).mp z))]
      rw [if_neg c, pu_it1 (fun z => fX3_readWord_b2 n k z.1 z.2) (a := (nI i, w)) st, pu_bp]
      exact ⟨w, rfl, S, fun _ _ => rfl, rfl⟩
theorem pr_rdw {t : pg_T} {b L n k e : Nat} {w0 w : xw_M} {p : Nat} (hn : 2000 ≤ n) (C : pr_C t b w0) (hk : k < 5) (he : (pr_W k).length = e) (S : pr_S t b w0 w p L) : ∃ w', fX3_readWord n k w = some (pu_bi ((pg_word t (pr_l k 0 e) p).1 = true), w') ∧ pr_S t b w0 w' (pg_word t (pr_l k 0 e) p).2 L ∧ (∀ q, q ≠ 49 → w'.1 q = w.1 q) ∧ w'.1 49 4 = w.1 49 4 := by
  have hl := pr_Wl k hk
  unfold fX3_readWord fX3_readWord_2
  exact pr_word C hk e 0 (by omega) n (by omega) w p S
theorem pc_T_cong {b : Nat} {m m' : Nat → Nat → Int32} {l : List pg_St} (h3 : m' (b + 3) = m (b + 3)) (h4 : m' (b + 4) = m (b + 4)) (h5 : m' (b + 5) = m (b + 5)) (T : pc_T b m 0 l) : pc_T b m' 0 l := by
  intro j hj
  rw [h3, h4, h5]
  exact T j hj
theorem pr_step {t : pg_T} {b p L : Nat} {w0 w : xw_M} (C : pr_C t b w0) (S : pr_S t b w0 w p L) (hL : L < p) (a s v : Int32) : ∃ w', fX2_addStep b a s v w = some ((), w') ∧ pr_S t b w0 w' p (L + 1) ∧ w'.1 49 = w.1 49 ∧ ∀ (l : List pg_St) (x y z : Nat), l.length = L → a = nI x → s = nI y → v = nI z → pc_T b w.1 0 l → pc_T b w'.1 0 (l ++ [(x, y, z)]) := by
  obtain ⟨c1, c2, c3, c4, c5⟩ := C
  obtain ⟨s1, s2, s3, s4, s5, s6, s7, s8, s9, s10⟩ := S
  have h100 : L < 100 := by omega
  obtain ⟨w1, hw1⟩ : ∃ u, u = xw_si (xw_si (xw_si (xw_si w (b + 3) L a) (b + 4) L s) (b + 5) L v) b 4 (nI (L + 1)) := ⟨_, rfl⟩
  have f : ∀ k, k ≠ b → k ≠ b + 3 → k ≠ b + 4 → k ≠ b + 5 → w1.1 k = w.1 k := fun k h1 h2 h3 h4 => by rw [hw1, pu_si0 _ _ _ h1, pu_si0 _ _ _ h4, pu_si0 _ _ _ h3, pu_si0 _ _ _ h2]
  have fb : w1.1 b = upd (w.1 b) 4 (nI (L + 1)) := by rw [hw1, pu_si1, pu_si0 _ _ _ (by omega), pu_si0 _ _ _ (by omega), pu_si0 _ _ _ (by omega)]
  have f3 : w1.1 (b + 3) = upd (w.1 (b + 3)) L a := by rw [hw1, pu_si0 _ _ _ (by omega), pu_si0 _ _ _ (by omega), pu_si0 _ _ _ (by omega), pu_si1]
  have f4 : w1.1 (b + 4) = upd (w.1 (b + 4)) L s := by rw [hw1, pu_si0 _ _ _ (by omega), pu_si0 _ _ _ (by omega), pu_si1, pu_si0 _ _ _ (by omega)]
  have f5 : w1.1 (b + 5) = upd (w.1 (b + 5)) L v := by rw [hw1, pu_si0 _ _ _ (by omega), pu_si1, pu_si0 _ _ _ (by omega), pu_si0 _ _ _ (by omega)]
  have f50 : w1.1 49 = w.1 49 := f 49 (by omega) (by omega) (by omega) (by omega)
  refine ⟨w1, ?_, ⟨s1, by omega, fun k h1 h2 h3 h4 h5 => by rw [f k h2 h3 h4 h5]; exact s3 k h1 h2 h3 h4 h5, by rw [hw1]; exact s4, fun j hj => by rw [fb, pk_un hj]; exact s5 j hj, by rw [f50]; exact s6, by rw [f50]; exact s7, by rw [f50]; exact s8, by rw [f50]; exact s9, by rw [fb, pk_us]⟩, f50, fun l x y z hl hx hy hz T j hj => ?_⟩
  · unfold fX2_addStep
    rw [s10, pu_put _ _ h100 (by decide), pu_b, pu_si0 _ _ _ (show b ≠ b + 3 by omega), s10, pu_put _ _ h100 (by decide), pu_b, pu_si0 _ _ _ (show b ≠ b + 4 by omega), pu_si0 _ _ _ (show b ≠ b + 3 by omega), s10, pu_put _ _ h100 (by decide), pu_b, pu_si0 _ _ _ (show b ≠ b + 5 by omega), pu_si0 _ _ _ (show b ≠ b + 4 by omega), pu_si0 _ _ _ (show b ≠ b + 3 by omega), s10, nI_1, pu_lt, ← hw1]
  · rw [f3, f4, f5]
    rw [List.length_append, List.length_singleton] at hj
    rw [show 0 + j = j by omega]
    by_cases e : j = L
    · subst e
      have : (l ++ [(x, y, z)])[j]'(by rw [List.length_append, List.length_singleton]; omega) = (x, y, z) := by
        rw [List.getElem_append_right (by omega)]
        simp [hl]
      rw [pk_us, pk_us, pk_us, this]
      exact ⟨hx, hy, hz⟩
    · have hj' : j < l.length := by omega
      rw [pk_un e, pk_un e, pk_un e, List.getElem_append_left hj']
      have := T j hj'
      rw [show 0 + j = j by omega] at this
      exact this
def pr_R (t : pg_T) (b : Nat) (w0 w : xw_M) (r : pg_R) : Prop := pr_S t b w0 w r.2.1 r.2.2.length ∧ (r.1 = true → pc_T b w.1 0 r.2.2)
def pr_F (t : pg_T) (b : Nat) (w0 : xw_M) (F : xw_M → Option (Int32 × xw_M)) (P : Nat → pg_R) : Prop := ∀ (w : xw_M) (p : Nat) (l : List pg_St), pr_R t b w0 w (true, p, l) → ∃ w', F w = some (pu_bi ((P p).1 = true), w') ∧ pr_R t b w0 w' ((P p).1, (P p).2.1, l ++ (P p).2.2)
theorem pr_pa {t : pg_T} {b p L : Nat} {w0 w : xw_M} (C : pr_C t b w0) (S : pr_S t b w0 w p L) : (w.1 49 5).toNatClampNeg = b := by
  have := C.2.2.2.1
  rw [S.2.2.2.2.2.2.1, pu_cl (by omega)]
theorem pr_what {t : pg_T} (h : ∀ j, j < t.2 → t.1 j < 128) (p : Nat) : fX3_whatOf (pr_sg t p) = some (if pg_what (pg_c t p) = 6 then -1 else nI (pg_what (pg_c t p))) := by
  have q : ∀ c, c < 128 → (pr_sg t p = nI c ↔ pg_c t p = c) := fun c hc => pr_sgc h p hc
  have q100 : pr_sg t p = (100 : Int32) ↔ pg_c t p = 100 := q 100 (by decide)
  have q107 : pr_sg t p = (107 : Int32) ↔ pg_c t p = 107 := q 107 (by decide)
  have q108 : pr_sg t p = (108 : Int32) ↔ pg_c t p = 108 := q 108 (by decide)
  have q112 : pr_sg t p = (112 : Int32) ↔ pg_c t p = 112 := q 112 (by decide)
  have q118 : pr_sg t p = (118 : Int32) ↔ pg_c t p = 118 := q 118 (by decide)
  have q121 : pr_sg t p = (121 : Int32) ↔ pg_c t p = 121 := q 121 (by decide)
  unfold fX3_whatOf
  by_cases c1 : pg_c t p = 100
  · rw [if_pos (q100.mpr c1), c1]; rfl
  rw [if_neg (fun z => c1 (q100.mp z))]
  by_cases c2 : pg_c t p = 107
  · rw [if_pos (q107.mpr c2), c2]; rfl
  rw [if_neg (fun z => c2 (q107.mp z))]
  by_cases c3 : pg_c t p = 108
  · rw [if_pos (q108.mpr c3), c3]; rfl
  rw [if_neg (fun z => c3 (q108.mp z))]
  by_cases c4 : pg_c t p = 112
  · rw [if_pos (q112.mpr c4), c4]; rfl
  rw [if_neg (fun z => c4 (q112.mp z))]
  by_cases c5 : pg_c t p = 118
  · rw [if_pos (q118.mpr c5), c5]; rfl
  rw [if_neg (fun z => c5 (q118.mp z))]
  by_cases c6 : pg_c t p = 121
  · rw [if_pos (q121.mpr c6), c6]; rfl
  rw [if_neg (fun z => c6 (q121.mp z))]
  unfold pg_what
  rw [if_neg c4, if_neg c2, if_neg c5, if_neg c3, if_neg c6, if_neg c1, if_pos rfl]
theorem pr_test {t : pg_T} {b : Nat} {w0 : xw_M} (C : pr_C t b w0) : pr_F t b w0 fX3_readTest (pg_test t) := by
  have h128 := fun j hj => (C.2.1 j hj).1
  intro w p l ⟨S, T⟩
  have s9 := S.2.2.2.2.2.2.2.2.1
  have s2 : l.length ≤ p := S.2.1
  unfold fX3_readTest
  rw [s9, pr_what h128 p, pu_bp]
  by_cases h : pg_what (pg_c t p) = 6
  · have e : pg_test t p = (false, p, []) := by unfold pg_test; rw [if_pos h]
    rw [e, if_pos h, if_pos rfl]
    exact ⟨w, rfl, ⟨by rw [List.append_nil]; exact S, fun z => Bool.noConfusion z⟩⟩
  · have hp := pg_wl h
    have a6 := pg_what6 (pg_c t p)
    rw [if_neg h, if_neg (fun z => pr_neg _ (by omega) z.symm)]
    obtain ⟨w1, e1, S1, f1, m1⟩ := pr_adv C S hp
    rw [e1, pu_b, S1.2.2.2.2.2.2.2.2.1, pu_lt]
    have yes : ∀ c1, c1 < 128 → pg_c t (p + 1) = c1 → (c1 = 60 ∨ c1 = 61 ∨ c1 = 62) → ∃ w', fX3_readTest_44 (nI (pg_what (pg_c t p))) (pr_sg t (p + 1)) w1 = some (pu_bi ((pg_test t p).1 = true), w') ∧ pr_R t b w0 w' ((pg_test t p).1, (pg_test t p).2.1, l ++ (pg_test t p).2.2) := by
      intro c1 hc1 c hs
      have hp2 := pg_cl c (by omega)
      have e : pg_test t p = ((pg_num t (p + 2)).1, (pg_num t (p + 2)).2.1, [(pg_what (pg_c t p), pg_c t (p + 1), (pg_num t (p + 2)).2.2)]) := by
        unfold pg_test
        rw [if_neg h, if_pos (by rw [c]; exact hs)]
      obtain ⟨w2, e2, S2, f2, m2⟩ := pr_adv C S1 hp2
      obtain ⟨w3, e3, S3, f3, m3⟩ := pr_num C S2
      have no := pg_num_ok t (show p + 1 + 1 ≤ t.2 by omega)
      obtain ⟨w4, e4, S4, f4, m4⟩ := pr_step C S3 (show l.length < (pg_num t (p + 1 + 1)).2.1 by have := no.1; omega) (nI (pg_what (pg_c t p))) (pr_sg t (p + 1)) (w3.1 49 4)
      rw [e]
      refine ⟨w4, ?_, ⟨?_, fun z => ?_⟩⟩
      · unfold fX3_readTest_44
        rw [e2, pu_b, e3, pu_b, pr_pa C S3, pu_ccT C.2.2.2.2, e4, pu_b, pu_ccT pu_bi01]
      · show pr_S t b w0 w4 (pg_num t (p + 2)).2.1 (l ++ [_]).length
        rw [List.length_append, List.length_singleton]
        exact S4
      · refine m4 l _ _ _ rfl rfl ((pr_sgc h128 (p + 1) (by omega)).mpr rfl) (m3 z) (pc_T_cong ?_ ?_ ?_ (T rfl))
        · have := C.2.2.1; rw [f3 _ (by omega), f2 _ (by omega), f1 _ (by omega)]
        · have := C.2.2.1; rw [f3 _ (by omega), f2 _ (by omega), f1 _ (by omega)]
        · have := C.2.2.1; rw [f3 _ (by omega), f2 _ (by omega), f1 _ (by omega)]
    have h60 : pr_sg t (p + 1) = (60 : Int32) ↔ pg_c t (p + 1) = 60 := pr_sgc h128 (p + 1) (by decide)
    have h61 : pr_sg t (p + 1) = (61 : Int32) ↔ pg_c t (p + 1) = 61 := pr_sgc h128 (p + 1) (by decide)
    have h62 : pr_sg t (p + 1) = (62 : Int32) ↔ pg_c t (p + 1) = 62 := pr_sgc h128 (p + 1) (by decide)
    by_cases c60 : pg_c t (p + 1) = 60
    · rw [if_pos (h60.mpr c60)]
      exact yes 60 (by decide) c60 (Or.inl rfl)
    rw [if_neg (fun z => c60 (h60.mp z))]
    by_cases c61 : pg_c t (p + 1) = 61
    · rw [if_pos (h61.mpr c61)]
      exact yes 61 (by decide) c61 (Or.inr (Or.inl rfl))
    rw [if_neg (fun z => c61 (h61.mp z))]
    by_cases c62 : pg_c t (p + 1) = 62
    · rw [if_pos (h62.mpr c62)]
      exact yes 62 (by decide) c62 (Or.inr (Or.inr rfl))
    rw [if_neg (fun z => c62 (h62.mp z))]
    have e : pg_test t p = (false, p + 1, []) := by
      unfold pg_test
      rw [if_neg h, if_neg (fun z => by rcases z with z | z | z; exact c60 z; exact c61 z; exact c62 z)]
    rw [e]
    exact ⟨w1, rfl, ⟨by rw [List.append_nil]; exact S1, fun z => Bool.noConfusion z⟩⟩
/-! what is joined: | waits until its right side is whole -/
def pr_or (wt : Bool) : List pg_St := if wt = true then [(8, 0, 0)] else []
def pr_J (t : pg_T) (P : Nat → pg_R) (pre : List pg_St) (cur : pg_R) (wt : Bool) : pg_R := pg_join t 124 8 (pg_both t P) 101 ((pg_join t 38 7 P 101 cur).1, (pg_join t 38 7 P 101 cur).2.1, pre ++ (pg_join t 38 7 P 101 cur).2.2 ++ pr_or wt)
theorem pr_J_and {t : pg_T} {P : Nat → pg_R} (ht : t.2 ≤ 100) (hP : pg_okF t P) (pre : List pg_St) (cur : pg_R) (wt : Bool) (hc : cur.2.1 ≤ t.2) (h : cur.1 = true ∧ pg_c t cur.2.1 = 38) : pr_J t P pre cur wt = pr_J t P pre ((P (cur.2.1 + 1)).1, (P (cur.2.1 + 1)).2.1, cur.2.2 ++ (P (cur.2.1 + 1)).2.2 ++ [(7, 0, 0)]) wt := by
  unfold pr_J
  rw [pg_join_fx (by decide) hP ht cur hc, if_pos h]
theorem pr_J_or {t : pg_T} {P : Nat → pg_R} (ht : t.2 ≤ 100) (hP : pg_okF t P) (pre : List pg_St) (cur : pg_R) (wt : Bool) (hc : cur.2.1 ≤ t.2) (h : cur.1 = true ∧ pg_c t cur.2.1 = 124) : pr_J t P pre cur wt = pr_J t P (pre ++ cur.2.2 ++ pr_or wt) (P (cur.2.1 + 1)) true := by
  have n : ¬ (cur.1 = true ∧ pg_c t cur.2.1 = 38) := fun z => by have := z.2; rw [h.2] at this; exact absurd this (by decide)
  unfold pr_J
  rw [pg_join_fx (by decide) hP ht cur hc, if_neg n, pg_join_fx (by decide) (pg_both_ok hP) ht (cur.1, cur.2.1, pre ++ cur.2.2 ++ pr_or wt) hc]
  exact if_pos h
theorem pr_J_no {t : pg_T} {P : Nat → pg_R} (ht : t.2 ≤ 100) (hP : pg_okF t P) (pre : List pg_St) (cur : pg_R) (wt : Bool) (hc : cur.2.1 ≤ t.2) (h1 : ¬ (cur.1 = true ∧ pg_c t cur.2.1 = 38)) (h2 : ¬ (cur.1 = true ∧ pg_c t cur.2.1 = 124)) : pr_J t P pre cur wt = (cur.1, cur.2.1, pre ++ cur.2.2 ++ pr_or wt) := by
  unfold pr_J
  rw [pg_join_fx (by decide) hP ht cur hc, if_neg h1, pg_join_fx (by decide) (pg_both_ok hP) ht (cur.1, cur.2.1, pre ++ cur.2.2 ++ pr_or wt) hc]
  exact if_neg h2
theorem pr_opt {t : pg_T} {b : Nat} {w0 w : xw_M} (C : pr_C t b w0) {r : pg_R} (R : pr_R t b w0 w r) (wt : Bool) (hL : r.2.2.length + wt.toNat ≤ r.2.1) : ∃ w', (∀ {β : Type} (k : xw_M → Option β), (if pu_bi (wt = true) = 0 then k w else xw_cc (xw_pa (w.1 49 5).toNatClampNeg) (xw_b (fX2_addStep ((w.1 49 5).toNatClampNeg) (8 : Int32) (0 : Int32) (0 : Int32) w) (fun (_ : Unit) w' => k w'))) = k w') ∧ pr_R t b w0 w' (r.1, r.2.1, r.2.2 ++ pr_or wt) ∧ w'.1 49 = w.1 49 := by
  cases wt with
  | false =>
    refine ⟨w, fun k => by rw [if_pos (show pu_bi (false = true) = 0 from pu_biF (by decide))], ?_, rfl⟩
    show pr_R t b w0 w (r.1, r.2.1, r.2.2 ++ [])
    rw [List.append_nil]
    exact R
  | true =>
    obtain ⟨w', e, S, f, m⟩ := pr_step C R.1 (show r.2.2.length < r.2.1 from hL) 8 0 0
    refine ⟨w', fun k => by rw [if_neg (show ¬ pu_bi (true = true) = 0 by rw [pu_biT rfl]; decide), pr_pa C R.1, pu_ccT C.2.2.2.2, e, pu_b], ⟨?_, fun z => m r.2.2 8 0 0 rfl rfl rfl rfl (R.2 z)⟩, f⟩
    show pr_S t b w0 w' r.2.1 (r.2.2 ++ [_]).length
    rw [List.length_append, List.length_singleton]
    exact S
theorem pr_either {t : pg_T} {b n : Nat} {w0 : xw_M} {a1 : Int32} {F : Int32 → xw_M → Option (Int32 × xw_M)} {P : Nat → pg_R} (C : pr_C t b w0) (hP : pg_okF t P) (hF : pr_F t b w0 (F a1) P) : ∀ (m : Nat) (pre : List pg_St) (cur : pg_R) (wt : Bool) (j : Nat) (w : xw_M), j ≤ cur.2.1 → t.2 < m + cur.2.1 → (pre ++ cur.2.2).length + wt.toNat ≤ cur.2.1 → pr_R t b w0 w (cur.1, cur.2.1, pre ++ cur.2.2) → ∃ w', xw_bp (xw_it (fun z => fX3_readEither_b11 n F a1 z.1 z.2.1 z.2.2.1 z.2.2.2) m (pu_bi (cur.1 = true), pu_bi (wt = true), nI j, w)) (fun z => (fun (x2 : Int32) (x3 : Int32) (w : xw_M) => fX3_readEither_123 n F a1 x2 x3 w) z.1 z.2.1 z.2.2) = some (pu_bi ((pr_J t P pre cur wt).1 = true), w') ∧ pr_R t b w0 w' (pr_J t P pre cur wt) := by
  have h128 := fun j hj => (C.2.1 j hj).1
  have ht := C.1
  intro m
  induction m with
  | zero => intro pre cur wt j w h1 h2 h3 R; have : cur.2.1 ≤ t.2 := R.1.1; omega
  | succ m ih =>
    intro pre cur wt j w h1 h2 h3 R
    have hc : cur.2.1 ≤ t.2 := R.1.1
    have s9 : w.1 49 3 = pr_sg t cur.2.1 := R.1.2.2.2.2.2.2.2.2.1
    have g38 : pr_sg t cur.2.1 = (38 : Int32) ↔ pg_c t cur.2.1 = 38 := pr_sgc h128 cur.2.1 (by decide)
    have g124 : pr_sg t cur.2.1 = (124 : Int32) ↔ pg_c t cur.2.1 = 124 := pr_sgc h128 cur.2.1 (by decide)
    by_cases c38 : cur.1 = true ∧ pg_c t cur.2.1 = 38
    · have hp := pg_cl c38.2 (by decide)
      rw [pr_J_and ht hP pre cur wt hc c38]
      obtain ⟨w1, e1, S1, f1, -⟩ := pr_adv C R.1 hp
      have hb := C.2.2.1
      obtain ⟨w2, e2, R2⟩ := hF w1 (cur.2.1 + 1) (pre ++ cur.2.2) ⟨S1, fun _ => pc_T_cong (f1 _ (by omega)) (f1 _ (by omega)) (f1 _ (by omega)) (R.2 c38.1)⟩
      have o := hP (cur.2.1 + 1) hp
      have o3 := o.2.2
      have hlen : ((pre ++ cur.2.2) ++ (P (cur.2.1 + 1)).2.2).length + wt.toNat < (P (cur.2.1 + 1)).2.1 := by
        rw [List.length_append]; omega
      obtain ⟨w3, e3, S3, f3, m3⟩ := pr_step C R2.1 (show ((pre ++ cur.2.2) ++ (P (cur.2.1 + 1)).2.2).length < (P (cur.2.1 + 1)).2.1 by omega) 7 0 0
      have n124 : ¬ pr_sg t cur.2.1 = (124 : Int32) := fun z => by have h := c38.2; rw [g124.mp z] at h; exact absurd h (by decide)
      have e76 : fX3_readEither_76 n F a1 (pu_bi (wt = true)) (nI j) (0 : Int32) w = fX3_readEither_90 n F a1 (nI j) (0 : Int32) (pu_bi (wt = true)) w := by
        unfold fX3_readEither_76
        cases wt with
        | false => rw [pu_biF (show ¬ (false = true) by decide), if_pos (show (0 : Int32) = 0 from rfl), if_pos (show (0 : Int32) = 0 from rfl)]
        | true =>
          rw [pu_biT (show true = true from rfl), if_neg (show ¬ (1 : Int32) = 0 by decide)]
          unfold fX3_readEither_85
          rfl
      have st : fX3_readEither_b11 n F a1 (pu_bi (cur.1 = true)) (pu_bi (wt = true)) (nI j) w = some (.inl (pu_bi ((P (cur.2.1 + 1)).1 = true), pu_bi (wt = true), nI (j + 1), w3)) := by
        unfold fX3_readEither_b11
        rw [if_neg (show ¬ (100 : Int32) ≤ nI j from nI_ge (b := 100) (by omega) (by decide)), pu_biT c38.1, if_neg (show ¬ (1 : Int32) = 0 by decide), s9, if_pos (g38.mpr c38.2)]
        unfold fX3_readEither_40
        rw [s9, if_neg n124]
        unfold fX3_readEither_54
        rw [if_pos (show (0 : Int32) = 0 from rfl), e76]
        unfold fX3_readEither_90 fX3_readEither_117
        rw [e1, pu_b, e2, pu_b, if_pos (show (0 : Int32) = 0 from rfl), pr_pa C R2.1, pu_ccT C.2.2.2.2, e3, pu_b, pu_lt, nI_1]
      rw [pu_it0 (fun z => fX3_readEither_b11 n F a1 z.1 z.2.1 z.2.2.1 z.2.2.2) (a := (pu_bi (cur.1 = true), pu_bi (wt = true), nI j, w)) st]
      have o1 := o.1
      refine ih pre ((P (cur.2.1 + 1)).1, (P (cur.2.1 + 1)).2.1, cur.2.2 ++ (P (cur.2.1 + 1)).2.2 ++ [(7, 0, 0)]) wt (j + 1) w3 (by show j + 1 ≤ (P (cur.2.1 + 1)).2.1; omega) (by show t.2 < m + (P (cur.2.1 + 1)).2.1; omega) ?_ ⟨?_, fun z => ?_⟩
      · show (pre ++ (cur.2.2 ++ (P (cur.2.1 + 1)).2.2 ++ [(7, 0, 0)])).length + wt.toNat ≤ (P (cur.2.1 + 1)).2.1
        rw [← List.append_assoc, ← List.append_assoc, List.length_append, List.length_singleton]
        omega
      · show pr_S t b w0 w3 (P (cur.2.1 + 1)).2.1 (pre ++ (cur.2.2 ++ (P (cur.2.1 + 1)).2.2 ++ [(7, 0, 0)])).length
        rw [← List.append_assoc, ← List.append_assoc, List.length_append, List.length_singleton]
        exact S3
      · show pc_T b w3.1 0 (pre ++ (cur.2.2 ++ (P (cur.2.1 + 1)).2.2 ++ [(7, 0, 0)]))
        rw [← List.append_assoc, ← List.append_assoc]
        exact m3 _ 7 0 0 rfl rfl rfl rfl (R2.2 z)
    · by_cases c124 : cur.1 = true ∧ pg_c t cur.2.1 = 124
      · have hp := pg_cl c124.2 (by decide)
        rw [pr_J_or ht hP pre cur wt hc c124]
        obtain ⟨w4, k4, R4, f4⟩ := pr_opt C R wt h3
        obtain ⟨w1, e1, S1, f1, -⟩ := pr_adv C R4.1 hp
        have hb := C.2.2.1
        obtain ⟨w2, e2, R2⟩ := hF w1 (cur.2.1 + 1) (pre ++ cur.2.2 ++ pr_or wt) ⟨S1, fun _ => pc_T_cong (f1 _ (by omega)) (f1 _ (by omega)) (f1 _ (by omega)) (R4.2 c124.1)⟩
        have o := hP (cur.2.1 + 1) hp
        have o3 := o.2.2
        have o1 := o.1
        have hw : (pr_or wt).length = wt.toNat := by cases wt <;> rfl
        have n38 : ¬ pr_sg t cur.2.1 = (38 : Int32) := fun z => c38 ⟨c124.1, g38.mp z⟩
        have st : fX3_readEither_b11 n F a1 (pu_bi (cur.1 = true)) (pu_bi (wt = true)) (nI j) w = some (.inl (pu_bi ((P (cur.2.1 + 1)).1 = true), pu_bi (true = true), nI (j + 1), w2)) := by
          have e76 : ∀ u : xw_M, u = w4 → fX3_readEither_76 n F a1 (pu_bi (wt = true)) (nI j) (1 : Int32) u = some (.inl (pu_bi ((P (cur.2.1 + 1)).1 = true), pu_bi (true = true), nI (j + 1), w2)) := by
            intro u hu
            have e85 : fX3_readEither_76 n F a1 (pu_bi (wt = true)) (nI j) (1 : Int32) u = fX3_readEither_85 n F a1 (nI j) (1 : Int32) u := by
              unfold fX3_readEither_76
              rw [if_neg (show ¬ (1 : Int32) = 0 by decide), ite_self]
            rw [e85, hu]
            unfold fX3_readEither_85 fX3_readEither_90 fX3_readEither_117
            rw [e1, pu_b, e2, pu_b, if_neg (show ¬ (1 : Int32) = 0 by decide), pu_lt, nI_1, pu_biT (show true = true from rfl)]
          unfold fX3_readEither_b11
          rw [if_neg (show ¬ (100 : Int32) ≤ nI j from nI_ge (b := 100) (by omega) (by decide)), pu_biT c124.1, if_neg (show ¬ (1 : Int32) = 0 by decide), s9, if_neg n38, if_pos (g124.mpr c124.2)]
          unfold fX3_readEither_40
          rw [s9, if_pos (g124.mpr c124.2)]
          unfold fX3_readEither_54
          rw [if_neg (show ¬ (1 : Int32) = 0 by decide), k4 (fun u => fX3_readEither_76 n F a1 (pu_bi (wt = true)) (nI j) (1 : Int32) u)]
          exact e76 w4 rfl
        rw [pu_it0 (fun z => fX3_readEither_b11 n F a1 z.1 z.2.1 z.2.2.1 z.2.2.2) (a := (pu_bi (cur.1 = true), pu_bi (wt = true), nI j, w)) st]
        refine ih (pre ++ cur.2.2 ++ pr_or wt) (P (cur.2.1 + 1)) true (j + 1) w2 (by omega) (by omega) ?_ R2
        rw [List.length_append, List.length_append, hw]
        show _ + 1 ≤ _
        omega
      · rw [pr_J_no ht hP pre cur wt hc c38 c124]
        have st : fX3_readEither_b11 n F a1 (pu_bi (cur.1 = true)) (pu_bi (wt = true)) (nI j) w = some (.inr (pu_bi (cur.1 = true), pu_bi (wt = true), w)) := by
          unfold fX3_readEither_b11
          by_cases d1 : (100 : Int32) ≤ nI j
          · rw [if_pos d1]
          · rw [if_neg d1]
            by_cases d2 : cur.1 = true
            · rw [pu_biT d2, if_neg (show ¬ (1 : Int32) = 0 by decide), s9, if_neg (fun z => c38 ⟨d2, g38.mp z⟩), if_neg (fun z => c124 ⟨d2, g124.mp z⟩)]
            · rw [pu_biF d2, if_pos rfl]
        rw [pu_it1 (fun z => fX3_readEither_b11 n F a1 z.1 z.2.1 z.2.2.1 z.2.2.2) (a := (pu_bi (cur.1 = true), pu_bi (wt = true), nI j, w)) st, pu_bp]
        obtain ⟨w4, k4, R4, f4⟩ := pr_opt C R wt h3
        refine ⟨w4, ?_, R4⟩
        show fX3_readEither_123 n F a1 (pu_bi (cur.1 = true)) (pu_bi (wt = true)) w = _
        unfold fX3_readEither_123
        rw [k4 (fun u => xw_cc (pu_bi (cur.1 = true) = 0 ∨ pu_bi (cur.1 = true) = 1) (some (pu_bi (cur.1 = true), u)))]
        exact pu_ccT pu_bi01 _
theorem pr_any {t : pg_T} {b n : Nat} {w0 : xw_M} {a1 : Int32} {F : Int32 → xw_M → Option (Int32 × xw_M)} {P : Nat → pg_R} (hn : 2000 ≤ n) (C : pr_C t b w0) (hP : pg_okF t P) (hF : pr_F t b w0 (F a1) P) : pr_F t b w0 (fX3_readEither n F a1) (pg_any t P) := by
  intro w p l R
  have ht := C.1
  have hp : p ≤ t.2 := R.1.1
  have hl : l.length ≤ p := R.1.2.1
  obtain ⟨w1, e1, R1⟩ := hF w p l R
  have o := hP p hp
  have o3 := o.2.2
  obtain ⟨w2, e2, R2⟩ := pr_either (n := n) C hP hF n l (P p) false 0 w1 (by omega) (by omega) (by show (l ++ (P p).2.2).length + 0 ≤ (P p).2.1; rw [List.length_append]; omega) R1
  have ej : pr_J t P l (P p) false = ((pg_any t P p).1, (pg_any t P p).2.1, l ++ (pg_any t P p).2.2) := by
    unfold pr_J
    have app : ∀ f (r : pg_R), pg_join t 124 8 (pg_both t P) f (r.1, r.2.1, l ++ r.2.2) = ((pg_join t 124 8 (pg_both t P) f r).1, (pg_join t 124 8 (pg_both t P) f r).2.1, l ++ (pg_join t 124 8 (pg_both t P) f r).2.2) := by
      intro f
      induction f with
      | zero => intro r; rfl
      | succ f ih =>
        intro r
        show (if r.1 = true ∧ pg_c t r.2.1 = 124 then _ else _) = _
        by_cases c : r.1 = true ∧ pg_c t r.2.1 = 124
        · rw [if_pos c]
          have e2 : pg_join t 124 8 (pg_both t P) (f + 1) r = pg_join t 124 8 (pg_both t P) f ((pg_both t P (r.2.1 + 1)).1, (pg_both t P (r.2.1 + 1)).2.1, r.2.2 ++ (pg_both t P (r.2.1 + 1)).2.2 ++ [(8, 0, 0)]) := if_pos c
          rw [e2, ← ih, List.append_assoc, List.append_assoc, List.append_assoc]
        · rw [if_neg c]
          have e2 : pg_join t 124 8 (pg_both t P) (f + 1) r = r := if_neg c
          rw [e2]
    show pg_join t 124 8 (pg_both t P) 101 ((pg_both t P p).1, (pg_both t P p).2.1, l ++ (pg_both t P p).2.2 ++ []) = _
    rw [List.append_nil]
    exact app 101 (pg_both t P p)
  rw [ej] at e2 R2
  refine ⟨w2, ?_, R2⟩
  unfold fX3_readEither fX3_readEither_11
  rw [e1, pu_b]
  exact e2
theorem pr_part {t : pg_T} {b n : Nat} {w0 : xw_M} (hn : 2000 ≤ n) (C : pr_C t b w0) : ∀ (k K d : Nat), k + K = 4 → k < d → pr_F t b w0 (fX3_readPart n d (nI K)) (pg_part t k) := by
  have h128 := fun j hj => (C.2.1 j hj).1
  intro k
  induction k with
  | zero =>
    intro K d hk hd w p l R
    have hK : K = 4 := by omega
    subst hK
    obtain ⟨d, rfl⟩ : ∃ q, d = q + 1 := ⟨d - 1, by omega⟩
    have s9 : w.1 49 3 = pr_sg t p := R.1.2.2.2.2.2.2.2.2.1
    have g33 : pr_sg t p = (33 : Int32) ↔ pg_c t p = 33 := pr_sgc h128 p (by decide)
    have g40 : pr_sg t p = (40 : Int32) ↔ pg_c t p = 40 := pr_sgc h128 p (by decide)
    have ep : pg_part t 0 p = if pg_c t p = 33 ∨ pg_c t p = 40 then (false, p, []) else pg_test t p := rfl
    show ∃ w', fX3_readPart_s n (fX3_readPart n d) (nI 4) w = _ ∧ _
    unfold fX3_readPart_s fX3_readPart_s_23
    rw [s9, if_neg (show ¬ nI 4 < (4 : Int32) by decide), ep]
    by_cases c1 : pg_c t p = 33
    · rw [if_pos (g33.mpr c1), if_pos (Or.inl c1)]
      exact ⟨w, rfl, ⟨by rw [List.append_nil]; exact R.1, fun z => Bool.noConfusion z⟩⟩
    · rw [if_neg (fun z => c1 (g33.mp z))]
      by_cases c2 : pg_c t p = 40
      · rw [if_pos (g40.mpr c2), if_pos (Or.inr c2)]
        exact ⟨w, rfl, ⟨by rw [List.append_nil]; exact R.1, fun z => Bool.noConfusion z⟩⟩
      · rw [if_neg (fun z => c2 (g40.mp z)), if_neg (fun z => z.elim c1 c2)]
        obtain ⟨w1, e1, R1⟩ := pr_test C w p l R
        exact ⟨w1, by rw [e1, pu_b]; exact pu_ccT pu_bi01 _, R1⟩
  | succ k ih =>
    intro K d hk hd w p l R
    obtain ⟨d, rfl⟩ : ∃ q, d = q + 1 := ⟨d - 1, by omega⟩
    have s9 : w.1 49 3 = pr_sg t p := R.1.2.2.2.2.2.2.2.2.1
    have hl : l.length ≤ p := R.1.2.1
    have hb := C.2.2.1
    have g33 : pr_sg t p = (33 : Int32) ↔ pg_c t p = 33 := pr_sgc h128 p (by decide)
    have g40 : pr_sg t p = (40 : Int32) ↔ pg_c t p = 40 := pr_sgc h128 p (by decide)
    have I := ih (K + 1) d (by omega) (by omega)
    have oP := pg_part_ok t k
    show ∃ w', fX3_readPart_s n (fX3_readPart n d) (nI K) w = _ ∧ _
    unfold fX3_readPart_s fX3_readPart_s_23
    rw [s9, if_pos (show nI K < (4 : Int32) from nI_lt (b := 4) (by omega) (by decide))]
    by_cases c1 : pg_c t p = 33
    · have hp := pg_cl c1 (by decide)
      have ep : pg_part t (k + 1) p = ((pg_part t k (p + 1)).1, (pg_part t k (p + 1)).2.1, (pg_part t k (p + 1)).2.2 ++ [(6, 0, 0)]) := if_pos c1
      rw [if_pos (g33.mpr c1), if_pos (g33.mpr c1), ep]
      obtain ⟨w1, e1, S1, f1, -⟩ := pr_adv C R.1 hp
      obtain ⟨w2, e2, R2⟩ := I w1 (p + 1) l ⟨S1, fun _ => pc_T_cong (f1 _ (by omega)) (f1 _ (by omega)) (f1 _ (by omega)) (R.2 rfl)⟩
      have o := oP (p + 1) hp
      have o3 := o.2.2
      obtain ⟨w3, e3, S3, f3, m3⟩ := pr_step C R2.1 (show (l ++ (pg_part t k (p + 1)).2.2).length < (pg_part t k (p + 1)).2.1 by rw [List.length_append]; omega) 6 0 0
      refine ⟨w3, ?_, ⟨?_, fun z => ?_⟩⟩
      · unfold fX3_readPart_s_44
        rw [e1, pu_b, if_neg (show ¬ (1 : Int32) = 0 by decide), nI_1, e2, pu_b, pr_pa C R2.1, pu_ccT C.2.2.2.2, e3, pu_b]
        exact pu_ccT pu_bi01 _
      · show pr_S t b w0 w3 (pg_part t k (p + 1)).2.1 (l ++ ((pg_part t k (p + 1)).2.2 ++ [(6, 0, 0)])).length
        rw [← List.append_assoc, List.length_append, List.length_singleton]
        exact S3
      · show pc_T b w3.1 0 (l ++ ((pg_part t k (p + 1)).2.2 ++ [(6, 0, 0)]))
        rw [← List.append_assoc]
        exact m3 _ 6 0 0 rfl rfl rfl rfl (R2.2 z)
    · rw [if_neg (fun z => c1 (g33.mp z))]
      by_cases c2 : pg_c t p = 40
      · have hp := pg_cl c2 (by decide)
        have ep : pg_part t (k + 1) p = if (pg_any t (pg_part t k) (p + 1)).1 = true ∧ pg_c t (pg_any t (pg_part t k) (p + 1)).2.1 = 41 then (true, (pg_any t (pg_part t k) (p + 1)).2.1 + 1, (pg_any t (pg_part t k) (p + 1)).2.2) else (false, (pg_any t (pg_part t k) (p + 1)).2.1, (pg_any t (pg_part t k) (p + 1)).2.2) := by
          show (if _ then _ else if _ then _ else _) = _
          rw [if_neg c1, if_pos c2]
        rw [if_pos (g40.mpr c2), if_neg (fun z => c1 (g33.mp z)), ep]
        obtain ⟨w1, e1, S1, f1, -⟩ := pr_adv C R.1 hp
        obtain ⟨w2, e2, R2⟩ := pr_any hn C oP I w1 (p + 1) l ⟨S1, fun _ => pc_T_cong (f1 _ (by omega)) (f1 _ (by omega)) (f1 _ (by omega)) (R.2 rfl)⟩
        unfold fX3_readPart_s_44
        rw [e1, pu_b, if_pos rfl, nI_1, e2, pu_b]
        generalize pg_any t (pg_part t k) (p + 1) = r at R2 ⊢
        by_cases c3 : r.1 = true
        · obtain ⟨w3, e3, S3, f3, -⟩ := pr_rdw (k := 4) (e := 1) hn C (by decide) rfl R2.1
          have ew : pg_word t (pr_l 4 0 1) r.2.1 = if pg_c t r.2.1 = 41 then (true, r.2.1 + 1) else (false, r.2.1) := rfl
          have e3' : fX3_readWord n 4 w2 = some (pu_bi ((pg_word t (pr_l 4 0 1) r.2.1).1 = true), w3) := e3
          have S3' : pr_S t b w0 w3 (pg_word t (pr_l 4 0 1) r.2.1).2 (l ++ r.2.2).length := S3
          rw [ew] at e3' S3'
          have T3 : pc_T b w3.1 0 (l ++ r.2.2) := pc_T_cong (f3 _ (by omega)) (f3 _ (by omega)) (f3 _ (by omega)) (R2.2 c3)
          rw [pu_biT c3, if_neg (show ¬ (1 : Int32) = 0 by decide)]
          by_cases c4 : pg_c t r.2.1 = 41
          · have hcc : r.1 = true ∧ pg_c t r.2.1 = 41 := ⟨c3, c4⟩
            rw [if_pos c4] at S3' e3'
            have e4 : fX3_readWord n 4 w2 = some (1, w3) := e3'
            rw [if_pos hcc, e4, pu_b, if_neg (show ¬ (1 : Int32) = 0 by decide)]
            exact ⟨w3, rfl, S3', fun _ => T3⟩
          · have hcc : ¬ (r.1 = true ∧ pg_c t r.2.1 = 41) := fun z => c4 z.2
            rw [if_neg c4] at S3' e3'
            have e4 : fX3_readWord n 4 w2 = some (0, w3) := e3'
            rw [if_neg hcc, e4, pu_b, if_pos (show (0 : Int32) = 0 from rfl)]
            exact ⟨w3, rfl, S3', fun z => Bool.noConfusion z⟩
        · have hcc : ¬ (r.1 = true ∧ pg_c t r.2.1 = 41) := fun z => c3 z.1
          rw [pu_biF c3, if_pos (show (0 : Int32) = 0 from rfl), if_neg hcc]
          exact ⟨w2, rfl, R2.1, fun z => Bool.noConfusion z⟩
      · have ep : pg_part t (k + 1) p = pg_test t p := by
          show (if _ then _ else if _ then _ else _) = _
          rw [if_neg c1, if_neg c2]
        rw [if_neg (fun z => c2 (g40.mp z)), ep]
        obtain ⟨w1, e1, R1⟩ := pr_test C w p l R
        exact ⟨w1, by rw [e1, pu_b]; exact pu_ccT pu_bi01 _, R1⟩
