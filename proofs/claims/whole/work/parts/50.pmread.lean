/-! ===== the reference reads: where it stands, whether well, within how much ===== -/
def pm_w (w : xw_M) (p : Nat) (ok : Bool) (K : Int32) : xw_M := xw_si (xw_si (xw_si w 119 11 (nI p)) 119 12 (pu_bi (ok = true))) 119 13 K
theorem pm_k (w : xw_M) (p : Nat) (ok : Bool) (K : Int32) {k : Nat} (h : k ≠ 119) : (pm_w w p ok K).1 k = w.1 k := by
  unfold pm_w
  rw [pu_si0 _ _ _ h, pu_si0 _ _ _ h, pu_si0 _ _ _ h]
theorem pm_11 (w : xw_M) (p : Nat) (ok : Bool) (K : Int32) : (pm_w w p ok K).1 119 11 = nI p := by
  unfold pm_w
  rw [pu_si1, pk_un (by decide), pu_si1, pk_un (by decide), pu_si1, pk_us]
theorem pm_12 (w : xw_M) (p : Nat) (ok : Bool) (K : Int32) : (pm_w w p ok K).1 119 12 = pu_bi (ok = true) := by
  unfold pm_w
  rw [pu_si1, pk_un (by decide), pu_si1, pk_us]
theorem pm_13 (w : xw_M) (p : Nat) (ok : Bool) (K : Int32) : (pm_w w p ok K).1 119 13 = K := by
  unfold pm_w
  rw [pu_si1, pk_us]
theorem pm_o (w : xw_M) (p : Nat) (ok : Bool) (K : Int32) {j : Nat} (h1 : j ≠ 11) (h2 : j ≠ 12) (h3 : j ≠ 13) : (pm_w w p ok K).1 119 j = w.1 119 j := by
  unfold pm_w
  rw [pu_si1, pk_un h3, pu_si1, pk_un h2, pu_si1, pk_un h1]
theorem pm_L (w : xw_M) (p : Nat) (ok : Bool) (K : Int32) : (pm_w w p ok K).2 = w.2 := rfl
theorem pm_s11 (w : xw_M) (p : Nat) (ok : Bool) (K : Int32) (q : Nat) : xw_si (pm_w w p ok K) 119 11 (nI q) = pm_w w q ok K := by
  refine pu_ext (fun k => ?_) (fun k => rfl)
  unfold pm_w
  by_cases h : k = 119
  · subst h
    simp only [pu_si1]
    funext j
    by_cases a : j = 11
    · subst a; simp [upd]
    · simp [upd, a]
  · simp only [pu_si0 _ _ _ h]
theorem pm_s12 (w : xw_M) (p : Nat) (ok : Bool) (K : Int32) : xw_si (pm_w w p ok K) 119 12 0 = pm_w w p false K := by
  refine pu_ext (fun k => ?_) (fun k => rfl)
  unfold pm_w
  rw [show pu_bi (false = true) = 0 from pu_biF (by decide)]
  by_cases h : k = 119
  · subst h
    simp only [pu_si1]
    funext j
    by_cases a : j = 12
    · subst a; simp [upd]
    · simp [upd, a]
  · simp only [pu_si0 _ _ _ h]
theorem pm_s13 (w : xw_M) (p : Nat) (ok : Bool) (K q : Int32) : xw_si (pm_w w p ok K) 119 13 q = pm_w w p ok q := by
  refine pu_ext (fun k => ?_) (fun k => rfl)
  unfold pm_w
  by_cases h : k = 119
  · subst h
    simp only [pu_si1]
    funext j
    by_cases a : j = 13
    · subst a; simp [upd]
    · simp [upd, a]
  · simp only [pu_si0 _ _ _ h]
/-- a text stands ready to be read -/
def pm_C (t : pg_T) (w : xw_M) : Prop := t.2 ≤ 100 ∧ w.1 119 10 = nI t.2 ∧ ∀ j, j < t.2 → t.1 j < 128 ∧ w.1 126 j = nI (t.1 j)
theorem pm_isAt {t : pg_T} {w : xw_M} (C : pm_C t w) {p : Nat} (hp : p ≤ t.2) (ok : Bool) (K : Int32) {c : Nat} (hc : c < 128) : fX8_isAt (nI c) (pm_w w p ok K) = some (pu_bi (ok = true ∧ pg_c t p = c)) := by
  obtain ⟨c1, c2, c3⟩ := C
  unfold fX8_isAt
  rw [pm_12, pm_11, pm_o _ _ _ _ (by decide) (by decide) (by decide), c2, pm_k _ _ _ _ (by decide)]
  cases ok with
  | false => rw [if_pos (pu_biF (by decide)), pu_biF (fun q => absurd q.1 (by decide))]
  | true =>
    rw [if_neg (by rw [pu_biT rfl]; decide)]
    by_cases h : p < t.2
    · rw [if_neg (nI_ge h (by omega)), pu_ck (by omega) (by decide), pu_cl (by omega), (c3 p h).2]
      have e : pg_c t p = t.1 p := if_pos h
      have b := (c3 p h).1
      by_cases q : t.1 p = c
      · rw [if_pos (by rw [q]), pu_biT ⟨rfl, e.trans q⟩]
      · rw [if_neg (fun z => q ((nI_eq (by omega) (by omega)).mp z)), pu_biF (fun z => q (e.symm.trans z.2))]
    · have e : pg_c t p = 200 := if_neg h
      rw [if_pos (nI_le (by omega) (by omega)), pu_biF (fun z => by have := e.symm.trans z.2; omega)]
theorem pm_takes {t : pg_T} {w : xw_M} (C : pm_C t w) {p : Nat} (hp : p ≤ t.2) (ok : Bool) (K : Int32) {c : Nat} (hc : c < 128) : fX8_takes (nI c) (pm_w w p ok K) = some ((), if ok = true ∧ pg_c t p = c then pm_w w (p + 1) true K else pm_w w p false K) := by
  unfold fX8_takes
  rw [pm_isAt C hp ok K hc, pu_bp]
  by_cases h : ok = true ∧ pg_c t p = c
  · rw [pu_biT h, if_neg (by decide), if_pos h, pu_lt, pm_11, nI_1, pm_s11, h.1]
  · rw [pu_biF h, if_pos rfl, if_neg h, pu_lt, pm_s12]
theorem pm_dig {t : pg_T} {w : xw_M} (C : pm_C t w) {p : Nat} (hp : p ≤ t.2) (ok : Bool) (K : Int32) : fX8_isDigit (pm_w w p ok K) = some (pu_bi (ok = true ∧ pg_dig (pg_c t p) = true)) := by
  obtain ⟨c1, c2, c3⟩ := C
  unfold fX8_isDigit
  rw [pm_12, pm_11, pm_o _ _ _ _ (by decide) (by decide) (by decide), c2, pm_k _ _ _ _ (by decide)]
  cases ok with
  | false => rw [if_pos (pu_biF (by decide)), pu_biF (fun q => absurd q.1 (by decide))]
  | true =>
    rw [if_neg (by rw [pu_biT rfl]; decide)]
    by_cases h : p < t.2
    · have e : pg_c t p = t.1 p := if_pos h
      have b := (c3 p h).1
      rw [if_neg (nI_ge h (by omega)), pu_ck (by omega) (by decide), pu_cl (by omega), (c3 p h).2, pu_ck (by omega) (by decide)]
      have hd : pg_dig (pg_c t p) = true ↔ 48 ≤ t.1 p ∧ t.1 p ≤ 57 := by rw [e]; unfold pg_dig; simp
      by_cases q : 48 ≤ t.1 p
      · rw [if_neg (show ¬ nI (t.1 p) < (48 : Int32) from nI_nlt (b := 48) q (by omega))]
        by_cases r : t.1 p ≤ 57
        · rw [if_neg (show ¬ (57 : Int32) < nI (t.1 p) from nI_nlt (a := 57) r (by decide)), pu_biT ⟨rfl, hd.mpr ⟨q, r⟩⟩]
        · rw [if_pos (show (57 : Int32) < nI (t.1 p) from nI_lt (a := 57) (by omega) (by omega)), pu_biF (fun z => r (hd.mp z.2).2)]
      · rw [if_pos (show nI (t.1 p) < (48 : Int32) from nI_lt (b := 48) (by omega) (by decide)), pu_biF (fun z => q (hd.mp z.2).1)]
    · have e : pg_c t p = 200 := if_neg h
      rw [if_pos (nI_le (by omega) (by omega)), pu_biF (fun z => by rw [e] at z; exact absurd z.2 (by decide))]
theorem pm_num {t : pg_T} {w : xw_M} (C : pm_C t w) {p : Nat} (hp : p ≤ t.2) (K : Int32) : fX8_number (pm_w w p true K) = some (nI (pg_num t p).2.2, pm_w w (pg_num t p).2.1 (pg_num t p).1 K) := by
  have c1 := C.1
  unfold fX8_number pg_num
  rw [pm_dig C hp true K, pu_bp]
  by_cases h : pg_dig (pg_c t p) = true
  · have l := pg_dl h
    have b := (C.2.2 p l).1
    have e : pg_c t p = t.1 p := if_pos l
    have hd : 48 ≤ t.1 p ∧ t.1 p ≤ 57 := by rw [e] at h; unfold pg_dig at h; simpa using h
    rw [pu_biT ⟨rfl, h⟩, if_neg (by decide), if_pos h, pm_11, pu_ck (by omega) (by decide), pu_cl (by omega), pm_k _ _ _ _ (by decide), (C.2.2 p l).2, pu_lt, nI_1, pm_s11, pu_lt, pm_dig C (show p + 1 ≤ t.2 by omega) true K, pu_bp, show (48 : Int32) = nI 48 from rfl, pk_sub hd.1, e]
    by_cases h2 : pg_dig (pg_c t (p + 1)) = true
    · have l2 := pg_dl h2
      have b2 := (C.2.2 (p + 1) l2).1
      have e2 : pg_c t (p + 1) = t.1 (p + 1) := if_pos l2
      have hd2 : 48 ≤ t.1 (p + 1) ∧ t.1 (p + 1) ≤ 57 := by rw [e2] at h2; unfold pg_dig at h2; simpa using h2
      rw [pu_biT ⟨rfl, h2⟩, if_neg (by decide), if_pos h2, pm_11, pu_ck (by omega) (by decide), pu_cl (by omega), pm_k _ _ _ _ (by decide), (C.2.2 (p + 1) l2).2, pu_lt, nI_1, pm_s11, pu_lt, e2, show (10 : Int32) = nI 10 from rfl, pk_mul, nI_add, pk_sub (by omega)]
      show some (nI _, _) = some (nI ((t.1 p - 48) * 10 + (t.1 (p + 1) - 48)), _)
      rw [show 10 * (t.1 p - 48) + t.1 (p + 1) - 48 = (t.1 p - 48) * 10 + (t.1 (p + 1) - 48) by omega]
    · rw [pu_biF (fun z => h2 z.2), if_pos rfl, if_neg h2]
  · rw [pu_biF (fun z => h z.2), if_pos rfl, if_neg h, pu_lt, pm_s12]
    rfl
theorem pm_num0 {t : pg_T} {w : xw_M} (C : pm_C t w) {p : Nat} (hp : p ≤ t.2) (K : Int32) : fX8_number (pm_w w p false K) = some (0, pm_w w p false K) := by
  unfold fX8_number
  rw [pm_dig C hp false K, pu_bp, pu_biF (fun z => absurd z.1 (by decide)), if_pos rfl, pu_lt, pm_s12]
def pg_L (i : Nat) : Nat := ([112, 107, 118, 108, 121, 100] : List Nat).getD i 0
def pg_B (i : Nat) : Nat := ([109, 108, 121] : List Nat).getD i 0
def pg_W (i : Nat) : Nat := ([109, 111, 114, 101, 0, 108, 101, 115, 115, 0, 121, 97, 114, 100, 0] : List Nat).getD i 0
theorem pg_Ll : ∀ i, i < 6 → pg_L i < 128 := by decide
theorem pg_Bl : ∀ i, i < 3 → pg_B i < 128 := by decide
theorem pg_Wl : ∀ i, i < 15 → pg_W i < 128 := by decide
def pm_D (w : xw_M) : Prop := (∀ i, i < 6 → w.1 128 i = nI (pg_L i)) ∧ (∀ i, i < 3 → w.1 129 i = nI (pg_B i)) ∧ ∀ i, i < 15 → w.1 130 i = nI (pg_W i)
def pg_nn (ok : Bool) (c : Nat) : Nat → Int32
  | 0 => -1
  | i + 1 => if ok = true ∧ c = pg_L i then nI i else pg_nn ok c i
theorem pg_nn0 (c : Nat) : ∀ i, pg_nn false c i = -1 := by
  intro i
  induction i with
  | zero => rfl
  | succ i ih =>
    show (if _ then _ else pg_nn false c i) = _
    rw [if_neg (fun z => absurd z.1 (by decide)), ih]
theorem pg_nn6 (c : Nat) : pg_nn true c 6 = if pg_what c = 6 then -1 else nI (pg_what c) := by
  by_cases h1 : c = 112
  · subst h1; decide
  by_cases h2 : c = 107
  · subst h2; decide
  by_cases h3 : c = 118
  · subst h3; decide
  by_cases h4 : c = 108
  · subst h4; decide
  by_cases h5 : c = 121
  · subst h5; decide
  by_cases h6 : c = 100
  · subst h6; decide
  simp [pg_nn, pg_L, pg_what, h1, h2, h3, h4, h5, h6]
theorem pg_what6 (c : Nat) : pg_what c ≤ 6 := by
  unfold pg_what
  repeat' split
  all_goals decide
theorem pm_named {t : pg_T} {w : xw_M} (C : pm_C t w) (D : pm_D w) {n : Nat} (hn : 2000 ≤ n) {p : Nat} (hp : p ≤ t.2) (ok : Bool) (K : Int32) : xw_it (fun z => fX8_test_b4 n z.1 z.2 (pm_w w p ok K)) n ((-1 : Int32), (0 : Int32)) = some (pg_nn ok (pg_c t p) 6) := by
  refine pu_up (fun z => fX8_test_b4 n z.1 z.2 (pm_w w p ok K)) (fun i => (pg_nn ok (pg_c t p) i, nI i)) 6 _ (fun i hi => ?_) ?_ (by omega)
  · show fX8_test_b4 n _ (nI i) _ = _
    unfold fX8_test_b4
    rw [show (6 : Int32) = nI 6 from rfl, if_neg (nI_ge hi (by decide)), pu_ck hi (by decide), pu_cl (by omega), pm_k _ _ _ _ (by decide), D.1 i hi, pm_isAt C hp ok K (pg_Ll i hi), pu_bp]
    show _ = some (Sum.inl ((if ok = true ∧ pg_c t p = pg_L i then nI i else pg_nn ok (pg_c t p) i), nI (i + 1)))
    by_cases q : ok = true ∧ pg_c t p = pg_L i
    · rw [pu_biT q, if_neg (by decide), if_pos q]
      unfold fX8_test_28
      rw [pu_lt, nI_1]
    · rw [pu_biF q, if_pos rfl, if_neg q]
      unfold fX8_test_28
      rw [pu_lt, nI_1]
  · show fX8_test_b4 n _ (nI 6) _ = _
    unfold fX8_test_b4
    rw [if_pos (show (6 : Int32) ≤ nI 6 by decide)]
/-- what a reading of the reference's does where it stands well, and where it doesn't -/
def pm_F (t : pg_T) (f : Nat → Int32) (w : xw_M) (F : xw_M → Option (Int32 × xw_M)) (P : Nat → pg_R) (d : Nat) (K : Int32) : Prop := (∀ p, p ≤ t.2 → ∃ x : Int32, (x = 0 ∨ x = 1) ∧ F (pm_w w p true K) = some (x, pm_w w (P p).2.1 (P p).1 K) ∧ ((P p).1 = true → pg_V f (P p).2.2 (decide (x = 1)) d)) ∧ ∀ p, p ≤ t.2 → ∃ x : Int32, (x = 0 ∨ x = 1) ∧ F (pm_w w p false K) = some (x, pm_w w p false K)
theorem pm_pL (a r : Int32) (w : xw_M) : (if r ≤ a then some ((0 : Int32), w) else some (1, w)) = some (pu_bi (a < r), w) := by
  by_cases h : r ≤ a
  · rw [if_pos h, pu_biF (pu_nlt.mpr h)]
  · rw [if_neg h, pu_biT (pu_nle.mp h)]
theorem pm_pL' (a r : Int32) (w : xw_M) : (if a ≤ r then some ((0 : Int32), w) else some (1, w)) = some (pu_bi (r < a), w) := pm_pL r a w
theorem pm_pE (a r : Int32) (w : xw_M) : (if a = r then some ((1 : Int32), w) else some (0, w)) = some (pu_bi (a = r), w) := by
  by_cases h : a = r
  · rw [if_pos h, pu_biT h]
  · rw [if_neg h, pu_biF h]
/-- a sign, then a number, and what it says -/
theorem pm_t106 {t : pg_T} {w : xw_M} {f : Nat → Int32} (C : pm_C t w) (hf : ∀ k, k < 6 → w.1 127 k = f k) {n p a sg : Nat} (K : Int32) {x2 : Int32} (hp : p ≤ t.2) (ha : a < 6) (hs : sg < 128) (hx : (sg = 60 ∧ x2 = -1) ∨ (sg = 61 ∧ x2 = 0) ∨ (sg = 62 ∧ x2 = 1)) (ok : Bool) (hok : ok = true → pg_c t p = sg) (hok2 : ok = false → ¬ pg_c t p = sg) : ∃ x : Int32, (x = 0 ∨ x = 1) ∧ fX8_test_106 n (nI a) x2 (nI sg) (pm_w w p true K) = some (x, if ok = true then pm_w w (pg_num t (p + 1)).2.1 (pg_num t (p + 1)).1 K else pm_w w p false K) ∧ (ok = true → x = pg_pb (f a) (nI sg) (nI (pg_num t (p + 1)).2.2)) := by
  have fin : ∀ (r : Int32) (u : xw_M), u.1 127 a = f a → ∃ x : Int32, (x = 0 ∨ x = 1) ∧ (if 0 ≤ x2 then if x2 ≤ 0 then xw_ck (nI a) 6 (if (u.1 127 (nI a).toNatClampNeg) = r then some ((1 : Int32), u) else some ((0 : Int32), u)) else xw_ck (nI a) 6 (if (u.1 127 (nI a).toNatClampNeg) ≤ r then some ((0 : Int32), u) else some ((1 : Int32), u)) else xw_ck (nI a) 6 (if r ≤ (u.1 127 (nI a).toNatClampNeg) then some ((0 : Int32), u) else some ((1 : Int32), u))) = some (x, u) ∧ x = pg_pb (f a) (nI sg) r := by
    intro r u hu
    refine ⟨_, pg_pb01 _ _ _, ?_, rfl⟩
    rw [pu_ck ha (by decide), pu_ck ha (by decide), pu_ck ha (by decide), pu_cl (by omega), hu]
    unfold pg_pb
    rcases hx with ⟨rfl, rfl⟩ | ⟨rfl, rfl⟩ | ⟨rfl, rfl⟩
    · rw [if_neg (show ¬ (0 : Int32) ≤ -1 by decide), pm_pL, if_pos (show nI 60 = 60 from rfl)]
    · rw [if_pos (show (0 : Int32) ≤ 0 by decide), if_pos (show (0 : Int32) ≤ 0 by decide), pm_pE, if_neg (show ¬ nI 61 = 60 by decide), if_neg (show ¬ nI 61 = 62 by decide)]
    · rw [if_pos (show (0 : Int32) ≤ 1 by decide), if_neg (show ¬ (1 : Int32) ≤ 0 by decide), pm_pL', if_neg (show ¬ nI 62 = 60 by decide), if_pos (show nI 62 = 62 from rfl)]
  unfold fX8_test_106
  rw [pm_takes C hp true K hs, pu_b]
  cases ok with
  | true =>
    have c := hok rfl
    have l := pg_cl c (by omega)
    rw [if_pos ⟨rfl, c⟩, pm_num C (show p + 1 ≤ t.2 by omega), pu_b]
    obtain ⟨x, h1, h2, h3⟩ := fin (nI (pg_num t (p + 1)).2.2) (pm_w w (pg_num t (p + 1)).2.1 (pg_num t (p + 1)).1 K) (by rw [pm_k _ _ _ _ (by decide), hf a ha])
    exact ⟨x, h1, by rw [if_pos rfl]; exact h2, fun _ => h3⟩
  | false =>
    have c := hok2 rfl
    rw [if_neg (fun z => c z.2), pm_num0 C hp, pu_b]
    obtain ⟨x, h1, h2, h3⟩ := fin 0 (pm_w w p false K) (by rw [pm_k _ _ _ _ (by decide), hf a ha])
    exact ⟨x, h1, by rw [if_neg (show ¬ (false = true) by decide)]; exact h2, fun z => Bool.noConfusion z⟩
theorem pm_test {t : pg_T} {w : xw_M} {f : Nat → Int32} (C : pm_C t w) (D : pm_D w) (hf : ∀ k, k < 6 → w.1 127 k = f k) {n : Nat} (hn : 2000 ≤ n) (K : Int32) : pm_F t f w (fX8_test n) (pg_test t) 0 K := by
  have c1 := C.1
  refine ⟨fun p hp => ?_, fun p hp => ?_⟩
  · unfold fX8_test fX8_test_4
    rw [pm_named C D hn hp true K, pu_bp, pg_nn6]
    show ∃ x : Int32, (x = 0 ∨ x = 1) ∧ fX8_test_35 n _ _ = _ ∧ _
    unfold fX8_test_35
    by_cases h : pg_what (pg_c t p) = 6
    · have e : pg_test t p = (false, p, []) := by unfold pg_test; rw [if_pos h]
      rw [e]
      refine ⟨0, Or.inl rfl, ?_, fun z => Bool.noConfusion z⟩
      rw [if_pos h, if_pos rfl, pu_lt, pm_s12]
    · have l := pg_wl h
      have a6 := pg_what6 (pg_c t p)
      rw [if_neg h, if_neg (show ¬ nI (pg_what (pg_c t p)) = -1 from fun z => by have := nI_pos' (n := pg_what (pg_c t p)) (by omega); rw [z] at this; exact absurd this (by decide)), pm_11, nI_1, pm_s11, pu_lt, show (60 : Int32) = nI 60 from rfl, pm_isAt C (show p + 1 ≤ t.2 by omega) true K (by decide), pu_bp]
      have tr : ∀ (sg : Nat) (ok : Bool) (x : Int32), (x = 0 ∨ x = 1) → (sg = 60 ∨ sg = 61 ∨ sg = 62) → (ok = true → pg_c t (p + 1) = sg) → (ok = false → ¬ (pg_c t (p + 1) = 60 ∨ pg_c t (p + 1) = 61 ∨ pg_c t (p + 1) = 62)) → (ok = true → x = pg_pb (f (pg_what (pg_c t p))) (nI sg) (nI (pg_num t (p + 1 + 1)).2.2)) → (if ok = true then pm_w w (pg_num t (p + 1 + 1)).2.1 (pg_num t (p + 1 + 1)).1 K else pm_w w (p + 1) false K) = pm_w w (pg_test t p).2.1 (pg_test t p).1 K ∧ ((pg_test t p).1 = true → pg_V f (pg_test t p).2.2 (decide (x = 1)) 0) := by
        intro sg ok x hx hsg h1 h2 h3
        cases ok with
        | true =>
          have q := h1 rfl
          have e : pg_test t p = ((pg_num t (p + 2)).1, (pg_num t (p + 2)).2.1, [(pg_what (pg_c t p), pg_c t (p + 1), (pg_num t (p + 2)).2.2)]) := by
            unfold pg_test
            rw [if_neg h, if_pos (by rw [q]; exact hsg)]
          rw [e, if_pos rfl]
          refine ⟨rfl, fun _ => ?_⟩
          rw [h3 rfl, q]
          exact pg_V_test (by omega)
        | false =>
          have e : pg_test t p = (false, p + 1, []) := by
            unfold pg_test
            rw [if_neg h, if_neg (h2 rfl)]
          rw [e, if_neg (by decide)]
          exact ⟨rfl, fun z => Bool.noConfusion z⟩
      by_cases c60 : pg_c t (p + 1) = 60
      · rw [pu_biT ⟨rfl, c60⟩, if_neg (by decide)]
        unfold fX8_test_84
        rw [if_neg (show ¬ (0 : Int32) ≤ -1 by decide)]
        obtain ⟨x, h1, h2, h3⟩ := pm_t106 (n := n) C hf K (show p + 1 ≤ t.2 by omega) (show pg_what (pg_c t p) < 6 by omega) (show 60 < 128 by decide) (Or.inl ⟨rfl, rfl⟩) true (fun _ => c60) (fun z => absurd z (by decide))
        obtain ⟨g1, g2⟩ := tr 60 true x h1 (Or.inl rfl) (fun _ => c60) (fun z => absurd z (by decide)) h3
        exact ⟨x, h1, by rw [← g1]; exact h2, g2⟩
      · rw [pu_biF (fun z => c60 z.2), if_pos rfl, show (62 : Int32) = nI 62 from rfl, pm_isAt C (show p + 1 ≤ t.2 by omega) true K (by decide), pu_bp]
        by_cases c62 : pg_c t (p + 1) = 62
        · rw [pu_biT ⟨rfl, c62⟩, if_neg (by decide)]
          unfold fX8_test_84
          rw [if_pos (show (0 : Int32) ≤ 1 by decide), if_neg (show ¬ (1 : Int32) ≤ 0 by decide)]
          obtain ⟨x, h1, h2, h3⟩ := pm_t106 (n := n) C hf K (show p + 1 ≤ t.2 by omega) (show pg_what (pg_c t p) < 6 by omega) (show 62 < 128 by decide) (Or.inr (Or.inr ⟨rfl, rfl⟩)) true (fun _ => c62) (fun z => absurd z (by decide))
          obtain ⟨g1, g2⟩ := tr 62 true x h1 (Or.inr (Or.inr rfl)) (fun _ => c62) (fun z => absurd z (by decide)) h3
          exact ⟨x, h1, by rw [← g1]; exact h2, g2⟩
        · rw [pu_biF (fun z => c62 z.2), if_pos rfl]
          unfold fX8_test_84
          rw [if_pos (show (0 : Int32) ≤ 0 by decide), if_pos (show (0 : Int32) ≤ 0 by decide)]
          by_cases c61 : pg_c t (p + 1) = 61
          · obtain ⟨x, h1, h2, h3⟩ := pm_t106 (n := n) C hf K (show p + 1 ≤ t.2 by omega) (show pg_what (pg_c t p) < 6 by omega) (show 61 < 128 by decide) (Or.inr (Or.inl ⟨rfl, rfl⟩)) true (fun _ => c61) (fun z => absurd z (by decide))
            obtain ⟨g1, g2⟩ := tr 61 true x h1 (Or.inr (Or.inl rfl)) (fun _ => c61) (fun z => absurd z (by decide)) h3
            exact ⟨x, h1, by rw [← g1]; exact h2, g2⟩
          · obtain ⟨x, h1, h2, h3⟩ := pm_t106 (n := n) C hf K (show p + 1 ≤ t.2 by omega) (show pg_what (pg_c t p) < 6 by omega) (show 61 < 128 by decide) (Or.inr (Or.inl ⟨rfl, rfl⟩)) false (fun z => absurd z (by decide)) (fun _ => c61)
            obtain ⟨g1, g2⟩ := tr 61 false x h1 (Or.inr (Or.inl rfl)) (fun z => absurd z (by decide)) (fun _ z => by rcases z with z | z | z; exact c60 z; exact c61 z; exact c62 z) (fun z => absurd z (by decide))
            exact ⟨x, h1, by rw [← g1]; exact h2, g2⟩
  · unfold fX8_test fX8_test_4
    rw [pm_named C D hn hp false K, pu_bp, pg_nn0]
    refine ⟨0, Or.inl rfl, ?_⟩
    show fX8_test_35 n _ _ = _
    unfold fX8_test_35
    rw [if_pos rfl, pu_lt, pm_s12]
/-! what is joined by & -/
def pm_J (t : pg_T) (f : Nat → Int32) (w : xw_M) (d : Nat) (K : Int32) (g : xw_M → Option (Int32 × xw_M)) (x : Int32) (r J : pg_R) : Prop := ∃ x' : Int32, (x' = 0 ∨ x' = 1) ∧ g (pm_w w r.2.1 r.1 K) = some (x', pm_w w J.2.1 J.1 K) ∧ (J.1 = true → pg_V f J.2.2 (decide (x' = 1)) d)
theorem pm_and2 {x y : Int32} (hx : x = 0 ∨ x = 1) (hy : y = 0 ∨ y = 1) : decide ((if x = 0 then (0 : Int32) else if y = 0 then 0 else 1) = 1) = (decide (x = 1) && decide (y = 1)) := by
  rcases hx with rfl | rfl <;> rcases hy with rfl | rfl <;> decide
theorem pm_or2 {x y : Int32} (hx : x = 0 ∨ x = 1) (hy : y = 0 ∨ y = 1) : decide ((if x = 0 then (if y = 0 then (0 : Int32) else 1) else 1) = 1) = (decide (x = 1) || decide (y = 1)) := by
  rcases hx with rfl | rfl <;> rcases hy with rfl | rfl <;> decide
theorem pm_01a {x y : Int32} : (if x = 0 then (0 : Int32) else if y = 0 then 0 else 1) = 0 ∨ (if x = 0 then (0 : Int32) else if y = 0 then 0 else 1) = 1 := by
  by_cases h : x = 0
  · rw [if_pos h]; exact Or.inl rfl
  · rw [if_neg h]
    by_cases g : y = 0
    · rw [if_pos g]; exact Or.inl rfl
    · rw [if_neg g]; exact Or.inr rfl
theorem pm_01o {x y : Int32} : (if x = 0 then (if y = 0 then (0 : Int32) else 1) else 1) = 0 ∨ (if x = 0 then (if y = 0 then (0 : Int32) else 1) else 1) = 1 := by
  by_cases h : x = 0
  · rw [if_pos h]
    by_cases g : y = 0
    · rw [if_pos g]; exact Or.inl rfl
    · rw [if_neg g]; exact Or.inr rfl
  · rw [if_neg h]; exact Or.inr rfl
theorem pm_bothJ {t : pg_T} {f : Nat → Int32} {w : xw_M} {F : xw_M → Option (Int32 × xw_M)} {P : Nat → pg_R} {d n : Nat} {K : Int32} (C : pm_C t w) (hP : pg_okF t P) (hF : pm_F t f w F P d K) : ∀ (m : Nat) (r : pg_R) (x : Int32), (x = 0 ∨ x = 1) → r.2.1 ≤ t.2 → t.2 < m + r.2.1 → (r.1 = true → pg_V f r.2.2 (decide (x = 1)) (d + 1)) → pm_J t f w (d + 1) K (fun u => xw_it (fun z => fX8_both_b5 n F z.1 z.2) m (x, u)) x r (pg_join t 38 7 P 101 r) := by
  intro m
  induction m with
  | zero => intro r x hx h1 h2; omega
  | succ m ih =>
    intro r x hx h1 h2 hv
    rw [pg_join_fx (by decide) hP C.1 r h1]
    by_cases c : r.1 = true ∧ pg_c t r.2.1 = 38
    · rw [if_pos c]
      have l := pg_cl c.2 (by decide)
      obtain ⟨y, hy, e2, v2⟩ := hF.1 (r.2.1 + 1) l
      have st : fX8_both_b5 n F x (pm_w w r.2.1 r.1 K) = some (.inl ((if x = 0 then (0 : Int32) else if y = 0 then 0 else 1), pm_w w (P (r.2.1 + 1)).2.1 (P (r.2.1 + 1)).1 K)) := by
        unfold fX8_both_b5
        rw [show (38 : Int32) = nI 38 from rfl, pm_isAt C h1 _ K (by decide), pu_bp, pu_biT c, if_neg (by decide), pu_lt, pm_11, nI_1, pm_s11, c.1, e2, pu_b]
        unfold fX8_both_41 fX8_both_42
        by_cases q : x = 0
        · rw [if_pos q, if_pos q]
        · rw [if_neg q, if_neg q]
          by_cases q2 : y = 0
          · rw [if_pos q2, if_pos q2]
          · rw [if_neg q2, if_neg q2]
      have q := hP (r.2.1 + 1) l
      have q1 := q.1
      obtain ⟨x', a1, a2, a3⟩ := ih ((P (r.2.1 + 1)).1, (P (r.2.1 + 1)).2.1, r.2.2 ++ (P (r.2.1 + 1)).2.2 ++ [(7, 0, 0)]) _ pm_01a q.2.1 (by show t.2 < m + (P (r.2.1 + 1)).2.1; omega) (fun z => by rw [pm_and2 hx hy]; exact pg_V_and (hv c.1) (v2 z))
      exact ⟨x', a1, (pu_it0 _ st).trans a2, a3⟩
    · rw [if_neg c]
      have st : fX8_both_b5 n F x (pm_w w r.2.1 r.1 K) = some (.inr (x, pm_w w r.2.1 r.1 K)) := by
        unfold fX8_both_b5
        rw [show (38 : Int32) = nI 38 from rfl, pm_isAt C h1 _ K (by decide), pu_bp, pu_biF c, if_pos rfl]
      exact ⟨x, hx, pu_it1 _ st, hv⟩
theorem pm_both {t : pg_T} {f : Nat → Int32} {w : xw_M} {F : xw_M → Option (Int32 × xw_M)} {P : Nat → pg_R} {d n : Nat} {K : Int32} (C : pm_C t w) (hP : pg_okF t P) (hF : pm_F t f w F P d K) (hn : 2000 ≤ n) : pm_F t f w (fX8_both n F) (pg_both t P) (d + 1) K := by
  have c1 := C.1
  refine ⟨fun p hp => ?_, fun p hp => ?_⟩
  · obtain ⟨x, hx, e, v⟩ := hF.1 p hp
    obtain ⟨x', a1, a2, a3⟩ := pm_bothJ (n := n) C hP hF n (P p) x hx (hP p hp).2.1 (by omega) (fun z => pg_V_mo (v z) (by omega))
    refine ⟨x', a1, ?_, a3⟩
    unfold fX8_both fX8_both_5
    rw [e, pu_b]
    exact (congrArg (fun o => xw_bp o _) a2).trans (pu_ccT a1 _)
  · obtain ⟨x, hx, e⟩ := hF.2 p hp
    refine ⟨x, hx, ?_⟩
    have st : fX8_both_b5 n F x (pm_w w p false K) = some (.inr (x, pm_w w p false K)) := by
      unfold fX8_both_b5
      rw [show (38 : Int32) = nI 38 from rfl, pm_isAt C hp _ K (by decide), pu_bp, pu_biF (fun z => absurd z.1 (by decide)), if_pos rfl]
    unfold fX8_both fX8_both_5
    obtain ⟨n', rfl⟩ : ∃ n', n = n' + 1 := ⟨n - 1, by omega⟩
    rw [e, pu_b, pu_it1 _ st, pu_bp]
    exact pu_ccT hx _
theorem pm_anyJ {t : pg_T} {f : Nat → Int32} {w : xw_M} {F : xw_M → Option (Int32 × xw_M)} {P : Nat → pg_R} {d n : Nat} {K : Int32} (C : pm_C t w) (hP : pg_okF t P) (hF : pm_F t f w (fX8_both n F) P d K) : ∀ (m : Nat) (r : pg_R) (x : Int32), (x = 0 ∨ x = 1) → r.2.1 ≤ t.2 → t.2 < m + r.2.1 → (r.1 = true → pg_V f r.2.2 (decide (x = 1)) (d + 1)) → pm_J t f w (d + 1) K (fun u => xw_it (fun z => fX8_any_b5 n F z.1 z.2) m (x, u)) x r (pg_join t 124 8 P 101 r) := by
  intro m
  induction m with
  | zero => intro r x hx h1 h2; omega
  | succ m ih =>
    intro r x hx h1 h2 hv
    rw [pg_join_fx (by decide) hP C.1 r h1]
    by_cases c : r.1 = true ∧ pg_c t r.2.1 = 124
    · rw [if_pos c]
      have l := pg_cl c.2 (by decide)
      obtain ⟨y, hy, e2, v2⟩ := hF.1 (r.2.1 + 1) l
      have st : fX8_any_b5 n F x (pm_w w r.2.1 r.1 K) = some (.inl ((if x = 0 then (if y = 0 then (0 : Int32) else 1) else 1), pm_w w (P (r.2.1 + 1)).2.1 (P (r.2.1 + 1)).1 K)) := by
        unfold fX8_any_b5
        rw [show (124 : Int32) = nI 124 from rfl, pm_isAt C h1 _ K (by decide), pu_bp, pu_biT c, if_neg (by decide), pu_lt, pm_11, nI_1, pm_s11, c.1, e2, pu_b]
        unfold fX8_any_37 fX8_any_42
        by_cases q : x = 0
        · rw [if_pos q, if_pos q]
          by_cases q2 : y = 0
          · rw [if_pos q2, if_pos q2]
          · rw [if_neg q2, if_neg q2]
        · rw [if_neg q, if_neg q]
      have q := hP (r.2.1 + 1) l
      have q1 := q.1
      obtain ⟨x', a1, a2, a3⟩ := ih ((P (r.2.1 + 1)).1, (P (r.2.1 + 1)).2.1, r.2.2 ++ (P (r.2.1 + 1)).2.2 ++ [(8, 0, 0)]) _ pm_01o q.2.1 (by show t.2 < m + (P (r.2.1 + 1)).2.1; omega) (fun z => by rw [pm_or2 hx hy]; exact pg_V_or (hv c.1) (v2 z))
      exact ⟨x', a1, (pu_it0 _ st).trans a2, a3⟩
    · rw [if_neg c]
      have st : fX8_any_b5 n F x (pm_w w r.2.1 r.1 K) = some (.inr (x, pm_w w r.2.1 r.1 K)) := by
        unfold fX8_any_b5
        rw [show (124 : Int32) = nI 124 from rfl, pm_isAt C h1 _ K (by decide), pu_bp, pu_biF c, if_pos rfl]
      exact ⟨x, hx, pu_it1 _ st, hv⟩
theorem pm_any {t : pg_T} {f : Nat → Int32} {w : xw_M} {F : xw_M → Option (Int32 × xw_M)} {P : Nat → pg_R} {d n : Nat} {K : Int32} (C : pm_C t w) (hP : pg_okF t P) (hF : pm_F t f w F P d K) (hn : 2000 ≤ n) : pm_F t f w (fX8_any n F) (pg_any t P) (d + 2) K := by
  have c1 := C.1
  have hB := pm_both C hP hF hn
  have oB := pg_both_ok hP
  refine ⟨fun p hp => ?_, fun p hp => ?_⟩
  · obtain ⟨x, hx, e, v⟩ := hB.1 p hp
    obtain ⟨x', a1, a2, a3⟩ := pm_anyJ (n := n) C oB hB n (pg_both t P p) x hx (oB p hp).2.1 (by omega) (fun z => pg_V_mo (v z) (by omega))
    refine ⟨x', a1, ?_, a3⟩
    unfold fX8_any fX8_any_5
    rw [e, pu_b]
    exact (congrArg (fun o => xw_bp o _) a2).trans (pu_ccT a1 _)
  · obtain ⟨x, hx, e⟩ := hB.2 p hp
    refine ⟨x, hx, ?_⟩
    have st : fX8_any_b5 n F x (pm_w w p false K) = some (.inr (x, pm_w w p false K)) := by
      unfold fX8_any_b5
      rw [show (124 : Int32) = nI 124 from rfl, pm_isAt C hp _ K (by decide), pu_bp, pu_biF (fun z => absurd z.1 (by decide)), if_pos rfl]
    unfold fX8_any fX8_any_5
    obtain ⟨n', rfl⟩ : ∃ n', n = n' + 1 := ⟨n - 1, by omega⟩
    rw [e, pu_b, pu_it1 _ st, pu_bp]
    exact pu_ccT hx _
theorem pm_factor {t : pg_T} {f : Nat → Int32} {w : xw_M} (C : pm_C t w) (D : pm_D w) (hf : ∀ k, k < 6 → w.1 127 k = f k) {n : Nat} (hn : 2000 ≤ n) : ∀ (k K d : Nat), k + K = 4 → k < d → pm_F t f w (fX8_factor n d) (pg_part t k) (2 * k) (nI K) := by
  intro k
  induction k with
  | zero =>
    intro K d hk hd
    have hK : K = 4 := by omega
    subst hK
    obtain ⟨d', rfl⟩ : ∃ d', d = d' + 1 := ⟨d - 1, by omega⟩
    have T := pm_test C D hf hn (nI 4)
    have e : ∀ p ok, fX8_factor n (d' + 1) (pm_w w p ok (nI 4)) = xw_b (fX8_test n (pm_w w p ok (nI 4))) (fun r25 w26 => xw_cc (r25 = 0 ∨ r25 = 1) (some (r25, w26))) := by
      intro p ok
      show fX8_factor_s n (fX8_factor n d') (pm_w w p ok (nI 4)) = _
      unfold fX8_factor_s
      rw [pm_13, if_pos (show (4 : Int32) ≤ nI 4 by decide)]
      unfold fX8_factor_s_63
      rw [pm_13, if_pos (show (4 : Int32) ≤ nI 4 by decide)]
      rfl
    refine ⟨fun p hp => ?_, fun p hp => ?_⟩
    · obtain ⟨x, hx, e1, v⟩ := T.1 p hp
      have ep : pg_part t 0 p = pg_test t p := by
        show (if _ then _ else _) = _
        by_cases h : pg_c t p = 33 ∨ pg_c t p = 40
        · rw [if_pos h]
          unfold pg_test
          rw [if_pos (by rcases h with h | h <;> rw [h] <;> decide)]
        · rw [if_neg h]
      rw [ep]
      exact ⟨x, hx, by rw [e, e1, pu_b]; exact pu_ccT hx _, v⟩
    · obtain ⟨x, hx, e1⟩ := T.2 p hp
      exact ⟨x, hx, by rw [e, e1, pu_b]; exact pu_ccT hx _⟩
  | succ k ih =>
    intro K d hk hd
    obtain ⟨d', rfl⟩ : ∃ d', d = d' + 1 := ⟨d - 1, by omega⟩
    have T := pm_test C D hf hn (nI K)
    have I := ih (K + 1) d' (by omega) (by omega)
    have A := pm_any (n := n) C (pg_part_ok t k) I hn
    have nK : ¬ (4 : Int32) ≤ nI K := nI_ge (b := 4) (by omega) (by decide)
    refine ⟨fun p hp => ?_, fun p hp => ?_⟩
    · show ∃ x : Int32, (x = 0 ∨ x = 1) ∧ fX8_factor_s n (fX8_factor n d') (pm_w w p true (nI K)) = _ ∧ _
      unfold fX8_factor_s
      rw [pm_13, if_neg nK, show (33 : Int32) = nI 33 from rfl, pm_isAt C hp true (nI K) (by decide), pu_bp]
      by_cases h : pg_c t p = 33
      · have ep : pg_part t (k + 1) p = ((pg_part t k (p + 1)).1, (pg_part t k (p + 1)).2.1, (pg_part t k (p + 1)).2.2 ++ [(6, 0, 0)]) := if_pos h
        have l := pg_cl h (by decide)
        obtain ⟨x, hx, e1, v⟩ := I.1 (p + 1) l
        rw [ep, pu_biT ⟨rfl, h⟩, if_neg (by decide), pm_11, nI_1, pm_s11, pu_lt, pm_13, nI_1, pm_s13, pu_lt, e1, pu_b]
        refine ⟨if x = 0 then 1 else 0, ?_, ?_, fun z => ?_⟩
        · rcases hx with rfl | rfl
          · exact Or.inr rfl
          · exact Or.inl rfl
        · unfold fX8_factor_s_49
          rw [pm_13, nI_pred, pm_s13, pu_lt, pu_lt]
          rcases hx with rfl | rfl
          · rw [if_pos rfl, if_pos rfl, pu_ccT (Or.inr rfl)]
          · rw [if_neg (by decide), if_neg (by decide), pu_ccT (Or.inl rfl)]
        · have := pg_V_not (v z)
          rw [show decide ((if x = 0 then (1 : Int32) else 0) = 1) = !decide (x = 1) by rcases hx with rfl | rfl <;> decide]
          exact pg_V_mo this (by omega)
      · rw [pu_biF (fun z => h z.2), if_pos rfl]
        unfold fX8_factor_s_63
        rw [pm_13, if_neg nK, show (40 : Int32) = nI 40 from rfl, pm_isAt C hp true (nI K) (by decide), pu_bp]
        by_cases h2 : pg_c t p = 40
        · have l := pg_cl h2 (by decide)
          obtain ⟨x, hx, e1, v⟩ := A.1 (p + 1) l
          have oA := pg_any_ok (pg_part_ok t k) (p + 1) l
          rw [pu_biT ⟨rfl, h2⟩, if_neg (by decide), pm_11, nI_1, pm_s11, pu_lt, pm_13, nI_1, pm_s13, pu_lt, e1, pu_b, pm_13, nI_pred, pm_s13, pu_lt, show (41 : Int32) = nI 41 from rfl, pm_takes C oA.2.1 _ (nI K) (by decide), pu_b, pu_ccT hx]
          have ep : pg_part t (k + 1) p = if (pg_any t (pg_part t k) (p + 1)).1 = true ∧ pg_c t (pg_any t (pg_part t k) (p + 1)).2.1 = 41 then (true, (pg_any t (pg_part t k) (p + 1)).2.1 + 1, (pg_any t (pg_part t k) (p + 1)).2.2) else (false, (pg_any t (pg_part t k) (p + 1)).2.1, (pg_any t (pg_part t k) (p + 1)).2.2) := by
            show (if _ then _ else if _ then _ else _) = _
            rw [if_neg h, if_pos h2]
          rw [ep]
          by_cases h3 : (pg_any t (pg_part t k) (p + 1)).1 = true ∧ pg_c t (pg_any t (pg_part t k) (p + 1)).2.1 = 41
          · rw [if_pos h3, if_pos h3]
            exact ⟨x, hx, rfl, fun _ => pg_V_mo (v h3.1) (by omega)⟩
          · rw [if_neg h3, if_neg h3]
            exact ⟨x, hx, rfl, fun z => Bool.noConfusion z⟩
        · have ep : pg_part t (k + 1) p = pg_test t p := by
            show (if _ then _ else if _ then _ else _) = _
            rw [if_neg h, if_neg h2]
          obtain ⟨x, hx, e1, v⟩ := T.1 p hp
          rw [ep, pu_biF (fun z => h2 z.2), if_pos rfl]
          unfold fX8_factor_s_124
          exact ⟨x, hx, by rw [e1, pu_b]; exact pu_ccT hx _, fun z => pg_V_mo (v z) (by omega)⟩
    · obtain ⟨x, hx, e1⟩ := T.2 p hp
      refine ⟨x, hx, ?_⟩
      show fX8_factor_s n (fX8_factor n d') (pm_w w p false (nI K)) = _
      unfold fX8_factor_s
      rw [pm_13, if_neg nK, show (33 : Int32) = nI 33 from rfl, pm_isAt C hp false (nI K) (by decide), pu_bp, pu_biF (fun z => absurd z.1 (by decide)), if_pos rfl]
      unfold fX8_factor_s_63
      rw [pm_13, if_neg nK, show (40 : Int32) = nI 40 from rfl, pm_isAt C hp false (nI K) (by decide), pu_bp, pu_biF (fun z => absurd z.1 (by decide)), if_pos rfl]
      unfold fX8_factor_s_124
      rw [e1, pu_b]
      exact pu_ccT hx _
