/-! ===== act ===== -/
def ac_7 (F : Int32 → Int32 → Int32 → Int32 → xw_M → Option (Int32 × xw_M)) (r3 r5 a3 x8_7 : Int32) (w12 : xw_M) : Option (Int32 × xw_M) := if r5 = 10 then some (a3 + (w12.1 68 0), w12) else (if r5 = 11 then xw_b (F (0 : Int32) (w12.1 68 2) a3 x8_7 w12) (fun r14 w15 => some (r14 - (w15.1 68 1), w15)) else (if r5 = 12 then xw_b (F (1 : Int32) (w12.1 68 2) a3 x8_7 w12) (fun r18 w19 => some (r18 * (2 : Int32), w19)) else (if r5 = 20 then xw_b (F (1 : Int32) r3 a3 x8_7 w12) (fun r22 w23 => some (r22 ^^^ (6 : Int32), w23)) else (if r5 = 30 then xw_b (F (0 : Int32) r3 (a3 * (3 : Int32)) x8_7 w12) (fun r26 w27 => some (r26, w27)) else (if r5 = 40 then xw_b (F (2 : Int32) r3 a3 x8_7 w12) (fun r30 w31 => xw_b (F (1 : Int32) (w31.1 68 2) (1 : Int32) x8_7 w31) (fun r33 w34 => some (r30 + r33, w34))) else (if r5 = 50 then xw_b (F (0 : Int32) r3 a3 x8_7 w12) (fun r37 w38 => some (-r37, w38)) else (if r5 = 51 then xw_b (F (1 : Int32) r3 (a3 + (1 : Int32)) x8_7 w12) (fun r41 w42 => some (r41, w42)) else (if r5 = 60 then xw_b (F (2 : Int32) r3 (a3 - (w12.1 68 0)) x8_7 w12) (fun r45 w46 => some (r45, w46)) else (if r5 = 70 then xw_b (F (1 : Int32) r3 a3 x8_7 w12) (fun r49 w50 => xw_b (F (0 : Int32) r3 (2 : Int32) x8_7 w50) (fun r52 w53 => some (r49 + r52, w53))) else (if r5 = 71 then xw_b (F (0 : Int32) r3 a3 x8_7 w12) (fun r56 w57 => some (r56 ^^^ (w57.1 68 1), w57)) else (some ((0 : Int32), w12))))))))))))
def ac_8 (n : Nat) (F : Int32 → Int32 → Int32 → Int32 → xw_M → Option (Int32 × xw_M)) (a2 a4 x6_6 r8 : Int32) (w9 : xw_M) : Option (Int32 × xw_M) := if r8 = 10 then some (a4 + a2, w9) else (if r8 = 11 then xw_b (fX8_all n F a2 (0 : Int32) a4 w9) (fun r12 w13 => xw_bp (fX8_one a2 (1 : Int32) w13) (fun r15 => some (r12 - r15, w13))) else (if r8 = 12 then xw_b (fX8_all n F a2 (1 : Int32) a4 w9) (fun r18 w19 => some (r18 * (2 : Int32), w19)) else (if r8 = 20 then xw_b (F x6_6 a2 (1 : Int32) a4 w9) (fun r22 w23 => some (r22 ^^^ (6 : Int32), w23)) else (if r8 = 30 then xw_b (F x6_6 a2 (0 : Int32) (a4 * (3 : Int32)) w9) (fun r26 w27 => some (r26, w27)) else (if r8 = 40 then xw_b (F x6_6 a2 (2 : Int32) a4 w9) (fun r30 w31 => xw_b (fX8_all n F a2 (1 : Int32) (1 : Int32) w31) (fun r33 w34 => some (r30 + r33, w34))) else (if r8 = 50 then xw_b (F x6_6 a2 (0 : Int32) a4 w9) (fun r37 w38 => some (-r37, w38)) else (if r8 = 51 then xw_b (F x6_6 a2 (1 : Int32) (a4 + (1 : Int32)) w9) (fun r41 w42 => some (r41, w42)) else (if r8 = 60 then xw_b (F x6_6 a2 (2 : Int32) (a4 - a2) w9) (fun r45 w46 => some (r45, w46)) else (if r8 = 70 then xw_b (F x6_6 a2 (1 : Int32) a4 w9) (fun r49 w50 => xw_b (F x6_6 a2 (0 : Int32) (2 : Int32) w50) (fun r52 w53 => some (r49 + r52, w53))) else (xw_b (F x6_6 a2 (0 : Int32) a4 w9) (fun r56 w57 => xw_bp (fX8_one a2 (1 : Int32) w57) (fun r59 => some (r56 ^^^ r59, w57)))))))))))))
def ac_d (k : Nat) : Nat := ([0, 1, 1, 1, 2, 2, 2] : List Nat).getD k 0
def ac_B (act d : Nat) : Nat := if act = 0 then d + 1 else if act = 1 then 4 + 4 * d else 13 + 13 * d
def ac_o (act k : Nat) : Nat := ([0, 0, 2, 0, 4, 2, 6, 0, 1, 0, 0, 4, 0, 6, 0, 0, 0, 3, 0, 5, 3] : List Nat).getD (7 * act + k) 0
theorem ac_oL1 : ∀ act, act < 3 → ∀ d, d < 7 → ac_o act d < 7 ∧ ac_d (ac_o act d) ≤ ac_d d := by decide
theorem ac_oL2 : ∀ act, act < 3 → ac_o act 0 = 0 ∧ ¬ xw_body (act * 7 + 0) = 0 := by decide
theorem ac_oL3 : ∀ act, act < 3 → ∀ d, d < 7 → (d = 0 ∨ ¬ xw_body (act * 7 + d) = 0 ∨ ac_o act d = ac_o act (pg_ab d)) := by decide
theorem ac_oL4 : ∀ act, act < 3 → ∀ d, d < 7 → (xw_body (act * 7 + d) = 0 ∨ ac_o act d = d) := by decide
theorem ac_oL (act : Nat) (ha : act < 3) (d : Nat) (hd : d < 7) : ac_o act d < 7 ∧ (d = 0 → ac_o act d = 0 ∧ ¬ xw_body (act * 7 + d) = 0) ∧ (d ≠ 0 → xw_body (act * 7 + d) = 0 → ac_o act d = ac_o act (pg_ab d)) ∧ (¬ xw_body (act * 7 + d) = 0 → ac_o act d = d) ∧ ac_d (ac_o act d) ≤ ac_d d := by
  refine ⟨(ac_oL1 act ha d hd).1, fun h => by subst h; exact ac_oL2 act ha, fun h g => ?_, fun h => ?_, (ac_oL1 act ha d hd).2⟩
  · rcases ac_oL3 act ha d hd with q | q | q
    · exact absurd q h
    · exact absurd g q
    · exact q
  · exact (ac_oL4 act ha d hd).resolve_left h
theorem ac_cs : ∀ act, act < 3 → ∀ d, d < 7 → (act = 0 ∧ (ac_o act d = 0 ∨ ac_o act d = 2 ∨ ac_o act d = 4 ∨ ac_o act d = 6)) ∨ (act = 1 ∧ (ac_o act d = 0 ∨ ac_o act d = 1 ∨ ac_o act d = 4 ∨ ac_o act d = 6)) ∨ (act = 2 ∧ (ac_o act d = 0 ∨ ac_o act d = 3 ∨ ac_o act d = 5)) := by decide
theorem ac_d2 : ∀ k, k < 7 → ac_d k ≤ 2 := by decide
theorem ac_135 : ∀ act, act < 3 → ∀ d, d < 7 → xn_m0.1 135 (3 * d + act) = xw_body (act * 7 + d) := by decide +kernel
theorem ac_own7 {n act : Nat} {a1 : Int32} (ha : act < 3) : ∀ d c m, d < 7 → c + d ≤ 6 → d < m → xw_bp (xw_it (fun z => fX0_ownerOf_b4 n (nI act) a1 z.1 z.2) m (nI d, nI c)) (fun z => xw_su z (fun r => some r) (fun _ => fX0_ownerOf_49 n (nI act) a1)) = some (nI (ac_o act d)) := by
  intro d
  induction d using Nat.strongRecOn with
  | ind d ih =>
    intro c m hd hc hm
    obtain ⟨m, rfl⟩ : ∃ q, m = q + 1 := ⟨m - 1, by omega⟩
    obtain ⟨l0, l1, l2, l3, l4⟩ := ac_oL act ha d hd
    by_cases h0 : d = 0
    · have st : fX0_ownerOf_b4 n (nI act) a1 (nI d) (nI c) = some (.inr (.inr ())) := by
        unfold fX0_ownerOf_b4
        rw [if_neg (nI_ge (show c < 7 by omega) (by decide)), if_pos (by rw [h0]; decide)]
      rw [pu_it1 (fun z => fX0_ownerOf_b4 n (nI act) a1 z.1 z.2) (a := (nI d, nI c)) st, pu_bp, (l1 h0).1]
      rfl
    · have e0 : fX0_ownerOf_b4 n (nI act) a1 (nI d) (nI c) = if xw_body (act * 7 + d) = 0 then some (.inl (nI (pg_ab d), nI (c + 1))) else some (.inr (.inl (nI d))) := by
        unfold fX0_ownerOf_b4
        rw [if_neg (nI_ge (show c < 7 by omega) (by decide)), if_neg (nI_nle (by omega) (by omega)), pk_mul, nI_add, pu_atS _ (show act * 7 + d < 21 by omega) (by decide), pu_bp, pu_atS _ hd (by decide), pu_bp, pu_lt, nI_1, (pg_abL d hd h0).1]
      by_cases q : xw_body (act * 7 + d) = 0
      · rw [if_pos q] at e0
        rw [pu_it0 (fun z => fX0_ownerOf_b4 n (nI act) a1 z.1 z.2) (a := (nI d, nI c)) e0, l2 h0 q]
        have := (pg_abL d hd h0).2
        exact ih (pg_ab d) this (c + 1) m (by omega) (by omega) (by omega)
      · rw [if_neg q] at e0
        rw [pu_it1 (fun z => fX0_ownerOf_b4 n (nI act) a1 z.1 z.2) (a := (nI d, nI c)) e0, pu_bp, l3 q]
        rfl
theorem ac_own8 {n act : Nat} {F : Int32 → Int32 → Int32 → Int32 → xw_M → Option (Int32 × xw_M)} {a1 a2 a4 : Int32} {w : xw_M} (ha : act < 3) (h4 : ∀ k, k < 7 → w.1 134 k = xw_above k) (h5 : ∀ k, k < 7 → w.1 135 (3 * k + act) = xw_body (act * 7 + k)) : ∀ d m, d < 7 → d < m → xw_it (fun z => fX8_byKind_s_b3 n F a1 a2 (nI act) a4 z w) m (nI d) = some (nI (ac_o act d)) := by
  intro d
  induction d using Nat.strongRecOn with
  | ind d ih =>
    intro m hd hm
    obtain ⟨m, rfl⟩ : ∃ q, m = q + 1 := ⟨m - 1, by omega⟩
    obtain ⟨l0, l1, l2, l3, l4⟩ := ac_oL act ha d hd
    have e0 : fX8_byKind_s_b3 n F a1 a2 (nI act) a4 (nI d) w = if xw_body (act * 7 + d) = 0 then some (.inl (xw_above d)) else some (.inr (nI d)) := by
      unfold fX8_byKind_s_b3
      rw [show (3 : Int32) * nI d = nI (3 * d) from pk_mul 3 d, nI_add, pu_ck (show 3 * d + act < 21 by omega) (by decide), pu_cl (show 3 * d + act < 2 ^ 31 by omega), h5 d hd, pu_ck hd (by decide), pu_cl (show d < 2 ^ 31 by omega), h4 d hd, pu_lt]
    by_cases q : xw_body (act * 7 + d) = 0
    · have h0 : d ≠ 0 := fun z => (l1 z).2 q
      rw [if_pos q, (pg_abL d hd h0).1] at e0
      rw [pu_it0 (fun z => fX8_byKind_s_b3 n F a1 a2 (nI act) a4 z w) e0, l2 h0 q]
      have := (pg_abL d hd h0).2
      exact ih (pg_ab d) this m (by omega) (by omega)
    · rw [if_neg q] at e0
      rw [pu_it1 (fun z => fX8_byKind_s_b3 n F a1 a2 (nI act) a4 z w) e0, l3 q]
/-- the two traces, side by side -/
def ac_T (i K : Nat) (v : Int32) (u m : xw_M) (z : Nat) : Prop := u.1 68 0 = nI i ∧ u.1 68 1 = v ∧ u.1 68 2 = nI K ∧ u.1 68 3 = nI z ∧ m.1 119 26 = nI z ∧ (∀ j, j < 20 → j < z → u.1 69 j = m.1 136 j) ∧ m.1 120 (10 * i) = nI K ∧ m.1 120 (10 * i + 1) = v ∧ (∀ k, k < 7 → m.1 134 k = xw_above k) ∧ ∀ act, act < 3 → ∀ k, k < 7 → m.1 135 (3 * k + act) = xw_body (act * 7 + k)
def ac_Fu (u u' : xw_M) : Prop := (∀ k, k ≠ 68 → k ≠ 69 → u'.1 k = u.1 k) ∧ u'.2 = u.2
def ac_Fm (u u' : xw_M) : Prop := (∀ k, k ≠ 119 → k ≠ 136 → u'.1 k = u.1 k) ∧ u'.2 = u.2 ∧ ∀ j, j ≠ 26 → u'.1 119 j = u.1 119 j
theorem ac_Fu_tr {a b c : xw_M} (h : ac_Fu a b) (g : ac_Fu b c) : ac_Fu a c := ⟨fun k h1 h2 => (g.1 k h1 h2).trans (h.1 k h1 h2), g.2.trans h.2⟩
theorem ac_Fm_tr {a b c : xw_M} (h : ac_Fm a b) (g : ac_Fm b c) : ac_Fm a c := ⟨fun k h1 h2 => (g.1 k h1 h2).trans (h.1 k h1 h2), g.2.1.trans h.2.1, fun j hj => (g.2.2 j hj).trans (h.2.2 j hj)⟩
def ac_u1 (u : xw_M) (z : Nat) (b : Int32) : xw_M := xw_si (if z < 20 then xw_si u 69 z b else u) 68 3 (nI (z + 1))
def ac_m1 (m : xw_M) (z : Nat) (b : Int32) : xw_M := xw_si (if z < 20 then xw_si m 136 z b else m) 119 26 (nI (z + 1))
theorem ac_T1 {i K z : Nat} {v b : Int32} {u m : xw_M} (h : ac_T i K v u m z) : ac_T i K v (ac_u1 u z b) (ac_m1 m z b) (z + 1) ∧ ac_Fu u (ac_u1 u z b) ∧ ac_Fm m (ac_m1 m z b) := by
  obtain ⟨t1, t2, t3, t4, t5, t6, t7, t8, t9, t10⟩ := h
  have cu : ∀ k, k ≠ 69 → (if z < 20 then xw_si u 69 z b else u).1 k = u.1 k := fun k hk => by
    by_cases q : z < 20
    · rw [if_pos q, pu_si0 _ _ _ hk]
    · rw [if_neg q]
  have cm : ∀ k, k ≠ 136 → (if z < 20 then xw_si m 136 z b else m).1 k = m.1 k := fun k hk => by
    by_cases q : z < 20
    · rw [if_pos q, pu_si0 _ _ _ hk]
    · rw [if_neg q]
  have lu : (if z < 20 then xw_si u 69 z b else u).2 = u.2 := by
    by_cases q : z < 20
    · rw [if_pos q]; rfl
    · rw [if_neg q]
  have lm : (if z < 20 then xw_si m 136 z b else m).2 = m.2 := by
    by_cases q : z < 20
    · rw [if_pos q]; rfl
    · rw [if_neg q]
  unfold ac_u1 ac_m1
  refine ⟨⟨?_, ?_, ?_, ?_, ?_, fun j h1 h2 => ?_, ?_, ?_, fun k hk => ?_, fun act ha k hk => ?_⟩, ⟨fun k h1 h2 => ?_, lu⟩, ⟨fun k h1 h2 => ?_, lm, fun j hj => ?_⟩⟩
  · rw [pu_si1, pk_un (by decide), cu 68 (by decide)]; exact t1
  · rw [pu_si1, pk_un (by decide), cu 68 (by decide)]; exact t2
  · rw [pu_si1, pk_un (by decide), cu 68 (by decide)]; exact t3
  · rw [pu_si1, pk_us]
  · rw [pu_si1, pk_us]
  · rw [pu_si0 _ _ _ (by decide), pu_si0 _ _ _ (by decide)]
    by_cases q : z < 20
    · rw [if_pos q, if_pos q, pu_si1, pu_si1]
      by_cases e : j = z
      · rw [e, pk_us, pk_us]
      · rw [pk_un e, pk_un e]; exact t6 j h1 (by omega)
    · rw [if_neg q, if_neg q]; exact t6 j h1 (by omega)
  · rw [pu_si0 _ _ _ (by decide), cm 120 (by decide)]; exact t7
  · rw [pu_si0 _ _ _ (by decide), cm 120 (by decide)]; exact t8
  · rw [pu_si0 _ _ _ (by decide), cm 134 (by decide)]; exact t9 k hk
  · rw [pu_si0 _ _ _ (by decide), cm 135 (by decide)]; exact t10 act ha k hk
  · rw [pu_si0 _ _ _ h1, cu k h2]
  · rw [pu_si0 _ _ _ h1, cm k h2]
  · rw [pu_si1, pk_un hj, cm 119 (by decide)]
def ac_P (n i K : Nat) (v : Int32) (ν : Nat) : Prop := ∀ (act k z op d7 d8 : Nat) (x : Int32) (u m : xw_M), act < 3 → k < 7 → 3 * act + ac_d k < ν → ν ≤ d7 → ν ≤ d8 → op + ν ≤ 40 → z + ac_B act (ac_d k) ≤ 99 → ac_T i K v u m z → ∃ (r : Int32) (u' m' : xw_M) (z' : Nat), fX0_run n d7 (nI act) (nI k) x (nI op) u = some (r, u') ∧ fX8_byKind n d8 (nI k) (nI i) (nI act) x m = some (r, m') ∧ z' ≤ z + ac_B act (ac_d k) ∧ ac_T i K v u' m' z' ∧ ac_Fu u u' ∧ ac_Fm m m'
theorem ac_s7 {n act k z op : Nat} {F : Int32 → Int32 → Int32 → Int32 → xw_M → Option (Int32 × xw_M)} {x : Int32} {u : xw_M} (hn : 2000 ≤ n) (ha : act < 3) (hk : k < 7) (hz : z ≤ 99) (hop : op + 1 ≤ 40) (h : u.1 68 3 = nI z) : fX0_run_s n F (nI act) (nI k) x (nI op) u = ac_7 F (xw_above (ac_o act k)) (xw_body (act * 7 + ac_o act k)) x (nI (op + 1)) (ac_u1 u z (xw_body (act * 7 + ac_o act k))) := by
  have ho := (ac_oL act ha k hk).1
  unfold fX0_run_s
  have e : fX0_ownerOf n (nI act) (nI k) = some (nI (ac_o act k)) := ac_own7 ha k 0 n hk (by omega) (by omega)
  rw [e, pu_bp, pu_atS _ ho (by decide), pu_bp, pk_mul, nI_add, pu_atS _ (show act * 7 + ac_o act k < 21 by omega) (by decide), pu_bp, nI_1, pu_lt, if_pos (show nI (op + 1) ≤ (40 : Int32) from nI_le (b := 40) hop (by decide)), h]
  have ep : fX7_put 69 20 (nI z) (xw_body (act * 7 + ac_o act k)) u = some ((), if z < 20 then xw_si u 69 z (xw_body (act * 7 + ac_o act k)) else u) := by
    by_cases q : z < 20
    · rw [if_pos q, pu_put _ _ q (by decide)]
    · rw [if_neg q]
      unfold fX7_put
      rw [if_neg (nI_pos (by omega)), if_pos (nI_le (by omega) (by omega))]
  have e3 : (if z < 20 then xw_si u 69 z (xw_body (act * 7 + ac_o act k)) else u).1 68 3 = nI z := by
    by_cases q : z < 20
    · rw [if_pos q, pu_si0 _ _ _ (by decide), h]
    · rw [if_neg q, h]
  rw [ep, pu_b, e3, nI_1, pu_lt]
  rfl
theorem ac_s8 {n act k z i : Nat} {F : Int32 → Int32 → Int32 → Int32 → xw_M → Option (Int32 × xw_M)} {x : Int32} {m : xw_M} (hn : 2000 ≤ n) (ha : act < 3) (hk : k < 7) (hz : z ≤ 99) (h : m.1 119 26 = nI z) (h4 : ∀ k, k < 7 → m.1 134 k = xw_above k) (h5 : ∀ k, k < 7 → m.1 135 (3 * k + act) = xw_body (act * 7 + k)) : fX8_byKind_s n F (nI k) (nI i) (nI act) x m = ac_8 n F (nI i) x (xw_above (ac_o act k)) (xw_body (act * 7 + ac_o act k)) (ac_m1 m z (xw_body (act * 7 + ac_o act k))) := by
  have ho := (ac_oL act ha k hk).1
  unfold fX8_byKind_s fX8_byKind_s_3
  rw [ac_own8 ha h4 h5 k n hk (by omega), pu_bp]
  show fX8_byKind_s_29 n F (nI k) (nI i) (nI act) x (nI (ac_o act k)) m = _
  unfold fX8_byKind_s_29
  have eb : ∀ b : Int32, fX8_body b m = some (b, ac_m1 m z b) := by
    intro b
    unfold fX8_body fX8_body_19 ac_m1
    rw [h]
    by_cases q : z < 20
    · rw [if_neg (show ¬ (20 : Int32) ≤ nI z from nI_ge (b := 20) q (by decide)), pu_ck q (by decide), pu_cl (by omega), if_pos q, pu_lt, pu_si0 _ _ _ (by decide), h, nI_1, pu_lt]
    · rw [if_pos (show (20 : Int32) ≤ nI z from nI_le (a := 20) (by omega) (by omega)), if_neg q, nI_1, pu_lt]
  rw [pu_ck ho (by decide), pu_cl (by omega), h4 _ ho, pu_lt, show (3 : Int32) * nI (ac_o act k) = nI (3 * ac_o act k) from pk_mul 3 _, nI_add, pu_ck (show 3 * ac_o act k + act < 21 by omega) (by decide), pu_cl (show 3 * ac_o act k + act < 2 ^ 31 by omega), h5 _ ho, eb, pu_b]
  rfl
