/-! ===== act: what each body does ===== -/
theorem ac_7_10 (F : Int32 → Int32 → Int32 → Int32 → xw_M → Option (Int32 × xw_M)) (r3 a3 x8_7 : Int32) (w12 : xw_M) : ac_7 F r3 10 a3 x8_7 w12 = some (a3 + (w12.1 68 0), w12) := by
  unfold ac_7
  rw [if_pos (show (10 : Int32) = 10 from rfl)]
theorem ac_7_11 (F : Int32 → Int32 → Int32 → Int32 → xw_M → Option (Int32 × xw_M)) (r3 a3 x8_7 : Int32) (w12 : xw_M) : ac_7 F r3 11 a3 x8_7 w12 = xw_b (F (0 : Int32) (w12.1 68 2) a3 x8_7 w12) (fun r14 w15 => some (r14 - (w15.1 68 1), w15)) := by
  unfold ac_7
  rw [if_neg (show ¬ (11 : Int32) = 10 by decide), if_pos (show (11 : Int32) = 11 from rfl)]
theorem ac_7_12 (F : Int32 → Int32 → Int32 → Int32 → xw_M → Option (Int32 × xw_M)) (r3 a3 x8_7 : Int32) (w12 : xw_M) : ac_7 F r3 12 a3 x8_7 w12 = xw_b (F (1 : Int32) (w12.1 68 2) a3 x8_7 w12) (fun r18 w19 => some (r18 * (2 : Int32), w19)) := by
  unfold ac_7
  rw [if_neg (show ¬ (12 : Int32) = 10 by decide), if_neg (show ¬ (12 : Int32) = 11 by decide), if_pos (show (12 : Int32) = 12 from rfl)]
theorem ac_7_20 (F : Int32 → Int32 → Int32 → Int32 → xw_M → Option (Int32 × xw_M)) (r3 a3 x8_7 : Int32) (w12 : xw_M) : ac_7 F r3 20 a3 x8_7 w12 = xw_b (F (1 : Int32) r3 a3 x8_7 w12) (fun r22 w23 => some (r22 ^^^ (6 : Int32), w23)) := by
  unfold ac_7
  rw [if_neg (show ¬ (20 : Int32) = 10 by decide), if_neg (show ¬ (20 : Int32) = 11 by decide), if_neg (show ¬ (20 : Int32) = 12 by decide), if_pos (show (20 : Int32) = 20 from rfl)]
theorem ac_7_30 (F : Int32 → Int32 → Int32 → Int32 → xw_M → Option (Int32 × xw_M)) (r3 a3 x8_7 : Int32) (w12 : xw_M) : ac_7 F r3 30 a3 x8_7 w12 = xw_b (F (0 : Int32) r3 (a3 * (3 : Int32)) x8_7 w12) (fun r26 w27 => some (r26, w27)) := by
  unfold ac_7
  rw [if_neg (show ¬ (30 : Int32) = 10 by decide), if_neg (show ¬ (30 : Int32) = 11 by decide), if_neg (show ¬ (30 : Int32) = 12 by decide), if_neg (show ¬ (30 : Int32) = 20 by decide), if_pos (show (30 : Int32) = 30 from rfl)]
theorem ac_7_40 (F : Int32 → Int32 → Int32 → Int32 → xw_M → Option (Int32 × xw_M)) (r3 a3 x8_7 : Int32) (w12 : xw_M) : ac_7 F r3 40 a3 x8_7 w12 = xw_b (F (2 : Int32) r3 a3 x8_7 w12) (fun r30 w31 => xw_b (F (1 : Int32) (w31.1 68 2) (1 : Int32) x8_7 w31) (fun r33 w34 => some (r30 + r33, w34))) := by
  unfold ac_7
  rw [if_neg (show ¬ (40 : Int32) = 10 by decide), if_neg (show ¬ (40 : Int32) = 11 by decide), if_neg (show ¬ (40 : Int32) = 12 by decide), if_neg (show ¬ (40 : Int32) = 20 by decide), if_neg (show ¬ (40 : Int32) = 30 by decide), if_pos (show (40 : Int32) = 40 from rfl)]
theorem ac_7_50 (F : Int32 → Int32 → Int32 → Int32 → xw_M → Option (Int32 × xw_M)) (r3 a3 x8_7 : Int32) (w12 : xw_M) : ac_7 F r3 50 a3 x8_7 w12 = xw_b (F (0 : Int32) r3 a3 x8_7 w12) (fun r37 w38 => some (-r37, w38)) := by
  unfold ac_7
  rw [if_neg (show ¬ (50 : Int32) = 10 by decide), if_neg (show ¬ (50 : Int32) = 11 by decide), if_neg (show ¬ (50 : Int32) = 12 by decide), if_neg (show ¬ (50 : Int32) = 20 by decide), if_neg (show ¬ (50 : Int32) = 30 by decide), if_neg (show ¬ (50 : Int32) = 40 by decide), if_pos (show (50 : Int32) = 50 from rfl)]
theorem ac_7_51 (F : Int32 → Int32 → Int32 → Int32 → xw_M → Option (Int32 × xw_M)) (r3 a3 x8_7 : Int32) (w12 : xw_M) : ac_7 F r3 51 a3 x8_7 w12 = xw_b (F (1 : Int32) r3 (a3 + (1 : Int32)) x8_7 w12) (fun r41 w42 => some (r41, w42)) := by
  unfold ac_7
  rw [if_neg (show ¬ (51 : Int32) = 10 by decide), if_neg (show ¬ (51 : Int32) = 11 by decide), if_neg (show ¬ (51 : Int32) = 12 by decide), if_neg (show ¬ (51 : Int32) = 20 by decide), if_neg (show ¬ (51 : Int32) = 30 by decide), if_neg (show ¬ (51 : Int32) = 40 by decide), if_neg (show ¬ (51 : Int32) = 50 by decide), if_pos (show (51 : Int32) = 51 from rfl)]
theorem ac_7_60 (F : Int32 → Int32 → Int32 → Int32 → xw_M → Option (Int32 × xw_M)) (r3 a3 x8_7 : Int32) (w12 : xw_M) : ac_7 F r3 60 a3 x8_7 w12 = xw_b (F (2 : Int32) r3 (a3 - (w12.1 68 0)) x8_7 w12) (fun r45 w46 => some (r45, w46)) := by
  unfold ac_7
  rw [if_neg (show ¬ (60 : Int32) = 10 by decide), if_neg (show ¬ (60 : Int32) = 11 by decide), if_neg (show ¬ (60 : Int32) = 12 by decide), if_neg (show ¬ (60 : Int32) = 20 by decide), if_neg (show ¬ (60 : Int32) = 30 by decide), if_neg (show ¬ (60 : Int32) = 40 by decide), if_neg (show ¬ (60 : Int32) = 50 by decide), if_neg (show ¬ (60 : Int32) = 51 by decide), if_pos (show (60 : Int32) = 60 from rfl)]
theorem ac_7_70 (F : Int32 → Int32 → Int32 → Int32 → xw_M → Option (Int32 × xw_M)) (r3 a3 x8_7 : Int32) (w12 : xw_M) : ac_7 F r3 70 a3 x8_7 w12 = xw_b (F (1 : Int32) r3 a3 x8_7 w12) (fun r49 w50 => xw_b (F (0 : Int32) r3 (2 : Int32) x8_7 w50) (fun r52 w53 => some (r49 + r52, w53))) := by
  unfold ac_7
  rw [if_neg (show ¬ (70 : Int32) = 10 by decide), if_neg (show ¬ (70 : Int32) = 11 by decide), if_neg (show ¬ (70 : Int32) = 12 by decide), if_neg (show ¬ (70 : Int32) = 20 by decide), if_neg (show ¬ (70 : Int32) = 30 by decide), if_neg (show ¬ (70 : Int32) = 40 by decide), if_neg (show ¬ (70 : Int32) = 50 by decide), if_neg (show ¬ (70 : Int32) = 51 by decide), if_neg (show ¬ (70 : Int32) = 60 by decide), if_pos (show (70 : Int32) = 70 from rfl)]
theorem ac_7_71 (F : Int32 → Int32 → Int32 → Int32 → xw_M → Option (Int32 × xw_M)) (r3 a3 x8_7 : Int32) (w12 : xw_M) : ac_7 F r3 71 a3 x8_7 w12 = xw_b (F (0 : Int32) r3 a3 x8_7 w12) (fun r56 w57 => some (r56 ^^^ (w57.1 68 1), w57)) := by
  unfold ac_7
  rw [if_neg (show ¬ (71 : Int32) = 10 by decide), if_neg (show ¬ (71 : Int32) = 11 by decide), if_neg (show ¬ (71 : Int32) = 12 by decide), if_neg (show ¬ (71 : Int32) = 20 by decide), if_neg (show ¬ (71 : Int32) = 30 by decide), if_neg (show ¬ (71 : Int32) = 40 by decide), if_neg (show ¬ (71 : Int32) = 50 by decide), if_neg (show ¬ (71 : Int32) = 51 by decide), if_neg (show ¬ (71 : Int32) = 60 by decide), if_neg (show ¬ (71 : Int32) = 70 by decide), if_pos (show (71 : Int32) = 71 from rfl)]
theorem ac_8_10 (n : Nat) (F : Int32 → Int32 → Int32 → Int32 → xw_M → Option (Int32 × xw_M)) (a2 a4 x6_6 : Int32) (w9 : xw_M) : ac_8 n F a2 a4 x6_6 10 w9 = some (a4 + a2, w9) := by
  unfold ac_8
  rw [if_pos (show (10 : Int32) = 10 from rfl)]
theorem ac_8_11 (n : Nat) (F : Int32 → Int32 → Int32 → Int32 → xw_M → Option (Int32 × xw_M)) (a2 a4 x6_6 : Int32) (w9 : xw_M) : ac_8 n F a2 a4 x6_6 11 w9 = xw_b (fX8_all n F a2 (0 : Int32) a4 w9) (fun r12 w13 => xw_bp (fX8_one a2 (1 : Int32) w13) (fun r15 => some (r12 - r15, w13))) := by
  unfold ac_8
  rw [if_neg (show ¬ (11 : Int32) = 10 by decide), if_pos (show (11 : Int32) = 11 from rfl)]
theorem ac_8_12 (n : Nat) (F : Int32 → Int32 → Int32 → Int32 → xw_M → Option (Int32 × xw_M)) (a2 a4 x6_6 : Int32) (w9 : xw_M) : ac_8 n F a2 a4 x6_6 12 w9 = xw_b (fX8_all n F a2 (1 : Int32) a4 w9) (fun r18 w19 => some (r18 * (2 : Int32), w19)) := by
  unfold ac_8
  rw [if_neg (show ¬ (12 : Int32) = 10 by decide), if_neg (show ¬ (12 : Int32) = 11 by decide), if_pos (show (12 : Int32) = 12 from rfl)]
theorem ac_8_20 (n : Nat) (F : Int32 → Int32 → Int32 → Int32 → xw_M → Option (Int32 × xw_M)) (a2 a4 x6_6 : Int32) (w9 : xw_M) : ac_8 n F a2 a4 x6_6 20 w9 = xw_b (F x6_6 a2 (1 : Int32) a4 w9) (fun r22 w23 => some (r22 ^^^ (6 : Int32), w23)) := by
  unfold ac_8
  rw [if_neg (show ¬ (20 : Int32) = 10 by decide), if_neg (show ¬ (20 : Int32) = 11 by decide), if_neg (show ¬ (20 : Int32) = 12 by decide), if_pos (show (20 : Int32) = 20 from rfl)]
theorem ac_8_30 (n : Nat) (F : Int32 → Int32 → Int32 → Int32 → xw_M → Option (Int32 × xw_M)) (a2 a4 x6_6 : Int32) (w9 : xw_M) : ac_8 n F a2 a4 x6_6 30 w9 = xw_b (F x6_6 a2 (0 : Int32) (a4 * (3 : Int32)) w9) (fun r26 w27 => some (r26, w27)) := by
  unfold ac_8
  rw [if_neg (show ¬ (30 : Int32) = 10 by decide), if_neg (show ¬ (30 : Int32) = 11 by decide), if_neg (show ¬ (30 : Int32) = 12 by decide), if_neg (show ¬ (30 : Int32) = 20 by decide), if_pos (show (30 : Int32) = 30 from rfl)]
theorem ac_8_40 (n : Nat) (F : Int32 → Int32 → Int32 → Int32 → xw_M → Option (Int32 × xw_M)) (a2 a4 x6_6 : Int32) (w9 : xw_M) : ac_8 n F a2 a4 x6_6 40 w9 = xw_b (F x6_6 a2 (2 : Int32) a4 w9) (fun r30 w31 => xw_b (fX8_all n F a2 (1 : Int32) (1 : Int32) w31) (fun r33 w34 => some (r30 + r33, w34))) := by
  unfold ac_8
  rw [if_neg (show ¬ (40 : Int32) = 10 by decide), if_neg (show ¬ (40 : Int32) = 11 by decide), if_neg (show ¬ (40 : Int32) = 12 by decide), if_neg (show ¬ (40 : Int32) = 20 by decide), if_neg (show ¬ (40 : Int32) = 30 by decide), if_pos (show (40 : Int32) = 40 from rfl)]
theorem ac_8_50 (n : Nat) (F : Int32 → Int32 → Int32 → Int32 → xw_M → Option (Int32 × xw_M)) (a2 a4 x6_6 : Int32) (w9 : xw_M) : ac_8 n F a2 a4 x6_6 50 w9 = xw_b (F x6_6 a2 (0 : Int32) a4 w9) (fun r37 w38 => some (-r37, w38)) := by
  unfold ac_8
  rw [if_neg (show ¬ (50 : Int32) = 10 by decide), if_neg (show ¬ (50 : Int32) = 11 by decide), if_neg (show ¬ (50 : Int32) = 12 by decide), if_neg (show ¬ (50 : Int32) = 20 by decide), if_neg (show ¬ (50 : Int32) = 30 by decide), if_neg (show ¬ (50 : Int32) = 40 by decide), if_pos (show (50 : Int32) = 50 from rfl)]
theorem ac_8_51 (n : Nat) (F : Int32 → Int32 → Int32 → Int32 → xw_M → Option (Int32 × xw_M)) (a2 a4 x6_6 : Int32) (w9 : xw_M) : ac_8 n F a2 a4 x6_6 51 w9 = xw_b (F x6_6 a2 (1 : Int32) (a4 + (1 : Int32)) w9) (fun r41 w42 => some (r41, w42)) := by
  unfold ac_8
  rw [if_neg (show ¬ (51 : Int32) = 10 by decide), if_neg (show ¬ (51 : Int32) = 11 by decide), if_neg (show ¬ (51 : Int32) = 12 by decide), if_neg (show ¬ (51 : Int32) = 20 by decide), if_neg (show ¬ (51 : Int32) = 30 by decide), if_neg (show ¬ (51 : Int32) = 40 by decide), if_neg (show ¬ (51 : Int32) = 50 by decide), if_pos (show (51 : Int32) = 51 from rfl)]
theorem ac_8_60 (n : Nat) (F : Int32 → Int32 → Int32 → Int32 → xw_M → Option (Int32 × xw_M)) (a2 a4 x6_6 : Int32) (w9 : xw_M) : ac_8 n F a2 a4 x6_6 60 w9 = xw_b (F x6_6 a2 (2 : Int32) (a4 - a2) w9) (fun r45 w46 => some (r45, w46)) := by
  unfold ac_8
  rw [if_neg (show ¬ (60 : Int32) = 10 by decide), if_neg (show ¬ (60 : Int32) = 11 by decide), if_neg (show ¬ (60 : Int32) = 12 by decide), if_neg (show ¬ (60 : Int32) = 20 by decide), if_neg (show ¬ (60 : Int32) = 30 by decide), if_neg (show ¬ (60 : Int32) = 40 by decide), if_neg (show ¬ (60 : Int32) = 50 by decide), if_neg (show ¬ (60 : Int32) = 51 by decide), if_pos (show (60 : Int32) = 60 from rfl)]
theorem ac_8_70 (n : Nat) (F : Int32 → Int32 → Int32 → Int32 → xw_M → Option (Int32 × xw_M)) (a2 a4 x6_6 : Int32) (w9 : xw_M) : ac_8 n F a2 a4 x6_6 70 w9 = xw_b (F x6_6 a2 (1 : Int32) a4 w9) (fun r49 w50 => xw_b (F x6_6 a2 (0 : Int32) (2 : Int32) w50) (fun r52 w53 => some (r49 + r52, w53))) := by
  unfold ac_8
  rw [if_neg (show ¬ (70 : Int32) = 10 by decide), if_neg (show ¬ (70 : Int32) = 11 by decide), if_neg (show ¬ (70 : Int32) = 12 by decide), if_neg (show ¬ (70 : Int32) = 20 by decide), if_neg (show ¬ (70 : Int32) = 30 by decide), if_neg (show ¬ (70 : Int32) = 40 by decide), if_neg (show ¬ (70 : Int32) = 50 by decide), if_neg (show ¬ (70 : Int32) = 51 by decide), if_neg (show ¬ (70 : Int32) = 60 by decide), if_pos (show (70 : Int32) = 70 from rfl)]
theorem ac_8_71 (n : Nat) (F : Int32 → Int32 → Int32 → Int32 → xw_M → Option (Int32 × xw_M)) (a2 a4 x6_6 : Int32) (w9 : xw_M) : ac_8 n F a2 a4 x6_6 71 w9 = xw_b (F x6_6 a2 (0 : Int32) a4 w9) (fun r56 w57 => xw_bp (fX8_one a2 (1 : Int32) w57) (fun r59 => some (r56 ^^^ r59, w57))) := by
  unfold ac_8
  rw [if_neg (show ¬ (71 : Int32) = 10 by decide), if_neg (show ¬ (71 : Int32) = 11 by decide), if_neg (show ¬ (71 : Int32) = 12 by decide), if_neg (show ¬ (71 : Int32) = 20 by decide), if_neg (show ¬ (71 : Int32) = 30 by decide), if_neg (show ¬ (71 : Int32) = 40 by decide), if_neg (show ¬ (71 : Int32) = 50 by decide), if_neg (show ¬ (71 : Int32) = 51 by decide), if_neg (show ¬ (71 : Int32) = 60 by decide), if_neg (show ¬ (71 : Int32) = 70 by decide)]
theorem ac_B0 (d : Nat) : ac_B 0 d = d + 1 := rfl
theorem ac_B1 (d : Nat) : ac_B 1 d = 4 + 4 * d := rfl
theorem ac_B2 (d : Nat) : ac_B 2 d = 13 + 13 * d := rfl
theorem ac_allE {n i K : Nat} {F : Int32 → Int32 → Int32 → Int32 → xw_M → Option (Int32 × xw_M)} {a x : Int32} {w : xw_M} (hi : i < 6) (h : w.1 120 (10 * i) = nI K) : fX8_all n F (nI i) a x w = xw_b (F (nI K) (nI i) a x w) (fun r3 w4 => some (r3, w4)) := by
  unfold fX8_all
  rw [pu_o0 hi, pu_bp, h]
theorem ac_all {n i K : Nat} {v : Int32} (hn : 2000 ≤ n) (hi : i < 6) (hK : K < 7) : ∀ ν, ac_P n i K v ν := by
  intro ν
  induction ν with
  | zero => intro act k z op d7 d8 x u m ha hk hμ; omega
  | succ ν ih =>
    intro act k z op d7 d8 x u m ha hk hμ h7 h8 hop hz T
    obtain ⟨d7, rfl⟩ : ∃ q, d7 = q + 1 := ⟨d7 - 1, by omega⟩
    obtain ⟨d8, rfl⟩ : ∃ q, d8 = q + 1 := ⟨d8 - 1, by omega⟩
    obtain ⟨-, -, -, t4, t5, -, -, -, t9, t10⟩ := id T
    have hz99 : z ≤ 99 := by omega
    have e7 := ac_s7 (F := fX0_run n d7) (x := x) hn ha hk hz99 (show op + 1 ≤ 40 by omega) t4
    have e8 := ac_s8 (i := i) (F := fX8_byKind n d8) (x := x) hn ha hk hz99 t5 t9 (t10 act ha)
    show ∃ (r : Int32) (u' m' : xw_M) (z' : Nat), fX0_run_s n (fX0_run n d7) (nI act) (nI k) x (nI op) u = some (r, u') ∧ fX8_byKind_s n (fX8_byKind n d8) (nI k) (nI i) (nI act) x m = some (r, m') ∧ _
    rw [e7, e8]
    obtain ⟨T1, Fu, Fm⟩ := ac_T1 (b := xw_body (act * 7 + ac_o act k)) T
    generalize ac_u1 u z (xw_body (act * 7 + ac_o act k)) = u1 at T1 Fu ⊢
    generalize ac_m1 m z (xw_body (act * 7 + ac_o act k)) = m1 at T1 Fm ⊢
    have hdo := (ac_oL1 act ha k hk).2
    have D0 : ac_d 0 = 0 := rfl
    have D1 : ac_d 1 = 1 := rfl
    have D2 : ac_d 2 = 1 := rfl
    have D3 : ac_d 3 = 1 := rfl
    have D4 : ac_d 4 = 2 := rfl
    have D5 : ac_d 5 = 2 := rfl
    have D6 : ac_d 6 = 2 := rfl
    have DK := ac_d2 K hK
    obtain ⟨s1, s2, s3, -, -, -, s7, s8, -, -⟩ := id T1
    rcases ac_cs act ha k hk with ⟨rfl, c⟩ | ⟨rfl, c⟩ | ⟨rfl, c⟩
    · rw [ac_B0] at hz ⊢
      rcases c with c | c | c | c
      · rw [c] at hdo ⊢
        rw [show xw_body (0 * 7 + 0) = 10 by decide, show xw_above 0 = -1 by decide]
        refine ⟨x + nI i, u1, m1, z + 1, ?_, ?_, by omega, T1, Fu, Fm⟩
        · rw [ac_7_10, s1]
        · rw [ac_8_10]
      · rw [c] at hdo ⊢
        rw [show xw_body (0 * 7 + 2) = 30 by decide, show xw_above 2 = nI 0 by decide]
        obtain ⟨r, u', m', z', e7', e8', hz', T', Fu', Fm'⟩ := ih 0 0 (z + 1) (op + 1) d7 d8 (x * 3) u1 m1 (by decide) (by decide) (by omega) (by omega) (by omega) (by omega) (by rw [ac_B0]; omega) T1
        rw [ac_B0] at hz'
        obtain ⟨y1, y2, y3, -, -, -, y7, y8, -, -⟩ := id T'
        refine ⟨r, u', m', z', ?_, ?_, by omega, T', ac_Fu_tr (Fu) Fu', ac_Fm_tr (Fm) Fm'⟩
        · rw [ac_7_30]
          show xw_b (fX0_run n d7 (nI 0) (nI 0) (x * 3) (nI (op + 1)) u1) _ = _
          rw [e7', pu_b]
        · rw [ac_8_30]
          show xw_b (fX8_byKind n d8 (nI 0) (nI i) (nI 0) (x * 3) m1) _ = _
          rw [e8', pu_b]
      · rw [c] at hdo ⊢
        rw [show xw_body (0 * 7 + 4) = 50 by decide, show xw_above 4 = nI 1 by decide]
        obtain ⟨r, u', m', z', e7', e8', hz', T', Fu', Fm'⟩ := ih 0 1 (z + 1) (op + 1) d7 d8 (x) u1 m1 (by decide) (by decide) (by omega) (by omega) (by omega) (by omega) (by rw [ac_B0]; omega) T1
        rw [ac_B0] at hz'
        obtain ⟨y1, y2, y3, -, -, -, y7, y8, -, -⟩ := id T'
        refine ⟨-r, u', m', z', ?_, ?_, by omega, T', ac_Fu_tr (Fu) Fu', ac_Fm_tr (Fm) Fm'⟩
        · rw [ac_7_50]
          show xw_b (fX0_run n d7 (nI 0) (nI 1) (x) (nI (op + 1)) u1) _ = _
          rw [e7', pu_b]
        · rw [ac_8_50]
          show xw_b (fX8_byKind n d8 (nI 1) (nI i) (nI 0) (x) m1) _ = _
          rw [e8', pu_b]
      · rw [c] at hdo ⊢
        rw [show xw_body (0 * 7 + 6) = 71 by decide, show xw_above 6 = nI 3 by decide]
        obtain ⟨r, u', m', z', e7', e8', hz', T', Fu', Fm'⟩ := ih 0 3 (z + 1) (op + 1) d7 d8 (x) u1 m1 (by decide) (by decide) (by omega) (by omega) (by omega) (by omega) (by rw [ac_B0]; omega) T1
        rw [ac_B0] at hz'
        obtain ⟨y1, y2, y3, -, -, -, y7, y8, -, -⟩ := id T'
        refine ⟨r ^^^ v, u', m', z', ?_, ?_, by omega, T', ac_Fu_tr (Fu) Fu', ac_Fm_tr (Fm) Fm'⟩
        · rw [ac_7_71]
          show xw_b (fX0_run n d7 (nI 0) (nI 3) (x) (nI (op + 1)) u1) _ = _
          rw [e7', pu_b]
          rw [y2]
        · rw [ac_8_71]
          show xw_b (fX8_byKind n d8 (nI 3) (nI i) (nI 0) (x) m1) _ = _
          rw [e8', pu_b]
          rw [pu_o1 hi, pu_bp, y8]
    · rw [ac_B1] at hz ⊢
      rcases c with c | c | c | c
      · rw [c] at hdo ⊢
        rw [show xw_body (1 * 7 + 0) = 11 by decide, show xw_above 0 = -1 by decide]
        obtain ⟨r, u', m', z', e7', e8', hz', T', Fu', Fm'⟩ := ih 0 K (z + 1) (op + 1) d7 d8 (x) u1 m1 (by decide) hK (by omega) (by omega) (by omega) (by omega) (by rw [ac_B0]; omega) T1
        rw [ac_B0] at hz'
        obtain ⟨y1, y2, y3, -, -, -, y7, y8, -, -⟩ := id T'
        refine ⟨r - v, u', m', z', ?_, ?_, by omega, T', ac_Fu_tr (Fu) Fu', ac_Fm_tr (Fm) Fm'⟩
        · rw [ac_7_11]
          rw [s3]
          show xw_b (fX0_run n d7 (nI 0) (nI K) (x) (nI (op + 1)) u1) _ = _
          rw [e7', pu_b]
          rw [y2]
        · rw [ac_8_11]
          rw [ac_allE hi s7]
          show xw_b (xw_b (fX8_byKind n d8 (nI K) (nI i) (nI 0) (x) m1) _) _ = _
          rw [e8', pu_b, pu_b]
          rw [pu_o1 hi, pu_bp, y8]
      · rw [c] at hdo ⊢
        rw [show xw_body (1 * 7 + 1) = 20 by decide, show xw_above 1 = nI 0 by decide]
        obtain ⟨r, u', m', z', e7', e8', hz', T', Fu', Fm'⟩ := ih 1 0 (z + 1) (op + 1) d7 d8 (x) u1 m1 (by decide) (by decide) (by omega) (by omega) (by omega) (by omega) (by rw [ac_B1]; omega) T1
        rw [ac_B1] at hz'
        obtain ⟨y1, y2, y3, -, -, -, y7, y8, -, -⟩ := id T'
        refine ⟨r ^^^ 6, u', m', z', ?_, ?_, by omega, T', ac_Fu_tr (Fu) Fu', ac_Fm_tr (Fm) Fm'⟩
        · rw [ac_7_20]
          show xw_b (fX0_run n d7 (nI 1) (nI 0) (x) (nI (op + 1)) u1) _ = _
          rw [e7', pu_b]
        · rw [ac_8_20]
          show xw_b (fX8_byKind n d8 (nI 0) (nI i) (nI 1) (x) m1) _ = _
          rw [e8', pu_b]
      · rw [c] at hdo ⊢
        rw [show xw_body (1 * 7 + 4) = 51 by decide, show xw_above 4 = nI 1 by decide]
        obtain ⟨r, u', m', z', e7', e8', hz', T', Fu', Fm'⟩ := ih 1 1 (z + 1) (op + 1) d7 d8 (x + 1) u1 m1 (by decide) (by decide) (by omega) (by omega) (by omega) (by omega) (by rw [ac_B1]; omega) T1
        rw [ac_B1] at hz'
        obtain ⟨y1, y2, y3, -, -, -, y7, y8, -, -⟩ := id T'
        refine ⟨r, u', m', z', ?_, ?_, by omega, T', ac_Fu_tr (Fu) Fu', ac_Fm_tr (Fm) Fm'⟩
        · rw [ac_7_51]
          show xw_b (fX0_run n d7 (nI 1) (nI 1) (x + 1) (nI (op + 1)) u1) _ = _
          rw [e7', pu_b]
        · rw [ac_8_51]
          show xw_b (fX8_byKind n d8 (nI 1) (nI i) (nI 1) (x + 1) m1) _ = _
          rw [e8', pu_b]
      · rw [c] at hdo ⊢
        rw [show xw_body (1 * 7 + 6) = 70 by decide, show xw_above 6 = nI 3 by decide]
        obtain ⟨r, u', m', z', e7', e8', hz', T', Fu', Fm'⟩ := ih 1 3 (z + 1) (op + 1) d7 d8 (x) u1 m1 (by decide) (by decide) (by omega) (by omega) (by omega) (by omega) (by rw [ac_B1]; omega) T1
        rw [ac_B1] at hz'
        obtain ⟨r2, u2, m2, z2, e72, e82, hz2, T2, Fu2, Fm2⟩ := ih 0 3 z' (op + 1) d7 d8 (2) u' m' (by decide) (by decide) (by omega) (by omega) (by omega) (by omega) (by rw [ac_B0]; omega) T'
        rw [ac_B0] at hz2
        obtain ⟨y1, y2, y3, -, -, -, y7, y8, -, -⟩ := id T2
        obtain ⟨x1, x2, x3, -, -, -, x7, x8, -, -⟩ := id T'
        refine ⟨r + r2, u2, m2, z2, ?_, ?_, by omega, T2, ac_Fu_tr (ac_Fu_tr (Fu) Fu') Fu2, ac_Fm_tr (ac_Fm_tr (Fm) Fm') Fm2⟩
        · rw [ac_7_70]
          show xw_b (fX0_run n d7 (nI 1) (nI 3) (x) (nI (op + 1)) u1) _ = _
          rw [e7', pu_b]
          show xw_b (fX0_run n d7 (nI 0) (nI 3) (2) (nI (op + 1)) u') _ = _
          rw [e72, pu_b]
        · rw [ac_8_70]
          show xw_b (fX8_byKind n d8 (nI 3) (nI i) (nI 1) (x) m1) _ = _
          rw [e8', pu_b]
          show xw_b (fX8_byKind n d8 (nI 3) (nI i) (nI 0) (2) m') _ = _
          rw [e82, pu_b]
    · rw [ac_B2] at hz ⊢
      rcases c with c | c | c
      · rw [c] at hdo ⊢
        rw [show xw_body (2 * 7 + 0) = 12 by decide, show xw_above 0 = -1 by decide]
        obtain ⟨r, u', m', z', e7', e8', hz', T', Fu', Fm'⟩ := ih 1 K (z + 1) (op + 1) d7 d8 (x) u1 m1 (by decide) hK (by omega) (by omega) (by omega) (by omega) (by rw [ac_B1]; omega) T1
        rw [ac_B1] at hz'
        obtain ⟨y1, y2, y3, -, -, -, y7, y8, -, -⟩ := id T'
        refine ⟨r * 2, u', m', z', ?_, ?_, by omega, T', ac_Fu_tr (Fu) Fu', ac_Fm_tr (Fm) Fm'⟩
        · rw [ac_7_12]
          rw [s3]
          show xw_b (fX0_run n d7 (nI 1) (nI K) (x) (nI (op + 1)) u1) _ = _
          rw [e7', pu_b]
        · rw [ac_8_12]
          rw [ac_allE hi s7]
          show xw_b (xw_b (fX8_byKind n d8 (nI K) (nI i) (nI 1) (x) m1) _) _ = _
          rw [e8', pu_b, pu_b]
      · rw [c] at hdo ⊢
        rw [show xw_body (2 * 7 + 3) = 40 by decide, show xw_above 3 = nI 0 by decide]
        obtain ⟨r, u', m', z', e7', e8', hz', T', Fu', Fm'⟩ := ih 2 0 (z + 1) (op + 1) d7 d8 (x) u1 m1 (by decide) (by decide) (by omega) (by omega) (by omega) (by omega) (by rw [ac_B2]; omega) T1
        rw [ac_B2] at hz'
        obtain ⟨r2, u2, m2, z2, e72, e82, hz2, T2, Fu2, Fm2⟩ := ih 1 K z' (op + 1) d7 d8 (1) u' m' (by decide) hK (by omega) (by omega) (by omega) (by omega) (by rw [ac_B1]; omega) T'
        rw [ac_B1] at hz2
        obtain ⟨y1, y2, y3, -, -, -, y7, y8, -, -⟩ := id T2
        obtain ⟨x1, x2, x3, -, -, -, x7, x8, -, -⟩ := id T'
        refine ⟨r + r2, u2, m2, z2, ?_, ?_, by omega, T2, ac_Fu_tr (ac_Fu_tr (Fu) Fu') Fu2, ac_Fm_tr (ac_Fm_tr (Fm) Fm') Fm2⟩
        · rw [ac_7_40]
          show xw_b (fX0_run n d7 (nI 2) (nI 0) (x) (nI (op + 1)) u1) _ = _
          rw [e7', pu_b]
          rw [x3]
          show xw_b (fX0_run n d7 (nI 1) (nI K) (1) (nI (op + 1)) u') _ = _
          rw [e72, pu_b]
        · rw [ac_8_40]
          show xw_b (fX8_byKind n d8 (nI 0) (nI i) (nI 2) (x) m1) _ = _
          rw [e8', pu_b]
          rw [ac_allE hi x7]
          show xw_b (xw_b (fX8_byKind n d8 (nI K) (nI i) (nI 1) (1) m') _) _ = _
          rw [e82, pu_b, pu_b]
      · rw [c] at hdo ⊢
        rw [show xw_body (2 * 7 + 5) = 60 by decide, show xw_above 5 = nI 2 by decide]
        obtain ⟨r, u', m', z', e7', e8', hz', T', Fu', Fm'⟩ := ih 2 2 (z + 1) (op + 1) d7 d8 (x - nI i) u1 m1 (by decide) (by decide) (by omega) (by omega) (by omega) (by omega) (by rw [ac_B2]; omega) T1
        rw [ac_B2] at hz'
        obtain ⟨y1, y2, y3, -, -, -, y7, y8, -, -⟩ := id T'
        refine ⟨r, u', m', z', ?_, ?_, by omega, T', ac_Fu_tr (Fu) Fu', ac_Fm_tr (Fm) Fm'⟩
        · rw [ac_7_60]
          rw [s1]
          show xw_b (fX0_run n d7 (nI 2) (nI 2) (x - nI i) (nI (op + 1)) u1) _ = _
          rw [e7', pu_b]
        · rw [ac_8_60]
          show xw_b (fX8_byKind n d8 (nI 2) (nI i) (nI 2) (x - nI i) m1) _ = _
          rw [e8', pu_b]
