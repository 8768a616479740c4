/-! ===== image, undo ===== -/
theorem pu_copy {a b n : Nat} (w : xw_M) (hn : n < 2 ^ 31) : ∃ w', fX7_copyRow a n b n w = some ((), w') ∧ (∀ k, k ≠ b → w'.1 k = w.1 k) ∧ w'.2 = w.2 ∧ ∀ j, w'.1 b j = if j < n then w.1 a j else w.1 b j := by
  unfold fX7_copyRow
  have e0 : (0 : Int32).toNatClampNeg = 0 := rfl
  rw [show (if nI n < nI n then nI n else nI n) = nI n by split <;> rfl, pu_cl hn, e0, pu_ccT ⟨by decide, by decide, nI_pos hn, by omega, by omega⟩, pu_lt]
  refine ⟨_, rfl, fun k hk => ?_, rfl, fun j => ?_⟩
  · simp [xw_ci, va_up, hk]
  · simp [xw_ci, va_up, va_cpy]
theorem pu_ptake {a b : Nat} (w : xw_M) (hd : a + 16 ≤ b ∨ b + 16 ≤ a) : ∃ w', fX1_takeAfter b a w = some ((), w') ∧ (∀ k, k ≠ b → k ≠ b + 1 → k ≠ b + 2 → w'.1 k = w.1 k) ∧ w'.2 = w.2 ∧ (∀ j, w'.1 b j = if j = 3 then w.1 a 3 else w.1 b j) ∧ (∀ j, j < 8 → w'.1 (b + 1) j = w.1 (a + 1) j) ∧ ∀ j, j < 8 → w'.1 (b + 2) j = w.1 (a + 2) j := by
  obtain ⟨w1, e1, f1, g1, c1⟩ := pu_copy (a := a + 1) (b := b + 1) (n := 8) w (by decide)
  obtain ⟨w2, e2, f2, g2, c2⟩ := pu_copy (a := a + 2) (b := b + 2) (n := 8) w1 (by decide)
  refine ⟨xw_si w2 b 3 (w2.1 a 3), ?_, fun k h1 h2 h3 => ?_, by show w2.2 = w.2; rw [g2, g1], fun j => ?_, fun j hj => ?_, fun j hj => ?_⟩
  · unfold fX1_takeAfter
    rw [e1, pu_b, e2, pu_b, pu_lt]
  · rw [pu_si0 _ _ _ h1, f2 k h3, f1 k h2]
  · rw [pu_si1, f2 b (by omega), f1 b (by omega), f2 a (by omega), f1 a (by omega)]
    rfl
  · rw [pu_si0 _ _ _ (by omega), f2 _ (by omega), c1, if_pos hj]
  · rw [pu_si0 _ _ _ (by omega), c2, if_pos hj, f1 _ (by omega)]
/-- what a Scene's copy has -/
def pu_Tk (b a : Nat) (w w' : xw_M) : Prop := w'.2 = w.2 ∧ (∀ k, (k < b ∨ b + 16 ≤ k) → w'.1 k = w.1 k) ∧ (∀ j, (j = 0 ∨ j = 7 ∨ j = 8 ∨ j = 9 ∨ j = 10) → w'.1 b j = w.1 a j) ∧ (∀ j, j < 6 → w'.1 (b + 1) j = w.1 (a + 1) j ∧ w'.1 (b + 2) j = w.1 (a + 2) j ∧ w'.1 (b + 3) j = w.1 (a + 3) j ∧ w'.1 (b + 4) j = w.1 (a + 4) j ∧ w'.1 (b + 5) j = w.1 (a + 5) j) ∧ (∀ j, j < 24 → w'.1 (b + 6) j = w.1 (a + 6) j) ∧ ∀ q, (q = 7 ∨ q = 10 ∨ q = 13) → w'.1 (b + q) 3 = w.1 (a + q) 3 ∧ w'.1 (b + q) 0 = w.1 (b + q) 0 ∧ ∀ j, j < 8 → w'.1 (b + q + 1) j = w.1 (a + q + 1) j ∧ w'.1 (b + q + 2) j = w.1 (a + q + 2) j
theorem pu_take {a b : Nat} (w : xw_M) (hd : a + 32 ≤ b ∨ b + 32 ≤ a ∨ (a = 1 ∧ b = 17)) : ∃ w', fX5_takeAfter b a w = some ((), w') ∧ pu_Tk b a w w' := by
  obtain ⟨w1, h1⟩ : ∃ u, u = xw_si w b 0 (w.1 a 0) := ⟨_, rfl⟩
  obtain ⟨w2, e2, f2, g2, c2⟩ := pu_copy (a := a + 1) (b := b + 1) (n := 6) w1 (by decide)
  obtain ⟨w3, e3, f3, g3, c3⟩ := pu_copy (a := a + 2) (b := b + 2) (n := 6) w2 (by decide)
  obtain ⟨w4, e4, f4, g4, c4⟩ := pu_copy (a := a + 3) (b := b + 3) (n := 6) w3 (by decide)
  obtain ⟨w5, e5, f5, g5, c5⟩ := pu_copy (a := a + 4) (b := b + 4) (n := 6) w4 (by decide)
  obtain ⟨w6, e6, f6, g6, c6⟩ := pu_copy (a := a + 5) (b := b + 5) (n := 6) w5 (by decide)
  obtain ⟨w7, e7, f7, g7, c7⟩ := pu_copy (a := a + 6) (b := b + 6) (n := 24) w6 (by decide)
  obtain ⟨w8, h8⟩ : ∃ u, u = xw_si w7 b 7 (w7.1 a 7) := ⟨_, rfl⟩
  obtain ⟨w9, h9⟩ : ∃ u, u = xw_si w8 b 8 (w8.1 a 8) := ⟨_, rfl⟩
  obtain ⟨w10, h10⟩ : ∃ u, u = xw_si w9 b 9 (w9.1 a 9) := ⟨_, rfl⟩
  obtain ⟨w11, h11⟩ : ∃ u, u = xw_si w10 b 10 (w10.1 a 10) := ⟨_, rfl⟩
  obtain ⟨w12, e12, f12, g12, c12, d12, q12⟩ := pu_ptake (a := a + 7) (b := b + 7) w11 (by omega)
  obtain ⟨w13, e13, f13, g13, c13, d13, q13⟩ := pu_ptake (a := a + 10) (b := b + 10) w12 (by omega)
  obtain ⟨w14, e14, f14, g14, c14, d14, q14⟩ := pu_ptake (a := a + 13) (b := b + 13) w13 (by omega)
  have p1 : ∀ k, k ≠ b → w1.1 k = w.1 k := fun k hk => by rw [h1, pu_si0 _ _ _ hk]
  have p8 : ∀ k, k ≠ b → w8.1 k = w7.1 k := fun k hk => by rw [h8, pu_si0 _ _ _ hk]
  have p9 : ∀ k, k ≠ b → w9.1 k = w8.1 k := fun k hk => by rw [h9, pu_si0 _ _ _ hk]
  have p10 : ∀ k, k ≠ b → w10.1 k = w9.1 k := fun k hk => by rw [h10, pu_si0 _ _ _ hk]
  have p11 : ∀ k, k ≠ b → w11.1 k = w10.1 k := fun k hk => by rw [h11, pu_si0 _ _ _ hk]
  have pb : ∀ k, k ≠ b → w11.1 k = w7.1 k := fun k hk => by rw [p11 k hk, p10 k hk, p9 k hk, p8 k hk]
  have pr : ∀ k, (k ≤ b ∨ b + 7 ≤ k) → k ≠ b → w7.1 k = w.1 k := fun k h hk => by
    rw [f7 k (by omega), f6 k (by omega), f5 k (by omega), f4 k (by omega), f3 k (by omega), f2 k (by omega), p1 k hk]
  have pt : ∀ k, k < b + 7 → w14.1 k = w11.1 k := fun k hk => by
    rw [f14 k (by omega) (by omega) (by omega), f13 k (by omega) (by omega) (by omega), f12 k (by omega) (by omega) (by omega)]
  refine ⟨w14, ?_, ?_, fun k hk => ?_, fun j hj => ?_, fun j hj => ⟨?_, ?_, ?_, ?_, ?_⟩, fun j hj => ?_, fun q hq => ?_⟩
  · unfold fX5_takeAfter
    rw [← h1, pu_lt, e2, pu_b, e3, pu_b, e4, pu_b, e5, pu_b, e6, pu_b, e7, pu_b, pu_lt, ← h8, pu_lt, ← h9, pu_lt, ← h10, pu_lt, ← h11, e12, pu_b, e13, pu_b, e14, pu_b]
  · rw [g14, g13, g12, h11, pu_siL, h10, pu_siL, h9, pu_siL, h8, pu_siL, g7, g6, g5, g4, g3, g2, h1, pu_siL]
  · rw [f14 k (by omega) (by omega) (by omega), f13 k (by omega) (by omega) (by omega), f12 k (by omega) (by omega) (by omega), pb k (by omega), pr k (by omega) (by omega)]
  · have hab : a ≠ b := by omega
    have a7 : w7.1 a = w.1 a := pr a (by omega) hab
    have b7 : w7.1 b = w1.1 b := by rw [f7 b (by omega), f6 b (by omega), f5 b (by omega), f4 b (by omega), f3 b (by omega), f2 b (by omega)]
    rw [pt b (by omega), h11, pu_si1, p10 a hab, p9 a hab, p8 a hab, a7, h10, pu_si1, p9 a hab, p8 a hab, a7, h9, pu_si1, p8 a hab, a7, h8, pu_si1, a7, b7, h1, pu_si1]
    rcases hj with rfl | rfl | rfl | rfl | rfl <;> simp [upd]
  · rw [pt _ (by omega), pb _ (by omega), f7 _ (by omega), f6 _ (by omega), f5 _ (by omega), f4 _ (by omega), f3 _ (by omega), c2, if_pos hj, p1 _ (by omega)]
  · rw [pt _ (by omega), pb _ (by omega), f7 _ (by omega), f6 _ (by omega), f5 _ (by omega), f4 _ (by omega), c3, if_pos hj, f2 _ (by omega), p1 _ (by omega)]
  · rw [pt _ (by omega), pb _ (by omega), f7 _ (by omega), f6 _ (by omega), f5 _ (by omega), c4, if_pos hj, f3 _ (by omega), f2 _ (by omega), p1 _ (by omega)]
  · rw [pt _ (by omega), pb _ (by omega), f7 _ (by omega), f6 _ (by omega), c5, if_pos hj, f4 _ (by omega), f3 _ (by omega), f2 _ (by omega), p1 _ (by omega)]
  · rw [pt _ (by omega), pb _ (by omega), f7 _ (by omega), c6, if_pos hj, f5 _ (by omega), f4 _ (by omega), f3 _ (by omega), f2 _ (by omega), p1 _ (by omega)]
  · rw [pt _ (by omega), pb _ (by omega), c7, if_pos hj, f6 _ (by omega), f5 _ (by omega), f4 _ (by omega), f3 _ (by omega), f2 _ (by omega), p1 _ (by omega)]
  · have pa : ∀ k, (k < b ∨ b + 7 ≤ k) → w11.1 k = w.1 k := fun k hk => by rw [pb k (by omega), pr k (by omega) (by omega)]
    rcases hq with rfl | rfl | rfl
    · refine ⟨?_, ?_, fun j hj => ⟨?_, ?_⟩⟩
      · rw [f14 _ (by omega) (by omega) (by omega), f13 _ (by omega) (by omega) (by omega), c12, if_pos rfl, pa _ (by omega)]
      · rw [f14 _ (by omega) (by omega) (by omega), f13 _ (by omega) (by omega) (by omega), c12, if_neg (by decide), pa _ (by omega)]
      · rw [f14 _ (by omega) (by omega) (by omega), f13 _ (by omega) (by omega) (by omega), d12 j hj, pa _ (by omega)]
      · rw [f14 _ (by omega) (by omega) (by omega), f13 _ (by omega) (by omega) (by omega), q12 j hj, pa _ (by omega)]
    · refine ⟨?_, ?_, fun j hj => ⟨?_, ?_⟩⟩
      · rw [f14 _ (by omega) (by omega) (by omega), c13, if_pos rfl, f12 _ (by omega) (by omega) (by omega), pa _ (by omega)]
      · rw [f14 _ (by omega) (by omega) (by omega), c13, if_neg (by decide), f12 _ (by omega) (by omega) (by omega), pa _ (by omega)]
      · rw [f14 _ (by omega) (by omega) (by omega), d13 j hj, f12 _ (by omega) (by omega) (by omega), pa _ (by omega)]
      · rw [f14 _ (by omega) (by omega) (by omega), q13 j hj, f12 _ (by omega) (by omega) (by omega), pa _ (by omega)]
    · refine ⟨?_, ?_, fun j hj => ⟨?_, ?_⟩⟩
      · rw [c14, if_pos rfl, f13 _ (by omega) (by omega) (by omega), f12 _ (by omega) (by omega) (by omega), pa _ (by omega)]
      · rw [c14, if_neg (by decide), f13 _ (by omega) (by omega) (by omega), f12 _ (by omega) (by omega) (by omega), pa _ (by omega)]
      · rw [d14 j hj, f13 _ (by omega) (by omega) (by omega), f12 _ (by omega) (by omega) (by omega), pa _ (by omega)]
      · rw [q14 j hj, f13 _ (by omega) (by omega) (by omega), f12 _ (by omega) (by omega) (by omega), pa _ (by omega)]
