/-! ===== image, undo ===== -/
theorem pu_copy {a b n : Nat} (w : xw_M) (hn : n < 2 ^ 31) : ∃ w', fX7_copyRow a n b n w = some ((), w') ∧ (∀ k, k ≠ b → w'.1 k = w.1 k) ∧ w'.2 = w.2 ∧ ∀ j, w'.1 b j = if j < n then w.1 a j else w.1 b j := by
  unfold fX7_copyRow
  have e0 : (0 : Int32).toNatClampNeg = 0 := rfl
  rw [show (if nI n < nI n then nI n else nI n) = nI n by split <;> rfl, pu_cl hn, e0, pu_ccT ⟨by decide, by decide, nI_pos hn, by omega, by omega⟩, pu_lt]
  refine ⟨_, rfl, fun k hk => ?_, rfl, fun j => ?_⟩
  · simp [xw_ci, va_up, hk]
  · simp [xw_ci, va_up, va_cpy]
