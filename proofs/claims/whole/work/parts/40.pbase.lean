/-! ===== the pure side: small facts ===== -/
def pu_bi (p : Prop) [Decidable p] : Int32 := if p then 1 else 0
theorem pu_bi0 {p : Prop} [Decidable p] : pu_bi p = 0 ↔ ¬ p := by
  unfold pu_bi
  by_cases h : p
  · rw [if_pos h]; exact ⟨fun e => absurd e (by decide), fun n => absurd h n⟩
  · rw [if_neg h]; exact ⟨fun _ => h, fun _ => rfl⟩
theorem pu_biT {p : Prop} [Decidable p] (h : p) : pu_bi p = 1 := if_pos h
theorem pu_biF {p : Prop} [Decidable p] (h : ¬ p) : pu_bi p = 0 := if_neg h
theorem pu_bi01 {p : Prop} [Decidable p] : pu_bi p = 0 ∨ pu_bi p = 1 := by
  by_cases h : p
  · exact Or.inr (if_pos h)
  · exact Or.inl (if_neg h)
theorem pu_nlt {a b : Int32} : ¬ a < b ↔ b ≤ a := Int32.not_lt
theorem pu_nle {a b : Int32} : ¬ a ≤ b ↔ b < a := Int32.not_le
theorem pu_within (a b : Int32) : fX7_within a b = some (pu_bi (0 ≤ a ∧ a ≤ b)) := by
  unfold fX7_within pu_bi
  by_cases h1 : a < 0
  · rw [if_pos h1, if_neg (fun h => absurd h1 (pu_nlt.mpr h.1))]
  · rw [if_neg h1]
    by_cases h2 : b < a
    · rw [if_pos h2, if_neg (fun h => absurd h2 (pu_nlt.mpr h.2))]
    · rw [if_neg h2, if_pos ⟨pu_nlt.mp h1, pu_nlt.mp h2⟩]
theorem pu_isIn (a lo hi : Int32) : fX8_isIn a lo hi = some (pu_bi (lo ≤ a ∧ a ≤ hi)) := by
  unfold fX8_isIn pu_bi
  by_cases h1 : a < lo
  · rw [if_pos h1, if_neg (fun h => absurd h1 (pu_nlt.mpr h.1))]
  · rw [if_neg h1]
    by_cases h2 : hi < a
    · rw [if_pos h2, if_neg (fun h => absurd h2 (pu_nlt.mpr h.2))]
    · rw [if_neg h2, if_pos ⟨pu_nlt.mp h1, pu_nlt.mp h2⟩]
theorem pu_bp {α β : Type} (a : α) (k : α → Option β) : xw_bp (some a) k = k a := rfl
theorem pu_b {α β : Type} (a : α) (m : xw_M) (k : α → xw_M → Option β) : xw_b (some (a, m)) k = k a m := rfl
theorem pu_lt {α β : Type} (a : α) (k : α → Option β) : xw_lt a k = k a := rfl
theorem pu_ccT {β : Type} {c : Prop} [Decidable c] (h : c) (k : Option β) : xw_cc c k = k := if_pos h
theorem pu_ccF {β : Type} {c : Prop} [Decidable c] (h : ¬ c) (k : Option β) : xw_cc c k = none := if_neg h
theorem pu_ck {β : Type} {j n : Nat} (h : j < n) (hn : n < 2 ^ 31) (k : Option β) : xw_ck (nI j) n k = k := by
  unfold xw_ck
  rw [if_neg (nI_in h hn)]
theorem pu_cl {j : Nat} (h : j < 2 ^ 31) : (nI j).toNatClampNeg = j := nI_clamp h
theorem pu_isYard (a : Int32) : fX8_isYard a = some (pu_bi (0 ≤ a ∧ a ≤ 9)) := by
  unfold fX8_isYard
  rw [pu_isIn, pu_bp, pu_ccT pu_bi01]
theorem pu_isTape (a : Int32) : fX8_isTape a = some (pu_bi (0 ≤ a ∧ a ≤ 5)) := by
  unfold fX8_isTape
  rw [pu_isIn, pu_bp, pu_ccT pu_bi01]
/-- a number that stands in a range is a small number -/
theorem pu_ex {a : Int32} {n : Nat} (hn : n < 2 ^ 31) (h : 0 ≤ a ∧ a ≤ nI n) : ∃ k, k ≤ n ∧ a = nI k := by
  obtain ⟨j, hj, rfl⟩ := nI_of (pu_nlt.mpr h.1)
  exact ⟨j, (nI_leI hj hn).mp h.2, rfl⟩
theorem pu_in {k n : Nat} (hk : k ≤ n) (hn : n < 2 ^ 31) : 0 ≤ nI k ∧ nI k ≤ nI n := ⟨nI_pos' (by omega), nI_le hk hn⟩
theorem pu_at {k n j : Nat} (w : xw_M) (hj : j < n) (hn : n < 2 ^ 31) : fX7_at k n (nI j) w = some (w.1 k j) := by
  unfold fX7_at
  rw [if_neg (nI_pos (by omega)), if_neg (nI_ge hj hn), pu_ck hj hn, pu_cl (by omega)]
theorem pu_put {k n j : Nat} (v : Int32) (w : xw_M) (hj : j < n) (hn : n < 2 ^ 31) : fX7_put k n (nI j) v w = some ((), xw_si w k j v) := by
  unfold fX7_put
  rw [if_neg (nI_pos (by omega)), if_neg (nI_ge hj hn), pu_ck hj hn, pu_lt, pu_cl (by omega)]
theorem pu_ten (i j : Nat) : (10 : Int32) * nI i + nI j = nI (10 * i + j) := by
  rw [show (10 : Int32) = nI 10 from rfl, pk_mul, nI_add]
theorem pu_one {i j : Nat} (w : xw_M) (h : 10 * i + j < 109) : fX8_one (nI i) (nI j) w = some (w.1 120 (10 * i + j)) := by
  unfold fX8_one
  rw [pu_ten, pu_ck h (by decide), pu_cl (by omega)]
theorem pu_change {i j : Nat} (v : Int32) (w : xw_M) (h : 10 * i + j < 109) : fX8_change (nI i) (nI j) v w = some (w.1 120 (10 * i + j), xw_si w 120 (10 * i + j) v) := by
  unfold fX8_change
  rw [pu_one w h, pu_bp, pu_ten, pu_ck h (by decide), pu_lt, pu_cl (by omega)]
theorem pu_now {β : Type} (j : Nat) (h : j < 109) (k : Option β) : xw_ck (nI j) 109 k = k := pu_ck h (by decide) k
/-! loops -/
theorem pu_it0 {α β : Type} (f : α → Option (α ⊕ β)) {a a' : α} {n : Nat} (h : f a = some (.inl a')) : xw_it f (n + 1) a = xw_it f n a' := by
  rw [xw_it, h]
theorem pu_it1 {α β : Type} (f : α → Option (α ⊕ β)) {a : α} {b : β} {n : Nat} (h : f a = some (.inr b)) : xw_it f (n + 1) a = some b := by
  rw [xw_it, h]
theorem pu_inv {α β : Type} (f : α → Option (α ⊕ β)) (I : Nat → α → Prop) (E : Nat) (Q : β → Prop) (hs : ∀ i a, i < E → I i a → (∃ a', f a = some (.inl a') ∧ I (i + 1) a') ∨ ∃ b, f a = some (.inr b) ∧ Q b) (hx : ∀ a, I E a → ∃ b, f a = some (.inr b) ∧ Q b) : ∀ (n i : Nat) (a : α), i ≤ E → E < n + i → I i a → ∃ b, xw_it f n a = some b ∧ Q b := by
  intro n
  induction n with
  | zero => intro i a h1 h2; omega
  | succ n ih =>
    intro i a h1 h2 hI
    rcases Nat.lt_or_ge i E with h | h
    · rcases hs i a h hI with ⟨a', e, hI'⟩ | ⟨b, e, hQ⟩
      · obtain ⟨b, e2, hQ⟩ := ih (i + 1) a' (by omega) (by omega) hI'
        exact ⟨b, by rw [pu_it0 f e]; exact e2, hQ⟩
      · exact ⟨b, pu_it1 f e, hQ⟩
    · have : i = E := by omega
      subst this
      obtain ⟨b, e, hQ⟩ := hx a hI
      exact ⟨b, pu_it1 f e, hQ⟩
theorem pu_up {α β : Type} (f : α → Option (α ⊕ β)) (st : Nat → α) (E : Nat) (b : β) (hs : ∀ i, i < E → f (st i) = some (.inl (st (i + 1)))) (hx : f (st E) = some (.inr b)) {n : Nat} (hn : E < n) : xw_it f n (st 0) = some b := by
  obtain ⟨b', e, hb⟩ := pu_inv f (fun i a => a = st i) E (fun b' => b' = b) (fun i a h e => Or.inl ⟨st (i + 1), by rw [e]; exact hs i h, rfl⟩) (fun a e => ⟨b, by rw [e]; exact hx, rfl⟩) n 0 (st 0) (Nat.zero_le _) (by omega) rfl
  rw [e, hb]
/-! memory -/
theorem pu_si1 (μ : xw_M) (k j : Nat) (v : Int32) : (xw_si μ k j v).1 k = upd (μ.1 k) j v := by simp [xw_si, va_up]
theorem pu_si0 (μ : xw_M) {k k' : Nat} (j : Nat) (v : Int32) (h : k' ≠ k) : (xw_si μ k j v).1 k' = μ.1 k' := by simp [xw_si, va_up, h]
theorem pu_siL (μ : xw_M) (k j : Nat) (v : Int32) : (xw_si μ k j v).2 = μ.2 := rfl
theorem pu_sl1 (μ : xw_M) (k j : Nat) (v : Int64) : (xw_sl μ k j v).2 k = vp_updL (μ.2 k) j v := by simp [xw_sl, va_up]
theorem pu_sl0 (μ : xw_M) {k k' : Nat} (j : Nat) (v : Int64) (h : k' ≠ k) : (xw_sl μ k j v).2 k' = μ.2 k' := by simp [xw_sl, va_up, h]
theorem pu_slI (μ : xw_M) (k j : Nat) (v : Int64) : (xw_sl μ k j v).1 = μ.1 := rfl
theorem pu_ext {a b : xw_M} (h1 : ∀ k, a.1 k = b.1 k) (h2 : ∀ k, a.2 k = b.2 k) : a = b := Prod.ext (funext h1) (funext h2)
/-- what is equal but for the cells of S -/
def pu_Fr (S : Nat → Prop) (a b : xw_M) : Prop := (∀ k, ¬ S k → b.1 k = a.1 k) ∧ ∀ k, ¬ S k → b.2 k = a.2 k
theorem pu_Fr.rf {S : Nat → Prop} (a : xw_M) : pu_Fr S a a := ⟨fun _ _ => rfl, fun _ _ => rfl⟩
theorem pu_Fr.tr {S : Nat → Prop} {a b c : xw_M} (h : pu_Fr S a b) (g : pu_Fr S b c) : pu_Fr S a c := ⟨fun k hk => (g.1 k hk).trans (h.1 k hk), fun k hk => (g.2 k hk).trans (h.2 k hk)⟩
theorem pu_Fr.mo {S T : Nat → Prop} {a b : xw_M} (h : pu_Fr S a b) (g : ∀ k, S k → T k) : pu_Fr T a b := ⟨fun k hk => h.1 k (fun q => hk (g k q)), fun k hk => h.2 k (fun q => hk (g k q))⟩
theorem pu_Fr.si {S : Nat → Prop} (μ : xw_M) {k : Nat} (j : Nat) (v : Int32) (h : S k) : pu_Fr S μ (xw_si μ k j v) := ⟨fun i hi => pu_si0 μ j v (fun e => hi (e ▸ h)), fun _ _ => rfl⟩
theorem pu_Fr.sl {S : Nat → Prop} (μ : xw_M) {k : Nat} (j : Nat) (v : Int64) (h : S k) : pu_Fr S μ (xw_sl μ k j v) := ⟨fun _ _ => rfl, fun i hi => pu_sl0 μ j v (fun e => hi (e ▸ h))⟩
