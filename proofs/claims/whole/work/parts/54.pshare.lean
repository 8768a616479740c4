/-! ===== shares ===== -/
def sh_c (ρ : Nat → Int32) (h : Nat → Bool) (m : Nat) : Int32 := if h m = true then (if 0 < ρ m then ρ m else 0) else 0
def sh_t (ρ : Nat → Int32) (h : Nat → Bool) : Nat → Int32
  | 0 => 0
  | n + 1 => sh_t ρ h n + sh_c ρ h n
def sh_f (ρ : Nat → Int32) (h : Nat → Bool) : Nat → Int32 × Int32
  | 0 => (-1, 0)
  | n + 1 => if sh_c ρ h n ≤ (sh_f ρ h n).2 then sh_f ρ h n else (nI n, sh_c ρ h n)
def sh_l (ρ : Nat → Int32) (h : Nat → Bool) (D T F : Int32) : Nat → Int32
  | 0 => D
  | n + 1 => sh_l ρ h D T F n - (if nI n = F then 0 else D * sh_c ρ h n / T)
/-- what one pays -/
def sh (ρ : Nat → Int32) (h : Nat → Bool) (N : Nat) (D : Int32) (i : Nat) : Int32 := if 0 < sh_t ρ h N then (if nI i = (sh_f ρ h N).1 then sh_l ρ h D (sh_t ρ h N) (sh_f ρ h N).1 N else D * sh_c ρ h i / sh_t ρ h N) else 0
theorem sh_c_cong {ρ ρ' : Nat → Int32} {h h' : Nat → Bool} {m : Nat} (e1 : ρ m = ρ' m) (e2 : h m = h' m) : sh_c ρ h m = sh_c ρ' h' m := by
  unfold sh_c
  rw [e1, e2]
theorem sh_cong {ρ ρ' : Nat → Int32} {h h' : Nat → Bool} {N : Nat} (D : Int32) {i : Nat} (hi : i < N) (e1 : ∀ m, m < N → h m = true → ρ m = ρ' m) (e2 : ∀ m, m < N → h m = h' m) : sh ρ h N D i = sh ρ' h' N D i := by
  have c : ∀ m, m < N → sh_c ρ h m = sh_c ρ' h' m := by
    intro m hm
    unfold sh_c
    rw [← e2 m hm]
    by_cases q : h m = true
    · rw [e1 m hm q]
    · rw [if_neg q, if_neg q]
  have t : ∀ n, n ≤ N → sh_t ρ h n = sh_t ρ' h' n := by
    intro n
    induction n with
    | zero => intro _; rfl
    | succ n ih => intro hn; show _ + _ = _ + _; rw [ih (by omega), c n (by omega)]
  have f : ∀ n, n ≤ N → sh_f ρ h n = sh_f ρ' h' n := by
    intro n
    induction n with
    | zero => intro _; rfl
    | succ n ih =>
      intro hn
      show (if sh_c ρ h n ≤ (sh_f ρ h n).2 then sh_f ρ h n else (nI n, sh_c ρ h n)) = (if sh_c ρ' h' n ≤ (sh_f ρ' h' n).2 then sh_f ρ' h' n else (nI n, sh_c ρ' h' n))
      rw [ih (by omega), c n (by omega)]
  have l : ∀ T F n, n ≤ N → sh_l ρ h D T F n = sh_l ρ' h' D T F n := by
    intro T F n
    induction n with
    | zero => intro _; rfl
    | succ n ih =>
      intro hn
      show sh_l ρ h D T F n - (if nI n = F then 0 else D * sh_c ρ h n / T) = sh_l ρ' h' D T F n - (if nI n = F then 0 else D * sh_c ρ' h' n / T)
      rw [ih (by omega), c n (by omega)]
  unfold sh
  rw [t N (Nat.le_refl _), f N (Nat.le_refl _), l _ _ N (Nat.le_refl _), c i hi]
theorem sh_c0 (ρ : Nat → Int32) (h : Nat → Bool) (m : Nat) : 0 ≤ sh_c ρ h m := by
  unfold sh_c
  by_cases a : h m = true
  · rw [if_pos a]
    by_cases b : 0 < ρ m
    · rw [if_pos b]; exact pu_nlt.mp (fun z => by have := Int32.lt_trans b z; exact absurd this (by decide))
    · rw [if_neg b]; decide
  · rw [if_neg a]; decide
/-! the class's pays -/
theorem pu_bit : ∀ B, B < 64 → ∀ m, m < 6 → (((nI B >>> (nI m &&& 31)) &&& (1 : Int32)) = 0 ↔ ¬ B.testBit m = true) := by decide +kernel
theorem pc_pays {n b N i y B : Nat} {D : Int32} {P : Nat → Nat → Int32} {Y : Nat → Nat} {w : xw_M} (hn : 2000 ≤ n) (hb : b + 7 ≤ 58) (hN : N ≤ 6) (h0 : w.1 b 0 = nI N) (hy : ∀ m, m < N → Y m ≤ 9 ∧ w.1 (b + 4) m = nI (Y m)) (hR : ∀ m z, m < N → z < 10 → w.1 65 (10 * m + z) = P m z) (hB : B < 64) (hi : i < N) (hyy : y ≤ 9) : ∃ w', fX4_pays n b (nI i) (nI y) D (nI B) w = some (sh (fun m => P m (if m = i then y else Y m)) (fun m => !B.testBit m) N D i, w') ∧ (∀ k, k ≠ 67 → w'.1 k = w.1 k) ∧ w'.2 = w.2 := by
  obtain ⟨ρ, hρ⟩ : ∃ ρ : Nat → Int32, ρ = fun m => P m (if m = i then y else Y m) := ⟨_, rfl⟩
  obtain ⟨h, hh⟩ : ∃ h : Nat → Bool, h = fun m => !B.testBit m := ⟨_, rfl⟩
  rw [← hρ, ← hh]
  unfold fX4_pays fX4_pays_12
  obtain ⟨⟨T, F, u⟩, e, ht, hf, hu, hu2, hc⟩ : ∃ r : Int32 × Int32 × xw_M, xw_it (fun z => fX4_pays_b12 n b (nI i) (nI y) D (nI B) z.1 z.2.1 z.2.2.1 z.2.2.2.1 z.2.2.2.2) n ((0 : Int32), (-1 : Int32), (0 : Int32), (0 : Int32), w) = some r ∧ r.1 = sh_t ρ h N ∧ r.2.1 = (sh_f ρ h N).1 ∧ (∀ k, k ≠ 67 → r.2.2.1 k = w.1 k) ∧ r.2.2.2 = w.2 ∧ ∀ j, j < N → r.2.2.1 67 j = sh_c ρ h j := by
    refine pu_inv (fun z => fX4_pays_b12 n b (nI i) (nI y) D (nI B) z.1 z.2.1 z.2.2.1 z.2.2.2.1 z.2.2.2.2) (fun k z => k ≤ N ∧ z.1 = sh_t ρ h k ∧ z.2.1 = (sh_f ρ h k).1 ∧ z.2.2.1 = (sh_f ρ h k).2 ∧ z.2.2.2.1 = nI k ∧ (∀ q, q ≠ 67 → z.2.2.2.2.1 q = w.1 q) ∧ z.2.2.2.2.2 = w.2 ∧ ∀ j, j < k → z.2.2.2.2.1 67 j = sh_c ρ h j) N _ ?_ ?_ n 0 _ (by omega) (by omega) ⟨by omega, rfl, rfl, rfl, rfl, fun _ _ => rfl, rfl, fun j hj => absurd hj (by omega)⟩
    · rintro k ⟨x6, x7, x8, x9, v⟩ hk ⟨-, rfl, rfl, rfl, rfl, a1, a2, a3⟩
      have yk := hy k hk
      obtain ⟨st, hst, hst9⟩ : ∃ st, st = (if k = i then y else Y k) ∧ st < 10 := ⟨_, rfl, by split <;> omega⟩
      have e40 : ∀ (v1 : Int32), fX4_pays_75 n b (nI i) (nI y) D (nI B) (sh_t ρ h k) (sh_f ρ h k).1 (sh_f ρ h k).2 (nI k) (sh_c ρ h k) v = some (.inl (sh_t ρ h (k + 1), (sh_f ρ h (k + 1)).1, (sh_f ρ h (k + 1)).2, nI (k + 1), xw_si v 67 k (sh_c ρ h k))) := by
        intro _
        unfold fX4_pays_75 fX4_pays_110
        rw [pu_put _ _ (show k < 6 by omega) (by decide), pu_b, pu_lt]
        simp only [pu_lt, nI_1]
        have ef : sh_f ρ h (k + 1) = if sh_c ρ h k ≤ (sh_f ρ h k).2 then sh_f ρ h k else (nI k, sh_c ρ h k) := rfl
        have et : sh_t ρ h (k + 1) = sh_t ρ h k + sh_c ρ h k := rfl
        rw [ef, et]
        by_cases q : sh_c ρ h k ≤ (sh_f ρ h k).2
        · rw [if_pos q, if_pos q]
        · rw [if_neg q, if_neg q]
      have e12 : fX4_pays_40 n b (nI i) (nI y) D (nI B) (sh_t ρ h k) (sh_f ρ h k).1 (sh_f ρ h k).2 (nI k) (nI st) v = some (.inl (sh_t ρ h (k + 1), (sh_f ρ h (k + 1)).1, (sh_f ρ h (k + 1)).2, nI (k + 1), xw_si v 67 k (sh_c ρ h k))) := by
        unfold fX4_pays_40
        by_cases q : B.testBit k = true
        · have c0 : sh_c ρ h k = 0 := by unfold sh_c; rw [if_neg]; rw [hh]; simp [q]
          rw [if_neg (fun z => (pu_bit B hB k (by omega)).mp z q)]
          have := e40 0
          rw [c0] at this ⊢
          exact this
        · have c1 : sh_c ρ h k = if 0 < ρ k then ρ k else 0 := by
            unfold sh_c
            rw [if_pos]
            rw [hh]
            simpa using q
          have er : v.1 65 (10 * k + st) = ρ k := by
            rw [a1 65 (by decide), hR k st hk hst9, hρ, hst]
          rw [if_pos ((pu_bit B hB k (by omega)).mpr q), show (10 : Int32) = nI 10 from rfl, pk_mul, nI_add, show k * 10 + st = 10 * k + st by omega, pu_at v (show 10 * k + st < 60 by omega) (by decide), pu_bp, er, ← c1]
          exact e40 0
      refine Or.inl ⟨(sh_t ρ h (k + 1), (sh_f ρ h (k + 1)).1, (sh_f ρ h (k + 1)).2, nI (k + 1), xw_si v 67 k (sh_c ρ h k)), ?_, by omega, rfl, rfl, rfl, rfl, fun q hq => by rw [pu_si0 _ _ _ hq]; exact a1 q hq, a2, fun j hj => ?_⟩
      · show fX4_pays_b12 n b (nI i) (nI y) D (nI B) (sh_t ρ h k) (sh_f ρ h k).1 (sh_f ρ h k).2 (nI k) v = _
        unfold fX4_pays_b12
        rw [a1 b (by omega), h0, if_neg (nI_ge hk (by omega))]
        by_cases q : k = i
        · rw [if_pos (by rw [q]), show y = st by rw [hst, if_pos q]]
          exact e12
        · rw [if_neg (fun z => q ((nI_eq (by omega) (by omega)).mp z)), pu_at v (show k < 6 by omega) (by decide), pu_bp, a1 (b + 4) (by omega), yk.2, show Y k = st by rw [hst, if_neg q]]
          exact e12
      · show (xw_si v 67 k _).1 67 j = _
        rw [pu_si1]
        by_cases q : j = k
        · rw [q, pk_us]
        · rw [pk_un q]; exact a3 j (by omega)
    · rintro ⟨x6, x7, x8, x9, v⟩ ⟨-, rfl, rfl, rfl, rfl, a1, a2, a3⟩
      refine ⟨(_, _, v), ?_, rfl, rfl, a1, a2, a3⟩
      show fX4_pays_b12 n b (nI i) (nI y) D (nI B) _ _ _ (nI N) v = _
      unfold fX4_pays_b12
      rw [a1 b (by omega), h0, if_pos (nI_le (Nat.le_refl _) (by omega))]
  simp only [] at ht hf hu hu2 hc
  subst ht
  subst hf
  refine ⟨u, ?_, hu, hu2⟩
  rw [e, pu_bp]
  show fX4_pays_116 n b (nI i) (nI y) D (nI B) (sh_t ρ h N) (sh_f ρ h N).1 u = _
  unfold fX4_pays_116 sh
  by_cases hp : 0 < sh_t ρ h N
  · have nz : ¬ sh_t ρ h N = 0 := fun z => by rw [z] at hp; exact absurd hp (by decide)
    rw [if_pos hp, if_pos hp]
    by_cases hF : nI i = (sh_f ρ h N).1
    · rw [if_pos hF, if_pos hF]
      unfold fX4_pays_151
      have e4 : xw_it (fun z => fX4_pays_b151 n b (nI i) (nI y) D (nI B) (sh_t ρ h N) (sh_f ρ h N).1 z.1 z.2 u) n (D, (0 : Int32)) = some (sh_l ρ h D (sh_t ρ h N) (sh_f ρ h N).1 N) := by
        refine pu_up (fun z => fX4_pays_b151 n b (nI i) (nI y) D (nI B) (sh_t ρ h N) (sh_f ρ h N).1 z.1 z.2 u) (fun k => (sh_l ρ h D (sh_t ρ h N) (sh_f ρ h N).1 k, nI k)) N (sh_l ρ h D (sh_t ρ h N) (sh_f ρ h N).1 N) (fun k hk => ?_) ?_ (by omega)
        · show fX4_pays_b151 n b (nI i) (nI y) D (nI B) (sh_t ρ h N) (sh_f ρ h N).1 _ (nI k) u = _
          unfold fX4_pays_b151
          rw [hu b (by omega), h0, if_neg (nI_ge hk (by omega)), pu_at u (show k < 6 by omega) (by decide), pu_bp, hc k hk]
          unfold fX4_pays_188
          simp only [pu_lt, nI_1]
          rw [pu_ccT nz]
          have el : sh_l ρ h D (sh_t ρ h N) (sh_f ρ h N).1 (k + 1) = sh_l ρ h D (sh_t ρ h N) (sh_f ρ h N).1 k - (if nI k = (sh_f ρ h N).1 then 0 else D * sh_c ρ h k / sh_t ρ h N) := rfl
          rw [el]
          by_cases q : nI k = (sh_f ρ h N).1
          · rw [if_pos q, if_pos q]
          · rw [if_neg q, if_neg q]
        · show fX4_pays_b151 n b (nI i) (nI y) D (nI B) (sh_t ρ h N) (sh_f ρ h N).1 _ (nI N) u = _
          unfold fX4_pays_b151
          rw [hu b (by omega), h0, if_pos (nI_le (Nat.le_refl _) (by omega))]
      rw [e4, pu_bp]
      rfl
    · rw [if_neg hF, if_neg hF, pu_at u (show i < 6 by omega) (by decide), pu_bp, hc i hi, pu_ccT nz]
  · rw [if_neg hp, if_neg hp]
/-! the reference's shares -/
def pg_y (g : Nat → Int32) (m : Nat) : Nat := (g (10 * m + 3)).toNatClampNeg
def pg_ro (cl : List pg_Cl) (g : Nat → Int32) (m : Nat) : Int32 := pg_rt cl g m (pg_y g m)
def pg_he (g : Nat → Int32) (m : Nat) : Bool := decide (g (10 * m + 4) = 0)
def SH (cl : List pg_Cl) (g : Nat → Int32) (N i : Nat) : Int32 := sh (pg_ro cl g) (pg_he g) N (g 61) i
/-- what shares leave as it was -/
def pm_Fs (w w' : xw_M) : Prop := (∀ k, k ≠ 119 → k ≠ 126 → k ≠ 127 → k ≠ 131 → k ≠ 132 → w'.1 k = w.1 k) ∧ w'.2 = w.2 ∧ ∀ j, (j < 10 ∨ 15 < j) → w'.1 119 j = w.1 119 j
theorem pm_Fs_of {a b : xw_M} (h : pm_Fr a b) : pm_Fs a b := ⟨fun k h1 h2 h3 _ _ => h.1 k h1 h2 h3, h.2.1, h.2.2⟩
theorem pm_Fs_tr {a b c : xw_M} (h : pm_Fs a b) (g : pm_Fs b c) : pm_Fs a c := ⟨fun k h1 h2 h3 h4 h5 => (g.1 k h1 h2 h3 h4 h5).trans (h.1 k h1 h2 h3 h4 h5), g.2.1.trans h.2.1, fun j hj => (g.2.2 j hj).trans (h.2.2 j hj)⟩
theorem pm_Fs_si (w : xw_M) {k : Nat} (j : Nat) (v : Int32) (h : k = 131 ∨ k = 132) : pm_Fs w (xw_si w k j v) := ⟨fun q h1 h2 h3 h4 h5 => pu_si0 w j v (by omega), rfl, fun i hi => by rw [pu_si0 w j v (by omega)]⟩
theorem pm_Fs_rf (a : xw_M) : pm_Fs a a := ⟨fun _ _ _ _ _ _ => rfl, rfl, fun _ _ => rfl⟩
/-- who is first to the reference, against the class's -/
def sh_A (ρ : Nat → Int32) (h : Nat → Bool) (k : Nat) (x2 : Int32) : Prop := ((sh_f ρ h k).2 = 0 ∧ sh_t ρ h k = 0 ∧ (x2 = -1 ∨ ∃ q, q < k ∧ x2 = nI q ∧ h q = true ∧ ρ q ≤ 0)) ∨ ∃ q, q < k ∧ x2 = nI q ∧ h q = true ∧ (sh_f ρ h k).1 = nI q ∧ (sh_f ρ h k).2 = ρ q ∧ 0 < ρ q
def sh_n (ρ : Nat → Int32) (h : Nat → Bool) (k : Nat) (x2 : Int32) : Int32 := if h k = true then (if x2 = -1 then nI k else if ρ k ≤ ρ x2.toNatClampNeg then x2 else nI k) else x2
theorem sh_A_step {ρ : Nat → Int32} {h : Nat → Bool} {k : Nat} {x2 : Int32} (hk : k < 6) (H : sh_A ρ h k x2) : sh_A ρ h (k + 1) (sh_n ρ h k x2) := by
  have ef : sh_f ρ h (k + 1) = if sh_c ρ h k ≤ (sh_f ρ h k).2 then sh_f ρ h k else (nI k, sh_c ρ h k) := rfl
  have et : sh_t ρ h (k + 1) = sh_t ρ h k + sh_c ρ h k := rfl
  unfold sh_A
  rw [ef, et]
  unfold sh_n
  by_cases hh : h k = true
  · rw [if_pos hh]
    have c : sh_c ρ h k = if 0 < ρ k then ρ k else 0 := if_pos hh
    by_cases hp : 0 < ρ k
    · rw [if_pos hp] at c
      rcases H with ⟨f0, t0, hx⟩ | ⟨q, hq, rfl, hq2, hf1, hf2, hf3⟩
      · rw [c, f0, if_neg (pu_nle.mpr hp)]
        refine Or.inr ⟨k, by omega, ?_, hh, rfl, rfl, hp⟩
        rcases hx with rfl | ⟨q, hq, rfl, hq2, hq3⟩
        · rw [if_pos rfl]
        · by_cases z : nI q = -1
          · rw [if_pos z]
          · rw [if_neg z, pu_cl (by omega), if_neg (fun z2 => by have := Int32.le_trans z2 hq3; exact absurd hp (pu_nlt.mpr this))]
      · have nq : ¬ nI q = -1 := fun z => by have := nI_pos' (n := q) (by omega); rw [z] at this; exact absurd this (by decide)
        rw [if_neg nq, pu_cl (by omega), c, hf2]
        by_cases z : ρ k ≤ ρ q
        · rw [if_pos z, if_pos z]
          exact Or.inr ⟨q, by omega, rfl, hq2, hf1, hf2, hf3⟩
        · rw [if_neg z, if_neg z]
          exact Or.inr ⟨k, by omega, rfl, hh, rfl, rfl, hp⟩
    · rw [if_neg hp] at c
      rcases H with ⟨f0, t0, hx⟩ | ⟨q, hq, rfl, hq2, hf1, hf2, hf3⟩
      · rw [c, f0, if_pos (by decide), t0]
        refine Or.inl ⟨f0, by decide, Or.inr ?_⟩
        rcases hx with rfl | ⟨q, hq, rfl, hq2, hq3⟩
        · exact ⟨k, by omega, if_pos rfl, hh, pu_nlt.mp hp⟩
        · by_cases z : nI q = -1
          · exact ⟨k, by omega, if_pos z, hh, pu_nlt.mp hp⟩
          · rw [if_neg z, pu_cl (by omega)]
            by_cases z2 : ρ k ≤ ρ q
            · rw [if_pos z2]; exact ⟨q, by omega, rfl, hq2, hq3⟩
            · rw [if_neg z2]; exact ⟨k, by omega, rfl, hh, pu_nlt.mp hp⟩
      · have nq : ¬ nI q = -1 := fun z => by have := nI_pos' (n := q) (by omega); rw [z] at this; exact absurd this (by decide)
        have q0 : (0 : Int32) ≤ ρ q := Int32.le_of_lt hf3
        rw [if_neg nq, pu_cl (by omega), c, hf2, if_pos q0, if_pos (Int32.le_trans (pu_nlt.mp hp) q0)]
        exact Or.inr ⟨q, by omega, rfl, hq2, hf1, hf2, hf3⟩
  · rw [if_neg hh]
    have c : sh_c ρ h k = 0 := if_neg hh
    rw [c, Int32.add_zero]
    rcases H with ⟨f0, t0, hx⟩ | ⟨q, hq, rfl, hq2, hf1, hf2, hf3⟩
    · rw [f0, if_pos (by decide)]
      exact Or.inl ⟨f0, t0, hx.imp id (fun ⟨q, a, b⟩ => ⟨q, by omega, b⟩)⟩
    · rw [hf2, if_pos (Int32.le_of_lt hf3)]
      exact Or.inr ⟨q, by omega, rfl, hq2, hf1, hf2, hf3⟩
/-- what is left to the reference -/
def sh_r (ρ : Nat → Int32) (h : Nat → Bool) (D T : Int32) : Nat → Int32
  | 0 => D
  | n + 1 => sh_r ρ h D T n - D * sh_c ρ h n / T
theorem sh_r_l (ρ : Nat → Int32) (h : Nat → Bool) (D T : Int32) {q : Nat} (hq : q < 6) : ∀ k, k ≤ 6 → sh_l ρ h D T (nI q) k = if q < k then D * sh_c ρ h q / T + sh_r ρ h D T k else sh_r ρ h D T k := by
  intro k
  induction k with
  | zero => intro _; rw [if_neg (by omega)]; rfl
  | succ k ih =>
    intro hk
    have el : sh_l ρ h D T (nI q) (k + 1) = sh_l ρ h D T (nI q) k - (if nI k = nI q then 0 else D * sh_c ρ h k / T) := rfl
    have er : sh_r ρ h D T (k + 1) = sh_r ρ h D T k - D * sh_c ρ h k / T := rfl
    rw [el, er, ih (by omega)]
    by_cases e : q = k
    · subst e
      rw [if_neg (by omega), if_pos rfl, if_pos (by omega), Int32.sub_zero, Int32.add_comm, Int32.sub_add_cancel]
    · have ne : ¬ nI k = nI q := fun z => e ((nI_eq (by omega) (by omega)).mp z).symm
      rw [if_neg ne]
      by_cases l : q < k
      · rw [if_pos l, if_pos (by omega), Int32.sub_eq_add_neg, Int32.sub_eq_add_neg, Int32.add_assoc]
      · rw [if_neg l, if_neg (by omega)]
theorem pm_isHere {i : Nat} (hi : i < 6) (u : xw_M) : fX8_isHere (nI i) u = some (if u.1 120 (10 * i + 4) = 0 then 1 else 0) := by
  unfold fX8_isHere
  rw [pu_o4 hi, pu_bp]
  by_cases h : u.1 120 (10 * i + 4) = 0
  · rw [if_pos h, if_pos h]
  · rw [if_neg h, if_neg h]
theorem pm_share {w : xw_M} {cl : List pg_Cl} {N n : Nat} (D : pm_D w) (H : rH w.1 (w.1 120) cl) (hn : 2000 ≤ n) (hN : N ≤ 6) (h60 : w.1 120 60 = nI N) (hy : ∀ m, m < N → ∃ y, y ≤ 9 ∧ w.1 120 (10 * m + 3) = nI y) : ∃ w', fX8_share n w = some ((), w') ∧ pm_Fs w w' ∧ ∀ i, i < N → w'.1 132 i = SH cl (w.1 120) N i := by
  obtain ⟨ρ, hρ⟩ : ∃ ρ : Nat → Int32, ρ = pg_ro cl (w.1 120) := ⟨_, rfl⟩
  obtain ⟨h, hh⟩ : ∃ h : Nat → Bool, h = pg_he (w.1 120) := ⟨_, rfl⟩
  have hhe : ∀ m, h m = true ↔ w.1 120 (10 * m + 4) = 0 := fun m => by rw [hh]; unfold pg_he; exact decide_eq_true_iff
  unfold SH
  rw [← hρ, ← hh]
  unfold fX8_share fX8_share_6
  obtain ⟨⟨T, F, u⟩, e, hT, hF, fu, u132, u131⟩ : ∃ r : Int32 × Int32 × xw_M, xw_it (fun z => fX8_share_b6 n z.1 z.2.1 z.2.2.1 z.2.2.2) n ((0 : Int32), (-1 : Int32), (0 : Int32), w) = some r ∧ r.1 = sh_t ρ h N ∧ sh_A ρ h N r.2.1 ∧ pm_Fs w r.2.2 ∧ (∀ j, j < N → r.2.2.1 132 j = 0) ∧ ∀ j, j < N → h j = true → r.2.2.1 131 j = ρ j := by
    refine pu_inv (fun z => fX8_share_b6 n z.1 z.2.1 z.2.2.1 z.2.2.2) (fun k z => k ≤ N ∧ z.1 = sh_t ρ h k ∧ sh_A ρ h k z.2.1 ∧ z.2.2.1 = nI k ∧ pm_Fs w z.2.2.2 ∧ (∀ j, j < k → z.2.2.2.1 132 j = 0) ∧ ∀ j, j < k → h j = true → z.2.2.2.1 131 j = ρ j) N _ ?_ ?_ n 0 _ (by omega) (by omega) ⟨by omega, rfl, Or.inl ⟨rfl, rfl, Or.inl rfl⟩, rfl, pm_Fs_rf w, fun j hj => absurd hj (by omega), fun j hj => absurd hj (by omega)⟩
    · rintro k ⟨x1, x2, x3, v⟩ hk ⟨-, rfl, hA, rfl, fv, a1, a2⟩
      have k6 : k < 6 := by omega
      obtain ⟨v2, hv2⟩ : ∃ v2, v2 = xw_si (xw_si v 132 k 0) 131 k 0 := ⟨_, rfl⟩
      have f2 : pm_Fs w v2 := by rw [hv2]; exact pm_Fs_tr fv (pm_Fs_tr (pm_Fs_si _ _ _ (Or.inr rfl)) (pm_Fs_si _ _ _ (Or.inl rfl)))
      have g2 : v2.1 120 = w.1 120 := f2.1 120 (by decide) (by decide) (by decide) (by decide) (by decide)
      have b1 : ∀ j, j < k + 1 → v2.1 132 j = 0 := by
        intro j hj
        rw [hv2, pu_si0 _ _ _ (by decide), pu_si1]
        by_cases q : j = k
        · rw [q, pk_us]
        · rw [pk_un q]; exact a1 j (by omega)
      have b2 : ∀ j, j < k → h j = true → v2.1 131 j = ρ j := by
        intro j hj hjh
        rw [hv2, pu_si1, pk_un (by omega), pu_si0 _ _ _ (by decide)]
        exact a2 j hj hjh
      have e0 : fX8_share_b6 n (sh_t ρ h k) x2 (nI k) v = xw_bp (fX8_isHere (nI k) v2) (fun r7 => if r7 = 0 then fX8_share_91 n (sh_t ρ h k) x2 (nI k) v2 else xw_bp (fX8_one (nI k) (3 : Int32) v2) (fun r10 => xw_b (fX8_rate n (nI k) r10 v2) (fun r12 w13 => if x2 = (-1 : Int32) then fX8_share_68 n (sh_t ρ h k) (nI k) r12 w13 else xw_ck x2 6 (if r12 ≤ (w13.1 131 x2.toNatClampNeg) then fX8_share_73 n (sh_t ρ h k) (nI k) r12 x2 w13 else fX8_share_68 n (sh_t ρ h k) (nI k) r12 w13)))) := by
        unfold fX8_share_b6
        rw [pu_n60, pu_c60, fv.1 120 (by decide) (by decide) (by decide) (by decide) (by decide), h60, if_neg (nI_ge hk (by omega)), pu_ck k6 (by decide), pu_cl (by omega), pu_lt, pu_ck k6 (by decide), pu_lt, ← hv2]
      have st : ∀ (x' : xw_M) (x2' : Int32), fX8_share_91 n (sh_t ρ h (k + 1)) x2' (nI k) x' = some (.inl (sh_t ρ h (k + 1), x2', nI (k + 1), x')) := by
        intro x' x2'
        unfold fX8_share_91
        rw [pu_lt, nI_1]
      have sA := sh_A_step k6 hA
      by_cases q : h k = true
      · obtain ⟨y, hy9, hyy⟩ := hy k hk
        have Dv : pm_D v2 := by
          unfold pm_D
          rw [f2.1 128 (by decide) (by decide) (by decide) (by decide) (by decide), f2.1 129 (by decide) (by decide) (by decide) (by decide) (by decide), f2.1 130 (by decide) (by decide) (by decide) (by decide) (by decide)]
          exact D
        obtain ⟨v3, er, fr⟩ := pm_rate (i := k) (y := y) Dv (rH_cong (f2.1 124 (by decide) (by decide) (by decide) (by decide) (by decide)) (f2.1 125 (by decide) (by decide) (by decide) (by decide) (by decide)) (by rw [g2]) H) hn k6 hy9
        have ρk : pg_rt cl (v2.1 120) k y = ρ k := by
          rw [g2, hρ]
          unfold pg_ro pg_y
          rw [hyy, pu_cl (by omega)]
        rw [ρk] at er
        have c131 : v3.1 131 = v2.1 131 := fr.1 131 (by decide) (by decide) (by decide)
        have c132 : v3.1 132 = v2.1 132 := fr.1 132 (by decide) (by decide) (by decide)
        have en : (if x2 = (-1 : Int32) then fX8_share_68 n (sh_t ρ h k) (nI k) (ρ k) v3 else xw_ck x2 6 (if ρ k ≤ (v3.1 131 x2.toNatClampNeg) then fX8_share_73 n (sh_t ρ h k) (nI k) (ρ k) x2 v3 else fX8_share_68 n (sh_t ρ h k) (nI k) (ρ k) v3)) = fX8_share_73 n (sh_t ρ h k) (nI k) (ρ k) (sh_n ρ h k x2) v3 := by
          unfold sh_n fX8_share_68
          rw [if_pos q]
          by_cases z : x2 = -1
          · rw [if_pos z, if_pos z]
          · rw [if_neg z, if_neg z]
            obtain ⟨p, hp, rfl, hp2⟩ : ∃ p, p < k ∧ x2 = nI p ∧ h p = true := by
              rcases hA with ⟨-, -, hx⟩ | ⟨p, hp, hx, hp2, -⟩
              · rcases hx with hx | ⟨p, hp, hx, hp2, -⟩
                · exact absurd hx z
                · exact ⟨p, hp, hx, hp2⟩
              · exact ⟨p, hp, hx, hp2⟩
            rw [pu_ck (by omega) (by decide), pu_cl (by omega), c131, b2 p hp hp2]
            by_cases z2 : ρ k ≤ ρ p
            · rw [if_pos z2, if_pos z2]
            · rw [if_neg z2, if_neg z2]
        refine Or.inl ⟨(sh_t ρ h (k + 1), sh_n ρ h k x2, nI (k + 1), xw_si v3 131 k (ρ k)), ?_, by omega, rfl, sA, rfl, ?_, fun j hj => ?_, fun j hj hjh => ?_⟩
        · show fX8_share_b6 n (sh_t ρ h k) x2 (nI k) v = _
          rw [e0, pm_isHere k6, pu_bp, g2, if_pos ((hhe k).mp q), if_neg (by decide), pu_o3 k6, pu_bp, g2, hyy, er, pu_b, en]
          unfold fX8_share_73
          rw [pu_ck k6 (by decide), pu_cl (by omega), pu_lt, pu_lt]
          have et : sh_t ρ h k + (if (0 : Int32) < ρ k then ρ k else (0 : Int32)) = sh_t ρ h (k + 1) := by
            show _ = sh_t ρ h k + sh_c ρ h k
            unfold sh_c
            rw [if_pos q]
          rw [et]
          exact st _ _
        · show pm_Fs w (xw_si v3 131 k (ρ k))
          exact pm_Fs_tr f2 (pm_Fs_tr (pm_Fs_of fr) (pm_Fs_si _ _ _ (Or.inl rfl)))
        · show (xw_si v3 131 k _).1 132 j = _
          rw [pu_si0 _ _ _ (by decide), c132]; exact b1 j hj
        · show (xw_si v3 131 k _).1 131 j = _
          rw [pu_si1]
          by_cases z : j = k
          · rw [z, pk_us]
          · rw [pk_un z, c131]; exact b2 j (by omega) hjh
      · have e2 : sh_n ρ h k x2 = x2 := if_neg q
        rw [e2] at sA
        refine Or.inl ⟨(sh_t ρ h (k + 1), x2, nI (k + 1), v2), ?_, by omega, rfl, sA, rfl, f2, b1, fun j hj hjh => b2 j (by rcases Nat.lt_or_ge j k with z | z; exact z; exact absurd (show h k = true by rw [show k = j by omega]; exact hjh) q) hjh⟩
        show fX8_share_b6 n (sh_t ρ h k) x2 (nI k) v = _
        rw [e0, pm_isHere k6, pu_bp, g2, if_neg (fun z => q ((hhe k).mpr z)), if_pos rfl]
        have et : sh_t ρ h k = sh_t ρ h (k + 1) := by
          show _ = sh_t ρ h k + sh_c ρ h k
          rw [show sh_c ρ h k = 0 from if_neg q, Int32.add_zero]
        rw [et]
        exact st _ _
    · rintro ⟨x1, x2, x3, v⟩ ⟨-, rfl, hA, rfl, fv, a1, a2⟩
      refine ⟨(_, _, v), ?_, rfl, hA, fv, a1, a2⟩
      show fX8_share_b6 n _ x2 (nI N) v = _
      unfold fX8_share_b6
      rw [pu_n60, pu_c60, fv.1 120 (by decide) (by decide) (by decide) (by decide) (by decide), h60, if_pos (nI_le (Nat.le_refl _) (by omega))]
  simp only [] at hT hF fu u132 u131
  subst hT
  rw [e, pu_bp]
  show ∃ w', fX8_share_97 n (sh_t ρ h N) F u = _ ∧ _
  unfold fX8_share_97
  have g1 : u.1 120 = w.1 120 := fu.1 120 (by decide) (by decide) (by decide) (by decide) (by decide)
  by_cases hp : 0 < sh_t ρ h N
  · have nz : ¬ sh_t ρ h N = 0 := fun z => by rw [z] at hp; exact absurd hp (by decide)
    obtain ⟨q, hq, rfl, hqh, hf1, hf2, hf3⟩ : ∃ q, q < N ∧ F = nI q ∧ h q = true ∧ (sh_f ρ h N).1 = nI q ∧ (sh_f ρ h N).2 = ρ q ∧ 0 < ρ q := by
      rcases hF with ⟨-, t0, -⟩ | z
      · exact absurd t0 nz
      · exact z
    rw [if_neg (pu_nle.mpr hp), pu_n61, pu_c61, g1, pu_lt]
    unfold fX8_share_112
    obtain ⟨⟨L, v⟩, e3, hL, fv, v132⟩ : ∃ r : Int32 × xw_M, xw_it (fun z => fX8_share_b112 n (sh_t ρ h N) (nI q) z.1 z.2.1 z.2.2) n (w.1 120 61, (0 : Int32), u) = some r ∧ r.1 = sh_r ρ h (w.1 120 61) (sh_t ρ h N) N ∧ pm_Fs w r.2 ∧ ∀ j, j < N → r.2.1 132 j = w.1 120 61 * sh_c ρ h j / sh_t ρ h N := by
      refine pu_inv (fun z => fX8_share_b112 n (sh_t ρ h N) (nI q) z.1 z.2.1 z.2.2) (fun k z => k ≤ N ∧ z.1 = sh_r ρ h (w.1 120 61) (sh_t ρ h N) k ∧ z.2.1 = nI k ∧ pm_Fs w z.2.2 ∧ z.2.2.1 131 = u.1 131 ∧ ∀ j, j < k → z.2.2.1 132 j = w.1 120 61 * sh_c ρ h j / sh_t ρ h N) N _ ?_ ?_ n 0 _ (by omega) (by omega) ⟨by omega, rfl, rfl, fu, rfl, fun j hj => absurd hj (by omega)⟩
      · rintro k ⟨x3, x4, v⟩ hk ⟨-, rfl, rfl, fv, v131, a1⟩
        have k6 : k < 6 := by omega
        have gv : v.1 120 = w.1 120 := fv.1 120 (by decide) (by decide) (by decide) (by decide) (by decide)
        refine Or.inl ⟨(sh_r ρ h (w.1 120 61) (sh_t ρ h N) (k + 1), nI (k + 1), xw_si v 132 k (w.1 120 61 * sh_c ρ h k / sh_t ρ h N)), ?_, by omega, rfl, rfl, pm_Fs_tr fv (pm_Fs_si _ _ _ (Or.inr rfl)), by show (xw_si v 132 k _).1 131 = _; rw [pu_si0 _ _ _ (by decide)]; exact v131, fun j hj => ?_⟩
        · show fX8_share_b112 n (sh_t ρ h N) (nI q) _ (nI k) v = _
          have e158 : ∀ v4 : Int32, (if (0 : Int32) < v4 then v4 else 0) = sh_c ρ h k → fX8_share_158 n (sh_t ρ h N) (nI q) (sh_r ρ h (w.1 120 61) (sh_t ρ h N) k) (nI k) 132 (nI k) (w.1 120 61) (0 : Int32) v4 v = some (.inl (sh_r ρ h (w.1 120 61) (sh_t ρ h N) (k + 1), nI (k + 1), xw_si v 132 k (w.1 120 61 * sh_c ρ h k / sh_t ρ h N))) := by
            intro v4 hv4
            unfold fX8_share_158
            rw [pu_ccT nz, pu_ck k6 (by decide), pu_cl (by omega), hv4, pu_lt, pu_ck k6 (by decide), pu_lt, pu_lt, nI_1, pu_si1, pk_us]
            rfl
          unfold fX8_share_b112
          rw [pu_n60, pu_c60, gv, h60, if_neg (nI_ge hk (by omega)), pu_n61, pu_c61, pm_isHere k6, pu_bp, gv]
          by_cases z : h k = true
          · rw [if_pos ((hhe k).mp z), if_neg (by decide), pu_ck k6 (by decide), pu_cl (by omega), v131, u131 k hk z]
            exact e158 _ (by unfold sh_c; rw [if_pos z])
          · rw [if_neg (fun z2 => z ((hhe k).mpr z2)), if_pos rfl]
            exact e158 _ (by rw [show sh_c ρ h k = 0 from if_neg z]; decide)
        · show (xw_si v 132 k _).1 132 j = _
          rw [pu_si1]
          by_cases z : j = k
          · rw [z, pk_us]
          · rw [pk_un z]; exact a1 j (by omega)
      · rintro ⟨x3, x4, v⟩ ⟨-, rfl, rfl, fv, v131, a1⟩
        refine ⟨(_, v), ?_, rfl, fv, a1⟩
        show fX8_share_b112 n (sh_t ρ h N) (nI q) _ (nI N) v = _
        unfold fX8_share_b112
        rw [pu_n60, pu_c60, fv.1 120 (by decide) (by decide) (by decide) (by decide) (by decide), h60, if_pos (nI_le (Nat.le_refl _) (by omega))]
    simp only [] at hL fv v132
    subst hL
    rw [e3, pu_bp]
    refine ⟨xw_si v 132 q (w.1 120 61 * sh_c ρ h q / sh_t ρ h N + sh_r ρ h (w.1 120 61) (sh_t ρ h N) N), ?_, pm_Fs_tr fv (pm_Fs_si _ _ _ (Or.inr rfl)), fun i hi => ?_⟩
    · show fX8_share_181 n (nI q) _ v = _
      unfold fX8_share_181
      rw [pu_ck (by omega) (by decide), pu_ck (by omega) (by decide), pu_cl (by omega), pu_lt, v132 q hq]
    · rw [pu_si1]
      unfold sh
      rw [if_pos hp, hf1]
      by_cases z : i = q
      · rw [z, pk_us, if_pos rfl, sh_r_l ρ h _ _ (by omega) N hN, if_pos hq]
      · rw [pk_un z, if_neg (fun z2 => z ((nI_eq (by omega) (by omega)).mp z2)), v132 i hi]
  · rw [if_pos (pu_nlt.mp hp)]
    refine ⟨u, rfl, fu, fun i hi => ?_⟩
    unfold sh
    rw [if_neg hp, u132 i hi]
