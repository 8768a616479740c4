/-! ===== the tables' words: all good ===== -/
def TB : List Cond := lw_tbl.filter goodWord
theorem TB_in {w : Cond} (i : Nat) (h : lw_tbl[i]? = some w) (g : goodWord w = true) : w ∈ TB := List.mem_filter.mpr ⟨List.mem_of_getElem? h, g⟩
theorem TB_tbl {w : Cond} (h : w ∈ TB) : w ∈ lw_tbl := (List.mem_filter.mp h).1
theorem TB_g {w : Cond} (h : w ∈ TB) : (w.onTables && w.keeps) = true ∨ ∃ ty, w = .arrayClass ty := good_of_word (List.mem_filter.mp h).2
theorem TB_G {ws : List Cond} (h : ∀ w ∈ ws, w ∈ TB) : GoodIn TB ws := fun w hw => ⟨h w hw, TB_g (h w hw)⟩
theorem xw_gV {own C : String} {i : Nat} {y : MethodName} {cy : Cond} (h1 : Cond.methodLink own i y ∈ TB) (h2 : Cond.instanceMethod y ∈ TB) (h3 : Cond.selects C y y ∈ TB) (h4 : Cond.initialized C ∈ TB) (h5 : cy ∈ TB) : GoodIn TB (wsV own i C y (cy :: TB)) := TB_G (fun w h => by
  rcases List.mem_append.mp h with h | h
  · simp only [List.mem_cons, List.not_mem_nil, or_false] at h
    rcases h with rfl | rfl | rfl | rfl <;> assumption
  · rcases List.mem_cons.mp h with rfl | h <;> assumption)
theorem xw_gS {own : String} {i : Nat} {y : MethodName} {cy : Cond} (h1 : Cond.methodLink own i y ∈ TB) (h2 : Cond.static y ∈ TB) (h4 : Cond.initialized own ∈ TB) (h5 : cy ∈ TB) : GoodIn TB (wsS own i y (cy :: TB)) := TB_G (fun w h => by
  rcases List.mem_append.mp h with h | h
  · simp only [List.mem_cons, List.not_mem_nil, or_false] at h
    rcases h with rfl | rfl | rfl <;> assumption
  · rcases List.mem_cons.mp h with rfl | h <;> assumption)
theorem xw_gW {cy : Cond} (h5 : cy ∈ TB) : GoodIn TB (cy :: TB) := TB_G (fun w h => by
  rcases List.mem_cons.mp h with rfl | h <;> assumption)
/-! ===== memory ===== -/
abbrev xw_M : Type := (Nat → Nat → Int32) × (Nat → Nat → Int64)
abbrev xw_G : Type := va_G × (Nat → ClassId) × (Nat → Nat) × Nat × (Nat → Nat)
abbrev xw_D (G : xw_G) : va_G := G.1
abbrev xw_q (G : xw_G) : Nat → ClassId := G.2.1
abbrev xw_ad (G : xw_G) : Nat → Nat := G.2.2.1
abbrev xw_s0 (G : xw_G) : Nat := G.2.2.2.1
abbrev xw_sa (G : xw_G) : Nat → Nat := G.2.2.2.2
def xw_A (G : xw_G) : Nat → Prop := fun q => xw_s0 G ≤ q
abbrev xw_cl : List vw_C := [(RX0, TX0, 5), (RX1, TX1, 4), (RX2, TX2, 8), (RX3, TX3, 6), (RX4, TX4, 3), (RX5, TX5, 14), (RX6, TX6, 3), (RX7, TX7, 11), (RX8, TX8, 31)]
abbrev xw_ty (G : xw_G) : List (ClassId × FieldType) := [(xw_q G 0, .int), (xw_q G 1, .byte), (xw_q G 2, .char), (xw_q G 3, .long), (xw_q G 4, .object RX2), (xw_q G 5, .object RX6)]
def xw_si (μ : xw_M) (k j : Nat) (v : Int32) : xw_M := (va_up μ.1 k (upd (μ.1 k) j v), μ.2)
def xw_sl (μ : xw_M) (k j : Nat) (v : Int64) : xw_M := (μ.1, va_up μ.2 k (vp_updL (μ.2 k) j v))
def xw_ci (μ : xw_M) (k k' sp dp n : Nat) : xw_M := (va_up μ.1 k' (va_cpy (μ.1 k) (μ.1 k') sp dp n), μ.2)
def xw_cL (μ : xw_M) (k k' sp dp n : Nat) : xw_M := (μ.1, va_up μ.2 k' (va_cpy (μ.2 k) (μ.2 k') sp dp n))

def xw_F0 (G : xw_G) (f : Nat → Int32) : List Value := [.int (f 0), .int (f 1), .int (f 2), .int (f 3), .ref (xw_ad G (69))]
def xw_F1 (G : xw_G) (b : Nat) (f : Nat → Int32) : List Value := [.int (f 0), .ref (xw_ad G (b + 1)), .ref (xw_ad G (b + 2)), .int (f 3)]
def xw_F2 (G : xw_G) (b : Nat) (f : Nat → Int32) : List Value := [.int (f 0), .int (f 1), .ref (xw_ad G (b + 1)), .ref (xw_ad G (b + 2)), .int (f 4), .ref (xw_ad G (b + 3)), .ref (xw_ad G (b + 4)), .ref (xw_ad G (b + 5))]
def xw_F3 (G : xw_G) (f : Nat → Int32) : List Value := [.ref (xw_ad G (50)), .int (f 1), .int (f 2), .int (f 3), .int (f 4), .ref (xw_ad G (f 5).toNatClampNeg)]
def xw_F4 (G : xw_G) (f : Nat → Int32) : List Value := [.ref (xw_ad G (65)), .ref (xw_ad G (66)), .ref (xw_ad G (67))]
def xw_F5 (G : xw_G) (b : Nat) (f : Nat → Int32) : List Value := [.int (f 0), .ref (xw_ad G (b + 1)), .ref (xw_ad G (b + 2)), .ref (xw_ad G (b + 3)), .ref (xw_ad G (b + 4)), .ref (xw_ad G (b + 5)), .ref (xw_ad G (b + 6)), .int (f 7), .int (f 8), .int (f 9), .int (f 10), .ref (xw_ad G (b + 7)), .ref (xw_ad G (b + 10)), .ref (xw_ad G (b + 13))]
def xw_F6 (G : xw_G) (b : Nat) (f : Nat → Int32) : List Value := [.int (f 0), .int (f 1), .ref (xw_ad G (b + 1))]
def xw_F7 (G : xw_G) (f : Nat → Int32) : List Value := [.ref (xw_ad G (1)), .ref (xw_ad G (17)), .ref (xw_ad G (33)), .int (f 3), .ref (xw_ad G (49)), .ref (xw_ad G (57)), .int (f 6), .ref (xw_ad G (58)), .ref (xw_ad G (64)), .ref (xw_ad G (68)), .ref (xw_ad G (70))]
def xw_F8 (G : xw_G) (f : Nat → Int32) : List Value := [.ref (xw_ad G (120)), .ref (xw_ad G (121)), .ref (xw_ad G (122)), .int (f 3), .ref (xw_ad G (123)), .int (f 5), .ref (xw_ad G (124)), .ref (xw_ad G (125)), .int (f 8), .ref (xw_ad G (126)), .int (f 10), .int (f 11), .int (f 12), .int (f 13), .int (f 14), .int (f 15), .ref (xw_ad G (127)), .ref (xw_ad G (128)), .ref (xw_ad G (129)), .ref (xw_ad G (130)), .ref (xw_ad G (131)), .ref (xw_ad G (132)), .ref (xw_ad G (133)), .ref (xw_ad G (134)), .ref (xw_ad G (135)), .ref (xw_ad G (136)), .int (f 26), .ref (xw_ad G (137)), .ref (xw_ad G (138)), .ref (xw_ad G (139)), .ref (xw_ad G (140))]
def xw_cI (G : xw_G) (t n : Nat) : (Nat → Int32) → (Nat → Int64) → va_E := fun f _ => .inl (xw_q G t, n, .inl f)
def xw_cJ (G : xw_G) (n : Nat) : (Nat → Int32) → (Nat → Int64) → va_E := fun _ g => .inl (xw_q G 3, n, .inr (.inl g))
def xw_cR (G : xw_G) (t n : Nat) (r : Nat → Option Nat) : (Nat → Int32) → (Nat → Int64) → va_E := fun _ _ => .inl (xw_q G t, n, .inr (.inr (.inr (.inr r))))
def xw_cO (ci : Nat) (F : (Nat → Int32) → List Value) : (Nat → Int32) → (Nat → Int64) → va_E := fun f _ => .inr (ci, F f)
def xw_tP (G : xw_G) (p : Nat) : List ((Nat → Int32) → (Nat → Int64) → va_E) := [xw_cO 2 (xw_F2 G p), xw_cI G 0 10, xw_cI G 0 10, xw_cI G 0 100, xw_cI G 0 100, xw_cI G 0 100]
def xw_tQ (G : xw_G) (q : Nat) : List ((Nat → Int32) → (Nat → Int64) → va_E) := [xw_cO 1 (xw_F1 G q), xw_cI G 0 8, xw_cI G 0 8]
def xw_tS (G : xw_G) (b : Nat) : List ((Nat → Int32) → (Nat → Int64) → va_E) := [xw_cO 5 (xw_F5 G b), xw_cI G 0 6, xw_cI G 0 6, xw_cI G 0 6, xw_cI G 0 6, xw_cI G 0 6, xw_cI G 0 24] ++ (xw_tQ G (b + 7) ++ (xw_tQ G (b + 10) ++ xw_tQ G (b + 13)))
def xw_tT (G : xw_G) (t : Nat) : List ((Nat → Int32) → (Nat → Int64) → va_E) := [xw_cO 6 (xw_F6 G t), xw_cJ G 60]
def xw_rP (G : xw_G) : Nat → Option Nat := fun i => if i < 6 then some (xw_ad G (71 + 6 * i)) else none
def xw_rT (G : xw_G) : Nat → Option Nat := fun i => if i < 6 then some (xw_ad G (107 + 2 * i)) else none
def xw_cells (G : xw_G) : List ((Nat → Int32) → (Nat → Int64) → va_E) := [xw_cO 7 (xw_F7 G)] ++ (xw_tS G 1 ++ (xw_tS G 17 ++ (xw_tS G 33 ++ ([xw_cO 3 (xw_F3 G), xw_cI G 1 100] ++ (xw_tP G 51 ++ ([xw_cR G 4 6 (xw_rP G)] ++ (xw_tP G 58 ++ ([xw_cO 4 (xw_F4 G), xw_cI G 0 60, xw_cI G 0 6, xw_cI G 0 6, xw_cO 0 (xw_F0 G), xw_cI G 0 20, xw_cR G 5 6 (xw_rT G)] ++ (xw_tP G 71 ++ (xw_tP G 77 ++ (xw_tP G 83 ++ (xw_tP G 89 ++ (xw_tP G 95 ++ (xw_tP G 101 ++ (xw_tT G 107 ++ (xw_tT G 109 ++ (xw_tT G 111 ++ (xw_tT G 113 ++ (xw_tT G 115 ++ (xw_tT G 117 ++ [xw_cO 8 (xw_F8 G), xw_cI G 0 109, xw_cI G 0 218, xw_cI G 0 109, xw_cI G 0 100, xw_cI G 0 600, xw_cI G 0 6, xw_cI G 0 100, xw_cI G 0 6, xw_cI G 2 6, xw_cI G 2 3, xw_cI G 2 15, xw_cI G 0 6, xw_cI G 0 6, xw_cI G 0 6, xw_cI G 0 7, xw_cI G 0 21, xw_cI G 0 20, xw_cI G 0 6, xw_cI G 0 6, xw_cJ G 360, xw_cJ G 60]))))))))))))))))))))
def xw_cell (G : xw_G) (k : Nat) (f : Nat → Int32) (g : Nat → Int64) : va_E := match (xw_cells G)[k]? with
  | some c => c f g
  | none => .inr (0, [])
def xw_W (G : xw_G) (μ : xw_M) : va_W := (List.range 141).map (fun k => (xw_ad G k, xw_cell G k (μ.1 k) (μ.2 k)))
theorem xw_at (G : xw_G) (μ : xw_M) {k : Nat} (hk : k < 141) : (xw_W G μ)[k]? = some (xw_ad G k, xw_cell G k (μ.1 k) (μ.2 k)) := by
  simp [xw_W, hk]
theorem xw_set (G : xw_G) {μ μ' : xw_M} {k : Nat} {e : va_E} (he : e = xw_cell G k (μ'.1 k) (μ'.2 k)) (h : ∀ i, i ≠ k → μ'.1 i = μ.1 i ∧ μ'.2 i = μ.2 i) : (xw_W G μ).set k (xw_ad G k, e) = xw_W G μ' := by
  subst he
  refine List.ext_getElem? (fun i => ?_)
  rw [List.getElem?_set]
  by_cases hi : i < 141
  · by_cases e : k = i
    · subst e
      rw [if_pos rfl, if_pos (by simp [xw_W, hi]), xw_at G μ' hi]
    · rw [if_neg e, xw_at G μ hi, xw_at G μ' hi, (h i (fun q => e q.symm)).1, (h i (fun q => e q.symm)).2]
  · have h1 : (xw_W G μ)[i]? = none := by simp [xw_W]; omega
    have h2 : (xw_W G μ')[i]? = none := by simp [xw_W]; omega
    by_cases e : k = i
    · subst e
      rw [if_pos rfl, if_neg (by simp [xw_W]; omega), h2]
    · rw [if_neg e, h1, h2]
/-! ===== shapes ===== -/
def xw_io (G : xw_G) (ci k : Nat) (F : (Nat → Int32) → List Value) : Prop := k < 141 ∧ ∀ f g, xw_cell G k f g = .inr (ci, F f)
def xw_ia (G : xw_G) (t k n : Nat) : Prop := k < 141 ∧ ∀ f g, xw_cell G k f g = .inl (xw_q G t, n, .inl f)
def xw_il (G : xw_G) (k n : Nat) : Prop := k < 141 ∧ ∀ f g, xw_cell G k f g = .inl (xw_q G 3, n, .inr (.inl g))
def xw_ir (G : xw_G) (t k n : Nat) (r : Nat → Option Nat) : Prop := k < 141 ∧ ∀ f g, xw_cell G k f g = .inl (xw_q G t, n, .inr (.inr (.inr (.inr r))))
theorem xw_io.at {G : xw_G} {ci k : Nat} {F : (Nat → Int32) → List Value} (h : xw_io G ci k F) (μ : xw_M) : (xw_W G μ)[k]? = some (xw_ad G k, .inr (ci, F (μ.1 k))) := by rw [xw_at G μ h.1, h.2]
theorem xw_ia.at {G : xw_G} {t k n : Nat} (h : xw_ia G t k n) (μ : xw_M) : (xw_W G μ)[k]? = some (xw_ad G k, .inl (xw_q G t, n, .inl (μ.1 k))) := by rw [xw_at G μ h.1, h.2]
theorem xw_il.at {G : xw_G} {k n : Nat} (h : xw_il G k n) (μ : xw_M) : (xw_W G μ)[k]? = some (xw_ad G k, .inl (xw_q G 3, n, .inr (.inl (μ.2 k)))) := by rw [xw_at G μ h.1, h.2]
theorem xw_ir.at {G : xw_G} {t k n : Nat} {r : Nat → Option Nat} (h : xw_ir G t k n r) (μ : xw_M) : (xw_W G μ)[k]? = some (xw_ad G k, .inl (xw_q G t, n, .inr (.inr (.inr (.inr r))))) := by rw [xw_at G μ h.1, h.2]
/-! which numbers are Scenes, Pairs, Parishes, Tapes -/
abbrev xw_sc (b : Nat) : Prop := b = 1 ∨ b = 17 ∨ b = 33
abbrev xw_pr (b : Nat) : Prop := b = 8 ∨ b = 11 ∨ b = 14 ∨ b = 24 ∨ b = 27 ∨ b = 30 ∨ b = 40 ∨ b = 43 ∨ b = 46
abbrev xw_pa (b : Nat) : Prop := b = 51 ∨ b = 58 ∨ b = 71 ∨ b = 77 ∨ b = 83 ∨ b = 89 ∨ b = 95 ∨ b = 101
abbrev xw_tp (b : Nat) : Prop := b = 107 ∨ b = 109 ∨ b = 111 ∨ b = 113 ∨ b = 115 ∨ b = 117
theorem xw_sc_7 {b : Nat} (h : xw_sc b) : xw_pr (b + 7) := by rcases h with rfl | rfl | rfl <;> decide
theorem xw_sc_10 {b : Nat} (h : xw_sc b) : xw_pr (b + 10) := by rcases h with rfl | rfl | rfl <;> decide
theorem xw_sc_13 {b : Nat} (h : xw_sc b) : xw_pr (b + 13) := by rcases h with rfl | rfl | rfl <;> decide
theorem xw_o7 (G : xw_G) : xw_io G 7 0 (xw_F7 G) := ⟨by decide, fun _ _ => rfl⟩
theorem xw_o3 (G : xw_G) : xw_io G 3 49 (xw_F3 G) := ⟨by decide, fun _ _ => rfl⟩
theorem xw_o4 (G : xw_G) : xw_io G 4 64 (xw_F4 G) := ⟨by decide, fun _ _ => rfl⟩
theorem xw_o0 (G : xw_G) : xw_io G 0 68 (xw_F0 G) := ⟨by decide, fun _ _ => rfl⟩
theorem xw_o8 (G : xw_G) : xw_io G 8 119 (xw_F8 G) := ⟨by decide, fun _ _ => rfl⟩
theorem xw_o1 (G : xw_G) {b : Nat} (h : xw_pr b) : xw_io G 1 b (xw_F1 G b) := by rcases h with rfl | rfl | rfl | rfl | rfl | rfl | rfl | rfl | rfl <;> exact ⟨by decide, fun _ _ => rfl⟩
theorem xw_o2 (G : xw_G) {b : Nat} (h : xw_pa b) : xw_io G 2 b (xw_F2 G b) := by rcases h with rfl | rfl | rfl | rfl | rfl | rfl | rfl | rfl <;> exact ⟨by decide, fun _ _ => rfl⟩
theorem xw_o5 (G : xw_G) {b : Nat} (h : xw_sc b) : xw_io G 5 b (xw_F5 G b) := by rcases h with rfl | rfl | rfl <;> exact ⟨by decide, fun _ _ => rfl⟩
theorem xw_o6 (G : xw_G) {b : Nat} (h : xw_tp b) : xw_io G 6 b (xw_F6 G b) := by rcases h with rfl | rfl | rfl | rfl | rfl | rfl <;> exact ⟨by decide, fun _ _ => rfl⟩
theorem xw_a1_1 (G : xw_G) {b : Nat} (h : xw_pr b) : xw_ia G 0 (b + 1) 8 := by rcases h with rfl | rfl | rfl | rfl | rfl | rfl | rfl | rfl | rfl <;> exact ⟨by decide, fun _ _ => rfl⟩
theorem xw_a1_2 (G : xw_G) {b : Nat} (h : xw_pr b) : xw_ia G 0 (b + 2) 8 := by rcases h with rfl | rfl | rfl | rfl | rfl | rfl | rfl | rfl | rfl <;> exact ⟨by decide, fun _ _ => rfl⟩
theorem xw_a2_1 (G : xw_G) {b : Nat} (h : xw_pa b) : xw_ia G 0 (b + 1) 10 := by rcases h with rfl | rfl | rfl | rfl | rfl | rfl | rfl | rfl <;> exact ⟨by decide, fun _ _ => rfl⟩
theorem xw_a2_2 (G : xw_G) {b : Nat} (h : xw_pa b) : xw_ia G 0 (b + 2) 10 := by rcases h with rfl | rfl | rfl | rfl | rfl | rfl | rfl | rfl <;> exact ⟨by decide, fun _ _ => rfl⟩
theorem xw_a2_3 (G : xw_G) {b : Nat} (h : xw_pa b) : xw_ia G 0 (b + 3) 100 := by rcases h with rfl | rfl | rfl | rfl | rfl | rfl | rfl | rfl <;> exact ⟨by decide, fun _ _ => rfl⟩
theorem xw_a2_4 (G : xw_G) {b : Nat} (h : xw_pa b) : xw_ia G 0 (b + 4) 100 := by rcases h with rfl | rfl | rfl | rfl | rfl | rfl | rfl | rfl <;> exact ⟨by decide, fun _ _ => rfl⟩
theorem xw_a2_5 (G : xw_G) {b : Nat} (h : xw_pa b) : xw_ia G 0 (b + 5) 100 := by rcases h with rfl | rfl | rfl | rfl | rfl | rfl | rfl | rfl <;> exact ⟨by decide, fun _ _ => rfl⟩
theorem xw_a5_1 (G : xw_G) {b : Nat} (h : xw_sc b) : xw_ia G 0 (b + 1) 6 := by rcases h with rfl | rfl | rfl <;> exact ⟨by decide, fun _ _ => rfl⟩
theorem xw_a5_2 (G : xw_G) {b : Nat} (h : xw_sc b) : xw_ia G 0 (b + 2) 6 := by rcases h with rfl | rfl | rfl <;> exact ⟨by decide, fun _ _ => rfl⟩
theorem xw_a5_3 (G : xw_G) {b : Nat} (h : xw_sc b) : xw_ia G 0 (b + 3) 6 := by rcases h with rfl | rfl | rfl <;> exact ⟨by decide, fun _ _ => rfl⟩
theorem xw_a5_4 (G : xw_G) {b : Nat} (h : xw_sc b) : xw_ia G 0 (b + 4) 6 := by rcases h with rfl | rfl | rfl <;> exact ⟨by decide, fun _ _ => rfl⟩
theorem xw_a5_5 (G : xw_G) {b : Nat} (h : xw_sc b) : xw_ia G 0 (b + 5) 6 := by rcases h with rfl | rfl | rfl <;> exact ⟨by decide, fun _ _ => rfl⟩
theorem xw_a5_6 (G : xw_G) {b : Nat} (h : xw_sc b) : xw_ia G 0 (b + 6) 24 := by rcases h with rfl | rfl | rfl <;> exact ⟨by decide, fun _ _ => rfl⟩
theorem xw_a6_1 (G : xw_G) {b : Nat} (h : xw_tp b) : xw_il G (b + 1) 60 := by rcases h with rfl | rfl | rfl | rfl | rfl | rfl <;> exact ⟨by decide, fun _ _ => rfl⟩
theorem xw_k50 (G : xw_G) : xw_ia G 1 50 100 := ⟨by decide, fun _ _ => rfl⟩
theorem xw_k65 (G : xw_G) : xw_ia G 0 65 60 := ⟨by decide, fun _ _ => rfl⟩
theorem xw_k66 (G : xw_G) : xw_ia G 0 66 6 := ⟨by decide, fun _ _ => rfl⟩
theorem xw_k67 (G : xw_G) : xw_ia G 0 67 6 := ⟨by decide, fun _ _ => rfl⟩
theorem xw_k69 (G : xw_G) : xw_ia G 0 69 20 := ⟨by decide, fun _ _ => rfl⟩
theorem xw_k120 (G : xw_G) : xw_ia G 0 120 109 := ⟨by decide, fun _ _ => rfl⟩
theorem xw_k121 (G : xw_G) : xw_ia G 0 121 218 := ⟨by decide, fun _ _ => rfl⟩
theorem xw_k122 (G : xw_G) : xw_ia G 0 122 109 := ⟨by decide, fun _ _ => rfl⟩
theorem xw_k123 (G : xw_G) : xw_ia G 0 123 100 := ⟨by decide, fun _ _ => rfl⟩
theorem xw_k124 (G : xw_G) : xw_ia G 0 124 600 := ⟨by decide, fun _ _ => rfl⟩
theorem xw_k125 (G : xw_G) : xw_ia G 0 125 6 := ⟨by decide, fun _ _ => rfl⟩
theorem xw_k126 (G : xw_G) : xw_ia G 0 126 100 := ⟨by decide, fun _ _ => rfl⟩
theorem xw_k127 (G : xw_G) : xw_ia G 0 127 6 := ⟨by decide, fun _ _ => rfl⟩
theorem xw_k128 (G : xw_G) : xw_ia G 2 128 6 := ⟨by decide, fun _ _ => rfl⟩
theorem xw_k129 (G : xw_G) : xw_ia G 2 129 3 := ⟨by decide, fun _ _ => rfl⟩
theorem xw_k130 (G : xw_G) : xw_ia G 2 130 15 := ⟨by decide, fun _ _ => rfl⟩
theorem xw_k131 (G : xw_G) : xw_ia G 0 131 6 := ⟨by decide, fun _ _ => rfl⟩
theorem xw_k132 (G : xw_G) : xw_ia G 0 132 6 := ⟨by decide, fun _ _ => rfl⟩
theorem xw_k133 (G : xw_G) : xw_ia G 0 133 6 := ⟨by decide, fun _ _ => rfl⟩
theorem xw_k134 (G : xw_G) : xw_ia G 0 134 7 := ⟨by decide, fun _ _ => rfl⟩
theorem xw_k135 (G : xw_G) : xw_ia G 0 135 21 := ⟨by decide, fun _ _ => rfl⟩
theorem xw_k136 (G : xw_G) : xw_ia G 0 136 20 := ⟨by decide, fun _ _ => rfl⟩
theorem xw_k137 (G : xw_G) : xw_ia G 0 137 6 := ⟨by decide, fun _ _ => rfl⟩
theorem xw_k138 (G : xw_G) : xw_ia G 0 138 6 := ⟨by decide, fun _ _ => rfl⟩
theorem xw_k139 (G : xw_G) : xw_il G 139 360 := ⟨by decide, fun _ _ => rfl⟩
theorem xw_k140 (G : xw_G) : xw_il G 140 60 := ⟨by decide, fun _ _ => rfl⟩
theorem xw_k57 (G : xw_G) : xw_ir G 4 57 6 (xw_rP G) := ⟨by decide, fun _ _ => rfl⟩
theorem xw_k70 (G : xw_G) : xw_ir G 5 70 6 (xw_rT G) := ⟨by decide, fun _ _ => rfl⟩
def xw_ok (G : xw_G) : Prop := (∀ i j, i < 141 → j < 141 → xw_ad G i = xw_ad G j → i = j) ∧ ∀ i, i < 141 → xw_s0 G ≤ xw_ad G i
theorem xw_dis {G : xw_G} (h : xw_ok G) (μ : xw_M) : va_D (xw_A G) (xw_W G μ) := by
  have key : ∀ (i : Nat) (p : Nat × va_E), (xw_W G μ)[i]? = some p → i < 141 ∧ p.1 = xw_ad G i := by
    intro i p hp
    by_cases hi : i < 141
    · rw [xw_at G μ hi] at hp
      cases hp
      exact ⟨hi, rfl⟩
    · have : (xw_W G μ)[i]? = none := by simp [xw_W]; omega
      rw [this] at hp
      cases hp
  refine ⟨fun i j p q hp hq e => ?_, fun k q hq => ?_⟩
  · obtain ⟨a1, a2⟩ := key i p hp
    obtain ⟨b1, b2⟩ := key j q hq
    exact h.1 i j a1 b1 (by rw [← a2, ← b2]; exact e)
  · obtain ⟨a1, a2⟩ := key k q hq
    show xw_s0 G ≤ q.1
    rw [a2]
    exact h.2 k a1
/-! ===== what nobody writes: nest links, statics, String constants ===== -/
def xw_NL : List Cond := [.methodLinkNest RX7 (13 : Nat) yX5_init RX7, .methodLinkNest RX7 (28 : Nat) yX3_init RX7, .methodLinkNest RX3 (21 : Nat) yX2_init RX7, .methodLinkNest RX7 (39 : Nat) yX2_init RX7, .methodLinkNest RX7 (46 : Nat) yX4_init RX7, .methodLinkNest RX7 (53 : Nat) yX0_init RX7, .methodLinkNest RX7 (64 : Nat) yX6_init RX7, .methodLinkNest RX5 (58 : Nat) yX7_put RX7, .methodLinkNest RX4 (29 : Nat) yX7_put RX7, .methodLinkNest RX4 (39 : Nat) yX7_at RX7, .methodLinkNest RX2 (41 : Nat) yX7_at RX7, .methodLinkNest RX2 (37 : Nat) yX7_put RX7, .methodLinkNest RX5 (62 : Nat) yX7_copyRow RX7, .methodLinkNest RX1 (35 : Nat) yX7_copyRow RX7, .methodLinkNest RX1 (31 : Nat) yX7_put RX7, .methodLinkNest RX0 (27 : Nat) yX7_at RX7, .fieldLinkNest RX0 (48 : Nat) RX7 "ABOVE" "[I" RX7, .methodLinkNest RX0 (54 : Nat) yX7_put RX7]
def xw_sv : Nat → String × String × String := fun k => match k with
  | 0 => ("FuneralDebts", "ABOVE", "[I")
  | _ => ("FuneralDebts$Actor", "BODY", "[I")
def xw_above (j : Nat) : Int32 := ([-1, 0, 0, 0, 1, 2, 3] : List Int32).getD j 0
def xw_body (j : Nat) : Int32 := ([10, 0, 30, 0, 50, 0, 71, 11, 20, 0, 0, 51, 0, 70, 12, 0, 0, 40, 0, 60, 0] : List Int32).getD j 0
def xw_slen : List Nat := [5, 5, 5, 1, 1]
def xw_sbyt : List (List Int32) := [[121, 97, 114, 100, 32], [108, 101, 115, 115, 32], [109, 111, 114, 101, 32], [32], [41]]
def xw_Ev (G : xw_G) (U : State) : Prop := (∀ q ∈ xw_NL, va_Nw q U) ∧ vk_R RX3 42 "yard " (xw_sa G 10) U ∧ vk_R RX3 44 "less " (xw_sa G 11) U ∧ vk_R RX3 46 "more " (xw_sa G 12) U ∧ vk_R RX3 61 " " (xw_sa G 13) U ∧ vk_R RX3 91 ")" (xw_sa G 14) U
def xw_Eh (G : xw_G) (U : State) (H : Heap) : Prop := va_Z "FuneralDebts" "ABOVE" "[I" (.ref (xw_sa G 0)) (xw_A G) U H ∧ va_Z "FuneralDebts$Actor" "BODY" "[I" (.ref (xw_sa G 1)) (xw_A G) U H ∧ va_T .int (xw_sa G 0) 7 (fun j => .int (xw_above j)) (xw_A G) U H ∧ va_T .int (xw_sa G 1) 21 (fun j => .int (xw_body j)) (xw_A G) U H ∧ vk_S 5 xw_slen xw_sbyt (fun i => xw_sa G (10 + i)) (fun i => xw_sa G (20 + i)) (xw_A G) U H ∧ va_Z "java/lang/String" "COMPACT_STRINGS" "Z" (.int 1) (xw_A G) U H ∧ va_Zq "jdk/internal/util/Preconditions" "SIOOBE_FORMATTER" "Ljava/util/function/BiFunction;" (xw_A G) U H
def xw_E (G : xw_G) (U : State) (H : Heap) : Prop := xw_Ev G U ∧ xw_Eh G U H ∧ xw_s0 G ≤ H.size

theorem xw_Eh.moved {G : xw_G} {u U : State} {H : Heap} (hvm : u.vm.Alike U.vm) (h : xw_Eh G u H) : xw_Eh G U H := ⟨h.1.moved hvm, h.2.1.moved hvm, h.2.2.1.moved hvm, h.2.2.2.1.moved hvm, h.2.2.2.2.1.moved hvm, h.2.2.2.2.2.1.moved hvm, h.2.2.2.2.2.2.moved hvm⟩
theorem xw_Eh.kept {G : xw_G} {U : State} {H H1 : Heap} (h : xw_Eh G U H) (hq : ∀ a : Nat, a < H.size → ¬ xw_A G a → H1[a]? = H[a]?) : xw_Eh G U H1 := ⟨h.1.kept hq, h.2.1.kept hq, h.2.2.1.kept hq, h.2.2.2.1.kept hq, h.2.2.2.2.1.kept hq, h.2.2.2.2.2.1.kept hq, h.2.2.2.2.2.2.kept hq⟩
theorem xw_NL_warm : ∀ q ∈ xw_NL, ∀ {s U : State}, s.WarmedH U.vm → va_Nw q s → va_Nw q U := by
  intro q hq s U hW h
  simp only [xw_NL, List.mem_cons, List.not_mem_nil, or_false] at hq
  rcases hq with rfl | rfl | rfl | rfl | rfl | rfl | rfl | rfl | rfl | rfl | rfl | rfl | rfl | rfl | rfl | rfl | rfl | rfl <;> first | exact va_Nw.warmM hW h | exact va_Nw.warmF hW h
theorem xw_NL_tab : ∀ q ∈ xw_NL, q.onTables = true := by decide +kernel
theorem xw_Ev.warm {G : xw_G} {s U : State} (hW : s.WarmedH U.vm) (h : xw_Ev G s) : xw_Ev G U := ⟨fun q hq => xw_NL_warm q hq hW (h.1 q hq), vk_R.warm hW h.2.1, vk_R.warm hW h.2.2.1, vk_R.warm hW h.2.2.2.1, vk_R.warm hW h.2.2.2.2.1, vk_R.warm hW h.2.2.2.2.2⟩
theorem xw_Ev.same {G : xw_G} {u U : State} (hv : u.vm = U.vm) (h : xw_Ev G u) : xw_Ev G U := ⟨fun q hq => va_Nw.same (xw_NL_tab q hq) hv (h.1 q hq), vk_R.same hv.symm h.2.1, vk_R.same hv.symm h.2.2.1, vk_R.same hv.symm h.2.2.2.1, vk_R.same hv.symm h.2.2.2.2.1, vk_R.same hv.symm h.2.2.2.2.2⟩
def xw_In (G : xw_G) (μ : xw_M) (U : State) : Prop := va_P (xw_D G) xw_cl (xw_W G μ) U.heap ∧ va_K (xw_D G) xw_cl (xw_ty G) U ∧ xw_E G U U.heap
theorem xw_in {G : xw_G} {μ : xw_M} {s U : State} {H : Heap} {locs : List Loc} (hK : va_K (xw_D G) xw_cl (xw_ty G) s) (hE : xw_E G s s.heap) (hS : va_S (xw_A G) s.heap H locs) (hP : va_P (xw_D G) xw_cl (xw_W G μ) H) (hU : U.heap = H) (hW : s.WarmedH U.vm) : xw_In G μ U := by
  subst hU
  exact ⟨hP, va_K.moved hW.alike hK, hE.1.warm hW, (hE.2.1.kept hS.2.1).moved hW.alike, Nat.le_trans hE.2.2 hS.1⟩
theorem xw_blind (G : xw_G) (μ : xw_M) (av : List Value) : FrameBlind (va_Pc av (xw_In G μ)) := by
  intro a U g mk h
  exact ⟨h.1, h.2.1, va_K.moved (u := U) (U := U.calling g mk a) (Vm.Alike.refl U.vm) h.2.2.1, xw_Ev.same (u := U) (U := U.calling g mk a) rfl h.2.2.2.1, xw_Eh.moved (u := U) (U := U.calling g mk a) (Vm.Alike.refl U.vm) h.2.2.2.2.1, h.2.2.2.2.2⟩
/-! ===== contracts ===== -/
abbrev xw_rm (fr lo : Nat) : Room := { frames := fr, cells := 0, slots := 0, locals := lo }
def xw_Ti (l : Launch) (G : xw_G) (y : MethodName) (cy : ByteArray) (ny : Nat) (ry : Option FieldType) (fr lo : Nat) (av : List Value) (μ : xw_M) (r : Int32) (μ' : xw_M) : Prop := Met l y (.code y cy ny ry :: TB) (xw_rm fr lo) (va_Pc av (xw_In G μ)) (va_Qi (fun (r' : Int32) (m2 : xw_M) => r' = r ∧ m2 = μ') (fun m2 t => xw_In G m2 t) (xw_A G)) 0 0 (xw_A G)
def xw_Tl (l : Launch) (G : xw_G) (y : MethodName) (cy : ByteArray) (ny : Nat) (ry : Option FieldType) (fr lo : Nat) (av : List Value) (μ : xw_M) (r : Int64) (μ' : xw_M) : Prop := Met l y (.code y cy ny ry :: TB) (xw_rm fr lo) (va_Pc av (xw_In G μ)) (va_Ql (fun (r' : Int64) (m2 : xw_M) => r' = r ∧ m2 = μ') (fun m2 t => xw_In G m2 t) (xw_A G)) 0 0 (xw_A G)
def xw_Tv (l : Launch) (G : xw_G) (y : MethodName) (cy : ByteArray) (ny : Nat) (ry : Option FieldType) (fr lo : Nat) (av : List Value) (μ : xw_M) (r : Unit) (μ' : xw_M) : Prop := Met l y (.code y cy ny ry :: TB) (xw_rm fr lo) (va_Pc av (xw_In G μ)) (va_Qv (fun (m2 : xw_M) => r = () ∧ m2 = μ') (fun m2 t => xw_In G m2 t) (xw_A G)) 0 0 (xw_A G)
def xw_Tq (l : Launch) (G : xw_G) (y : MethodName) (cy : ByteArray) (ny : Nat) (ry : Option FieldType) (fr lo : Nat) (av : List Value) (μ : xw_M) (r : Option Nat) (μ' : xw_M) : Prop := Met l y (.code y cy ny ry :: TB) (xw_rm fr lo) (va_Pc av (xw_In G μ)) (va_Qq (fun (r' : Option Nat) (m2 : xw_M) => r' = r.map (xw_ad G) ∧ m2 = μ') (fun m2 t => xw_In G m2 t) (xw_A G)) 0 0 (xw_A G)
/-! ===== rows over the world ===== -/
section XW
variable {p : Program} {l : Launch} {e : Env} {R : Room} {s : State} {m : MethodId} {args : Array Value} {below : List Frame} {meth : Method} {c : Code} {H : Heap} {locs : List Loc} {cells slots : Nat} {Q : State → Prop}
variable {cc : ByteArray} {pc nL : Nat} {ls : Array Slot} {rest st0 : List Value} {own : String} {G : xw_G} {μ : xw_M}
theorem xw_get (hB : CallFix p m c cc nL s args TB own) (hK : va_K (xw_D G) xw_cl (xw_ty G) s) (hP : va_P (xw_D G) xw_cl (xw_W G μ) H) {ci k index N : Nat} {ref C : String} {T : u_T} {F : (Nat → Int32) → List Value} {v : Value} (ho : xw_io G ci k F) (hc : xw_cl[ci]? = some (C, T, N)) (hin : ∀ w ∈ u_ws C T N, w ∈ TB) (j : Nat) (hj : j < N) (hlink : Cond.fieldLink own index ref (T j).2.1 (T j).2.2.1 ∈ TB) (hr : ref = (T j).1) (hv : (F (μ.1 k))[j]? = some v) (hdg : decode cc pc = .ok (.getfield index, 3))
    (kk : W p l e R s m args below meth c H locs cells slots Q (F0 m (pc + 3) ls (v :: rest))) : W p l e R s m args below meth c H locs cells slots Q (F0 m pc ls (.ref (xw_ad G k) :: rest)) := by
  subst hr
  exact va_get (D := xw_D G) (ci := ci) (v := v) (C := C) (T := T) (N := N) hB.1 hB.2.1 hB.2.2.2.2 hin hB.2.2.2.1 hK hP k (ho.at μ) hc j hj (hB.2.2.2.2 _ hlink) (fun _ h9 => h9) hv hdg kk
theorem xw_put (hG : xw_ok G) (hB : CallFix p m c cc nL s args TB own) (hK : va_K (xw_D G) xw_cl (xw_ty G) s) (hS : va_S (xw_A G) s.heap H locs) (hP : va_P (xw_D G) xw_cl (xw_W G μ) H) {ci k index N : Nat} {ref C : String} {T : u_T} {F : (Nat → Int32) → List Value} {v : Value} {x : Int32} {ty : FieldType} (ho : xw_io G ci k F) (hc : xw_cl[ci]? = some (C, T, N)) (hin : ∀ w ∈ u_ws C T N, w ∈ TB) (ty0 : Nat → FieldType) (hty : ∀ k, k < N → parseFieldDescriptor (T k).2.2.1 = some (ty0 k)) (hnm : ∀ a, a < N → ∀ b, b < N → a ≠ b → (T a).2.1 ≠ (T b).2.1) (j : Nat) (hj : j < N) (hlink : Cond.fieldLink own index ref (T j).2.1 (T j).2.2.1 ∈ TB) (hr : ref = (T j).1) (hfin : (T j).2.2.2 = false) (hd : ty0 j = ty) (hn : narrow ty v = v) (hfit : fits ty v = true) (hl : j < (F (μ.1 k)).length) (hset : (F (μ.1 k)).set j v = F (upd (μ.1 k) j x)) (hdg : decode cc pc = .ok (.putfield index, 3))
    (kk : ∀ m1 : xw_M, m1 = xw_si μ k j x → ∀ (H1 : Heap) (locs1 : List Loc), va_P (xw_D G) xw_cl (xw_W G m1) H1 → va_S (xw_A G) s.heap H1 locs1 → W p l e R s m args below meth c H1 locs1 cells slots Q (F0 m (pc + 3) ls rest)) : W p l e R s m args below meth c H locs cells slots Q (F0 m pc ls (v :: .ref (xw_ad G k) :: rest)) := by
  subst hr
  refine va_put (D := xw_D G) (ci := ci) (v := v) (ty := ty) (C := C) (T := T) (N := N) hB.1 hB.2.1 hB.2.2.2.2 hin ty0 hty hnm hB.2.2.2.1 hK hP (xw_dis hG μ) hS k (ho.at μ) hc j hj (hB.2.2.2.2 _ hlink) (fun _ h9 => h9) hfin (by rw [hty j hj, hd]) hn hfit hl hdg (fun H1 locs1 hP1 _ hS1 => ?_)
  have hw : (xw_W G μ).set k (xw_ad G k, .inr (ci, (F (μ.1 k)).set j v)) = xw_W G (xw_si μ k j x) := xw_set G (by rw [ho.2, hset]; simp [xw_si, va_up]) (fun i hi => ⟨va_up_ne _ _ hi, rfl⟩)
  rw [hw] at hP1
  exact kk _ rfl H1 locs1 hP1 hS1
theorem xw_ild (hB : CallFix p m c cc nL s args TB own) (hK : va_K (xw_D G) xw_cl (xw_ty G) s) (hP : va_P (xw_D G) xw_cl (xw_W G μ) H) {k n : Nat} {i : Int32} (ha : xw_ia G 0 k n) (hin : vp_in i n) (hdg : decode cc pc = .ok (.iaload, 1))
    (kk : W p l e R s m args below meth c H locs cells slots Q (F0 m (pc + 1) ls (.int (μ.1 k i.toNatClampNeg) :: rest))) : W p l e R s m args below meth c H locs cells slots Q (F0 m pc ls (.int i :: .ref (xw_ad G k) :: rest)) :=
  va_iald hB.1 hB.2.1 hK hP k 0 (ha.at μ) rfl hin hdg kk
theorem xw_bld (hB : CallFix p m c cc nL s args TB own) (hK : va_K (xw_D G) xw_cl (xw_ty G) s) (hP : va_P (xw_D G) xw_cl (xw_W G μ) H) {k n : Nat} {i : Int32} (ha : xw_ia G 1 k n) (hin : vp_in i n) (hdg : decode cc pc = .ok (.baload, 1))
    (kk : W p l e R s m args below meth c H locs cells slots Q (F0 m (pc + 1) ls (.int (μ.1 k i.toNatClampNeg) :: rest))) : W p l e R s m args below meth c H locs cells slots Q (F0 m pc ls (.int i :: .ref (xw_ad G k) :: rest)) :=
  va_bald hB.1 hB.2.1 hK hP k 1 (ha.at μ) rfl hin hdg kk
theorem xw_cld (hB : CallFix p m c cc nL s args TB own) (hK : va_K (xw_D G) xw_cl (xw_ty G) s) (hP : va_P (xw_D G) xw_cl (xw_W G μ) H) {k n : Nat} {i : Int32} (ha : xw_ia G 2 k n) (hin : vp_in i n) (hdg : decode cc pc = .ok (.caload, 1))
    (kk : W p l e R s m args below meth c H locs cells slots Q (F0 m (pc + 1) ls (.int (μ.1 k i.toNatClampNeg) :: rest))) : W p l e R s m args below meth c H locs cells slots Q (F0 m pc ls (.int i :: .ref (xw_ad G k) :: rest)) :=
  va_cald hB.1 hB.2.1 hK hP k 2 (ha.at μ) rfl hin hdg kk
theorem xw_lld (hB : CallFix p m c cc nL s args TB own) (hK : va_K (xw_D G) xw_cl (xw_ty G) s) (hP : va_P (xw_D G) xw_cl (xw_W G μ) H) {k n : Nat} {i : Int32} (ha : xw_il G k n) (hin : vp_in i n) (hdg : decode cc pc = .ok (.laload, 1))
    (kk : W p l e R s m args below meth c H locs cells slots Q (F0 m (pc + 1) ls (.long (μ.2 k i.toNatClampNeg) :: rest))) : W p l e R s m args below meth c H locs cells slots Q (F0 m pc ls (.int i :: .ref (xw_ad G k) :: rest)) :=
  va_lald hB.1 hB.2.1 hK hP k 3 (ha.at μ) rfl hin hdg kk
theorem xw_ist (hG : xw_ok G) (hB : CallFix p m c cc nL s args TB own) (hK : va_K (xw_D G) xw_cl (xw_ty G) s) (hS : va_S (xw_A G) s.heap H locs) (hP : va_P (xw_D G) xw_cl (xw_W G μ) H) {k n : Nat} {i x : Int32} (ha : xw_ia G 0 k n) (hin : vp_in i n) (hdg : decode cc pc = .ok (.iastore, 1))
    (kk : ∀ m1 : xw_M, m1 = xw_si μ k i.toNatClampNeg x → ∀ (H1 : Heap) (locs1 : List Loc), va_P (xw_D G) xw_cl (xw_W G m1) H1 → va_S (xw_A G) s.heap H1 locs1 → W p l e R s m args below meth c H1 locs1 cells slots Q (F0 m (pc + 1) ls rest)) : W p l e R s m args below meth c H locs cells slots Q (F0 m pc ls (.int x :: .int i :: .ref (xw_ad G k) :: rest)) := by
  refine va_iast hB.1 hB.2.1 hK hP (xw_dis hG μ) hS k 0 (ha.at μ) rfl hin hdg (fun H1 locs1 hP1 _ hS1 => ?_)
  have hw : (xw_W G μ).set k (xw_ad G k, .inl (xw_q G 0, n, .inl (upd (μ.1 k) i.toNatClampNeg x))) = xw_W G (xw_si μ k i.toNatClampNeg x) := xw_set G (by rw [ha.2]; simp [xw_si, va_up]) (fun j hj => ⟨va_up_ne _ _ hj, rfl⟩)
  rw [hw] at hP1
  exact kk _ rfl H1 locs1 hP1 hS1
theorem xw_bst (hG : xw_ok G) (hB : CallFix p m c cc nL s args TB own) (hK : va_K (xw_D G) xw_cl (xw_ty G) s) (hS : va_S (xw_A G) s.heap H locs) (hP : va_P (xw_D G) xw_cl (xw_W G μ) H) {k n : Nat} {i x : Int32} (ha : xw_ia G 1 k n) (hin : vp_in i n) (hdg : decode cc pc = .ok (.bastore, 1))
    (kk : ∀ m1 : xw_M, m1 = xw_si μ k i.toNatClampNeg (vp_nar .byte x) → ∀ (H1 : Heap) (locs1 : List Loc), va_P (xw_D G) xw_cl (xw_W G m1) H1 → va_S (xw_A G) s.heap H1 locs1 → W p l e R s m args below meth c H1 locs1 cells slots Q (F0 m (pc + 1) ls rest)) : W p l e R s m args below meth c H locs cells slots Q (F0 m pc ls (.int x :: .int i :: .ref (xw_ad G k) :: rest)) := by
  refine va_bast hB.1 hB.2.1 hK hP (xw_dis hG μ) hS k 1 (ha.at μ) rfl hin hdg (fun H1 locs1 hP1 _ hS1 => ?_)
  have hw : (xw_W G μ).set k (xw_ad G k, .inl (xw_q G 1, n, .inl (upd (μ.1 k) i.toNatClampNeg (vp_nar .byte x)))) = xw_W G (xw_si μ k i.toNatClampNeg (vp_nar .byte x)) := xw_set G (by rw [ha.2]; simp [xw_si, va_up]) (fun j hj => ⟨va_up_ne _ _ hj, rfl⟩)
  rw [hw] at hP1
  exact kk _ rfl H1 locs1 hP1 hS1
theorem xw_lst (hG : xw_ok G) (hB : CallFix p m c cc nL s args TB own) (hK : va_K (xw_D G) xw_cl (xw_ty G) s) (hS : va_S (xw_A G) s.heap H locs) (hP : va_P (xw_D G) xw_cl (xw_W G μ) H) {k n : Nat} {i : Int32} {x : Int64} (ha : xw_il G k n) (hin : vp_in i n) (hdg : decode cc pc = .ok (.lastore, 1))
    (kk : ∀ m1 : xw_M, m1 = xw_sl μ k i.toNatClampNeg x → ∀ (H1 : Heap) (locs1 : List Loc), va_P (xw_D G) xw_cl (xw_W G m1) H1 → va_S (xw_A G) s.heap H1 locs1 → W p l e R s m args below meth c H1 locs1 cells slots Q (F0 m (pc + 1) ls rest)) : W p l e R s m args below meth c H locs cells slots Q (F0 m pc ls (.long x :: .int i :: .ref (xw_ad G k) :: rest)) := by
  refine va_last hB.1 hB.2.1 hK hP (xw_dis hG μ) hS k 3 (ha.at μ) rfl hin hdg (fun H1 locs1 hP1 _ hS1 => ?_)
  have hw : (xw_W G μ).set k (xw_ad G k, .inl (xw_q G 3, n, .inr (.inl (vp_updL (μ.2 k) i.toNatClampNeg x)))) = xw_W G (xw_sl μ k i.toNatClampNeg x) := xw_set G (by rw [ha.2]; simp [xw_sl, va_up]) (fun j hj => ⟨rfl, va_up_ne _ _ hj⟩)
  rw [hw] at hP1
  exact kk _ rfl H1 locs1 hP1 hS1
theorem xw_ilen (hB : CallFix p m c cc nL s args TB own) (hK : va_K (xw_D G) xw_cl (xw_ty G) s) (hP : va_P (xw_D G) xw_cl (xw_W G μ) H) {t k n : Nat} {ty : FieldType} (ha : xw_ia G t k n) (ht : (xw_ty G)[t]? = some (xw_q G t, ty)) (hdg : decode cc pc = .ok (.arraylength, 1))
    (kk : W p l e R s m args below meth c H locs cells slots Q (F0 m (pc + 1) ls (.int (nI n) :: rest))) : W p l e R s m args below meth c H locs cells slots Q (F0 m pc ls (.ref (xw_ad G k) :: rest)) :=
  va_alen hB.1 hB.2.1 hK hP k t (ha.at μ) ht rfl hdg kk
theorem xw_llen (hB : CallFix p m c cc nL s args TB own) (hK : va_K (xw_D G) xw_cl (xw_ty G) s) (hP : va_P (xw_D G) xw_cl (xw_W G μ) H) {k n : Nat} (ha : xw_il G k n) (hdg : decode cc pc = .ok (.arraylength, 1))
    (kk : W p l e R s m args below meth c H locs cells slots Q (F0 m (pc + 1) ls (.int (nI n) :: rest))) : W p l e R s m args below meth c H locs cells slots Q (F0 m pc ls (.ref (xw_ad G k) :: rest)) :=
  va_alen hB.1 hB.2.1 hK hP k 3 (ha.at μ) rfl rfl hdg kk
theorem xw_rlen (hB : CallFix p m c cc nL s args TB own) (hK : va_K (xw_D G) xw_cl (xw_ty G) s) (hP : va_P (xw_D G) xw_cl (xw_W G μ) H) {t k n : Nat} {ty : FieldType} {r : Nat → Option Nat} (ha : xw_ir G t k n r) (ht : (xw_ty G)[t]? = some (xw_q G t, ty)) (hdg : decode cc pc = .ok (.arraylength, 1))
    (kk : W p l e R s m args below meth c H locs cells slots Q (F0 m (pc + 1) ls (.int (nI n) :: rest))) : W p l e R s m args below meth c H locs cells slots Q (F0 m pc ls (.ref (xw_ad G k) :: rest)) :=
  va_alen hB.1 hB.2.1 hK hP k t (ha.at μ) ht rfl hdg kk
theorem xw_rldP (hB : CallFix p m c cc nL s args TB own) (hK : va_K (xw_D G) xw_cl (xw_ty G) s) (hP : va_P (xw_D G) xw_cl (xw_W G μ) H) {i : Int32} (hin : vp_in i 6) (hdg : decode cc pc = .ok (.aaload, 1))
    (kk : W p l e R s m args below meth c H locs cells slots Q (F0 m (pc + 1) ls (.ref (xw_ad G (71 + 6 * i.toNatClampNeg)) :: rest))) : W p l e R s m args below meth c H locs cells slots Q (F0 m pc ls (.int i :: .ref (xw_ad G 57) :: rest)) := by
  have hlt : i.toNatClampNeg < 6 := Nat.not_le.mp fun q => hin (Or.inr q)
  refine va_aldq hB.1 hB.2.1 hK hP 57 4 ((xw_k57 G).at μ) rfl hin hdg ?_
  show W p l e R s m args below meth c H locs cells slots Q (F0 m (pc + 1) ls (va_rf (if i.toNatClampNeg < 6 then some (xw_ad G (71 + 6 * i.toNatClampNeg)) else none) :: rest))
  rw [if_pos hlt]
  exact kk
theorem xw_rldT (hB : CallFix p m c cc nL s args TB own) (hK : va_K (xw_D G) xw_cl (xw_ty G) s) (hP : va_P (xw_D G) xw_cl (xw_W G μ) H) {i : Int32} (hin : vp_in i 6) (hdg : decode cc pc = .ok (.aaload, 1))
    (kk : W p l e R s m args below meth c H locs cells slots Q (F0 m (pc + 1) ls (.ref (xw_ad G (107 + 2 * i.toNatClampNeg)) :: rest))) : W p l e R s m args below meth c H locs cells slots Q (F0 m pc ls (.int i :: .ref (xw_ad G 70) :: rest)) := by
  have hlt : i.toNatClampNeg < 6 := Nat.not_le.mp fun q => hin (Or.inr q)
  refine va_aldq hB.1 hB.2.1 hK hP 70 5 ((xw_k70 G).at μ) rfl hin hdg ?_
  show W p l e R s m args below meth c H locs cells slots Q (F0 m (pc + 1) ls (va_rf (if i.toNatClampNeg < 6 then some (xw_ad G (107 + 2 * i.toNatClampNeg)) else none) :: rest))
  rw [if_pos hlt]
  exact kk
theorem xw_iret {v r0 : Int32} {m0 : xw_M} (hB : CallFix p m c cc nL s args TB own) (hK : va_K (xw_D G) xw_cl (xw_ty G) s) (hE : xw_E G s s.heap) (hS : va_S (xw_A G) s.heap H locs) (hP : va_P (xw_D G) xw_cl (xw_W G μ) H) (hr : meth.sig.returnType = some .int) (hlk : meth.locks = false) (h0 : v = r0) (h1 : μ = m0) (hdg : decode cc pc = .ok (.ireturn, 1)) : W p l e R s m args below meth c H locs 0 0 (MQ below (va_Qi (fun (r' : Int32) (m2 : xw_M) => r' = r0 ∧ m2 = m0) (fun m2 t => xw_In G m2 t) (xw_A G)) args s 0 0 (xw_A G)) (F0 m pc ls [.int v]) := by
  subst h0; subst h1
  exact W.iret hB.1 hB.2.1 hr (fun t ht hW => ⟨⟨v, μ, rfl, ⟨rfl, rfl⟩, xw_in hK hE hS hP ht hW⟩, hS.F ht⟩) hS.2.2 hdg hlk
theorem xw_zret {v r0 : Int32} {m0 : xw_M} {ty : FieldType} (hB : CallFix p m c cc nL s args TB own) (hK : va_K (xw_D G) xw_cl (xw_ty G) s) (hE : xw_E G s s.heap) (hS : va_S (xw_A G) s.heap H locs) (hP : va_P (xw_D G) xw_cl (xw_W G μ) H) (hr : meth.sig.returnType = some ty) (hlk : meth.locks = false) (hn : narrow ty (.int v) = .int v) (h0 : v = r0) (h1 : μ = m0) (hdg : decode cc pc = .ok (.ireturn, 1)) : W p l e R s m args below meth c H locs 0 0 (MQ below (va_Qi (fun (r' : Int32) (m2 : xw_M) => r' = r0 ∧ m2 = m0) (fun m2 t => xw_In G m2 t) (xw_A G)) args s 0 0 (xw_A G)) (F0 m pc ls [.int v]) := by
  subst h0; subst h1
  exact W.zret hB.1 hB.2.1 hr hn (fun t ht hW => ⟨⟨v, μ, rfl, ⟨rfl, rfl⟩, xw_in hK hE hS hP ht hW⟩, hS.F ht⟩) hS.2.2 hdg hlk
theorem xw_lret {v r0 : Int64} {m0 : xw_M} (hB : CallFix p m c cc nL s args TB own) (hK : va_K (xw_D G) xw_cl (xw_ty G) s) (hE : xw_E G s s.heap) (hS : va_S (xw_A G) s.heap H locs) (hP : va_P (xw_D G) xw_cl (xw_W G μ) H) (hr : meth.sig.returnType = some .long) (hlk : meth.locks = false) (h0 : v = r0) (h1 : μ = m0) (hdg : decode cc pc = .ok (.lreturn, 1)) : W p l e R s m args below meth c H locs 0 0 (MQ below (va_Ql (fun (r' : Int64) (m2 : xw_M) => r' = r0 ∧ m2 = m0) (fun m2 t => xw_In G m2 t) (xw_A G)) args s 0 0 (xw_A G)) (F0 m pc ls [.long v]) := by
  subst h0; subst h1
  exact W.lret hB.1 hB.2.1 hr (fun t ht hW => ⟨⟨v, μ, rfl, ⟨rfl, rfl⟩, xw_in hK hE hS hP ht hW⟩, hS.F ht⟩) hS.2.2 hdg hlk
theorem xw_vret {m0 : xw_M} {r0 : Unit} (hB : CallFix p m c cc nL s args TB own) (hK : va_K (xw_D G) xw_cl (xw_ty G) s) (hE : xw_E G s s.heap) (hS : va_S (xw_A G) s.heap H locs) (hP : va_P (xw_D G) xw_cl (xw_W G μ) H) (hr : meth.sig.returnType = none) (hlk : meth.locks = false) (h1 : μ = m0) (hdg : decode cc pc = .ok (.return_, 1)) : W p l e R s m args below meth c H locs 0 0 (MQ below (va_Qv (fun (m2 : xw_M) => r0 = () ∧ m2 = m0) (fun m2 t => xw_In G m2 t) (xw_A G)) args s 0 0 (xw_A G)) (F0 m pc ls []) := by
  subst h1
  exact W.vret hB.1 hB.2.1 hr (fun t ht hW => ⟨⟨μ, rfl, ⟨rfl, rfl⟩, xw_in hK hE hS hP ht hW⟩, hS.F ht⟩) hS.2.2 hdg hlk
theorem xw_aret {v r0 : Option Nat} {m0 : xw_M} {C : String} (hB : CallFix p m c cc nL s args TB own) (hK : va_K (xw_D G) xw_cl (xw_ty G) s) (hE : xw_E G s s.heap) (hS : va_S (xw_A G) s.heap H locs) (hP : va_P (xw_D G) xw_cl (xw_W G μ) H) (hr : meth.sig.returnType = some (.object C)) (hlk : meth.locks = false) (h0 : v = r0) (h1 : μ = m0) (hdg : decode cc pc = .ok (.areturn, 1)) : W p l e R s m args below meth c H locs 0 0 (MQ below (va_Qq (fun (r' : Option Nat) (m2 : xw_M) => r' = r0.map (xw_ad G) ∧ m2 = m0) (fun m2 t => xw_In G m2 t) (xw_A G)) args s 0 0 (xw_A G)) (F0 m pc ls [va_rf (v.map (xw_ad G))]) := by
  subst h0; subst h1
  exact W.aret hB.1 hB.2.1 hr (Or.inl ⟨C, rfl⟩) (va_rf_or _) (fun t ht hW => ⟨⟨v.map (xw_ad G), μ, rfl, ⟨rfl, rfl⟩, xw_in hK hE hS hP ht hW⟩, hS.F ht⟩) hS.2.2 hdg hlk
theorem xw_Vi (hB : CallFix p m c cc nL s args TB own) (hK : va_K (xw_D G) xw_cl (xw_ty G) s) (hE : xw_E G s s.heap) (hS : va_S (xw_A G) s.heap H locs) (hP : va_P (xw_D G) xw_cl (xw_W G μ) H) {y : MethodName} {cy : ByteArray} {ny fr lo index : Nat} {ry : Option FieldType} {As : List Value} {r : Int32} {m' : xw_M} {ba : Addr} {C : String} (hM : xw_Ti l G y cy ny ry fr lo (.ref ba :: As) μ r m') (hg : GoodIn TB (wsV own index C y (.code y cy ny ry :: TB))) (hrc : ∃ cell : Cell, H[ba]? = some cell ∧ cell.vm.isStatics = false ∧ s.vm.findClass C = some cell.cls) (n : Nat) (hd : y.cls = C ∧ y.cls ≠ "java/lang/invoke/MethodHandle" ∧ y.cls ≠ "java/lang/invoke/VarHandle" ∧ (parseMethodDescriptor y.desc).map (fun d => d.parameters.length) = some n) (hR : fr + 1 ≤ R.frames ∧ 8 + (ny + 11) + lo ≤ R.locals) (hn : As.length = n) (hsz : ls.size = nL) (hst : (rest.map fun v => v.category).sum ≤ 8) (hst0 : st0 = As.reverse ++ .ref ba :: rest) (hdg : decode cc pc = .ok (.invokevirtual index, 3)) (hcs : cells ≤ R.cells ∧ slots ≤ R.slots)
    (kk : ∀ (H1 : Heap) (locs1 : List Loc), va_P (xw_D G) xw_cl (xw_W G m') H1 → va_S (xw_A G) s.heap H1 locs1 → W p l e R s m args below meth c H1 locs1 cells slots Q (F0 m (pc + 3) ls (.int r :: rest))) : W p l e R s m args below meth c H locs cells slots Q (F0 m pc ls st0) := by
  refine va_calli (va_runV (As := As) (rest := rest) (b := ba) ⟨hB.1, hB.2.1, hB.2.2.1, hB.2.2.2.1, hB.2.2.2.2⟩ hM (cwV n hB.2.2.2.2 hg rfl rfl rfl hd hR) ⟨xw_blind G μ _, hrc, fun U hU hW => ⟨rfl, xw_in hK hE hS hP hU hW⟩⟩ rfl hn hsz hst0 (lv_room hst) hdg hcs) hS (fun q _ h => h) (fun q h => h) (fun r2 m2 t H1 locs1 ht hvm hw hB2 hz1 hk1 hS1 => ?_)
  obtain ⟨e1, e2⟩ := hw
  subst e1
  subst e2
  have hP1 := hB2.1
  rw [ht] at hP1
  exact kk H1 locs1 hP1 hS1
theorem xw_Si (hB : CallFix p m c cc nL s args TB own) (hK : va_K (xw_D G) xw_cl (xw_ty G) s) (hE : xw_E G s s.heap) (hS : va_S (xw_A G) s.heap H locs) (hP : va_P (xw_D G) xw_cl (xw_W G μ) H) {y : MethodName} {cy : ByteArray} {ny fr lo index : Nat} {ry : Option FieldType} {As : List Value} {r : Int32} {m' : xw_M} (hM : xw_Ti l G y cy ny ry fr lo As μ r m') (hg : Cond.methodLink own index y ∈ TB) (hg2 : Cond.code y cy ny ry ∈ TB) (hg3 : Cond.static y ∈ TB) (hg4 : Cond.initialized y.cls ∈ TB) (n : Nat) (hd : y.cls ≠ "java/lang/invoke/MethodHandle" ∧ y.cls ≠ "java/lang/invoke/VarHandle" ∧ (parseMethodDescriptor y.desc).map (fun d => d.parameters.length) = some n) (hR : fr + 1 ≤ R.frames ∧ 8 + (ny + 11) + lo ≤ R.locals) (hn : As.length = n) (hsz : ls.size = nL) (hst : (rest.map fun v => v.category).sum ≤ 8) (hst0 : st0 = As.reverse ++ rest) (hdg : decode cc pc = .ok (.invokestatic index, 3)) (hcs : cells ≤ R.cells ∧ slots ≤ R.slots)
    (kk : ∀ (H1 : Heap) (locs1 : List Loc), va_P (xw_D G) xw_cl (xw_W G m') H1 → va_S (xw_A G) s.heap H1 locs1 → W p l e R s m args below meth c H1 locs1 cells slots Q (F0 m (pc + 3) ls (.int r :: rest))) : W p l e R s m args below meth c H locs cells slots Q (F0 m pc ls st0) := by
  refine va_calli (va_runS (As := As) (rest := rest) ⟨hB.1, hB.2.1, hB.2.2.1, hB.2.2.2.1, hB.2.2.2.2⟩ hM ⟨callB_of n hB.2.2.2.2 (xw_gW hg2) rfl rfl rfl (hB.2.2.2.2 _ hg4) (hB.2.2.2.2 _ hg) hd hR, hB.2.2.2.2 _ hg3⟩ ⟨xw_blind G μ _, fun U hU hW => ⟨rfl, xw_in hK hE hS hP hU hW⟩⟩ rfl hn hsz hst0 (lv_room hst) hdg hcs) hS (fun q _ h => h) (fun q h => h) (fun r2 m2 t H1 locs1 ht hvm hw hB2 hz1 hk1 hS1 => ?_)
  obtain ⟨e1, e2⟩ := hw
  subst e1
  subst e2
  have hP1 := hB2.1
  rw [ht] at hP1
  exact kk H1 locs1 hP1 hS1
theorem xw_Ni (hB : CallFix p m c cc nL s args TB own) (hK : va_K (xw_D G) xw_cl (xw_ty G) s) (hE : xw_E G s s.heap) (hS : va_S (xw_A G) s.heap H locs) (hP : va_P (xw_D G) xw_cl (xw_W G μ) H) {y : MethodName} {cy : ByteArray} {ny fr lo index : Nat} {ry : Option FieldType} {As : List Value} {r : Int32} {m' : xw_M} {host : String} (hM : xw_Ti l G y cy ny ry fr lo As μ r m') (hg : Cond.methodLinkNest own index y host ∈ xw_NL) (hg2 : Cond.code y cy ny ry ∈ TB) (hg3 : Cond.static y ∈ TB) (hg4 : Cond.initialized y.cls ∈ TB) (n : Nat) (hd : y.cls ≠ "java/lang/invoke/MethodHandle" ∧ y.cls ≠ "java/lang/invoke/VarHandle" ∧ (parseMethodDescriptor y.desc).map (fun d => d.parameters.length) = some n) (hR : fr + 1 ≤ R.frames ∧ 8 + (ny + 11) + lo ≤ R.locals) (hn : As.length = n) (hsz : ls.size = nL) (hst : (rest.map fun v => v.category).sum ≤ 8) (hst0 : st0 = As.reverse ++ rest) (hdg : decode cc pc = .ok (.invokestatic index, 3)) (hcs : cells ≤ R.cells ∧ slots ≤ R.slots)
    (kk : ∀ (H1 : Heap) (locs1 : List Loc), va_P (xw_D G) xw_cl (xw_W G m') H1 → va_S (xw_A G) s.heap H1 locs1 → W p l e R s m args below meth c H1 locs1 cells slots Q (F0 m (pc + 3) ls (.int r :: rest))) : W p l e R s m args below meth c H locs cells slots Q (F0 m pc ls st0) := by
  refine va_calli (va_runSN (As := As) (rest := rest) ⟨hB.1, hB.2.1, hB.2.2.1, hB.2.2.2.1, hB.2.2.2.2⟩ hM ⟨va_cnB n hB.2.2.2.2 (xw_gW hg2) rfl rfl rfl (hE.1.1 _ hg) (hB.2.2.2.2 _ hg4) hd hR, hB.2.2.2.2 _ hg3, trivial⟩ ⟨xw_blind G μ _, fun U hU hW => ⟨rfl, xw_in hK hE hS hP hU hW⟩⟩ rfl hn hsz hst0 (lv_room hst) hdg hcs) hS (fun q _ h => h) (fun q h => h) (fun r2 m2 t H1 locs1 ht hvm hw hB2 hz1 hk1 hS1 => ?_)
  obtain ⟨e1, e2⟩ := hw
  subst e1
  subst e2
  have hP1 := hB2.1
  rw [ht] at hP1
  exact kk H1 locs1 hP1 hS1
theorem xw_Vl (hB : CallFix p m c cc nL s args TB own) (hK : va_K (xw_D G) xw_cl (xw_ty G) s) (hE : xw_E G s s.heap) (hS : va_S (xw_A G) s.heap H locs) (hP : va_P (xw_D G) xw_cl (xw_W G μ) H) {y : MethodName} {cy : ByteArray} {ny fr lo index : Nat} {ry : Option FieldType} {As : List Value} {r : Int64} {m' : xw_M} {ba : Addr} {C : String} (hM : xw_Tl l G y cy ny ry fr lo (.ref ba :: As) μ r m') (hg : GoodIn TB (wsV own index C y (.code y cy ny ry :: TB))) (hrc : ∃ cell : Cell, H[ba]? = some cell ∧ cell.vm.isStatics = false ∧ s.vm.findClass C = some cell.cls) (n : Nat) (hd : y.cls = C ∧ y.cls ≠ "java/lang/invoke/MethodHandle" ∧ y.cls ≠ "java/lang/invoke/VarHandle" ∧ (parseMethodDescriptor y.desc).map (fun d => d.parameters.length) = some n) (hR : fr + 1 ≤ R.frames ∧ 8 + (ny + 11) + lo ≤ R.locals) (hn : As.length = n) (hsz : ls.size = nL) (hst : (rest.map fun v => v.category).sum ≤ 8) (hst0 : st0 = As.reverse ++ .ref ba :: rest) (hdg : decode cc pc = .ok (.invokevirtual index, 3)) (hcs : cells ≤ R.cells ∧ slots ≤ R.slots)
    (kk : ∀ (H1 : Heap) (locs1 : List Loc), va_P (xw_D G) xw_cl (xw_W G m') H1 → va_S (xw_A G) s.heap H1 locs1 → W p l e R s m args below meth c H1 locs1 cells slots Q (F0 m (pc + 3) ls (.long r :: rest))) : W p l e R s m args below meth c H locs cells slots Q (F0 m pc ls st0) := by
  refine va_calll (va_runV (As := As) (rest := rest) (b := ba) ⟨hB.1, hB.2.1, hB.2.2.1, hB.2.2.2.1, hB.2.2.2.2⟩ hM (cwV n hB.2.2.2.2 hg rfl rfl rfl hd hR) ⟨xw_blind G μ _, hrc, fun U hU hW => ⟨rfl, xw_in hK hE hS hP hU hW⟩⟩ rfl hn hsz hst0 (lv_room hst) hdg hcs) hS (fun q _ h => h) (fun q h => h) (fun r2 m2 t H1 locs1 ht hvm hw hB2 hz1 hk1 hS1 => ?_)
  obtain ⟨e1, e2⟩ := hw
  subst e1
  subst e2
  have hP1 := hB2.1
  rw [ht] at hP1
  exact kk H1 locs1 hP1 hS1
theorem xw_Sl (hB : CallFix p m c cc nL s args TB own) (hK : va_K (xw_D G) xw_cl (xw_ty G) s) (hE : xw_E G s s.heap) (hS : va_S (xw_A G) s.heap H locs) (hP : va_P (xw_D G) xw_cl (xw_W G μ) H) {y : MethodName} {cy : ByteArray} {ny fr lo index : Nat} {ry : Option FieldType} {As : List Value} {r : Int64} {m' : xw_M} (hM : xw_Tl l G y cy ny ry fr lo As μ r m') (hg : Cond.methodLink own index y ∈ TB) (hg2 : Cond.code y cy ny ry ∈ TB) (hg3 : Cond.static y ∈ TB) (hg4 : Cond.initialized y.cls ∈ TB) (n : Nat) (hd : y.cls ≠ "java/lang/invoke/MethodHandle" ∧ y.cls ≠ "java/lang/invoke/VarHandle" ∧ (parseMethodDescriptor y.desc).map (fun d => d.parameters.length) = some n) (hR : fr + 1 ≤ R.frames ∧ 8 + (ny + 11) + lo ≤ R.locals) (hn : As.length = n) (hsz : ls.size = nL) (hst : (rest.map fun v => v.category).sum ≤ 8) (hst0 : st0 = As.reverse ++ rest) (hdg : decode cc pc = .ok (.invokestatic index, 3)) (hcs : cells ≤ R.cells ∧ slots ≤ R.slots)
    (kk : ∀ (H1 : Heap) (locs1 : List Loc), va_P (xw_D G) xw_cl (xw_W G m') H1 → va_S (xw_A G) s.heap H1 locs1 → W p l e R s m args below meth c H1 locs1 cells slots Q (F0 m (pc + 3) ls (.long r :: rest))) : W p l e R s m args below meth c H locs cells slots Q (F0 m pc ls st0) := by
  refine va_calll (va_runS (As := As) (rest := rest) ⟨hB.1, hB.2.1, hB.2.2.1, hB.2.2.2.1, hB.2.2.2.2⟩ hM ⟨callB_of n hB.2.2.2.2 (xw_gW hg2) rfl rfl rfl (hB.2.2.2.2 _ hg4) (hB.2.2.2.2 _ hg) hd hR, hB.2.2.2.2 _ hg3⟩ ⟨xw_blind G μ _, fun U hU hW => ⟨rfl, xw_in hK hE hS hP hU hW⟩⟩ rfl hn hsz hst0 (lv_room hst) hdg hcs) hS (fun q _ h => h) (fun q h => h) (fun r2 m2 t H1 locs1 ht hvm hw hB2 hz1 hk1 hS1 => ?_)
  obtain ⟨e1, e2⟩ := hw
  subst e1
  subst e2
  have hP1 := hB2.1
  rw [ht] at hP1
  exact kk H1 locs1 hP1 hS1
theorem xw_Nl (hB : CallFix p m c cc nL s args TB own) (hK : va_K (xw_D G) xw_cl (xw_ty G) s) (hE : xw_E G s s.heap) (hS : va_S (xw_A G) s.heap H locs) (hP : va_P (xw_D G) xw_cl (xw_W G μ) H) {y : MethodName} {cy : ByteArray} {ny fr lo index : Nat} {ry : Option FieldType} {As : List Value} {r : Int64} {m' : xw_M} {host : String} (hM : xw_Tl l G y cy ny ry fr lo As μ r m') (hg : Cond.methodLinkNest own index y host ∈ xw_NL) (hg2 : Cond.code y cy ny ry ∈ TB) (hg3 : Cond.static y ∈ TB) (hg4 : Cond.initialized y.cls ∈ TB) (n : Nat) (hd : y.cls ≠ "java/lang/invoke/MethodHandle" ∧ y.cls ≠ "java/lang/invoke/VarHandle" ∧ (parseMethodDescriptor y.desc).map (fun d => d.parameters.length) = some n) (hR : fr + 1 ≤ R.frames ∧ 8 + (ny + 11) + lo ≤ R.locals) (hn : As.length = n) (hsz : ls.size = nL) (hst : (rest.map fun v => v.category).sum ≤ 8) (hst0 : st0 = As.reverse ++ rest) (hdg : decode cc pc = .ok (.invokestatic index, 3)) (hcs : cells ≤ R.cells ∧ slots ≤ R.slots)
    (kk : ∀ (H1 : Heap) (locs1 : List Loc), va_P (xw_D G) xw_cl (xw_W G m') H1 → va_S (xw_A G) s.heap H1 locs1 → W p l e R s m args below meth c H1 locs1 cells slots Q (F0 m (pc + 3) ls (.long r :: rest))) : W p l e R s m args below meth c H locs cells slots Q (F0 m pc ls st0) := by
  refine va_calll (va_runSN (As := As) (rest := rest) ⟨hB.1, hB.2.1, hB.2.2.1, hB.2.2.2.1, hB.2.2.2.2⟩ hM ⟨va_cnB n hB.2.2.2.2 (xw_gW hg2) rfl rfl rfl (hE.1.1 _ hg) (hB.2.2.2.2 _ hg4) hd hR, hB.2.2.2.2 _ hg3, trivial⟩ ⟨xw_blind G μ _, fun U hU hW => ⟨rfl, xw_in hK hE hS hP hU hW⟩⟩ rfl hn hsz hst0 (lv_room hst) hdg hcs) hS (fun q _ h => h) (fun q h => h) (fun r2 m2 t H1 locs1 ht hvm hw hB2 hz1 hk1 hS1 => ?_)
  obtain ⟨e1, e2⟩ := hw
  subst e1
  subst e2
  have hP1 := hB2.1
  rw [ht] at hP1
  exact kk H1 locs1 hP1 hS1
theorem xw_Vv (hB : CallFix p m c cc nL s args TB own) (hK : va_K (xw_D G) xw_cl (xw_ty G) s) (hE : xw_E G s s.heap) (hS : va_S (xw_A G) s.heap H locs) (hP : va_P (xw_D G) xw_cl (xw_W G μ) H) {y : MethodName} {cy : ByteArray} {ny fr lo index : Nat} {ry : Option FieldType} {As : List Value} {r : Unit} {m' : xw_M} {ba : Addr} {C : String} (hM : xw_Tv l G y cy ny ry fr lo (.ref ba :: As) μ r m') (hg : GoodIn TB (wsV own index C y (.code y cy ny ry :: TB))) (hrc : ∃ cell : Cell, H[ba]? = some cell ∧ cell.vm.isStatics = false ∧ s.vm.findClass C = some cell.cls) (n : Nat) (hd : y.cls = C ∧ y.cls ≠ "java/lang/invoke/MethodHandle" ∧ y.cls ≠ "java/lang/invoke/VarHandle" ∧ (parseMethodDescriptor y.desc).map (fun d => d.parameters.length) = some n) (hR : fr + 1 ≤ R.frames ∧ 8 + (ny + 11) + lo ≤ R.locals) (hn : As.length = n) (hsz : ls.size = nL) (hst : (rest.map fun v => v.category).sum ≤ 8) (hst0 : st0 = As.reverse ++ .ref ba :: rest) (hdg : decode cc pc = .ok (.invokevirtual index, 3)) (hcs : cells ≤ R.cells ∧ slots ≤ R.slots)
    (kk : ∀ (H1 : Heap) (locs1 : List Loc), va_P (xw_D G) xw_cl (xw_W G m') H1 → va_S (xw_A G) s.heap H1 locs1 → W p l e R s m args below meth c H1 locs1 cells slots Q (F0 m (pc + 3) ls (rest))) : W p l e R s m args below meth c H locs cells slots Q (F0 m pc ls st0) := by
  refine va_callv (va_runV (As := As) (rest := rest) (b := ba) ⟨hB.1, hB.2.1, hB.2.2.1, hB.2.2.2.1, hB.2.2.2.2⟩ hM (cwV n hB.2.2.2.2 hg rfl rfl rfl hd hR) ⟨xw_blind G μ _, hrc, fun U hU hW => ⟨rfl, xw_in hK hE hS hP hU hW⟩⟩ rfl hn hsz hst0 (lv_room hst) hdg hcs) hS (fun q _ h => h) (fun q h => h) (fun m2 t H1 locs1 ht hvm hw hB2 hz1 hk1 hS1 => ?_)
  obtain ⟨-, e2⟩ := hw
  subst e2
  have hP1 := hB2.1
  rw [ht] at hP1
  exact kk H1 locs1 hP1 hS1
theorem xw_Sv (hB : CallFix p m c cc nL s args TB own) (hK : va_K (xw_D G) xw_cl (xw_ty G) s) (hE : xw_E G s s.heap) (hS : va_S (xw_A G) s.heap H locs) (hP : va_P (xw_D G) xw_cl (xw_W G μ) H) {y : MethodName} {cy : ByteArray} {ny fr lo index : Nat} {ry : Option FieldType} {As : List Value} {r : Unit} {m' : xw_M} (hM : xw_Tv l G y cy ny ry fr lo As μ r m') (hg : Cond.methodLink own index y ∈ TB) (hg2 : Cond.code y cy ny ry ∈ TB) (hg3 : Cond.static y ∈ TB) (hg4 : Cond.initialized y.cls ∈ TB) (n : Nat) (hd : y.cls ≠ "java/lang/invoke/MethodHandle" ∧ y.cls ≠ "java/lang/invoke/VarHandle" ∧ (parseMethodDescriptor y.desc).map (fun d => d.parameters.length) = some n) (hR : fr + 1 ≤ R.frames ∧ 8 + (ny + 11) + lo ≤ R.locals) (hn : As.length = n) (hsz : ls.size = nL) (hst : (rest.map fun v => v.category).sum ≤ 8) (hst0 : st0 = As.reverse ++ rest) (hdg : decode cc pc = .ok (.invokestatic index, 3)) (hcs : cells ≤ R.cells ∧ slots ≤ R.slots)
    (kk : ∀ (H1 : Heap) (locs1 : List Loc), va_P (xw_D G) xw_cl (xw_W G m') H1 → va_S (xw_A G) s.heap H1 locs1 → W p l e R s m args below meth c H1 locs1 cells slots Q (F0 m (pc + 3) ls (rest))) : W p l e R s m args below meth c H locs cells slots Q (F0 m pc ls st0) := by
  refine va_callv (va_runS (As := As) (rest := rest) ⟨hB.1, hB.2.1, hB.2.2.1, hB.2.2.2.1, hB.2.2.2.2⟩ hM ⟨callB_of n hB.2.2.2.2 (xw_gW hg2) rfl rfl rfl (hB.2.2.2.2 _ hg4) (hB.2.2.2.2 _ hg) hd hR, hB.2.2.2.2 _ hg3⟩ ⟨xw_blind G μ _, fun U hU hW => ⟨rfl, xw_in hK hE hS hP hU hW⟩⟩ rfl hn hsz hst0 (lv_room hst) hdg hcs) hS (fun q _ h => h) (fun q h => h) (fun m2 t H1 locs1 ht hvm hw hB2 hz1 hk1 hS1 => ?_)
  obtain ⟨-, e2⟩ := hw
  subst e2
  have hP1 := hB2.1
  rw [ht] at hP1
  exact kk H1 locs1 hP1 hS1
theorem xw_Nv (hB : CallFix p m c cc nL s args TB own) (hK : va_K (xw_D G) xw_cl (xw_ty G) s) (hE : xw_E G s s.heap) (hS : va_S (xw_A G) s.heap H locs) (hP : va_P (xw_D G) xw_cl (xw_W G μ) H) {y : MethodName} {cy : ByteArray} {ny fr lo index : Nat} {ry : Option FieldType} {As : List Value} {r : Unit} {m' : xw_M} {host : String} (hM : xw_Tv l G y cy ny ry fr lo As μ r m') (hg : Cond.methodLinkNest own index y host ∈ xw_NL) (hg2 : Cond.code y cy ny ry ∈ TB) (hg3 : Cond.static y ∈ TB) (hg4 : Cond.initialized y.cls ∈ TB) (n : Nat) (hd : y.cls ≠ "java/lang/invoke/MethodHandle" ∧ y.cls ≠ "java/lang/invoke/VarHandle" ∧ (parseMethodDescriptor y.desc).map (fun d => d.parameters.length) = some n) (hR : fr + 1 ≤ R.frames ∧ 8 + (ny + 11) + lo ≤ R.locals) (hn : As.length = n) (hsz : ls.size = nL) (hst : (rest.map fun v => v.category).sum ≤ 8) (hst0 : st0 = As.reverse ++ rest) (hdg : decode cc pc = .ok (.invokestatic index, 3)) (hcs : cells ≤ R.cells ∧ slots ≤ R.slots)
    (kk : ∀ (H1 : Heap) (locs1 : List Loc), va_P (xw_D G) xw_cl (xw_W G m') H1 → va_S (xw_A G) s.heap H1 locs1 → W p l e R s m args below meth c H1 locs1 cells slots Q (F0 m (pc + 3) ls (rest))) : W p l e R s m args below meth c H locs cells slots Q (F0 m pc ls st0) := by
  refine va_callv (va_runSN (As := As) (rest := rest) ⟨hB.1, hB.2.1, hB.2.2.1, hB.2.2.2.1, hB.2.2.2.2⟩ hM ⟨va_cnB n hB.2.2.2.2 (xw_gW hg2) rfl rfl rfl (hE.1.1 _ hg) (hB.2.2.2.2 _ hg4) hd hR, hB.2.2.2.2 _ hg3, trivial⟩ ⟨xw_blind G μ _, fun U hU hW => ⟨rfl, xw_in hK hE hS hP hU hW⟩⟩ rfl hn hsz hst0 (lv_room hst) hdg hcs) hS (fun q _ h => h) (fun q h => h) (fun m2 t H1 locs1 ht hvm hw hB2 hz1 hk1 hS1 => ?_)
  obtain ⟨-, e2⟩ := hw
  subst e2
  have hP1 := hB2.1
  rw [ht] at hP1
  exact kk H1 locs1 hP1 hS1
theorem xw_Vq (hB : CallFix p m c cc nL s args TB own) (hK : va_K (xw_D G) xw_cl (xw_ty G) s) (hE : xw_E G s s.heap) (hS : va_S (xw_A G) s.heap H locs) (hP : va_P (xw_D G) xw_cl (xw_W G μ) H) {y : MethodName} {cy : ByteArray} {ny fr lo index : Nat} {ry : Option FieldType} {As : List Value} {r : Option Nat} {m' : xw_M} {ba : Addr} {C : String} (hM : xw_Tq l G y cy ny ry fr lo (.ref ba :: As) μ r m') (hg : GoodIn TB (wsV own index C y (.code y cy ny ry :: TB))) (hrc : ∃ cell : Cell, H[ba]? = some cell ∧ cell.vm.isStatics = false ∧ s.vm.findClass C = some cell.cls) (n : Nat) (hd : y.cls = C ∧ y.cls ≠ "java/lang/invoke/MethodHandle" ∧ y.cls ≠ "java/lang/invoke/VarHandle" ∧ (parseMethodDescriptor y.desc).map (fun d => d.parameters.length) = some n) (hR : fr + 1 ≤ R.frames ∧ 8 + (ny + 11) + lo ≤ R.locals) (hn : As.length = n) (hsz : ls.size = nL) (hst : (rest.map fun v => v.category).sum ≤ 8) (hst0 : st0 = As.reverse ++ .ref ba :: rest) (hdg : decode cc pc = .ok (.invokevirtual index, 3)) (hcs : cells ≤ R.cells ∧ slots ≤ R.slots)
    (kk : ∀ (H1 : Heap) (locs1 : List Loc), va_P (xw_D G) xw_cl (xw_W G m') H1 → va_S (xw_A G) s.heap H1 locs1 → W p l e R s m args below meth c H1 locs1 cells slots Q (F0 m (pc + 3) ls (va_rf (r.map (xw_ad G)) :: rest))) : W p l e R s m args below meth c H locs cells slots Q (F0 m pc ls st0) := by
  refine va_callq (va_runV (As := As) (rest := rest) (b := ba) ⟨hB.1, hB.2.1, hB.2.2.1, hB.2.2.2.1, hB.2.2.2.2⟩ hM (cwV n hB.2.2.2.2 hg rfl rfl rfl hd hR) ⟨xw_blind G μ _, hrc, fun U hU hW => ⟨rfl, xw_in hK hE hS hP hU hW⟩⟩ rfl hn hsz hst0 (lv_room hst) hdg hcs) hS (fun q _ h => h) (fun q h => h) (fun r2 m2 t H1 locs1 ht hvm hw hB2 hz1 hk1 hS1 => ?_)
  obtain ⟨e1, e2⟩ := hw
  subst e1
  subst e2
  have hP1 := hB2.1
  rw [ht] at hP1
  exact kk H1 locs1 hP1 hS1
theorem xw_Sq (hB : CallFix p m c cc nL s args TB own) (hK : va_K (xw_D G) xw_cl (xw_ty G) s) (hE : xw_E G s s.heap) (hS : va_S (xw_A G) s.heap H locs) (hP : va_P (xw_D G) xw_cl (xw_W G μ) H) {y : MethodName} {cy : ByteArray} {ny fr lo index : Nat} {ry : Option FieldType} {As : List Value} {r : Option Nat} {m' : xw_M} (hM : xw_Tq l G y cy ny ry fr lo As μ r m') (hg : Cond.methodLink own index y ∈ TB) (hg2 : Cond.code y cy ny ry ∈ TB) (hg3 : Cond.static y ∈ TB) (hg4 : Cond.initialized y.cls ∈ TB) (n : Nat) (hd : y.cls ≠ "java/lang/invoke/MethodHandle" ∧ y.cls ≠ "java/lang/invoke/VarHandle" ∧ (parseMethodDescriptor y.desc).map (fun d => d.parameters.length) = some n) (hR : fr + 1 ≤ R.frames ∧ 8 + (ny + 11) + lo ≤ R.locals) (hn : As.length = n) (hsz : ls.size = nL) (hst : (rest.map fun v => v.category).sum ≤ 8) (hst0 : st0 = As.reverse ++ rest) (hdg : decode cc pc = .ok (.invokestatic index, 3)) (hcs : cells ≤ R.cells ∧ slots ≤ R.slots)
    (kk : ∀ (H1 : Heap) (locs1 : List Loc), va_P (xw_D G) xw_cl (xw_W G m') H1 → va_S (xw_A G) s.heap H1 locs1 → W p l e R s m args below meth c H1 locs1 cells slots Q (F0 m (pc + 3) ls (va_rf (r.map (xw_ad G)) :: rest))) : W p l e R s m args below meth c H locs cells slots Q (F0 m pc ls st0) := by
  refine va_callq (va_runS (As := As) (rest := rest) ⟨hB.1, hB.2.1, hB.2.2.1, hB.2.2.2.1, hB.2.2.2.2⟩ hM ⟨callB_of n hB.2.2.2.2 (xw_gW hg2) rfl rfl rfl (hB.2.2.2.2 _ hg4) (hB.2.2.2.2 _ hg) hd hR, hB.2.2.2.2 _ hg3⟩ ⟨xw_blind G μ _, fun U hU hW => ⟨rfl, xw_in hK hE hS hP hU hW⟩⟩ rfl hn hsz hst0 (lv_room hst) hdg hcs) hS (fun q _ h => h) (fun q h => h) (fun r2 m2 t H1 locs1 ht hvm hw hB2 hz1 hk1 hS1 => ?_)
  obtain ⟨e1, e2⟩ := hw
  subst e1
  subst e2
  have hP1 := hB2.1
  rw [ht] at hP1
  exact kk H1 locs1 hP1 hS1
theorem xw_Nq (hB : CallFix p m c cc nL s args TB own) (hK : va_K (xw_D G) xw_cl (xw_ty G) s) (hE : xw_E G s s.heap) (hS : va_S (xw_A G) s.heap H locs) (hP : va_P (xw_D G) xw_cl (xw_W G μ) H) {y : MethodName} {cy : ByteArray} {ny fr lo index : Nat} {ry : Option FieldType} {As : List Value} {r : Option Nat} {m' : xw_M} {host : String} (hM : xw_Tq l G y cy ny ry fr lo As μ r m') (hg : Cond.methodLinkNest own index y host ∈ xw_NL) (hg2 : Cond.code y cy ny ry ∈ TB) (hg3 : Cond.static y ∈ TB) (hg4 : Cond.initialized y.cls ∈ TB) (n : Nat) (hd : y.cls ≠ "java/lang/invoke/MethodHandle" ∧ y.cls ≠ "java/lang/invoke/VarHandle" ∧ (parseMethodDescriptor y.desc).map (fun d => d.parameters.length) = some n) (hR : fr + 1 ≤ R.frames ∧ 8 + (ny + 11) + lo ≤ R.locals) (hn : As.length = n) (hsz : ls.size = nL) (hst : (rest.map fun v => v.category).sum ≤ 8) (hst0 : st0 = As.reverse ++ rest) (hdg : decode cc pc = .ok (.invokestatic index, 3)) (hcs : cells ≤ R.cells ∧ slots ≤ R.slots)
    (kk : ∀ (H1 : Heap) (locs1 : List Loc), va_P (xw_D G) xw_cl (xw_W G m') H1 → va_S (xw_A G) s.heap H1 locs1 → W p l e R s m args below meth c H1 locs1 cells slots Q (F0 m (pc + 3) ls (va_rf (r.map (xw_ad G)) :: rest))) : W p l e R s m args below meth c H locs cells slots Q (F0 m pc ls st0) := by
  refine va_callq (va_runSN (As := As) (rest := rest) ⟨hB.1, hB.2.1, hB.2.2.1, hB.2.2.2.1, hB.2.2.2.2⟩ hM ⟨va_cnB n hB.2.2.2.2 (xw_gW hg2) rfl rfl rfl (hE.1.1 _ hg) (hB.2.2.2.2 _ hg4) hd hR, hB.2.2.2.2 _ hg3, trivial⟩ ⟨xw_blind G μ _, fun U hU hW => ⟨rfl, xw_in hK hE hS hP hU hW⟩⟩ rfl hn hsz hst0 (lv_room hst) hdg hcs) hS (fun q _ h => h) (fun q h => h) (fun r2 m2 t H1 locs1 ht hvm hw hB2 hz1 hk1 hS1 => ?_)
  obtain ⟨e1, e2⟩ := hw
  subst e1
  subst e2
  have hP1 := hB2.1
  rw [ht] at hP1
  exact kk H1 locs1 hP1 hS1
theorem xw_rc (hK : va_K (xw_D G) xw_cl (xw_ty G) s) (hP : va_P (xw_D G) xw_cl (xw_W G μ) H) {ci k N : Nat} {C : String} {T : u_T} {F : (Nat → Int32) → List Value} (ho : xw_io G ci k F) (hc : xw_cl[ci]? = some (C, T, N)) : ∃ cell : Cell, H[xw_ad G k]? = some cell ∧ cell.vm.isStatics = false ∧ s.vm.findClass C = some cell.cls := va_recv hK hP hc (ho.at μ)
theorem xw_gsq (hB : CallFix p m c cc nL s args TB own) (hS : va_S (xw_A G) s.heap H locs) {C n d ref : String} {index : Nat} (hZ : va_Zq C n d (xw_A G) s s.heap) (hlink : Cond.fieldLink own index ref n d ∈ TB) (hr : ref = C) (hdg : decode cc pc = .ok (.getstatic index, 3))
    (kk : ∀ z : Value, (z = .null ∨ ∃ t, z = .ref t) → W p l e R s m args below meth c H locs cells slots Q (F0 m (pc + 3) ls (z :: rest))) : W p l e R s m args below meth c H locs cells slots Q (F0 m pc ls rest) := by
  subst hr
  rcases hZ with h | ⟨t, h⟩
  · exact va_gets hB.1 hB.2.1 h hS hB.2.2.2.1 (hB.2.2.2.2 _ hlink) (fun _ h => h) hdg (kk _ (Or.inl rfl))
  · exact va_gets hB.1 hB.2.1 h hS hB.2.2.2.1 (hB.2.2.2.2 _ hlink) (fun _ h => h) hdg (kk _ (Or.inr ⟨t, rfl⟩))
theorem xw_gs (hB : CallFix p m c cc nL s args TB own) (hS : va_S (xw_A G) s.heap H locs) {C n d ref : String} {index : Nat} {v : Value} (hZ : va_Z C n d v (xw_A G) s s.heap) (hlink : Cond.fieldLink own index ref n d ∈ TB) (hr : ref = C) (hdg : decode cc pc = .ok (.getstatic index, 3))
    (kk : W p l e R s m args below meth c H locs cells slots Q (F0 m (pc + 3) ls (v :: rest))) : W p l e R s m args below meth c H locs cells slots Q (F0 m pc ls rest) := by
  subst hr
  exact va_gets hB.1 hB.2.1 hZ hS hB.2.2.2.1 (hB.2.2.2.2 _ hlink) (fun _ h => h) hdg kk
theorem xw_gsN (hB : CallFix p m c cc nL s args TB own) (hE : xw_E G s s.heap) (hS : va_S (xw_A G) s.heap H locs) {C n d ref host : String} {index : Nat} {v : Value} (hZ : va_Z C n d v (xw_A G) s s.heap) (hlink : Cond.fieldLinkNest own index ref n d host ∈ xw_NL) (hr : ref = C) (hdg : decode cc pc = .ok (.getstatic index, 3))
    (kk : W p l e R s m args below meth c H locs cells slots Q (F0 m (pc + 3) ls (v :: rest))) : W p l e R s m args below meth c H locs cells slots Q (F0 m pc ls rest) := by
  subst hr
  exact va_getsN hB.1 hB.2.1 hZ hS hB.2.2.2.1 (va_Nw.use rfl (hE.1.1 _ hlink)) (fun _ h => h) hdg kk
theorem xw_copyi (hG : xw_ok G) (hB : CallFix p m c cc nL s args TB own) (hK : va_K (xw_D G) xw_cl (xw_ty G) s) (hS : va_S (xw_A G) s.heap H locs) (hP : va_P (xw_D G) xw_cl (xw_W G μ) H) {k k' n n' index : Nat} {sp dp z : Int32} (ha : xw_ia G 0 k n) (ha' : xw_ia G 0 k' n') (hc : ¬ sp < 0 ∧ ¬ dp < 0 ∧ ¬ z < 0 ∧ sp.toNatClampNeg + z.toNatClampNeg ≤ n ∧ dp.toNatClampNeg + z.toNatClampNeg ≤ n') (h1 : Cond.methodLink own index arraycopyName ∈ TB) (h2 : Cond.native arraycopyName ∈ TB) (h3 : Cond.static arraycopyName ∈ TB) (h4 : Cond.initialized "java/lang/System" ∈ TB) (hsz : ls.size = nL) (hfr : 1 ≤ R.frames) (hlo : (rest.map fun v => v.category).sum + (nativeFrameWords "java/lang/System" "arraycopy" 5 + 11) ≤ R.locals) (hdg : decode cc pc = .ok (.invokestatic index, 3))
    (kk : ∀ m1 : xw_M, m1 = xw_ci μ k k' sp.toNatClampNeg dp.toNatClampNeg z.toNatClampNeg → ∀ (H1 : Heap) (locs1 : List Loc), va_P (xw_D G) xw_cl (xw_W G m1) H1 → va_S (xw_A G) s.heap H1 locs1 → W p l e R s m args below meth c H1 locs1 cells slots Q (F0 m (pc + 3) ls rest)) : W p l e R s m args below meth c H locs cells slots Q (F0 m pc ls (.int z :: .int dp :: .ref (xw_ad G k') :: .int sp :: .ref (xw_ad G k) :: rest)) := by
  have ht := hB.2.2.2.2
  refine va_copyi hB.1 hB.2.1 (hB.2.2.1.trans hsz.symm) hB.2.2.2.1 (ht _ h1) (ht _ h2) (ht _ h3) (ht _ h4) hK hP (xw_dis hG μ) hS k k' 0 0 (ha.at μ) (ha'.at μ) rfl rfl rfl hc.1 hc.2.1 hc.2.2.1 hc.2.2.2.1 hc.2.2.2.2 (fun _ _ => rfl) hfr hlo hdg (fun H1 locs1 hP1 _ hS1 => ?_)
  have hw : (xw_W G μ).set k' (xw_ad G k', .inl (xw_q G 0, n', .inl (va_cpy (μ.1 k) (μ.1 k') sp.toNatClampNeg dp.toNatClampNeg z.toNatClampNeg))) = xw_W G (xw_ci μ k k' sp.toNatClampNeg dp.toNatClampNeg z.toNatClampNeg) := xw_set G (by rw [ha'.2]; simp [xw_ci, va_up]) (fun j hj => ⟨va_up_ne _ _ hj, rfl⟩)
  rw [hw] at hP1
  exact kk _ rfl H1 locs1 hP1 hS1
theorem xw_copyl (hG : xw_ok G) (hB : CallFix p m c cc nL s args TB own) (hK : va_K (xw_D G) xw_cl (xw_ty G) s) (hS : va_S (xw_A G) s.heap H locs) (hP : va_P (xw_D G) xw_cl (xw_W G μ) H) {k k' n n' index : Nat} {sp dp z : Int32} (ha : xw_il G k n) (ha' : xw_il G k' n') (hc : ¬ sp < 0 ∧ ¬ dp < 0 ∧ ¬ z < 0 ∧ sp.toNatClampNeg + z.toNatClampNeg ≤ n ∧ dp.toNatClampNeg + z.toNatClampNeg ≤ n') (h1 : Cond.methodLink own index arraycopyName ∈ TB) (h2 : Cond.native arraycopyName ∈ TB) (h3 : Cond.static arraycopyName ∈ TB) (h4 : Cond.initialized "java/lang/System" ∈ TB) (hsz : ls.size = nL) (hfr : 1 ≤ R.frames) (hlo : (rest.map fun v => v.category).sum + (nativeFrameWords "java/lang/System" "arraycopy" 5 + 11) ≤ R.locals) (hdg : decode cc pc = .ok (.invokestatic index, 3))
    (kk : ∀ m1 : xw_M, m1 = xw_cL μ k k' sp.toNatClampNeg dp.toNatClampNeg z.toNatClampNeg → ∀ (H1 : Heap) (locs1 : List Loc), va_P (xw_D G) xw_cl (xw_W G m1) H1 → va_S (xw_A G) s.heap H1 locs1 → W p l e R s m args below meth c H1 locs1 cells slots Q (F0 m (pc + 3) ls rest)) : W p l e R s m args below meth c H locs cells slots Q (F0 m pc ls (.int z :: .int dp :: .ref (xw_ad G k') :: .int sp :: .ref (xw_ad G k) :: rest)) := by
  have ht := hB.2.2.2.2
  refine va_copyl hB.1 hB.2.1 (hB.2.2.1.trans hsz.symm) hB.2.2.2.1 (ht _ h1) (ht _ h2) (ht _ h3) (ht _ h4) hK hP (xw_dis hG μ) hS k k' 3 3 (ha.at μ) (ha'.at μ) rfl rfl rfl hc.1 hc.2.1 hc.2.2.1 hc.2.2.2.1 hc.2.2.2.2 (fun _ _ => rfl) hfr hlo hdg (fun H1 locs1 hP1 _ hS1 => ?_)
  have hw : (xw_W G μ).set k' (xw_ad G k', .inl (xw_q G 3, n', .inr (.inl (va_cpy (μ.2 k) (μ.2 k') sp.toNatClampNeg dp.toNatClampNeg z.toNatClampNeg)))) = xw_W G (xw_cL μ k k' sp.toNatClampNeg dp.toNatClampNeg z.toNatClampNeg) := xw_set G (by rw [ha'.2]; simp [xw_cL, va_up]) (fun j hj => ⟨rfl, va_up_ne _ _ hj⟩)
  rw [hw] at hP1
  exact kk _ rfl H1 locs1 hP1 hS1
abbrev xw_Wi (G : xw_G) (p : Program) (l : Launch) (e : Env) (R : Room) (s : State) (m : MethodId) (args : Array Value) (below : List Frame) (meth : Method) (c : Code) (H : Heap) (locs : List Loc) (r0 : Int32) (wz : xw_M) (g : JFrame) : Prop := W p l e R s m args below meth c H locs 0 0 (MQ below (va_Qi (fun (r' : Int32) (m2 : xw_M) => r' = r0 ∧ m2 = wz) (fun m2 t => xw_In G m2 t) (xw_A G)) args s 0 0 (xw_A G)) g
abbrev xw_Wl (G : xw_G) (p : Program) (l : Launch) (e : Env) (R : Room) (s : State) (m : MethodId) (args : Array Value) (below : List Frame) (meth : Method) (c : Code) (H : Heap) (locs : List Loc) (r0 : Int64) (wz : xw_M) (g : JFrame) : Prop := W p l e R s m args below meth c H locs 0 0 (MQ below (va_Ql (fun (r' : Int64) (m2 : xw_M) => r' = r0 ∧ m2 = wz) (fun m2 t => xw_In G m2 t) (xw_A G)) args s 0 0 (xw_A G)) g
abbrev xw_Wv (G : xw_G) (p : Program) (l : Launch) (e : Env) (R : Room) (s : State) (m : MethodId) (args : Array Value) (below : List Frame) (meth : Method) (c : Code) (H : Heap) (locs : List Loc) (r0 : Unit) (wz : xw_M) (g : JFrame) : Prop := W p l e R s m args below meth c H locs 0 0 (MQ below (va_Qv (fun (m2 : xw_M) => r0 = () ∧ m2 = wz) (fun m2 t => xw_In G m2 t) (xw_A G)) args s 0 0 (xw_A G)) g
abbrev xw_Wq (G : xw_G) (p : Program) (l : Launch) (e : Env) (R : Room) (s : State) (m : MethodId) (args : Array Value) (below : List Frame) (meth : Method) (c : Code) (H : Heap) (locs : List Loc) (r0 : Option Nat) (wz : xw_M) (g : JFrame) : Prop := W p l e R s m args below meth c H locs 0 0 (MQ below (va_Qq (fun (r' : Option Nat) (m2 : xw_M) => r' = r0.map (xw_ad G) ∧ m2 = wz) (fun m2 t => xw_In G m2 t) (xw_A G)) args s 0 0 (xw_A G)) g
end XW
theorem xw_sA0 {G : xw_G} (U : State) (H : Heap) (h : xw_Eh G U H) : va_T .int (xw_sa G 0) 7 (fun j => .int (xw_above j)) (xw_A G) U H := h.2.2.1
theorem xw_sA1 {G : xw_G} (U : State) (H : Heap) (h : xw_Eh G U H) : va_T .int (xw_sa G 1) 21 (fun j => .int (xw_body j)) (xw_A G) U H := h.2.2.2.1
theorem xw_sS {G : xw_G} {k : Nat} (hk : k < 5) {U : State} {H : Heap} (h : xw_Eh G U H) : va_O "java/lang/String" (xw_sa G (10 + k)) (xw_A G) U H ∧ va_OF "java/lang/String" "coder" "B" (.int 0) (xw_sa G (10 + k)) (xw_A G) U H ∧ va_OF "java/lang/String" "value" "[B" (.ref (xw_sa G (20 + k))) (xw_sa G (10 + k)) (xw_A G) U H ∧ va_T .byte (xw_sa G (20 + k)) (xw_slen.getD k 0) (fun j => .int ((xw_sbyt.getD k []).getD j 0)) (xw_A G) U H := h.2.2.2.2.1.1 k hk
/-! ===== what the walks' functions are made of ===== -/
def xw_b {α β : Type} (o : Option (α × xw_M)) (k : α → xw_M → Option β) : Option β := match o with
  | none => none
  | some z => k z.1 z.2
def xw_bp {α β : Type} (o : Option α) (k : α → Option β) : Option β := match o with
  | none => none
  | some z => k z
def xw_lt {α β : Type} (e : α) (k : α → Option β) : Option β := k e
def xw_ck {β : Type} (i : Int32) (n : Nat) (k : Option β) : Option β := if i < 0 ∨ n ≤ i.toNatClampNeg then none else k
def xw_cc {β : Type} (c : Prop) [Decidable c] (k : Option β) : Option β := if c then k else none
def xw_om {α β : Type} (o : Option α) (a : Option β) (k : α → Option β) : Option β := match o with
  | none => a
  | some z => k z
def xw_su {α β γ : Type} (o : α ⊕ β) (a : α → Option γ) (b : β → Option γ) : Option γ := match o with
  | .inl z => a z
  | .inr z => b z
def xw_it {α β : Type} (f : α → Option (α ⊕ β)) : Nat → α → Option β
  | 0, _ => none
  | n + 1, a => match f a with
    | none => none
    | some (.inl a') => xw_it f n a'
    | some (.inr b) => some b
theorem xw_b_e {α β : Type} {o : Option (α × xw_M)} {k : α → xw_M → Option β} {z : β} (h : xw_b o k = some z) : ∃ r m1, o = some (r, m1) ∧ k r m1 = some z := by
  cases o with
  | none => cases h
  | some q => exact ⟨q.1, q.2, rfl, h⟩
theorem xw_bp_e {α β : Type} {o : Option α} {k : α → Option β} {z : β} (h : xw_bp o k = some z) : ∃ r, o = some r ∧ k r = some z := by
  cases o with
  | none => cases h
  | some q => exact ⟨q, rfl, h⟩
theorem xw_lt_e {α β : Type} {e y : α} {k : α → Option β} {z : Option β} (hy : y = e) (h : xw_lt e k = z) : k y = z := by subst hy; exact h
theorem xw_ck_e {β : Type} {i : Int32} {n : Nat} {k : Option β} {z : β} (h : xw_ck i n k = some z) : vp_in i n ∧ k = some z := by
  unfold xw_ck at h
  split at h
  · cases h
  · exact ⟨by assumption, h⟩
theorem xw_cc_e {β : Type} {c : Prop} [Decidable c] {k : Option β} {z : β} (h : xw_cc c k = some z) : c ∧ k = some z := by
  unfold xw_cc at h
  split at h
  · exact ⟨by assumption, h⟩
  · cases h
theorem xw_ip {β : Type} {c : Prop} [Decidable c] {a b z : β} (hc : c) (h : (if c then a else b) = z) : a = z := by rw [if_pos hc] at h; exact h
theorem xw_in' {β : Type} {c : Prop} [Decidable c] {a b z : β} (hc : ¬ c) (h : (if c then a else b) = z) : b = z := by rw [if_neg hc] at h; exact h
theorem xw_it_e {α β : Type} {f : α → Option (α ⊕ β)} {n : Nat} {a : α} {b : β} (h : xw_it f (n + 1) a = some b) : ∃ w, f a = some w ∧ ((∀ a', w = .inl a' → xw_it f n a' = some b) ∧ ∀ b', w = .inr b' → b' = b) := by
  unfold xw_it at h
  cases hf : f a with
  | none => rw [hf] at h; cases h
  | some w =>
    refine ⟨w, rfl, fun a' e => ?_, fun b' e => ?_⟩
    · subst e; rw [hf] at h; exact h
    · subst e; rw [hf] at h; exact Option.some.inj h
theorem xw_so {α : Type} {a b : α} (h : some a = some b) : a = b := Option.some.inj h
theorem xw_s2 {α β : Type} {a c : α} {b d : β} (h : some (a, b) = some (c, d)) : a = c ∧ b = d := by cases h; exact ⟨rfl, rfl⟩
theorem xw_nar {v : Int32} (h : v = 0 ∨ v = 1) : narrow .boolean (.int v) = .int v := by rcases h with rfl | rfl <;> rfl
