def xs_mourner (n : Nat) (Rel : xw_M → Prop) : Prop := ∀ (a1 : Int32) (a2 : Int32) (a3 : Int32) (a4 : Int32) (w : xw_M), Rel w → ∃ (r : Int32) (w1 w2 : xw_M), fX7_mourner a1 a2 a3 a4 w = some (r, w1) ∧ fX8_mourner n a1 a2 a3 a4 w1 = some (r, w2) ∧ Rel w2
def xs_of (n : Nat) (Rel : xw_M → Prop) : Prop := ∀ (a1 : Int32) (a2 : Int32) (w : xw_M), Rel w → ∃ (r : Int32) (w1 w2 : xw_M), fX7_of n a1 a2 w = some (r, w1) ∧ fX8_of n a1 a2 w1 = some (r, w2) ∧ Rel w2
def xs_set (n : Nat) (Rel : xw_M → Prop) : Prop := ∀ (a1 : Int32) (a2 : Int32) (a3 : Int32) (w : xw_M), Rel w → ∃ (r : Int32) (w1 w2 : xw_M), fX7_set a1 a2 a3 w = some (r, w1) ∧ fX8_set a1 a2 a3 w1 = some (r, w2) ∧ Rel w2
def xs_away (n : Nat) (Rel : xw_M → Prop) : Prop := ∀ (a1 : Int32) (a2 : Int32) (hz : a2 = 0 ∨ a2 = 1) (w : xw_M), Rel w → ∃ (r : Int32) (w1 w2 : xw_M), fX7_away a1 a2 w = some (r, w1) ∧ fX8_away a1 a2 w1 = some (r, w2) ∧ Rel w2
def xs_debt (n : Nat) (Rel : xw_M → Prop) : Prop := ∀ (a1 : Int32) (w : xw_M), Rel w → ∃ (r : Int32) (w1 w2 : xw_M), fX7_debt a1 w = some (r, w1) ∧ fX8_debt a1 w1 = some (r, w2) ∧ Rel w2
def xs_row (n : Nat) (Rel : xw_M → Prop) : Prop := ∀ (a1 : Int32) (a2 : Int32) (a3 : Int32) (w : xw_M), Rel w → ∃ (r : Int32) (w1 w2 : xw_M), fX7_row a1 a2 a3 w = some (r, w1) ∧ fX8_row a1 a2 a3 w1 = some (r, w2) ∧ Rel w2
def xs_feed (n : Nat) (Rel : xw_M → Prop) : Prop := ∀ (a1 : Int32) (w : xw_M), Rel w → ∃ (r : Int32) (w1 w2 : xw_M), fX7_feed a1 w = some (r, w1) ∧ fX8_feed a1 w1 = some (r, w2) ∧ Rel w2
def xs_parish (n : Nat) (Rel : xw_M → Prop) : Prop := ∀ (w : xw_M), Rel w → ∃ (r : Int32) (w1 w2 : xw_M), fX7_parish n w = some (r, w1) ∧ fX8_parish n w1 = some (r, w2) ∧ Rel w2
def xs_told (n : Nat) (Rel : xw_M → Prop) : Prop := ∀ (a1 : Int32) (w : xw_M), Rel w → ∃ (r : Int32) (w1 w2 : xw_M), fX7_told n a1 w = some (r, w1) ∧ fX8_told n a1 w1 = some (r, w2) ∧ Rel w2
def xs_pass (n : Nat) (Rel : xw_M → Prop) : Prop := ∀ (a1 : Int32) (w : xw_M), Rel w → ∃ (r : Int32) (w1 w2 : xw_M), fX7_pass n a1 w = some (r, w1) ∧ fX8_pass n a1 w1 = some (r, w2) ∧ Rel w2
def xs_on (n : Nat) (Rel : xw_M → Prop) : Prop := ∀ (a1 : Int32) (a2 : Int32) (w : xw_M), Rel w → ∃ (r : Int32) (w1 w2 : xw_M), fX7_on n a1 a2 w = some (r, w1) ∧ fX8_on n a1 a2 w1 = some (r, w2) ∧ Rel w2
def xs_kept (n : Nat) (Rel : xw_M → Prop) : Prop := ∀ (a1 : Int32) (a2 : Int32) (w : xw_M), Rel w → ∃ (r : Int32) (w1 w2 : xw_M), fX7_kept n a1 a2 w = some (r, w1) ∧ fX8_kept n a1 a2 w1 = some (r, w2) ∧ Rel w2
def xs_see (n : Nat) (Rel : xw_M → Prop) : Prop := ∀ (a1 : Int32) (a2 : Int32) (w : xw_M), Rel w → ∃ (r : Int32) (w1 w2 : xw_M), fX7_see a1 a2 w = some (r, w1) ∧ fX8_see a1 a2 w1 = some (r, w2) ∧ Rel w2
def xs_can (n : Nat) (Rel : xw_M → Prop) : Prop := ∀ (a1 : Int32) (a2 : Int32) (w : xw_M), Rel w → ∃ (r : Int32) (w1 w2 : xw_M), fX7_can n a1 a2 w = some (r, w1) ∧ fX8_can n a1 a2 w1 = some (r, w2) ∧ Rel w2
def xs_odds (n : Nat) (Rel : xw_M → Prop) : Prop := ∀ (a1 : Int32) (a2 : Int32) (w : xw_M), Rel w → ∃ (r : Int64) (w1 w2 : xw_M), fX7_odds n a1 a2 w = some (r, w1) ∧ fX8_odds n a1 a2 w1 = some (r, w2) ∧ Rel w2
def xs_mean (n : Nat) (Rel : xw_M → Prop) : Prop := ∀ (a1 : Int32) (w : xw_M), Rel w → ∃ (r : Int64), fX7_mean n a1 w = some r ∧ fX8_mean n a1 w = some r ∧ Rel w
def xs_plan (n : Nat) (Rel : xw_M → Prop) : Prop := ∀ (a1 : Int32) (a2 : Int32) (w : xw_M), Rel w → ∃ (r : Int32) (w1 w2 : xw_M), fX7_plan a1 a2 w = some (r, w1) ∧ fX8_plan a1 a2 w1 = some (r, w2) ∧ Rel w2
def xs_ends (n : Nat) (Rel : xw_M → Prop) : Prop := ∀ (a1 : Int32) (w : xw_M), Rel w → ∃ (r : Int32) (w1 w2 : xw_M), fX7_ends n a1 w = some (r, w1) ∧ fX8_ends n a1 w1 = some (r, w2) ∧ Rel w2
def xs_book (n : Nat) (Rel : xw_M → Prop) : Prop := ∀ (a1 : Int32) (a2 : Int32) (w : xw_M), Rel w → ∃ (r : Int32) (w1 w2 : xw_M), fX7_book a1 a2 w = some (r, w1) ∧ fX8_book a1 a2 w1 = some (r, w2) ∧ Rel w2
def xs_looked (n : Nat) (Rel : xw_M → Prop) : Prop := ∀ (w : xw_M), Rel w → ∃ (r : Int32), fX7_looked n w = some r ∧ fX8_looked n w = some r ∧ Rel w
def xs_judge (n : Nat) (Rel : xw_M → Prop) : Prop := ∀ (a1 : Int32) (a2 : Int32) (w : xw_M), Rel w → ∃ (r : Int32) (w1 w2 : xw_M), fX7_judge n a1 a2 w = some (r, w1) ∧ fX8_judge n a1 a2 w1 = some (r, w2) ∧ Rel w2
def xs_image (n : Nat) (Rel : xw_M → Prop) : Prop := ∀ (w : xw_M), Rel w → ∃ (r : Int32) (w1 w2 : xw_M), fX7_image w = some (r, w1) ∧ fX8_image n w1 = some (r, w2) ∧ Rel w2
def xs_undo (n : Nat) (Rel : xw_M → Prop) : Prop := ∀ (w : xw_M), Rel w → ∃ (r : Int32) (w1 w2 : xw_M), fX7_undo w = some (r, w1) ∧ fX8_undo n w1 = some (r, w2) ∧ Rel w2
def xs_act (n : Nat) (Rel : xw_M → Prop) : Prop := ∀ (a1 : Int32) (a2 : Int32) (a3 : Int32) (w : xw_M), Rel w → ∃ (r : Int32) (w1 w2 : xw_M), fX7_act n a1 a2 a3 w = some (r, w1) ∧ fX8_act n a1 a2 a3 w1 = some (r, w2) ∧ Rel w2
def xs_trace (n : Nat) (Rel : xw_M → Prop) : Prop := ∀ (a1 : Int32) (w : xw_M), Rel w → ∃ (r : Int32), fX7_trace a1 w = some r ∧ fX8_trace a1 w = some r ∧ Rel w
def xs_taken (n : Nat) (Rel : xw_M → Prop) : Prop := ∀ (a1 : Int32) (a2 : Int32) (w : xw_M), Rel w → ∃ (r : Int32), fX7_taken n a1 a2 w = some r ∧ fX8_taken n a1 a2 w = some r ∧ Rel w
def xs_count (n : Nat) (Rel : xw_M → Prop) : Prop := ∀ (a1 : Int32) (w : xw_M), Rel w → ∃ (r : Int32), fX7_count a1 w = some r ∧ fX8_count a1 w = some r ∧ Rel w
def xs_tape (n : Nat) (Rel : xw_M → Prop) : Prop := ∀ (a1 : Int32) (a2 : Int32) (a3 : Int32) (w : xw_M), Rel w → ∃ (r : Int32) (w1 w2 : xw_M), fX7_tape n a1 a2 a3 w = some (r, w1) ∧ fX8_tape n a1 a2 a3 w1 = some (r, w2) ∧ Rel w2
def xs_item (n : Nat) (Rel : xw_M → Prop) : Prop := ∀ (a1 : Int32) (a2 : Int32) (a3 : Int64) (w : xw_M), Rel w → ∃ (r : Int32) (w1 w2 : xw_M), fX7_item a1 a2 a3 w = some (r, w1) ∧ fX8_item a1 a2 a3 w1 = some (r, w2) ∧ Rel w2
def xs_read (n : Nat) (Rel : xw_M → Prop) : Prop := ∀ (a1 : Int32) (a2 : Int32) (w : xw_M), Rel w → ∃ (r : Int64), fX7_read a1 a2 w = some r ∧ fX8_read a1 a2 w = some r ∧ Rel w
def xs_shift (n : Nat) (Rel : xw_M → Prop) : Prop := ∀ (a1 : Int32) (a2 : Int32) (a3 : Int32) (a4 : Int32) (a5 : Int32) (w : xw_M), Rel w → ∃ (r : Int32) (w1 w2 : xw_M), fX7_shift a1 a2 a3 a4 a5 w = some (r, w1) ∧ fX8_shift n a1 a2 a3 a4 a5 w1 = some (r, w2) ∧ Rel w2
def xs_all (n : Nat) (Rel : xw_M → Prop) : Prop := xs_mourner n Rel ∧ xs_of n Rel ∧ xs_set n Rel ∧ xs_away n Rel ∧ xs_debt n Rel ∧ xs_row n Rel ∧ xs_feed n Rel ∧ xs_parish n Rel ∧ xs_told n Rel ∧ xs_pass n Rel ∧ xs_on n Rel ∧ xs_kept n Rel ∧ xs_see n Rel ∧ xs_can n Rel ∧ xs_odds n Rel ∧ xs_mean n Rel ∧ xs_plan n Rel ∧ xs_ends n Rel ∧ xs_book n Rel ∧ xs_looked n Rel ∧ xs_judge n Rel ∧ xs_image n Rel ∧ xs_undo n Rel ∧ xs_act n Rel ∧ xs_trace n Rel ∧ xs_taken n Rel ∧ xs_count n Rel ∧ xs_tape n Rel ∧ xs_item n Rel ∧ xs_read n Rel ∧ xs_shift n Rel
set_option maxHeartbeats 4000000 in
set_option maxRecDepth 100000 in
theorem law_end {p : Program} {l : Launch} {e : Env} {s : State} {m : MethodId} {below : List Frame} {meth : Method} {c : Code} {b L : Nat} {xs : Nat → Int32} {G : xw_G} (hG : xw_ok G) (hB : CallFix p m c code 4 s #[Value.ref b] TB RL) (hr : meth.sig.returnType = ret) (hlocks : meth.locks = false) (h0 : ∀ q, xw_A G q → s.heap.size ≤ q) (hX : va_X b L xs s s.heap) (hbl : b < s.heap.size) (hbA : ¬ xw_A G b) (hL : L ≤ 3072) {i : Nat} (hi : L < i + 6) (hi6 : i ≤ L + 6) (H : Heap) (locs : List Loc) (ls : Array Slot) (hS : va_S (xw_A G) s.heap H locs) (hl : lv_has ls 4 [(0, .ref b), (1, .ref (xw_ad G 0)), (2, .ref (xw_ad G 119)), (3, .int (nI i))]) : W p l e room_1 s m #[Value.ref b] below meth c H locs 141 5416 (lw_Z below #[Value.ref b] s) (F0 m 18 ls []) := by
  have hx := hB.1
  have hb := hB.2.1
  refine lv_iload_n hx hb dL_law_18 rfl (lv_at hl 3 rfl) ?_
  refine lv_aload_n hx hb dL_law_19 rfl (lv_at hl 0 rfl) ?_
  refine va_slen hx hb hX hbl hbA hS dL_law_20 ?_
  refine lv_bipush (v := 6) hx hb dL_law_21 (by decide) ?_
  refine lv_isub hx hb dL_law_23 ?_
  have hlt : nI L - nI 6 < nI i := by
    rw [Int32.lt_iff_toInt_lt, pk_sub_toInt (by omega) (by omega), nI_toInt (by omega)]
    omega
  refine lv_icmp_gt (tgt := 1190) hx hb dL_law_24 (by decide) (fun _ => ?_) (fun cx => absurd hlt cx)
  refine lv_iconst (v := 1) hx hb dL_law_1190 (by decide) ?_
  refine va_forget (fun q hq => h0 _ (hS.2.2 q hq)) ?_
  refine W.widen (k := 600000) (n := 7302250) (Nat.le_of_ble_eq_true rfl) (Nat.le_of_ble_eq_true rfl) ?_
  exact lw_ret hx hb hr hlocks dL_law_1191
set_option maxHeartbeats 8000000 in
set_option maxRecDepth 100000 in
theorem law_loop {p : Program} {l : Launch} {e : Env} {s : State} {m : MethodId} {below : List Frame} {meth : Method} {c : Code} {b L : Nat} {xs : Nat → Int32} {G : xw_G} (hG : xw_ok G) (hB : CallFix p m c code 4 s #[Value.ref b] TB RL) (hr : meth.sig.returnType = ret) (hlocks : meth.locks = false) (hK : va_K (xw_D G) xw_cl (xw_ty G) s) (hE : xw_E G s s.heap) (h0 : ∀ q, xw_A G q → s.heap.size ≤ q) (hX : va_X b L xs s s.heap) (hbl : b < s.heap.size) (hL : L ≤ 3072) (n : Nat) (Rel : xw_M → Prop) (hst : xs_all n Rel) :
    ∀ (k i : Nat) (w : xw_M), L < i + 6 * k → Rel w → ∀ (H : Heap) (locs : List Loc) (ls : Array Slot), va_P (xw_D G) xw_cl (xw_W G w) H → va_S (xw_A G) s.heap H locs → lv_has ls 4 [(0, .ref b), (1, .ref (xw_ad G 0)), (2, .ref (xw_ad G 119)), (3, .int (nI i))] → i ≤ L + 6 → W p l e room_1 s m #[Value.ref b] below meth c H locs 141 5416 (lw_Z below #[Value.ref b] s) (F0 m 18 ls []) := by
  have hx := hB.1
  have hb := hB.2.1
  have hbA : ¬ xw_A G b := fun h => absurd (h0 b h) (Nat.not_le.mpr hbl)
  obtain ⟨g0, g1, g2, g3, g4, g5, g6, g7, g8, g9, g10, g11, g12, g13, g14, g15, g16, g17, g18, g19, g20, g21, g22, g23, g24, g25, g26, g27, g28, g29, g30⟩ := hst
  intro k
  induction k with
  | zero =>
    intro i w hlt hR H locs ls hP hS hl hi6
    exact law_end hG hB hr hlocks h0 hX hbl hbA hL (by omega) hi6 H locs ls hS hl
  | succ k ih =>
    intro i w hlt hR H locs ls hP hS hl hi6
    by_cases hi : i + 6 ≤ L
    · have kk : ∀ (w2 : xw_M), Rel w2 → ∀ (H : Heap) (locs : List Loc) (ls : Array Slot), va_P (xw_D G) xw_cl (xw_W G w2) H → va_S (xw_A G) s.heap H locs → lv_has ls 4 [(0, .ref b), (1, .ref (xw_ad G 0)), (2, .ref (xw_ad G 119)), (3, .int (nI i))] → W p l e room_1 s m #[Value.ref b] below meth c H locs 141 5416 (lw_Z below #[Value.ref b] s) (F0 m 1184 ls []) := by
        intro w2 hR2 H locs ls hP hS hl
        refine lv_iinc (v := nI (i + 6)) (lv' := [(3, .int (nI (i + 6))), (0, .ref b), (1, .ref (xw_ad G 0)), (2, .ref (xw_ad G 119))]) hx hb dL_law_1184 hl (k := 3) rfl (nI_add i 6) (by decide) rfl (fun ls hl => ?_)
        refine lv_goto (tgt := 18) hx hb dL_law_1187 (by decide) ?_
        exact ih (i + 6) w2 (by omega) hR2 H locs ls hP hS (lv_sub hl [1, 2, 3, 0] rfl) (by omega)
      refine lv_iload_n hx hb dL_law_18 rfl (lv_at hl 3 rfl) ?_
      refine lv_aload_n hx hb dL_law_19 rfl (lv_at hl 0 rfl) ?_
      refine va_slen hx hb hX hbl hbA hS dL_law_20 ?_
      refine lv_bipush (v := 6) hx hb dL_law_21 (by decide) ?_
      refine lv_isub hx hb dL_law_23 ?_
      rw [show (Int32.ofNat L - 6 : Int32) = nI (L - 6) from pk_sub (a := L) (b := 6) (by omega)]
      refine lv_icmp_gt (tgt := 1190) hx hb dL_law_24 (by decide) (fun cx => absurd cx (nI_nlt (by omega) (by omega))) (fun _ => ?_)
      refine lv_aload_n hx hb dL_law_27 rfl (lv_at hl 0 rfl) ?_
      refine lv_iload_n hx hb dL_law_28 rfl (lv_at hl 3 rfl) ?_
      refine xl_ld0 hx hb hX hbl hbA hS hL (by omega) dL_law_29 ?_
      refine lv_bipush (v := 31) hx hb dL_law_30 (by decide) ?_
      refine lv_iand hx hb dL_law_32 ?_
      obtain ⟨j, hj, ej⟩ := pk_andE (xs i) (m := 31) 5 (by decide)
      rw [ej]
      rcases (show j = 0 ∨ j = 1 ∨ j = 2 ∨ j = 3 ∨ j = 4 ∨ j = 5 ∨ j = 6 ∨ j = 7 ∨ j = 8 ∨ j = 9 ∨ j = 10 ∨ j = 11 ∨ j = 12 ∨ j = 13 ∨ j = 14 ∨ j = 15 ∨ j = 16 ∨ j = 17 ∨ j = 18 ∨ j = 19 ∨ j = 20 ∨ j = 21 ∨ j = 22 ∨ j = 23 ∨ j = 24 ∨ j = 25 ∨ j = 26 ∨ j = 27 ∨ j = 28 ∨ j = 29 ∨ j = 30 ∨ j = 31 by omega) with rfl | rfl | rfl | rfl | rfl | rfl | rfl | rfl | rfl | rfl | rfl | rfl | rfl | rfl | rfl | rfl | rfl | rfl | rfl | rfl | rfl | rfl | rfl | rfl | rfl | rfl | rfl | rfl | rfl | rfl | rfl | rfl
      · obtain ⟨r, w1, w2, hh1, hh2, hR2⟩ := g0 (xs (i + 1)) (xs (i + 2)) (xs (i + 3)) (xs (i + 4)) w hR
        refine lv_tableIn (off := 139) (tgt := 172) hx hb dL_law_33 (by decide) (by decide) (by rfl) (by decide) ?_
        exact law_c0 hG hB hK hE hX hbl hbA hL hi n hh1 hh2 (kk _ hR2) H locs ls hP hS hl
      · obtain ⟨r, w1, w2, hh1, hh2, hR2⟩ := g1 (xs (i + 1)) (xs (i + 2)) w hR
        refine lv_tableIn (off := 192) (tgt := 225) hx hb dL_law_33 (by decide) (by decide) (by rfl) (by decide) ?_
        exact law_c1 hG hB hK hE hX hbl hbA hL hi n hh1 hh2 (kk _ hR2) H locs ls hP hS hl
      · obtain ⟨r, w1, w2, hh1, hh2, hR2⟩ := g2 (xs (i + 1)) (xs (i + 2)) (xs (i + 3)) w hR
        refine lv_tableIn (off := 225) (tgt := 258) hx hb dL_law_33 (by decide) (by decide) (by rfl) (by decide) ?_
        exact law_c2 hG hB hK hE hX hbl hbA hL hi n hh1 hh2 (kk _ hR2) H locs ls hP hS hl
      · obtain ⟨r, w1, w2, hh1, hh2, hR2⟩ := g3 (xs (i + 1)) (if xs (i + 2) = 0 then 0 else 1) (by split; exact Or.inl rfl; exact Or.inr rfl) w hR
        refine lv_tableIn (off := 268) (tgt := 301) hx hb dL_law_33 (by decide) (by decide) (by rfl) (by decide) ?_
        exact law_c3 hG hB hK hE hX hbl hbA hL hi n hh1 hh2 (kk _ hR2) H locs ls hP hS hl
      · obtain ⟨r, w1, w2, hh1, hh2, hR2⟩ := g4 (xs (i + 1)) w hR
        refine lv_tableIn (off := 317) (tgt := 350) hx hb dL_law_33 (by decide) (by decide) (by rfl) (by decide) ?_
        exact law_c4 hG hB hK hE hX hbl hbA hL hi n hh1 hh2 (kk _ hR2) H locs ls hP hS hl
      · obtain ⟨r, w1, w2, hh1, hh2, hR2⟩ := g5 (xs (i + 1)) (xs (i + 2)) (xs (i + 3)) w hR
        refine lv_tableIn (off := 340) (tgt := 373) hx hb dL_law_33 (by decide) (by decide) (by rfl) (by decide) ?_
        exact law_c5 hG hB hK hE hX hbl hbA hL hi n hh1 hh2 (kk _ hR2) H locs ls hP hS hl
      · obtain ⟨r, w1, w2, hh1, hh2, hR2⟩ := g6 (xs (i + 1)) w hR
        refine lv_tableIn (off := 383) (tgt := 416) hx hb dL_law_33 (by decide) (by decide) (by rfl) (by decide) ?_
        exact law_c6 hG hB hK hE hX hbl hbA hL hi n hh1 hh2 (kk _ hR2) H locs ls hP hS hl
      · obtain ⟨r, w1, w2, hh1, hh2, hR2⟩ := g7  w hR
        refine lv_tableIn (off := 406) (tgt := 439) hx hb dL_law_33 (by decide) (by decide) (by rfl) (by decide) ?_
        exact law_c7 hG hB hK hE hX hbl hbA hL hi n hh1 hh2 (kk _ hR2) H locs ls hP hS hl
      · obtain ⟨r, w1, w2, hh1, hh2, hR2⟩ := g8 (xs (i + 1)) w hR
        refine lv_tableIn (off := 419) (tgt := 452) hx hb dL_law_33 (by decide) (by decide) (by rfl) (by decide) ?_
        exact law_c8 hG hB hK hE hX hbl hbA hL hi n hh1 hh2 (kk _ hR2) H locs ls hP hS hl
      · obtain ⟨r, w1, w2, hh1, hh2, hR2⟩ := g9 (xs (i + 1)) w hR
        refine lv_tableIn (off := 442) (tgt := 475) hx hb dL_law_33 (by decide) (by decide) (by rfl) (by decide) ?_
        exact law_c9 hG hB hK hE hX hbl hbA hL hi n hh1 hh2 (kk _ hR2) H locs ls hP hS hl
      · obtain ⟨r, w1, w2, hh1, hh2, hR2⟩ := g10 (xs (i + 1)) (xs (i + 2)) w hR
        refine lv_tableIn (off := 465) (tgt := 498) hx hb dL_law_33 (by decide) (by decide) (by rfl) (by decide) ?_
        exact law_c10 hG hB hK hE hX hbl hbA hL hi n hh1 hh2 (kk _ hR2) H locs ls hP hS hl
      · obtain ⟨r, w1, w2, hh1, hh2, hR2⟩ := g11 (xs (i + 1)) (xs (i + 2)) w hR
        refine lv_tableIn (off := 498) (tgt := 531) hx hb dL_law_33 (by decide) (by decide) (by rfl) (by decide) ?_
        exact law_c11 hG hB hK hE hX hbl hbA hL hi n hh1 hh2 (kk _ hR2) H locs ls hP hS hl
      · obtain ⟨r, w1, w2, hh1, hh2, hR2⟩ := g12 (xs (i + 1)) (xs (i + 2)) w hR
        refine lv_tableIn (off := 531) (tgt := 564) hx hb dL_law_33 (by decide) (by decide) (by rfl) (by decide) ?_
        exact law_c12 hG hB hK hE hX hbl hbA hL hi n hh1 hh2 (kk _ hR2) H locs ls hP hS hl
      · obtain ⟨r, w1, w2, hh1, hh2, hR2⟩ := g13 (xs (i + 1)) (xs (i + 2)) w hR
        refine lv_tableIn (off := 564) (tgt := 597) hx hb dL_law_33 (by decide) (by decide) (by rfl) (by decide) ?_
        exact law_c13 hG hB hK hE hX hbl hbA hL hi n hh1 hh2 (kk _ hR2) H locs ls hP hS hl
      · obtain ⟨r, w1, w2, hh1, hh2, hR2⟩ := g14 (xs (i + 1)) (xs (i + 2)) w hR
        refine lv_tableIn (off := 597) (tgt := 630) hx hb dL_law_33 (by decide) (by decide) (by rfl) (by decide) ?_
        exact law_c14 hG hB hK hE hX hbl hbA hL hi n hh1 hh2 (kk _ hR2) H locs ls hP hS hl
      · obtain ⟨r, hh1, hh2, hR2⟩ := g15 (xs (i + 1)) w hR
        refine lv_tableIn (off := 631) (tgt := 664) hx hb dL_law_33 (by decide) (by decide) (by rfl) (by decide) ?_
        exact law_c15 hG hB hK hE hX hbl hbA hL hi n hh1 hh2 (kk _ hR2) H locs ls hP hS hl
      · obtain ⟨r, w1, w2, hh1, hh2, hR2⟩ := g16 (xs (i + 1)) (xs (i + 2)) w hR
        refine lv_tableIn (off := 655) (tgt := 688) hx hb dL_law_33 (by decide) (by decide) (by rfl) (by decide) ?_
        exact law_c16 hG hB hK hE hX hbl hbA hL hi n hh1 hh2 (kk _ hR2) H locs ls hP hS hl
      · obtain ⟨r, w1, w2, hh1, hh2, hR2⟩ := g17 (xs (i + 1)) w hR
        refine lv_tableIn (off := 688) (tgt := 721) hx hb dL_law_33 (by decide) (by decide) (by rfl) (by decide) ?_
        exact law_c17 hG hB hK hE hX hbl hbA hL hi n hh1 hh2 (kk _ hR2) H locs ls hP hS hl
      · obtain ⟨r, w1, w2, hh1, hh2, hR2⟩ := g18 (xs (i + 1)) (xs (i + 2)) w hR
        refine lv_tableIn (off := 711) (tgt := 744) hx hb dL_law_33 (by decide) (by decide) (by rfl) (by decide) ?_
        exact law_c18 hG hB hK hE hX hbl hbA hL hi n hh1 hh2 (kk _ hR2) H locs ls hP hS hl
      · obtain ⟨r, hh1, hh2, hR2⟩ := g19  w hR
        refine lv_tableIn (off := 744) (tgt := 777) hx hb dL_law_33 (by decide) (by decide) (by rfl) (by decide) ?_
        exact law_c19 hG hB hK hE hX hbl hbA hL hi n hh1 hh2 (kk _ hR2) H locs ls hP hS hl
      · obtain ⟨r, w1, w2, hh1, hh2, hR2⟩ := g20 (xs (i + 1)) (xs (i + 2)) w hR
        refine lv_tableIn (off := 757) (tgt := 790) hx hb dL_law_33 (by decide) (by decide) (by rfl) (by decide) ?_
        exact law_c20 hG hB hK hE hX hbl hbA hL hi n hh1 hh2 (kk _ hR2) H locs ls hP hS hl
      · obtain ⟨r, w1, w2, hh1, hh2, hR2⟩ := g21  w hR
        refine lv_tableIn (off := 790) (tgt := 823) hx hb dL_law_33 (by decide) (by decide) (by rfl) (by decide) ?_
        exact law_c21 hG hB hK hE hX hbl hbA hL hi n hh1 hh2 (kk _ hR2) H locs ls hP hS hl
      · obtain ⟨r, w1, w2, hh1, hh2, hR2⟩ := g22  w hR
        refine lv_tableIn (off := 803) (tgt := 836) hx hb dL_law_33 (by decide) (by decide) (by rfl) (by decide) ?_
        exact law_c22 hG hB hK hE hX hbl hbA hL hi n hh1 hh2 (kk _ hR2) H locs ls hP hS hl
      · obtain ⟨r, w1, w2, hh1, hh2, hR2⟩ := g23 (xs (i + 1)) (xs (i + 2)) (xs (i + 3)) w hR
        refine lv_tableIn (off := 816) (tgt := 849) hx hb dL_law_33 (by decide) (by decide) (by rfl) (by decide) ?_
        exact law_c23 hG hB hK hE hX hbl hbA hL hi n hh1 hh2 (kk _ hR2) H locs ls hP hS hl
      · obtain ⟨r, hh1, hh2, hR2⟩ := g24 (xs (i + 1)) w hR
        refine lv_tableIn (off := 859) (tgt := 892) hx hb dL_law_33 (by decide) (by decide) (by rfl) (by decide) ?_
        exact law_c24 hG hB hK hE hX hbl hbA hL hi n hh1 hh2 (kk _ hR2) H locs ls hP hS hl
      · obtain ⟨r, hh1, hh2, hR2⟩ := g25 (xs (i + 1)) (xs (i + 2)) w hR
        refine lv_tableIn (off := 882) (tgt := 915) hx hb dL_law_33 (by decide) (by decide) (by rfl) (by decide) ?_
        exact law_c25 hG hB hK hE hX hbl hbA hL hi n hh1 hh2 (kk _ hR2) H locs ls hP hS hl
      · obtain ⟨r, hh1, hh2, hR2⟩ := g26 (xs (i + 1)) w hR
        refine lv_tableIn (off := 915) (tgt := 948) hx hb dL_law_33 (by decide) (by decide) (by rfl) (by decide) ?_
        exact law_c26 hG hB hK hE hX hbl hbA hL hi n hh1 hh2 (kk _ hR2) H locs ls hP hS hl
      · obtain ⟨r, w1, w2, hh1, hh2, hR2⟩ := g27 (xs (i + 1)) (xs (i + 2)) (xs (i + 3)) w hR
        refine lv_tableIn (off := 938) (tgt := 971) hx hb dL_law_33 (by decide) (by decide) (by rfl) (by decide) ?_
        exact law_c27 hG hB hK hE hX hbl hbA hL hi n hh1 hh2 (kk _ hR2) H locs ls hP hS hl
      · obtain ⟨r, w1, w2, hh1, hh2, hR2⟩ := g28 (xs (i + 1)) (xs (i + 2)) ((xs (i + 3)).toInt64 <<< ((32 : Int32).toInt64 &&& 63) ||| (xs (i + 4)).toInt64 &&& 4294967295) w hR
        refine lv_tableIn (off := 981) (tgt := 1014) hx hb dL_law_33 (by decide) (by decide) (by rfl) (by decide) ?_
        exact law_c28 hG hB hK hE hX hbl hbA hL hi n hh1 hh2 (kk _ hR2) H locs ls hP hS hl
      · obtain ⟨r, hh1, hh2, hR2⟩ := g29 (xs (i + 1)) (xs (i + 2)) w hR
        refine lv_tableIn (off := 1054) (tgt := 1087) hx hb dL_law_33 (by decide) (by decide) (by rfl) (by decide) ?_
        exact law_c29 hG hB hK hE hX hbl hbA hL hi n hh1 hh2 (kk _ hR2) H locs ls hP hS hl
      · obtain ⟨r, w1, w2, hh1, hh2, hR2⟩ := g30 (xs (i + 1)) (xs (i + 2)) (xs (i + 3)) (xs (i + 4)) (xs (i + 5)) w hR
        refine lv_tableIn (off := 1088) (tgt := 1121) hx hb dL_law_33 (by decide) (by decide) (by rfl) (by decide) ?_
        exact law_c30 hG hB hK hE hX hbl hbA hL hi n hh1 hh2 (kk _ hR2) H locs ls hP hS hl
      · refine lv_tableOut (tgt := 1184) hx hb dL_law_33 (by decide) (by decide) ?_
        exact kk w hR H locs ls hP hS hl
    · exact law_end hG hB hr hlocks h0 hX hbl hbA hL (by omega) hi6 H locs ls hS hl
