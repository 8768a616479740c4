def fX7_away (a1 : Int32) (a2 : Int32) (w0 : xw_M) : Option (Int32 × xw_M) := xw_bp (fX5_has 1 a1 w0) (fun r1 => if r1 = 0 then some ((-1 : Int32), w0) else xw_bp (fX5_isAway 1 a1 w0) (fun r4 => xw_b (fX5_send 1 a1 a2 w0) (fun (_ : Unit) w7 => if r4 = 0 then some ((0 : Int32), w7) else some ((1 : Int32), w7))))
set_option maxHeartbeats 4000000 in
set_option maxRecDepth 100000 in
theorem kX7_away (l : Launch) (G : xw_G) (hG : xw_ok G) (a1 : Int32) (a2 : Int32) (w0 : xw_M) (r0 : Int32) (wz : xw_M) (hf : fX7_away a1 a2 w0 = some (r0, wz)) : xw_Ti l G yX7_away cX7_away 4 ((Option.some Jvm.ClassFile.FieldType.int)) (1) (22) [.ref (xw_ad G 0), .int a1, .int a2] w0 r0 wz := by
  unfold xw_Ti
  refine Met.ofW (cc := cX7_away) (maxL := 4) (ret := (Option.some Jvm.ClassFile.FieldType.int)) (by decide) rfl ?_
  intro p e s m args below meth c s₁ B hml hv
  obtain ⟨hargs, hP, hK, hE⟩ := hv
  have hx := B.exec
  have hb := B.bytes
  have hr := B.returns
  have hlk := B.notSynchronized
  have hB : CallFix p m c cX7_away 4 s args TB RX7 := ⟨hx, hb, hml, findClass_of_methodNamed B.named, fun q h => (atoms_spec (ws := Cond.code yX7_away cX7_away 4 ((Option.some Jvm.ClassFile.FieldType.int)) :: TB) B.pre) q (List.mem_cons_of_mem _ h)⟩
  have hS : va_S (xw_A G) s.heap s.heap [] := va_S.rf
  have hl := lv_entry [.ref (xw_ad G 0), .int a1, .int a2] (n := 4) (Nat.le_of_ble_eq_true rfl)
  rw [show entryFrame m args 4 = entryFrame m ([.ref (xw_ad G 0), .int a1, .int a2] : List Value).toArray 4 from by rw [hargs], lg_entry_eq]
  generalize (lg_sl [.ref (xw_ad G 0), .int a1, .int a2] ++ List.replicate (4 - (lg_sl [.ref (xw_ad G 0), .int a1, .int a2]).length) Slot.unset).toArray = ls at hl ⊢
  have hP : va_P (xw_D G) xw_cl (xw_W G w0) s.heap := hP
  have hl : lv_has ls 4 [(0, .ref (xw_ad G 0)), (1, .int a1), (2, .int a2)] := hl
  have HH : ∀ (H : Heap) (locs : List Loc) (hP : va_P (xw_D G) xw_cl (xw_W G w0) H) (hS : va_S (xw_A G) s.heap H locs), xw_Wi G p l e (xw_rm (1) (22)) s m args below meth c H locs r0 wz (F0 m 0 ls []) := by
    intro H locs hP hS
    unfold fX7_away at hf
    refine lv_aload_n hx hb dX7_away_0 rfl (lv_at hl 0 rfl) ?_
    refine xw_get hB hK hP (xw_o7 G) (C := RX7) (T := TX7) (N := 11) rfl TBi_X7 0 (by decide) tw_255 rfl rfl dX7_away_1 ?_
    refine lv_iload_n hx hb dX7_away_4 rfl (lv_at hl 1 rfl) ?_
    replace hf := xw_bp_e hf
    obtain ⟨r1, he2, hf⟩ := hf
    refine xw_Vi hB hK hE hS hP (As := [.int a1]) (rest := []) (kX5_has l G hG 1 a1 (Or.inl rfl) w0 _ he2) gs_X7_77 (xw_rc hK hP (C := RX5) (T := TX5) (N := 14) (xw_o5 G (Or.inl rfl)) rfl) 1 hv_X5_has ⟨Nat.le_of_ble_eq_true rfl, Nat.le_of_ble_eq_true rfl⟩ rfl hl.1 (Nat.le_of_ble_eq_true rfl) rfl dX7_away_5 ⟨Nat.zero_le _, Nat.zero_le _⟩ (fun H locs hP hS => ?_)
    refine lv_if_ne (tgt := 13) hx hb dX7_away_8 (by decide) (fun c3 => ?_) (fun c3 => ?_)
    · replace hf := xw_in' c3 hf
      refine lv_aload_n hx hb dX7_away_13 rfl (lv_at hl 0 rfl) ?_
      refine xw_get hB hK hP (xw_o7 G) (C := RX7) (T := TX7) (N := 11) rfl TBi_X7 0 (by decide) tw_255 rfl rfl dX7_away_14 ?_
      refine lv_iload_n hx hb dX7_away_17 rfl (lv_at hl 1 rfl) ?_
      replace hf := xw_bp_e hf
      obtain ⟨r4, he5, hf⟩ := hf
      refine xw_Vi hB hK hE hS hP (As := [.int a1]) (rest := []) (kX5_isAway l G hG 1 a1 (Or.inl rfl) w0 _ he5) gs_X7_98 (xw_rc hK hP (C := RX5) (T := TX5) (N := 14) (xw_o5 G (Or.inl rfl)) rfl) 1 hv_X5_isAway ⟨Nat.le_of_ble_eq_true rfl, Nat.le_of_ble_eq_true rfl⟩ rfl hl.1 (Nat.le_of_ble_eq_true rfl) rfl dX7_away_18 ⟨Nat.zero_le _, Nat.zero_le _⟩ (fun H locs hP hS => ?_)
      refine lv_istore_n (lv' := [(3, .int r4), (0, .ref (xw_ad G 0)), (1, .int a1), (2, .int a2)]) hx hb dX7_away_21 rfl hl (by decide) rfl (fun ls hl => ?_)
      refine lv_aload_n hx hb dX7_away_22 rfl (lv_at hl 1 rfl) ?_
      refine xw_get hB hK hP (xw_o7 G) (C := RX7) (T := TX7) (N := 11) rfl TBi_X7 0 (by decide) tw_255 rfl rfl dX7_away_23 ?_
      refine lv_iload_n hx hb dX7_away_26 rfl (lv_at hl 2 rfl) ?_
      refine lv_iload_n hx hb dX7_away_27 rfl (lv_at hl 3 rfl) ?_
      replace hf := xw_b_e hf
      obtain ⟨r6, w7, he8, hf⟩ := hf
      refine xw_Vv hB hK hE hS hP (As := [.int a1, .int a2]) (rest := []) (kX5_send l G hG 1 a1 a2 (Or.inl rfl) w0 _ _ he8) gs_X7_141 (xw_rc hK hP (C := RX5) (T := TX5) (N := 14) (xw_o5 G (Or.inl rfl)) rfl) 2 hv_X5_send ⟨Nat.le_of_ble_eq_true rfl, Nat.le_of_ble_eq_true rfl⟩ rfl hl.1 (Nat.le_of_ble_eq_true rfl) rfl dX7_away_28 ⟨Nat.zero_le _, Nat.zero_le _⟩ (fun H locs hP hS => ?_)
      refine lv_iload_n hx hb dX7_away_31 rfl (lv_at hl 0 rfl) ?_
      refine lv_if_eq (tgt := 39) hx hb dX7_away_32 (by decide) (fun c9 => ?_) (fun c9 => ?_)
      · replace hf := xw_ip c9 hf
        refine lv_iconst (v := 0) hx hb dX7_away_39 (by decide) ?_
        obtain ⟨h0, h1⟩ := xw_s2 hf
        exact xw_iret hB hK hE hS hP hr hlk h0 h1 dX7_away_40
      · replace hf := xw_in' c9 hf
        refine lv_iconst (v := 1) hx hb dX7_away_35 (by decide) ?_
        refine lv_goto (tgt := 40) hx hb dX7_away_36 (by decide) ?_
        obtain ⟨h0, h1⟩ := xw_s2 hf
        exact xw_iret hB hK hE hS hP hr hlk h0 h1 dX7_away_40
    · replace hf := xw_ip c3 hf
      refine lv_iconst (v := (-1)) hx hb dX7_away_11 (by decide) ?_
      obtain ⟨h0, h1⟩ := xw_s2 hf
      exact xw_iret hB hK hE hS hP hr hlk h0 h1 dX7_away_12
  exact HH s.heap [] hP hS
def fX7_debt (a1 : Int32) (w0 : xw_M) : Option (Int32 × xw_M) := xw_bp (fX7_within a1 (999 : Int32)) (fun r1 => if r1 = 0 then some ((-2 : Int32), w0) else xw_lt (w0.1 1 8) (fun x2_4 => xw_lt (xw_si w0 1 8 a1) (fun w5 => some (x2_4, w5))))
set_option maxHeartbeats 4000000 in
set_option maxRecDepth 100000 in
theorem kX7_debt (l : Launch) (G : xw_G) (hG : xw_ok G) (a1 : Int32) (w0 : xw_M) (r0 : Int32) (wz : xw_M) (hf : fX7_debt a1 w0 = some (r0, wz)) : xw_Ti l G yX7_debt cX7_debt 3 ((Option.some Jvm.ClassFile.FieldType.int)) (1) (21) [.ref (xw_ad G 0), .int a1] w0 r0 wz := by
  unfold xw_Ti
  refine Met.ofW (cc := cX7_debt) (maxL := 3) (ret := (Option.some Jvm.ClassFile.FieldType.int)) (by decide) rfl ?_
  intro p e s m args below meth c s₁ B hml hv
  obtain ⟨hargs, hP, hK, hE⟩ := hv
  have hx := B.exec
  have hb := B.bytes
  have hr := B.returns
  have hlk := B.notSynchronized
  have hB : CallFix p m c cX7_debt 3 s args TB RX7 := ⟨hx, hb, hml, findClass_of_methodNamed B.named, fun q h => (atoms_spec (ws := Cond.code yX7_debt cX7_debt 3 ((Option.some Jvm.ClassFile.FieldType.int)) :: TB) B.pre) q (List.mem_cons_of_mem _ h)⟩
  have hS : va_S (xw_A G) s.heap s.heap [] := va_S.rf
  have hl := lv_entry [.ref (xw_ad G 0), .int a1] (n := 3) (Nat.le_of_ble_eq_true rfl)
  rw [show entryFrame m args 3 = entryFrame m ([.ref (xw_ad G 0), .int a1] : List Value).toArray 3 from by rw [hargs], lg_entry_eq]
  generalize (lg_sl [.ref (xw_ad G 0), .int a1] ++ List.replicate (3 - (lg_sl [.ref (xw_ad G 0), .int a1]).length) Slot.unset).toArray = ls at hl ⊢
  have hP : va_P (xw_D G) xw_cl (xw_W G w0) s.heap := hP
  have hl : lv_has ls 3 [(0, .ref (xw_ad G 0)), (1, .int a1)] := hl
  have HH : ∀ (H : Heap) (locs : List Loc) (hP : va_P (xw_D G) xw_cl (xw_W G w0) H) (hS : va_S (xw_A G) s.heap H locs), xw_Wi G p l e (xw_rm (1) (21)) s m args below meth c H locs r0 wz (F0 m 0 ls []) := by
    intro H locs hP hS
    unfold fX7_debt at hf
    refine lv_iload_n hx hb dX7_debt_0 rfl (lv_at hl 1 rfl) ?_
    refine lv_sipush (v := 999) hx hb dX7_debt_1 (by decide) ?_
    replace hf := xw_bp_e hf
    obtain ⟨r1, he2, hf⟩ := hf
    refine xw_Si hB hK hE hS hP (As := [.int a1, .int (999 : Int32)]) (rest := []) (kX7_within l G hG a1 (999 : Int32) w0 _ he2) tw_293 tw_295 tw_294 tw_1 2 hs_X7_within ⟨Nat.le_of_ble_eq_true rfl, Nat.le_of_ble_eq_true rfl⟩ rfl hl.1 (Nat.le_of_ble_eq_true rfl) rfl dX7_debt_4 ⟨Nat.zero_le _, Nat.zero_le _⟩ (fun H locs hP hS => ?_)
    refine lv_if_ne (tgt := 13) hx hb dX7_debt_7 (by decide) (fun c3 => ?_) (fun c3 => ?_)
    · replace hf := xw_in' c3 hf
      refine lv_aload_n hx hb dX7_debt_13 rfl (lv_at hl 0 rfl) ?_
      refine xw_get hB hK hP (xw_o7 G) (C := RX7) (T := TX7) (N := 11) rfl TBi_X7 0 (by decide) tw_255 rfl rfl dX7_debt_14 ?_
      refine xw_get hB hK hP (xw_o5 G (Or.inl rfl)) (C := RX5) (T := TX5) (N := 14) rfl TBi_X5 8 (by decide) tw_87 rfl rfl dX7_debt_17 ?_
      refine lv_topi (fun x2_4 ex2_4 => ?_)
      replace hf := xw_lt_e ex2_4 hf
      refine lv_istore_n (lv' := [(2, .int x2_4), (0, .ref (xw_ad G 0)), (1, .int a1)]) hx hb dX7_debt_20 rfl hl (by decide) rfl (fun ls hl => ?_)
      refine lv_aload_n hx hb dX7_debt_21 rfl (lv_at hl 1 rfl) ?_
      refine xw_get hB hK hP (xw_o7 G) (C := RX7) (T := TX7) (N := 11) rfl TBi_X7 0 (by decide) tw_255 rfl rfl dX7_debt_22 ?_
      refine lv_iload_n hx hb dX7_debt_25 rfl (lv_at hl 2 rfl) ?_
      refine xw_put hG hB hK hS hP (x := a1) (xw_o5 G (Or.inl rfl)) (C := RX5) (T := TX5) (N := 14) rfl TBi_X5 tyX5 tyX5_ok nmX5 8 (by decide) tw_87 rfl rfl rfl rfl rfl (Nat.le_of_ble_eq_true rfl) rfl dX7_debt_26 (fun w5 ew5 H locs hP hS => ?_)
      replace hf := xw_lt_e ew5 hf
      refine lv_iload_n hx hb dX7_debt_29 rfl (lv_at hl 0 rfl) ?_
      obtain ⟨h0, h1⟩ := xw_s2 hf
      exact xw_iret hB hK hE hS hP hr hlk h0 h1 dX7_debt_30
    · replace hf := xw_ip c3 hf
      refine lv_bipush (v := (-2)) hx hb dX7_debt_10 (by decide) ?_
      obtain ⟨h0, h1⟩ := xw_s2 hf
      exact xw_iret hB hK hE hS hP hr hlk h0 h1 dX7_debt_12
  exact HH s.heap [] hP hS
def fX7_row (a1 : Int32) (a2 : Int32) (a3 : Int32) (w0 : xw_M) : Option (Int32 × xw_M) := xw_bp (fX5_has 1 a1 w0) (fun r1 => if r1 = 0 then some ((-1 : Int32), w0) else xw_bp (fX7_within a2 (3 : Int32)) (fun r4 => if r4 = 0 then some ((-1 : Int32), w0) else xw_bp (fX7_within a3 (9 : Int32)) (fun r7 => if r7 = 0 then some ((-2 : Int32), w0) else xw_bp (fX7_at (1 + 1) 6 a1 w0) (fun r10 => if r10 = (6 : Int32) then xw_lt ((a1 * (4 : Int32)) + a2) (fun x4_13 => xw_bp (fX7_at (1 + 6) 24 x4_13 w0) (fun r14 => xw_b (fX7_put (1 + 6) 24 x4_13 a3 w0) (fun (_ : Unit) w17 => some (r14, w17)))) else some ((-3 : Int32), w0)))))
set_option maxHeartbeats 4000000 in
set_option maxRecDepth 100000 in
theorem kX7_row (l : Launch) (G : xw_G) (hG : xw_ok G) (a1 : Int32) (a2 : Int32) (a3 : Int32) (w0 : xw_M) (r0 : Int32) (wz : xw_M) (hf : fX7_row a1 a2 a3 w0 = some (r0, wz)) : xw_Ti l G yX7_row cX7_row 6 ((Option.some Jvm.ClassFile.FieldType.int)) (1) (22) [.ref (xw_ad G 0), .int a1, .int a2, .int a3] w0 r0 wz := by
  unfold xw_Ti
  refine Met.ofW (cc := cX7_row) (maxL := 6) (ret := (Option.some Jvm.ClassFile.FieldType.int)) (by decide) rfl ?_
  intro p e s m args below meth c s₁ B hml hv
  obtain ⟨hargs, hP, hK, hE⟩ := hv
  have hx := B.exec
  have hb := B.bytes
  have hr := B.returns
  have hlk := B.notSynchronized
  have hB : CallFix p m c cX7_row 6 s args TB RX7 := ⟨hx, hb, hml, findClass_of_methodNamed B.named, fun q h => (atoms_spec (ws := Cond.code yX7_row cX7_row 6 ((Option.some Jvm.ClassFile.FieldType.int)) :: TB) B.pre) q (List.mem_cons_of_mem _ h)⟩
  have hS : va_S (xw_A G) s.heap s.heap [] := va_S.rf
  have hl := lv_entry [.ref (xw_ad G 0), .int a1, .int a2, .int a3] (n := 6) (Nat.le_of_ble_eq_true rfl)
  rw [show entryFrame m args 6 = entryFrame m ([.ref (xw_ad G 0), .int a1, .int a2, .int a3] : List Value).toArray 6 from by rw [hargs], lg_entry_eq]
  generalize (lg_sl [.ref (xw_ad G 0), .int a1, .int a2, .int a3] ++ List.replicate (6 - (lg_sl [.ref (xw_ad G 0), .int a1, .int a2, .int a3]).length) Slot.unset).toArray = ls at hl ⊢
  have hP : va_P (xw_D G) xw_cl (xw_W G w0) s.heap := hP
  have hl : lv_has ls 6 [(0, .ref (xw_ad G 0)), (1, .int a1), (2, .int a2), (3, .int a3)] := hl
  have HH : ∀ (H : Heap) (locs : List Loc) (hP : va_P (xw_D G) xw_cl (xw_W G w0) H) (hS : va_S (xw_A G) s.heap H locs), xw_Wi G p l e (xw_rm (1) (22)) s m args below meth c H locs r0 wz (F0 m 0 ls []) := by
    intro H locs hP hS
    unfold fX7_row at hf
    refine lv_aload_n hx hb dX7_row_0 rfl (lv_at hl 0 rfl) ?_
    refine xw_get hB hK hP (xw_o7 G) (C := RX7) (T := TX7) (N := 11) rfl TBi_X7 0 (by decide) tw_255 rfl rfl dX7_row_1 ?_
    refine lv_iload_n hx hb dX7_row_4 rfl (lv_at hl 1 rfl) ?_
    replace hf := xw_bp_e hf
    obtain ⟨r1, he2, hf⟩ := hf
    refine xw_Vi hB hK hE hS hP (As := [.int a1]) (rest := []) (kX5_has l G hG 1 a1 (Or.inl rfl) w0 _ he2) gs_X7_77 (xw_rc hK hP (C := RX5) (T := TX5) (N := 14) (xw_o5 G (Or.inl rfl)) rfl) 1 hv_X5_has ⟨Nat.le_of_ble_eq_true rfl, Nat.le_of_ble_eq_true rfl⟩ rfl hl.1 (Nat.le_of_ble_eq_true rfl) rfl dX7_row_5 ⟨Nat.zero_le _, Nat.zero_le _⟩ (fun H locs hP hS => ?_)
    refine lv_if_eq (tgt := 19) hx hb dX7_row_8 (by decide) (fun c3 => ?_) (fun c3 => ?_)
    · replace hf := xw_ip c3 hf
      refine lv_iconst (v := (-1)) hx hb dX7_row_19 (by decide) ?_
      obtain ⟨h0, h1⟩ := xw_s2 hf
      exact xw_iret hB hK hE hS hP hr hlk h0 h1 dX7_row_20
    · replace hf := xw_in' c3 hf
      refine lv_iload_n hx hb dX7_row_11 rfl (lv_at hl 2 rfl) ?_
      refine lv_iconst (v := 3) hx hb dX7_row_12 (by decide) ?_
      replace hf := xw_bp_e hf
      obtain ⟨r4, he5, hf⟩ := hf
      refine xw_Si hB hK hE hS hP (As := [.int a2, .int (3 : Int32)]) (rest := []) (kX7_within l G hG a2 (3 : Int32) w0 _ he5) tw_293 tw_295 tw_294 tw_1 2 hs_X7_within ⟨Nat.le_of_ble_eq_true rfl, Nat.le_of_ble_eq_true rfl⟩ rfl hl.1 (Nat.le_of_ble_eq_true rfl) rfl dX7_row_13 ⟨Nat.zero_le _, Nat.zero_le _⟩ (fun H locs hP hS => ?_)
      refine lv_if_ne (tgt := 21) hx hb dX7_row_16 (by decide) (fun c6 => ?_) (fun c6 => ?_)
      · replace hf := xw_in' c6 hf
        refine lv_iload_n hx hb dX7_row_21 rfl (lv_at hl 3 rfl) ?_
        refine lv_bipush (v := 9) hx hb dX7_row_22 (by decide) ?_
        replace hf := xw_bp_e hf
        obtain ⟨r7, he8, hf⟩ := hf
        refine xw_Si hB hK hE hS hP (As := [.int a3, .int (9 : Int32)]) (rest := []) (kX7_within l G hG a3 (9 : Int32) w0 _ he8) tw_293 tw_295 tw_294 tw_1 2 hs_X7_within ⟨Nat.le_of_ble_eq_true rfl, Nat.le_of_ble_eq_true rfl⟩ rfl hl.1 (Nat.le_of_ble_eq_true rfl) rfl dX7_row_24 ⟨Nat.zero_le _, Nat.zero_le _⟩ (fun H locs hP hS => ?_)
        refine lv_if_ne (tgt := 33) hx hb dX7_row_27 (by decide) (fun c9 => ?_) (fun c9 => ?_)
        · replace hf := xw_in' c9 hf
          refine lv_aload_n hx hb dX7_row_33 rfl (lv_at hl 0 rfl) ?_
          refine xw_get hB hK hP (xw_o7 G) (C := RX7) (T := TX7) (N := 11) rfl TBi_X7 0 (by decide) tw_255 rfl rfl dX7_row_34 ?_
          refine xw_get hB hK hP (xw_o5 G (Or.inl rfl)) (C := RX5) (T := TX5) (N := 14) rfl TBi_X5 1 (by decide) tw_66 rfl rfl dX7_row_37 ?_
          refine lv_iload_n hx hb dX7_row_40 rfl (lv_at hl 1 rfl) ?_
          replace hf := xw_bp_e hf
          obtain ⟨r10, he11, hf⟩ := hf
          refine xw_Si hB hK hE hS hP (As := [.ref (xw_ad G (1 + 1)), .int a1]) (rest := []) (kX7_at l G hG (1 + 1) 6 a1 (xw_a5_1 G (Or.inl rfl)) w0 _ he11) tw_311 tw_313 tw_312 tw_1 2 hs_X7_at ⟨Nat.le_of_ble_eq_true rfl, Nat.le_of_ble_eq_true rfl⟩ rfl hl.1 (Nat.le_of_ble_eq_true rfl) rfl dX7_row_41 ⟨Nat.zero_le _, Nat.zero_le _⟩ (fun H locs hP hS => ?_)
          refine lv_bipush (v := 6) hx hb dX7_row_44 (by decide) ?_
          refine lv_icmp_eq (tgt := 52) hx hb dX7_row_46 (by decide) (fun c12 => ?_) (fun c12 => ?_)
          · replace hf := xw_ip c12 hf
            refine lv_iload_n hx hb dX7_row_52 rfl (lv_at hl 1 rfl) ?_
            refine lv_iconst (v := 4) hx hb dX7_row_53 (by decide) ?_
            refine lv_imul hx hb dX7_row_54 ?_
            refine lv_iload_n hx hb dX7_row_55 rfl (lv_at hl 2 rfl) ?_
            refine lv_iadd hx hb dX7_row_56 ?_
            refine lv_topi (fun x4_13 ex4_13 => ?_)
            replace hf := xw_lt_e ex4_13 hf
            refine lv_istore (lv' := [(4, .int x4_13), (0, .ref (xw_ad G 0)), (1, .int a1), (2, .int a2), (3, .int a3)]) hx hb dX7_row_57 hl (by decide) rfl (fun ls hl => ?_)
            refine lv_aload_n hx hb dX7_row_59 rfl (lv_at hl 1 rfl) ?_
            refine xw_get hB hK hP (xw_o7 G) (C := RX7) (T := TX7) (N := 11) rfl TBi_X7 0 (by decide) tw_255 rfl rfl dX7_row_60 ?_
            refine xw_get hB hK hP (xw_o5 G (Or.inl rfl)) (C := RX5) (T := TX5) (N := 14) rfl TBi_X5 6 (by decide) tw_82 rfl rfl dX7_row_63 ?_
            refine lv_iload hx hb dX7_row_66 (lv_at hl 0 rfl) ?_
            replace hf := xw_bp_e hf
            obtain ⟨r14, he15, hf⟩ := hf
            refine xw_Si hB hK hE hS hP (As := [.ref (xw_ad G (1 + 6)), .int x4_13]) (rest := []) (kX7_at l G hG (1 + 6) 24 x4_13 (xw_a5_6 G (Or.inl rfl)) w0 _ he15) tw_311 tw_313 tw_312 tw_1 2 hs_X7_at ⟨Nat.le_of_ble_eq_true rfl, Nat.le_of_ble_eq_true rfl⟩ rfl hl.1 (Nat.le_of_ble_eq_true rfl) rfl dX7_row_68 ⟨Nat.zero_le _, Nat.zero_le _⟩ (fun H locs hP hS => ?_)
            refine lv_istore (lv' := [(5, .int r14), (4, .int x4_13), (0, .ref (xw_ad G 0)), (1, .int a1), (2, .int a2), (3, .int a3)]) hx hb dX7_row_71 hl (by decide) rfl (fun ls hl => ?_)
            refine lv_aload_n hx hb dX7_row_73 rfl (lv_at hl 2 rfl) ?_
            refine xw_get hB hK hP (xw_o7 G) (C := RX7) (T := TX7) (N := 11) rfl TBi_X7 0 (by decide) tw_255 rfl rfl dX7_row_74 ?_
            refine xw_get hB hK hP (xw_o5 G (Or.inl rfl)) (C := RX5) (T := TX5) (N := 14) rfl TBi_X5 6 (by decide) tw_82 rfl rfl dX7_row_77 ?_
            refine lv_iload hx hb dX7_row_80 (lv_at hl 1 rfl) ?_
            refine lv_iload_n hx hb dX7_row_82 rfl (lv_at hl 5 rfl) ?_
            replace hf := xw_b_e hf
            obtain ⟨r16, w17, he18, hf⟩ := hf
            refine xw_Sv hB hK hE hS hP (As := [.ref (xw_ad G (1 + 6)), .int x4_13, .int a3]) (rest := []) (kX7_put l G hG (1 + 6) 24 x4_13 a3 (xw_a5_6 G (Or.inl rfl)) w0 _ _ he18) tw_379 tw_302 tw_301 tw_1 3 hs_X7_put ⟨Nat.le_of_ble_eq_true rfl, Nat.le_of_ble_eq_true rfl⟩ rfl hl.1 (Nat.le_of_ble_eq_true rfl) rfl dX7_row_83 ⟨Nat.zero_le _, Nat.zero_le _⟩ (fun H locs hP hS => ?_)
            refine lv_iload hx hb dX7_row_86 (lv_at hl 0 rfl) ?_
            obtain ⟨h0, h1⟩ := xw_s2 hf
            exact xw_iret hB hK hE hS hP hr hlk h0 h1 dX7_row_88
          · replace hf := xw_in' c12 hf
            refine lv_bipush (v := (-3)) hx hb dX7_row_49 (by decide) ?_
            obtain ⟨h0, h1⟩ := xw_s2 hf
            exact xw_iret hB hK hE hS hP hr hlk h0 h1 dX7_row_51
        · replace hf := xw_ip c9 hf
          refine lv_bipush (v := (-2)) hx hb dX7_row_30 (by decide) ?_
          obtain ⟨h0, h1⟩ := xw_s2 hf
          exact xw_iret hB hK hE hS hP hr hlk h0 h1 dX7_row_32
      · replace hf := xw_ip c6 hf
        refine lv_iconst (v := (-1)) hx hb dX7_row_19 (by decide) ?_
        obtain ⟨h0, h1⟩ := xw_s2 hf
        exact xw_iret hB hK hE hS hP hr hlk h0 h1 dX7_row_20
  exact HH s.heap [] hP hS
def fX3_append (a1 : Int32) (w0 : xw_M) : Option (Int32 × xw_M) := if (w0.1 49 1) < 0 then some ((-4 : Int32), w0) else if (w0.1 49 1) < (nI 100) then xw_ck (w0.1 49 1) 100 (xw_lt (xw_si w0 50 (w0.1 49 1).toNatClampNeg (vp_nar .byte a1.toInt8.toInt32)) (fun w4 => xw_lt (xw_si w4 49 1 ((w4.1 49 1) + (1 : Int32))) (fun w5 => some (w5.1 49 1, w5)))) else some ((-4 : Int32), w0)
set_option maxHeartbeats 4000000 in
set_option maxRecDepth 100000 in
theorem kX3_append (l : Launch) (G : xw_G) (hG : xw_ok G) (a1 : Int32) (w0 : xw_M) (r0 : Int32) (wz : xw_M) (hf : fX3_append a1 w0 = some (r0, wz)) : xw_Ti l G yX3_append cX3_append 2 ((Option.some Jvm.ClassFile.FieldType.int)) (0) (0) [.ref (xw_ad G 49), .int a1] w0 r0 wz := by
  unfold xw_Ti
  refine Met.ofW (cc := cX3_append) (maxL := 2) (ret := (Option.some Jvm.ClassFile.FieldType.int)) (by decide) rfl ?_
  intro p e s m args below meth c s₁ B hml hv
  obtain ⟨hargs, hP, hK, hE⟩ := hv
  have hx := B.exec
  have hb := B.bytes
  have hr := B.returns
  have hlk := B.notSynchronized
  have hB : CallFix p m c cX3_append 2 s args TB RX3 := ⟨hx, hb, hml, findClass_of_methodNamed B.named, fun q h => (atoms_spec (ws := Cond.code yX3_append cX3_append 2 ((Option.some Jvm.ClassFile.FieldType.int)) :: TB) B.pre) q (List.mem_cons_of_mem _ h)⟩
  have hS : va_S (xw_A G) s.heap s.heap [] := va_S.rf
  have hl := lv_entry [.ref (xw_ad G 49), .int a1] (n := 2) (Nat.le_of_ble_eq_true rfl)
  rw [show entryFrame m args 2 = entryFrame m ([.ref (xw_ad G 49), .int a1] : List Value).toArray 2 from by rw [hargs], lg_entry_eq]
  generalize (lg_sl [.ref (xw_ad G 49), .int a1] ++ List.replicate (2 - (lg_sl [.ref (xw_ad G 49), .int a1]).length) Slot.unset).toArray = ls at hl ⊢
  have hP : va_P (xw_D G) xw_cl (xw_W G w0) s.heap := hP
  have hl : lv_has ls 2 [(0, .ref (xw_ad G 49)), (1, .int a1)] := hl
  have HH : ∀ (H : Heap) (locs : List Loc) (hP : va_P (xw_D G) xw_cl (xw_W G w0) H) (hS : va_S (xw_A G) s.heap H locs), xw_Wi G p l e (xw_rm (0) (0)) s m args below meth c H locs r0 wz (F0 m 0 ls []) := by
    intro H locs hP hS
    unfold fX3_append at hf
    refine lv_aload_n hx hb dX3_append_0 rfl (lv_at hl 0 rfl) ?_
    refine xw_get hB hK hP (xw_o3 G) (C := RX3) (T := TX3) (N := 6) rfl TBi_X3 1 (by decide) tw_171 rfl rfl dX3_append_1 ?_
    refine lv_if_lt (tgt := 19) hx hb dX3_append_4 (by decide) (fun c1 => ?_) (fun c1 => ?_)
    · replace hf := xw_ip c1 hf
      refine lv_bipush (v := (-4)) hx hb dX3_append_19 (by decide) ?_
      obtain ⟨h0, h1⟩ := xw_s2 hf
      exact xw_iret hB hK hE hS hP hr hlk h0 h1 dX3_append_21
    · replace hf := xw_in' c1 hf
      refine lv_aload_n hx hb dX3_append_7 rfl (lv_at hl 0 rfl) ?_
      refine xw_get hB hK hP (xw_o3 G) (C := RX3) (T := TX3) (N := 6) rfl TBi_X3 1 (by decide) tw_171 rfl rfl dX3_append_8 ?_
      refine lv_aload_n hx hb dX3_append_11 rfl (lv_at hl 0 rfl) ?_
      refine xw_get hB hK hP (xw_o3 G) (C := RX3) (T := TX3) (N := 6) rfl TBi_X3 0 (by decide) tw_170 rfl rfl dX3_append_12 ?_
      refine xw_ilen hB hK hP (xw_k50 G) rfl dX3_append_15 ?_
      refine lv_icmp_lt (tgt := 22) hx hb dX3_append_16 (by decide) (fun c2 => ?_) (fun c2 => ?_)
      · replace hf := xw_ip c2 hf
        refine lv_aload_n hx hb dX3_append_22 rfl (lv_at hl 0 rfl) ?_
        refine xw_get hB hK hP (xw_o3 G) (C := RX3) (T := TX3) (N := 6) rfl TBi_X3 0 (by decide) tw_170 rfl rfl dX3_append_23 ?_
        refine lv_aload_n hx hb dX3_append_26 rfl (lv_at hl 0 rfl) ?_
        refine xw_get hB hK hP (xw_o3 G) (C := RX3) (T := TX3) (N := 6) rfl TBi_X3 1 (by decide) tw_171 rfl rfl dX3_append_27 ?_
        refine lv_iload_n hx hb dX3_append_30 rfl (lv_at hl 1 rfl) ?_
        refine lv_i2b hx hb dX3_append_31 rfl ?_
        replace hf := xw_ck_e hf
        obtain ⟨hi3, hf⟩ := hf
        refine xw_bst hG hB hK hS hP (xw_k50 G) hi3 dX3_append_32 (fun w4 ew4 H locs hP hS => ?_)
        replace hf := xw_lt_e ew4 hf
        refine lv_aload_n hx hb dX3_append_33 rfl (lv_at hl 0 rfl) ?_
        refine lv_dup hx hb dX3_append_34 rfl ?_
        refine xw_get hB hK hP (xw_o3 G) (C := RX3) (T := TX3) (N := 6) rfl TBi_X3 1 (by decide) tw_171 rfl rfl dX3_append_35 ?_
        refine lv_iconst (v := 1) hx hb dX3_append_38 (by decide) ?_
        refine lv_iadd hx hb dX3_append_39 ?_
        refine xw_put hG hB hK hS hP (x := (w4.1 49 1) + (1 : Int32)) (xw_o3 G) (C := RX3) (T := TX3) (N := 6) rfl TBi_X3 tyX3 tyX3_ok nmX3 1 (by decide) tw_171 rfl rfl rfl rfl rfl (Nat.le_of_ble_eq_true rfl) rfl dX3_append_40 (fun w5 ew5 H locs hP hS => ?_)
        replace hf := xw_lt_e ew5 hf
        refine lv_aload_n hx hb dX3_append_43 rfl (lv_at hl 0 rfl) ?_
        refine xw_get hB hK hP (xw_o3 G) (C := RX3) (T := TX3) (N := 6) rfl TBi_X3 1 (by decide) tw_171 rfl rfl dX3_append_44 ?_
        obtain ⟨h0, h1⟩ := xw_s2 hf
        exact xw_iret hB hK hE hS hP hr hlk h0 h1 dX3_append_47
      · replace hf := xw_in' c2 hf
        refine lv_bipush (v := (-4)) hx hb dX3_append_19 (by decide) ?_
        obtain ⟨h0, h1⟩ := xw_s2 hf
        exact xw_iret hB hK hE hS hP hr hlk h0 h1 dX3_append_21
  exact HH s.heap [] hP hS
def fX7_feed (a1 : Int32) (w0 : xw_M) : Option (Int32 × xw_M) := xw_bp (fX7_within a1 (127 : Int32)) (fun r1 => if r1 = 0 then some ((-2 : Int32), w0) else xw_b (fX3_append a1 w0) (fun r4 w5 => some (r4, w5)))
set_option maxHeartbeats 4000000 in
set_option maxRecDepth 100000 in
theorem kX7_feed (l : Launch) (G : xw_G) (hG : xw_ok G) (a1 : Int32) (w0 : xw_M) (r0 : Int32) (wz : xw_M) (hf : fX7_feed a1 w0 = some (r0, wz)) : xw_Ti l G yX7_feed cX7_feed 2 ((Option.some Jvm.ClassFile.FieldType.int)) (1) (21) [.ref (xw_ad G 0), .int a1] w0 r0 wz := by
  unfold xw_Ti
  refine Met.ofW (cc := cX7_feed) (maxL := 2) (ret := (Option.some Jvm.ClassFile.FieldType.int)) (by decide) rfl ?_
  intro p e s m args below meth c s₁ B hml hv
  obtain ⟨hargs, hP, hK, hE⟩ := hv
  have hx := B.exec
  have hb := B.bytes
  have hr := B.returns
  have hlk := B.notSynchronized
  have hB : CallFix p m c cX7_feed 2 s args TB RX7 := ⟨hx, hb, hml, findClass_of_methodNamed B.named, fun q h => (atoms_spec (ws := Cond.code yX7_feed cX7_feed 2 ((Option.some Jvm.ClassFile.FieldType.int)) :: TB) B.pre) q (List.mem_cons_of_mem _ h)⟩
  have hS : va_S (xw_A G) s.heap s.heap [] := va_S.rf
  have hl := lv_entry [.ref (xw_ad G 0), .int a1] (n := 2) (Nat.le_of_ble_eq_true rfl)
  rw [show entryFrame m args 2 = entryFrame m ([.ref (xw_ad G 0), .int a1] : List Value).toArray 2 from by rw [hargs], lg_entry_eq]
  generalize (lg_sl [.ref (xw_ad G 0), .int a1] ++ List.replicate (2 - (lg_sl [.ref (xw_ad G 0), .int a1]).length) Slot.unset).toArray = ls at hl ⊢
  have hP : va_P (xw_D G) xw_cl (xw_W G w0) s.heap := hP
  have hl : lv_has ls 2 [(0, .ref (xw_ad G 0)), (1, .int a1)] := hl
  have HH : ∀ (H : Heap) (locs : List Loc) (hP : va_P (xw_D G) xw_cl (xw_W G w0) H) (hS : va_S (xw_A G) s.heap H locs), xw_Wi G p l e (xw_rm (1) (21)) s m args below meth c H locs r0 wz (F0 m 0 ls []) := by
    intro H locs hP hS
    unfold fX7_feed at hf
    refine lv_iload_n hx hb dX7_feed_0 rfl (lv_at hl 1 rfl) ?_
    refine lv_bipush (v := 127) hx hb dX7_feed_1 (by decide) ?_
    replace hf := xw_bp_e hf
    obtain ⟨r1, he2, hf⟩ := hf
    refine xw_Si hB hK hE hS hP (As := [.int a1, .int (127 : Int32)]) (rest := []) (kX7_within l G hG a1 (127 : Int32) w0 _ he2) tw_293 tw_295 tw_294 tw_1 2 hs_X7_within ⟨Nat.le_of_ble_eq_true rfl, Nat.le_of_ble_eq_true rfl⟩ rfl hl.1 (Nat.le_of_ble_eq_true rfl) rfl dX7_feed_3 ⟨Nat.zero_le _, Nat.zero_le _⟩ (fun H locs hP hS => ?_)
    refine lv_if_eq (tgt := 20) hx hb dX7_feed_6 (by decide) (fun c3 => ?_) (fun c3 => ?_)
    · replace hf := xw_ip c3 hf
      refine lv_bipush (v := (-2)) hx hb dX7_feed_20 (by decide) ?_
      obtain ⟨h0, h1⟩ := xw_s2 hf
      exact xw_iret hB hK hE hS hP hr hlk h0 h1 dX7_feed_22
    · replace hf := xw_in' c3 hf
      refine lv_aload_n hx hb dX7_feed_9 rfl (lv_at hl 0 rfl) ?_
      refine xw_get hB hK hP (xw_o7 G) (C := RX7) (T := TX7) (N := 11) rfl TBi_X7 4 (by decide) tw_259 rfl rfl dX7_feed_10 ?_
      refine lv_iload_n hx hb dX7_feed_13 rfl (lv_at hl 1 rfl) ?_
      replace hf := xw_b_e hf
      obtain ⟨r4, w5, he6, hf⟩ := hf
      refine xw_Vi hB hK hE hS hP (As := [.int a1]) (rest := []) (kX3_append l G hG a1 w0 _ _ he6) gs_X7_148 (xw_rc hK hP (C := RX3) (T := TX3) (N := 6) (xw_o3 G) rfl) 1 hv_X3_append ⟨Nat.le_of_ble_eq_true rfl, Nat.le_of_ble_eq_true rfl⟩ rfl hl.1 (Nat.le_of_ble_eq_true rfl) rfl dX7_feed_14 ⟨Nat.zero_le _, Nat.zero_le _⟩ (fun H locs hP hS => ?_)
      refine lv_goto (tgt := 22) hx hb dX7_feed_17 (by decide) ?_
      obtain ⟨h0, h1⟩ := xw_s2 hf
      exact xw_iret hB hK hE hS hP hr hlk h0 h1 dX7_feed_22
  exact HH s.heap [] hP hS
def fX2_clear (b : Nat) (w0 : xw_M) : Option (Unit × xw_M) := xw_lt (xw_si w0 b 0 (2 : Int32)) (fun w1 => xw_lt (xw_si w1 b 1 (0 : Int32)) (fun w2 => xw_lt (xw_si w2 b 4 (0 : Int32)) (fun w3 => some ((), w3))))
set_option maxHeartbeats 4000000 in
set_option maxRecDepth 100000 in
theorem kX2_clear (l : Launch) (G : xw_G) (hG : xw_ok G) (b : Nat) (hb0 : xw_pa b) (w0 : xw_M) (r0 : Unit) (wz : xw_M) (hf : fX2_clear b w0 = some (r0, wz)) : xw_Tv l G yX2_clear cX2_clear 1 ((Option.none : Option Jvm.ClassFile.FieldType)) (0) (0) [.ref (xw_ad G b)] w0 r0 wz := by
  unfold xw_Tv
  refine Met.ofW (cc := cX2_clear) (maxL := 1) (ret := (Option.none : Option Jvm.ClassFile.FieldType)) (by decide) rfl ?_
  intro p e s m args below meth c s₁ B hml hv
  obtain ⟨hargs, hP, hK, hE⟩ := hv
  have hx := B.exec
  have hb := B.bytes
  have hr := B.returns
  have hlk := B.notSynchronized
  have hB : CallFix p m c cX2_clear 1 s args TB RX2 := ⟨hx, hb, hml, findClass_of_methodNamed B.named, fun q h => (atoms_spec (ws := Cond.code yX2_clear cX2_clear 1 ((Option.none : Option Jvm.ClassFile.FieldType)) :: TB) B.pre) q (List.mem_cons_of_mem _ h)⟩
  have hS : va_S (xw_A G) s.heap s.heap [] := va_S.rf
  have hl := lv_entry [.ref (xw_ad G b)] (n := 1) (Nat.le_of_ble_eq_true rfl)
  rw [show entryFrame m args 1 = entryFrame m ([.ref (xw_ad G b)] : List Value).toArray 1 from by rw [hargs], lg_entry_eq]
  generalize (lg_sl [.ref (xw_ad G b)] ++ List.replicate (1 - (lg_sl [.ref (xw_ad G b)]).length) Slot.unset).toArray = ls at hl ⊢
  have hP : va_P (xw_D G) xw_cl (xw_W G w0) s.heap := hP
  have hl : lv_has ls 1 [(0, .ref (xw_ad G b))] := hl
  have HH : ∀ (H : Heap) (locs : List Loc) (hP : va_P (xw_D G) xw_cl (xw_W G w0) H) (hS : va_S (xw_A G) s.heap H locs), xw_Wv G p l e (xw_rm (0) (0)) s m args below meth c H locs r0 wz (F0 m 0 ls []) := by
    intro H locs hP hS
    unfold fX2_clear at hf
    refine lv_aload_n hx hb dX2_clear_0 rfl (lv_at hl 0 rfl) ?_
    refine lv_iconst (v := 2) hx hb dX2_clear_1 (by decide) ?_
    refine xw_put hG hB hK hS hP (x := (2 : Int32)) (xw_o2 G hb0) (C := RX2) (T := TX2) (N := 8) rfl TBi_X2 tyX2 tyX2_ok nmX2 0 (by decide) tw_142 rfl rfl rfl rfl rfl (Nat.le_of_ble_eq_true rfl) rfl dX2_clear_2 (fun w1 ew1 H locs hP hS => ?_)
    replace hf := xw_lt_e ew1 hf
    refine lv_aload_n hx hb dX2_clear_5 rfl (lv_at hl 0 rfl) ?_
    refine lv_iconst (v := 0) hx hb dX2_clear_6 (by decide) ?_
    refine xw_put hG hB hK hS hP (x := (0 : Int32)) (xw_o2 G hb0) (C := RX2) (T := TX2) (N := 8) rfl TBi_X2 tyX2 tyX2_ok nmX2 1 (by decide) tw_145 rfl rfl rfl rfl rfl (Nat.le_of_ble_eq_true rfl) rfl dX2_clear_7 (fun w2 ew2 H locs hP hS => ?_)
    replace hf := xw_lt_e ew2 hf
    refine lv_aload_n hx hb dX2_clear_10 rfl (lv_at hl 0 rfl) ?_
    refine lv_iconst (v := 0) hx hb dX2_clear_11 (by decide) ?_
    refine xw_put hG hB hK hS hP (x := (0 : Int32)) (xw_o2 G hb0) (C := RX2) (T := TX2) (N := 8) rfl TBi_X2 tyX2 tyX2_ok nmX2 4 (by decide) tw_148 rfl rfl rfl rfl rfl (Nat.le_of_ble_eq_true rfl) rfl dX2_clear_12 (fun w3 ew3 H locs hP hS => ?_)
    replace hf := xw_lt_e ew3 hf
    obtain ⟨h0, h1⟩ := xw_s2 hf
    exact xw_vret hB hK hE hS hP hr hlk h1 dX2_clear_15
  exact HH s.heap [] hP hS
def fX3_advance_54 (v1 : Int32) (w : xw_M) : Option (Unit × xw_M) := xw_lt (xw_si w 49 3 v1) (fun w6 => some ((), w6))
def fX3_advance_53 (w : xw_M) : Option (Unit × xw_M) := fX3_advance_54 (-1 : Int32) w
def fX3_advance (w0 : xw_M) : Option (Unit × xw_M) := xw_lt (xw_si w0 49 2 ((w0.1 49 2) + (1 : Int32))) (fun w1 => if (w1.1 49 2) < 0 then fX3_advance_53 w1 else if (w1.1 49 1) ≤ (w1.1 49 2) then fX3_advance_53 w1 else if (nI 100) ≤ (w1.1 49 2) then fX3_advance_53 w1 else xw_ck (w1.1 49 2) 100 (fX3_advance_54 (w1.1 50 (w1.1 49 2).toNatClampNeg) w1))
set_option maxHeartbeats 4000000 in
set_option maxRecDepth 100000 in
theorem kX3_advance (l : Launch) (G : xw_G) (hG : xw_ok G) (w0 : xw_M) (r0 : Unit) (wz : xw_M) (hf : fX3_advance w0 = some (r0, wz)) : xw_Tv l G yX3_advance cX3_advance 1 ((Option.none : Option Jvm.ClassFile.FieldType)) (0) (0) [.ref (xw_ad G 49)] w0 r0 wz := by
  unfold xw_Tv
  refine Met.ofW (cc := cX3_advance) (maxL := 1) (ret := (Option.none : Option Jvm.ClassFile.FieldType)) (by decide) rfl ?_
  intro p e s m args below meth c s₁ B hml hv
  obtain ⟨hargs, hP, hK, hE⟩ := hv
  have hx := B.exec
  have hb := B.bytes
  have hr := B.returns
  have hlk := B.notSynchronized
  have hB : CallFix p m c cX3_advance 1 s args TB RX3 := ⟨hx, hb, hml, findClass_of_methodNamed B.named, fun q h => (atoms_spec (ws := Cond.code yX3_advance cX3_advance 1 ((Option.none : Option Jvm.ClassFile.FieldType)) :: TB) B.pre) q (List.mem_cons_of_mem _ h)⟩
  have hS : va_S (xw_A G) s.heap s.heap [] := va_S.rf
  have hl := lv_entry [.ref (xw_ad G 49)] (n := 1) (Nat.le_of_ble_eq_true rfl)
  rw [show entryFrame m args 1 = entryFrame m ([.ref (xw_ad G 49)] : List Value).toArray 1 from by rw [hargs], lg_entry_eq]
  generalize (lg_sl [.ref (xw_ad G 49)] ++ List.replicate (1 - (lg_sl [.ref (xw_ad G 49)]).length) Slot.unset).toArray = ls at hl ⊢
  have hP : va_P (xw_D G) xw_cl (xw_W G w0) s.heap := hP
  have hl : lv_has ls 1 [(0, .ref (xw_ad G 49))] := hl
  have HH : ∀ (H : Heap) (locs : List Loc) (hP : va_P (xw_D G) xw_cl (xw_W G w0) H) (hS : va_S (xw_A G) s.heap H locs), xw_Wv G p l e (xw_rm (0) (0)) s m args below meth c H locs r0 wz (F0 m 0 ls []) := by
    intro H locs hP hS
    unfold fX3_advance at hf
    have J54 : ∀ (v1 : Int32) (w : xw_M) (hf : fX3_advance_54 v1 w = some (r0, wz)) (H : Heap) (locs : List Loc) (ls : Array Slot) (hP : va_P (xw_D G) xw_cl (xw_W G w) H) (hS : va_S (xw_A G) s.heap H locs) (hl : lv_has ls 1 []), xw_Wv G p l e (xw_rm (0) (0)) s m args below meth c H locs r0 wz (F0 m 54 ls [.int v1, .ref (xw_ad G 49)]) := by
      intro v1 w hf H locs ls hP hS hl
      unfold fX3_advance_54 at hf
      refine xw_put hG hB hK hS hP (x := v1) (xw_o3 G) (C := RX3) (T := TX3) (N := 6) rfl TBi_X3 tyX3 tyX3_ok nmX3 3 (by decide) tw_175 rfl rfl rfl rfl rfl (Nat.le_of_ble_eq_true rfl) rfl dX3_advance_54 (fun w6 ew6 H locs hP hS => ?_)
      replace hf := xw_lt_e ew6 hf
      obtain ⟨h0, h1⟩ := xw_s2 hf
      exact xw_vret hB hK hE hS hP hr hlk h1 dX3_advance_57
    have J53 : ∀ (w : xw_M) (hf : fX3_advance_53 w = some (r0, wz)) (H : Heap) (locs : List Loc) (ls : Array Slot) (hP : va_P (xw_D G) xw_cl (xw_W G w) H) (hS : va_S (xw_A G) s.heap H locs) (hl : lv_has ls 1 []), xw_Wv G p l e (xw_rm (0) (0)) s m args below meth c H locs r0 wz (F0 m 53 ls [.ref (xw_ad G 49)]) := by
      intro w hf H locs ls hP hS hl
      unfold fX3_advance_53 at hf
      refine lv_iconst (v := (-1)) hx hb dX3_advance_53 (by decide) ?_
      exact J54 (-1 : Int32) w hf H locs ls hP hS (lv_sub hl [] rfl)
    refine lv_aload_n hx hb dX3_advance_0 rfl (lv_at hl 0 rfl) ?_
    refine lv_dup hx hb dX3_advance_1 rfl ?_
    refine xw_get hB hK hP (xw_o3 G) (C := RX3) (T := TX3) (N := 6) rfl TBi_X3 2 (by decide) tw_173 rfl rfl dX3_advance_2 ?_
    refine lv_iconst (v := 1) hx hb dX3_advance_5 (by decide) ?_
    refine lv_iadd hx hb dX3_advance_6 ?_
    refine xw_put hG hB hK hS hP (x := (w0.1 49 2) + (1 : Int32)) (xw_o3 G) (C := RX3) (T := TX3) (N := 6) rfl TBi_X3 tyX3 tyX3_ok nmX3 2 (by decide) tw_173 rfl rfl rfl rfl rfl (Nat.le_of_ble_eq_true rfl) rfl dX3_advance_7 (fun w1 ew1 H locs hP hS => ?_)
    replace hf := xw_lt_e ew1 hf
    refine lv_aload_n hx hb dX3_advance_10 rfl (lv_at hl 0 rfl) ?_
    refine lv_aload_n hx hb dX3_advance_11 rfl (lv_at hl 0 rfl) ?_
    refine xw_get hB hK hP (xw_o3 G) (C := RX3) (T := TX3) (N := 6) rfl TBi_X3 2 (by decide) tw_173 rfl rfl dX3_advance_12 ?_
    refine lv_if_lt (tgt := 53) hx hb dX3_advance_15 (by decide) (fun c2 => ?_) (fun c2 => ?_)
    · replace hf := xw_ip c2 hf
      exact J53 w1 hf H locs ls hP hS (lv_sub hl [] rfl)
    · replace hf := xw_in' c2 hf
      refine lv_aload_n hx hb dX3_advance_18 rfl (lv_at hl 0 rfl) ?_
      refine xw_get hB hK hP (xw_o3 G) (C := RX3) (T := TX3) (N := 6) rfl TBi_X3 2 (by decide) tw_173 rfl rfl dX3_advance_19 ?_
      refine lv_aload_n hx hb dX3_advance_22 rfl (lv_at hl 0 rfl) ?_
      refine xw_get hB hK hP (xw_o3 G) (C := RX3) (T := TX3) (N := 6) rfl TBi_X3 1 (by decide) tw_171 rfl rfl dX3_advance_23 ?_
      refine lv_icmp_ge (tgt := 53) hx hb dX3_advance_26 (by decide) (fun c3 => ?_) (fun c3 => ?_)
      · replace hf := xw_ip c3 hf
        exact J53 w1 hf H locs ls hP hS (lv_sub hl [] rfl)
      · replace hf := xw_in' c3 hf
        refine lv_aload_n hx hb dX3_advance_29 rfl (lv_at hl 0 rfl) ?_
        refine xw_get hB hK hP (xw_o3 G) (C := RX3) (T := TX3) (N := 6) rfl TBi_X3 2 (by decide) tw_173 rfl rfl dX3_advance_30 ?_
        refine lv_aload_n hx hb dX3_advance_33 rfl (lv_at hl 0 rfl) ?_
        refine xw_get hB hK hP (xw_o3 G) (C := RX3) (T := TX3) (N := 6) rfl TBi_X3 0 (by decide) tw_170 rfl rfl dX3_advance_34 ?_
        refine xw_ilen hB hK hP (xw_k50 G) rfl dX3_advance_37 ?_
        refine lv_icmp_ge (tgt := 53) hx hb dX3_advance_38 (by decide) (fun c4 => ?_) (fun c4 => ?_)
        · replace hf := xw_ip c4 hf
          exact J53 w1 hf H locs ls hP hS (lv_sub hl [] rfl)
        · replace hf := xw_in' c4 hf
          refine lv_aload_n hx hb dX3_advance_41 rfl (lv_at hl 0 rfl) ?_
          refine xw_get hB hK hP (xw_o3 G) (C := RX3) (T := TX3) (N := 6) rfl TBi_X3 0 (by decide) tw_170 rfl rfl dX3_advance_42 ?_
          refine lv_aload_n hx hb dX3_advance_45 rfl (lv_at hl 0 rfl) ?_
          refine xw_get hB hK hP (xw_o3 G) (C := RX3) (T := TX3) (N := 6) rfl TBi_X3 2 (by decide) tw_173 rfl rfl dX3_advance_46 ?_
          replace hf := xw_ck_e hf
          obtain ⟨hi5, hf⟩ := hf
          refine xw_bld hB hK hP (xw_k50 G) hi5 dX3_advance_49 ?_
          refine lv_goto (tgt := 54) hx hb dX3_advance_50 (by decide) ?_
          exact J54 (w1.1 50 (w1.1 49 2).toNatClampNeg) w1 hf H locs ls hP hS (lv_sub hl [] rfl)
  exact HH s.heap [] hP hS
def fJ0_coder_7d493 (k0 : Nat) : Option Int32 := if (1 : Int32) = 0 then some (1 : Int32) else some (0 : Int32)
set_option maxHeartbeats 4000000 in
set_option maxRecDepth 100000 in
theorem kJ0_coder_7d493 (l : Launch) (G : xw_G) (hG : xw_ok G) (k0 : Nat) (hk0 : k0 < 5) (w0 : xw_M) (r0 : Int32) (hf : fJ0_coder_7d493 k0 = some r0) : xw_Ti l G yJ0_coder_7d493 cJ0_coder_7d493 1 ((Option.some Jvm.ClassFile.FieldType.byte)) (0) (0) [.ref (xw_sa G (10 + k0))] w0 r0 w0 := by
  unfold xw_Ti
  refine Met.ofW (cc := cJ0_coder_7d493) (maxL := 1) (ret := (Option.some Jvm.ClassFile.FieldType.byte)) (by decide) rfl ?_
  intro p e s m args below meth c s₁ B hml hv
  obtain ⟨hargs, hP, hK, hE⟩ := hv
  have hx := B.exec
  have hb := B.bytes
  have hr := B.returns
  have hlk := B.notSynchronized
  have hB : CallFix p m c cJ0_coder_7d493 1 s args TB RJ0 := ⟨hx, hb, hml, findClass_of_methodNamed B.named, fun q h => (atoms_spec (ws := Cond.code yJ0_coder_7d493 cJ0_coder_7d493 1 ((Option.some Jvm.ClassFile.FieldType.byte)) :: TB) B.pre) q (List.mem_cons_of_mem _ h)⟩
  have hS : va_S (xw_A G) s.heap s.heap [] := va_S.rf
  have hl := lv_entry [.ref (xw_sa G (10 + k0))] (n := 1) (Nat.le_of_ble_eq_true rfl)
  rw [show entryFrame m args 1 = entryFrame m ([.ref (xw_sa G (10 + k0))] : List Value).toArray 1 from by rw [hargs], lg_entry_eq]
  generalize (lg_sl [.ref (xw_sa G (10 + k0))] ++ List.replicate (1 - (lg_sl [.ref (xw_sa G (10 + k0))]).length) Slot.unset).toArray = ls at hl ⊢
  have hP : va_P (xw_D G) xw_cl (xw_W G w0) s.heap := hP
  have hl : lv_has ls 1 [(0, .ref (xw_sa G (10 + k0)))] := hl
  have HH : ∀ (H : Heap) (locs : List Loc) (hP : va_P (xw_D G) xw_cl (xw_W G w0) H) (hS : va_S (xw_A G) s.heap H locs), xw_Wi G p l e (xw_rm (0) (0)) s m args below meth c H locs r0 w0 (F0 m 0 ls []) := by
    intro H locs hP hS
    unfold fJ0_coder_7d493 at hf
    refine xw_gs hB hS (C := "java/lang/String") (n := "COMPACT_STRINGS") (d := "Z") hE.2.1.2.2.2.2.2.1 tw_439 rfl dJ0_coder_7d493_0 ?_
    refine lv_if_eq (tgt := 13) hx hb dJ0_coder_7d493_3 (by decide) (fun c1 => ?_) (fun c1 => ?_)
    · replace hf := xw_ip c1 hf
      refine lv_iconst (v := 1) hx hb dJ0_coder_7d493_13 (by decide) ?_
      have h0 := xw_so hf
      have h1 : w0 = w0 := rfl
      exact xw_zret hB hK hE hS hP hr hlk rfl h0 h1 dJ0_coder_7d493_14
    · replace hf := xw_in' c1 hf
      refine lv_aload_n hx hb dJ0_coder_7d493_6 rfl (lv_at hl 0 rfl) ?_
      refine vk_getf hx hb (xw_sS hk0 hE.2.1).2.1 hS hB.2.2.2.1 (hB.2.2.2.2 _ tw_1092) (fun _ h => h) dJ0_coder_7d493_7 ?_
      refine lv_goto (tgt := 14) hx hb dJ0_coder_7d493_10 (by decide) ?_
      have h0 := xw_so hf
      have h1 : w0 = w0 := rfl
      exact xw_zret hB hK hE hS hP hr hlk rfl h0 h1 dJ0_coder_7d493_14
  exact HH s.heap [] hP hS
def fJ0_length_8abf5 (k0 : Nat) : Option Int32 := xw_bp (fJ0_coder_7d493 k0) (fun r1 => some ((nI (xw_slen.getD k0 0)) >>> (r1 &&& 31)))
set_option maxHeartbeats 4000000 in
set_option maxRecDepth 100000 in
theorem kJ0_length_8abf5 (l : Launch) (G : xw_G) (hG : xw_ok G) (k0 : Nat) (hk0 : k0 < 5) (w0 : xw_M) (r0 : Int32) (hf : fJ0_length_8abf5 k0 = some r0) : xw_Ti l G yJ0_length_8abf5 cJ0_length_8abf5 1 ((Option.some Jvm.ClassFile.FieldType.int)) (1) (20) [.ref (xw_sa G (10 + k0))] w0 r0 w0 := by
  unfold xw_Ti
  refine Met.ofW (cc := cJ0_length_8abf5) (maxL := 1) (ret := (Option.some Jvm.ClassFile.FieldType.int)) (by decide) rfl ?_
  intro p e s m args below meth c s₁ B hml hv
  obtain ⟨hargs, hP, hK, hE⟩ := hv
  have hx := B.exec
  have hb := B.bytes
  have hr := B.returns
  have hlk := B.notSynchronized
  have hB : CallFix p m c cJ0_length_8abf5 1 s args TB RJ0 := ⟨hx, hb, hml, findClass_of_methodNamed B.named, fun q h => (atoms_spec (ws := Cond.code yJ0_length_8abf5 cJ0_length_8abf5 1 ((Option.some Jvm.ClassFile.FieldType.int)) :: TB) B.pre) q (List.mem_cons_of_mem _ h)⟩
  have hS : va_S (xw_A G) s.heap s.heap [] := va_S.rf
  have hl := lv_entry [.ref (xw_sa G (10 + k0))] (n := 1) (Nat.le_of_ble_eq_true rfl)
  rw [show entryFrame m args 1 = entryFrame m ([.ref (xw_sa G (10 + k0))] : List Value).toArray 1 from by rw [hargs], lg_entry_eq]
  generalize (lg_sl [.ref (xw_sa G (10 + k0))] ++ List.replicate (1 - (lg_sl [.ref (xw_sa G (10 + k0))]).length) Slot.unset).toArray = ls at hl ⊢
  have hP : va_P (xw_D G) xw_cl (xw_W G w0) s.heap := hP
  have hl : lv_has ls 1 [(0, .ref (xw_sa G (10 + k0)))] := hl
  have HH : ∀ (H : Heap) (locs : List Loc) (hP : va_P (xw_D G) xw_cl (xw_W G w0) H) (hS : va_S (xw_A G) s.heap H locs), xw_Wi G p l e (xw_rm (1) (20)) s m args below meth c H locs r0 w0 (F0 m 0 ls []) := by
    intro H locs hP hS
    unfold fJ0_length_8abf5 at hf
    refine lv_aload_n hx hb dJ0_length_8abf5_0 rfl (lv_at hl 0 rfl) ?_
    refine vk_getf hx hb (xw_sS hk0 hE.2.1).2.2.1 hS hB.2.2.2.1 (hB.2.2.2.2 _ tw_1091) (fun _ h => h) dJ0_length_8abf5_1 ?_
    refine va_tlen hx hb (xw_sS hk0 hE.2.1).2.2.2 hS rfl dJ0_length_8abf5_4 ?_
    refine lv_aload_n hx hb dJ0_length_8abf5_5 rfl (lv_at hl 0 rfl) ?_
    replace hf := xw_bp_e hf
    obtain ⟨r1, he2, hf⟩ := hf
    refine xw_Vi hB hK hE hS hP (As := []) (rest := [.int (nI (xw_slen.getD k0 0))]) (kJ0_coder_7d493 l G hG k0 hk0 w0 _ he2) gs_J0_335 (vk_recv (adK := fun i => xw_sa G (10 + i)) (i := k0) hE.2.1.2.2.2.2.1 hk0 hS) 0 hv_J0_coder_7d493 ⟨Nat.le_of_ble_eq_true rfl, Nat.le_of_ble_eq_true rfl⟩ rfl hl.1 (Nat.le_of_ble_eq_true rfl) rfl dJ0_length_8abf5_6 ⟨Nat.zero_le _, Nat.zero_le _⟩ (fun H locs hP hS => ?_)
    refine lv_ishr hx hb dJ0_length_8abf5_9 ?_
    have h0 := xw_so hf
    have h1 : w0 = w0 := rfl
    exact xw_iret hB hK hE hS hP hr hlk h0 h1 dJ0_length_8abf5_10
  exact HH s.heap [] hP hS
def fJ0_isLatin1_aae02 (k0 : Nat) : Option Int32 := if (1 : Int32) = 0 then some (0 : Int32) else if (0 : Int32) = 0 then some (1 : Int32) else some (0 : Int32)
set_option maxHeartbeats 4000000 in
set_option maxRecDepth 100000 in
theorem kJ0_isLatin1_aae02 (l : Launch) (G : xw_G) (hG : xw_ok G) (k0 : Nat) (hk0 : k0 < 5) (w0 : xw_M) (r0 : Int32) (hf : fJ0_isLatin1_aae02 k0 = some r0) : xw_Ti l G yJ0_isLatin1_aae02 cJ0_isLatin1_aae02 1 ((Option.some Jvm.ClassFile.FieldType.boolean)) (0) (0) [.ref (xw_sa G (10 + k0))] w0 r0 w0 := by
  unfold xw_Ti
  refine Met.ofW (cc := cJ0_isLatin1_aae02) (maxL := 1) (ret := (Option.some Jvm.ClassFile.FieldType.boolean)) (by decide) rfl ?_
  intro p e s m args below meth c s₁ B hml hv
  obtain ⟨hargs, hP, hK, hE⟩ := hv
  have hx := B.exec
  have hb := B.bytes
  have hr := B.returns
  have hlk := B.notSynchronized
  have hB : CallFix p m c cJ0_isLatin1_aae02 1 s args TB RJ0 := ⟨hx, hb, hml, findClass_of_methodNamed B.named, fun q h => (atoms_spec (ws := Cond.code yJ0_isLatin1_aae02 cJ0_isLatin1_aae02 1 ((Option.some Jvm.ClassFile.FieldType.boolean)) :: TB) B.pre) q (List.mem_cons_of_mem _ h)⟩
  have hS : va_S (xw_A G) s.heap s.heap [] := va_S.rf
  have hl := lv_entry [.ref (xw_sa G (10 + k0))] (n := 1) (Nat.le_of_ble_eq_true rfl)
  rw [show entryFrame m args 1 = entryFrame m ([.ref (xw_sa G (10 + k0))] : List Value).toArray 1 from by rw [hargs], lg_entry_eq]
  generalize (lg_sl [.ref (xw_sa G (10 + k0))] ++ List.replicate (1 - (lg_sl [.ref (xw_sa G (10 + k0))]).length) Slot.unset).toArray = ls at hl ⊢
  have hP : va_P (xw_D G) xw_cl (xw_W G w0) s.heap := hP
  have hl : lv_has ls 1 [(0, .ref (xw_sa G (10 + k0)))] := hl
  have HH : ∀ (H : Heap) (locs : List Loc) (hP : va_P (xw_D G) xw_cl (xw_W G w0) H) (hS : va_S (xw_A G) s.heap H locs), xw_Wi G p l e (xw_rm (0) (0)) s m args below meth c H locs r0 w0 (F0 m 0 ls []) := by
    intro H locs hP hS
    unfold fJ0_isLatin1_aae02 at hf
    refine xw_gs hB hS (C := "java/lang/String") (n := "COMPACT_STRINGS") (d := "Z") hE.2.1.2.2.2.2.2.1 tw_439 rfl dJ0_isLatin1_aae02_0 ?_
    refine lv_if_eq (tgt := 17) hx hb dJ0_isLatin1_aae02_3 (by decide) (fun c1 => ?_) (fun c1 => ?_)
    · replace hf := xw_ip c1 hf
      refine lv_iconst (v := 0) hx hb dJ0_isLatin1_aae02_17 (by decide) ?_
      have h0 := xw_so hf
      have h1 : w0 = w0 := rfl
      exact xw_zret hB hK hE hS hP hr hlk rfl h0 h1 dJ0_isLatin1_aae02_18
    · replace hf := xw_in' c1 hf
      refine lv_aload_n hx hb dJ0_isLatin1_aae02_6 rfl (lv_at hl 0 rfl) ?_
      refine vk_getf hx hb (xw_sS hk0 hE.2.1).2.1 hS hB.2.2.2.1 (hB.2.2.2.2 _ tw_1092) (fun _ h => h) dJ0_isLatin1_aae02_7 ?_
      refine lv_if_ne (tgt := 17) hx hb dJ0_isLatin1_aae02_10 (by decide) (fun c2 => ?_) (fun c2 => ?_)
      · replace hf := xw_in' c2 hf
        refine lv_iconst (v := 0) hx hb dJ0_isLatin1_aae02_17 (by decide) ?_
        have h0 := xw_so hf
        have h1 : w0 = w0 := rfl
        exact xw_zret hB hK hE hS hP hr hlk rfl h0 h1 dJ0_isLatin1_aae02_18
      · replace hf := xw_ip c2 hf
        refine lv_iconst (v := 1) hx hb dJ0_isLatin1_aae02_13 (by decide) ?_
        refine lv_goto (tgt := 18) hx hb dJ0_isLatin1_aae02_14 (by decide) ?_
        have h0 := xw_so hf
        have h1 : w0 = w0 := rfl
        exact xw_zret hB hK hE hS hP hr hlk rfl h0 h1 dJ0_isLatin1_aae02_18
  exact HH s.heap [] hP hS
def fJ3_checkIndex_8e157 (a0 : Int32) (a1 : Int32) : Option Int32 := if a0 < 0 then none else if a0 < a1 then some a0 else none
set_option maxHeartbeats 4000000 in
set_option maxRecDepth 100000 in
theorem kJ3_checkIndex_8e157 (l : Launch) (G : xw_G) (hG : xw_ok G) (a0 : Int32) (a1 : Int32) (z2 : Value) (hz2 : z2 = .null ∨ ∃ t, z2 = .ref t) (w0 : xw_M) (r0 : Int32) (hf : fJ3_checkIndex_8e157 a0 a1 = some r0) : xw_Ti l G yJ3_checkIndex_8e157 cJ3_checkIndex_8e157 3 ((Option.some Jvm.ClassFile.FieldType.int)) (0) (0) [.int a0, .int a1, z2] w0 r0 w0 := by
  rcases hz2 with rfl | ⟨zt, rfl⟩
  · unfold xw_Ti
    refine Met.ofW (cc := cJ3_checkIndex_8e157) (maxL := 3) (ret := (Option.some Jvm.ClassFile.FieldType.int)) (by decide) rfl ?_
    intro p e s m args below meth c s₁ B hml hv
    obtain ⟨hargs, hP, hK, hE⟩ := hv
    have hx := B.exec
    have hb := B.bytes
    have hr := B.returns
    have hlk := B.notSynchronized
    have hB : CallFix p m c cJ3_checkIndex_8e157 3 s args TB RJ3 := ⟨hx, hb, hml, findClass_of_methodNamed B.named, fun q h => (atoms_spec (ws := Cond.code yJ3_checkIndex_8e157 cJ3_checkIndex_8e157 3 ((Option.some Jvm.ClassFile.FieldType.int)) :: TB) B.pre) q (List.mem_cons_of_mem _ h)⟩
    have hS : va_S (xw_A G) s.heap s.heap [] := va_S.rf
    have hl := lv_entry [.int a0, .int a1, .null] (n := 3) (Nat.le_of_ble_eq_true rfl)
    rw [show entryFrame m args 3 = entryFrame m ([.int a0, .int a1, .null] : List Value).toArray 3 from by rw [hargs], lg_entry_eq]
    generalize (lg_sl [.int a0, .int a1, .null] ++ List.replicate (3 - (lg_sl [.int a0, .int a1, .null]).length) Slot.unset).toArray = ls at hl ⊢
    have hP : va_P (xw_D G) xw_cl (xw_W G w0) s.heap := hP
    have hl : lv_has ls 3 [(0, .int a0), (1, .int a1)] := lv_sub hl [0, 1] rfl
    have HH : ∀ (H : Heap) (locs : List Loc) (hP : va_P (xw_D G) xw_cl (xw_W G w0) H) (hS : va_S (xw_A G) s.heap H locs), xw_Wi G p l e (xw_rm (0) (0)) s m args below meth c H locs r0 w0 (F0 m 0 ls []) := by
      intro H locs hP hS
      unfold fJ3_checkIndex_8e157 at hf
      refine lv_iload_n hx hb dJ3_checkIndex_8e157_0 rfl (lv_at hl 0 rfl) ?_
      refine lv_if_lt (tgt := 9) hx hb dJ3_checkIndex_8e157_1 (by decide) (fun c1 => ?_) (fun c1 => ?_)
      · replace hf := xw_ip c1 hf
        cases hf
      · replace hf := xw_in' c1 hf
        refine lv_iload_n hx hb dJ3_checkIndex_8e157_4 rfl (lv_at hl 0 rfl) ?_
        refine lv_iload_n hx hb dJ3_checkIndex_8e157_5 rfl (lv_at hl 1 rfl) ?_
        refine lv_icmp_lt (tgt := 16) hx hb dJ3_checkIndex_8e157_6 (by decide) (fun c2 => ?_) (fun c2 => ?_)
        · replace hf := xw_ip c2 hf
          refine lv_iload_n hx hb dJ3_checkIndex_8e157_16 rfl (lv_at hl 0 rfl) ?_
          have h0 := xw_so hf
          have h1 : w0 = w0 := rfl
          exact xw_iret hB hK hE hS hP hr hlk h0 h1 dJ3_checkIndex_8e157_17
        · replace hf := xw_in' c2 hf
          cases hf
    exact HH s.heap [] hP hS
  · unfold xw_Ti
    refine Met.ofW (cc := cJ3_checkIndex_8e157) (maxL := 3) (ret := (Option.some Jvm.ClassFile.FieldType.int)) (by decide) rfl ?_
    intro p e s m args below meth c s₁ B hml hv
    obtain ⟨hargs, hP, hK, hE⟩ := hv
    have hx := B.exec
    have hb := B.bytes
    have hr := B.returns
    have hlk := B.notSynchronized
    have hB : CallFix p m c cJ3_checkIndex_8e157 3 s args TB RJ3 := ⟨hx, hb, hml, findClass_of_methodNamed B.named, fun q h => (atoms_spec (ws := Cond.code yJ3_checkIndex_8e157 cJ3_checkIndex_8e157 3 ((Option.some Jvm.ClassFile.FieldType.int)) :: TB) B.pre) q (List.mem_cons_of_mem _ h)⟩
    have hS : va_S (xw_A G) s.heap s.heap [] := va_S.rf
    have hl := lv_entry [.int a0, .int a1, .ref zt] (n := 3) (Nat.le_of_ble_eq_true rfl)
    rw [show entryFrame m args 3 = entryFrame m ([.int a0, .int a1, .ref zt] : List Value).toArray 3 from by rw [hargs], lg_entry_eq]
    generalize (lg_sl [.int a0, .int a1, .ref zt] ++ List.replicate (3 - (lg_sl [.int a0, .int a1, .ref zt]).length) Slot.unset).toArray = ls at hl ⊢
    have hP : va_P (xw_D G) xw_cl (xw_W G w0) s.heap := hP
    have hl : lv_has ls 3 [(0, .int a0), (1, .int a1)] := lv_sub hl [0, 1] rfl
    have HH : ∀ (H : Heap) (locs : List Loc) (hP : va_P (xw_D G) xw_cl (xw_W G w0) H) (hS : va_S (xw_A G) s.heap H locs), xw_Wi G p l e (xw_rm (0) (0)) s m args below meth c H locs r0 w0 (F0 m 0 ls []) := by
      intro H locs hP hS
      unfold fJ3_checkIndex_8e157 at hf
      refine lv_iload_n hx hb dJ3_checkIndex_8e157_0 rfl (lv_at hl 0 rfl) ?_
      refine lv_if_lt (tgt := 9) hx hb dJ3_checkIndex_8e157_1 (by decide) (fun c1 => ?_) (fun c1 => ?_)
      · replace hf := xw_ip c1 hf
        cases hf
      · replace hf := xw_in' c1 hf
        refine lv_iload_n hx hb dJ3_checkIndex_8e157_4 rfl (lv_at hl 0 rfl) ?_
        refine lv_iload_n hx hb dJ3_checkIndex_8e157_5 rfl (lv_at hl 1 rfl) ?_
        refine lv_icmp_lt (tgt := 16) hx hb dJ3_checkIndex_8e157_6 (by decide) (fun c2 => ?_) (fun c2 => ?_)
        · replace hf := xw_ip c2 hf
          refine lv_iload_n hx hb dJ3_checkIndex_8e157_16 rfl (lv_at hl 0 rfl) ?_
          have h0 := xw_so hf
          have h1 : w0 = w0 := rfl
          exact xw_iret hB hK hE hS hP hr hlk h0 h1 dJ3_checkIndex_8e157_17
        · replace hf := xw_in' c2 hf
          cases hf
    exact HH s.heap [] hP hS
def fJ0_checkIndex_df160 (a0 : Int32) (a1 : Int32) : Option Unit := xw_bp (fJ3_checkIndex_8e157 a0 a1) (fun r2 => some ())
set_option maxHeartbeats 4000000 in
set_option maxRecDepth 100000 in
theorem kJ0_checkIndex_df160 (l : Launch) (G : xw_G) (hG : xw_ok G) (a0 : Int32) (a1 : Int32) (w0 : xw_M) (r0 : Unit) (hf : fJ0_checkIndex_df160 a0 a1 = some r0) : xw_Tv l G yJ0_checkIndex_df160 cJ0_checkIndex_df160 2 ((Option.none : Option Jvm.ClassFile.FieldType)) (1) (22) [.int a0, .int a1] w0 r0 w0 := by
  unfold xw_Tv
  refine Met.ofW (cc := cJ0_checkIndex_df160) (maxL := 2) (ret := (Option.none : Option Jvm.ClassFile.FieldType)) (by decide) rfl ?_
  intro p e s m args below meth c s₁ B hml hv
  obtain ⟨hargs, hP, hK, hE⟩ := hv
  have hx := B.exec
  have hb := B.bytes
  have hr := B.returns
  have hlk := B.notSynchronized
  have hB : CallFix p m c cJ0_checkIndex_df160 2 s args TB RJ0 := ⟨hx, hb, hml, findClass_of_methodNamed B.named, fun q h => (atoms_spec (ws := Cond.code yJ0_checkIndex_df160 cJ0_checkIndex_df160 2 ((Option.none : Option Jvm.ClassFile.FieldType)) :: TB) B.pre) q (List.mem_cons_of_mem _ h)⟩
  have hS : va_S (xw_A G) s.heap s.heap [] := va_S.rf
  have hl := lv_entry [.int a0, .int a1] (n := 2) (Nat.le_of_ble_eq_true rfl)
  rw [show entryFrame m args 2 = entryFrame m ([.int a0, .int a1] : List Value).toArray 2 from by rw [hargs], lg_entry_eq]
  generalize (lg_sl [.int a0, .int a1] ++ List.replicate (2 - (lg_sl [.int a0, .int a1]).length) Slot.unset).toArray = ls at hl ⊢
  have hP : va_P (xw_D G) xw_cl (xw_W G w0) s.heap := hP
  have hl : lv_has ls 2 [(0, .int a0), (1, .int a1)] := hl
  have HH : ∀ (H : Heap) (locs : List Loc) (hP : va_P (xw_D G) xw_cl (xw_W G w0) H) (hS : va_S (xw_A G) s.heap H locs), xw_Wv G p l e (xw_rm (1) (22)) s m args below meth c H locs r0 w0 (F0 m 0 ls []) := by
    intro H locs hP hS
    unfold fJ0_checkIndex_df160 at hf
    refine lv_iload_n hx hb dJ0_checkIndex_df160_0 rfl (lv_at hl 0 rfl) ?_
    refine lv_iload_n hx hb dJ0_checkIndex_df160_1 rfl (lv_at hl 1 rfl) ?_
    refine xw_gsq hB hS (C := "jdk/internal/util/Preconditions") (n := "SIOOBE_FORMATTER") (d := "Ljava/util/function/BiFunction;") hE.2.1.2.2.2.2.2.2 tw_455 rfl dJ0_checkIndex_df160_2 (fun z1 hz1 => ?_)
    replace hf := xw_bp_e hf
    obtain ⟨r2, he3, hf⟩ := hf
    refine xw_Si hB hK hE hS hP (As := [.int a0, .int a1, z1]) (rest := []) (kJ3_checkIndex_8e157 l G hG a0 a1 z1 hz1 w0 _ he3) tw_457 tw_459 tw_458 tw_13 3 hs_J3_checkIndex_8e157 ⟨Nat.le_of_ble_eq_true rfl, Nat.le_of_ble_eq_true rfl⟩ rfl hl.1 (Nat.le_of_ble_eq_true rfl) rfl dJ0_checkIndex_df160_5 ⟨Nat.zero_le _, Nat.zero_le _⟩ (fun H locs hP hS => ?_)
    refine lv_pop hx hb dJ0_checkIndex_df160_8 rfl ?_
    have h0 := xw_so hf
    have h1 : w0 = w0 := rfl
    exact xw_vret hB hK hE hS hP hr hlk h1 dJ0_checkIndex_df160_9
  exact HH s.heap [] hP hS
def fJ1_charAt_3b067 (k0 : Nat) (a1 : Int32) : Option Int32 := xw_bp (fJ0_checkIndex_df160 a1 (nI (xw_slen.getD k0 0))) (fun (_ : Unit) => xw_ck a1 (xw_slen.getD k0 0) (xw_cc (narrow .char (.int (((((xw_sbyt.getD k0 []).getD a1.toNatClampNeg 0) &&& (255 : Int32)).toUInt32 % 65536).toInt32)) = .int (((((xw_sbyt.getD k0 []).getD a1.toNatClampNeg 0) &&& (255 : Int32)).toUInt32 % 65536).toInt32)) (some (((((xw_sbyt.getD k0 []).getD a1.toNatClampNeg 0) &&& (255 : Int32)).toUInt32 % 65536).toInt32))))
set_option maxHeartbeats 4000000 in
set_option maxRecDepth 100000 in
theorem kJ1_charAt_3b067 (l : Launch) (G : xw_G) (hG : xw_ok G) (k0 : Nat) (a1 : Int32) (hk0 : k0 < 5) (w0 : xw_M) (r0 : Int32) (hf : fJ1_charAt_3b067 k0 a1 = some r0) : xw_Ti l G yJ1_charAt_3b067 cJ1_charAt_3b067 2 ((Option.some Jvm.ClassFile.FieldType.char)) (2) (43) [.ref (xw_sa G (20 + k0)), .int a1] w0 r0 w0 := by
  unfold xw_Ti
  refine Met.ofW (cc := cJ1_charAt_3b067) (maxL := 2) (ret := (Option.some Jvm.ClassFile.FieldType.char)) (by decide) rfl ?_
  intro p e s m args below meth c s₁ B hml hv
  obtain ⟨hargs, hP, hK, hE⟩ := hv
  have hx := B.exec
  have hb := B.bytes
  have hr := B.returns
  have hlk := B.notSynchronized
  have hB : CallFix p m c cJ1_charAt_3b067 2 s args TB RJ1 := ⟨hx, hb, hml, findClass_of_methodNamed B.named, fun q h => (atoms_spec (ws := Cond.code yJ1_charAt_3b067 cJ1_charAt_3b067 2 ((Option.some Jvm.ClassFile.FieldType.char)) :: TB) B.pre) q (List.mem_cons_of_mem _ h)⟩
  have hS : va_S (xw_A G) s.heap s.heap [] := va_S.rf
  have hl := lv_entry [.ref (xw_sa G (20 + k0)), .int a1] (n := 2) (Nat.le_of_ble_eq_true rfl)
  rw [show entryFrame m args 2 = entryFrame m ([.ref (xw_sa G (20 + k0)), .int a1] : List Value).toArray 2 from by rw [hargs], lg_entry_eq]
  generalize (lg_sl [.ref (xw_sa G (20 + k0)), .int a1] ++ List.replicate (2 - (lg_sl [.ref (xw_sa G (20 + k0)), .int a1]).length) Slot.unset).toArray = ls at hl ⊢
  have hP : va_P (xw_D G) xw_cl (xw_W G w0) s.heap := hP
  have hl : lv_has ls 2 [(0, .ref (xw_sa G (20 + k0))), (1, .int a1)] := hl
  have HH : ∀ (H : Heap) (locs : List Loc) (hP : va_P (xw_D G) xw_cl (xw_W G w0) H) (hS : va_S (xw_A G) s.heap H locs), xw_Wi G p l e (xw_rm (2) (43)) s m args below meth c H locs r0 w0 (F0 m 0 ls []) := by
    intro H locs hP hS
    unfold fJ1_charAt_3b067 at hf
    refine lv_iload_n hx hb dJ1_charAt_3b067_0 rfl (lv_at hl 1 rfl) ?_
    refine lv_aload_n hx hb dJ1_charAt_3b067_1 rfl (lv_at hl 0 rfl) ?_
    refine va_tlen hx hb (xw_sS hk0 hE.2.1).2.2.2 hS rfl dJ1_charAt_3b067_2 ?_
    replace hf := xw_bp_e hf
    obtain ⟨r1, he2, hf⟩ := hf
    refine xw_Sv hB hK hE hS hP (As := [.int a1, .int (nI (xw_slen.getD k0 0))]) (rest := []) (kJ0_checkIndex_df160 l G hG a1 (nI (xw_slen.getD k0 0)) w0 _ he2) tw_452 tw_454 tw_453 tw_11 2 hs_J0_checkIndex_df160 ⟨Nat.le_of_ble_eq_true rfl, Nat.le_of_ble_eq_true rfl⟩ rfl hl.1 (Nat.le_of_ble_eq_true rfl) rfl dJ1_charAt_3b067_3 ⟨Nat.zero_le _, Nat.zero_le _⟩ (fun H locs hP hS => ?_)
    refine lv_aload_n hx hb dJ1_charAt_3b067_6 rfl (lv_at hl 0 rfl) ?_
    refine lv_iload_n hx hb dJ1_charAt_3b067_7 rfl (lv_at hl 1 rfl) ?_
    replace hf := xw_ck_e hf
    obtain ⟨hi3, hf⟩ := hf
    refine va_tb hx hb (xw_sS hk0 hE.2.1).2.2.2 hS hi3 rfl dJ1_charAt_3b067_8 ?_
    refine lv_sipush (v := 255) hx hb dJ1_charAt_3b067_9 (by decide) ?_
    refine lv_iand hx hb dJ1_charAt_3b067_12 ?_
    refine lv_i2c hx hb dJ1_charAt_3b067_13 rfl ?_
    replace hf := xw_cc_e hf
    obtain ⟨hn, hf⟩ := hf
    have h0 := xw_so hf
    have h1 : w0 = w0 := rfl
    exact xw_zret hB hK hE hS hP hr hlk hn h0 h1 dJ1_charAt_3b067_14
  exact HH s.heap [] hP hS
def fJ0_charAt_5068e (k0 : Nat) (a1 : Int32) : Option Int32 := xw_bp (fJ0_isLatin1_aae02 k0) (fun r1 => if r1 = 0 then none else xw_bp (fJ1_charAt_3b067 k0 a1) (fun r4 => xw_cc (narrow .char (.int r4) = .int r4) (some r4)))
set_option maxHeartbeats 4000000 in
set_option maxRecDepth 100000 in
theorem kJ0_charAt_5068e (l : Launch) (G : xw_G) (hG : xw_ok G) (k0 : Nat) (a1 : Int32) (hk0 : k0 < 5) (w0 : xw_M) (r0 : Int32) (hf : fJ0_charAt_5068e k0 a1 = some r0) : xw_Ti l G yJ0_charAt_5068e cJ0_charAt_5068e 2 ((Option.some Jvm.ClassFile.FieldType.char)) (3) (64) [.ref (xw_sa G (10 + k0)), .int a1] w0 r0 w0 := by
  unfold xw_Ti
  refine Met.ofW (cc := cJ0_charAt_5068e) (maxL := 2) (ret := (Option.some Jvm.ClassFile.FieldType.char)) (by decide) rfl ?_
  intro p e s m args below meth c s₁ B hml hv
  obtain ⟨hargs, hP, hK, hE⟩ := hv
  have hx := B.exec
  have hb := B.bytes
  have hr := B.returns
  have hlk := B.notSynchronized
  have hB : CallFix p m c cJ0_charAt_5068e 2 s args TB RJ0 := ⟨hx, hb, hml, findClass_of_methodNamed B.named, fun q h => (atoms_spec (ws := Cond.code yJ0_charAt_5068e cJ0_charAt_5068e 2 ((Option.some Jvm.ClassFile.FieldType.char)) :: TB) B.pre) q (List.mem_cons_of_mem _ h)⟩
  have hS : va_S (xw_A G) s.heap s.heap [] := va_S.rf
  have hl := lv_entry [.ref (xw_sa G (10 + k0)), .int a1] (n := 2) (Nat.le_of_ble_eq_true rfl)
  rw [show entryFrame m args 2 = entryFrame m ([.ref (xw_sa G (10 + k0)), .int a1] : List Value).toArray 2 from by rw [hargs], lg_entry_eq]
  generalize (lg_sl [.ref (xw_sa G (10 + k0)), .int a1] ++ List.replicate (2 - (lg_sl [.ref (xw_sa G (10 + k0)), .int a1]).length) Slot.unset).toArray = ls at hl ⊢
  have hP : va_P (xw_D G) xw_cl (xw_W G w0) s.heap := hP
  have hl : lv_has ls 2 [(0, .ref (xw_sa G (10 + k0))), (1, .int a1)] := hl
  have HH : ∀ (H : Heap) (locs : List Loc) (hP : va_P (xw_D G) xw_cl (xw_W G w0) H) (hS : va_S (xw_A G) s.heap H locs), xw_Wi G p l e (xw_rm (3) (64)) s m args below meth c H locs r0 w0 (F0 m 0 ls []) := by
    intro H locs hP hS
    unfold fJ0_charAt_5068e at hf
    refine lv_aload_n hx hb dJ0_charAt_5068e_0 rfl (lv_at hl 0 rfl) ?_
    replace hf := xw_bp_e hf
    obtain ⟨r1, he2, hf⟩ := hf
    refine xw_Vi hB hK hE hS hP (As := []) (rest := []) (kJ0_isLatin1_aae02 l G hG k0 hk0 w0 _ he2) gs_J0_492 (vk_recv (adK := fun i => xw_sa G (10 + i)) (i := k0) hE.2.1.2.2.2.2.1 hk0 hS) 0 hv_J0_isLatin1_aae02 ⟨Nat.le_of_ble_eq_true rfl, Nat.le_of_ble_eq_true rfl⟩ rfl hl.1 (Nat.le_of_ble_eq_true rfl) rfl dJ0_charAt_5068e_1 ⟨Nat.zero_le _, Nat.zero_le _⟩ (fun H locs hP hS => ?_)
    refine lv_if_eq (tgt := 16) hx hb dJ0_charAt_5068e_4 (by decide) (fun c3 => ?_) (fun c3 => ?_)
    · replace hf := xw_ip c3 hf
      refine lv_aload_n hx hb dJ0_charAt_5068e_16 rfl (lv_at hl 0 rfl) ?_
      refine vk_getf hx hb (xw_sS hk0 hE.2.1).2.2.1 hS hB.2.2.2.1 (hB.2.2.2.2 _ tw_1091) (fun _ h => h) dJ0_charAt_5068e_17 ?_
      refine lv_iload_n hx hb dJ0_charAt_5068e_20 rfl (lv_at hl 1 rfl) ?_
      cases hf
    · replace hf := xw_in' c3 hf
      refine lv_aload_n hx hb dJ0_charAt_5068e_7 rfl (lv_at hl 0 rfl) ?_
      refine vk_getf hx hb (xw_sS hk0 hE.2.1).2.2.1 hS hB.2.2.2.1 (hB.2.2.2.2 _ tw_1091) (fun _ h => h) dJ0_charAt_5068e_8 ?_
      refine lv_iload_n hx hb dJ0_charAt_5068e_11 rfl (lv_at hl 1 rfl) ?_
      replace hf := xw_bp_e hf
      obtain ⟨r4, he5, hf⟩ := hf
      refine xw_Si hB hK hE hS hP (As := [.ref (xw_sa G (20 + k0)), .int a1]) (rest := []) (kJ1_charAt_3b067 l G hG k0 a1 hk0 w0 _ he5) tw_449 tw_451 tw_450 tw_12 2 hs_J1_charAt_3b067 ⟨Nat.le_of_ble_eq_true rfl, Nat.le_of_ble_eq_true rfl⟩ rfl hl.1 (Nat.le_of_ble_eq_true rfl) rfl dJ0_charAt_5068e_12 ⟨Nat.zero_le _, Nat.zero_le _⟩ (fun H locs hP hS => ?_)
      replace hf := xw_cc_e hf
      obtain ⟨hn, hf⟩ := hf
      have h0 := xw_so hf
      have h1 : w0 = w0 := rfl
      exact xw_zret hB hK hE hS hP hr hlk hn h0 h1 dJ0_charAt_5068e_15
  exact HH s.heap [] hP hS
def fX3_readWord_34 (n : Nat) (k1 : Nat) (w : xw_M) : Option (Int32 × xw_M) := some ((1 : Int32), w)
def fX3_readWord_b2 (n : Nat) (k1 : Nat) (x2 : Int32) (w : xw_M) : Option ((Int32 × xw_M) ⊕ ((Int32 × xw_M) ⊕ (xw_M))) := xw_bp (fJ0_length_8abf5 k1) (fun r1 => if r1 ≤ x2 then some (.inr (.inr w)) else xw_bp (fJ0_charAt_5068e k1 x2) (fun r4 => if (w.1 49 3) = r4 then xw_b (fX3_advance w) (fun (_ : Unit) w8 => xw_lt (x2 + 1) (fun x2_10 => some (.inl (x2_10, w8)))) else some (.inr (.inl ((0 : Int32), w)))))
def fX3_readWord_2 (n : Nat) (k1 : Nat) (x2 : Int32) (w : xw_M) : Option (Int32 × xw_M) := xw_bp (xw_it (fun z => fX3_readWord_b2 n k1 z.1 z.2) n (x2, w)) (fun z => xw_su z (fun r => some r) (fun z => (fun (w : xw_M) => fX3_readWord_34 n k1 w) z))
def fX3_readWord (n : Nat) (k1 : Nat) (w0 : xw_M) : Option (Int32 × xw_M) := fX3_readWord_2 n k1 (0 : Int32) w0
set_option maxHeartbeats 4000000 in
set_option maxRecDepth 100000 in
theorem kX3_readWord (l : Launch) (G : xw_G) (hG : xw_ok G) (n : Nat) (k1 : Nat) (hk1 : k1 < 5) (w0 : xw_M) (r0 : Int32) (wz : xw_M) (hf : fX3_readWord n k1 w0 = some (r0, wz)) : xw_Ti l G yX3_readWord cX3_readWord 3 ((Option.some Jvm.ClassFile.FieldType.boolean)) (4) (85) [.ref (xw_ad G 49), .ref (xw_sa G (10 + k1))] w0 r0 wz := by
  unfold xw_Ti
  refine Met.ofW (cc := cX3_readWord) (maxL := 3) (ret := (Option.some Jvm.ClassFile.FieldType.boolean)) (by decide) rfl ?_
  intro p e s m args below meth c s₁ B hml hv
  obtain ⟨hargs, hP, hK, hE⟩ := hv
  have hx := B.exec
  have hb := B.bytes
  have hr := B.returns
  have hlk := B.notSynchronized
  have hB : CallFix p m c cX3_readWord 3 s args TB RX3 := ⟨hx, hb, hml, findClass_of_methodNamed B.named, fun q h => (atoms_spec (ws := Cond.code yX3_readWord cX3_readWord 3 ((Option.some Jvm.ClassFile.FieldType.boolean)) :: TB) B.pre) q (List.mem_cons_of_mem _ h)⟩
  have hS : va_S (xw_A G) s.heap s.heap [] := va_S.rf
  have hl := lv_entry [.ref (xw_ad G 49), .ref (xw_sa G (10 + k1))] (n := 3) (Nat.le_of_ble_eq_true rfl)
  rw [show entryFrame m args 3 = entryFrame m ([.ref (xw_ad G 49), .ref (xw_sa G (10 + k1))] : List Value).toArray 3 from by rw [hargs], lg_entry_eq]
  generalize (lg_sl [.ref (xw_ad G 49), .ref (xw_sa G (10 + k1))] ++ List.replicate (3 - (lg_sl [.ref (xw_ad G 49), .ref (xw_sa G (10 + k1))]).length) Slot.unset).toArray = ls at hl ⊢
  have hP : va_P (xw_D G) xw_cl (xw_W G w0) s.heap := hP
  have hl : lv_has ls 3 [(0, .ref (xw_ad G 49)), (1, .ref (xw_sa G (10 + k1)))] := hl
  have HH : ∀ (H : Heap) (locs : List Loc) (hP : va_P (xw_D G) xw_cl (xw_W G w0) H) (hS : va_S (xw_A G) s.heap H locs), xw_Wi G p l e (xw_rm (4) (85)) s m args below meth c H locs r0 wz (F0 m 0 ls []) := by
    intro H locs hP hS
    unfold fX3_readWord at hf
    have J34 : ∀ (w : xw_M) (hf : fX3_readWord_34 n k1 w = some (r0, wz)) (H : Heap) (locs : List Loc) (ls : Array Slot) (hP : va_P (xw_D G) xw_cl (xw_W G w) H) (hS : va_S (xw_A G) s.heap H locs) (hl : lv_has ls 3 []), xw_Wi G p l e (xw_rm (4) (85)) s m args below meth c H locs r0 wz (F0 m 34 ls []) := by
      intro w hf H locs ls hP hS hl
      unfold fX3_readWord_34 at hf
      refine lv_iconst (v := 1) hx hb dX3_readWord_34 (by decide) ?_
      obtain ⟨h0, h1⟩ := xw_s2 hf
      exact xw_zret hB hK hE hS hP hr hlk rfl h0 h1 dX3_readWord_35
    have J2 : ∀ (x2 : Int32) (w : xw_M) (hf : fX3_readWord_2 n k1 x2 w = some (r0, wz)) (H : Heap) (locs : List Loc) (ls : Array Slot) (hP : va_P (xw_D G) xw_cl (xw_W G w) H) (hS : va_S (xw_A G) s.heap H locs) (hl : lv_has ls 3 [(0, .ref (xw_ad G 49)), (1, .ref (xw_sa G (10 + k1))), (2, .int x2)]), xw_Wi G p l e (xw_rm (4) (85)) s m args below meth c H locs r0 wz (F0 m 2 ls []) := by
      intro x2 w hf H locs ls hP hS hl
      unfold fX3_readWord_2 at hf
      replace hf := xw_bp_e hf
      obtain ⟨bb2, hit2, hfx2⟩ := hf
      have XX2 : ∀ (w : xw_M) (hf : fX3_readWord_34 n k1 w = some (r0, wz)) (H : Heap) (locs : List Loc) (ls : Array Slot) (hP : va_P (xw_D G) xw_cl (xw_W G w) H) (hS : va_S (xw_A G) s.heap H locs) (hl : lv_has ls 3 []), xw_Wi G p l e (xw_rm (4) (85)) s m args below meth c H locs r0 wz (F0 m 34 ls []) := by
        intro w hf H locs ls hP hS hl
        exact J34 w hf H locs ls hP hS (lv_sub hl [] rfl)
      have LL2 : ∀ (nn : Nat) (x2 : Int32) (w : xw_M) (hit : xw_it (fun z => fX3_readWord_b2 n k1 z.1 z.2) nn (x2, w) = some bb2) (H : Heap) (locs : List Loc) (ls : Array Slot) (hP : va_P (xw_D G) xw_cl (xw_W G w) H) (hS : va_S (xw_A G) s.heap H locs) (hl : lv_has ls 3 [(0, .ref (xw_ad G 49)), (1, .ref (xw_sa G (10 + k1))), (2, .int x2)]), xw_Wi G p l e (xw_rm (4) (85)) s m args below meth c H locs r0 wz (F0 m 2 ls []) := by
        intro nn
        induction nn with
        | zero => intro x2 w hit; exact (xw_it_0 hit).elim
        | succ nn ih2 =>
          intro x2 w hit H locs ls hP hS hl
          replace hit := xw_it_e hit
          obtain ⟨wv2, hf, hC2, hX2⟩ := hit
          replace hf : fX3_readWord_b2 n k1 x2 w = some wv2 := hf
          unfold fX3_readWord_b2 at hf
          refine lv_iload_n hx hb dX3_readWord_2 rfl (lv_at hl 2 rfl) ?_
          refine lv_aload_n hx hb dX3_readWord_3 rfl (lv_at hl 1 rfl) ?_
          replace hf := xw_bp_e hf
          obtain ⟨r1, he2, hf⟩ := hf
          refine xw_Vi hB hK hE hS hP (As := []) (rest := [.int x2]) (kJ0_length_8abf5 l G hG k1 hk1 w _ he2) gs_X3_71 (vk_recv (adK := fun i => xw_sa G (10 + i)) (i := k1) hE.2.1.2.2.2.2.1 hk1 hS) 0 hv_J0_length_8abf5 ⟨Nat.le_of_ble_eq_true rfl, Nat.le_of_ble_eq_true rfl⟩ rfl hl.1 (Nat.le_of_ble_eq_true rfl) rfl dX3_readWord_4 ⟨Nat.zero_le _, Nat.zero_le _⟩ (fun H locs hP hS => ?_)
          refine lv_icmp_ge (tgt := 34) hx hb dX3_readWord_7 (by decide) (fun c3 => ?_) (fun c3 => ?_)
          · replace hf := xw_ip c3 hf
            have he2 := hX2 _ (xw_so hf).symm
            rw [← he2] at hfx2
            exact XX2 w hfx2 H locs ls hP hS (lv_sub hl [] rfl)
          · replace hf := xw_in' c3 hf
            refine lv_aload_n hx hb dX3_readWord_10 rfl (lv_at hl 0 rfl) ?_
            refine xw_get hB hK hP (xw_o3 G) (C := RX3) (T := TX3) (N := 6) rfl TBi_X3 3 (by decide) tw_175 rfl rfl dX3_readWord_11 ?_
            refine lv_aload_n hx hb dX3_readWord_14 rfl (lv_at hl 1 rfl) ?_
            refine lv_iload_n hx hb dX3_readWord_15 rfl (lv_at hl 2 rfl) ?_
            replace hf := xw_bp_e hf
            obtain ⟨r4, he5, hf⟩ := hf
            refine xw_Vi hB hK hE hS hP (As := [.int x2]) (rest := [.int (w.1 49 3)]) (kJ0_charAt_5068e l G hG k1 x2 hk1 w _ he5) gs_X3_77 (vk_recv (adK := fun i => xw_sa G (10 + i)) (i := k1) hE.2.1.2.2.2.2.1 hk1 hS) 1 hv_J0_charAt_5068e ⟨Nat.le_of_ble_eq_true rfl, Nat.le_of_ble_eq_true rfl⟩ rfl hl.1 (Nat.le_of_ble_eq_true rfl) rfl dX3_readWord_16 ⟨Nat.zero_le _, Nat.zero_le _⟩ (fun H locs hP hS => ?_)
            refine lv_icmp_eq (tgt := 24) hx hb dX3_readWord_19 (by decide) (fun c6 => ?_) (fun c6 => ?_)
            · replace hf := xw_ip c6 hf
              refine lv_aload_n hx hb dX3_readWord_24 rfl (lv_at hl 0 rfl) ?_
              replace hf := xw_b_e hf
              obtain ⟨r7, w8, he9, hf⟩ := hf
              refine xw_Vv hB hK hE hS hP (As := []) (rest := []) (kX3_advance l G hG w _ _ he9) gs_X3_35 (xw_rc hK hP (C := RX3) (T := TX3) (N := 6) (xw_o3 G) rfl) 0 hv_X3_advance ⟨Nat.le_of_ble_eq_true rfl, Nat.le_of_ble_eq_true rfl⟩ rfl hl.1 (Nat.le_of_ble_eq_true rfl) rfl dX3_readWord_25 ⟨Nat.zero_le _, Nat.zero_le _⟩ (fun H locs hP hS => ?_)
              obtain ⟨x2_10, ex2_10⟩ : ∃ y : Int32, y = x2 + 1 := ⟨_, rfl⟩
              replace hf := xw_lt_e ex2_10 hf
              refine lv_iinc (v := x2_10) (lv' := [(2, .int x2_10), (0, .ref (xw_ad G 49)), (1, .ref (xw_sa G (10 + k1)))]) hx hb dX3_readWord_28 hl (k := 2) rfl (by rw [ex2_10]; rfl) (by decide) rfl (fun ls hl => ?_)
              refine lv_goto (tgt := 2) hx hb dX3_readWord_31 (by decide) ?_
              have hi := hC2 _ (xw_so hf).symm
              exact ih2 x2_10 w8 hi H locs ls hP hS (lv_sub hl [1, 2, 0] rfl)
            · replace hf := xw_in' c6 hf
              refine lv_iconst (v := 0) hx hb dX3_readWord_22 (by decide) ?_
              have he2 := hX2 _ (xw_so hf).symm
              rw [← he2] at hfx2
              replace hfx2 : some ((0 : Int32), w) = some (r0, wz) := hfx2
              obtain ⟨h0, h1⟩ := xw_s2 hfx2
              exact xw_zret hB hK hE hS hP hr hlk rfl h0 h1 dX3_readWord_23
      exact LL2 n x2 w hit2 H locs ls hP hS hl
    refine lv_iconst (v := 0) hx hb dX3_readWord_0 (by decide) ?_
    refine lv_istore_n (lv' := [(2, .int (0 : Int32)), (0, .ref (xw_ad G 49)), (1, .ref (xw_sa G (10 + k1)))]) hx hb dX3_readWord_1 rfl hl (by decide) rfl (fun ls hl => ?_)
    exact J2 (0 : Int32) w0 hf H locs ls hP hS (lv_sub hl [1, 2, 0] rfl)
  exact HH s.heap [] hP hS
def fX3_readNumber (w0 : xw_M) : Option (Int32 × xw_M) := if (w0.1 49 3) < (48 : Int32) then some ((0 : Int32), w0) else if (w0.1 49 3) ≤ (57 : Int32) then xw_lt (xw_si w0 49 4 ((w0.1 49 3) - (48 : Int32))) (fun w3 => xw_b (fX3_advance w3) (fun (_ : Unit) w5 => if (w5.1 49 3) < (48 : Int32) then some ((1 : Int32), w5) else if (57 : Int32) < (w5.1 49 3) then some ((1 : Int32), w5) else xw_lt (xw_si w5 49 4 ((((w5.1 49 4) * (10 : Int32)) + (w5.1 49 3)) - (48 : Int32))) (fun w9 => xw_b (fX3_advance w9) (fun (_ : Unit) w11 => some ((1 : Int32), w11))))) else some ((0 : Int32), w0)
set_option maxHeartbeats 4000000 in
set_option maxRecDepth 100000 in
theorem kX3_readNumber (l : Launch) (G : xw_G) (hG : xw_ok G) (w0 : xw_M) (r0 : Int32) (wz : xw_M) (hf : fX3_readNumber w0 = some (r0, wz)) : xw_Ti l G yX3_readNumber cX3_readNumber 1 ((Option.some Jvm.ClassFile.FieldType.boolean)) (1) (20) [.ref (xw_ad G 49)] w0 r0 wz := by
  unfold xw_Ti
  refine Met.ofW (cc := cX3_readNumber) (maxL := 1) (ret := (Option.some Jvm.ClassFile.FieldType.boolean)) (by decide) rfl ?_
  intro p e s m args below meth c s₁ B hml hv
  obtain ⟨hargs, hP, hK, hE⟩ := hv
  have hx := B.exec
  have hb := B.bytes
  have hr := B.returns
  have hlk := B.notSynchronized
  have hB : CallFix p m c cX3_readNumber 1 s args TB RX3 := ⟨hx, hb, hml, findClass_of_methodNamed B.named, fun q h => (atoms_spec (ws := Cond.code yX3_readNumber cX3_readNumber 1 ((Option.some Jvm.ClassFile.FieldType.boolean)) :: TB) B.pre) q (List.mem_cons_of_mem _ h)⟩
  have hS : va_S (xw_A G) s.heap s.heap [] := va_S.rf
  have hl := lv_entry [.ref (xw_ad G 49)] (n := 1) (Nat.le_of_ble_eq_true rfl)
  rw [show entryFrame m args 1 = entryFrame m ([.ref (xw_ad G 49)] : List Value).toArray 1 from by rw [hargs], lg_entry_eq]
  generalize (lg_sl [.ref (xw_ad G 49)] ++ List.replicate (1 - (lg_sl [.ref (xw_ad G 49)]).length) Slot.unset).toArray = ls at hl ⊢
  have hP : va_P (xw_D G) xw_cl (xw_W G w0) s.heap := hP
  have hl : lv_has ls 1 [(0, .ref (xw_ad G 49))] := hl
  have HH : ∀ (H : Heap) (locs : List Loc) (hP : va_P (xw_D G) xw_cl (xw_W G w0) H) (hS : va_S (xw_A G) s.heap H locs), xw_Wi G p l e (xw_rm (1) (20)) s m args below meth c H locs r0 wz (F0 m 0 ls []) := by
    intro H locs hP hS
    unfold fX3_readNumber at hf
    refine lv_aload_n hx hb dX3_readNumber_0 rfl (lv_at hl 0 rfl) ?_
    refine xw_get hB hK hP (xw_o3 G) (C := RX3) (T := TX3) (N := 6) rfl TBi_X3 3 (by decide) tw_175 rfl rfl dX3_readNumber_1 ?_
    refine lv_bipush (v := 48) hx hb dX3_readNumber_4 (by decide) ?_
    refine lv_icmp_lt (tgt := 18) hx hb dX3_readNumber_6 (by decide) (fun c1 => ?_) (fun c1 => ?_)
    · replace hf := xw_ip c1 hf
      refine lv_iconst (v := 0) hx hb dX3_readNumber_18 (by decide) ?_
      obtain ⟨h0, h1⟩ := xw_s2 hf
      exact xw_zret hB hK hE hS hP hr hlk rfl h0 h1 dX3_readNumber_19
    · replace hf := xw_in' c1 hf
      refine lv_aload_n hx hb dX3_readNumber_9 rfl (lv_at hl 0 rfl) ?_
      refine xw_get hB hK hP (xw_o3 G) (C := RX3) (T := TX3) (N := 6) rfl TBi_X3 3 (by decide) tw_175 rfl rfl dX3_readNumber_10 ?_
      refine lv_bipush (v := 57) hx hb dX3_readNumber_13 (by decide) ?_
      refine lv_icmp_le (tgt := 20) hx hb dX3_readNumber_15 (by decide) (fun c2 => ?_) (fun c2 => ?_)
      · replace hf := xw_ip c2 hf
        refine lv_aload_n hx hb dX3_readNumber_20 rfl (lv_at hl 0 rfl) ?_
        refine lv_aload_n hx hb dX3_readNumber_21 rfl (lv_at hl 0 rfl) ?_
        refine xw_get hB hK hP (xw_o3 G) (C := RX3) (T := TX3) (N := 6) rfl TBi_X3 3 (by decide) tw_175 rfl rfl dX3_readNumber_22 ?_
        refine lv_bipush (v := 48) hx hb dX3_readNumber_25 (by decide) ?_
        refine lv_isub hx hb dX3_readNumber_27 ?_
        refine xw_put hG hB hK hS hP (x := (w0.1 49 3) - (48 : Int32)) (xw_o3 G) (C := RX3) (T := TX3) (N := 6) rfl TBi_X3 tyX3 tyX3_ok nmX3 4 (by decide) tw_176 rfl rfl rfl rfl rfl (Nat.le_of_ble_eq_true rfl) rfl dX3_readNumber_28 (fun w3 ew3 H locs hP hS => ?_)
        replace hf := xw_lt_e ew3 hf
        refine lv_aload_n hx hb dX3_readNumber_31 rfl (lv_at hl 0 rfl) ?_
        replace hf := xw_b_e hf
        obtain ⟨r4, w5, he6, hf⟩ := hf
        refine xw_Vv hB hK hE hS hP (As := []) (rest := []) (kX3_advance l G hG w3 _ _ he6) gs_X3_35 (xw_rc hK hP (C := RX3) (T := TX3) (N := 6) (xw_o3 G) rfl) 0 hv_X3_advance ⟨Nat.le_of_ble_eq_true rfl, Nat.le_of_ble_eq_true rfl⟩ rfl hl.1 (Nat.le_of_ble_eq_true rfl) rfl dX3_readNumber_32 ⟨Nat.zero_le _, Nat.zero_le _⟩ (fun H locs hP hS => ?_)
        refine lv_aload_n hx hb dX3_readNumber_35 rfl (lv_at hl 0 rfl) ?_
        refine xw_get hB hK hP (xw_o3 G) (C := RX3) (T := TX3) (N := 6) rfl TBi_X3 3 (by decide) tw_175 rfl rfl dX3_readNumber_36 ?_
        refine lv_bipush (v := 48) hx hb dX3_readNumber_39 (by decide) ?_
        refine lv_icmp_lt (tgt := 76) hx hb dX3_readNumber_41 (by decide) (fun c7 => ?_) (fun c7 => ?_)
        · replace hf := xw_ip c7 hf
          refine lv_iconst (v := 1) hx hb dX3_readNumber_76 (by decide) ?_
          obtain ⟨h0, h1⟩ := xw_s2 hf
          exact xw_zret hB hK hE hS hP hr hlk rfl h0 h1 dX3_readNumber_77
        · replace hf := xw_in' c7 hf
          refine lv_aload_n hx hb dX3_readNumber_44 rfl (lv_at hl 0 rfl) ?_
          refine xw_get hB hK hP (xw_o3 G) (C := RX3) (T := TX3) (N := 6) rfl TBi_X3 3 (by decide) tw_175 rfl rfl dX3_readNumber_45 ?_
          refine lv_bipush (v := 57) hx hb dX3_readNumber_48 (by decide) ?_
          refine lv_icmp_gt (tgt := 76) hx hb dX3_readNumber_50 (by decide) (fun c8 => ?_) (fun c8 => ?_)
          · replace hf := xw_ip c8 hf
            refine lv_iconst (v := 1) hx hb dX3_readNumber_76 (by decide) ?_
            obtain ⟨h0, h1⟩ := xw_s2 hf
            exact xw_zret hB hK hE hS hP hr hlk rfl h0 h1 dX3_readNumber_77
          · replace hf := xw_in' c8 hf
            refine lv_aload_n hx hb dX3_readNumber_53 rfl (lv_at hl 0 rfl) ?_
            refine lv_aload_n hx hb dX3_readNumber_54 rfl (lv_at hl 0 rfl) ?_
            refine xw_get hB hK hP (xw_o3 G) (C := RX3) (T := TX3) (N := 6) rfl TBi_X3 4 (by decide) tw_176 rfl rfl dX3_readNumber_55 ?_
            refine lv_bipush (v := 10) hx hb dX3_readNumber_58 (by decide) ?_
            refine lv_imul hx hb dX3_readNumber_60 ?_
            refine lv_aload_n hx hb dX3_readNumber_61 rfl (lv_at hl 0 rfl) ?_
            refine xw_get hB hK hP (xw_o3 G) (C := RX3) (T := TX3) (N := 6) rfl TBi_X3 3 (by decide) tw_175 rfl rfl dX3_readNumber_62 ?_
            refine lv_iadd hx hb dX3_readNumber_65 ?_
            refine lv_bipush (v := 48) hx hb dX3_readNumber_66 (by decide) ?_
            refine lv_isub hx hb dX3_readNumber_68 ?_
            refine xw_put hG hB hK hS hP (x := (((w5.1 49 4) * (10 : Int32)) + (w5.1 49 3)) - (48 : Int32)) (xw_o3 G) (C := RX3) (T := TX3) (N := 6) rfl TBi_X3 tyX3 tyX3_ok nmX3 4 (by decide) tw_176 rfl rfl rfl rfl rfl (Nat.le_of_ble_eq_true rfl) rfl dX3_readNumber_69 (fun w9 ew9 H locs hP hS => ?_)
            replace hf := xw_lt_e ew9 hf
            refine lv_aload_n hx hb dX3_readNumber_72 rfl (lv_at hl 0 rfl) ?_
            replace hf := xw_b_e hf
            obtain ⟨r10, w11, he12, hf⟩ := hf
            refine xw_Vv hB hK hE hS hP (As := []) (rest := []) (kX3_advance l G hG w9 _ _ he12) gs_X3_35 (xw_rc hK hP (C := RX3) (T := TX3) (N := 6) (xw_o3 G) rfl) 0 hv_X3_advance ⟨Nat.le_of_ble_eq_true rfl, Nat.le_of_ble_eq_true rfl⟩ rfl hl.1 (Nat.le_of_ble_eq_true rfl) rfl dX3_readNumber_73 ⟨Nat.zero_le _, Nat.zero_le _⟩ (fun H locs hP hS => ?_)
            refine lv_iconst (v := 1) hx hb dX3_readNumber_76 (by decide) ?_
            obtain ⟨h0, h1⟩ := xw_s2 hf
            exact xw_zret hB hK hE hS hP hr hlk rfl h0 h1 dX3_readNumber_77
      · replace hf := xw_in' c2 hf
        refine lv_iconst (v := 0) hx hb dX3_readNumber_18 (by decide) ?_
        obtain ⟨h0, h1⟩ := xw_s2 hf
        exact xw_zret hB hK hE hS hP hr hlk rfl h0 h1 dX3_readNumber_19
  exact HH s.heap [] hP hS
def fX2_addStep (b : Nat) (a1 : Int32) (a2 : Int32) (a3 : Int32) (w0 : xw_M) : Option (Unit × xw_M) := xw_b (fX7_put (b + 3) 100 (w0.1 b 4) a1 w0) (fun (_ : Unit) w2 => xw_b (fX7_put (b + 4) 100 (w2.1 b 4) a2 w2) (fun (_ : Unit) w5 => xw_b (fX7_put (b + 5) 100 (w5.1 b 4) a3 w5) (fun (_ : Unit) w8 => xw_lt (xw_si w8 b 4 ((w8.1 b 4) + (1 : Int32))) (fun w10 => some ((), w10)))))
set_option maxHeartbeats 4000000 in
set_option maxRecDepth 100000 in
theorem kX2_addStep (l : Launch) (G : xw_G) (hG : xw_ok G) (b : Nat) (a1 : Int32) (a2 : Int32) (a3 : Int32) (hb0 : xw_pa b) (w0 : xw_M) (r0 : Unit) (wz : xw_M) (hf : fX2_addStep b a1 a2 a3 w0 = some (r0, wz)) : xw_Tv l G yX2_addStep cX2_addStep 4 ((Option.none : Option Jvm.ClassFile.FieldType)) (1) (22) [.ref (xw_ad G b), .int a1, .int a2, .int a3] w0 r0 wz := by
  unfold xw_Tv
  refine Met.ofW (cc := cX2_addStep) (maxL := 4) (ret := (Option.none : Option Jvm.ClassFile.FieldType)) (by decide) rfl ?_
  intro p e s m args below meth c s₁ B hml hv
  obtain ⟨hargs, hP, hK, hE⟩ := hv
  have hx := B.exec
  have hb := B.bytes
  have hr := B.returns
  have hlk := B.notSynchronized
  have hB : CallFix p m c cX2_addStep 4 s args TB RX2 := ⟨hx, hb, hml, findClass_of_methodNamed B.named, fun q h => (atoms_spec (ws := Cond.code yX2_addStep cX2_addStep 4 ((Option.none : Option Jvm.ClassFile.FieldType)) :: TB) B.pre) q (List.mem_cons_of_mem _ h)⟩
  have hS : va_S (xw_A G) s.heap s.heap [] := va_S.rf
  have hl := lv_entry [.ref (xw_ad G b), .int a1, .int a2, .int a3] (n := 4) (Nat.le_of_ble_eq_true rfl)
  rw [show entryFrame m args 4 = entryFrame m ([.ref (xw_ad G b), .int a1, .int a2, .int a3] : List Value).toArray 4 from by rw [hargs], lg_entry_eq]
  generalize (lg_sl [.ref (xw_ad G b), .int a1, .int a2, .int a3] ++ List.replicate (4 - (lg_sl [.ref (xw_ad G b), .int a1, .int a2, .int a3]).length) Slot.unset).toArray = ls at hl ⊢
  have hP : va_P (xw_D G) xw_cl (xw_W G w0) s.heap := hP
  have hl : lv_has ls 4 [(0, .ref (xw_ad G b)), (1, .int a1), (2, .int a2), (3, .int a3)] := hl
  have HH : ∀ (H : Heap) (locs : List Loc) (hP : va_P (xw_D G) xw_cl (xw_W G w0) H) (hS : va_S (xw_A G) s.heap H locs), xw_Wv G p l e (xw_rm (1) (22)) s m args below meth c H locs r0 wz (F0 m 0 ls []) := by
    intro H locs hP hS
    unfold fX2_addStep at hf
    refine lv_aload_n hx hb dX2_addStep_0 rfl (lv_at hl 0 rfl) ?_
    refine xw_get hB hK hP (xw_o2 G hb0) (C := RX2) (T := TX2) (N := 8) rfl TBi_X2 5 (by decide) tw_149 rfl rfl dX2_addStep_1 ?_
    refine lv_aload_n hx hb dX2_addStep_4 rfl (lv_at hl 0 rfl) ?_
    refine xw_get hB hK hP (xw_o2 G hb0) (C := RX2) (T := TX2) (N := 8) rfl TBi_X2 4 (by decide) tw_148 rfl rfl dX2_addStep_5 ?_
    refine lv_iload_n hx hb dX2_addStep_8 rfl (lv_at hl 1 rfl) ?_
    replace hf := xw_b_e hf
    obtain ⟨r1, w2, he3, hf⟩ := hf
    refine xw_Nv hB hK hE hS hP (As := [.ref (xw_ad G (b + 3)), .int (w0.1 b 4), .int a1]) (rest := []) (kX7_put l G hG (b + 3) 100 (w0.1 b 4) a1 (xw_a2_3 G hb0) w0 _ _ he3) (host := RX7) (by decide +kernel) tw_302 tw_301 tw_1 3 hs_X7_put ⟨Nat.le_of_ble_eq_true rfl, Nat.le_of_ble_eq_true rfl⟩ rfl hl.1 (Nat.le_of_ble_eq_true rfl) rfl dX2_addStep_9 ⟨Nat.zero_le _, Nat.zero_le _⟩ (fun H locs hP hS => ?_)
    refine lv_aload_n hx hb dX2_addStep_12 rfl (lv_at hl 0 rfl) ?_
    refine xw_get hB hK hP (xw_o2 G hb0) (C := RX2) (T := TX2) (N := 8) rfl TBi_X2 6 (by decide) tw_150 rfl rfl dX2_addStep_13 ?_
    refine lv_aload_n hx hb dX2_addStep_16 rfl (lv_at hl 0 rfl) ?_
    refine xw_get hB hK hP (xw_o2 G hb0) (C := RX2) (T := TX2) (N := 8) rfl TBi_X2 4 (by decide) tw_148 rfl rfl dX2_addStep_17 ?_
    refine lv_iload_n hx hb dX2_addStep_20 rfl (lv_at hl 2 rfl) ?_
    replace hf := xw_b_e hf
    obtain ⟨r4, w5, he6, hf⟩ := hf
    refine xw_Nv hB hK hE hS hP (As := [.ref (xw_ad G (b + 4)), .int (w2.1 b 4), .int a2]) (rest := []) (kX7_put l G hG (b + 4) 100 (w2.1 b 4) a2 (xw_a2_4 G hb0) w2 _ _ he6) (host := RX7) (by decide +kernel) tw_302 tw_301 tw_1 3 hs_X7_put ⟨Nat.le_of_ble_eq_true rfl, Nat.le_of_ble_eq_true rfl⟩ rfl hl.1 (Nat.le_of_ble_eq_true rfl) rfl dX2_addStep_21 ⟨Nat.zero_le _, Nat.zero_le _⟩ (fun H locs hP hS => ?_)
    refine lv_aload_n hx hb dX2_addStep_24 rfl (lv_at hl 0 rfl) ?_
    refine xw_get hB hK hP (xw_o2 G hb0) (C := RX2) (T := TX2) (N := 8) rfl TBi_X2 7 (by decide) tw_151 rfl rfl dX2_addStep_25 ?_
    refine lv_aload_n hx hb dX2_addStep_28 rfl (lv_at hl 0 rfl) ?_
    refine xw_get hB hK hP (xw_o2 G hb0) (C := RX2) (T := TX2) (N := 8) rfl TBi_X2 4 (by decide) tw_148 rfl rfl dX2_addStep_29 ?_
    refine lv_iload_n hx hb dX2_addStep_32 rfl (lv_at hl 3 rfl) ?_
    replace hf := xw_b_e hf
    obtain ⟨r7, w8, he9, hf⟩ := hf
    refine xw_Nv hB hK hE hS hP (As := [.ref (xw_ad G (b + 5)), .int (w5.1 b 4), .int a3]) (rest := []) (kX7_put l G hG (b + 5) 100 (w5.1 b 4) a3 (xw_a2_5 G hb0) w5 _ _ he9) (host := RX7) (by decide +kernel) tw_302 tw_301 tw_1 3 hs_X7_put ⟨Nat.le_of_ble_eq_true rfl, Nat.le_of_ble_eq_true rfl⟩ rfl hl.1 (Nat.le_of_ble_eq_true rfl) rfl dX2_addStep_33 ⟨Nat.zero_le _, Nat.zero_le _⟩ (fun H locs hP hS => ?_)
    refine lv_aload_n hx hb dX2_addStep_36 rfl (lv_at hl 0 rfl) ?_
    refine lv_dup hx hb dX2_addStep_37 rfl ?_
    refine xw_get hB hK hP (xw_o2 G hb0) (C := RX2) (T := TX2) (N := 8) rfl TBi_X2 4 (by decide) tw_148 rfl rfl dX2_addStep_38 ?_
    refine lv_iconst (v := 1) hx hb dX2_addStep_41 (by decide) ?_
    refine lv_iadd hx hb dX2_addStep_42 ?_
    refine xw_put hG hB hK hS hP (x := (w8.1 b 4) + (1 : Int32)) (xw_o2 G hb0) (C := RX2) (T := TX2) (N := 8) rfl TBi_X2 tyX2 tyX2_ok nmX2 4 (by decide) tw_148 rfl rfl rfl rfl rfl (Nat.le_of_ble_eq_true rfl) rfl dX2_addStep_43 (fun w10 ew10 H locs hP hS => ?_)
    replace hf := xw_lt_e ew10 hf
    obtain ⟨h0, h1⟩ := xw_s2 hf
    exact xw_vret hB hK hE hS hP hr hlk h1 dX2_addStep_46
  exact HH s.heap [] hP hS
def fX3_whatOf (a0 : Int32) : Option Int32 := if a0 = 100 then some (5 : Int32) else (if a0 = 107 then some (1 : Int32) else (if a0 = 108 then some (3 : Int32) else (if a0 = 112 then some (0 : Int32) else (if a0 = 118 then some (2 : Int32) else (if a0 = 121 then some (4 : Int32) else (some (-1 : Int32)))))))
set_option maxHeartbeats 4000000 in
set_option maxRecDepth 100000 in
theorem kX3_whatOf (l : Launch) (G : xw_G) (hG : xw_ok G) (a0 : Int32) (w0 : xw_M) (r0 : Int32) (hf : fX3_whatOf a0 = some r0) : xw_Ti l G yX3_whatOf cX3_whatOf 1 ((Option.some Jvm.ClassFile.FieldType.int)) (0) (0) [.int a0] w0 r0 w0 := by
  unfold xw_Ti
  refine Met.ofW (cc := cX3_whatOf) (maxL := 1) (ret := (Option.some Jvm.ClassFile.FieldType.int)) (by decide) rfl ?_
  intro p e s m args below meth c s₁ B hml hv
  obtain ⟨hargs, hP, hK, hE⟩ := hv
  have hx := B.exec
  have hb := B.bytes
  have hr := B.returns
  have hlk := B.notSynchronized
  have hB : CallFix p m c cX3_whatOf 1 s args TB RX3 := ⟨hx, hb, hml, findClass_of_methodNamed B.named, fun q h => (atoms_spec (ws := Cond.code yX3_whatOf cX3_whatOf 1 ((Option.some Jvm.ClassFile.FieldType.int)) :: TB) B.pre) q (List.mem_cons_of_mem _ h)⟩
  have hS : va_S (xw_A G) s.heap s.heap [] := va_S.rf
  have hl := lv_entry [.int a0] (n := 1) (Nat.le_of_ble_eq_true rfl)
  rw [show entryFrame m args 1 = entryFrame m ([.int a0] : List Value).toArray 1 from by rw [hargs], lg_entry_eq]
  generalize (lg_sl [.int a0] ++ List.replicate (1 - (lg_sl [.int a0]).length) Slot.unset).toArray = ls at hl ⊢
  have hP : va_P (xw_D G) xw_cl (xw_W G w0) s.heap := hP
  have hl : lv_has ls 1 [(0, .int a0)] := hl
  have HH : ∀ (H : Heap) (locs : List Loc) (hP : va_P (xw_D G) xw_cl (xw_W G w0) H) (hS : va_S (xw_A G) s.heap H locs), xw_Wi G p l e (xw_rm (0) (0)) s m args below meth c H locs r0 w0 (F0 m 0 ls []) := by
    intro H locs hP hS
    unfold fX3_whatOf at hf
    refine lv_iload_n hx hb dX3_whatOf_0 rfl (lv_at hl 0 rfl) ?_
    by_cases c1 : a0 = 100
    · refine lv_lookup (off := 69) (tgt := 70) hx hb dX3_whatOf_1 (by decide) (by rw [c1]; rfl) (by decide) ?_
      replace hf := xw_ip c1 hf
      refine lv_iconst (v := 5) hx hb dX3_whatOf_70 (by decide) ?_
      have h0 := xw_so hf
      have h1 : w0 = w0 := rfl
      exact xw_iret hB hK hE hS hP hr hlk h0 h1 dX3_whatOf_71
    · replace hf := xw_in' c1 hf
      by_cases c2 : a0 = 107
      · refine lv_lookup (off := 61) (tgt := 62) hx hb dX3_whatOf_1 (by decide) (by rw [c2]; rfl) (by decide) ?_
        replace hf := xw_ip c2 hf
        refine lv_iconst (v := 1) hx hb dX3_whatOf_62 (by decide) ?_
        have h0 := xw_so hf
        have h1 : w0 = w0 := rfl
        exact xw_iret hB hK hE hS hP hr hlk h0 h1 dX3_whatOf_63
      · replace hf := xw_in' c2 hf
        by_cases c3 : a0 = 108
        · refine lv_lookup (off := 65) (tgt := 66) hx hb dX3_whatOf_1 (by decide) (by rw [c3]; rfl) (by decide) ?_
          replace hf := xw_ip c3 hf
          refine lv_iconst (v := 3) hx hb dX3_whatOf_66 (by decide) ?_
          have h0 := xw_so hf
          have h1 : w0 = w0 := rfl
          exact xw_iret hB hK hE hS hP hr hlk h0 h1 dX3_whatOf_67
        · replace hf := xw_in' c3 hf
          by_cases c4 : a0 = 112
          · refine lv_lookup (off := 59) (tgt := 60) hx hb dX3_whatOf_1 (by decide) (by rw [c4]; rfl) (by decide) ?_
            replace hf := xw_ip c4 hf
            refine lv_iconst (v := 0) hx hb dX3_whatOf_60 (by decide) ?_
            have h0 := xw_so hf
            have h1 : w0 = w0 := rfl
            exact xw_iret hB hK hE hS hP hr hlk h0 h1 dX3_whatOf_61
          · replace hf := xw_in' c4 hf
            by_cases c5 : a0 = 118
            · refine lv_lookup (off := 63) (tgt := 64) hx hb dX3_whatOf_1 (by decide) (by rw [c5]; rfl) (by decide) ?_
              replace hf := xw_ip c5 hf
              refine lv_iconst (v := 2) hx hb dX3_whatOf_64 (by decide) ?_
              have h0 := xw_so hf
              have h1 : w0 = w0 := rfl
              exact xw_iret hB hK hE hS hP hr hlk h0 h1 dX3_whatOf_65
            · replace hf := xw_in' c5 hf
              by_cases c6 : a0 = 121
              · refine lv_lookup (off := 67) (tgt := 68) hx hb dX3_whatOf_1 (by decide) (by rw [c6]; rfl) (by decide) ?_
                replace hf := xw_ip c6 hf
                refine lv_iconst (v := 4) hx hb dX3_whatOf_68 (by decide) ?_
                have h0 := xw_so hf
                have h1 : w0 = w0 := rfl
                exact xw_iret hB hK hE hS hP hr hlk h0 h1 dX3_whatOf_69
              · replace hf := xw_in' c6 hf
                refine lv_lookup (off := 71) (tgt := 72) hx hb dX3_whatOf_1 (by decide) (by show Op.lookupswitch.offset [(100, 69), (107, 61), (108, 65), (112, 59), (118, 63), (121, 67)] 71 _ = _; rw [lv_osw c1 (by decide : (100 : Int32).toInt = 100), lv_osw c2 (by decide : (107 : Int32).toInt = 107), lv_osw c3 (by decide : (108 : Int32).toInt = 108), lv_osw c4 (by decide : (112 : Int32).toInt = 112), lv_osw c5 (by decide : (118 : Int32).toInt = 118), lv_osw c6 (by decide : (121 : Int32).toInt = 121)]; rfl) (by decide) ?_
                refine lv_iconst (v := (-1)) hx hb dX3_whatOf_72 (by decide) ?_
                have h0 := xw_so hf
                have h1 : w0 = w0 := rfl
                exact xw_iret hB hK hE hS hP hr hlk h0 h1 dX3_whatOf_73
  exact HH s.heap [] hP hS
def fX3_readTest_44 (x1 : Int32) (x2 : Int32) (w : xw_M) : Option (Int32 × xw_M) := xw_b (fX3_advance w) (fun (_ : Unit) w12 => xw_b (fX3_readNumber w12) (fun r14 w15 => xw_cc (xw_pa (w15.1 49 5).toNatClampNeg) (xw_b (fX2_addStep ((w15.1 49 5).toNatClampNeg) x1 x2 (w15.1 49 4) w15) (fun (_ : Unit) w19 => xw_cc (r14 = 0 ∨ r14 = 1) (some (r14, w19))))))
def fX3_readTest (w0 : xw_M) : Option (Int32 × xw_M) := xw_bp (fX3_whatOf (w0.1 49 3)) (fun r1 => if r1 = (-1 : Int32) then some ((0 : Int32), w0) else xw_b (fX3_advance w0) (fun (_ : Unit) w5 => xw_lt (w5.1 49 3) (fun x2_7 => if x2_7 = (60 : Int32) then fX3_readTest_44 r1 x2_7 w5 else if x2_7 = (61 : Int32) then fX3_readTest_44 r1 x2_7 w5 else if x2_7 = (62 : Int32) then fX3_readTest_44 r1 x2_7 w5 else some ((0 : Int32), w5))))
set_option maxHeartbeats 4000000 in
set_option maxRecDepth 100000 in
theorem kX3_readTest (l : Launch) (G : xw_G) (hG : xw_ok G) (w0 : xw_M) (r0 : Int32) (wz : xw_M) (hf : fX3_readTest w0 = some (r0, wz)) : xw_Ti l G yX3_readTest cX3_readTest 4 ((Option.some Jvm.ClassFile.FieldType.boolean)) (2) (45) [.ref (xw_ad G 49)] w0 r0 wz := by
  unfold xw_Ti
  refine Met.ofW (cc := cX3_readTest) (maxL := 4) (ret := (Option.some Jvm.ClassFile.FieldType.boolean)) (by decide) rfl ?_
  intro p e s m args below meth c s₁ B hml hv
  obtain ⟨hargs, hP, hK, hE⟩ := hv
  have hx := B.exec
  have hb := B.bytes
  have hr := B.returns
  have hlk := B.notSynchronized
  have hB : CallFix p m c cX3_readTest 4 s args TB RX3 := ⟨hx, hb, hml, findClass_of_methodNamed B.named, fun q h => (atoms_spec (ws := Cond.code yX3_readTest cX3_readTest 4 ((Option.some Jvm.ClassFile.FieldType.boolean)) :: TB) B.pre) q (List.mem_cons_of_mem _ h)⟩
  have hS : va_S (xw_A G) s.heap s.heap [] := va_S.rf
  have hl := lv_entry [.ref (xw_ad G 49)] (n := 4) (Nat.le_of_ble_eq_true rfl)
  rw [show entryFrame m args 4 = entryFrame m ([.ref (xw_ad G 49)] : List Value).toArray 4 from by rw [hargs], lg_entry_eq]
  generalize (lg_sl [.ref (xw_ad G 49)] ++ List.replicate (4 - (lg_sl [.ref (xw_ad G 49)]).length) Slot.unset).toArray = ls at hl ⊢
  have hP : va_P (xw_D G) xw_cl (xw_W G w0) s.heap := hP
  have hl : lv_has ls 4 [(0, .ref (xw_ad G 49))] := hl
  have HH : ∀ (H : Heap) (locs : List Loc) (hP : va_P (xw_D G) xw_cl (xw_W G w0) H) (hS : va_S (xw_A G) s.heap H locs), xw_Wi G p l e (xw_rm (2) (45)) s m args below meth c H locs r0 wz (F0 m 0 ls []) := by
    intro H locs hP hS
    unfold fX3_readTest at hf
    have J44 : ∀ (x1 : Int32) (x2 : Int32) (w : xw_M) (hf : fX3_readTest_44 x1 x2 w = some (r0, wz)) (H : Heap) (locs : List Loc) (ls : Array Slot) (hP : va_P (xw_D G) xw_cl (xw_W G w) H) (hS : va_S (xw_A G) s.heap H locs) (hl : lv_has ls 4 [(0, .ref (xw_ad G 49)), (1, .int x1), (2, .int x2)]), xw_Wi G p l e (xw_rm (2) (45)) s m args below meth c H locs r0 wz (F0 m 44 ls []) := by
      intro x1 x2 w hf H locs ls hP hS hl
      unfold fX3_readTest_44 at hf
      refine lv_aload_n hx hb dX3_readTest_44 rfl (lv_at hl 0 rfl) ?_
      replace hf := xw_b_e hf
      obtain ⟨r11, w12, he13, hf⟩ := hf
      refine xw_Vv hB hK hE hS hP (As := []) (rest := []) (kX3_advance l G hG w _ _ he13) gs_X3_35 (xw_rc hK hP (C := RX3) (T := TX3) (N := 6) (xw_o3 G) rfl) 0 hv_X3_advance ⟨Nat.le_of_ble_eq_true rfl, Nat.le_of_ble_eq_true rfl⟩ rfl hl.1 (Nat.le_of_ble_eq_true rfl) rfl dX3_readTest_45 ⟨Nat.zero_le _, Nat.zero_le _⟩ (fun H locs hP hS => ?_)
      refine lv_aload_n hx hb dX3_readTest_48 rfl (lv_at hl 0 rfl) ?_
      replace hf := xw_b_e hf
      obtain ⟨r14, w15, he16, hf⟩ := hf
      refine xw_Vi hB hK hE hS hP (As := []) (rest := []) (kX3_readNumber l G hG w12 _ _ he16) gs_X3_52 (xw_rc hK hP (C := RX3) (T := TX3) (N := 6) (xw_o3 G) rfl) 0 hv_X3_readNumber ⟨Nat.le_of_ble_eq_true rfl, Nat.le_of_ble_eq_true rfl⟩ rfl hl.1 (Nat.le_of_ble_eq_true rfl) rfl dX3_readTest_49 ⟨Nat.zero_le _, Nat.zero_le _⟩ (fun H locs hP hS => ?_)
      refine lv_istore_n (lv' := [(3, .int r14), (0, .ref (xw_ad G 49)), (1, .int x1), (2, .int x2)]) hx hb dX3_readTest_52 rfl hl (by decide) rfl (fun ls hl => ?_)
      refine lv_aload_n hx hb dX3_readTest_53 rfl (lv_at hl 1 rfl) ?_
      refine xw_get hB hK hP (xw_o3 G) (C := RX3) (T := TX3) (N := 6) rfl TBi_X3 5 (by decide) tw_177 rfl rfl dX3_readTest_54 ?_
      replace hf := xw_cc_e hf
      obtain ⟨hp17, hf⟩ := hf
      refine lv_iload_n hx hb dX3_readTest_57 rfl (lv_at hl 2 rfl) ?_
      refine lv_iload_n hx hb dX3_readTest_58 rfl (lv_at hl 3 rfl) ?_
      refine lv_aload_n hx hb dX3_readTest_59 rfl (lv_at hl 1 rfl) ?_
      refine xw_get hB hK hP (xw_o3 G) (C := RX3) (T := TX3) (N := 6) rfl TBi_X3 4 (by decide) tw_176 rfl rfl dX3_readTest_60 ?_
      replace hf := xw_b_e hf
      obtain ⟨r18, w19, he20, hf⟩ := hf
      refine xw_Vv hB hK hE hS hP (As := [.int x1, .int x2, .int (w15.1 49 4)]) (rest := []) (kX2_addStep l G hG ((w15.1 49 5).toNatClampNeg) x1 x2 (w15.1 49 4) hp17 w15 _ _ he20) gs_X3_84 (xw_rc hK hP (C := RX2) (T := TX2) (N := 8) (xw_o2 G hp17) rfl) 3 hv_X2_addStep ⟨Nat.le_of_ble_eq_true rfl, Nat.le_of_ble_eq_true rfl⟩ rfl hl.1 (Nat.le_of_ble_eq_true rfl) rfl dX3_readTest_63 ⟨Nat.zero_le _, Nat.zero_le _⟩ (fun H locs hP hS => ?_)
      refine lv_iload_n hx hb dX3_readTest_66 rfl (lv_at hl 0 rfl) ?_
      replace hf := xw_cc_e hf
      obtain ⟨hn, hf⟩ := hf
      obtain ⟨h0, h1⟩ := xw_s2 hf
      exact xw_zret hB hK hE hS hP hr hlk (xw_nar hn) h0 h1 dX3_readTest_67
    refine lv_aload_n hx hb dX3_readTest_0 rfl (lv_at hl 0 rfl) ?_
    refine xw_get hB hK hP (xw_o3 G) (C := RX3) (T := TX3) (N := 6) rfl TBi_X3 3 (by decide) tw_175 rfl rfl dX3_readTest_1 ?_
    replace hf := xw_bp_e hf
    obtain ⟨r1, he2, hf⟩ := hf
    refine xw_Si hB hK hE hS hP (As := [.int (w0.1 49 3)]) (rest := []) (kX3_whatOf l G hG (w0.1 49 3) w0 _ he2) tw_496 tw_498 tw_497 tw_5 1 hs_X3_whatOf ⟨Nat.le_of_ble_eq_true rfl, Nat.le_of_ble_eq_true rfl⟩ rfl hl.1 (Nat.le_of_ble_eq_true rfl) rfl dX3_readTest_4 ⟨Nat.zero_le _, Nat.zero_le _⟩ (fun H locs hP hS => ?_)
    refine lv_istore_n (lv' := [(1, .int r1), (0, .ref (xw_ad G 49))]) hx hb dX3_readTest_7 rfl hl (by decide) rfl (fun ls hl => ?_)
    refine lv_iload_n hx hb dX3_readTest_8 rfl (lv_at hl 0 rfl) ?_
    refine lv_iconst (v := (-1)) hx hb dX3_readTest_9 (by decide) ?_
    refine lv_icmp_ne (tgt := 15) hx hb dX3_readTest_10 (by decide) (fun c3 => ?_) (fun c3 => ?_)
    · replace hf := xw_in' c3 hf
      refine lv_aload_n hx hb dX3_readTest_15 rfl (lv_at hl 1 rfl) ?_
      replace hf := xw_b_e hf
      obtain ⟨r4, w5, he6, hf⟩ := hf
      refine xw_Vv hB hK hE hS hP (As := []) (rest := []) (kX3_advance l G hG w0 _ _ he6) gs_X3_35 (xw_rc hK hP (C := RX3) (T := TX3) (N := 6) (xw_o3 G) rfl) 0 hv_X3_advance ⟨Nat.le_of_ble_eq_true rfl, Nat.le_of_ble_eq_true rfl⟩ rfl hl.1 (Nat.le_of_ble_eq_true rfl) rfl dX3_readTest_16 ⟨Nat.zero_le _, Nat.zero_le _⟩ (fun H locs hP hS => ?_)
      refine lv_aload_n hx hb dX3_readTest_19 rfl (lv_at hl 1 rfl) ?_
      refine xw_get hB hK hP (xw_o3 G) (C := RX3) (T := TX3) (N := 6) rfl TBi_X3 3 (by decide) tw_175 rfl rfl dX3_readTest_20 ?_
      refine lv_topi (fun x2_7 ex2_7 => ?_)
      replace hf := xw_lt_e ex2_7 hf
      refine lv_istore_n (lv' := [(2, .int x2_7), (1, .int r1), (0, .ref (xw_ad G 49))]) hx hb dX3_readTest_23 rfl hl (by decide) rfl (fun ls hl => ?_)
      refine lv_iload_n hx hb dX3_readTest_24 rfl (lv_at hl 0 rfl) ?_
      refine lv_bipush (v := 60) hx hb dX3_readTest_25 (by decide) ?_
      refine lv_icmp_eq (tgt := 44) hx hb dX3_readTest_27 (by decide) (fun c8 => ?_) (fun c8 => ?_)
      · replace hf := xw_ip c8 hf
        exact J44 r1 x2_7 w5 hf H locs ls hP hS (lv_sub hl [2, 1, 0] rfl)
      · replace hf := xw_in' c8 hf
        refine lv_iload_n hx hb dX3_readTest_30 rfl (lv_at hl 0 rfl) ?_
        refine lv_bipush (v := 61) hx hb dX3_readTest_31 (by decide) ?_
        refine lv_icmp_eq (tgt := 44) hx hb dX3_readTest_33 (by decide) (fun c9 => ?_) (fun c9 => ?_)
        · replace hf := xw_ip c9 hf
          exact J44 r1 x2_7 w5 hf H locs ls hP hS (lv_sub hl [2, 1, 0] rfl)
        · replace hf := xw_in' c9 hf
          refine lv_iload_n hx hb dX3_readTest_36 rfl (lv_at hl 0 rfl) ?_
          refine lv_bipush (v := 62) hx hb dX3_readTest_37 (by decide) ?_
          refine lv_icmp_eq (tgt := 44) hx hb dX3_readTest_39 (by decide) (fun c10 => ?_) (fun c10 => ?_)
          · replace hf := xw_ip c10 hf
            exact J44 r1 x2_7 w5 hf H locs ls hP hS (lv_sub hl [2, 1, 0] rfl)
          · replace hf := xw_in' c10 hf
            refine lv_iconst (v := 0) hx hb dX3_readTest_42 (by decide) ?_
            obtain ⟨h0, h1⟩ := xw_s2 hf
            exact xw_zret hB hK hE hS hP hr hlk rfl h0 h1 dX3_readTest_43
    · replace hf := xw_ip c3 hf
      refine lv_iconst (v := 0) hx hb dX3_readTest_13 (by decide) ?_
      obtain ⟨h0, h1⟩ := xw_s2 hf
      exact xw_zret hB hK hE hS hP hr hlk rfl h0 h1 dX3_readTest_14
  exact HH s.heap [] hP hS
