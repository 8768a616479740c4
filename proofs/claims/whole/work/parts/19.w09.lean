def fX8_isOne (a1 : Int32) (w0 : xw_M) : Option Int32 := xw_ck (60 : Int32) 109 (xw_bp (fX8_isIn a1 (0 : Int32) ((w0.1 120 (60 : Int32).toNatClampNeg) - (1 : Int32))) (fun r2 => xw_cc (r2 = 0 ∨ r2 = 1) (some r2)))
set_option maxHeartbeats 4000000 in
set_option maxRecDepth 100000 in
theorem kX8_isOne (l : Launch) (G : xw_G) (hG : xw_ok G) (a1 : Int32) (w0 : xw_M) (r0 : Int32) (hf : fX8_isOne a1 w0 = some r0) : xw_Ti l G yX8_isOne cX8_isOne 2 ((Option.some Jvm.ClassFile.FieldType.boolean)) (1) (22) [.ref (xw_ad G 119), .int a1] w0 r0 w0 := by
  unfold xw_Ti
  refine Met.ofW (cc := cX8_isOne) (maxL := 2) (ret := (Option.some Jvm.ClassFile.FieldType.boolean)) (by decide) rfl ?_
  intro p e s m args below meth c s₁ B hml hv
  obtain ⟨hargs, hP, hK, hE⟩ := hv
  have hx := B.exec
  have hb := B.bytes
  have hr := B.returns
  have hlk := B.notSynchronized
  have hB : CallFix p m c cX8_isOne 2 s args TB RX8 := ⟨hx, hb, hml, findClass_of_methodNamed B.named, fun q h => (atoms_spec (ws := Cond.code yX8_isOne cX8_isOne 2 ((Option.some Jvm.ClassFile.FieldType.boolean)) :: TB) B.pre) q (List.mem_cons_of_mem _ h)⟩
  have hS : va_S (xw_A G) s.heap s.heap [] := va_S.rf
  have hl := lv_entry [.ref (xw_ad G 119), .int a1] (n := 2) (Nat.le_of_ble_eq_true rfl)
  rw [show entryFrame m args 2 = entryFrame m ([.ref (xw_ad G 119), .int a1] : List Value).toArray 2 from by rw [hargs], lg_entry_eq]
  generalize (lg_sl [.ref (xw_ad G 119), .int a1] ++ List.replicate (2 - (lg_sl [.ref (xw_ad G 119), .int a1]).length) Slot.unset).toArray = ls at hl ⊢
  have hP : va_P (xw_D G) xw_cl (xw_W G w0) s.heap := hP
  have hl : lv_has ls 2 [(0, .ref (xw_ad G 119)), (1, .int a1)] := hl
  have HH : ∀ (H : Heap) (locs : List Loc) (hP : va_P (xw_D G) xw_cl (xw_W G w0) H) (hS : va_S (xw_A G) s.heap H locs), xw_Wi G p l e (xw_rm (1) (22)) s m args below meth c H locs r0 w0 (F0 m 0 ls []) := by
    intro H locs hP hS
    unfold fX8_isOne at hf
    refine lv_iload_n hx hb dX8_isOne_0 rfl (lv_at hl 1 rfl) ?_
    refine lv_iconst (v := 0) hx hb dX8_isOne_1 (by decide) ?_
    refine lv_aload_n hx hb dX8_isOne_2 rfl (lv_at hl 0 rfl) ?_
    refine xw_get hB hK hP (xw_o8 G) (C := RX8) (T := TX8) (N := 31) rfl TBi_X8 0 (by decide) tw_728 rfl rfl dX8_isOne_3 ?_
    refine lv_bipush (v := 60) hx hb dX8_isOne_6 (by decide) ?_
    replace hf := xw_ck_e hf
    obtain ⟨hi1, hf⟩ := hf
    refine xw_ild hB hK hP (xw_k120 G) hi1 dX8_isOne_8 ?_
    refine lv_iconst (v := 1) hx hb dX8_isOne_9 (by decide) ?_
    refine lv_isub hx hb dX8_isOne_10 ?_
    replace hf := xw_bp_e hf
    obtain ⟨r2, he3, hf⟩ := hf
    refine xw_Si hB hK hE hS hP (As := [.int a1, .int (0 : Int32), .int ((w0.1 120 (60 : Int32).toNatClampNeg) - (1 : Int32))]) (rest := []) (kX8_isIn l G hG a1 (0 : Int32) ((w0.1 120 (60 : Int32).toNatClampNeg) - (1 : Int32)) w0 _ he3) tw_835 tw_837 tw_836 tw_10 3 hs_X8_isIn ⟨Nat.le_of_ble_eq_true rfl, Nat.le_of_ble_eq_true rfl⟩ rfl hl.1 (Nat.le_of_ble_eq_true rfl) rfl dX8_isOne_11 ⟨Nat.zero_le _, Nat.zero_le _⟩ (fun H locs hP hS => ?_)
    replace hf := xw_cc_e hf
    obtain ⟨hn, hf⟩ := hf
    have h0 := xw_so hf
    have h1 : w0 = w0 := rfl
    exact xw_zret hB hK hE hS hP hr hlk (xw_nar hn) h0 h1 dX8_isOne_14
  exact HH s.heap [] hP hS
def fX8_isHere (a1 : Int32) (w0 : xw_M) : Option Int32 := xw_bp (fX8_one a1 (4 : Int32) w0) (fun r1 => if r1 = 0 then some (1 : Int32) else some (0 : Int32))
set_option maxHeartbeats 4000000 in
set_option maxRecDepth 100000 in
theorem kX8_isHere (l : Launch) (G : xw_G) (hG : xw_ok G) (a1 : Int32) (w0 : xw_M) (r0 : Int32) (hf : fX8_isHere a1 w0 = some r0) : xw_Ti l G yX8_isHere cX8_isHere 2 ((Option.some Jvm.ClassFile.FieldType.boolean)) (1) (22) [.ref (xw_ad G 119), .int a1] w0 r0 w0 := by
  unfold xw_Ti
  refine Met.ofW (cc := cX8_isHere) (maxL := 2) (ret := (Option.some Jvm.ClassFile.FieldType.boolean)) (by decide) rfl ?_
  intro p e s m args below meth c s₁ B hml hv
  obtain ⟨hargs, hP, hK, hE⟩ := hv
  have hx := B.exec
  have hb := B.bytes
  have hr := B.returns
  have hlk := B.notSynchronized
  have hB : CallFix p m c cX8_isHere 2 s args TB RX8 := ⟨hx, hb, hml, findClass_of_methodNamed B.named, fun q h => (atoms_spec (ws := Cond.code yX8_isHere cX8_isHere 2 ((Option.some Jvm.ClassFile.FieldType.boolean)) :: TB) B.pre) q (List.mem_cons_of_mem _ h)⟩
  have hS : va_S (xw_A G) s.heap s.heap [] := va_S.rf
  have hl := lv_entry [.ref (xw_ad G 119), .int a1] (n := 2) (Nat.le_of_ble_eq_true rfl)
  rw [show entryFrame m args 2 = entryFrame m ([.ref (xw_ad G 119), .int a1] : List Value).toArray 2 from by rw [hargs], lg_entry_eq]
  generalize (lg_sl [.ref (xw_ad G 119), .int a1] ++ List.replicate (2 - (lg_sl [.ref (xw_ad G 119), .int a1]).length) Slot.unset).toArray = ls at hl ⊢
  have hP : va_P (xw_D G) xw_cl (xw_W G w0) s.heap := hP
  have hl : lv_has ls 2 [(0, .ref (xw_ad G 119)), (1, .int a1)] := hl
  have HH : ∀ (H : Heap) (locs : List Loc) (hP : va_P (xw_D G) xw_cl (xw_W G w0) H) (hS : va_S (xw_A G) s.heap H locs), xw_Wi G p l e (xw_rm (1) (22)) s m args below meth c H locs r0 w0 (F0 m 0 ls []) := by
    intro H locs hP hS
    unfold fX8_isHere at hf
    refine lv_aload_n hx hb dX8_isHere_0 rfl (lv_at hl 0 rfl) ?_
    refine lv_iload_n hx hb dX8_isHere_1 rfl (lv_at hl 1 rfl) ?_
    refine lv_iconst (v := 4) hx hb dX8_isHere_2 (by decide) ?_
    replace hf := xw_bp_e hf
    obtain ⟨r1, he2, hf⟩ := hf
    refine xw_Vi hB hK hE hS hP (As := [.int a1, .int (4 : Int32)]) (rest := []) (kX8_one l G hG a1 (4 : Int32) w0 _ he2) gs_X8_89 (xw_rc hK hP (C := RX8) (T := TX8) (N := 31) (xw_o8 G) rfl) 2 hv_X8_one ⟨Nat.le_of_ble_eq_true rfl, Nat.le_of_ble_eq_true rfl⟩ rfl hl.1 (Nat.le_of_ble_eq_true rfl) rfl dX8_isHere_3 ⟨Nat.zero_le _, Nat.zero_le _⟩ (fun H locs hP hS => ?_)
    refine lv_if_ne (tgt := 13) hx hb dX8_isHere_6 (by decide) (fun c3 => ?_) (fun c3 => ?_)
    · replace hf := xw_in' c3 hf
      refine lv_iconst (v := 0) hx hb dX8_isHere_13 (by decide) ?_
      have h0 := xw_so hf
      have h1 : w0 = w0 := rfl
      exact xw_zret hB hK hE hS hP hr hlk rfl h0 h1 dX8_isHere_14
    · replace hf := xw_ip c3 hf
      refine lv_iconst (v := 1) hx hb dX8_isHere_9 (by decide) ?_
      refine lv_goto (tgt := 14) hx hb dX8_isHere_10 (by decide) ?_
      have h0 := xw_so hf
      have h1 : w0 = w0 := rfl
      exact xw_zret hB hK hE hS hP hr hlk rfl h0 h1 dX8_isHere_14
  exact HH s.heap [] hP hS
def fX8_isAt (a1 : Int32) (w0 : xw_M) : Option Int32 := if (w0.1 119 12) = 0 then some (0 : Int32) else if (w0.1 119 10) ≤ (w0.1 119 11) then some (0 : Int32) else xw_ck (w0.1 119 11) 100 (if (w0.1 126 (w0.1 119 11).toNatClampNeg) = a1 then some (1 : Int32) else some (0 : Int32))
set_option maxHeartbeats 4000000 in
set_option maxRecDepth 100000 in
theorem kX8_isAt (l : Launch) (G : xw_G) (hG : xw_ok G) (a1 : Int32) (w0 : xw_M) (r0 : Int32) (hf : fX8_isAt a1 w0 = some r0) : xw_Ti l G yX8_isAt cX8_isAt 2 ((Option.some Jvm.ClassFile.FieldType.boolean)) (0) (0) [.ref (xw_ad G 119), .int a1] w0 r0 w0 := by
  unfold xw_Ti
  refine Met.ofW (cc := cX8_isAt) (maxL := 2) (ret := (Option.some Jvm.ClassFile.FieldType.boolean)) (by decide) rfl ?_
  intro p e s m args below meth c s₁ B hml hv
  obtain ⟨hargs, hP, hK, hE⟩ := hv
  have hx := B.exec
  have hb := B.bytes
  have hr := B.returns
  have hlk := B.notSynchronized
  have hB : CallFix p m c cX8_isAt 2 s args TB RX8 := ⟨hx, hb, hml, findClass_of_methodNamed B.named, fun q h => (atoms_spec (ws := Cond.code yX8_isAt cX8_isAt 2 ((Option.some Jvm.ClassFile.FieldType.boolean)) :: TB) B.pre) q (List.mem_cons_of_mem _ h)⟩
  have hS : va_S (xw_A G) s.heap s.heap [] := va_S.rf
  have hl := lv_entry [.ref (xw_ad G 119), .int a1] (n := 2) (Nat.le_of_ble_eq_true rfl)
  rw [show entryFrame m args 2 = entryFrame m ([.ref (xw_ad G 119), .int a1] : List Value).toArray 2 from by rw [hargs], lg_entry_eq]
  generalize (lg_sl [.ref (xw_ad G 119), .int a1] ++ List.replicate (2 - (lg_sl [.ref (xw_ad G 119), .int a1]).length) Slot.unset).toArray = ls at hl ⊢
  have hP : va_P (xw_D G) xw_cl (xw_W G w0) s.heap := hP
  have hl : lv_has ls 2 [(0, .ref (xw_ad G 119)), (1, .int a1)] := hl
  have HH : ∀ (H : Heap) (locs : List Loc) (hP : va_P (xw_D G) xw_cl (xw_W G w0) H) (hS : va_S (xw_A G) s.heap H locs), xw_Wi G p l e (xw_rm (0) (0)) s m args below meth c H locs r0 w0 (F0 m 0 ls []) := by
    intro H locs hP hS
    unfold fX8_isAt at hf
    refine lv_aload_n hx hb dX8_isAt_0 rfl (lv_at hl 0 rfl) ?_
    refine xw_get hB hK hP (xw_o8 G) (C := RX8) (T := TX8) (N := 31) rfl TBi_X8 12 (by decide) tw_740 rfl rfl dX8_isAt_1 ?_
    refine lv_if_eq (tgt := 35) hx hb dX8_isAt_4 (by decide) (fun c1 => ?_) (fun c1 => ?_)
    · replace hf := xw_ip c1 hf
      refine lv_iconst (v := 0) hx hb dX8_isAt_35 (by decide) ?_
      have h0 := xw_so hf
      have h1 : w0 = w0 := rfl
      exact xw_zret hB hK hE hS hP hr hlk rfl h0 h1 dX8_isAt_36
    · replace hf := xw_in' c1 hf
      refine lv_aload_n hx hb dX8_isAt_7 rfl (lv_at hl 0 rfl) ?_
      refine xw_get hB hK hP (xw_o8 G) (C := RX8) (T := TX8) (N := 31) rfl TBi_X8 11 (by decide) tw_739 rfl rfl dX8_isAt_8 ?_
      refine lv_aload_n hx hb dX8_isAt_11 rfl (lv_at hl 0 rfl) ?_
      refine xw_get hB hK hP (xw_o8 G) (C := RX8) (T := TX8) (N := 31) rfl TBi_X8 10 (by decide) tw_738 rfl rfl dX8_isAt_12 ?_
      refine lv_icmp_ge (tgt := 35) hx hb dX8_isAt_15 (by decide) (fun c2 => ?_) (fun c2 => ?_)
      · replace hf := xw_ip c2 hf
        refine lv_iconst (v := 0) hx hb dX8_isAt_35 (by decide) ?_
        have h0 := xw_so hf
        have h1 : w0 = w0 := rfl
        exact xw_zret hB hK hE hS hP hr hlk rfl h0 h1 dX8_isAt_36
      · replace hf := xw_in' c2 hf
        refine lv_aload_n hx hb dX8_isAt_18 rfl (lv_at hl 0 rfl) ?_
        refine xw_get hB hK hP (xw_o8 G) (C := RX8) (T := TX8) (N := 31) rfl TBi_X8 9 (by decide) tw_737 rfl rfl dX8_isAt_19 ?_
        refine lv_aload_n hx hb dX8_isAt_22 rfl (lv_at hl 0 rfl) ?_
        refine xw_get hB hK hP (xw_o8 G) (C := RX8) (T := TX8) (N := 31) rfl TBi_X8 11 (by decide) tw_739 rfl rfl dX8_isAt_23 ?_
        replace hf := xw_ck_e hf
        obtain ⟨hi3, hf⟩ := hf
        refine xw_ild hB hK hP (xw_k126 G) hi3 dX8_isAt_26 ?_
        refine lv_iload_n hx hb dX8_isAt_27 rfl (lv_at hl 1 rfl) ?_
        refine lv_icmp_ne (tgt := 35) hx hb dX8_isAt_28 (by decide) (fun c4 => ?_) (fun c4 => ?_)
        · replace hf := xw_in' c4 hf
          refine lv_iconst (v := 0) hx hb dX8_isAt_35 (by decide) ?_
          have h0 := xw_so hf
          have h1 : w0 = w0 := rfl
          exact xw_zret hB hK hE hS hP hr hlk rfl h0 h1 dX8_isAt_36
        · replace hf := xw_ip c4 hf
          refine lv_iconst (v := 1) hx hb dX8_isAt_31 (by decide) ?_
          refine lv_goto (tgt := 36) hx hb dX8_isAt_32 (by decide) ?_
          have h0 := xw_so hf
          have h1 : w0 = w0 := rfl
          exact xw_zret hB hK hE hS hP hr hlk rfl h0 h1 dX8_isAt_36
  exact HH s.heap [] hP hS
def fX8_takes (a1 : Int32) (w0 : xw_M) : Option (Unit × xw_M) := xw_bp (fX8_isAt a1 w0) (fun r1 => if r1 = 0 then xw_lt (xw_si w0 119 12 (0 : Int32)) (fun w4 => some ((), w4)) else xw_lt (xw_si w0 119 11 ((w0.1 119 11) + (1 : Int32))) (fun w5 => some ((), w5)))
set_option maxHeartbeats 4000000 in
set_option maxRecDepth 100000 in
theorem kX8_takes (l : Launch) (G : xw_G) (hG : xw_ok G) (a1 : Int32) (w0 : xw_M) (r0 : Unit) (wz : xw_M) (hf : fX8_takes a1 w0 = some (r0, wz)) : xw_Tv l G yX8_takes cX8_takes 2 ((Option.none : Option Jvm.ClassFile.FieldType)) (1) (21) [.ref (xw_ad G 119), .int a1] w0 r0 wz := by
  unfold xw_Tv
  refine Met.ofW (cc := cX8_takes) (maxL := 2) (ret := (Option.none : Option Jvm.ClassFile.FieldType)) (by decide) rfl ?_
  intro p e s m args below meth c s₁ B hml hv
  obtain ⟨hargs, hP, hK, hE⟩ := hv
  have hx := B.exec
  have hb := B.bytes
  have hr := B.returns
  have hlk := B.notSynchronized
  have hB : CallFix p m c cX8_takes 2 s args TB RX8 := ⟨hx, hb, hml, findClass_of_methodNamed B.named, fun q h => (atoms_spec (ws := Cond.code yX8_takes cX8_takes 2 ((Option.none : Option Jvm.ClassFile.FieldType)) :: TB) B.pre) q (List.mem_cons_of_mem _ h)⟩
  have hS : va_S (xw_A G) s.heap s.heap [] := va_S.rf
  have hl := lv_entry [.ref (xw_ad G 119), .int a1] (n := 2) (Nat.le_of_ble_eq_true rfl)
  rw [show entryFrame m args 2 = entryFrame m ([.ref (xw_ad G 119), .int a1] : List Value).toArray 2 from by rw [hargs], lg_entry_eq]
  generalize (lg_sl [.ref (xw_ad G 119), .int a1] ++ List.replicate (2 - (lg_sl [.ref (xw_ad G 119), .int a1]).length) Slot.unset).toArray = ls at hl ⊢
  have hP : va_P (xw_D G) xw_cl (xw_W G w0) s.heap := hP
  have hl : lv_has ls 2 [(0, .ref (xw_ad G 119)), (1, .int a1)] := hl
  have HH : ∀ (H : Heap) (locs : List Loc) (hP : va_P (xw_D G) xw_cl (xw_W G w0) H) (hS : va_S (xw_A G) s.heap H locs), xw_Wv G p l e (xw_rm (1) (21)) s m args below meth c H locs r0 wz (F0 m 0 ls []) := by
    intro H locs hP hS
    unfold fX8_takes at hf
    refine lv_aload_n hx hb dX8_takes_0 rfl (lv_at hl 0 rfl) ?_
    refine lv_iload_n hx hb dX8_takes_1 rfl (lv_at hl 1 rfl) ?_
    replace hf := xw_bp_e hf
    obtain ⟨r1, he2, hf⟩ := hf
    refine xw_Vi hB hK hE hS hP (As := [.int a1]) (rest := []) (kX8_isAt l G hG a1 w0 _ he2) gs_X8_130 (xw_rc hK hP (C := RX8) (T := TX8) (N := 31) (xw_o8 G) rfl) 1 hv_X8_isAt ⟨Nat.le_of_ble_eq_true rfl, Nat.le_of_ble_eq_true rfl⟩ rfl hl.1 (Nat.le_of_ble_eq_true rfl) rfl dX8_takes_2 ⟨Nat.zero_le _, Nat.zero_le _⟩ (fun H locs hP hS => ?_)
    refine lv_if_eq (tgt := 21) hx hb dX8_takes_5 (by decide) (fun c3 => ?_) (fun c3 => ?_)
    · replace hf := xw_ip c3 hf
      refine lv_aload_n hx hb dX8_takes_21 rfl (lv_at hl 0 rfl) ?_
      refine lv_iconst (v := 0) hx hb dX8_takes_22 (by decide) ?_
      refine xw_put hG hB hK hS hP (x := (0 : Int32)) (xw_o8 G) (C := RX8) (T := TX8) (N := 31) rfl TBi_X8 tyX8 tyX8_ok nmX8 12 (by decide) tw_740 rfl rfl rfl rfl rfl (Nat.le_of_ble_eq_true rfl) rfl dX8_takes_23 (fun w4 ew4 H locs hP hS => ?_)
      replace hf := xw_lt_e ew4 hf
      obtain ⟨h0, h1⟩ := xw_s2 hf
      exact xw_vret hB hK hE hS hP hr hlk h1 dX8_takes_26
    · replace hf := xw_in' c3 hf
      refine lv_aload_n hx hb dX8_takes_8 rfl (lv_at hl 0 rfl) ?_
      refine lv_dup hx hb dX8_takes_9 rfl ?_
      refine xw_get hB hK hP (xw_o8 G) (C := RX8) (T := TX8) (N := 31) rfl TBi_X8 11 (by decide) tw_739 rfl rfl dX8_takes_10 ?_
      refine lv_iconst (v := 1) hx hb dX8_takes_13 (by decide) ?_
      refine lv_iadd hx hb dX8_takes_14 ?_
      refine xw_put hG hB hK hS hP (x := (w0.1 119 11) + (1 : Int32)) (xw_o8 G) (C := RX8) (T := TX8) (N := 31) rfl TBi_X8 tyX8 tyX8_ok nmX8 11 (by decide) tw_739 rfl rfl rfl rfl rfl (Nat.le_of_ble_eq_true rfl) rfl dX8_takes_15 (fun w5 ew5 H locs hP hS => ?_)
      replace hf := xw_lt_e ew5 hf
      refine lv_goto (tgt := 26) hx hb dX8_takes_18 (by decide) ?_
      obtain ⟨h0, h1⟩ := xw_s2 hf
      exact xw_vret hB hK hE hS hP hr hlk h1 dX8_takes_26
  exact HH s.heap [] hP hS
def fX8_isDigit (w0 : xw_M) : Option Int32 := if (w0.1 119 12) = 0 then some (0 : Int32) else if (w0.1 119 10) ≤ (w0.1 119 11) then some (0 : Int32) else xw_ck (w0.1 119 11) 100 (if (w0.1 126 (w0.1 119 11).toNatClampNeg) < (48 : Int32) then some (0 : Int32) else xw_ck (w0.1 119 11) 100 (if (57 : Int32) < (w0.1 126 (w0.1 119 11).toNatClampNeg) then some (0 : Int32) else some (1 : Int32)))
set_option maxHeartbeats 4000000 in
set_option maxRecDepth 100000 in
theorem kX8_isDigit (l : Launch) (G : xw_G) (hG : xw_ok G) (w0 : xw_M) (r0 : Int32) (hf : fX8_isDigit w0 = some r0) : xw_Ti l G yX8_isDigit cX8_isDigit 1 ((Option.some Jvm.ClassFile.FieldType.boolean)) (0) (0) [.ref (xw_ad G 119)] w0 r0 w0 := by
  unfold xw_Ti
  refine Met.ofW (cc := cX8_isDigit) (maxL := 1) (ret := (Option.some Jvm.ClassFile.FieldType.boolean)) (by decide) rfl ?_
  intro p e s m args below meth c s₁ B hml hv
  obtain ⟨hargs, hP, hK, hE⟩ := hv
  have hx := B.exec
  have hb := B.bytes
  have hr := B.returns
  have hlk := B.notSynchronized
  have hB : CallFix p m c cX8_isDigit 1 s args TB RX8 := ⟨hx, hb, hml, findClass_of_methodNamed B.named, fun q h => (atoms_spec (ws := Cond.code yX8_isDigit cX8_isDigit 1 ((Option.some Jvm.ClassFile.FieldType.boolean)) :: TB) B.pre) q (List.mem_cons_of_mem _ h)⟩
  have hS : va_S (xw_A G) s.heap s.heap [] := va_S.rf
  have hl := lv_entry [.ref (xw_ad G 119)] (n := 1) (Nat.le_of_ble_eq_true rfl)
  rw [show entryFrame m args 1 = entryFrame m ([.ref (xw_ad G 119)] : List Value).toArray 1 from by rw [hargs], lg_entry_eq]
  generalize (lg_sl [.ref (xw_ad G 119)] ++ List.replicate (1 - (lg_sl [.ref (xw_ad G 119)]).length) Slot.unset).toArray = ls at hl ⊢
  have hP : va_P (xw_D G) xw_cl (xw_W G w0) s.heap := hP
  have hl : lv_has ls 1 [(0, .ref (xw_ad G 119))] := hl
  have HH : ∀ (H : Heap) (locs : List Loc) (hP : va_P (xw_D G) xw_cl (xw_W G w0) H) (hS : va_S (xw_A G) s.heap H locs), xw_Wi G p l e (xw_rm (0) (0)) s m args below meth c H locs r0 w0 (F0 m 0 ls []) := by
    intro H locs hP hS
    unfold fX8_isDigit at hf
    refine lv_aload_n hx hb dX8_isDigit_0 rfl (lv_at hl 0 rfl) ?_
    refine xw_get hB hK hP (xw_o8 G) (C := RX8) (T := TX8) (N := 31) rfl TBi_X8 12 (by decide) tw_740 rfl rfl dX8_isDigit_1 ?_
    refine lv_if_eq (tgt := 50) hx hb dX8_isDigit_4 (by decide) (fun c1 => ?_) (fun c1 => ?_)
    · replace hf := xw_ip c1 hf
      refine lv_iconst (v := 0) hx hb dX8_isDigit_50 (by decide) ?_
      have h0 := xw_so hf
      have h1 : w0 = w0 := rfl
      exact xw_zret hB hK hE hS hP hr hlk rfl h0 h1 dX8_isDigit_51
    · replace hf := xw_in' c1 hf
      refine lv_aload_n hx hb dX8_isDigit_7 rfl (lv_at hl 0 rfl) ?_
      refine xw_get hB hK hP (xw_o8 G) (C := RX8) (T := TX8) (N := 31) rfl TBi_X8 11 (by decide) tw_739 rfl rfl dX8_isDigit_8 ?_
      refine lv_aload_n hx hb dX8_isDigit_11 rfl (lv_at hl 0 rfl) ?_
      refine xw_get hB hK hP (xw_o8 G) (C := RX8) (T := TX8) (N := 31) rfl TBi_X8 10 (by decide) tw_738 rfl rfl dX8_isDigit_12 ?_
      refine lv_icmp_ge (tgt := 50) hx hb dX8_isDigit_15 (by decide) (fun c2 => ?_) (fun c2 => ?_)
      · replace hf := xw_ip c2 hf
        refine lv_iconst (v := 0) hx hb dX8_isDigit_50 (by decide) ?_
        have h0 := xw_so hf
        have h1 : w0 = w0 := rfl
        exact xw_zret hB hK hE hS hP hr hlk rfl h0 h1 dX8_isDigit_51
      · replace hf := xw_in' c2 hf
        refine lv_aload_n hx hb dX8_isDigit_18 rfl (lv_at hl 0 rfl) ?_
        refine xw_get hB hK hP (xw_o8 G) (C := RX8) (T := TX8) (N := 31) rfl TBi_X8 9 (by decide) tw_737 rfl rfl dX8_isDigit_19 ?_
        refine lv_aload_n hx hb dX8_isDigit_22 rfl (lv_at hl 0 rfl) ?_
        refine xw_get hB hK hP (xw_o8 G) (C := RX8) (T := TX8) (N := 31) rfl TBi_X8 11 (by decide) tw_739 rfl rfl dX8_isDigit_23 ?_
        replace hf := xw_ck_e hf
        obtain ⟨hi3, hf⟩ := hf
        refine xw_ild hB hK hP (xw_k126 G) hi3 dX8_isDigit_26 ?_
        refine lv_bipush (v := 48) hx hb dX8_isDigit_27 (by decide) ?_
        refine lv_icmp_lt (tgt := 50) hx hb dX8_isDigit_29 (by decide) (fun c4 => ?_) (fun c4 => ?_)
        · replace hf := xw_ip c4 hf
          refine lv_iconst (v := 0) hx hb dX8_isDigit_50 (by decide) ?_
          have h0 := xw_so hf
          have h1 : w0 = w0 := rfl
          exact xw_zret hB hK hE hS hP hr hlk rfl h0 h1 dX8_isDigit_51
        · replace hf := xw_in' c4 hf
          refine lv_aload_n hx hb dX8_isDigit_32 rfl (lv_at hl 0 rfl) ?_
          refine xw_get hB hK hP (xw_o8 G) (C := RX8) (T := TX8) (N := 31) rfl TBi_X8 9 (by decide) tw_737 rfl rfl dX8_isDigit_33 ?_
          refine lv_aload_n hx hb dX8_isDigit_36 rfl (lv_at hl 0 rfl) ?_
          refine xw_get hB hK hP (xw_o8 G) (C := RX8) (T := TX8) (N := 31) rfl TBi_X8 11 (by decide) tw_739 rfl rfl dX8_isDigit_37 ?_
          replace hf := xw_ck_e hf
          obtain ⟨hi5, hf⟩ := hf
          refine xw_ild hB hK hP (xw_k126 G) hi5 dX8_isDigit_40 ?_
          refine lv_bipush (v := 57) hx hb dX8_isDigit_41 (by decide) ?_
          refine lv_icmp_gt (tgt := 50) hx hb dX8_isDigit_43 (by decide) (fun c6 => ?_) (fun c6 => ?_)
          · replace hf := xw_ip c6 hf
            refine lv_iconst (v := 0) hx hb dX8_isDigit_50 (by decide) ?_
            have h0 := xw_so hf
            have h1 : w0 = w0 := rfl
            exact xw_zret hB hK hE hS hP hr hlk rfl h0 h1 dX8_isDigit_51
          · replace hf := xw_in' c6 hf
            refine lv_iconst (v := 1) hx hb dX8_isDigit_46 (by decide) ?_
            refine lv_goto (tgt := 51) hx hb dX8_isDigit_47 (by decide) ?_
            have h0 := xw_so hf
            have h1 : w0 = w0 := rfl
            exact xw_zret hB hK hE hS hP hr hlk rfl h0 h1 dX8_isDigit_51
  exact HH s.heap [] hP hS
def fX8_number (w0 : xw_M) : Option (Int32 × xw_M) := xw_bp (fX8_isDigit w0) (fun r1 => if r1 = 0 then xw_lt (xw_si w0 119 12 (0 : Int32)) (fun w13 => some ((0 : Int32), w13)) else xw_ck (w0.1 119 11) 100 (xw_lt ((w0.1 126 (w0.1 119 11).toNatClampNeg) - (48 : Int32)) (fun x1_5 => xw_lt (xw_si w0 119 11 ((w0.1 119 11) + (1 : Int32))) (fun w6 => xw_bp (fX8_isDigit w6) (fun r7 => if r7 = 0 then some (x1_5, w6) else xw_ck (w6.1 119 11) 100 (xw_lt ((((10 : Int32) * x1_5) + (w6.1 126 (w6.1 119 11).toNatClampNeg)) - (48 : Int32)) (fun x1_11 => xw_lt (xw_si w6 119 11 ((w6.1 119 11) + (1 : Int32))) (fun w12 => some (x1_11, w12)))))))))
set_option maxHeartbeats 4000000 in
set_option maxRecDepth 100000 in
theorem kX8_number (l : Launch) (G : xw_G) (hG : xw_ok G) (w0 : xw_M) (r0 : Int32) (wz : xw_M) (hf : fX8_number w0 = some (r0, wz)) : xw_Ti l G yX8_number cX8_number 2 ((Option.some Jvm.ClassFile.FieldType.int)) (1) (20) [.ref (xw_ad G 119)] w0 r0 wz := by
  unfold xw_Ti
  refine Met.ofW (cc := cX8_number) (maxL := 2) (ret := (Option.some Jvm.ClassFile.FieldType.int)) (by decide) rfl ?_
  intro p e s m args below meth c s₁ B hml hv
  obtain ⟨hargs, hP, hK, hE⟩ := hv
  have hx := B.exec
  have hb := B.bytes
  have hr := B.returns
  have hlk := B.notSynchronized
  have hB : CallFix p m c cX8_number 2 s args TB RX8 := ⟨hx, hb, hml, findClass_of_methodNamed B.named, fun q h => (atoms_spec (ws := Cond.code yX8_number cX8_number 2 ((Option.some Jvm.ClassFile.FieldType.int)) :: TB) B.pre) q (List.mem_cons_of_mem _ h)⟩
  have hS : va_S (xw_A G) s.heap s.heap [] := va_S.rf
  have hl := lv_entry [.ref (xw_ad G 119)] (n := 2) (Nat.le_of_ble_eq_true rfl)
  rw [show entryFrame m args 2 = entryFrame m ([.ref (xw_ad G 119)] : List Value).toArray 2 from by rw [hargs], lg_entry_eq]
  generalize (lg_sl [.ref (xw_ad G 119)] ++ List.replicate (2 - (lg_sl [.ref (xw_ad G 119)]).length) Slot.unset).toArray = ls at hl ⊢
  have hP : va_P (xw_D G) xw_cl (xw_W G w0) s.heap := hP
  have hl : lv_has ls 2 [(0, .ref (xw_ad G 119))] := hl
  have HH : ∀ (H : Heap) (locs : List Loc) (hP : va_P (xw_D G) xw_cl (xw_W G w0) H) (hS : va_S (xw_A G) s.heap H locs), xw_Wi G p l e (xw_rm (1) (20)) s m args below meth c H locs r0 wz (F0 m 0 ls []) := by
    intro H locs hP hS
    unfold fX8_number at hf
    refine lv_aload_n hx hb dX8_number_0 rfl (lv_at hl 0 rfl) ?_
    replace hf := xw_bp_e hf
    obtain ⟨r1, he2, hf⟩ := hf
    refine xw_Vi hB hK hE hS hP (As := []) (rest := []) (kX8_isDigit l G hG w0 _ he2) gs_X8_133 (xw_rc hK hP (C := RX8) (T := TX8) (N := 31) (xw_o8 G) rfl) 0 hv_X8_isDigit ⟨Nat.le_of_ble_eq_true rfl, Nat.le_of_ble_eq_true rfl⟩ rfl hl.1 (Nat.le_of_ble_eq_true rfl) rfl dX8_number_1 ⟨Nat.zero_le _, Nat.zero_le _⟩ (fun H locs hP hS => ?_)
    refine lv_if_ne (tgt := 14) hx hb dX8_number_4 (by decide) (fun c3 => ?_) (fun c3 => ?_)
    · replace hf := xw_in' c3 hf
      refine lv_aload_n hx hb dX8_number_14 rfl (lv_at hl 0 rfl) ?_
      refine xw_get hB hK hP (xw_o8 G) (C := RX8) (T := TX8) (N := 31) rfl TBi_X8 9 (by decide) tw_737 rfl rfl dX8_number_15 ?_
      refine lv_aload_n hx hb dX8_number_18 rfl (lv_at hl 0 rfl) ?_
      refine xw_get hB hK hP (xw_o8 G) (C := RX8) (T := TX8) (N := 31) rfl TBi_X8 11 (by decide) tw_739 rfl rfl dX8_number_19 ?_
      replace hf := xw_ck_e hf
      obtain ⟨hi4, hf⟩ := hf
      refine xw_ild hB hK hP (xw_k126 G) hi4 dX8_number_22 ?_
      refine lv_bipush (v := 48) hx hb dX8_number_23 (by decide) ?_
      refine lv_isub hx hb dX8_number_25 ?_
      refine lv_topi (fun x1_5 ex1_5 => ?_)
      replace hf := xw_lt_e ex1_5 hf
      refine lv_istore_n (lv' := [(1, .int x1_5), (0, .ref (xw_ad G 119))]) hx hb dX8_number_26 rfl hl (by decide) rfl (fun ls hl => ?_)
      refine lv_aload_n hx hb dX8_number_27 rfl (lv_at hl 1 rfl) ?_
      refine lv_dup hx hb dX8_number_28 rfl ?_
      refine xw_get hB hK hP (xw_o8 G) (C := RX8) (T := TX8) (N := 31) rfl TBi_X8 11 (by decide) tw_739 rfl rfl dX8_number_29 ?_
      refine lv_iconst (v := 1) hx hb dX8_number_32 (by decide) ?_
      refine lv_iadd hx hb dX8_number_33 ?_
      refine xw_put hG hB hK hS hP (x := (w0.1 119 11) + (1 : Int32)) (xw_o8 G) (C := RX8) (T := TX8) (N := 31) rfl TBi_X8 tyX8 tyX8_ok nmX8 11 (by decide) tw_739 rfl rfl rfl rfl rfl (Nat.le_of_ble_eq_true rfl) rfl dX8_number_34 (fun w6 ew6 H locs hP hS => ?_)
      replace hf := xw_lt_e ew6 hf
      refine lv_aload_n hx hb dX8_number_37 rfl (lv_at hl 1 rfl) ?_
      replace hf := xw_bp_e hf
      obtain ⟨r7, he8, hf⟩ := hf
      refine xw_Vi hB hK hE hS hP (As := []) (rest := []) (kX8_isDigit l G hG w6 _ he8) gs_X8_133 (xw_rc hK hP (C := RX8) (T := TX8) (N := 31) (xw_o8 G) rfl) 0 hv_X8_isDigit ⟨Nat.le_of_ble_eq_true rfl, Nat.le_of_ble_eq_true rfl⟩ rfl hl.1 (Nat.le_of_ble_eq_true rfl) rfl dX8_number_38 ⟨Nat.zero_le _, Nat.zero_le _⟩ (fun H locs hP hS => ?_)
      refine lv_if_eq (tgt := 72) hx hb dX8_number_41 (by decide) (fun c9 => ?_) (fun c9 => ?_)
      · replace hf := xw_ip c9 hf
        refine lv_iload_n hx hb dX8_number_72 rfl (lv_at hl 0 rfl) ?_
        obtain ⟨h0, h1⟩ := xw_s2 hf
        exact xw_iret hB hK hE hS hP hr hlk h0 h1 dX8_number_73
      · replace hf := xw_in' c9 hf
        refine lv_bipush (v := 10) hx hb dX8_number_44 (by decide) ?_
        refine lv_iload_n hx hb dX8_number_46 rfl (lv_at hl 0 rfl) ?_
        refine lv_imul hx hb dX8_number_47 ?_
        refine lv_aload_n hx hb dX8_number_48 rfl (lv_at hl 1 rfl) ?_
        refine xw_get hB hK hP (xw_o8 G) (C := RX8) (T := TX8) (N := 31) rfl TBi_X8 9 (by decide) tw_737 rfl rfl dX8_number_49 ?_
        refine lv_aload_n hx hb dX8_number_52 rfl (lv_at hl 1 rfl) ?_
        refine xw_get hB hK hP (xw_o8 G) (C := RX8) (T := TX8) (N := 31) rfl TBi_X8 11 (by decide) tw_739 rfl rfl dX8_number_53 ?_
        replace hf := xw_ck_e hf
        obtain ⟨hi10, hf⟩ := hf
        refine xw_ild hB hK hP (xw_k126 G) hi10 dX8_number_56 ?_
        refine lv_iadd hx hb dX8_number_57 ?_
        refine lv_bipush (v := 48) hx hb dX8_number_58 (by decide) ?_
        refine lv_isub hx hb dX8_number_60 ?_
        refine lv_topi (fun x1_11 ex1_11 => ?_)
        replace hf := xw_lt_e ex1_11 hf
        refine lv_istore_n (lv' := [(1, .int x1_11), (0, .ref (xw_ad G 119))]) hx hb dX8_number_61 rfl hl (by decide) rfl (fun ls hl => ?_)
        refine lv_aload_n hx hb dX8_number_62 rfl (lv_at hl 1 rfl) ?_
        refine lv_dup hx hb dX8_number_63 rfl ?_
        refine xw_get hB hK hP (xw_o8 G) (C := RX8) (T := TX8) (N := 31) rfl TBi_X8 11 (by decide) tw_739 rfl rfl dX8_number_64 ?_
        refine lv_iconst (v := 1) hx hb dX8_number_67 (by decide) ?_
        refine lv_iadd hx hb dX8_number_68 ?_
        refine xw_put hG hB hK hS hP (x := (w6.1 119 11) + (1 : Int32)) (xw_o8 G) (C := RX8) (T := TX8) (N := 31) rfl TBi_X8 tyX8 tyX8_ok nmX8 11 (by decide) tw_739 rfl rfl rfl rfl rfl (Nat.le_of_ble_eq_true rfl) rfl dX8_number_69 (fun w12 ew12 H locs hP hS => ?_)
        replace hf := xw_lt_e ew12 hf
        refine lv_iload_n hx hb dX8_number_72 rfl (lv_at hl 0 rfl) ?_
        obtain ⟨h0, h1⟩ := xw_s2 hf
        exact xw_iret hB hK hE hS hP hr hlk h0 h1 dX8_number_73
    · replace hf := xw_ip c3 hf
      refine lv_aload_n hx hb dX8_number_7 rfl (lv_at hl 0 rfl) ?_
      refine lv_iconst (v := 0) hx hb dX8_number_8 (by decide) ?_
      refine xw_put hG hB hK hS hP (x := (0 : Int32)) (xw_o8 G) (C := RX8) (T := TX8) (N := 31) rfl TBi_X8 tyX8 tyX8_ok nmX8 12 (by decide) tw_740 rfl rfl rfl rfl rfl (Nat.le_of_ble_eq_true rfl) rfl dX8_number_9 (fun w13 ew13 H locs hP hS => ?_)
      replace hf := xw_lt_e ew13 hf
      refine lv_iconst (v := 0) hx hb dX8_number_12 (by decide) ?_
      obtain ⟨h0, h1⟩ := xw_s2 hf
      exact xw_iret hB hK hE hS hP hr hlk h0 h1 dX8_number_13
  exact HH s.heap [] hP hS
def fX8_test_106 (n : Nat) (x1 : Int32) (x2 : Int32) (v1 : Int32) (w : xw_M) : Option (Int32 × xw_M) := xw_b (fX8_takes v1 w) (fun (_ : Unit) w19 => xw_b (fX8_number w19) (fun r21 w22 => if 0 ≤ x2 then if x2 ≤ 0 then xw_ck x1 6 (if (w22.1 127 x1.toNatClampNeg) = r21 then some ((1 : Int32), w22) else some ((0 : Int32), w22)) else xw_ck x1 6 (if (w22.1 127 x1.toNatClampNeg) ≤ r21 then some ((0 : Int32), w22) else some ((1 : Int32), w22)) else xw_ck x1 6 (if r21 ≤ (w22.1 127 x1.toNatClampNeg) then some ((0 : Int32), w22) else some ((1 : Int32), w22))))
def fX8_test_84 (n : Nat) (x1 : Int32) (v0 : Int32) (w : xw_M) : Option (Int32 × xw_M) := if 0 ≤ v0 then if v0 ≤ 0 then fX8_test_106 n x1 v0 (61 : Int32) w else fX8_test_106 n x1 v0 (62 : Int32) w else fX8_test_106 n x1 v0 (60 : Int32) w
def fX8_test_35 (n : Nat) (x1 : Int32) (w : xw_M) : Option (Int32 × xw_M) := if x1 = (-1 : Int32) then xw_lt (xw_si w 119 12 (0 : Int32)) (fun w15 => some ((0 : Int32), w15)) else xw_lt (xw_si w 119 11 ((w.1 119 11) + (1 : Int32))) (fun w8 => xw_bp (fX8_isAt (60 : Int32) w8) (fun r9 => if r9 = 0 then xw_bp (fX8_isAt (62 : Int32) w8) (fun r12 => if r12 = 0 then fX8_test_84 n x1 (0 : Int32) w8 else fX8_test_84 n x1 (1 : Int32) w8) else fX8_test_84 n x1 (-1 : Int32) w8))
def fX8_test_28 (n : Nat) (x2 : Int32) (v0 : Int32) (w : xw_M) : Option ((Int32 × Int32) ⊕ (Int32)) := xw_lt (x2 + 1) (fun x2_6 => some (.inl (v0, x2_6)))
def fX8_test_b4 (n : Nat) (x1 : Int32) (x2 : Int32) (w : xw_M) : Option ((Int32 × Int32) ⊕ (Int32)) := if (6 : Int32) ≤ x2 then some (.inr x1) else xw_ck x2 6 (xw_bp (fX8_isAt (w.1 128 x2.toNatClampNeg) w) (fun r3 => if r3 = 0 then fX8_test_28 n x2 x1 w else fX8_test_28 n x2 x2 w))
def fX8_test_4 (n : Nat) (x1 : Int32) (x2 : Int32) (w : xw_M) : Option (Int32 × xw_M) := xw_bp (xw_it (fun z => fX8_test_b4 n z.1 z.2 w) n (x1, x2)) (fun z => (fun (x1 : Int32) => fX8_test_35 n x1 w) z)
def fX8_test (n : Nat) (w0 : xw_M) : Option (Int32 × xw_M) := fX8_test_4 n (-1 : Int32) (0 : Int32) w0
set_option maxHeartbeats 4000000 in
set_option maxRecDepth 100000 in
theorem kX8_test (l : Launch) (G : xw_G) (hG : xw_ok G) (n : Nat) (w0 : xw_M) (r0 : Int32) (wz : xw_M) (hf : fX8_test n w0 = some (r0, wz)) : xw_Ti l G yX8_test cX8_test 4 ((Option.some Jvm.ClassFile.FieldType.boolean)) (2) (42) [.ref (xw_ad G 119)] w0 r0 wz := by
  unfold xw_Ti
  refine Met.ofW (cc := cX8_test) (maxL := 4) (ret := (Option.some Jvm.ClassFile.FieldType.boolean)) (by decide) rfl ?_
  intro p e s m args below meth c s₁ B hml hv
  obtain ⟨hargs, hP, hK, hE⟩ := hv
  have hx := B.exec
  have hb := B.bytes
  have hr := B.returns
  have hlk := B.notSynchronized
  have hB : CallFix p m c cX8_test 4 s args TB RX8 := ⟨hx, hb, hml, findClass_of_methodNamed B.named, fun q h => (atoms_spec (ws := Cond.code yX8_test cX8_test 4 ((Option.some Jvm.ClassFile.FieldType.boolean)) :: TB) B.pre) q (List.mem_cons_of_mem _ h)⟩
  have hS : va_S (xw_A G) s.heap s.heap [] := va_S.rf
  have hl := lv_entry [.ref (xw_ad G 119)] (n := 4) (Nat.le_of_ble_eq_true rfl)
  rw [show entryFrame m args 4 = entryFrame m ([.ref (xw_ad G 119)] : List Value).toArray 4 from by rw [hargs], lg_entry_eq]
  generalize (lg_sl [.ref (xw_ad G 119)] ++ List.replicate (4 - (lg_sl [.ref (xw_ad G 119)]).length) Slot.unset).toArray = ls at hl ⊢
  have hP : va_P (xw_D G) xw_cl (xw_W G w0) s.heap := hP
  have hl : lv_has ls 4 [(0, .ref (xw_ad G 119))] := hl
  have HH : ∀ (H : Heap) (locs : List Loc) (hP : va_P (xw_D G) xw_cl (xw_W G w0) H) (hS : va_S (xw_A G) s.heap H locs), xw_Wi G p l e (xw_rm (2) (42)) s m args below meth c H locs r0 wz (F0 m 0 ls []) := by
    intro H locs hP hS
    unfold fX8_test at hf
    have J106 : ∀ (x1 : Int32) (x2 : Int32) (v1 : Int32) (w : xw_M) (hf : fX8_test_106 n x1 x2 v1 w = some (r0, wz)) (H : Heap) (locs : List Loc) (ls : Array Slot) (hP : va_P (xw_D G) xw_cl (xw_W G w) H) (hS : va_S (xw_A G) s.heap H locs) (hl : lv_has ls 4 [(0, .ref (xw_ad G 119)), (1, .int x1), (2, .int x2)]), xw_Wi G p l e (xw_rm (2) (42)) s m args below meth c H locs r0 wz (F0 m 106 ls [.int v1, .ref (xw_ad G 119)]) := by
      intro x1 x2 v1 w hf H locs ls hP hS hl
      unfold fX8_test_106 at hf
      replace hf := xw_b_e hf
      obtain ⟨r18, w19, he20, hf⟩ := hf
      refine xw_Vv hB hK hE hS hP (As := [.int v1]) (rest := []) (kX8_takes l G hG v1 w _ _ he20) gs_X8_137 (xw_rc hK hP (C := RX8) (T := TX8) (N := 31) (xw_o8 G) rfl) 1 hv_X8_takes ⟨Nat.le_of_ble_eq_true rfl, Nat.le_of_ble_eq_true rfl⟩ rfl hl.1 (Nat.le_of_ble_eq_true rfl) rfl dX8_test_106 ⟨Nat.zero_le _, Nat.zero_le _⟩ (fun H locs hP hS => ?_)
      refine lv_aload_n hx hb dX8_test_109 rfl (lv_at hl 0 rfl) ?_
      replace hf := xw_b_e hf
      obtain ⟨r21, w22, he23, hf⟩ := hf
      refine xw_Vi hB hK hE hS hP (As := []) (rest := []) (kX8_number l G hG w19 _ _ he23) gs_X8_141 (xw_rc hK hP (C := RX8) (T := TX8) (N := 31) (xw_o8 G) rfl) 0 hv_X8_number ⟨Nat.le_of_ble_eq_true rfl, Nat.le_of_ble_eq_true rfl⟩ rfl hl.1 (Nat.le_of_ble_eq_true rfl) rfl dX8_test_110 ⟨Nat.zero_le _, Nat.zero_le _⟩ (fun H locs hP hS => ?_)
      refine lv_istore_n (lv' := [(3, .int r21), (0, .ref (xw_ad G 119)), (1, .int x1), (2, .int x2)]) hx hb dX8_test_113 rfl hl (by decide) rfl (fun ls hl => ?_)
      refine lv_iload_n hx hb dX8_test_114 rfl (lv_at hl 3 rfl) ?_
      refine lv_if_ge (tgt := 136) hx hb dX8_test_115 (by decide) (fun c24 => ?_) (fun c24 => ?_)
      · replace hf := xw_ip c24 hf
        refine lv_iload_n hx hb dX8_test_136 rfl (lv_at hl 3 rfl) ?_
        refine lv_if_le (tgt := 158) hx hb dX8_test_137 (by decide) (fun c25 => ?_) (fun c25 => ?_)
        · replace hf := xw_ip c25 hf
          refine lv_aload_n hx hb dX8_test_158 rfl (lv_at hl 1 rfl) ?_
          refine xw_get hB hK hP (xw_o8 G) (C := RX8) (T := TX8) (N := 31) rfl TBi_X8 16 (by decide) tw_744 rfl rfl dX8_test_159 ?_
          refine lv_iload_n hx hb dX8_test_162 rfl (lv_at hl 2 rfl) ?_
          replace hf := xw_ck_e hf
          obtain ⟨hi26, hf⟩ := hf
          refine xw_ild hB hK hP (xw_k127 G) hi26 dX8_test_163 ?_
          refine lv_iload_n hx hb dX8_test_164 rfl (lv_at hl 0 rfl) ?_
          refine lv_icmp_ne (tgt := 172) hx hb dX8_test_165 (by decide) (fun c27 => ?_) (fun c27 => ?_)
          · replace hf := xw_in' c27 hf
            refine lv_iconst (v := 0) hx hb dX8_test_172 (by decide) ?_
            obtain ⟨h0, h1⟩ := xw_s2 hf
            exact xw_zret hB hK hE hS hP hr hlk rfl h0 h1 dX8_test_173
          · replace hf := xw_ip c27 hf
            refine lv_iconst (v := 1) hx hb dX8_test_168 (by decide) ?_
            refine lv_goto (tgt := 173) hx hb dX8_test_169 (by decide) ?_
            obtain ⟨h0, h1⟩ := xw_s2 hf
            exact xw_zret hB hK hE hS hP hr hlk rfl h0 h1 dX8_test_173
        · replace hf := xw_in' c25 hf
          refine lv_aload_n hx hb dX8_test_140 rfl (lv_at hl 1 rfl) ?_
          refine xw_get hB hK hP (xw_o8 G) (C := RX8) (T := TX8) (N := 31) rfl TBi_X8 16 (by decide) tw_744 rfl rfl dX8_test_141 ?_
          refine lv_iload_n hx hb dX8_test_144 rfl (lv_at hl 2 rfl) ?_
          replace hf := xw_ck_e hf
          obtain ⟨hi28, hf⟩ := hf
          refine xw_ild hB hK hP (xw_k127 G) hi28 dX8_test_145 ?_
          refine lv_iload_n hx hb dX8_test_146 rfl (lv_at hl 0 rfl) ?_
          refine lv_icmp_le (tgt := 154) hx hb dX8_test_147 (by decide) (fun c29 => ?_) (fun c29 => ?_)
          · replace hf := xw_ip c29 hf
            refine lv_iconst (v := 0) hx hb dX8_test_154 (by decide) ?_
            refine lv_goto (tgt := 173) hx hb dX8_test_155 (by decide) ?_
            obtain ⟨h0, h1⟩ := xw_s2 hf
            exact xw_zret hB hK hE hS hP hr hlk rfl h0 h1 dX8_test_173
          · replace hf := xw_in' c29 hf
            refine lv_iconst (v := 1) hx hb dX8_test_150 (by decide) ?_
            refine lv_goto (tgt := 173) hx hb dX8_test_151 (by decide) ?_
            obtain ⟨h0, h1⟩ := xw_s2 hf
            exact xw_zret hB hK hE hS hP hr hlk rfl h0 h1 dX8_test_173
      · replace hf := xw_in' c24 hf
        refine lv_aload_n hx hb dX8_test_118 rfl (lv_at hl 1 rfl) ?_
        refine xw_get hB hK hP (xw_o8 G) (C := RX8) (T := TX8) (N := 31) rfl TBi_X8 16 (by decide) tw_744 rfl rfl dX8_test_119 ?_
        refine lv_iload_n hx hb dX8_test_122 rfl (lv_at hl 2 rfl) ?_
        replace hf := xw_ck_e hf
        obtain ⟨hi30, hf⟩ := hf
        refine xw_ild hB hK hP (xw_k127 G) hi30 dX8_test_123 ?_
        refine lv_iload_n hx hb dX8_test_124 rfl (lv_at hl 0 rfl) ?_
        refine lv_icmp_ge (tgt := 132) hx hb dX8_test_125 (by decide) (fun c31 => ?_) (fun c31 => ?_)
        · replace hf := xw_ip c31 hf
          refine lv_iconst (v := 0) hx hb dX8_test_132 (by decide) ?_
          refine lv_goto (tgt := 173) hx hb dX8_test_133 (by decide) ?_
          obtain ⟨h0, h1⟩ := xw_s2 hf
          exact xw_zret hB hK hE hS hP hr hlk rfl h0 h1 dX8_test_173
        · replace hf := xw_in' c31 hf
          refine lv_iconst (v := 1) hx hb dX8_test_128 (by decide) ?_
          refine lv_goto (tgt := 173) hx hb dX8_test_129 (by decide) ?_
          obtain ⟨h0, h1⟩ := xw_s2 hf
          exact xw_zret hB hK hE hS hP hr hlk rfl h0 h1 dX8_test_173
    have J84 : ∀ (x1 : Int32) (v0 : Int32) (w : xw_M) (hf : fX8_test_84 n x1 v0 w = some (r0, wz)) (H : Heap) (locs : List Loc) (ls : Array Slot) (hP : va_P (xw_D G) xw_cl (xw_W G w) H) (hS : va_S (xw_A G) s.heap H locs) (hl : lv_has ls 4 [(0, .ref (xw_ad G 119)), (1, .int x1)]), xw_Wi G p l e (xw_rm (2) (42)) s m args below meth c H locs r0 wz (F0 m 84 ls [.int v0]) := by
      intro x1 v0 w hf H locs ls hP hS hl
      unfold fX8_test_84 at hf
      refine lv_istore_n (lv' := [(2, .int v0), (0, .ref (xw_ad G 119)), (1, .int x1)]) hx hb dX8_test_84 rfl hl (by decide) rfl (fun ls hl => ?_)
      refine lv_aload_n hx hb dX8_test_85 rfl (lv_at hl 1 rfl) ?_
      refine lv_iload_n hx hb dX8_test_86 rfl (lv_at hl 0 rfl) ?_
      refine lv_if_ge (tgt := 95) hx hb dX8_test_87 (by decide) (fun c16 => ?_) (fun c16 => ?_)
      · replace hf := xw_ip c16 hf
        refine lv_iload_n hx hb dX8_test_95 rfl (lv_at hl 0 rfl) ?_
        refine lv_if_le (tgt := 104) hx hb dX8_test_96 (by decide) (fun c17 => ?_) (fun c17 => ?_)
        · replace hf := xw_ip c17 hf
          refine lv_bipush (v := 61) hx hb dX8_test_104 (by decide) ?_
          exact J106 x1 v0 (61 : Int32) w hf H locs ls hP hS (lv_sub hl [1, 2, 0] rfl)
        · replace hf := xw_in' c17 hf
          refine lv_bipush (v := 62) hx hb dX8_test_99 (by decide) ?_
          refine lv_goto (tgt := 106) hx hb dX8_test_101 (by decide) ?_
          exact J106 x1 v0 (62 : Int32) w hf H locs ls hP hS (lv_sub hl [1, 2, 0] rfl)
      · replace hf := xw_in' c16 hf
        refine lv_bipush (v := 60) hx hb dX8_test_90 (by decide) ?_
        refine lv_goto (tgt := 106) hx hb dX8_test_92 (by decide) ?_
        exact J106 x1 v0 (60 : Int32) w hf H locs ls hP hS (lv_sub hl [1, 2, 0] rfl)
    have J35 : ∀ (x1 : Int32) (w : xw_M) (hf : fX8_test_35 n x1 w = some (r0, wz)) (H : Heap) (locs : List Loc) (ls : Array Slot) (hP : va_P (xw_D G) xw_cl (xw_W G w) H) (hS : va_S (xw_A G) s.heap H locs) (hl : lv_has ls 4 [(0, .ref (xw_ad G 119)), (1, .int x1)]), xw_Wi G p l e (xw_rm (2) (42)) s m args below meth c H locs r0 wz (F0 m 35 ls []) := by
      intro x1 w hf H locs ls hP hS hl
      unfold fX8_test_35 at hf
      refine lv_iload_n hx hb dX8_test_35 rfl (lv_at hl 1 rfl) ?_
      refine lv_iconst (v := (-1)) hx hb dX8_test_36 (by decide) ?_
      refine lv_icmp_ne (tgt := 47) hx hb dX8_test_37 (by decide) (fun c7 => ?_) (fun c7 => ?_)
      · replace hf := xw_in' c7 hf
        refine lv_aload_n hx hb dX8_test_47 rfl (lv_at hl 0 rfl) ?_
        refine lv_dup hx hb dX8_test_48 rfl ?_
        refine xw_get hB hK hP (xw_o8 G) (C := RX8) (T := TX8) (N := 31) rfl TBi_X8 11 (by decide) tw_739 rfl rfl dX8_test_49 ?_
        refine lv_iconst (v := 1) hx hb dX8_test_52 (by decide) ?_
        refine lv_iadd hx hb dX8_test_53 ?_
        refine xw_put hG hB hK hS hP (x := (w.1 119 11) + (1 : Int32)) (xw_o8 G) (C := RX8) (T := TX8) (N := 31) rfl TBi_X8 tyX8 tyX8_ok nmX8 11 (by decide) tw_739 rfl rfl rfl rfl rfl (Nat.le_of_ble_eq_true rfl) rfl dX8_test_54 (fun w8 ew8 H locs hP hS => ?_)
        replace hf := xw_lt_e ew8 hf
        refine lv_aload_n hx hb dX8_test_57 rfl (lv_at hl 0 rfl) ?_
        refine lv_bipush (v := 60) hx hb dX8_test_58 (by decide) ?_
        replace hf := xw_bp_e hf
        obtain ⟨r9, he10, hf⟩ := hf
        refine xw_Vi hB hK hE hS hP (As := [.int (60 : Int32)]) (rest := []) (kX8_isAt l G hG (60 : Int32) w8 _ he10) gs_X8_130 (xw_rc hK hP (C := RX8) (T := TX8) (N := 31) (xw_o8 G) rfl) 1 hv_X8_isAt ⟨Nat.le_of_ble_eq_true rfl, Nat.le_of_ble_eq_true rfl⟩ rfl hl.1 (Nat.le_of_ble_eq_true rfl) rfl dX8_test_60 ⟨Nat.zero_le _, Nat.zero_le _⟩ (fun H locs hP hS => ?_)
        refine lv_if_eq (tgt := 70) hx hb dX8_test_63 (by decide) (fun c11 => ?_) (fun c11 => ?_)
        · replace hf := xw_ip c11 hf
          refine lv_aload_n hx hb dX8_test_70 rfl (lv_at hl 0 rfl) ?_
          refine lv_bipush (v := 62) hx hb dX8_test_71 (by decide) ?_
          replace hf := xw_bp_e hf
          obtain ⟨r12, he13, hf⟩ := hf
          refine xw_Vi hB hK hE hS hP (As := [.int (62 : Int32)]) (rest := []) (kX8_isAt l G hG (62 : Int32) w8 _ he13) gs_X8_130 (xw_rc hK hP (C := RX8) (T := TX8) (N := 31) (xw_o8 G) rfl) 1 hv_X8_isAt ⟨Nat.le_of_ble_eq_true rfl, Nat.le_of_ble_eq_true rfl⟩ rfl hl.1 (Nat.le_of_ble_eq_true rfl) rfl dX8_test_73 ⟨Nat.zero_le _, Nat.zero_le _⟩ (fun H locs hP hS => ?_)
          refine lv_if_eq (tgt := 83) hx hb dX8_test_76 (by decide) (fun c14 => ?_) (fun c14 => ?_)
          · replace hf := xw_ip c14 hf
            refine lv_iconst (v := 0) hx hb dX8_test_83 (by decide) ?_
            exact J84 x1 (0 : Int32) w8 hf H locs ls hP hS (lv_sub hl [0, 1] rfl)
          · replace hf := xw_in' c14 hf
            refine lv_iconst (v := 1) hx hb dX8_test_79 (by decide) ?_
            refine lv_goto (tgt := 84) hx hb dX8_test_80 (by decide) ?_
            exact J84 x1 (1 : Int32) w8 hf H locs ls hP hS (lv_sub hl [0, 1] rfl)
        · replace hf := xw_in' c11 hf
          refine lv_iconst (v := (-1)) hx hb dX8_test_66 (by decide) ?_
          refine lv_goto (tgt := 84) hx hb dX8_test_67 (by decide) ?_
          exact J84 x1 (-1 : Int32) w8 hf H locs ls hP hS (lv_sub hl [0, 1] rfl)
      · replace hf := xw_ip c7 hf
        refine lv_aload_n hx hb dX8_test_40 rfl (lv_at hl 0 rfl) ?_
        refine lv_iconst (v := 0) hx hb dX8_test_41 (by decide) ?_
        refine xw_put hG hB hK hS hP (x := (0 : Int32)) (xw_o8 G) (C := RX8) (T := TX8) (N := 31) rfl TBi_X8 tyX8 tyX8_ok nmX8 12 (by decide) tw_740 rfl rfl rfl rfl rfl (Nat.le_of_ble_eq_true rfl) rfl dX8_test_42 (fun w15 ew15 H locs hP hS => ?_)
        replace hf := xw_lt_e ew15 hf
        refine lv_iconst (v := 0) hx hb dX8_test_45 (by decide) ?_
        obtain ⟨h0, h1⟩ := xw_s2 hf
        exact xw_zret hB hK hE hS hP hr hlk rfl h0 h1 dX8_test_46
    have J4 : ∀ (x1 : Int32) (x2 : Int32) (w : xw_M) (hf : fX8_test_4 n x1 x2 w = some (r0, wz)) (H : Heap) (locs : List Loc) (ls : Array Slot) (hP : va_P (xw_D G) xw_cl (xw_W G w) H) (hS : va_S (xw_A G) s.heap H locs) (hl : lv_has ls 4 [(0, .ref (xw_ad G 119)), (1, .int x1), (2, .int x2)]), xw_Wi G p l e (xw_rm (2) (42)) s m args below meth c H locs r0 wz (F0 m 4 ls []) := by
      intro x1 x2 w hf H locs ls hP hS hl
      unfold fX8_test_4 at hf
      replace hf := xw_bp_e hf
      obtain ⟨bb4, hit4, hfx4⟩ := hf
      have XX4 : ∀ (x1 : Int32) (hf : fX8_test_35 n x1 w = some (r0, wz)) (H : Heap) (locs : List Loc) (ls : Array Slot) (hP : va_P (xw_D G) xw_cl (xw_W G w) H) (hS : va_S (xw_A G) s.heap H locs) (hl : lv_has ls 4 [(0, .ref (xw_ad G 119)), (1, .int x1)]), xw_Wi G p l e (xw_rm (2) (42)) s m args below meth c H locs r0 wz (F0 m 35 ls []) := by
        intro x1 hf H locs ls hP hS hl
        exact J35 x1 w hf H locs ls hP hS (lv_sub hl [0, 1] rfl)
      have LL4 : ∀ (nn : Nat) (x1 : Int32) (x2 : Int32) (hit : xw_it (fun z => fX8_test_b4 n z.1 z.2 w) nn (x1, x2) = some bb4) (H : Heap) (locs : List Loc) (ls : Array Slot) (hP : va_P (xw_D G) xw_cl (xw_W G w) H) (hS : va_S (xw_A G) s.heap H locs) (hl : lv_has ls 4 [(0, .ref (xw_ad G 119)), (1, .int x1), (2, .int x2)]), xw_Wi G p l e (xw_rm (2) (42)) s m args below meth c H locs r0 wz (F0 m 4 ls []) := by
        intro nn
        induction nn with
        | zero => intro x1 x2 hit; exact (xw_it_0 hit).elim
        | succ nn ih4 =>
          intro x1 x2 hit H locs ls hP hS hl
          replace hit := xw_it_e hit
          obtain ⟨wv4, hf, hC4, hX4⟩ := hit
          replace hf : fX8_test_b4 n x1 x2 w = some wv4 := hf
          unfold fX8_test_b4 at hf
          have J28 : ∀ (x2 : Int32) (v0 : Int32) (hf : fX8_test_28 n x2 v0 w = some wv4) (H : Heap) (locs : List Loc) (ls : Array Slot) (hP : va_P (xw_D G) xw_cl (xw_W G w) H) (hS : va_S (xw_A G) s.heap H locs) (hl : lv_has ls 4 [(0, .ref (xw_ad G 119)), (2, .int x2)]), xw_Wi G p l e (xw_rm (2) (42)) s m args below meth c H locs r0 wz (F0 m 28 ls [.int v0]) := by
            intro x2 v0 hf H locs ls hP hS hl
            unfold fX8_test_28 at hf
            refine lv_istore_n (lv' := [(1, .int v0), (0, .ref (xw_ad G 119)), (2, .int x2)]) hx hb dX8_test_28 rfl hl (by decide) rfl (fun ls hl => ?_)
            obtain ⟨x2_6, ex2_6⟩ : ∃ y : Int32, y = x2 + 1 := ⟨_, rfl⟩
            replace hf := xw_lt_e ex2_6 hf
            refine lv_iinc (v := x2_6) (lv' := [(2, .int x2_6), (1, .int v0), (0, .ref (xw_ad G 119))]) hx hb dX8_test_29 hl (k := 2) rfl (by rw [ex2_6]; rfl) (by decide) rfl (fun ls hl => ?_)
            refine lv_goto (tgt := 4) hx hb dX8_test_32 (by decide) ?_
            have hi := hC4 _ (xw_so hf).symm
            exact ih4 v0 x2_6 hi H locs ls hP hS (lv_sub hl [2, 1, 0] rfl)
          refine lv_iload_n hx hb dX8_test_4 rfl (lv_at hl 2 rfl) ?_
          refine lv_bipush (v := 6) hx hb dX8_test_5 (by decide) ?_
          refine lv_icmp_ge (tgt := 35) hx hb dX8_test_7 (by decide) (fun c1 => ?_) (fun c1 => ?_)
          · replace hf := xw_ip c1 hf
            have he4 := hX4 _ (xw_so hf).symm
            rw [← he4] at hfx4
            exact XX4 x1 hfx4 H locs ls hP hS (lv_sub hl [0, 1] rfl)
          · replace hf := xw_in' c1 hf
            refine lv_aload_n hx hb dX8_test_10 rfl (lv_at hl 0 rfl) ?_
            refine lv_aload_n hx hb dX8_test_11 rfl (lv_at hl 0 rfl) ?_
            refine xw_get hB hK hP (xw_o8 G) (C := RX8) (T := TX8) (N := 31) rfl TBi_X8 17 (by decide) tw_745 rfl rfl dX8_test_12 ?_
            refine lv_iload_n hx hb dX8_test_15 rfl (lv_at hl 2 rfl) ?_
            replace hf := xw_ck_e hf
            obtain ⟨hi2, hf⟩ := hf
            refine xw_cld hB hK hP (xw_k128 G) hi2 dX8_test_16 ?_
            replace hf := xw_bp_e hf
            obtain ⟨r3, he4, hf⟩ := hf
            refine xw_Vi hB hK hE hS hP (As := [.int (w.1 128 x2.toNatClampNeg)]) (rest := []) (kX8_isAt l G hG (w.1 128 x2.toNatClampNeg) w _ he4) gs_X8_130 (xw_rc hK hP (C := RX8) (T := TX8) (N := 31) (xw_o8 G) rfl) 1 hv_X8_isAt ⟨Nat.le_of_ble_eq_true rfl, Nat.le_of_ble_eq_true rfl⟩ rfl hl.1 (Nat.le_of_ble_eq_true rfl) rfl dX8_test_17 ⟨Nat.zero_le _, Nat.zero_le _⟩ (fun H locs hP hS => ?_)
            refine lv_if_eq (tgt := 27) hx hb dX8_test_20 (by decide) (fun c5 => ?_) (fun c5 => ?_)
            · replace hf := xw_ip c5 hf
              refine lv_iload_n hx hb dX8_test_27 rfl (lv_at hl 1 rfl) ?_
              exact J28 x2 x1 hf H locs ls hP hS (lv_sub hl [0, 2] rfl)
            · replace hf := xw_in' c5 hf
              refine lv_iload_n hx hb dX8_test_23 rfl (lv_at hl 2 rfl) ?_
              refine lv_goto (tgt := 28) hx hb dX8_test_24 (by decide) ?_
              exact J28 x2 x2 hf H locs ls hP hS (lv_sub hl [0, 2] rfl)
      exact LL4 n x1 x2 hit4 H locs ls hP hS hl
    refine lv_iconst (v := (-1)) hx hb dX8_test_0 (by decide) ?_
    refine lv_istore_n (lv' := [(1, .int (-1 : Int32)), (0, .ref (xw_ad G 119))]) hx hb dX8_test_1 rfl hl (by decide) rfl (fun ls hl => ?_)
    refine lv_iconst (v := 0) hx hb dX8_test_2 (by decide) ?_
    refine lv_istore_n (lv' := [(2, .int (0 : Int32)), (1, .int (-1 : Int32)), (0, .ref (xw_ad G 119))]) hx hb dX8_test_3 rfl hl (by decide) rfl (fun ls hl => ?_)
    exact J4 (-1 : Int32) (0 : Int32) w0 hf H locs ls hP hS (lv_sub hl [2, 1, 0] rfl)
  exact HH s.heap [] hP hS
def fX8_both_46 (n : Nat) (F : xw_M → Option (Int32 × xw_M)) (x1 : Int32) (w : xw_M) : Option (Int32 × xw_M) := xw_cc (x1 = 0 ∨ x1 = 1) (some (x1, w))
def fX8_both_42 (n : Nat) (F : xw_M → Option (Int32 × xw_M)) (v0 : Int32) (w : xw_M) : Option ((Int32 × xw_M) ⊕ (Int32 × xw_M)) := some (.inl (v0, w))
def fX8_both_41 (n : Nat) (F : xw_M → Option (Int32 × xw_M)) (w : xw_M) : Option ((Int32 × xw_M) ⊕ (Int32 × xw_M)) := fX8_both_42 n F (0 : Int32) w
def fX8_both_b5 (n : Nat) (F : xw_M → Option (Int32 × xw_M)) (x1 : Int32) (w : xw_M) : Option ((Int32 × xw_M) ⊕ (Int32 × xw_M)) := xw_bp (fX8_isAt (38 : Int32) w) (fun r4 => if r4 = 0 then some (.inr (x1, w)) else xw_lt (xw_si w 119 11 ((w.1 119 11) + (1 : Int32))) (fun w7 => xw_b (F w7) (fun r8 w9 => if x1 = 0 then fX8_both_41 n F w9 else if r8 = 0 then fX8_both_41 n F w9 else fX8_both_42 n F (1 : Int32) w9)))
def fX8_both_5 (n : Nat) (F : xw_M → Option (Int32 × xw_M)) (x1 : Int32) (w : xw_M) : Option (Int32 × xw_M) := xw_bp (xw_it (fun z => fX8_both_b5 n F z.1 z.2) n (x1, w)) (fun z => (fun (x1 : Int32) (w : xw_M) => fX8_both_46 n F x1 w) z.1 z.2)
def fX8_both (n : Nat) (F : xw_M → Option (Int32 × xw_M)) (w0 : xw_M) : Option (Int32 × xw_M) := xw_b (F w0) (fun r1 w2 => fX8_both_5 n F r1 w2)
set_option maxHeartbeats 4000000 in
set_option maxRecDepth 100000 in
theorem kX8_both (l : Launch) (G : xw_G) (hG : xw_ok G) (n : Nat) (F : xw_M → Option (Int32 × xw_M)) (fr lo : Nat) (hF : ∀ (w : xw_M) (r : Int32) (w' : xw_M), F w = some (r, w') → xw_Ti l G yX8_factor cX8_factor 2 ((Option.some Jvm.ClassFile.FieldType.boolean)) fr lo [.ref (xw_ad G 119)] w r w') (w0 : xw_M) (r0 : Int32) (wz : xw_M) (hf : fX8_both n F w0 = some (r0, wz)) : xw_Ti l G yX8_both cX8_both 3 ((Option.some Jvm.ClassFile.FieldType.boolean)) (fr + 1) (lo + 21) [.ref (xw_ad G 119)] w0 r0 wz := by
  unfold xw_Ti
  refine Met.ofW (cc := cX8_both) (maxL := 3) (ret := (Option.some Jvm.ClassFile.FieldType.boolean)) (by decide) rfl ?_
  intro p e s m args below meth c s₁ B hml hv
  obtain ⟨hargs, hP, hK, hE⟩ := hv
  have hx := B.exec
  have hb := B.bytes
  have hr := B.returns
  have hlk := B.notSynchronized
  have hB : CallFix p m c cX8_both 3 s args TB RX8 := ⟨hx, hb, hml, findClass_of_methodNamed B.named, fun q h => (atoms_spec (ws := Cond.code yX8_both cX8_both 3 ((Option.some Jvm.ClassFile.FieldType.boolean)) :: TB) B.pre) q (List.mem_cons_of_mem _ h)⟩
  have hS : va_S (xw_A G) s.heap s.heap [] := va_S.rf
  have hl := lv_entry [.ref (xw_ad G 119)] (n := 3) (Nat.le_of_ble_eq_true rfl)
  rw [show entryFrame m args 3 = entryFrame m ([.ref (xw_ad G 119)] : List Value).toArray 3 from by rw [hargs], lg_entry_eq]
  generalize (lg_sl [.ref (xw_ad G 119)] ++ List.replicate (3 - (lg_sl [.ref (xw_ad G 119)]).length) Slot.unset).toArray = ls at hl ⊢
  have hP : va_P (xw_D G) xw_cl (xw_W G w0) s.heap := hP
  have hl : lv_has ls 3 [(0, .ref (xw_ad G 119))] := hl
  have HH : ∀ (H : Heap) (locs : List Loc) (hP : va_P (xw_D G) xw_cl (xw_W G w0) H) (hS : va_S (xw_A G) s.heap H locs), xw_Wi G p l e (xw_rm (fr + 1) (lo + 21)) s m args below meth c H locs r0 wz (F0 m 0 ls []) := by
    intro H locs hP hS
    unfold fX8_both at hf
    have J46 : ∀ (x1 : Int32) (w : xw_M) (hf : fX8_both_46 n F x1 w = some (r0, wz)) (H : Heap) (locs : List Loc) (ls : Array Slot) (hP : va_P (xw_D G) xw_cl (xw_W G w) H) (hS : va_S (xw_A G) s.heap H locs) (hl : lv_has ls 3 [(1, .int x1)]), xw_Wi G p l e (xw_rm (fr + 1) (lo + 21)) s m args below meth c H locs r0 wz (F0 m 46 ls []) := by
      intro x1 w hf H locs ls hP hS hl
      unfold fX8_both_46 at hf
      refine lv_iload_n hx hb dX8_both_46 rfl (lv_at hl 0 rfl) ?_
      replace hf := xw_cc_e hf
      obtain ⟨hn, hf⟩ := hf
      obtain ⟨h0, h1⟩ := xw_s2 hf
      exact xw_zret hB hK hE hS hP hr hlk (xw_nar hn) h0 h1 dX8_both_47
    have J5 : ∀ (x1 : Int32) (w : xw_M) (hf : fX8_both_5 n F x1 w = some (r0, wz)) (H : Heap) (locs : List Loc) (ls : Array Slot) (hP : va_P (xw_D G) xw_cl (xw_W G w) H) (hS : va_S (xw_A G) s.heap H locs) (hl : lv_has ls 3 [(0, .ref (xw_ad G 119)), (1, .int x1)]), xw_Wi G p l e (xw_rm (fr + 1) (lo + 21)) s m args below meth c H locs r0 wz (F0 m 5 ls []) := by
      intro x1 w hf H locs ls hP hS hl
      unfold fX8_both_5 at hf
      replace hf := xw_bp_e hf
      obtain ⟨bb5, hit5, hfx5⟩ := hf
      have XX5 : ∀ (x1 : Int32) (w : xw_M) (hf : fX8_both_46 n F x1 w = some (r0, wz)) (H : Heap) (locs : List Loc) (ls : Array Slot) (hP : va_P (xw_D G) xw_cl (xw_W G w) H) (hS : va_S (xw_A G) s.heap H locs) (hl : lv_has ls 3 [(1, .int x1)]), xw_Wi G p l e (xw_rm (fr + 1) (lo + 21)) s m args below meth c H locs r0 wz (F0 m 46 ls []) := by
        intro x1 w hf H locs ls hP hS hl
        exact J46 x1 w hf H locs ls hP hS (lv_sub hl [0] rfl)
      have LL5 : ∀ (nn : Nat) (x1 : Int32) (w : xw_M) (hit : xw_it (fun z => fX8_both_b5 n F z.1 z.2) nn (x1, w) = some bb5) (H : Heap) (locs : List Loc) (ls : Array Slot) (hP : va_P (xw_D G) xw_cl (xw_W G w) H) (hS : va_S (xw_A G) s.heap H locs) (hl : lv_has ls 3 [(0, .ref (xw_ad G 119)), (1, .int x1)]), xw_Wi G p l e (xw_rm (fr + 1) (lo + 21)) s m args below meth c H locs r0 wz (F0 m 5 ls []) := by
        intro nn
        induction nn with
        | zero => intro x1 w hit; exact (xw_it_0 hit).elim
        | succ nn ih5 =>
          intro x1 w hit H locs ls hP hS hl
          replace hit := xw_it_e hit
          obtain ⟨wv5, hf, hC5, hX5⟩ := hit
          replace hf : fX8_both_b5 n F x1 w = some wv5 := hf
          unfold fX8_both_b5 at hf
          have J42 : ∀ (v0 : Int32) (w : xw_M) (hf : fX8_both_42 n F v0 w = some wv5) (H : Heap) (locs : List Loc) (ls : Array Slot) (hP : va_P (xw_D G) xw_cl (xw_W G w) H) (hS : va_S (xw_A G) s.heap H locs) (hl : lv_has ls 3 [(0, .ref (xw_ad G 119))]), xw_Wi G p l e (xw_rm (fr + 1) (lo + 21)) s m args below meth c H locs r0 wz (F0 m 42 ls [.int v0]) := by
            intro v0 w hf H locs ls hP hS hl
            unfold fX8_both_42 at hf
            refine lv_istore_n (lv' := [(1, .int v0), (0, .ref (xw_ad G 119))]) hx hb dX8_both_42 rfl hl (by decide) rfl (fun ls hl => ?_)
            refine lv_goto (tgt := 5) hx hb dX8_both_43 (by decide) ?_
            have hi := hC5 _ (xw_so hf).symm
            exact ih5 v0 w hi H locs ls hP hS (lv_sub hl [1, 0] rfl)
          have J41 : ∀ (w : xw_M) (hf : fX8_both_41 n F w = some wv5) (H : Heap) (locs : List Loc) (ls : Array Slot) (hP : va_P (xw_D G) xw_cl (xw_W G w) H) (hS : va_S (xw_A G) s.heap H locs) (hl : lv_has ls 3 [(0, .ref (xw_ad G 119))]), xw_Wi G p l e (xw_rm (fr + 1) (lo + 21)) s m args below meth c H locs r0 wz (F0 m 41 ls []) := by
            intro w hf H locs ls hP hS hl
            unfold fX8_both_41 at hf
            refine lv_iconst (v := 0) hx hb dX8_both_41 (by decide) ?_
            exact J42 (0 : Int32) w hf H locs ls hP hS (lv_sub hl [0] rfl)
          refine lv_aload_n hx hb dX8_both_5 rfl (lv_at hl 0 rfl) ?_
          refine lv_bipush (v := 38) hx hb dX8_both_6 (by decide) ?_
          replace hf := xw_bp_e hf
          obtain ⟨r4, he5, hf⟩ := hf
          refine xw_Vi hB hK hE hS hP (As := [.int (38 : Int32)]) (rest := []) (kX8_isAt l G hG (38 : Int32) w _ he5) gs_X8_130 (xw_rc hK hP (C := RX8) (T := TX8) (N := 31) (xw_o8 G) rfl) 1 hv_X8_isAt ⟨(by show 0 + 1 ≤ fr + 1; omega), (by show 8 + (2 + 11) + (0) ≤ lo + 21; omega)⟩ rfl hl.1 (Nat.le_of_ble_eq_true rfl) rfl dX8_both_8 ⟨Nat.zero_le _, Nat.zero_le _⟩ (fun H locs hP hS => ?_)
          refine lv_if_eq (tgt := 46) hx hb dX8_both_11 (by decide) (fun c6 => ?_) (fun c6 => ?_)
          · replace hf := xw_ip c6 hf
            have he5 := hX5 _ (xw_so hf).symm
            rw [← he5] at hfx5
            exact XX5 x1 w hfx5 H locs ls hP hS (lv_sub hl [1] rfl)
          · replace hf := xw_in' c6 hf
            refine lv_aload_n hx hb dX8_both_14 rfl (lv_at hl 0 rfl) ?_
            refine lv_dup hx hb dX8_both_15 rfl ?_
            refine xw_get hB hK hP (xw_o8 G) (C := RX8) (T := TX8) (N := 31) rfl TBi_X8 11 (by decide) tw_739 rfl rfl dX8_both_16 ?_
            refine lv_iconst (v := 1) hx hb dX8_both_19 (by decide) ?_
            refine lv_iadd hx hb dX8_both_20 ?_
            refine xw_put hG hB hK hS hP (x := (w.1 119 11) + (1 : Int32)) (xw_o8 G) (C := RX8) (T := TX8) (N := 31) rfl TBi_X8 tyX8 tyX8_ok nmX8 11 (by decide) tw_739 rfl rfl rfl rfl rfl (Nat.le_of_ble_eq_true rfl) rfl dX8_both_21 (fun w7 ew7 H locs hP hS => ?_)
            replace hf := xw_lt_e ew7 hf
            refine lv_aload_n hx hb dX8_both_24 rfl (lv_at hl 0 rfl) ?_
            replace hf := xw_b_e hf
            obtain ⟨r8, w9, he10, hf⟩ := hf
            refine xw_Vi hB hK hE hS hP (As := []) (rest := []) (hF w7 _ _ he10) gs_X8_148 (xw_rc hK hP (C := RX8) (T := TX8) (N := 31) (xw_o8 G) rfl) 0 hv_X8_factor ⟨(by show fr + 1 ≤ fr + 1; omega), (by show 8 + (2 + 11) + (lo) ≤ lo + 21; omega)⟩ rfl hl.1 (Nat.le_of_ble_eq_true rfl) rfl dX8_both_25 ⟨Nat.zero_le _, Nat.zero_le _⟩ (fun H locs hP hS => ?_)
            refine lv_istore_n (lv' := [(2, .int r8), (0, .ref (xw_ad G 119)), (1, .int x1)]) hx hb dX8_both_28 rfl hl (by decide) rfl (fun ls hl => ?_)
            refine lv_iload_n hx hb dX8_both_29 rfl (lv_at hl 2 rfl) ?_
            refine lv_if_eq (tgt := 41) hx hb dX8_both_30 (by decide) (fun c11 => ?_) (fun c11 => ?_)
            · replace hf := xw_ip c11 hf
              exact J41 w9 hf H locs ls hP hS (lv_sub hl [1] rfl)
            · replace hf := xw_in' c11 hf
              refine lv_iload_n hx hb dX8_both_33 rfl (lv_at hl 0 rfl) ?_
              refine lv_if_eq (tgt := 41) hx hb dX8_both_34 (by decide) (fun c12 => ?_) (fun c12 => ?_)
              · replace hf := xw_ip c12 hf
                exact J41 w9 hf H locs ls hP hS (lv_sub hl [1] rfl)
              · replace hf := xw_in' c12 hf
                refine lv_iconst (v := 1) hx hb dX8_both_37 (by decide) ?_
                refine lv_goto (tgt := 42) hx hb dX8_both_38 (by decide) ?_
                exact J42 (1 : Int32) w9 hf H locs ls hP hS (lv_sub hl [1] rfl)
      exact LL5 n x1 w hit5 H locs ls hP hS hl
    refine lv_aload_n hx hb dX8_both_0 rfl (lv_at hl 0 rfl) ?_
    replace hf := xw_b_e hf
    obtain ⟨r1, w2, he3, hf⟩ := hf
    refine xw_Vi hB hK hE hS hP (As := []) (rest := []) (hF w0 _ _ he3) gs_X8_148 (xw_rc hK hP (C := RX8) (T := TX8) (N := 31) (xw_o8 G) rfl) 0 hv_X8_factor ⟨(by show fr + 1 ≤ fr + 1; omega), (by show 8 + (2 + 11) + (lo) ≤ lo + 21; omega)⟩ rfl hl.1 (Nat.le_of_ble_eq_true rfl) rfl dX8_both_1 ⟨Nat.zero_le _, Nat.zero_le _⟩ (fun H locs hP hS => ?_)
    refine lv_istore_n (lv' := [(1, .int r1), (0, .ref (xw_ad G 119))]) hx hb dX8_both_4 rfl hl (by decide) rfl (fun ls hl => ?_)
    exact J5 r1 w2 hf H locs ls hP hS (lv_sub hl [1, 0] rfl)
  exact HH s.heap [] hP hS
def fX8_any_46 (n : Nat) (F : xw_M → Option (Int32 × xw_M)) (x1 : Int32) (w : xw_M) : Option (Int32 × xw_M) := xw_cc (x1 = 0 ∨ x1 = 1) (some (x1, w))
def fX8_any_42 (n : Nat) (F : xw_M → Option (Int32 × xw_M)) (v0 : Int32) (w : xw_M) : Option ((Int32 × xw_M) ⊕ (Int32 × xw_M)) := some (.inl (v0, w))
def fX8_any_37 (n : Nat) (F : xw_M → Option (Int32 × xw_M)) (w : xw_M) : Option ((Int32 × xw_M) ⊕ (Int32 × xw_M)) := fX8_any_42 n F (1 : Int32) w
def fX8_any_b5 (n : Nat) (F : xw_M → Option (Int32 × xw_M)) (x1 : Int32) (w : xw_M) : Option ((Int32 × xw_M) ⊕ (Int32 × xw_M)) := xw_bp (fX8_isAt (124 : Int32) w) (fun r4 => if r4 = 0 then some (.inr (x1, w)) else xw_lt (xw_si w 119 11 ((w.1 119 11) + (1 : Int32))) (fun w7 => xw_b (fX8_both n F w7) (fun r8 w9 => if x1 = 0 then if r8 = 0 then fX8_any_42 n F (0 : Int32) w9 else fX8_any_37 n F w9 else fX8_any_37 n F w9)))
def fX8_any_5 (n : Nat) (F : xw_M → Option (Int32 × xw_M)) (x1 : Int32) (w : xw_M) : Option (Int32 × xw_M) := xw_bp (xw_it (fun z => fX8_any_b5 n F z.1 z.2) n (x1, w)) (fun z => (fun (x1 : Int32) (w : xw_M) => fX8_any_46 n F x1 w) z.1 z.2)
def fX8_any (n : Nat) (F : xw_M → Option (Int32 × xw_M)) (w0 : xw_M) : Option (Int32 × xw_M) := xw_b (fX8_both n F w0) (fun r1 w2 => fX8_any_5 n F r1 w2)
set_option maxHeartbeats 4000000 in
set_option maxRecDepth 100000 in
theorem kX8_any (l : Launch) (G : xw_G) (hG : xw_ok G) (n : Nat) (F : xw_M → Option (Int32 × xw_M)) (fr lo : Nat) (hF : ∀ (w : xw_M) (r : Int32) (w' : xw_M), F w = some (r, w') → xw_Ti l G yX8_factor cX8_factor 2 ((Option.some Jvm.ClassFile.FieldType.boolean)) fr lo [.ref (xw_ad G 119)] w r w') (w0 : xw_M) (r0 : Int32) (wz : xw_M) (hf : fX8_any n F w0 = some (r0, wz)) : xw_Ti l G yX8_any cX8_any 3 ((Option.some Jvm.ClassFile.FieldType.boolean)) (fr + 2) (lo + 43) [.ref (xw_ad G 119)] w0 r0 wz := by
  unfold xw_Ti
  refine Met.ofW (cc := cX8_any) (maxL := 3) (ret := (Option.some Jvm.ClassFile.FieldType.boolean)) (by decide) rfl ?_
  intro p e s m args below meth c s₁ B hml hv
  obtain ⟨hargs, hP, hK, hE⟩ := hv
  have hx := B.exec
  have hb := B.bytes
  have hr := B.returns
  have hlk := B.notSynchronized
  have hB : CallFix p m c cX8_any 3 s args TB RX8 := ⟨hx, hb, hml, findClass_of_methodNamed B.named, fun q h => (atoms_spec (ws := Cond.code yX8_any cX8_any 3 ((Option.some Jvm.ClassFile.FieldType.boolean)) :: TB) B.pre) q (List.mem_cons_of_mem _ h)⟩
  have hS : va_S (xw_A G) s.heap s.heap [] := va_S.rf
  have hl := lv_entry [.ref (xw_ad G 119)] (n := 3) (Nat.le_of_ble_eq_true rfl)
  rw [show entryFrame m args 3 = entryFrame m ([.ref (xw_ad G 119)] : List Value).toArray 3 from by rw [hargs], lg_entry_eq]
  generalize (lg_sl [.ref (xw_ad G 119)] ++ List.replicate (3 - (lg_sl [.ref (xw_ad G 119)]).length) Slot.unset).toArray = ls at hl ⊢
  have hP : va_P (xw_D G) xw_cl (xw_W G w0) s.heap := hP
  have hl : lv_has ls 3 [(0, .ref (xw_ad G 119))] := hl
  have HH : ∀ (H : Heap) (locs : List Loc) (hP : va_P (xw_D G) xw_cl (xw_W G w0) H) (hS : va_S (xw_A G) s.heap H locs), xw_Wi G p l e (xw_rm (fr + 2) (lo + 43)) s m args below meth c H locs r0 wz (F0 m 0 ls []) := by
    intro H locs hP hS
    unfold fX8_any at hf
    have J46 : ∀ (x1 : Int32) (w : xw_M) (hf : fX8_any_46 n F x1 w = some (r0, wz)) (H : Heap) (locs : List Loc) (ls : Array Slot) (hP : va_P (xw_D G) xw_cl (xw_W G w) H) (hS : va_S (xw_A G) s.heap H locs) (hl : lv_has ls 3 [(1, .int x1)]), xw_Wi G p l e (xw_rm (fr + 2) (lo + 43)) s m args below meth c H locs r0 wz (F0 m 46 ls []) := by
      intro x1 w hf H locs ls hP hS hl
      unfold fX8_any_46 at hf
      refine lv_iload_n hx hb dX8_any_46 rfl (lv_at hl 0 rfl) ?_
      replace hf := xw_cc_e hf
      obtain ⟨hn, hf⟩ := hf
      obtain ⟨h0, h1⟩ := xw_s2 hf
      exact xw_zret hB hK hE hS hP hr hlk (xw_nar hn) h0 h1 dX8_any_47
    have J5 : ∀ (x1 : Int32) (w : xw_M) (hf : fX8_any_5 n F x1 w = some (r0, wz)) (H : Heap) (locs : List Loc) (ls : Array Slot) (hP : va_P (xw_D G) xw_cl (xw_W G w) H) (hS : va_S (xw_A G) s.heap H locs) (hl : lv_has ls 3 [(0, .ref (xw_ad G 119)), (1, .int x1)]), xw_Wi G p l e (xw_rm (fr + 2) (lo + 43)) s m args below meth c H locs r0 wz (F0 m 5 ls []) := by
      intro x1 w hf H locs ls hP hS hl
      unfold fX8_any_5 at hf
      replace hf := xw_bp_e hf
      obtain ⟨bb5, hit5, hfx5⟩ := hf
      have XX5 : ∀ (x1 : Int32) (w : xw_M) (hf : fX8_any_46 n F x1 w = some (r0, wz)) (H : Heap) (locs : List Loc) (ls : Array Slot) (hP : va_P (xw_D G) xw_cl (xw_W G w) H) (hS : va_S (xw_A G) s.heap H locs) (hl : lv_has ls 3 [(1, .int x1)]), xw_Wi G p l e (xw_rm (fr + 2) (lo + 43)) s m args below meth c H locs r0 wz (F0 m 46 ls []) := by
        intro x1 w hf H locs ls hP hS hl
        exact J46 x1 w hf H locs ls hP hS (lv_sub hl [0] rfl)
      have LL5 : ∀ (nn : Nat) (x1 : Int32) (w : xw_M) (hit : xw_it (fun z => fX8_any_b5 n F z.1 z.2) nn (x1, w) = some bb5) (H : Heap) (locs : List Loc) (ls : Array Slot) (hP : va_P (xw_D G) xw_cl (xw_W G w) H) (hS : va_S (xw_A G) s.heap H locs) (hl : lv_has ls 3 [(0, .ref (xw_ad G 119)), (1, .int x1)]), xw_Wi G p l e (xw_rm (fr + 2) (lo + 43)) s m args below meth c H locs r0 wz (F0 m 5 ls []) := by
        intro nn
        induction nn with
        | zero => intro x1 w hit; exact (xw_it_0 hit).elim
        | succ nn ih5 =>
          intro x1 w hit H locs ls hP hS hl
          replace hit := xw_it_e hit
          obtain ⟨wv5, hf, hC5, hX5⟩ := hit
          replace hf : fX8_any_b5 n F x1 w = some wv5 := hf
          unfold fX8_any_b5 at hf
          have J42 : ∀ (v0 : Int32) (w : xw_M) (hf : fX8_any_42 n F v0 w = some wv5) (H : Heap) (locs : List Loc) (ls : Array Slot) (hP : va_P (xw_D G) xw_cl (xw_W G w) H) (hS : va_S (xw_A G) s.heap H locs) (hl : lv_has ls 3 [(0, .ref (xw_ad G 119))]), xw_Wi G p l e (xw_rm (fr + 2) (lo + 43)) s m args below meth c H locs r0 wz (F0 m 42 ls [.int v0]) := by
            intro v0 w hf H locs ls hP hS hl
            unfold fX8_any_42 at hf
            refine lv_istore_n (lv' := [(1, .int v0), (0, .ref (xw_ad G 119))]) hx hb dX8_any_42 rfl hl (by decide) rfl (fun ls hl => ?_)
            refine lv_goto (tgt := 5) hx hb dX8_any_43 (by decide) ?_
            have hi := hC5 _ (xw_so hf).symm
            exact ih5 v0 w hi H locs ls hP hS (lv_sub hl [1, 0] rfl)
          have J37 : ∀ (w : xw_M) (hf : fX8_any_37 n F w = some wv5) (H : Heap) (locs : List Loc) (ls : Array Slot) (hP : va_P (xw_D G) xw_cl (xw_W G w) H) (hS : va_S (xw_A G) s.heap H locs) (hl : lv_has ls 3 [(0, .ref (xw_ad G 119))]), xw_Wi G p l e (xw_rm (fr + 2) (lo + 43)) s m args below meth c H locs r0 wz (F0 m 37 ls []) := by
            intro w hf H locs ls hP hS hl
            unfold fX8_any_37 at hf
            refine lv_iconst (v := 1) hx hb dX8_any_37 (by decide) ?_
            refine lv_goto (tgt := 42) hx hb dX8_any_38 (by decide) ?_
            exact J42 (1 : Int32) w hf H locs ls hP hS (lv_sub hl [0] rfl)
          refine lv_aload_n hx hb dX8_any_5 rfl (lv_at hl 0 rfl) ?_
          refine lv_bipush (v := 124) hx hb dX8_any_6 (by decide) ?_
          replace hf := xw_bp_e hf
          obtain ⟨r4, he5, hf⟩ := hf
          refine xw_Vi hB hK hE hS hP (As := [.int (124 : Int32)]) (rest := []) (kX8_isAt l G hG (124 : Int32) w _ he5) gs_X8_130 (xw_rc hK hP (C := RX8) (T := TX8) (N := 31) (xw_o8 G) rfl) 1 hv_X8_isAt ⟨(by show 0 + 1 ≤ fr + 2; omega), (by show 8 + (2 + 11) + (0) ≤ lo + 43; omega)⟩ rfl hl.1 (Nat.le_of_ble_eq_true rfl) rfl dX8_any_8 ⟨Nat.zero_le _, Nat.zero_le _⟩ (fun H locs hP hS => ?_)
          refine lv_if_eq (tgt := 46) hx hb dX8_any_11 (by decide) (fun c6 => ?_) (fun c6 => ?_)
          · replace hf := xw_ip c6 hf
            have he5 := hX5 _ (xw_so hf).symm
            rw [← he5] at hfx5
            exact XX5 x1 w hfx5 H locs ls hP hS (lv_sub hl [1] rfl)
          · replace hf := xw_in' c6 hf
            refine lv_aload_n hx hb dX8_any_14 rfl (lv_at hl 0 rfl) ?_
            refine lv_dup hx hb dX8_any_15 rfl ?_
            refine xw_get hB hK hP (xw_o8 G) (C := RX8) (T := TX8) (N := 31) rfl TBi_X8 11 (by decide) tw_739 rfl rfl dX8_any_16 ?_
            refine lv_iconst (v := 1) hx hb dX8_any_19 (by decide) ?_
            refine lv_iadd hx hb dX8_any_20 ?_
            refine xw_put hG hB hK hS hP (x := (w.1 119 11) + (1 : Int32)) (xw_o8 G) (C := RX8) (T := TX8) (N := 31) rfl TBi_X8 tyX8 tyX8_ok nmX8 11 (by decide) tw_739 rfl rfl rfl rfl rfl (Nat.le_of_ble_eq_true rfl) rfl dX8_any_21 (fun w7 ew7 H locs hP hS => ?_)
            replace hf := xw_lt_e ew7 hf
            refine lv_aload_n hx hb dX8_any_24 rfl (lv_at hl 0 rfl) ?_
            replace hf := xw_b_e hf
            obtain ⟨r8, w9, he10, hf⟩ := hf
            refine xw_Vi hB hK hE hS hP (As := []) (rest := []) (kX8_both l G hG n F fr lo hF w7 _ _ he10) gs_X8_157 (xw_rc hK hP (C := RX8) (T := TX8) (N := 31) (xw_o8 G) rfl) 0 hv_X8_both ⟨(by show fr + 1 + 1 ≤ fr + 2; omega), (by show 8 + (3 + 11) + (lo + 21) ≤ lo + 43; omega)⟩ rfl hl.1 (Nat.le_of_ble_eq_true rfl) rfl dX8_any_25 ⟨Nat.zero_le _, Nat.zero_le _⟩ (fun H locs hP hS => ?_)
            refine lv_istore_n (lv' := [(2, .int r8), (0, .ref (xw_ad G 119)), (1, .int x1)]) hx hb dX8_any_28 rfl hl (by decide) rfl (fun ls hl => ?_)
            refine lv_iload_n hx hb dX8_any_29 rfl (lv_at hl 2 rfl) ?_
            refine lv_if_ne (tgt := 37) hx hb dX8_any_30 (by decide) (fun c11 => ?_) (fun c11 => ?_)
            · replace hf := xw_in' c11 hf
              exact J37 w9 hf H locs ls hP hS (lv_sub hl [1] rfl)
            · replace hf := xw_ip c11 hf
              refine lv_iload_n hx hb dX8_any_33 rfl (lv_at hl 0 rfl) ?_
              refine lv_if_eq (tgt := 41) hx hb dX8_any_34 (by decide) (fun c12 => ?_) (fun c12 => ?_)
              · replace hf := xw_ip c12 hf
                refine lv_iconst (v := 0) hx hb dX8_any_41 (by decide) ?_
                exact J42 (0 : Int32) w9 hf H locs ls hP hS (lv_sub hl [1] rfl)
              · replace hf := xw_in' c12 hf
                exact J37 w9 hf H locs ls hP hS (lv_sub hl [1] rfl)
      exact LL5 n x1 w hit5 H locs ls hP hS hl
    refine lv_aload_n hx hb dX8_any_0 rfl (lv_at hl 0 rfl) ?_
    replace hf := xw_b_e hf
    obtain ⟨r1, w2, he3, hf⟩ := hf
    refine xw_Vi hB hK hE hS hP (As := []) (rest := []) (kX8_both l G hG n F fr lo hF w0 _ _ he3) gs_X8_157 (xw_rc hK hP (C := RX8) (T := TX8) (N := 31) (xw_o8 G) rfl) 0 hv_X8_both ⟨(by show fr + 1 + 1 ≤ fr + 2; omega), (by show 8 + (3 + 11) + (lo + 21) ≤ lo + 43; omega)⟩ rfl hl.1 (Nat.le_of_ble_eq_true rfl) rfl dX8_any_1 ⟨Nat.zero_le _, Nat.zero_le _⟩ (fun H locs hP hS => ?_)
    refine lv_istore_n (lv' := [(1, .int r1), (0, .ref (xw_ad G 119))]) hx hb dX8_any_4 rfl hl (by decide) rfl (fun ls hl => ?_)
    exact J5 r1 w2 hf H locs ls hP hS (lv_sub hl [1, 0] rfl)
  exact HH s.heap [] hP hS
def fX8_factor_s_124 (n : Nat) (F : xw_M → Option (Int32 × xw_M)) (w : xw_M) : Option (Int32 × xw_M) := xw_b (fX8_test n w) (fun r25 w26 => xw_cc (r25 = 0 ∨ r25 = 1) (some (r25, w26)))
def fX8_factor_s_63 (n : Nat) (F : xw_M → Option (Int32 × xw_M)) (w : xw_M) : Option (Int32 × xw_M) := if (4 : Int32) ≤ (w.1 119 13) then fX8_factor_s_124 n F w else xw_bp (fX8_isAt (40 : Int32) w) (fun r13 => if r13 = 0 then fX8_factor_s_124 n F w else xw_lt (xw_si w 119 11 ((w.1 119 11) + (1 : Int32))) (fun w16 => xw_lt (xw_si w16 119 13 ((w16.1 119 13) + (1 : Int32))) (fun w17 => xw_b (fX8_any n F w17) (fun r18 w19 => xw_lt (xw_si w19 119 13 ((w19.1 119 13) - (1 : Int32))) (fun w21 => xw_b (fX8_takes (41 : Int32) w21) (fun (_ : Unit) w23 => xw_cc (r18 = 0 ∨ r18 = 1) (some (r18, w23))))))))
def fX8_factor_s_49 (n : Nat) (F : xw_M → Option (Int32 × xw_M)) (v0 : Int32) (w : xw_M) : Option (Int32 × xw_M) := xw_lt (xw_si w 119 13 ((w.1 119 13) - (1 : Int32))) (fun w11 => xw_cc (v0 = 0 ∨ v0 = 1) (some (v0, w11)))
def fX8_factor_s (n : Nat) (F : xw_M → Option (Int32 × xw_M)) (w0 : xw_M) : Option (Int32 × xw_M) := if (4 : Int32) ≤ (w0.1 119 13) then fX8_factor_s_63 n F w0 else xw_bp (fX8_isAt (33 : Int32) w0) (fun r2 => if r2 = 0 then fX8_factor_s_63 n F w0 else xw_lt (xw_si w0 119 11 ((w0.1 119 11) + (1 : Int32))) (fun w5 => xw_lt (xw_si w5 119 13 ((w5.1 119 13) + (1 : Int32))) (fun w6 => xw_b (F w6) (fun r7 w8 => if r7 = 0 then fX8_factor_s_49 n F (1 : Int32) w8 else fX8_factor_s_49 n F (0 : Int32) w8))))
set_option maxHeartbeats 4000000 in
set_option maxRecDepth 100000 in
theorem kX8_factor_s (l : Launch) (G : xw_G) (hG : xw_ok G) (n : Nat) (F : xw_M → Option (Int32 × xw_M)) (fr lo : Nat) (hF : ∀ (w : xw_M) (r : Int32) (w' : xw_M), F w = some (r, w') → xw_Ti l G yX8_factor cX8_factor 2 ((Option.some Jvm.ClassFile.FieldType.boolean)) fr lo [.ref (xw_ad G 119)] w r w') (w0 : xw_M) (r0 : Int32) (wz : xw_M) (hf : fX8_factor_s n F w0 = some (r0, wz)) : xw_Ti l G yX8_factor cX8_factor 2 ((Option.some Jvm.ClassFile.FieldType.boolean)) (fr + 3) (lo + 65) [.ref (xw_ad G 119)] w0 r0 wz := by
  unfold xw_Ti
  refine Met.ofW (cc := cX8_factor) (maxL := 2) (ret := (Option.some Jvm.ClassFile.FieldType.boolean)) (by decide) rfl ?_
  intro p e s m args below meth c s₁ B hml hv
  obtain ⟨hargs, hP, hK, hE⟩ := hv
  have hx := B.exec
  have hb := B.bytes
  have hr := B.returns
  have hlk := B.notSynchronized
  have hB : CallFix p m c cX8_factor 2 s args TB RX8 := ⟨hx, hb, hml, findClass_of_methodNamed B.named, fun q h => (atoms_spec (ws := Cond.code yX8_factor cX8_factor 2 ((Option.some Jvm.ClassFile.FieldType.boolean)) :: TB) B.pre) q (List.mem_cons_of_mem _ h)⟩
  have hS : va_S (xw_A G) s.heap s.heap [] := va_S.rf
  have hl := lv_entry [.ref (xw_ad G 119)] (n := 2) (Nat.le_of_ble_eq_true rfl)
  rw [show entryFrame m args 2 = entryFrame m ([.ref (xw_ad G 119)] : List Value).toArray 2 from by rw [hargs], lg_entry_eq]
  generalize (lg_sl [.ref (xw_ad G 119)] ++ List.replicate (2 - (lg_sl [.ref (xw_ad G 119)]).length) Slot.unset).toArray = ls at hl ⊢
  have hP : va_P (xw_D G) xw_cl (xw_W G w0) s.heap := hP
  have hl : lv_has ls 2 [(0, .ref (xw_ad G 119))] := hl
  have HH : ∀ (H : Heap) (locs : List Loc) (hP : va_P (xw_D G) xw_cl (xw_W G w0) H) (hS : va_S (xw_A G) s.heap H locs), xw_Wi G p l e (xw_rm (fr + 3) (lo + 65)) s m args below meth c H locs r0 wz (F0 m 0 ls []) := by
    intro H locs hP hS
    unfold fX8_factor_s at hf
    have J124 : ∀ (w : xw_M) (hf : fX8_factor_s_124 n F w = some (r0, wz)) (H : Heap) (locs : List Loc) (ls : Array Slot) (hP : va_P (xw_D G) xw_cl (xw_W G w) H) (hS : va_S (xw_A G) s.heap H locs) (hl : lv_has ls 2 [(0, .ref (xw_ad G 119))]), xw_Wi G p l e (xw_rm (fr + 3) (lo + 65)) s m args below meth c H locs r0 wz (F0 m 124 ls []) := by
      intro w hf H locs ls hP hS hl
      unfold fX8_factor_s_124 at hf
      refine lv_aload_n hx hb dX8_factor_124 rfl (lv_at hl 0 rfl) ?_
      replace hf := xw_b_e hf
      obtain ⟨r25, w26, he27, hf⟩ := hf
      refine xw_Vi hB hK hE hS hP (As := []) (rest := []) (kX8_test l G hG n w _ _ he27) gs_X8_154 (xw_rc hK hP (C := RX8) (T := TX8) (N := 31) (xw_o8 G) rfl) 0 hv_X8_test ⟨(by show 2 + 1 ≤ fr + 3; omega), (by show 8 + (4 + 11) + (42) ≤ lo + 65; omega)⟩ rfl hl.1 (Nat.le_of_ble_eq_true rfl) rfl dX8_factor_125 ⟨Nat.zero_le _, Nat.zero_le _⟩ (fun H locs hP hS => ?_)
      refine lv_istore_n (lv' := [(1, .int r25), (0, .ref (xw_ad G 119))]) hx hb dX8_factor_128 rfl hl (by decide) rfl (fun ls hl => ?_)
      refine lv_iload_n hx hb dX8_factor_129 rfl (lv_at hl 0 rfl) ?_
      replace hf := xw_cc_e hf
      obtain ⟨hn, hf⟩ := hf
      obtain ⟨h0, h1⟩ := xw_s2 hf
      exact xw_zret hB hK hE hS hP hr hlk (xw_nar hn) h0 h1 dX8_factor_130
    have J63 : ∀ (w : xw_M) (hf : fX8_factor_s_63 n F w = some (r0, wz)) (H : Heap) (locs : List Loc) (ls : Array Slot) (hP : va_P (xw_D G) xw_cl (xw_W G w) H) (hS : va_S (xw_A G) s.heap H locs) (hl : lv_has ls 2 [(0, .ref (xw_ad G 119))]), xw_Wi G p l e (xw_rm (fr + 3) (lo + 65)) s m args below meth c H locs r0 wz (F0 m 63 ls []) := by
      intro w hf H locs ls hP hS hl
      unfold fX8_factor_s_63 at hf
      refine lv_aload_n hx hb dX8_factor_63 rfl (lv_at hl 0 rfl) ?_
      refine xw_get hB hK hP (xw_o8 G) (C := RX8) (T := TX8) (N := 31) rfl TBi_X8 13 (by decide) tw_741 rfl rfl dX8_factor_64 ?_
      refine lv_iconst (v := 4) hx hb dX8_factor_67 (by decide) ?_
      refine lv_icmp_ge (tgt := 124) hx hb dX8_factor_68 (by decide) (fun c12 => ?_) (fun c12 => ?_)
      · replace hf := xw_ip c12 hf
        exact J124 w hf H locs ls hP hS (lv_sub hl [0] rfl)
      · replace hf := xw_in' c12 hf
        refine lv_aload_n hx hb dX8_factor_71 rfl (lv_at hl 0 rfl) ?_
        refine lv_bipush (v := 40) hx hb dX8_factor_72 (by decide) ?_
        replace hf := xw_bp_e hf
        obtain ⟨r13, he14, hf⟩ := hf
        refine xw_Vi hB hK hE hS hP (As := [.int (40 : Int32)]) (rest := []) (kX8_isAt l G hG (40 : Int32) w _ he14) gs_X8_130 (xw_rc hK hP (C := RX8) (T := TX8) (N := 31) (xw_o8 G) rfl) 1 hv_X8_isAt ⟨(by show 0 + 1 ≤ fr + 3; omega), (by show 8 + (2 + 11) + (0) ≤ lo + 65; omega)⟩ rfl hl.1 (Nat.le_of_ble_eq_true rfl) rfl dX8_factor_74 ⟨Nat.zero_le _, Nat.zero_le _⟩ (fun H locs hP hS => ?_)
        refine lv_if_eq (tgt := 124) hx hb dX8_factor_77 (by decide) (fun c15 => ?_) (fun c15 => ?_)
        · replace hf := xw_ip c15 hf
          exact J124 w hf H locs ls hP hS (lv_sub hl [0] rfl)
        · replace hf := xw_in' c15 hf
          refine lv_aload_n hx hb dX8_factor_80 rfl (lv_at hl 0 rfl) ?_
          refine lv_dup hx hb dX8_factor_81 rfl ?_
          refine xw_get hB hK hP (xw_o8 G) (C := RX8) (T := TX8) (N := 31) rfl TBi_X8 11 (by decide) tw_739 rfl rfl dX8_factor_82 ?_
          refine lv_iconst (v := 1) hx hb dX8_factor_85 (by decide) ?_
          refine lv_iadd hx hb dX8_factor_86 ?_
          refine xw_put hG hB hK hS hP (x := (w.1 119 11) + (1 : Int32)) (xw_o8 G) (C := RX8) (T := TX8) (N := 31) rfl TBi_X8 tyX8 tyX8_ok nmX8 11 (by decide) tw_739 rfl rfl rfl rfl rfl (Nat.le_of_ble_eq_true rfl) rfl dX8_factor_87 (fun w16 ew16 H locs hP hS => ?_)
          replace hf := xw_lt_e ew16 hf
          refine lv_aload_n hx hb dX8_factor_90 rfl (lv_at hl 0 rfl) ?_
          refine lv_dup hx hb dX8_factor_91 rfl ?_
          refine xw_get hB hK hP (xw_o8 G) (C := RX8) (T := TX8) (N := 31) rfl TBi_X8 13 (by decide) tw_741 rfl rfl dX8_factor_92 ?_
          refine lv_iconst (v := 1) hx hb dX8_factor_95 (by decide) ?_
          refine lv_iadd hx hb dX8_factor_96 ?_
          refine xw_put hG hB hK hS hP (x := (w16.1 119 13) + (1 : Int32)) (xw_o8 G) (C := RX8) (T := TX8) (N := 31) rfl TBi_X8 tyX8 tyX8_ok nmX8 13 (by decide) tw_741 rfl rfl rfl rfl rfl (Nat.le_of_ble_eq_true rfl) rfl dX8_factor_97 (fun w17 ew17 H locs hP hS => ?_)
          replace hf := xw_lt_e ew17 hf
          refine lv_aload_n hx hb dX8_factor_100 rfl (lv_at hl 0 rfl) ?_
          replace hf := xw_b_e hf
          obtain ⟨r18, w19, he20, hf⟩ := hf
          refine xw_Vi hB hK hE hS hP (As := []) (rest := []) (kX8_any l G hG n F fr lo hF w17 _ _ he20) gs_X8_151 (xw_rc hK hP (C := RX8) (T := TX8) (N := 31) (xw_o8 G) rfl) 0 hv_X8_any ⟨(by show fr + 2 + 1 ≤ fr + 3; omega), (by show 8 + (3 + 11) + (lo + 43) ≤ lo + 65; omega)⟩ rfl hl.1 (Nat.le_of_ble_eq_true rfl) rfl dX8_factor_101 ⟨Nat.zero_le _, Nat.zero_le _⟩ (fun H locs hP hS => ?_)
          refine lv_istore_n (lv' := [(1, .int r18), (0, .ref (xw_ad G 119))]) hx hb dX8_factor_104 rfl hl (by decide) rfl (fun ls hl => ?_)
          refine lv_aload_n hx hb dX8_factor_105 rfl (lv_at hl 1 rfl) ?_
          refine lv_dup hx hb dX8_factor_106 rfl ?_
          refine xw_get hB hK hP (xw_o8 G) (C := RX8) (T := TX8) (N := 31) rfl TBi_X8 13 (by decide) tw_741 rfl rfl dX8_factor_107 ?_
          refine lv_iconst (v := 1) hx hb dX8_factor_110 (by decide) ?_
          refine lv_isub hx hb dX8_factor_111 ?_
          refine xw_put hG hB hK hS hP (x := (w19.1 119 13) - (1 : Int32)) (xw_o8 G) (C := RX8) (T := TX8) (N := 31) rfl TBi_X8 tyX8 tyX8_ok nmX8 13 (by decide) tw_741 rfl rfl rfl rfl rfl (Nat.le_of_ble_eq_true rfl) rfl dX8_factor_112 (fun w21 ew21 H locs hP hS => ?_)
          replace hf := xw_lt_e ew21 hf
          refine lv_aload_n hx hb dX8_factor_115 rfl (lv_at hl 1 rfl) ?_
          refine lv_bipush (v := 41) hx hb dX8_factor_116 (by decide) ?_
          replace hf := xw_b_e hf
          obtain ⟨r22, w23, he24, hf⟩ := hf
          refine xw_Vv hB hK hE hS hP (As := [.int (41 : Int32)]) (rest := []) (kX8_takes l G hG (41 : Int32) w21 _ _ he24) gs_X8_137 (xw_rc hK hP (C := RX8) (T := TX8) (N := 31) (xw_o8 G) rfl) 1 hv_X8_takes ⟨(by show 1 + 1 ≤ fr + 3; omega), (by show 8 + (2 + 11) + (21) ≤ lo + 65; omega)⟩ rfl hl.1 (Nat.le_of_ble_eq_true rfl) rfl dX8_factor_118 ⟨Nat.zero_le _, Nat.zero_le _⟩ (fun H locs hP hS => ?_)
          refine lv_goto (tgt := 129) hx hb dX8_factor_121 (by decide) ?_
          refine lv_iload_n hx hb dX8_factor_129 rfl (lv_at hl 0 rfl) ?_
          replace hf := xw_cc_e hf
          obtain ⟨hn, hf⟩ := hf
          obtain ⟨h0, h1⟩ := xw_s2 hf
          exact xw_zret hB hK hE hS hP hr hlk (xw_nar hn) h0 h1 dX8_factor_130
    have J49 : ∀ (v0 : Int32) (w : xw_M) (hf : fX8_factor_s_49 n F v0 w = some (r0, wz)) (H : Heap) (locs : List Loc) (ls : Array Slot) (hP : va_P (xw_D G) xw_cl (xw_W G w) H) (hS : va_S (xw_A G) s.heap H locs) (hl : lv_has ls 2 [(0, .ref (xw_ad G 119))]), xw_Wi G p l e (xw_rm (fr + 3) (lo + 65)) s m args below meth c H locs r0 wz (F0 m 49 ls [.int v0]) := by
      intro v0 w hf H locs ls hP hS hl
      unfold fX8_factor_s_49 at hf
      refine lv_istore_n (lv' := [(1, .int v0), (0, .ref (xw_ad G 119))]) hx hb dX8_factor_49 rfl hl (by decide) rfl (fun ls hl => ?_)
      refine lv_aload_n hx hb dX8_factor_50 rfl (lv_at hl 1 rfl) ?_
      refine lv_dup hx hb dX8_factor_51 rfl ?_
      refine xw_get hB hK hP (xw_o8 G) (C := RX8) (T := TX8) (N := 31) rfl TBi_X8 13 (by decide) tw_741 rfl rfl dX8_factor_52 ?_
      refine lv_iconst (v := 1) hx hb dX8_factor_55 (by decide) ?_
      refine lv_isub hx hb dX8_factor_56 ?_
      refine xw_put hG hB hK hS hP (x := (w.1 119 13) - (1 : Int32)) (xw_o8 G) (C := RX8) (T := TX8) (N := 31) rfl TBi_X8 tyX8 tyX8_ok nmX8 13 (by decide) tw_741 rfl rfl rfl rfl rfl (Nat.le_of_ble_eq_true rfl) rfl dX8_factor_57 (fun w11 ew11 H locs hP hS => ?_)
      replace hf := xw_lt_e ew11 hf
      refine lv_goto (tgt := 129) hx hb dX8_factor_60 (by decide) ?_
      refine lv_iload_n hx hb dX8_factor_129 rfl (lv_at hl 0 rfl) ?_
      replace hf := xw_cc_e hf
      obtain ⟨hn, hf⟩ := hf
      obtain ⟨h0, h1⟩ := xw_s2 hf
      exact xw_zret hB hK hE hS hP hr hlk (xw_nar hn) h0 h1 dX8_factor_130
    refine lv_aload_n hx hb dX8_factor_0 rfl (lv_at hl 0 rfl) ?_
    refine xw_get hB hK hP (xw_o8 G) (C := RX8) (T := TX8) (N := 31) rfl TBi_X8 13 (by decide) tw_741 rfl rfl dX8_factor_1 ?_
    refine lv_iconst (v := 4) hx hb dX8_factor_4 (by decide) ?_
    refine lv_icmp_ge (tgt := 63) hx hb dX8_factor_5 (by decide) (fun c1 => ?_) (fun c1 => ?_)
    · replace hf := xw_ip c1 hf
      exact J63 w0 hf H locs ls hP hS (lv_sub hl [0] rfl)
    · replace hf := xw_in' c1 hf
      refine lv_aload_n hx hb dX8_factor_8 rfl (lv_at hl 0 rfl) ?_
      refine lv_bipush (v := 33) hx hb dX8_factor_9 (by decide) ?_
      replace hf := xw_bp_e hf
      obtain ⟨r2, he3, hf⟩ := hf
      refine xw_Vi hB hK hE hS hP (As := [.int (33 : Int32)]) (rest := []) (kX8_isAt l G hG (33 : Int32) w0 _ he3) gs_X8_130 (xw_rc hK hP (C := RX8) (T := TX8) (N := 31) (xw_o8 G) rfl) 1 hv_X8_isAt ⟨(by show 0 + 1 ≤ fr + 3; omega), (by show 8 + (2 + 11) + (0) ≤ lo + 65; omega)⟩ rfl hl.1 (Nat.le_of_ble_eq_true rfl) rfl dX8_factor_11 ⟨Nat.zero_le _, Nat.zero_le _⟩ (fun H locs hP hS => ?_)
      refine lv_if_eq (tgt := 63) hx hb dX8_factor_14 (by decide) (fun c4 => ?_) (fun c4 => ?_)
      · replace hf := xw_ip c4 hf
        exact J63 w0 hf H locs ls hP hS (lv_sub hl [0] rfl)
      · replace hf := xw_in' c4 hf
        refine lv_aload_n hx hb dX8_factor_17 rfl (lv_at hl 0 rfl) ?_
        refine lv_dup hx hb dX8_factor_18 rfl ?_
        refine xw_get hB hK hP (xw_o8 G) (C := RX8) (T := TX8) (N := 31) rfl TBi_X8 11 (by decide) tw_739 rfl rfl dX8_factor_19 ?_
        refine lv_iconst (v := 1) hx hb dX8_factor_22 (by decide) ?_
        refine lv_iadd hx hb dX8_factor_23 ?_
        refine xw_put hG hB hK hS hP (x := (w0.1 119 11) + (1 : Int32)) (xw_o8 G) (C := RX8) (T := TX8) (N := 31) rfl TBi_X8 tyX8 tyX8_ok nmX8 11 (by decide) tw_739 rfl rfl rfl rfl rfl (Nat.le_of_ble_eq_true rfl) rfl dX8_factor_24 (fun w5 ew5 H locs hP hS => ?_)
        replace hf := xw_lt_e ew5 hf
        refine lv_aload_n hx hb dX8_factor_27 rfl (lv_at hl 0 rfl) ?_
        refine lv_dup hx hb dX8_factor_28 rfl ?_
        refine xw_get hB hK hP (xw_o8 G) (C := RX8) (T := TX8) (N := 31) rfl TBi_X8 13 (by decide) tw_741 rfl rfl dX8_factor_29 ?_
        refine lv_iconst (v := 1) hx hb dX8_factor_32 (by decide) ?_
        refine lv_iadd hx hb dX8_factor_33 ?_
        refine xw_put hG hB hK hS hP (x := (w5.1 119 13) + (1 : Int32)) (xw_o8 G) (C := RX8) (T := TX8) (N := 31) rfl TBi_X8 tyX8 tyX8_ok nmX8 13 (by decide) tw_741 rfl rfl rfl rfl rfl (Nat.le_of_ble_eq_true rfl) rfl dX8_factor_34 (fun w6 ew6 H locs hP hS => ?_)
        replace hf := xw_lt_e ew6 hf
        refine lv_aload_n hx hb dX8_factor_37 rfl (lv_at hl 0 rfl) ?_
        replace hf := xw_b_e hf
        obtain ⟨r7, w8, he9, hf⟩ := hf
        refine xw_Vi hB hK hE hS hP (As := []) (rest := []) (hF w6 _ _ he9) gs_X8_148 (xw_rc hK hP (C := RX8) (T := TX8) (N := 31) (xw_o8 G) rfl) 0 hv_X8_factor ⟨(by show fr + 1 ≤ fr + 3; omega), (by show 8 + (2 + 11) + (lo) ≤ lo + 65; omega)⟩ rfl hl.1 (Nat.le_of_ble_eq_true rfl) rfl dX8_factor_38 ⟨Nat.zero_le _, Nat.zero_le _⟩ (fun H locs hP hS => ?_)
        refine lv_if_ne (tgt := 48) hx hb dX8_factor_41 (by decide) (fun c10 => ?_) (fun c10 => ?_)
        · replace hf := xw_in' c10 hf
          refine lv_iconst (v := 0) hx hb dX8_factor_48 (by decide) ?_
          exact J49 (0 : Int32) w8 hf H locs ls hP hS (lv_sub hl [0] rfl)
        · replace hf := xw_ip c10 hf
          refine lv_iconst (v := 1) hx hb dX8_factor_44 (by decide) ?_
          refine lv_goto (tgt := 49) hx hb dX8_factor_45 (by decide) ?_
          exact J49 (1 : Int32) w8 hf H locs ls hP hS (lv_sub hl [0] rfl)
  exact HH s.heap [] hP hS
def fX8_factor (n : Nat) : Nat → xw_M → Option (Int32 × xw_M)
  | 0 => fun _ => none
  | d + 1 => fun w => fX8_factor_s n (fX8_factor n d) w
theorem kX8_factor (l : Launch) (G : xw_G) (hG : xw_ok G) (n : Nat) : ∀ (d : Nat) (w : xw_M) (r : Int32) (w' : xw_M) (hf : fX8_factor n d w = some (r, w')), xw_Ti l G yX8_factor cX8_factor 2 ((Option.some Jvm.ClassFile.FieldType.boolean)) (3 * d) (65 * d) [.ref (xw_ad G 119)] w r w' := by
  intro d
  induction d with
  | zero => intro  w r w' hf; cases hf
  | succ d ih => intro  w r w' hf; exact kX8_factor_s l G hG n (fX8_factor n d)  (3 * d) (65 * d) ih w r w' hf
def fX8_clause_146 (n : Nat) (v1 : Int32) (v2 : Int32) (w : xw_M) : Option (Unit × xw_M) := xw_lt (xw_si w 119 14 (v1 + v2)) (fun w34 => some ((), w34))
def fX8_clause_85 (n : Nat) (x1 : Int32) (w : xw_M) : Option (Unit × xw_M) := xw_b (fX8_takes (32 : Int32) w) (fun (_ : Unit) w18 => xw_b (fX8_number w18) (fun r20 w21 => if x1 = (2 : Int32) then xw_lt (xw_si w21 119 15 r20) (fun w33 => some ((), w33)) else xw_b (fX8_takes (32 : Int32) w21) (fun (_ : Unit) w25 => xw_lt (xw_si w25 119 13 (0 : Int32)) (fun w27 => xw_b (fX8_any n (fX8_factor n 8) w27) (fun r28 w29 => if r28 = 0 then fX8_clause_146 n (w29.1 119 14) (0 : Int32) w29 else if x1 = 0 then fX8_clause_146 n (w29.1 119 14) r20 w29 else fX8_clause_146 n (w29.1 119 14) (-r20) w29)))))
def fX8_clause_b47 (n : Nat) (x1 : Int32) (x2 : Int32) (w : xw_M) : Option ((Int32 × xw_M) ⊕ (xw_M)) := if (5 : Int32) ≤ x2 then some (.inr w) else xw_ck (((5 : Int32) * x1) + x2) 15 (if (w.1 130 (((5 : Int32) * x1) + x2).toNatClampNeg) = 0 then some (.inr w) else xw_ck (((5 : Int32) * x1) + x2) 15 (xw_b (fX8_takes (w.1 130 (((5 : Int32) * x1) + x2).toNatClampNeg) w) (fun (_ : Unit) w14 => xw_lt (x2 + 1) (fun x2_16 => some (.inl (x2_16, w14))))))
def fX8_clause_47 (n : Nat) (x1 : Int32) (x2 : Int32) (w : xw_M) : Option (Unit × xw_M) := xw_bp (xw_it (fun z => fX8_clause_b47 n x1 z.1 z.2) n (x2, w)) (fun z => (fun (w : xw_M) => fX8_clause_85 n x1 w) z)
def fX8_clause_34 (n : Nat) (x1 : Int32) (w : xw_M) : Option (Unit × xw_M) := if x1 = (-1 : Int32) then xw_lt (xw_si w 119 12 (0 : Int32)) (fun w8 => some ((), w8)) else fX8_clause_47 n x1 (0 : Int32) w
def fX8_clause_27 (n : Nat) (x2 : Int32) (v0 : Int32) (w : xw_M) : Option ((Int32 × Int32) ⊕ (Int32)) := xw_lt (x2 + 1) (fun x2_6 => some (.inl (v0, x2_6)))
def fX8_clause_b4 (n : Nat) (x1 : Int32) (x2 : Int32) (w : xw_M) : Option ((Int32 × Int32) ⊕ (Int32)) := if (3 : Int32) ≤ x2 then some (.inr x1) else xw_ck x2 3 (xw_bp (fX8_isAt (w.1 129 x2.toNatClampNeg) w) (fun r3 => if r3 = 0 then fX8_clause_27 n x2 x1 w else fX8_clause_27 n x2 x2 w))
def fX8_clause_4 (n : Nat) (x1 : Int32) (x2 : Int32) (w : xw_M) : Option (Unit × xw_M) := xw_bp (xw_it (fun z => fX8_clause_b4 n z.1 z.2 w) n (x1, x2)) (fun z => (fun (x1 : Int32) => fX8_clause_34 n x1 w) z)
def fX8_clause (n : Nat) (w0 : xw_M) : Option (Unit × xw_M) := fX8_clause_4 n (-1 : Int32) (0 : Int32) w0
set_option maxHeartbeats 4000000 in
set_option maxRecDepth 100000 in
theorem kX8_clause (l : Launch) (G : xw_G) (hG : xw_ok G) (n : Nat) (w0 : xw_M) (r0 : Unit) (wz : xw_M) (hf : fX8_clause n w0 = some (r0, wz)) : xw_Tv l G yX8_clause cX8_clause 4 ((Option.none : Option Jvm.ClassFile.FieldType)) (27) (585) [.ref (xw_ad G 119)] w0 r0 wz := by
  unfold xw_Tv
  refine Met.ofW (cc := cX8_clause) (maxL := 4) (ret := (Option.none : Option Jvm.ClassFile.FieldType)) (by decide) rfl ?_
  intro p e s m args below meth c s₁ B hml hv
  obtain ⟨hargs, hP, hK, hE⟩ := hv
  have hx := B.exec
  have hb := B.bytes
  have hr := B.returns
  have hlk := B.notSynchronized
  have hB : CallFix p m c cX8_clause 4 s args TB RX8 := ⟨hx, hb, hml, findClass_of_methodNamed B.named, fun q h => (atoms_spec (ws := Cond.code yX8_clause cX8_clause 4 ((Option.none : Option Jvm.ClassFile.FieldType)) :: TB) B.pre) q (List.mem_cons_of_mem _ h)⟩
  have hS : va_S (xw_A G) s.heap s.heap [] := va_S.rf
  have hl := lv_entry [.ref (xw_ad G 119)] (n := 4) (Nat.le_of_ble_eq_true rfl)
  rw [show entryFrame m args 4 = entryFrame m ([.ref (xw_ad G 119)] : List Value).toArray 4 from by rw [hargs], lg_entry_eq]
  generalize (lg_sl [.ref (xw_ad G 119)] ++ List.replicate (4 - (lg_sl [.ref (xw_ad G 119)]).length) Slot.unset).toArray = ls at hl ⊢
  have hP : va_P (xw_D G) xw_cl (xw_W G w0) s.heap := hP
  have hl : lv_has ls 4 [(0, .ref (xw_ad G 119))] := hl
  have HH : ∀ (H : Heap) (locs : List Loc) (hP : va_P (xw_D G) xw_cl (xw_W G w0) H) (hS : va_S (xw_A G) s.heap H locs), xw_Wv G p l e (xw_rm (27) (585)) s m args below meth c H locs r0 wz (F0 m 0 ls []) := by
    intro H locs hP hS
    unfold fX8_clause at hf
    have J146 : ∀ (v1 : Int32) (v2 : Int32) (w : xw_M) (hf : fX8_clause_146 n v1 v2 w = some (r0, wz)) (H : Heap) (locs : List Loc) (ls : Array Slot) (hP : va_P (xw_D G) xw_cl (xw_W G w) H) (hS : va_S (xw_A G) s.heap H locs) (hl : lv_has ls 4 []), xw_Wv G p l e (xw_rm (27) (585)) s m args below meth c H locs r0 wz (F0 m 146 ls [.int v2, .int v1, .ref (xw_ad G 119)]) := by
      intro v1 v2 w hf H locs ls hP hS hl
      unfold fX8_clause_146 at hf
      refine lv_iadd hx hb dX8_clause_146 ?_
      refine xw_put hG hB hK hS hP (x := v1 + v2) (xw_o8 G) (C := RX8) (T := TX8) (N := 31) rfl TBi_X8 tyX8 tyX8_ok nmX8 14 (by decide) tw_742 rfl rfl rfl rfl rfl (Nat.le_of_ble_eq_true rfl) rfl dX8_clause_147 (fun w34 ew34 H locs hP hS => ?_)
      replace hf := xw_lt_e ew34 hf
      obtain ⟨h0, h1⟩ := xw_s2 hf
      exact xw_vret hB hK hE hS hP hr hlk h1 dX8_clause_150
    have J85 : ∀ (x1 : Int32) (w : xw_M) (hf : fX8_clause_85 n x1 w = some (r0, wz)) (H : Heap) (locs : List Loc) (ls : Array Slot) (hP : va_P (xw_D G) xw_cl (xw_W G w) H) (hS : va_S (xw_A G) s.heap H locs) (hl : lv_has ls 4 [(0, .ref (xw_ad G 119)), (1, .int x1)]), xw_Wv G p l e (xw_rm (27) (585)) s m args below meth c H locs r0 wz (F0 m 85 ls []) := by
      intro x1 w hf H locs ls hP hS hl
      unfold fX8_clause_85 at hf
      refine lv_aload_n hx hb dX8_clause_85 rfl (lv_at hl 0 rfl) ?_
      refine lv_bipush (v := 32) hx hb dX8_clause_86 (by decide) ?_
      replace hf := xw_b_e hf
      obtain ⟨r17, w18, he19, hf⟩ := hf
      refine xw_Vv hB hK hE hS hP (As := [.int (32 : Int32)]) (rest := []) (kX8_takes l G hG (32 : Int32) w _ _ he19) gs_X8_137 (xw_rc hK hP (C := RX8) (T := TX8) (N := 31) (xw_o8 G) rfl) 1 hv_X8_takes ⟨Nat.le_of_ble_eq_true rfl, Nat.le_of_ble_eq_true rfl⟩ rfl hl.1 (Nat.le_of_ble_eq_true rfl) rfl dX8_clause_88 ⟨Nat.zero_le _, Nat.zero_le _⟩ (fun H locs hP hS => ?_)
      refine lv_aload_n hx hb dX8_clause_91 rfl (lv_at hl 0 rfl) ?_
      replace hf := xw_b_e hf
      obtain ⟨r20, w21, he22, hf⟩ := hf
      refine xw_Vi hB hK hE hS hP (As := []) (rest := []) (kX8_number l G hG w18 _ _ he22) gs_X8_141 (xw_rc hK hP (C := RX8) (T := TX8) (N := 31) (xw_o8 G) rfl) 0 hv_X8_number ⟨Nat.le_of_ble_eq_true rfl, Nat.le_of_ble_eq_true rfl⟩ rfl hl.1 (Nat.le_of_ble_eq_true rfl) rfl dX8_clause_92 ⟨Nat.zero_le _, Nat.zero_le _⟩ (fun H locs hP hS => ?_)
      refine lv_istore_n (lv' := [(2, .int r20), (0, .ref (xw_ad G 119)), (1, .int x1)]) hx hb dX8_clause_95 rfl hl (by decide) rfl (fun ls hl => ?_)
      refine lv_iload_n hx hb dX8_clause_96 rfl (lv_at hl 2 rfl) ?_
      refine lv_iconst (v := 2) hx hb dX8_clause_97 (by decide) ?_
      refine lv_icmp_ne (tgt := 107) hx hb dX8_clause_98 (by decide) (fun c23 => ?_) (fun c23 => ?_)
      · replace hf := xw_in' c23 hf
        refine lv_aload_n hx hb dX8_clause_107 rfl (lv_at hl 1 rfl) ?_
        refine lv_bipush (v := 32) hx hb dX8_clause_108 (by decide) ?_
        replace hf := xw_b_e hf
        obtain ⟨r24, w25, he26, hf⟩ := hf
        refine xw_Vv hB hK hE hS hP (As := [.int (32 : Int32)]) (rest := []) (kX8_takes l G hG (32 : Int32) w21 _ _ he26) gs_X8_137 (xw_rc hK hP (C := RX8) (T := TX8) (N := 31) (xw_o8 G) rfl) 1 hv_X8_takes ⟨Nat.le_of_ble_eq_true rfl, Nat.le_of_ble_eq_true rfl⟩ rfl hl.1 (Nat.le_of_ble_eq_true rfl) rfl dX8_clause_110 ⟨Nat.zero_le _, Nat.zero_le _⟩ (fun H locs hP hS => ?_)
        refine lv_aload_n hx hb dX8_clause_113 rfl (lv_at hl 1 rfl) ?_
        refine lv_iconst (v := 0) hx hb dX8_clause_114 (by decide) ?_
        refine xw_put hG hB hK hS hP (x := (0 : Int32)) (xw_o8 G) (C := RX8) (T := TX8) (N := 31) rfl TBi_X8 tyX8 tyX8_ok nmX8 13 (by decide) tw_741 rfl rfl rfl rfl rfl (Nat.le_of_ble_eq_true rfl) rfl dX8_clause_115 (fun w27 ew27 H locs hP hS => ?_)
        replace hf := xw_lt_e ew27 hf
        refine lv_aload_n hx hb dX8_clause_118 rfl (lv_at hl 1 rfl) ?_
        replace hf := xw_b_e hf
        obtain ⟨r28, w29, he30, hf⟩ := hf
        refine xw_Vi hB hK hE hS hP (As := []) (rest := []) (kX8_any l G hG n (fX8_factor n 8) 24 520 (kX8_factor l G hG n 8) w27 _ _ he30) gs_X8_151 (xw_rc hK hP (C := RX8) (T := TX8) (N := 31) (xw_o8 G) rfl) 0 hv_X8_any ⟨Nat.le_of_ble_eq_true rfl, Nat.le_of_ble_eq_true rfl⟩ rfl hl.1 (Nat.le_of_ble_eq_true rfl) rfl dX8_clause_119 ⟨Nat.zero_le _, Nat.zero_le _⟩ (fun H locs hP hS => ?_)
        refine lv_istore_n (lv' := [(3, .int r28), (2, .int r20), (0, .ref (xw_ad G 119)), (1, .int x1)]) hx hb dX8_clause_122 rfl hl (by decide) rfl (fun ls hl => ?_)
        refine lv_aload_n hx hb dX8_clause_123 rfl (lv_at hl 2 rfl) ?_
        refine lv_dup hx hb dX8_clause_124 rfl ?_
        refine xw_get hB hK hP (xw_o8 G) (C := RX8) (T := TX8) (N := 31) rfl TBi_X8 14 (by decide) tw_742 rfl rfl dX8_clause_125 ?_
        refine lv_iload_n hx hb dX8_clause_128 rfl (lv_at hl 0 rfl) ?_
        refine lv_if_ne (tgt := 136) hx hb dX8_clause_129 (by decide) (fun c31 => ?_) (fun c31 => ?_)
        · replace hf := xw_in' c31 hf
          refine lv_iload_n hx hb dX8_clause_136 rfl (lv_at hl 3 rfl) ?_
          refine lv_if_ne (tgt := 144) hx hb dX8_clause_137 (by decide) (fun c32 => ?_) (fun c32 => ?_)
          · replace hf := xw_in' c32 hf
            refine lv_iload_n hx hb dX8_clause_144 rfl (lv_at hl 1 rfl) ?_
            refine lv_ineg hx hb dX8_clause_145 ?_
            exact J146 (w29.1 119 14) (-r20) w29 hf H locs ls hP hS (lv_sub hl [] rfl)
          · replace hf := xw_ip c32 hf
            refine lv_iload_n hx hb dX8_clause_140 rfl (lv_at hl 1 rfl) ?_
            refine lv_goto (tgt := 146) hx hb dX8_clause_141 (by decide) ?_
            exact J146 (w29.1 119 14) r20 w29 hf H locs ls hP hS (lv_sub hl [] rfl)
        · replace hf := xw_ip c31 hf
          refine lv_iconst (v := 0) hx hb dX8_clause_132 (by decide) ?_
          refine lv_goto (tgt := 146) hx hb dX8_clause_133 (by decide) ?_
          exact J146 (w29.1 119 14) (0 : Int32) w29 hf H locs ls hP hS (lv_sub hl [] rfl)
      · replace hf := xw_ip c23 hf
        refine lv_aload_n hx hb dX8_clause_101 rfl (lv_at hl 1 rfl) ?_
        refine lv_iload_n hx hb dX8_clause_102 rfl (lv_at hl 0 rfl) ?_
        refine xw_put hG hB hK hS hP (x := r20) (xw_o8 G) (C := RX8) (T := TX8) (N := 31) rfl TBi_X8 tyX8 tyX8_ok nmX8 15 (by decide) tw_743 rfl rfl rfl rfl rfl (Nat.le_of_ble_eq_true rfl) rfl dX8_clause_103 (fun w33 ew33 H locs hP hS => ?_)
        replace hf := xw_lt_e ew33 hf
        obtain ⟨h0, h1⟩ := xw_s2 hf
        exact xw_vret hB hK hE hS hP hr hlk h1 dX8_clause_106
    have J47 : ∀ (x1 : Int32) (x2 : Int32) (w : xw_M) (hf : fX8_clause_47 n x1 x2 w = some (r0, wz)) (H : Heap) (locs : List Loc) (ls : Array Slot) (hP : va_P (xw_D G) xw_cl (xw_W G w) H) (hS : va_S (xw_A G) s.heap H locs) (hl : lv_has ls 4 [(0, .ref (xw_ad G 119)), (1, .int x1), (2, .int x2)]), xw_Wv G p l e (xw_rm (27) (585)) s m args below meth c H locs r0 wz (F0 m 47 ls []) := by
      intro x1 x2 w hf H locs ls hP hS hl
      unfold fX8_clause_47 at hf
      replace hf := xw_bp_e hf
      obtain ⟨bb47, hit47, hfx47⟩ := hf
      have XX47 : ∀ (w : xw_M) (hf : fX8_clause_85 n x1 w = some (r0, wz)) (H : Heap) (locs : List Loc) (ls : Array Slot) (hP : va_P (xw_D G) xw_cl (xw_W G w) H) (hS : va_S (xw_A G) s.heap H locs) (hl : lv_has ls 4 [(0, .ref (xw_ad G 119)), (1, .int x1)]), xw_Wv G p l e (xw_rm (27) (585)) s m args below meth c H locs r0 wz (F0 m 85 ls []) := by
        intro w hf H locs ls hP hS hl
        exact J85 x1 w hf H locs ls hP hS (lv_sub hl [0, 1] rfl)
      have LL47 : ∀ (nn : Nat) (x2 : Int32) (w : xw_M) (hit : xw_it (fun z => fX8_clause_b47 n x1 z.1 z.2) nn (x2, w) = some bb47) (H : Heap) (locs : List Loc) (ls : Array Slot) (hP : va_P (xw_D G) xw_cl (xw_W G w) H) (hS : va_S (xw_A G) s.heap H locs) (hl : lv_has ls 4 [(0, .ref (xw_ad G 119)), (1, .int x1), (2, .int x2)]), xw_Wv G p l e (xw_rm (27) (585)) s m args below meth c H locs r0 wz (F0 m 47 ls []) := by
        intro nn
        induction nn with
        | zero => intro x2 w hit; exact (xw_it_0 hit).elim
        | succ nn ih47 =>
          intro x2 w hit H locs ls hP hS hl
          replace hit := xw_it_e hit
          obtain ⟨wv47, hf, hC47, hX47⟩ := hit
          replace hf : fX8_clause_b47 n x1 x2 w = some wv47 := hf
          unfold fX8_clause_b47 at hf
          refine lv_iload_n hx hb dX8_clause_47 rfl (lv_at hl 2 rfl) ?_
          refine lv_iconst (v := 5) hx hb dX8_clause_48 (by decide) ?_
          refine lv_icmp_ge (tgt := 85) hx hb dX8_clause_49 (by decide) (fun c9 => ?_) (fun c9 => ?_)
          · replace hf := xw_ip c9 hf
            have he47 := hX47 _ (xw_so hf).symm
            rw [← he47] at hfx47
            exact XX47 w hfx47 H locs ls hP hS (lv_sub hl [0, 1] rfl)
          · replace hf := xw_in' c9 hf
            refine lv_aload_n hx hb dX8_clause_52 rfl (lv_at hl 0 rfl) ?_
            refine xw_get hB hK hP (xw_o8 G) (C := RX8) (T := TX8) (N := 31) rfl TBi_X8 19 (by decide) tw_747 rfl rfl dX8_clause_53 ?_
            refine lv_iconst (v := 5) hx hb dX8_clause_56 (by decide) ?_
            refine lv_iload_n hx hb dX8_clause_57 rfl (lv_at hl 1 rfl) ?_
            refine lv_imul hx hb dX8_clause_58 ?_
            refine lv_iload_n hx hb dX8_clause_59 rfl (lv_at hl 2 rfl) ?_
            refine lv_iadd hx hb dX8_clause_60 ?_
            replace hf := xw_ck_e hf
            obtain ⟨hi10, hf⟩ := hf
            refine xw_cld hB hK hP (xw_k130 G) hi10 dX8_clause_61 ?_
            refine lv_if_eq (tgt := 85) hx hb dX8_clause_62 (by decide) (fun c11 => ?_) (fun c11 => ?_)
            · replace hf := xw_ip c11 hf
              have he47 := hX47 _ (xw_so hf).symm
              rw [← he47] at hfx47
              exact XX47 w hfx47 H locs ls hP hS (lv_sub hl [0, 1] rfl)
            · replace hf := xw_in' c11 hf
              refine lv_aload_n hx hb dX8_clause_65 rfl (lv_at hl 0 rfl) ?_
              refine lv_aload_n hx hb dX8_clause_66 rfl (lv_at hl 0 rfl) ?_
              refine xw_get hB hK hP (xw_o8 G) (C := RX8) (T := TX8) (N := 31) rfl TBi_X8 19 (by decide) tw_747 rfl rfl dX8_clause_67 ?_
              refine lv_iconst (v := 5) hx hb dX8_clause_70 (by decide) ?_
              refine lv_iload_n hx hb dX8_clause_71 rfl (lv_at hl 1 rfl) ?_
              refine lv_imul hx hb dX8_clause_72 ?_
              refine lv_iload_n hx hb dX8_clause_73 rfl (lv_at hl 2 rfl) ?_
              refine lv_iadd hx hb dX8_clause_74 ?_
              replace hf := xw_ck_e hf
              obtain ⟨hi12, hf⟩ := hf
              refine xw_cld hB hK hP (xw_k130 G) hi12 dX8_clause_75 ?_
              replace hf := xw_b_e hf
              obtain ⟨r13, w14, he15, hf⟩ := hf
              refine xw_Vv hB hK hE hS hP (As := [.int (w.1 130 (((5 : Int32) * x1) + x2).toNatClampNeg)]) (rest := []) (kX8_takes l G hG (w.1 130 (((5 : Int32) * x1) + x2).toNatClampNeg) w _ _ he15) gs_X8_137 (xw_rc hK hP (C := RX8) (T := TX8) (N := 31) (xw_o8 G) rfl) 1 hv_X8_takes ⟨Nat.le_of_ble_eq_true rfl, Nat.le_of_ble_eq_true rfl⟩ rfl hl.1 (Nat.le_of_ble_eq_true rfl) rfl dX8_clause_76 ⟨Nat.zero_le _, Nat.zero_le _⟩ (fun H locs hP hS => ?_)
              obtain ⟨x2_16, ex2_16⟩ : ∃ y : Int32, y = x2 + 1 := ⟨_, rfl⟩
              replace hf := xw_lt_e ex2_16 hf
              refine lv_iinc (v := x2_16) (lv' := [(2, .int x2_16), (0, .ref (xw_ad G 119)), (1, .int x1)]) hx hb dX8_clause_79 hl (k := 2) rfl (by rw [ex2_16]; rfl) (by decide) rfl (fun ls hl => ?_)
              refine lv_goto (tgt := 47) hx hb dX8_clause_82 (by decide) ?_
              have hi := hC47 _ (xw_so hf).symm
              exact ih47 x2_16 w14 hi H locs ls hP hS (lv_sub hl [1, 2, 0] rfl)
      exact LL47 n x2 w hit47 H locs ls hP hS hl
    have J34 : ∀ (x1 : Int32) (w : xw_M) (hf : fX8_clause_34 n x1 w = some (r0, wz)) (H : Heap) (locs : List Loc) (ls : Array Slot) (hP : va_P (xw_D G) xw_cl (xw_W G w) H) (hS : va_S (xw_A G) s.heap H locs) (hl : lv_has ls 4 [(0, .ref (xw_ad G 119)), (1, .int x1)]), xw_Wv G p l e (xw_rm (27) (585)) s m args below meth c H locs r0 wz (F0 m 34 ls []) := by
      intro x1 w hf H locs ls hP hS hl
      unfold fX8_clause_34 at hf
      refine lv_iload_n hx hb dX8_clause_34 rfl (lv_at hl 1 rfl) ?_
      refine lv_iconst (v := (-1)) hx hb dX8_clause_35 (by decide) ?_
      refine lv_icmp_ne (tgt := 45) hx hb dX8_clause_36 (by decide) (fun c7 => ?_) (fun c7 => ?_)
      · replace hf := xw_in' c7 hf
        refine lv_iconst (v := 0) hx hb dX8_clause_45 (by decide) ?_
        refine lv_istore_n (lv' := [(2, .int (0 : Int32)), (0, .ref (xw_ad G 119)), (1, .int x1)]) hx hb dX8_clause_46 rfl hl (by decide) rfl (fun ls hl => ?_)
        exact J47 x1 (0 : Int32) w hf H locs ls hP hS (lv_sub hl [1, 2, 0] rfl)
      · replace hf := xw_ip c7 hf
        refine lv_aload_n hx hb dX8_clause_39 rfl (lv_at hl 0 rfl) ?_
        refine lv_iconst (v := 0) hx hb dX8_clause_40 (by decide) ?_
        refine xw_put hG hB hK hS hP (x := (0 : Int32)) (xw_o8 G) (C := RX8) (T := TX8) (N := 31) rfl TBi_X8 tyX8 tyX8_ok nmX8 12 (by decide) tw_740 rfl rfl rfl rfl rfl (Nat.le_of_ble_eq_true rfl) rfl dX8_clause_41 (fun w8 ew8 H locs hP hS => ?_)
        replace hf := xw_lt_e ew8 hf
        obtain ⟨h0, h1⟩ := xw_s2 hf
        exact xw_vret hB hK hE hS hP hr hlk h1 dX8_clause_44
    have J4 : ∀ (x1 : Int32) (x2 : Int32) (w : xw_M) (hf : fX8_clause_4 n x1 x2 w = some (r0, wz)) (H : Heap) (locs : List Loc) (ls : Array Slot) (hP : va_P (xw_D G) xw_cl (xw_W G w) H) (hS : va_S (xw_A G) s.heap H locs) (hl : lv_has ls 4 [(0, .ref (xw_ad G 119)), (1, .int x1), (2, .int x2)]), xw_Wv G p l e (xw_rm (27) (585)) s m args below meth c H locs r0 wz (F0 m 4 ls []) := by
      intro x1 x2 w hf H locs ls hP hS hl
      unfold fX8_clause_4 at hf
      replace hf := xw_bp_e hf
      obtain ⟨bb4, hit4, hfx4⟩ := hf
      have XX4 : ∀ (x1 : Int32) (hf : fX8_clause_34 n x1 w = some (r0, wz)) (H : Heap) (locs : List Loc) (ls : Array Slot) (hP : va_P (xw_D G) xw_cl (xw_W G w) H) (hS : va_S (xw_A G) s.heap H locs) (hl : lv_has ls 4 [(0, .ref (xw_ad G 119)), (1, .int x1)]), xw_Wv G p l e (xw_rm (27) (585)) s m args below meth c H locs r0 wz (F0 m 34 ls []) := by
        intro x1 hf H locs ls hP hS hl
        exact J34 x1 w hf H locs ls hP hS (lv_sub hl [0, 1] rfl)
      have LL4 : ∀ (nn : Nat) (x1 : Int32) (x2 : Int32) (hit : xw_it (fun z => fX8_clause_b4 n z.1 z.2 w) nn (x1, x2) = some bb4) (H : Heap) (locs : List Loc) (ls : Array Slot) (hP : va_P (xw_D G) xw_cl (xw_W G w) H) (hS : va_S (xw_A G) s.heap H locs) (hl : lv_has ls 4 [(0, .ref (xw_ad G 119)), (1, .int x1), (2, .int x2)]), xw_Wv G p l e (xw_rm (27) (585)) s m args below meth c H locs r0 wz (F0 m 4 ls []) := by
        intro nn
        induction nn with
        | zero => intro x1 x2 hit; exact (xw_it_0 hit).elim
        | succ nn ih4 =>
          intro x1 x2 hit H locs ls hP hS hl
          replace hit := xw_it_e hit
          obtain ⟨wv4, hf, hC4, hX4⟩ := hit
          replace hf : fX8_clause_b4 n x1 x2 w = some wv4 := hf
          unfold fX8_clause_b4 at hf
          have J27 : ∀ (x2 : Int32) (v0 : Int32) (hf : fX8_clause_27 n x2 v0 w = some wv4) (H : Heap) (locs : List Loc) (ls : Array Slot) (hP : va_P (xw_D G) xw_cl (xw_W G w) H) (hS : va_S (xw_A G) s.heap H locs) (hl : lv_has ls 4 [(0, .ref (xw_ad G 119)), (2, .int x2)]), xw_Wv G p l e (xw_rm (27) (585)) s m args below meth c H locs r0 wz (F0 m 27 ls [.int v0]) := by
            intro x2 v0 hf H locs ls hP hS hl
            unfold fX8_clause_27 at hf
            refine lv_istore_n (lv' := [(1, .int v0), (0, .ref (xw_ad G 119)), (2, .int x2)]) hx hb dX8_clause_27 rfl hl (by decide) rfl (fun ls hl => ?_)
            obtain ⟨x2_6, ex2_6⟩ : ∃ y : Int32, y = x2 + 1 := ⟨_, rfl⟩
            replace hf := xw_lt_e ex2_6 hf
            refine lv_iinc (v := x2_6) (lv' := [(2, .int x2_6), (1, .int v0), (0, .ref (xw_ad G 119))]) hx hb dX8_clause_28 hl (k := 2) rfl (by rw [ex2_6]; rfl) (by decide) rfl (fun ls hl => ?_)
            refine lv_goto (tgt := 4) hx hb dX8_clause_31 (by decide) ?_
            have hi := hC4 _ (xw_so hf).symm
            exact ih4 v0 x2_6 hi H locs ls hP hS (lv_sub hl [2, 1, 0] rfl)
          refine lv_iload_n hx hb dX8_clause_4 rfl (lv_at hl 2 rfl) ?_
          refine lv_iconst (v := 3) hx hb dX8_clause_5 (by decide) ?_
          refine lv_icmp_ge (tgt := 34) hx hb dX8_clause_6 (by decide) (fun c1 => ?_) (fun c1 => ?_)
          · replace hf := xw_ip c1 hf
            have he4 := hX4 _ (xw_so hf).symm
            rw [← he4] at hfx4
            exact XX4 x1 hfx4 H locs ls hP hS (lv_sub hl [0, 1] rfl)
          · replace hf := xw_in' c1 hf
            refine lv_aload_n hx hb dX8_clause_9 rfl (lv_at hl 0 rfl) ?_
            refine lv_aload_n hx hb dX8_clause_10 rfl (lv_at hl 0 rfl) ?_
            refine xw_get hB hK hP (xw_o8 G) (C := RX8) (T := TX8) (N := 31) rfl TBi_X8 18 (by decide) tw_746 rfl rfl dX8_clause_11 ?_
            refine lv_iload_n hx hb dX8_clause_14 rfl (lv_at hl 2 rfl) ?_
            replace hf := xw_ck_e hf
            obtain ⟨hi2, hf⟩ := hf
            refine xw_cld hB hK hP (xw_k129 G) hi2 dX8_clause_15 ?_
            replace hf := xw_bp_e hf
            obtain ⟨r3, he4, hf⟩ := hf
            refine xw_Vi hB hK hE hS hP (As := [.int (w.1 129 x2.toNatClampNeg)]) (rest := []) (kX8_isAt l G hG (w.1 129 x2.toNatClampNeg) w _ he4) gs_X8_130 (xw_rc hK hP (C := RX8) (T := TX8) (N := 31) (xw_o8 G) rfl) 1 hv_X8_isAt ⟨Nat.le_of_ble_eq_true rfl, Nat.le_of_ble_eq_true rfl⟩ rfl hl.1 (Nat.le_of_ble_eq_true rfl) rfl dX8_clause_16 ⟨Nat.zero_le _, Nat.zero_le _⟩ (fun H locs hP hS => ?_)
            refine lv_if_eq (tgt := 26) hx hb dX8_clause_19 (by decide) (fun c5 => ?_) (fun c5 => ?_)
            · replace hf := xw_ip c5 hf
              refine lv_iload_n hx hb dX8_clause_26 rfl (lv_at hl 1 rfl) ?_
              exact J27 x2 x1 hf H locs ls hP hS (lv_sub hl [0, 2] rfl)
            · replace hf := xw_in' c5 hf
              refine lv_iload_n hx hb dX8_clause_22 rfl (lv_at hl 2 rfl) ?_
              refine lv_goto (tgt := 27) hx hb dX8_clause_23 (by decide) ?_
              exact J27 x2 x2 hf H locs ls hP hS (lv_sub hl [0, 2] rfl)
      exact LL4 n x1 x2 hit4 H locs ls hP hS hl
    refine lv_iconst (v := (-1)) hx hb dX8_clause_0 (by decide) ?_
    refine lv_istore_n (lv' := [(1, .int (-1 : Int32)), (0, .ref (xw_ad G 119))]) hx hb dX8_clause_1 rfl hl (by decide) rfl (fun ls hl => ?_)
    refine lv_iconst (v := 0) hx hb dX8_clause_2 (by decide) ?_
    refine lv_istore_n (lv' := [(2, .int (0 : Int32)), (1, .int (-1 : Int32)), (0, .ref (xw_ad G 119))]) hx hb dX8_clause_3 rfl hl (by decide) rfl (fun ls hl => ?_)
    exact J4 (-1 : Int32) (0 : Int32) w0 hf H locs ls hP hS (lv_sub hl [2, 1, 0] rfl)
  exact HH s.heap [] hP hS
