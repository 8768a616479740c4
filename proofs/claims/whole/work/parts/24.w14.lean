def fX8_mean (n : Nat) (a1 : Int32) (w0 : xw_M) : Option Int64 := xw_ck (60 : Int32) 109 (xw_bp (fX8_aways n w0) (fun r2 => xw_bp (fX8_many n r2) (fun r4 => xw_lt ((w0.1 120 (60 : Int32).toNatClampNeg) - r4) (fun x2_6 => xw_bp (fX8_isIn a1 (0 : Int32) (1 : Int32)) (fun r7 => if r7 = 0 then some (-9223372036854775808 : Int64) else if x2_6 ≤ 0 then some (-9223372036854775808 : Int64) else xw_ck (61 : Int32) 109 (xw_bp (fX8_fraction n ((w0.1 120 (61 : Int32).toNatClampNeg).toInt64) x2_6.toInt64 a1) (fun r12 => some r12)))))))
set_option maxHeartbeats 4000000 in
set_option maxRecDepth 100000 in
theorem kX8_mean (l : Launch) (G : xw_G) (hG : xw_ok G) (n : Nat) (a1 : Int32) (w0 : xw_M) (r0 : Int64) (hf : fX8_mean n a1 w0 = some r0) : xw_Tl l G yX8_mean cX8_mean 3 ((Option.some Jvm.ClassFile.FieldType.long)) (3) (65) [.ref (xw_ad G 119), .int a1] w0 r0 w0 := by
  unfold xw_Tl
  refine Met.ofW (cc := cX8_mean) (maxL := 3) (ret := (Option.some Jvm.ClassFile.FieldType.long)) (by decide) rfl ?_
  intro p e s m args below meth c s₁ B hml hv
  obtain ⟨hargs, hP, hK, hE⟩ := hv
  have hx := B.exec
  have hb := B.bytes
  have hr := B.returns
  have hlk := B.notSynchronized
  have hB : CallFix p m c cX8_mean 3 s args TB RX8 := ⟨hx, hb, hml, findClass_of_methodNamed B.named, fun q h => (atoms_spec (ws := Cond.code yX8_mean cX8_mean 3 ((Option.some Jvm.ClassFile.FieldType.long)) :: TB) B.pre) q (List.mem_cons_of_mem _ h)⟩
  have hS : va_S (xw_A G) s.heap s.heap [] := va_S.rf
  have hl := lv_entry [.ref (xw_ad G 119), .int a1] (n := 3) (Nat.le_of_ble_eq_true rfl)
  rw [show entryFrame m args 3 = entryFrame m ([.ref (xw_ad G 119), .int a1] : List Value).toArray 3 from by rw [hargs], lg_entry_eq]
  generalize (lg_sl [.ref (xw_ad G 119), .int a1] ++ List.replicate (3 - (lg_sl [.ref (xw_ad G 119), .int a1]).length) Slot.unset).toArray = ls at hl ⊢
  have hP : va_P (xw_D G) xw_cl (xw_W G w0) s.heap := hP
  have hl : lv_has ls 3 [(0, .ref (xw_ad G 119)), (1, .int a1)] := hl
  have HH : ∀ (H : Heap) (locs : List Loc) (hP : va_P (xw_D G) xw_cl (xw_W G w0) H) (hS : va_S (xw_A G) s.heap H locs), xw_Wl G p l e (xw_rm (3) (65)) s m args below meth c H locs r0 w0 (F0 m 0 ls []) := by
    intro H locs hP hS
    unfold fX8_mean at hf
    refine lv_aload_n hx hb dX8_mean_0 rfl (lv_at hl 0 rfl) ?_
    refine xw_get hB hK hP (xw_o8 G) (C := RX8) (T := TX8) (N := 31) rfl TBi_X8 0 (by decide) tw_728 rfl rfl dX8_mean_1 ?_
    refine lv_bipush (v := 60) hx hb dX8_mean_4 (by decide) ?_
    replace hf := xw_ck_e hf
    obtain ⟨hi1, hf⟩ := hf
    refine xw_ild hB hK hP (xw_k120 G) hi1 dX8_mean_6 ?_
    refine lv_aload_n hx hb dX8_mean_7 rfl (lv_at hl 0 rfl) ?_
    replace hf := xw_bp_e hf
    obtain ⟨r2, he3, hf⟩ := hf
    refine xw_Vi hB hK hE hS hP (As := []) (rest := [.int (w0.1 120 (60 : Int32).toNatClampNeg)]) (kX8_aways l G hG n w0 _ he3) gs_X8_204 (xw_rc hK hP (C := RX8) (T := TX8) (N := 31) (xw_o8 G) rfl) 0 hv_X8_aways ⟨Nat.le_of_ble_eq_true rfl, Nat.le_of_ble_eq_true rfl⟩ rfl hl.1 (Nat.le_of_ble_eq_true rfl) rfl dX8_mean_8 ⟨Nat.zero_le _, Nat.zero_le _⟩ (fun H locs hP hS => ?_)
    replace hf := xw_bp_e hf
    obtain ⟨r4, he5, hf⟩ := hf
    refine xw_Si hB hK hE hS hP (As := [.int r2]) (rest := [.int (w0.1 120 (60 : Int32).toNatClampNeg)]) (kX8_many l G hG n r2 w0 _ he5) tw_1000 tw_1002 tw_1001 tw_10 1 hs_X8_many ⟨Nat.le_of_ble_eq_true rfl, Nat.le_of_ble_eq_true rfl⟩ rfl hl.1 (Nat.le_of_ble_eq_true rfl) rfl dX8_mean_11 ⟨Nat.zero_le _, Nat.zero_le _⟩ (fun H locs hP hS => ?_)
    refine lv_isub hx hb dX8_mean_14 ?_
    refine lv_topi (fun x2_6 ex2_6 => ?_)
    replace hf := xw_lt_e ex2_6 hf
    refine lv_istore_n (lv' := [(2, .int x2_6), (0, .ref (xw_ad G 119)), (1, .int a1)]) hx hb dX8_mean_15 rfl hl (by decide) rfl (fun ls hl => ?_)
    refine lv_iload_n hx hb dX8_mean_16 rfl (lv_at hl 2 rfl) ?_
    refine lv_iconst (v := 0) hx hb dX8_mean_17 (by decide) ?_
    refine lv_iconst (v := 1) hx hb dX8_mean_18 (by decide) ?_
    replace hf := xw_bp_e hf
    obtain ⟨r7, he8, hf⟩ := hf
    refine xw_Si hB hK hE hS hP (As := [.int a1, .int (0 : Int32), .int (1 : Int32)]) (rest := []) (kX8_isIn l G hG a1 (0 : Int32) (1 : Int32) w0 _ he8) tw_835 tw_837 tw_836 tw_10 3 hs_X8_isIn ⟨Nat.le_of_ble_eq_true rfl, Nat.le_of_ble_eq_true rfl⟩ rfl hl.1 (Nat.le_of_ble_eq_true rfl) rfl dX8_mean_19 ⟨Nat.zero_le _, Nat.zero_le _⟩ (fun H locs hP hS => ?_)
    refine lv_if_eq (tgt := 46) hx hb dX8_mean_22 (by decide) (fun c9 => ?_) (fun c9 => ?_)
    · replace hf := xw_ip c9 hf
      refine lv_ldc2 (v := (-9223372036854775808)) hx hb hB.2.2.2.1 (hB.2.2.2.2 _ tw_1015) dX8_mean_46 ?_
      have h0 := xw_so hf
      have h1 : w0 = w0 := rfl
      exact xw_lret hB hK hE hS hP hr hlk h0 h1 dX8_mean_49
    · replace hf := xw_in' c9 hf
      refine lv_iload_n hx hb dX8_mean_25 rfl (lv_at hl 0 rfl) ?_
      refine lv_if_le (tgt := 46) hx hb dX8_mean_26 (by decide) (fun c10 => ?_) (fun c10 => ?_)
      · replace hf := xw_ip c10 hf
        refine lv_ldc2 (v := (-9223372036854775808)) hx hb hB.2.2.2.1 (hB.2.2.2.2 _ tw_1015) dX8_mean_46 ?_
        have h0 := xw_so hf
        have h1 : w0 = w0 := rfl
        exact xw_lret hB hK hE hS hP hr hlk h0 h1 dX8_mean_49
      · replace hf := xw_in' c10 hf
        refine lv_aload_n hx hb dX8_mean_29 rfl (lv_at hl 1 rfl) ?_
        refine xw_get hB hK hP (xw_o8 G) (C := RX8) (T := TX8) (N := 31) rfl TBi_X8 0 (by decide) tw_728 rfl rfl dX8_mean_30 ?_
        refine lv_bipush (v := 61) hx hb dX8_mean_33 (by decide) ?_
        replace hf := xw_ck_e hf
        obtain ⟨hi11, hf⟩ := hf
        refine xw_ild hB hK hP (xw_k120 G) hi11 dX8_mean_35 ?_
        refine lv_i2l hx hb dX8_mean_36 rfl ?_
        refine lv_iload_n hx hb dX8_mean_37 rfl (lv_at hl 0 rfl) ?_
        refine lv_i2l hx hb dX8_mean_38 rfl ?_
        refine lv_iload_n hx hb dX8_mean_39 rfl (lv_at hl 2 rfl) ?_
        replace hf := xw_bp_e hf
        obtain ⟨r12, he13, hf⟩ := hf
        refine xw_Sl hB hK hE hS hP (As := [.long ((w0.1 120 (61 : Int32).toNatClampNeg).toInt64), .long x2_6.toInt64, .int a1]) (rest := []) (kX8_fraction l G hG n ((w0.1 120 (61 : Int32).toNatClampNeg).toInt64) x2_6.toInt64 a1 w0 _ he13) tw_1016 tw_1018 tw_1017 tw_10 3 hs_X8_fraction ⟨Nat.le_of_ble_eq_true rfl, Nat.le_of_ble_eq_true rfl⟩ rfl hl.1 (Nat.le_of_ble_eq_true rfl) rfl dX8_mean_40 ⟨Nat.zero_le _, Nat.zero_le _⟩ (fun H locs hP hS => ?_)
        refine lv_goto (tgt := 49) hx hb dX8_mean_43 (by decide) ?_
        have h0 := xw_so hf
        have h1 : w0 = w0 := rfl
        exact xw_lret hB hK hE hS hP hr hlk h0 h1 dX8_mean_49
  exact HH s.heap [] hP hS
def fX8_plan_38 (a1 : Int32) (a2 : Int32) (w : xw_M) : Option (Int32 × xw_M) := xw_ck (75 : Int32) 109 (if (w.1 120 (75 : Int32).toNatClampNeg) = (8 : Int32) then some ((-4 : Int32), w) else xw_ck (75 : Int32) 109 (xw_ck ((76 : Int32) + ((2 : Int32) * (w.1 120 (75 : Int32).toNatClampNeg))) 109 (xw_lt (xw_si w 120 ((76 : Int32) + ((2 : Int32) * (w.1 120 (75 : Int32).toNatClampNeg))).toNatClampNeg a1) (fun w15 => xw_ck (75 : Int32) 109 (xw_ck ((77 : Int32) + ((2 : Int32) * (w15.1 120 (75 : Int32).toNatClampNeg))) 109 (xw_lt (xw_si w15 120 ((77 : Int32) + ((2 : Int32) * (w15.1 120 (75 : Int32).toNatClampNeg))).toNatClampNeg a2) (fun w18 => xw_ck (75 : Int32) 109 (xw_ck (75 : Int32) 109 (xw_lt (xw_si w18 120 (75 : Int32).toNatClampNeg ((w18.1 120 (75 : Int32).toNatClampNeg) + (1 : Int32))) (fun w21 => xw_ck (75 : Int32) 109 (some (w21.1 120 (75 : Int32).toNatClampNeg, w21))))))))))))
def fX8_plan (a1 : Int32) (a2 : Int32) (w0 : xw_M) : Option (Int32 × xw_M) := if a1 = (-1 : Int32) then xw_ck (75 : Int32) 109 (xw_lt (xw_si w0 120 (75 : Int32).toNatClampNeg (0 : Int32)) (fun w10 => some ((0 : Int32), w10))) else xw_bp (fX8_isIn a1 (0 : Int32) (3 : Int32)) (fun r2 => if r2 = 0 then some ((-1 : Int32), w0) else if a1 ≤ 0 then fX8_plan_38 a1 a2 w0 else xw_bp (fX8_isOne a2 w0) (fun r6 => if r6 = 0 then some ((-1 : Int32), w0) else fX8_plan_38 a1 a2 w0))
set_option maxHeartbeats 4000000 in
set_option maxRecDepth 100000 in
theorem kX8_plan (l : Launch) (G : xw_G) (hG : xw_ok G) (a1 : Int32) (a2 : Int32) (w0 : xw_M) (r0 : Int32) (wz : xw_M) (hf : fX8_plan a1 a2 w0 = some (r0, wz)) : xw_Ti l G yX8_plan cX8_plan 3 ((Option.some Jvm.ClassFile.FieldType.int)) (2) (43) [.ref (xw_ad G 119), .int a1, .int a2] w0 r0 wz := by
  unfold xw_Ti
  refine Met.ofW (cc := cX8_plan) (maxL := 3) (ret := (Option.some Jvm.ClassFile.FieldType.int)) (by decide) rfl ?_
  intro p e s m args below meth c s₁ B hml hv
  obtain ⟨hargs, hP, hK, hE⟩ := hv
  have hx := B.exec
  have hb := B.bytes
  have hr := B.returns
  have hlk := B.notSynchronized
  have hB : CallFix p m c cX8_plan 3 s args TB RX8 := ⟨hx, hb, hml, findClass_of_methodNamed B.named, fun q h => (atoms_spec (ws := Cond.code yX8_plan cX8_plan 3 ((Option.some Jvm.ClassFile.FieldType.int)) :: TB) B.pre) q (List.mem_cons_of_mem _ h)⟩
  have hS : va_S (xw_A G) s.heap s.heap [] := va_S.rf
  have hl := lv_entry [.ref (xw_ad G 119), .int a1, .int a2] (n := 3) (Nat.le_of_ble_eq_true rfl)
  rw [show entryFrame m args 3 = entryFrame m ([.ref (xw_ad G 119), .int a1, .int a2] : List Value).toArray 3 from by rw [hargs], lg_entry_eq]
  generalize (lg_sl [.ref (xw_ad G 119), .int a1, .int a2] ++ List.replicate (3 - (lg_sl [.ref (xw_ad G 119), .int a1, .int a2]).length) Slot.unset).toArray = ls at hl ⊢
  have hP : va_P (xw_D G) xw_cl (xw_W G w0) s.heap := hP
  have hl : lv_has ls 3 [(0, .ref (xw_ad G 119)), (1, .int a1), (2, .int a2)] := hl
  have HH : ∀ (H : Heap) (locs : List Loc) (hP : va_P (xw_D G) xw_cl (xw_W G w0) H) (hS : va_S (xw_A G) s.heap H locs), xw_Wi G p l e (xw_rm (2) (43)) s m args below meth c H locs r0 wz (F0 m 0 ls []) := by
    intro H locs hP hS
    unfold fX8_plan at hf
    have J38 : ∀ (w : xw_M) (hf : fX8_plan_38 a1 a2 w = some (r0, wz)) (H : Heap) (locs : List Loc) (ls : Array Slot) (hP : va_P (xw_D G) xw_cl (xw_W G w) H) (hS : va_S (xw_A G) s.heap H locs) (hl : lv_has ls 3 [(0, .ref (xw_ad G 119)), (1, .int a1), (2, .int a2)]), xw_Wi G p l e (xw_rm (2) (43)) s m args below meth c H locs r0 wz (F0 m 38 ls []) := by
      intro w hf H locs ls hP hS hl
      unfold fX8_plan_38 at hf
      refine lv_aload_n hx hb dX8_plan_38 rfl (lv_at hl 0 rfl) ?_
      refine xw_get hB hK hP (xw_o8 G) (C := RX8) (T := TX8) (N := 31) rfl TBi_X8 0 (by decide) tw_728 rfl rfl dX8_plan_39 ?_
      refine lv_bipush (v := 75) hx hb dX8_plan_42 (by decide) ?_
      replace hf := xw_ck_e hf
      obtain ⟨hi11, hf⟩ := hf
      refine xw_ild hB hK hP (xw_k120 G) hi11 dX8_plan_44 ?_
      refine lv_bipush (v := 8) hx hb dX8_plan_45 (by decide) ?_
      refine lv_icmp_ne (tgt := 53) hx hb dX8_plan_47 (by decide) (fun c12 => ?_) (fun c12 => ?_)
      · replace hf := xw_in' c12 hf
        refine lv_aload_n hx hb dX8_plan_53 rfl (lv_at hl 0 rfl) ?_
        refine xw_get hB hK hP (xw_o8 G) (C := RX8) (T := TX8) (N := 31) rfl TBi_X8 0 (by decide) tw_728 rfl rfl dX8_plan_54 ?_
        refine lv_bipush (v := 76) hx hb dX8_plan_57 (by decide) ?_
        refine lv_iconst (v := 2) hx hb dX8_plan_59 (by decide) ?_
        refine lv_aload_n hx hb dX8_plan_60 rfl (lv_at hl 0 rfl) ?_
        refine xw_get hB hK hP (xw_o8 G) (C := RX8) (T := TX8) (N := 31) rfl TBi_X8 0 (by decide) tw_728 rfl rfl dX8_plan_61 ?_
        refine lv_bipush (v := 75) hx hb dX8_plan_64 (by decide) ?_
        replace hf := xw_ck_e hf
        obtain ⟨hi13, hf⟩ := hf
        refine xw_ild hB hK hP (xw_k120 G) hi13 dX8_plan_66 ?_
        refine lv_imul hx hb dX8_plan_67 ?_
        refine lv_iadd hx hb dX8_plan_68 ?_
        refine lv_iload_n hx hb dX8_plan_69 rfl (lv_at hl 1 rfl) ?_
        replace hf := xw_ck_e hf
        obtain ⟨hi14, hf⟩ := hf
        refine xw_ist hG hB hK hS hP (xw_k120 G) hi14 dX8_plan_70 (fun w15 ew15 H locs hP hS => ?_)
        replace hf := xw_lt_e ew15 hf
        refine lv_aload_n hx hb dX8_plan_71 rfl (lv_at hl 0 rfl) ?_
        refine xw_get hB hK hP (xw_o8 G) (C := RX8) (T := TX8) (N := 31) rfl TBi_X8 0 (by decide) tw_728 rfl rfl dX8_plan_72 ?_
        refine lv_bipush (v := 77) hx hb dX8_plan_75 (by decide) ?_
        refine lv_iconst (v := 2) hx hb dX8_plan_77 (by decide) ?_
        refine lv_aload_n hx hb dX8_plan_78 rfl (lv_at hl 0 rfl) ?_
        refine xw_get hB hK hP (xw_o8 G) (C := RX8) (T := TX8) (N := 31) rfl TBi_X8 0 (by decide) tw_728 rfl rfl dX8_plan_79 ?_
        refine lv_bipush (v := 75) hx hb dX8_plan_82 (by decide) ?_
        replace hf := xw_ck_e hf
        obtain ⟨hi16, hf⟩ := hf
        refine xw_ild hB hK hP (xw_k120 G) hi16 dX8_plan_84 ?_
        refine lv_imul hx hb dX8_plan_85 ?_
        refine lv_iadd hx hb dX8_plan_86 ?_
        refine lv_iload_n hx hb dX8_plan_87 rfl (lv_at hl 2 rfl) ?_
        replace hf := xw_ck_e hf
        obtain ⟨hi17, hf⟩ := hf
        refine xw_ist hG hB hK hS hP (xw_k120 G) hi17 dX8_plan_88 (fun w18 ew18 H locs hP hS => ?_)
        replace hf := xw_lt_e ew18 hf
        refine lv_aload_n hx hb dX8_plan_89 rfl (lv_at hl 0 rfl) ?_
        refine xw_get hB hK hP (xw_o8 G) (C := RX8) (T := TX8) (N := 31) rfl TBi_X8 0 (by decide) tw_728 rfl rfl dX8_plan_90 ?_
        refine lv_bipush (v := 75) hx hb dX8_plan_93 (by decide) ?_
        refine lv_dup2_11 hx hb dX8_plan_95 rfl rfl ?_
        replace hf := xw_ck_e hf
        obtain ⟨hi19, hf⟩ := hf
        refine xw_ild hB hK hP (xw_k120 G) hi19 dX8_plan_96 ?_
        refine lv_iconst (v := 1) hx hb dX8_plan_97 (by decide) ?_
        refine lv_iadd hx hb dX8_plan_98 ?_
        replace hf := xw_ck_e hf
        obtain ⟨hi20, hf⟩ := hf
        refine xw_ist hG hB hK hS hP (xw_k120 G) hi20 dX8_plan_99 (fun w21 ew21 H locs hP hS => ?_)
        replace hf := xw_lt_e ew21 hf
        refine lv_aload_n hx hb dX8_plan_100 rfl (lv_at hl 0 rfl) ?_
        refine xw_get hB hK hP (xw_o8 G) (C := RX8) (T := TX8) (N := 31) rfl TBi_X8 0 (by decide) tw_728 rfl rfl dX8_plan_101 ?_
        refine lv_bipush (v := 75) hx hb dX8_plan_104 (by decide) ?_
        replace hf := xw_ck_e hf
        obtain ⟨hi22, hf⟩ := hf
        refine xw_ild hB hK hP (xw_k120 G) hi22 dX8_plan_106 ?_
        obtain ⟨h0, h1⟩ := xw_s2 hf
        exact xw_iret hB hK hE hS hP hr hlk h0 h1 dX8_plan_107
      · replace hf := xw_ip c12 hf
        refine lv_bipush (v := (-4)) hx hb dX8_plan_50 (by decide) ?_
        obtain ⟨h0, h1⟩ := xw_s2 hf
        exact xw_iret hB hK hE hS hP hr hlk h0 h1 dX8_plan_52
    refine lv_iload_n hx hb dX8_plan_0 rfl (lv_at hl 1 rfl) ?_
    refine lv_iconst (v := (-1)) hx hb dX8_plan_1 (by decide) ?_
    refine lv_icmp_ne (tgt := 15) hx hb dX8_plan_2 (by decide) (fun c1 => ?_) (fun c1 => ?_)
    · replace hf := xw_in' c1 hf
      refine lv_iload_n hx hb dX8_plan_15 rfl (lv_at hl 1 rfl) ?_
      refine lv_iconst (v := 0) hx hb dX8_plan_16 (by decide) ?_
      refine lv_iconst (v := 3) hx hb dX8_plan_17 (by decide) ?_
      replace hf := xw_bp_e hf
      obtain ⟨r2, he3, hf⟩ := hf
      refine xw_Si hB hK hE hS hP (As := [.int a1, .int (0 : Int32), .int (3 : Int32)]) (rest := []) (kX8_isIn l G hG a1 (0 : Int32) (3 : Int32) w0 _ he3) tw_835 tw_837 tw_836 tw_10 3 hs_X8_isIn ⟨Nat.le_of_ble_eq_true rfl, Nat.le_of_ble_eq_true rfl⟩ rfl hl.1 (Nat.le_of_ble_eq_true rfl) rfl dX8_plan_18 ⟨Nat.zero_le _, Nat.zero_le _⟩ (fun H locs hP hS => ?_)
      refine lv_if_eq (tgt := 36) hx hb dX8_plan_21 (by decide) (fun c4 => ?_) (fun c4 => ?_)
      · replace hf := xw_ip c4 hf
        refine lv_iconst (v := (-1)) hx hb dX8_plan_36 (by decide) ?_
        obtain ⟨h0, h1⟩ := xw_s2 hf
        exact xw_iret hB hK hE hS hP hr hlk h0 h1 dX8_plan_37
      · replace hf := xw_in' c4 hf
        refine lv_iload_n hx hb dX8_plan_24 rfl (lv_at hl 1 rfl) ?_
        refine lv_if_le (tgt := 38) hx hb dX8_plan_25 (by decide) (fun c5 => ?_) (fun c5 => ?_)
        · replace hf := xw_ip c5 hf
          exact J38 w0 hf H locs ls hP hS (lv_sub hl [0, 1, 2] rfl)
        · replace hf := xw_in' c5 hf
          refine lv_aload_n hx hb dX8_plan_28 rfl (lv_at hl 0 rfl) ?_
          refine lv_iload_n hx hb dX8_plan_29 rfl (lv_at hl 2 rfl) ?_
          replace hf := xw_bp_e hf
          obtain ⟨r6, he7, hf⟩ := hf
          refine xw_Vi hB hK hE hS hP (As := [.int a2]) (rest := []) (kX8_isOne l G hG a2 w0 _ he7) gs_X8_101 (xw_rc hK hP (C := RX8) (T := TX8) (N := 31) (xw_o8 G) rfl) 1 hv_X8_isOne ⟨Nat.le_of_ble_eq_true rfl, Nat.le_of_ble_eq_true rfl⟩ rfl hl.1 (Nat.le_of_ble_eq_true rfl) rfl dX8_plan_30 ⟨Nat.zero_le _, Nat.zero_le _⟩ (fun H locs hP hS => ?_)
          refine lv_if_ne (tgt := 38) hx hb dX8_plan_33 (by decide) (fun c8 => ?_) (fun c8 => ?_)
          · replace hf := xw_in' c8 hf
            exact J38 w0 hf H locs ls hP hS (lv_sub hl [0, 1, 2] rfl)
          · replace hf := xw_ip c8 hf
            refine lv_iconst (v := (-1)) hx hb dX8_plan_36 (by decide) ?_
            obtain ⟨h0, h1⟩ := xw_s2 hf
            exact xw_iret hB hK hE hS hP hr hlk h0 h1 dX8_plan_37
    · replace hf := xw_ip c1 hf
      refine lv_aload_n hx hb dX8_plan_5 rfl (lv_at hl 0 rfl) ?_
      refine xw_get hB hK hP (xw_o8 G) (C := RX8) (T := TX8) (N := 31) rfl TBi_X8 0 (by decide) tw_728 rfl rfl dX8_plan_6 ?_
      refine lv_bipush (v := 75) hx hb dX8_plan_9 (by decide) ?_
      refine lv_iconst (v := 0) hx hb dX8_plan_11 (by decide) ?_
      replace hf := xw_ck_e hf
      obtain ⟨hi9, hf⟩ := hf
      refine xw_ist hG hB hK hS hP (xw_k120 G) hi9 dX8_plan_12 (fun w10 ew10 H locs hP hS => ?_)
      replace hf := xw_lt_e ew10 hf
      refine lv_iconst (v := 0) hx hb dX8_plan_13 (by decide) ?_
      obtain ⟨h0, h1⟩ := xw_s2 hf
      exact xw_iret hB hK hE hS hP hr hlk h0 h1 dX8_plan_14
  exact HH s.heap [] hP hS
def fX8_ends_139 (n : Nat) (a1 : Int32) (x2 : Int32) (w : xw_M) : Option (Int32 × xw_M) := xw_b (fX8_lay n (0 : Int32) w) (fun (_ : Unit) w33 => some (x2, w33))
def fX8_ends_128 (n : Nat) (a1 : Int32) (x3 : Int32) (v0 : Int32) (v2 : Int32) (v3 : Int32) (w : xw_M) : Option ((Int32 × Int32) ⊕ (Int32)) := xw_bp (fX8_one v2 v3 w) (fun r28 => xw_lt (v0 + r28) (fun x2_30 => xw_lt (x3 + 1) (fun x3_31 => some (.inl (x2_30, x3_31)))))
def fX8_ends_b105 (n : Nat) (a1 : Int32) (x2 : Int32) (x3 : Int32) (w : xw_M) : Option ((Int32 × Int32) ⊕ (Int32)) := xw_ck (60 : Int32) 109 (if (w.1 120 (60 : Int32).toNatClampNeg) ≤ x3 then some (.inr x2) else if a1 = 0 then fX8_ends_128 n a1 x3 x2 x3 (5 : Int32) w else fX8_ends_128 n a1 x3 x2 x3 (3 : Int32) w)
def fX8_ends_105 (n : Nat) (a1 : Int32) (x2 : Int32) (x3 : Int32) (w : xw_M) : Option (Int32 × xw_M) := xw_bp (xw_it (fun z => fX8_ends_b105 n a1 z.1 z.2 w) n (x2, x3)) (fun z => (fun (x2 : Int32) => fX8_ends_139 n a1 x2 w) z)
def fX8_ends_101 (n : Nat) (a1 : Int32) (w : xw_M) : Option (Int32 × xw_M) := fX8_ends_105 n a1 (0 : Int32) (0 : Int32) w
def fX8_ends_95 (n : Nat) (a1 : Int32) (x2 : Int32) (w : xw_M) : Option ((Int32 × xw_M) ⊕ (xw_M)) := xw_lt (x2 + 1) (fun x2_24 => some (.inl (x2_24, w)))
def fX8_ends_b18 (n : Nat) (a1 : Int32) (x2 : Int32) (w : xw_M) : Option ((Int32 × xw_M) ⊕ (xw_M)) := xw_ck (75 : Int32) 109 (if (w.1 120 (75 : Int32).toNatClampNeg) ≤ x2 then some (.inr w) else xw_ck ((76 : Int32) + ((2 : Int32) * x2)) 109 (xw_lt (w.1 120 ((76 : Int32) + ((2 : Int32) * x2)).toNatClampNeg) (fun x3_10 => xw_ck ((77 : Int32) + ((2 : Int32) * x2)) 109 (xw_lt (w.1 120 ((77 : Int32) + ((2 : Int32) * x2)).toNatClampNeg) (fun x4_12 => if x3_10 = 0 then xw_b (fX8_day n (0 : Int32) w) (fun r21 w22 => fX8_ends_95 n a1 x2 w22) else if x3_10 = (3 : Int32) then xw_b (fX8_change x4_12 (3 : Int32) (0 : Int32) w) (fun r18 w19 => fX8_ends_95 n a1 x2 w19) else xw_b (fX8_change x4_12 (4 : Int32) ((2 : Int32) - x3_10) w) (fun r15 w16 => fX8_ends_95 n a1 x2 w16))))))
def fX8_ends_18 (n : Nat) (a1 : Int32) (x2 : Int32) (w : xw_M) : Option (Int32 × xw_M) := xw_bp (xw_it (fun z => fX8_ends_b18 n a1 z.1 z.2) n (x2, w)) (fun z => (fun (w : xw_M) => fX8_ends_101 n a1 w) z)
def fX8_ends (n : Nat) (a1 : Int32) (w0 : xw_M) : Option (Int32 × xw_M) := xw_bp (fX8_isIn a1 (0 : Int32) (1 : Int32)) (fun r1 => if r1 = 0 then some ((-1 : Int32), w0) else xw_b (fX8_keep n (0 : Int32) w0) (fun (_ : Unit) w5 => fX8_ends_18 n a1 (0 : Int32) w5))
set_option maxHeartbeats 4000000 in
set_option maxRecDepth 100000 in
theorem kX8_ends (l : Launch) (G : xw_G) (hG : xw_ok G) (n : Nat) (a1 : Int32) (w0 : xw_M) (r0 : Int32) (wz : xw_M) (hf : fX8_ends n a1 w0 = some (r0, wz)) : xw_Ti l G yX8_ends cX8_ends 5 ((Option.some Jvm.ClassFile.FieldType.int)) (36) (796) [.ref (xw_ad G 119), .int a1] w0 r0 wz := by
  unfold xw_Ti
  refine Met.ofW (cc := cX8_ends) (maxL := 5) (ret := (Option.some Jvm.ClassFile.FieldType.int)) (by decide) rfl ?_
  intro p e s m args below meth c s₁ B hml hv
  obtain ⟨hargs, hP, hK, hE⟩ := hv
  have hx := B.exec
  have hb := B.bytes
  have hr := B.returns
  have hlk := B.notSynchronized
  have hB : CallFix p m c cX8_ends 5 s args TB RX8 := ⟨hx, hb, hml, findClass_of_methodNamed B.named, fun q h => (atoms_spec (ws := Cond.code yX8_ends cX8_ends 5 ((Option.some Jvm.ClassFile.FieldType.int)) :: TB) B.pre) q (List.mem_cons_of_mem _ h)⟩
  have hS : va_S (xw_A G) s.heap s.heap [] := va_S.rf
  have hl := lv_entry [.ref (xw_ad G 119), .int a1] (n := 5) (Nat.le_of_ble_eq_true rfl)
  rw [show entryFrame m args 5 = entryFrame m ([.ref (xw_ad G 119), .int a1] : List Value).toArray 5 from by rw [hargs], lg_entry_eq]
  generalize (lg_sl [.ref (xw_ad G 119), .int a1] ++ List.replicate (5 - (lg_sl [.ref (xw_ad G 119), .int a1]).length) Slot.unset).toArray = ls at hl ⊢
  have hP : va_P (xw_D G) xw_cl (xw_W G w0) s.heap := hP
  have hl : lv_has ls 5 [(0, .ref (xw_ad G 119)), (1, .int a1)] := hl
  have HH : ∀ (H : Heap) (locs : List Loc) (hP : va_P (xw_D G) xw_cl (xw_W G w0) H) (hS : va_S (xw_A G) s.heap H locs), xw_Wi G p l e (xw_rm (36) (796)) s m args below meth c H locs r0 wz (F0 m 0 ls []) := by
    intro H locs hP hS
    unfold fX8_ends at hf
    have J139 : ∀ (x2 : Int32) (w : xw_M) (hf : fX8_ends_139 n a1 x2 w = some (r0, wz)) (H : Heap) (locs : List Loc) (ls : Array Slot) (hP : va_P (xw_D G) xw_cl (xw_W G w) H) (hS : va_S (xw_A G) s.heap H locs) (hl : lv_has ls 5 [(0, .ref (xw_ad G 119)), (2, .int x2)]), xw_Wi G p l e (xw_rm (36) (796)) s m args below meth c H locs r0 wz (F0 m 139 ls []) := by
      intro x2 w hf H locs ls hP hS hl
      unfold fX8_ends_139 at hf
      refine lv_aload_n hx hb dX8_ends_139 rfl (lv_at hl 0 rfl) ?_
      refine lv_iconst (v := 0) hx hb dX8_ends_140 (by decide) ?_
      replace hf := xw_b_e hf
      obtain ⟨r32, w33, he34, hf⟩ := hf
      refine xw_Vv hB hK hE hS hP (As := [.int (0 : Int32)]) (rest := []) (kX8_lay l G hG n (0 : Int32) w _ _ he34) gs_X8_201 (xw_rc hK hP (C := RX8) (T := TX8) (N := 31) (xw_o8 G) rfl) 1 hv_X8_lay ⟨Nat.le_of_ble_eq_true rfl, Nat.le_of_ble_eq_true rfl⟩ rfl hl.1 (Nat.le_of_ble_eq_true rfl) rfl dX8_ends_141 ⟨Nat.zero_le _, Nat.zero_le _⟩ (fun H locs hP hS => ?_)
      refine lv_iload_n hx hb dX8_ends_144 rfl (lv_at hl 1 rfl) ?_
      obtain ⟨h0, h1⟩ := xw_s2 hf
      exact xw_iret hB hK hE hS hP hr hlk h0 h1 dX8_ends_145
    have J105 : ∀ (x2 : Int32) (x3 : Int32) (w : xw_M) (hf : fX8_ends_105 n a1 x2 x3 w = some (r0, wz)) (H : Heap) (locs : List Loc) (ls : Array Slot) (hP : va_P (xw_D G) xw_cl (xw_W G w) H) (hS : va_S (xw_A G) s.heap H locs) (hl : lv_has ls 5 [(0, .ref (xw_ad G 119)), (1, .int a1), (2, .int x2), (3, .int x3)]), xw_Wi G p l e (xw_rm (36) (796)) s m args below meth c H locs r0 wz (F0 m 105 ls []) := by
      intro x2 x3 w hf H locs ls hP hS hl
      unfold fX8_ends_105 at hf
      replace hf := xw_bp_e hf
      obtain ⟨bb105, hit105, hfx105⟩ := hf
      have XX105 : ∀ (x2 : Int32) (hf : fX8_ends_139 n a1 x2 w = some (r0, wz)) (H : Heap) (locs : List Loc) (ls : Array Slot) (hP : va_P (xw_D G) xw_cl (xw_W G w) H) (hS : va_S (xw_A G) s.heap H locs) (hl : lv_has ls 5 [(0, .ref (xw_ad G 119)), (2, .int x2)]), xw_Wi G p l e (xw_rm (36) (796)) s m args below meth c H locs r0 wz (F0 m 139 ls []) := by
        intro x2 hf H locs ls hP hS hl
        exact J139 x2 w hf H locs ls hP hS (lv_sub hl [0, 1] rfl)
      have LL105 : ∀ (nn : Nat) (x2 : Int32) (x3 : Int32) (hit : xw_it (fun z => fX8_ends_b105 n a1 z.1 z.2 w) nn (x2, x3) = some bb105) (H : Heap) (locs : List Loc) (ls : Array Slot) (hP : va_P (xw_D G) xw_cl (xw_W G w) H) (hS : va_S (xw_A G) s.heap H locs) (hl : lv_has ls 5 [(0, .ref (xw_ad G 119)), (1, .int a1), (2, .int x2), (3, .int x3)]), xw_Wi G p l e (xw_rm (36) (796)) s m args below meth c H locs r0 wz (F0 m 105 ls []) := by
        intro nn
        induction nn with
        | zero => intro x2 x3 hit; exact (xw_it_0 hit).elim
        | succ nn ih105 =>
          intro x2 x3 hit H locs ls hP hS hl
          replace hit := xw_it_e hit
          obtain ⟨wv105, hf, hC105, hX105⟩ := hit
          replace hf : fX8_ends_b105 n a1 x2 x3 w = some wv105 := hf
          unfold fX8_ends_b105 at hf
          have J128 : ∀ (x3 : Int32) (v0 : Int32) (v2 : Int32) (v3 : Int32) (hf : fX8_ends_128 n a1 x3 v0 v2 v3 w = some wv105) (H : Heap) (locs : List Loc) (ls : Array Slot) (hP : va_P (xw_D G) xw_cl (xw_W G w) H) (hS : va_S (xw_A G) s.heap H locs) (hl : lv_has ls 5 [(0, .ref (xw_ad G 119)), (1, .int a1), (3, .int x3)]), xw_Wi G p l e (xw_rm (36) (796)) s m args below meth c H locs r0 wz (F0 m 128 ls [.int v3, .int v2, .ref (xw_ad G 119), .int v0]) := by
            intro x3 v0 v2 v3 hf H locs ls hP hS hl
            unfold fX8_ends_128 at hf
            replace hf := xw_bp_e hf
            obtain ⟨r28, he29, hf⟩ := hf
            refine xw_Vi hB hK hE hS hP (As := [.int v2, .int v3]) (rest := [.int v0]) (kX8_one l G hG v2 v3 w _ he29) gs_X8_89 (xw_rc hK hP (C := RX8) (T := TX8) (N := 31) (xw_o8 G) rfl) 2 hv_X8_one ⟨Nat.le_of_ble_eq_true rfl, Nat.le_of_ble_eq_true rfl⟩ rfl hl.1 (Nat.le_of_ble_eq_true rfl) rfl dX8_ends_128 ⟨Nat.zero_le _, Nat.zero_le _⟩ (fun H locs hP hS => ?_)
            refine lv_iadd hx hb dX8_ends_131 ?_
            refine lv_topi (fun x2_30 ex2_30 => ?_)
            replace hf := xw_lt_e ex2_30 hf
            refine lv_istore_n (lv' := [(2, .int x2_30), (0, .ref (xw_ad G 119)), (1, .int a1), (3, .int x3)]) hx hb dX8_ends_132 rfl hl (by decide) rfl (fun ls hl => ?_)
            obtain ⟨x3_31, ex3_31⟩ : ∃ y : Int32, y = x3 + 1 := ⟨_, rfl⟩
            replace hf := xw_lt_e ex3_31 hf
            refine lv_iinc (v := x3_31) (lv' := [(3, .int x3_31), (2, .int x2_30), (0, .ref (xw_ad G 119)), (1, .int a1)]) hx hb dX8_ends_133 hl (k := 3) rfl (by rw [ex3_31]; rfl) (by decide) rfl (fun ls hl => ?_)
            refine lv_goto (tgt := 105) hx hb dX8_ends_136 (by decide) ?_
            have hi := hC105 _ (xw_so hf).symm
            exact ih105 x2_30 x3_31 hi H locs ls hP hS (lv_sub hl [2, 3, 1, 0] rfl)
          refine lv_iload_n hx hb dX8_ends_105 rfl (lv_at hl 3 rfl) ?_
          refine lv_aload_n hx hb dX8_ends_106 rfl (lv_at hl 0 rfl) ?_
          refine xw_get hB hK hP (xw_o8 G) (C := RX8) (T := TX8) (N := 31) rfl TBi_X8 0 (by decide) tw_728 rfl rfl dX8_ends_107 ?_
          refine lv_bipush (v := 60) hx hb dX8_ends_110 (by decide) ?_
          replace hf := xw_ck_e hf
          obtain ⟨hi25, hf⟩ := hf
          refine xw_ild hB hK hP (xw_k120 G) hi25 dX8_ends_112 ?_
          refine lv_icmp_ge (tgt := 139) hx hb dX8_ends_113 (by decide) (fun c26 => ?_) (fun c26 => ?_)
          · replace hf := xw_ip c26 hf
            have he105 := hX105 _ (xw_so hf).symm
            rw [← he105] at hfx105
            exact XX105 x2 hfx105 H locs ls hP hS (lv_sub hl [0, 2] rfl)
          · replace hf := xw_in' c26 hf
            refine lv_iload_n hx hb dX8_ends_116 rfl (lv_at hl 2 rfl) ?_
            refine lv_aload_n hx hb dX8_ends_117 rfl (lv_at hl 0 rfl) ?_
            refine lv_iload_n hx hb dX8_ends_118 rfl (lv_at hl 3 rfl) ?_
            refine lv_iload_n hx hb dX8_ends_119 rfl (lv_at hl 1 rfl) ?_
            refine lv_if_ne (tgt := 127) hx hb dX8_ends_120 (by decide) (fun c27 => ?_) (fun c27 => ?_)
            · replace hf := xw_in' c27 hf
              refine lv_iconst (v := 3) hx hb dX8_ends_127 (by decide) ?_
              exact J128 x3 x2 x3 (3 : Int32) hf H locs ls hP hS (lv_sub hl [0, 1, 3] rfl)
            · replace hf := xw_ip c27 hf
              refine lv_iconst (v := 5) hx hb dX8_ends_123 (by decide) ?_
              refine lv_goto (tgt := 128) hx hb dX8_ends_124 (by decide) ?_
              exact J128 x3 x2 x3 (5 : Int32) hf H locs ls hP hS (lv_sub hl [0, 1, 3] rfl)
      exact LL105 n x2 x3 hit105 H locs ls hP hS hl
    have J101 : ∀ (w : xw_M) (hf : fX8_ends_101 n a1 w = some (r0, wz)) (H : Heap) (locs : List Loc) (ls : Array Slot) (hP : va_P (xw_D G) xw_cl (xw_W G w) H) (hS : va_S (xw_A G) s.heap H locs) (hl : lv_has ls 5 [(0, .ref (xw_ad G 119)), (1, .int a1)]), xw_Wi G p l e (xw_rm (36) (796)) s m args below meth c H locs r0 wz (F0 m 101 ls []) := by
      intro w hf H locs ls hP hS hl
      unfold fX8_ends_101 at hf
      refine lv_iconst (v := 0) hx hb dX8_ends_101 (by decide) ?_
      refine lv_istore_n (lv' := [(2, .int (0 : Int32)), (0, .ref (xw_ad G 119)), (1, .int a1)]) hx hb dX8_ends_102 rfl hl (by decide) rfl (fun ls hl => ?_)
      refine lv_iconst (v := 0) hx hb dX8_ends_103 (by decide) ?_
      refine lv_istore_n (lv' := [(3, .int (0 : Int32)), (2, .int (0 : Int32)), (0, .ref (xw_ad G 119)), (1, .int a1)]) hx hb dX8_ends_104 rfl hl (by decide) rfl (fun ls hl => ?_)
      exact J105 (0 : Int32) (0 : Int32) w hf H locs ls hP hS (lv_sub hl [2, 3, 1, 0] rfl)
    have J18 : ∀ (x2 : Int32) (w : xw_M) (hf : fX8_ends_18 n a1 x2 w = some (r0, wz)) (H : Heap) (locs : List Loc) (ls : Array Slot) (hP : va_P (xw_D G) xw_cl (xw_W G w) H) (hS : va_S (xw_A G) s.heap H locs) (hl : lv_has ls 5 [(0, .ref (xw_ad G 119)), (1, .int a1), (2, .int x2)]), xw_Wi G p l e (xw_rm (36) (796)) s m args below meth c H locs r0 wz (F0 m 18 ls []) := by
      intro x2 w hf H locs ls hP hS hl
      unfold fX8_ends_18 at hf
      replace hf := xw_bp_e hf
      obtain ⟨bb18, hit18, hfx18⟩ := hf
      have XX18 : ∀ (w : xw_M) (hf : fX8_ends_101 n a1 w = some (r0, wz)) (H : Heap) (locs : List Loc) (ls : Array Slot) (hP : va_P (xw_D G) xw_cl (xw_W G w) H) (hS : va_S (xw_A G) s.heap H locs) (hl : lv_has ls 5 [(0, .ref (xw_ad G 119)), (1, .int a1)]), xw_Wi G p l e (xw_rm (36) (796)) s m args below meth c H locs r0 wz (F0 m 101 ls []) := by
        intro w hf H locs ls hP hS hl
        exact J101 w hf H locs ls hP hS (lv_sub hl [0, 1] rfl)
      have LL18 : ∀ (nn : Nat) (x2 : Int32) (w : xw_M) (hit : xw_it (fun z => fX8_ends_b18 n a1 z.1 z.2) nn (x2, w) = some bb18) (H : Heap) (locs : List Loc) (ls : Array Slot) (hP : va_P (xw_D G) xw_cl (xw_W G w) H) (hS : va_S (xw_A G) s.heap H locs) (hl : lv_has ls 5 [(0, .ref (xw_ad G 119)), (1, .int a1), (2, .int x2)]), xw_Wi G p l e (xw_rm (36) (796)) s m args below meth c H locs r0 wz (F0 m 18 ls []) := by
        intro nn
        induction nn with
        | zero => intro x2 w hit; exact (xw_it_0 hit).elim
        | succ nn ih18 =>
          intro x2 w hit H locs ls hP hS hl
          replace hit := xw_it_e hit
          obtain ⟨wv18, hf, hC18, hX18⟩ := hit
          replace hf : fX8_ends_b18 n a1 x2 w = some wv18 := hf
          unfold fX8_ends_b18 at hf
          have J95 : ∀ (x2 : Int32) (w : xw_M) (hf : fX8_ends_95 n a1 x2 w = some wv18) (H : Heap) (locs : List Loc) (ls : Array Slot) (hP : va_P (xw_D G) xw_cl (xw_W G w) H) (hS : va_S (xw_A G) s.heap H locs) (hl : lv_has ls 5 [(0, .ref (xw_ad G 119)), (1, .int a1), (2, .int x2)]), xw_Wi G p l e (xw_rm (36) (796)) s m args below meth c H locs r0 wz (F0 m 95 ls []) := by
            intro x2 w hf H locs ls hP hS hl
            unfold fX8_ends_95 at hf
            obtain ⟨x2_24, ex2_24⟩ : ∃ y : Int32, y = x2 + 1 := ⟨_, rfl⟩
            replace hf := xw_lt_e ex2_24 hf
            refine lv_iinc (v := x2_24) (lv' := [(2, .int x2_24), (0, .ref (xw_ad G 119)), (1, .int a1)]) hx hb dX8_ends_95 hl (k := 2) rfl (by rw [ex2_24]; rfl) (by decide) rfl (fun ls hl => ?_)
            refine lv_goto (tgt := 18) hx hb dX8_ends_98 (by decide) ?_
            have hi := hC18 _ (xw_so hf).symm
            exact ih18 x2_24 w hi H locs ls hP hS (lv_sub hl [1, 2, 0] rfl)
          refine lv_iload_n hx hb dX8_ends_18 rfl (lv_at hl 2 rfl) ?_
          refine lv_aload_n hx hb dX8_ends_19 rfl (lv_at hl 0 rfl) ?_
          refine xw_get hB hK hP (xw_o8 G) (C := RX8) (T := TX8) (N := 31) rfl TBi_X8 0 (by decide) tw_728 rfl rfl dX8_ends_20 ?_
          refine lv_bipush (v := 75) hx hb dX8_ends_23 (by decide) ?_
          replace hf := xw_ck_e hf
          obtain ⟨hi7, hf⟩ := hf
          refine xw_ild hB hK hP (xw_k120 G) hi7 dX8_ends_25 ?_
          refine lv_icmp_ge (tgt := 101) hx hb dX8_ends_26 (by decide) (fun c8 => ?_) (fun c8 => ?_)
          · replace hf := xw_ip c8 hf
            have he18 := hX18 _ (xw_so hf).symm
            rw [← he18] at hfx18
            exact XX18 w hfx18 H locs ls hP hS (lv_sub hl [0, 1] rfl)
          · replace hf := xw_in' c8 hf
            refine lv_aload_n hx hb dX8_ends_29 rfl (lv_at hl 0 rfl) ?_
            refine xw_get hB hK hP (xw_o8 G) (C := RX8) (T := TX8) (N := 31) rfl TBi_X8 0 (by decide) tw_728 rfl rfl dX8_ends_30 ?_
            refine lv_bipush (v := 76) hx hb dX8_ends_33 (by decide) ?_
            refine lv_iconst (v := 2) hx hb dX8_ends_35 (by decide) ?_
            refine lv_iload_n hx hb dX8_ends_36 rfl (lv_at hl 2 rfl) ?_
            refine lv_imul hx hb dX8_ends_37 ?_
            refine lv_iadd hx hb dX8_ends_38 ?_
            replace hf := xw_ck_e hf
            obtain ⟨hi9, hf⟩ := hf
            refine xw_ild hB hK hP (xw_k120 G) hi9 dX8_ends_39 ?_
            refine lv_topi (fun x3_10 ex3_10 => ?_)
            replace hf := xw_lt_e ex3_10 hf
            refine lv_istore_n (lv' := [(3, .int x3_10), (0, .ref (xw_ad G 119)), (1, .int a1), (2, .int x2)]) hx hb dX8_ends_40 rfl hl (by decide) rfl (fun ls hl => ?_)
            refine lv_aload_n hx hb dX8_ends_41 rfl (lv_at hl 1 rfl) ?_
            refine xw_get hB hK hP (xw_o8 G) (C := RX8) (T := TX8) (N := 31) rfl TBi_X8 0 (by decide) tw_728 rfl rfl dX8_ends_42 ?_
            refine lv_bipush (v := 77) hx hb dX8_ends_45 (by decide) ?_
            refine lv_iconst (v := 2) hx hb dX8_ends_47 (by decide) ?_
            refine lv_iload_n hx hb dX8_ends_48 rfl (lv_at hl 3 rfl) ?_
            refine lv_imul hx hb dX8_ends_49 ?_
            refine lv_iadd hx hb dX8_ends_50 ?_
            replace hf := xw_ck_e hf
            obtain ⟨hi11, hf⟩ := hf
            refine xw_ild hB hK hP (xw_k120 G) hi11 dX8_ends_51 ?_
            refine lv_topi (fun x4_12 ex4_12 => ?_)
            replace hf := xw_lt_e ex4_12 hf
            refine lv_istore (lv' := [(4, .int x4_12), (3, .int x3_10), (0, .ref (xw_ad G 119)), (1, .int a1), (2, .int x2)]) hx hb dX8_ends_52 hl (by decide) rfl (fun ls hl => ?_)
            refine lv_iload_n hx hb dX8_ends_54 rfl (lv_at hl 1 rfl) ?_
            refine lv_if_ne (tgt := 67) hx hb dX8_ends_55 (by decide) (fun c13 => ?_) (fun c13 => ?_)
            · replace hf := xw_in' c13 hf
              refine lv_iload_n hx hb dX8_ends_67 rfl (lv_at hl 1 rfl) ?_
              refine lv_iconst (v := 3) hx hb dX8_ends_68 (by decide) ?_
              refine lv_icmp_ne (tgt := 84) hx hb dX8_ends_69 (by decide) (fun c14 => ?_) (fun c14 => ?_)
              · replace hf := xw_in' c14 hf
                refine lv_aload_n hx hb dX8_ends_84 rfl (lv_at hl 2 rfl) ?_
                refine lv_iload hx hb dX8_ends_85 (lv_at hl 0 rfl) ?_
                refine lv_iconst (v := 4) hx hb dX8_ends_87 (by decide) ?_
                refine lv_iconst (v := 2) hx hb dX8_ends_88 (by decide) ?_
                refine lv_iload_n hx hb dX8_ends_89 rfl (lv_at hl 1 rfl) ?_
                refine lv_isub hx hb dX8_ends_90 ?_
                replace hf := xw_b_e hf
                obtain ⟨r15, w16, he17, hf⟩ := hf
                refine xw_Vi hB hK hE hS hP (As := [.int x4_12, .int (4 : Int32), .int ((2 : Int32) - x3_10)]) (rest := []) (kX8_change l G hG x4_12 (4 : Int32) ((2 : Int32) - x3_10) w _ _ he17) gs_X8_97 (xw_rc hK hP (C := RX8) (T := TX8) (N := 31) (xw_o8 G) rfl) 3 hv_X8_change ⟨Nat.le_of_ble_eq_true rfl, Nat.le_of_ble_eq_true rfl⟩ rfl hl.1 (Nat.le_of_ble_eq_true rfl) rfl dX8_ends_91 ⟨Nat.zero_le _, Nat.zero_le _⟩ (fun H locs hP hS => ?_)
                refine lv_pop hx hb dX8_ends_94 rfl ?_
                exact J95 x2 w16 hf H locs ls hP hS (lv_sub hl [2, 3, 4] rfl)
              · replace hf := xw_ip c14 hf
                refine lv_aload_n hx hb dX8_ends_72 rfl (lv_at hl 2 rfl) ?_
                refine lv_iload hx hb dX8_ends_73 (lv_at hl 0 rfl) ?_
                refine lv_iconst (v := 3) hx hb dX8_ends_75 (by decide) ?_
                refine lv_iconst (v := 0) hx hb dX8_ends_76 (by decide) ?_
                replace hf := xw_b_e hf
                obtain ⟨r18, w19, he20, hf⟩ := hf
                refine xw_Vi hB hK hE hS hP (As := [.int x4_12, .int (3 : Int32), .int (0 : Int32)]) (rest := []) (kX8_change l G hG x4_12 (3 : Int32) (0 : Int32) w _ _ he20) gs_X8_97 (xw_rc hK hP (C := RX8) (T := TX8) (N := 31) (xw_o8 G) rfl) 3 hv_X8_change ⟨Nat.le_of_ble_eq_true rfl, Nat.le_of_ble_eq_true rfl⟩ rfl hl.1 (Nat.le_of_ble_eq_true rfl) rfl dX8_ends_77 ⟨Nat.zero_le _, Nat.zero_le _⟩ (fun H locs hP hS => ?_)
                refine lv_pop hx hb dX8_ends_80 rfl ?_
                refine lv_goto (tgt := 95) hx hb dX8_ends_81 (by decide) ?_
                exact J95 x2 w19 hf H locs ls hP hS (lv_sub hl [2, 3, 4] rfl)
            · replace hf := xw_ip c13 hf
              refine lv_aload_n hx hb dX8_ends_58 rfl (lv_at hl 2 rfl) ?_
              refine lv_iconst (v := 0) hx hb dX8_ends_59 (by decide) ?_
              replace hf := xw_b_e hf
              obtain ⟨r21, w22, he23, hf⟩ := hf
              refine xw_Vi hB hK hE hS hP (As := [.int (0 : Int32)]) (rest := []) (kX8_day l G hG n (0 : Int32) w _ _ he23) gs_X8_197 (xw_rc hK hP (C := RX8) (T := TX8) (N := 31) (xw_o8 G) rfl) 1 hv_X8_day ⟨Nat.le_of_ble_eq_true rfl, Nat.le_of_ble_eq_true rfl⟩ rfl hl.1 (Nat.le_of_ble_eq_true rfl) rfl dX8_ends_60 ⟨Nat.zero_le _, Nat.zero_le _⟩ (fun H locs hP hS => ?_)
              refine lv_pop hx hb dX8_ends_63 rfl ?_
              refine lv_goto (tgt := 95) hx hb dX8_ends_64 (by decide) ?_
              exact J95 x2 w22 hf H locs ls hP hS (lv_sub hl [2, 3, 4] rfl)
      exact LL18 n x2 w hit18 H locs ls hP hS hl
    refine lv_iload_n hx hb dX8_ends_0 rfl (lv_at hl 1 rfl) ?_
    refine lv_iconst (v := 0) hx hb dX8_ends_1 (by decide) ?_
    refine lv_iconst (v := 1) hx hb dX8_ends_2 (by decide) ?_
    replace hf := xw_bp_e hf
    obtain ⟨r1, he2, hf⟩ := hf
    refine xw_Si hB hK hE hS hP (As := [.int a1, .int (0 : Int32), .int (1 : Int32)]) (rest := []) (kX8_isIn l G hG a1 (0 : Int32) (1 : Int32) w0 _ he2) tw_835 tw_837 tw_836 tw_10 3 hs_X8_isIn ⟨Nat.le_of_ble_eq_true rfl, Nat.le_of_ble_eq_true rfl⟩ rfl hl.1 (Nat.le_of_ble_eq_true rfl) rfl dX8_ends_3 ⟨Nat.zero_le _, Nat.zero_le _⟩ (fun H locs hP hS => ?_)
    refine lv_if_ne (tgt := 11) hx hb dX8_ends_6 (by decide) (fun c3 => ?_) (fun c3 => ?_)
    · replace hf := xw_in' c3 hf
      refine lv_aload_n hx hb dX8_ends_11 rfl (lv_at hl 0 rfl) ?_
      refine lv_iconst (v := 0) hx hb dX8_ends_12 (by decide) ?_
      replace hf := xw_b_e hf
      obtain ⟨r4, w5, he6, hf⟩ := hf
      refine xw_Vv hB hK hE hS hP (As := [.int (0 : Int32)]) (rest := []) (kX8_keep l G hG n (0 : Int32) w0 _ _ he6) gs_X8_194 (xw_rc hK hP (C := RX8) (T := TX8) (N := 31) (xw_o8 G) rfl) 1 hv_X8_keep ⟨Nat.le_of_ble_eq_true rfl, Nat.le_of_ble_eq_true rfl⟩ rfl hl.1 (Nat.le_of_ble_eq_true rfl) rfl dX8_ends_13 ⟨Nat.zero_le _, Nat.zero_le _⟩ (fun H locs hP hS => ?_)
      refine lv_iconst (v := 0) hx hb dX8_ends_16 (by decide) ?_
      refine lv_istore_n (lv' := [(2, .int (0 : Int32)), (0, .ref (xw_ad G 119)), (1, .int a1)]) hx hb dX8_ends_17 rfl hl (by decide) rfl (fun ls hl => ?_)
      exact J18 (0 : Int32) w5 hf H locs ls hP hS (lv_sub hl [1, 2, 0] rfl)
    · replace hf := xw_ip c3 hf
      refine lv_iconst (v := (-1)) hx hb dX8_ends_9 (by decide) ?_
      obtain ⟨h0, h1⟩ := xw_s2 hf
      exact xw_iret hB hK hE hS hP hr hlk h0 h1 dX8_ends_10
  exact HH s.heap [] hP hS
def fX8_book (a1 : Int32) (a2 : Int32) (w0 : xw_M) : Option (Int32 × xw_M) := if a1 = (-1 : Int32) then xw_ck (92 : Int32) 109 (xw_lt (xw_si w0 120 (92 : Int32).toNatClampNeg (0 : Int32)) (fun w21 => some ((0 : Int32), w21))) else xw_bp (fX8_isOne a1 w0) (fun r2 => if r2 = 0 then some ((-1 : Int32), w0) else xw_bp (fX8_isYard a2) (fun r5 => if r5 = 0 then some ((-1 : Int32), w0) else xw_ck (92 : Int32) 109 (if (w0.1 120 (92 : Int32).toNatClampNeg) = (8 : Int32) then some ((-4 : Int32), w0) else xw_ck (92 : Int32) 109 (xw_ck ((93 : Int32) + ((2 : Int32) * (w0.1 120 (92 : Int32).toNatClampNeg))) 109 (xw_lt (xw_si w0 120 ((93 : Int32) + ((2 : Int32) * (w0.1 120 (92 : Int32).toNatClampNeg))).toNatClampNeg a1) (fun w12 => xw_ck (92 : Int32) 109 (xw_ck ((94 : Int32) + ((2 : Int32) * (w12.1 120 (92 : Int32).toNatClampNeg))) 109 (xw_lt (xw_si w12 120 ((94 : Int32) + ((2 : Int32) * (w12.1 120 (92 : Int32).toNatClampNeg))).toNatClampNeg a2) (fun w15 => xw_ck (92 : Int32) 109 (xw_ck (92 : Int32) 109 (xw_lt (xw_si w15 120 (92 : Int32).toNatClampNeg ((w15.1 120 (92 : Int32).toNatClampNeg) + (1 : Int32))) (fun w18 => xw_ck (92 : Int32) 109 (some (w18.1 120 (92 : Int32).toNatClampNeg, w18))))))))))))))
set_option maxHeartbeats 4000000 in
set_option maxRecDepth 100000 in
theorem kX8_book (l : Launch) (G : xw_G) (hG : xw_ok G) (a1 : Int32) (a2 : Int32) (w0 : xw_M) (r0 : Int32) (wz : xw_M) (hf : fX8_book a1 a2 w0 = some (r0, wz)) : xw_Ti l G yX8_book cX8_book 3 ((Option.some Jvm.ClassFile.FieldType.int)) (2) (43) [.ref (xw_ad G 119), .int a1, .int a2] w0 r0 wz := by
  unfold xw_Ti
  refine Met.ofW (cc := cX8_book) (maxL := 3) (ret := (Option.some Jvm.ClassFile.FieldType.int)) (by decide) rfl ?_
  intro p e s m args below meth c s₁ B hml hv
  obtain ⟨hargs, hP, hK, hE⟩ := hv
  have hx := B.exec
  have hb := B.bytes
  have hr := B.returns
  have hlk := B.notSynchronized
  have hB : CallFix p m c cX8_book 3 s args TB RX8 := ⟨hx, hb, hml, findClass_of_methodNamed B.named, fun q h => (atoms_spec (ws := Cond.code yX8_book cX8_book 3 ((Option.some Jvm.ClassFile.FieldType.int)) :: TB) B.pre) q (List.mem_cons_of_mem _ h)⟩
  have hS : va_S (xw_A G) s.heap s.heap [] := va_S.rf
  have hl := lv_entry [.ref (xw_ad G 119), .int a1, .int a2] (n := 3) (Nat.le_of_ble_eq_true rfl)
  rw [show entryFrame m args 3 = entryFrame m ([.ref (xw_ad G 119), .int a1, .int a2] : List Value).toArray 3 from by rw [hargs], lg_entry_eq]
  generalize (lg_sl [.ref (xw_ad G 119), .int a1, .int a2] ++ List.replicate (3 - (lg_sl [.ref (xw_ad G 119), .int a1, .int a2]).length) Slot.unset).toArray = ls at hl ⊢
  have hP : va_P (xw_D G) xw_cl (xw_W G w0) s.heap := hP
  have hl : lv_has ls 3 [(0, .ref (xw_ad G 119)), (1, .int a1), (2, .int a2)] := hl
  have HH : ∀ (H : Heap) (locs : List Loc) (hP : va_P (xw_D G) xw_cl (xw_W G w0) H) (hS : va_S (xw_A G) s.heap H locs), xw_Wi G p l e (xw_rm (2) (43)) s m args below meth c H locs r0 wz (F0 m 0 ls []) := by
    intro H locs hP hS
    unfold fX8_book at hf
    refine lv_iload_n hx hb dX8_book_0 rfl (lv_at hl 1 rfl) ?_
    refine lv_iconst (v := (-1)) hx hb dX8_book_1 (by decide) ?_
    refine lv_icmp_ne (tgt := 15) hx hb dX8_book_2 (by decide) (fun c1 => ?_) (fun c1 => ?_)
    · replace hf := xw_in' c1 hf
      refine lv_aload_n hx hb dX8_book_15 rfl (lv_at hl 0 rfl) ?_
      refine lv_iload_n hx hb dX8_book_16 rfl (lv_at hl 1 rfl) ?_
      replace hf := xw_bp_e hf
      obtain ⟨r2, he3, hf⟩ := hf
      refine xw_Vi hB hK hE hS hP (As := [.int a1]) (rest := []) (kX8_isOne l G hG a1 w0 _ he3) gs_X8_101 (xw_rc hK hP (C := RX8) (T := TX8) (N := 31) (xw_o8 G) rfl) 1 hv_X8_isOne ⟨Nat.le_of_ble_eq_true rfl, Nat.le_of_ble_eq_true rfl⟩ rfl hl.1 (Nat.le_of_ble_eq_true rfl) rfl dX8_book_17 ⟨Nat.zero_le _, Nat.zero_le _⟩ (fun H locs hP hS => ?_)
      refine lv_if_eq (tgt := 30) hx hb dX8_book_20 (by decide) (fun c4 => ?_) (fun c4 => ?_)
      · replace hf := xw_ip c4 hf
        refine lv_iconst (v := (-1)) hx hb dX8_book_30 (by decide) ?_
        obtain ⟨h0, h1⟩ := xw_s2 hf
        exact xw_iret hB hK hE hS hP hr hlk h0 h1 dX8_book_31
      · replace hf := xw_in' c4 hf
        refine lv_iload_n hx hb dX8_book_23 rfl (lv_at hl 2 rfl) ?_
        replace hf := xw_bp_e hf
        obtain ⟨r5, he6, hf⟩ := hf
        refine xw_Si hB hK hE hS hP (As := [.int a2]) (rest := []) (kX8_isYard l G hG a2 w0 _ he6) tw_838 tw_840 tw_839 tw_10 1 hs_X8_isYard ⟨Nat.le_of_ble_eq_true rfl, Nat.le_of_ble_eq_true rfl⟩ rfl hl.1 (Nat.le_of_ble_eq_true rfl) rfl dX8_book_24 ⟨Nat.zero_le _, Nat.zero_le _⟩ (fun H locs hP hS => ?_)
        refine lv_if_ne (tgt := 32) hx hb dX8_book_27 (by decide) (fun c7 => ?_) (fun c7 => ?_)
        · replace hf := xw_in' c7 hf
          refine lv_aload_n hx hb dX8_book_32 rfl (lv_at hl 0 rfl) ?_
          refine xw_get hB hK hP (xw_o8 G) (C := RX8) (T := TX8) (N := 31) rfl TBi_X8 0 (by decide) tw_728 rfl rfl dX8_book_33 ?_
          refine lv_bipush (v := 92) hx hb dX8_book_36 (by decide) ?_
          replace hf := xw_ck_e hf
          obtain ⟨hi8, hf⟩ := hf
          refine xw_ild hB hK hP (xw_k120 G) hi8 dX8_book_38 ?_
          refine lv_bipush (v := 8) hx hb dX8_book_39 (by decide) ?_
          refine lv_icmp_ne (tgt := 47) hx hb dX8_book_41 (by decide) (fun c9 => ?_) (fun c9 => ?_)
          · replace hf := xw_in' c9 hf
            refine lv_aload_n hx hb dX8_book_47 rfl (lv_at hl 0 rfl) ?_
            refine xw_get hB hK hP (xw_o8 G) (C := RX8) (T := TX8) (N := 31) rfl TBi_X8 0 (by decide) tw_728 rfl rfl dX8_book_48 ?_
            refine lv_bipush (v := 93) hx hb dX8_book_51 (by decide) ?_
            refine lv_iconst (v := 2) hx hb dX8_book_53 (by decide) ?_
            refine lv_aload_n hx hb dX8_book_54 rfl (lv_at hl 0 rfl) ?_
            refine xw_get hB hK hP (xw_o8 G) (C := RX8) (T := TX8) (N := 31) rfl TBi_X8 0 (by decide) tw_728 rfl rfl dX8_book_55 ?_
            refine lv_bipush (v := 92) hx hb dX8_book_58 (by decide) ?_
            replace hf := xw_ck_e hf
            obtain ⟨hi10, hf⟩ := hf
            refine xw_ild hB hK hP (xw_k120 G) hi10 dX8_book_60 ?_
            refine lv_imul hx hb dX8_book_61 ?_
            refine lv_iadd hx hb dX8_book_62 ?_
            refine lv_iload_n hx hb dX8_book_63 rfl (lv_at hl 1 rfl) ?_
            replace hf := xw_ck_e hf
            obtain ⟨hi11, hf⟩ := hf
            refine xw_ist hG hB hK hS hP (xw_k120 G) hi11 dX8_book_64 (fun w12 ew12 H locs hP hS => ?_)
            replace hf := xw_lt_e ew12 hf
            refine lv_aload_n hx hb dX8_book_65 rfl (lv_at hl 0 rfl) ?_
            refine xw_get hB hK hP (xw_o8 G) (C := RX8) (T := TX8) (N := 31) rfl TBi_X8 0 (by decide) tw_728 rfl rfl dX8_book_66 ?_
            refine lv_bipush (v := 94) hx hb dX8_book_69 (by decide) ?_
            refine lv_iconst (v := 2) hx hb dX8_book_71 (by decide) ?_
            refine lv_aload_n hx hb dX8_book_72 rfl (lv_at hl 0 rfl) ?_
            refine xw_get hB hK hP (xw_o8 G) (C := RX8) (T := TX8) (N := 31) rfl TBi_X8 0 (by decide) tw_728 rfl rfl dX8_book_73 ?_
            refine lv_bipush (v := 92) hx hb dX8_book_76 (by decide) ?_
            replace hf := xw_ck_e hf
            obtain ⟨hi13, hf⟩ := hf
            refine xw_ild hB hK hP (xw_k120 G) hi13 dX8_book_78 ?_
            refine lv_imul hx hb dX8_book_79 ?_
            refine lv_iadd hx hb dX8_book_80 ?_
            refine lv_iload_n hx hb dX8_book_81 rfl (lv_at hl 2 rfl) ?_
            replace hf := xw_ck_e hf
            obtain ⟨hi14, hf⟩ := hf
            refine xw_ist hG hB hK hS hP (xw_k120 G) hi14 dX8_book_82 (fun w15 ew15 H locs hP hS => ?_)
            replace hf := xw_lt_e ew15 hf
            refine lv_aload_n hx hb dX8_book_83 rfl (lv_at hl 0 rfl) ?_
            refine xw_get hB hK hP (xw_o8 G) (C := RX8) (T := TX8) (N := 31) rfl TBi_X8 0 (by decide) tw_728 rfl rfl dX8_book_84 ?_
            refine lv_bipush (v := 92) hx hb dX8_book_87 (by decide) ?_
            refine lv_dup2_11 hx hb dX8_book_89 rfl rfl ?_
            replace hf := xw_ck_e hf
            obtain ⟨hi16, hf⟩ := hf
            refine xw_ild hB hK hP (xw_k120 G) hi16 dX8_book_90 ?_
            refine lv_iconst (v := 1) hx hb dX8_book_91 (by decide) ?_
            refine lv_iadd hx hb dX8_book_92 ?_
            replace hf := xw_ck_e hf
            obtain ⟨hi17, hf⟩ := hf
            refine xw_ist hG hB hK hS hP (xw_k120 G) hi17 dX8_book_93 (fun w18 ew18 H locs hP hS => ?_)
            replace hf := xw_lt_e ew18 hf
            refine lv_aload_n hx hb dX8_book_94 rfl (lv_at hl 0 rfl) ?_
            refine xw_get hB hK hP (xw_o8 G) (C := RX8) (T := TX8) (N := 31) rfl TBi_X8 0 (by decide) tw_728 rfl rfl dX8_book_95 ?_
            refine lv_bipush (v := 92) hx hb dX8_book_98 (by decide) ?_
            replace hf := xw_ck_e hf
            obtain ⟨hi19, hf⟩ := hf
            refine xw_ild hB hK hP (xw_k120 G) hi19 dX8_book_100 ?_
            obtain ⟨h0, h1⟩ := xw_s2 hf
            exact xw_iret hB hK hE hS hP hr hlk h0 h1 dX8_book_101
          · replace hf := xw_ip c9 hf
            refine lv_bipush (v := (-4)) hx hb dX8_book_44 (by decide) ?_
            obtain ⟨h0, h1⟩ := xw_s2 hf
            exact xw_iret hB hK hE hS hP hr hlk h0 h1 dX8_book_46
        · replace hf := xw_ip c7 hf
          refine lv_iconst (v := (-1)) hx hb dX8_book_30 (by decide) ?_
          obtain ⟨h0, h1⟩ := xw_s2 hf
          exact xw_iret hB hK hE hS hP hr hlk h0 h1 dX8_book_31
    · replace hf := xw_ip c1 hf
      refine lv_aload_n hx hb dX8_book_5 rfl (lv_at hl 0 rfl) ?_
      refine xw_get hB hK hP (xw_o8 G) (C := RX8) (T := TX8) (N := 31) rfl TBi_X8 0 (by decide) tw_728 rfl rfl dX8_book_6 ?_
      refine lv_bipush (v := 92) hx hb dX8_book_9 (by decide) ?_
      refine lv_iconst (v := 0) hx hb dX8_book_11 (by decide) ?_
      replace hf := xw_ck_e hf
      obtain ⟨hi20, hf⟩ := hf
      refine xw_ist hG hB hK hS hP (xw_k120 G) hi20 dX8_book_12 (fun w21 ew21 H locs hP hS => ?_)
      replace hf := xw_lt_e ew21 hf
      refine lv_iconst (v := 0) hx hb dX8_book_13 (by decide) ?_
      obtain ⟨h0, h1⟩ := xw_s2 hf
      exact xw_iret hB hK hE hS hP hr hlk h0 h1 dX8_book_14
  exact HH s.heap [] hP hS
def fX8_looked_51 (n : Nat) (w0 : xw_M) : Option Int32 := some (-5 : Int32)
def fX8_looked_b2 (n : Nat) (x1 : Int32) (w0 : xw_M) : Option ((Int32) ⊕ ((Int32) ⊕ (Unit))) := xw_ck (92 : Int32) 109 (if (w0.1 120 (92 : Int32).toNatClampNeg) ≤ x1 then some (.inr (.inr ())) else xw_ck ((93 : Int32) + ((2 : Int32) * x1)) 109 (xw_bp (fX8_one (w0.1 120 ((93 : Int32) + ((2 : Int32) * x1)).toNatClampNeg) (3 : Int32) w0) (fun r4 => xw_ck ((94 : Int32) + ((2 : Int32) * x1)) 109 (if r4 = (w0.1 120 ((94 : Int32) + ((2 : Int32) * x1)).toNatClampNeg) then xw_lt (x1 + 1) (fun x1_8 => some (.inl x1_8)) else some (.inr (.inl x1))))))
def fX8_looked_2 (n : Nat) (x1 : Int32) (w0 : xw_M) : Option Int32 := xw_bp (xw_it (fun z => fX8_looked_b2 n z w0) n x1) (fun z => xw_su z (fun r => some r) (fun _ => fX8_looked_51 n w0))
def fX8_looked (n : Nat) (w0 : xw_M) : Option Int32 := fX8_looked_2 n (0 : Int32) w0
set_option maxHeartbeats 4000000 in
set_option maxRecDepth 100000 in
theorem kX8_looked (l : Launch) (G : xw_G) (hG : xw_ok G) (n : Nat) (w0 : xw_M) (r0 : Int32) (hf : fX8_looked n w0 = some r0) : xw_Ti l G yX8_looked cX8_looked 2 ((Option.some Jvm.ClassFile.FieldType.int)) (1) (22) [.ref (xw_ad G 119)] w0 r0 w0 := by
  unfold xw_Ti
  refine Met.ofW (cc := cX8_looked) (maxL := 2) (ret := (Option.some Jvm.ClassFile.FieldType.int)) (by decide) rfl ?_
  intro p e s m args below meth c s₁ B hml hv
  obtain ⟨hargs, hP, hK, hE⟩ := hv
  have hx := B.exec
  have hb := B.bytes
  have hr := B.returns
  have hlk := B.notSynchronized
  have hB : CallFix p m c cX8_looked 2 s args TB RX8 := ⟨hx, hb, hml, findClass_of_methodNamed B.named, fun q h => (atoms_spec (ws := Cond.code yX8_looked cX8_looked 2 ((Option.some Jvm.ClassFile.FieldType.int)) :: TB) B.pre) q (List.mem_cons_of_mem _ h)⟩
  have hS : va_S (xw_A G) s.heap s.heap [] := va_S.rf
  have hl := lv_entry [.ref (xw_ad G 119)] (n := 2) (Nat.le_of_ble_eq_true rfl)
  rw [show entryFrame m args 2 = entryFrame m ([.ref (xw_ad G 119)] : List Value).toArray 2 from by rw [hargs], lg_entry_eq]
  generalize (lg_sl [.ref (xw_ad G 119)] ++ List.replicate (2 - (lg_sl [.ref (xw_ad G 119)]).length) Slot.unset).toArray = ls at hl ⊢
  have hP : va_P (xw_D G) xw_cl (xw_W G w0) s.heap := hP
  have hl : lv_has ls 2 [(0, .ref (xw_ad G 119))] := hl
  have HH : ∀ (H : Heap) (locs : List Loc) (hP : va_P (xw_D G) xw_cl (xw_W G w0) H) (hS : va_S (xw_A G) s.heap H locs), xw_Wi G p l e (xw_rm (1) (22)) s m args below meth c H locs r0 w0 (F0 m 0 ls []) := by
    intro H locs hP hS
    unfold fX8_looked at hf
    have J51 : ∀ (hf : fX8_looked_51 n w0 = some r0) (H : Heap) (locs : List Loc) (ls : Array Slot) (hP : va_P (xw_D G) xw_cl (xw_W G w0) H) (hS : va_S (xw_A G) s.heap H locs) (hl : lv_has ls 2 []), xw_Wi G p l e (xw_rm (1) (22)) s m args below meth c H locs r0 w0 (F0 m 51 ls []) := by
      intro hf H locs ls hP hS hl
      unfold fX8_looked_51 at hf
      refine lv_bipush (v := (-5)) hx hb dX8_looked_51 (by decide) ?_
      have h0 := xw_so hf
      have h1 : w0 = w0 := rfl
      exact xw_iret hB hK hE hS hP hr hlk h0 h1 dX8_looked_53
    have J2 : ∀ (x1 : Int32) (hf : fX8_looked_2 n x1 w0 = some r0) (H : Heap) (locs : List Loc) (ls : Array Slot) (hP : va_P (xw_D G) xw_cl (xw_W G w0) H) (hS : va_S (xw_A G) s.heap H locs) (hl : lv_has ls 2 [(0, .ref (xw_ad G 119)), (1, .int x1)]), xw_Wi G p l e (xw_rm (1) (22)) s m args below meth c H locs r0 w0 (F0 m 2 ls []) := by
      intro x1 hf H locs ls hP hS hl
      unfold fX8_looked_2 at hf
      replace hf := xw_bp_e hf
      obtain ⟨bb2, hit2, hfx2⟩ := hf
      have XX2 : ∀ (hf : fX8_looked_51 n w0 = some r0) (H : Heap) (locs : List Loc) (ls : Array Slot) (hP : va_P (xw_D G) xw_cl (xw_W G w0) H) (hS : va_S (xw_A G) s.heap H locs) (hl : lv_has ls 2 []), xw_Wi G p l e (xw_rm (1) (22)) s m args below meth c H locs r0 w0 (F0 m 51 ls []) := by
        intro hf H locs ls hP hS hl
        exact J51 hf H locs ls hP hS (lv_sub hl [] rfl)
      have LL2 : ∀ (nn : Nat) (x1 : Int32) (hit : xw_it (fun z => fX8_looked_b2 n z w0) nn x1 = some bb2) (H : Heap) (locs : List Loc) (ls : Array Slot) (hP : va_P (xw_D G) xw_cl (xw_W G w0) H) (hS : va_S (xw_A G) s.heap H locs) (hl : lv_has ls 2 [(0, .ref (xw_ad G 119)), (1, .int x1)]), xw_Wi G p l e (xw_rm (1) (22)) s m args below meth c H locs r0 w0 (F0 m 2 ls []) := by
        intro nn
        induction nn with
        | zero => intro x1 hit; exact (xw_it_0 hit).elim
        | succ nn ih2 =>
          intro x1 hit H locs ls hP hS hl
          replace hit := xw_it_e hit
          obtain ⟨wv2, hf, hC2, hX2⟩ := hit
          replace hf : fX8_looked_b2 n x1 w0 = some wv2 := hf
          unfold fX8_looked_b2 at hf
          refine lv_iload_n hx hb dX8_looked_2 rfl (lv_at hl 1 rfl) ?_
          refine lv_aload_n hx hb dX8_looked_3 rfl (lv_at hl 0 rfl) ?_
          refine xw_get hB hK hP (xw_o8 G) (C := RX8) (T := TX8) (N := 31) rfl TBi_X8 0 (by decide) tw_728 rfl rfl dX8_looked_4 ?_
          refine lv_bipush (v := 92) hx hb dX8_looked_7 (by decide) ?_
          replace hf := xw_ck_e hf
          obtain ⟨hi1, hf⟩ := hf
          refine xw_ild hB hK hP (xw_k120 G) hi1 dX8_looked_9 ?_
          refine lv_icmp_ge (tgt := 51) hx hb dX8_looked_10 (by decide) (fun c2 => ?_) (fun c2 => ?_)
          · replace hf := xw_ip c2 hf
            have he2 := hX2 _ (xw_so hf).symm
            rw [← he2] at hfx2
            exact XX2  hfx2 H locs ls hP hS (lv_sub hl [] rfl)
          · replace hf := xw_in' c2 hf
            refine lv_aload_n hx hb dX8_looked_13 rfl (lv_at hl 0 rfl) ?_
            refine lv_aload_n hx hb dX8_looked_14 rfl (lv_at hl 0 rfl) ?_
            refine xw_get hB hK hP (xw_o8 G) (C := RX8) (T := TX8) (N := 31) rfl TBi_X8 0 (by decide) tw_728 rfl rfl dX8_looked_15 ?_
            refine lv_bipush (v := 93) hx hb dX8_looked_18 (by decide) ?_
            refine lv_iconst (v := 2) hx hb dX8_looked_20 (by decide) ?_
            refine lv_iload_n hx hb dX8_looked_21 rfl (lv_at hl 1 rfl) ?_
            refine lv_imul hx hb dX8_looked_22 ?_
            refine lv_iadd hx hb dX8_looked_23 ?_
            replace hf := xw_ck_e hf
            obtain ⟨hi3, hf⟩ := hf
            refine xw_ild hB hK hP (xw_k120 G) hi3 dX8_looked_24 ?_
            refine lv_iconst (v := 3) hx hb dX8_looked_25 (by decide) ?_
            replace hf := xw_bp_e hf
            obtain ⟨r4, he5, hf⟩ := hf
            refine xw_Vi hB hK hE hS hP (As := [.int (w0.1 120 ((93 : Int32) + ((2 : Int32) * x1)).toNatClampNeg), .int (3 : Int32)]) (rest := []) (kX8_one l G hG (w0.1 120 ((93 : Int32) + ((2 : Int32) * x1)).toNatClampNeg) (3 : Int32) w0 _ he5) gs_X8_89 (xw_rc hK hP (C := RX8) (T := TX8) (N := 31) (xw_o8 G) rfl) 2 hv_X8_one ⟨Nat.le_of_ble_eq_true rfl, Nat.le_of_ble_eq_true rfl⟩ rfl hl.1 (Nat.le_of_ble_eq_true rfl) rfl dX8_looked_26 ⟨Nat.zero_le _, Nat.zero_le _⟩ (fun H locs hP hS => ?_)
            refine lv_aload_n hx hb dX8_looked_29 rfl (lv_at hl 0 rfl) ?_
            refine xw_get hB hK hP (xw_o8 G) (C := RX8) (T := TX8) (N := 31) rfl TBi_X8 0 (by decide) tw_728 rfl rfl dX8_looked_30 ?_
            refine lv_bipush (v := 94) hx hb dX8_looked_33 (by decide) ?_
            refine lv_iconst (v := 2) hx hb dX8_looked_35 (by decide) ?_
            refine lv_iload_n hx hb dX8_looked_36 rfl (lv_at hl 1 rfl) ?_
            refine lv_imul hx hb dX8_looked_37 ?_
            refine lv_iadd hx hb dX8_looked_38 ?_
            replace hf := xw_ck_e hf
            obtain ⟨hi6, hf⟩ := hf
            refine xw_ild hB hK hP (xw_k120 G) hi6 dX8_looked_39 ?_
            refine lv_icmp_eq (tgt := 45) hx hb dX8_looked_40 (by decide) (fun c7 => ?_) (fun c7 => ?_)
            · replace hf := xw_ip c7 hf
              obtain ⟨x1_8, ex1_8⟩ : ∃ y : Int32, y = x1 + 1 := ⟨_, rfl⟩
              replace hf := xw_lt_e ex1_8 hf
              refine lv_iinc (v := x1_8) (lv' := [(1, .int x1_8), (0, .ref (xw_ad G 119))]) hx hb dX8_looked_45 hl (k := 1) rfl (by rw [ex1_8]; rfl) (by decide) rfl (fun ls hl => ?_)
              refine lv_goto (tgt := 2) hx hb dX8_looked_48 (by decide) ?_
              have hi := hC2 _ (xw_so hf).symm
              exact ih2 x1_8 hi H locs ls hP hS (lv_sub hl [1, 0] rfl)
            · replace hf := xw_in' c7 hf
              refine lv_iload_n hx hb dX8_looked_43 rfl (lv_at hl 1 rfl) ?_
              have he2 := hX2 _ (xw_so hf).symm
              rw [← he2] at hfx2
              replace hfx2 : some x1 = some r0 := hfx2
              have h0 := xw_so hfx2
              have h1 : w0 = w0 := rfl
              exact xw_iret hB hK hE hS hP hr hlk h0 h1 dX8_looked_44
      exact LL2 n x1 hit2 H locs ls hP hS hl
    refine lv_iconst (v := 0) hx hb dX8_looked_0 (by decide) ?_
    refine lv_istore_n (lv' := [(1, .int (0 : Int32)), (0, .ref (xw_ad G 119))]) hx hb dX8_looked_1 rfl hl (by decide) rfl (fun ls hl => ?_)
    exact J2 (0 : Int32) hf H locs ls hP hS (lv_sub hl [1, 0] rfl)
  exact HH s.heap [] hP hS
def fX8_body_19 (a1 : Int32) (w : xw_M) : Option (Int32 × xw_M) := xw_lt (xw_si w 119 26 ((w.1 119 26) + (1 : Int32))) (fun w4 => some (a1, w4))
def fX8_body (a1 : Int32) (w0 : xw_M) : Option (Int32 × xw_M) := if (20 : Int32) ≤ (w0.1 119 26) then fX8_body_19 a1 w0 else xw_ck (w0.1 119 26) 20 (xw_lt (xw_si w0 136 (w0.1 119 26).toNatClampNeg a1) (fun w3 => fX8_body_19 a1 w3))
set_option maxHeartbeats 4000000 in
set_option maxRecDepth 100000 in
theorem kX8_body (l : Launch) (G : xw_G) (hG : xw_ok G) (a1 : Int32) (w0 : xw_M) (r0 : Int32) (wz : xw_M) (hf : fX8_body a1 w0 = some (r0, wz)) : xw_Ti l G yX8_body cX8_body 2 ((Option.some Jvm.ClassFile.FieldType.int)) (0) (0) [.ref (xw_ad G 119), .int a1] w0 r0 wz := by
  unfold xw_Ti
  refine Met.ofW (cc := cX8_body) (maxL := 2) (ret := (Option.some Jvm.ClassFile.FieldType.int)) (by decide) rfl ?_
  intro p e s m args below meth c s₁ B hml hv
  obtain ⟨hargs, hP, hK, hE⟩ := hv
  have hx := B.exec
  have hb := B.bytes
  have hr := B.returns
  have hlk := B.notSynchronized
  have hB : CallFix p m c cX8_body 2 s args TB RX8 := ⟨hx, hb, hml, findClass_of_methodNamed B.named, fun q h => (atoms_spec (ws := Cond.code yX8_body cX8_body 2 ((Option.some Jvm.ClassFile.FieldType.int)) :: TB) B.pre) q (List.mem_cons_of_mem _ h)⟩
  have hS : va_S (xw_A G) s.heap s.heap [] := va_S.rf
  have hl := lv_entry [.ref (xw_ad G 119), .int a1] (n := 2) (Nat.le_of_ble_eq_true rfl)
  rw [show entryFrame m args 2 = entryFrame m ([.ref (xw_ad G 119), .int a1] : List Value).toArray 2 from by rw [hargs], lg_entry_eq]
  generalize (lg_sl [.ref (xw_ad G 119), .int a1] ++ List.replicate (2 - (lg_sl [.ref (xw_ad G 119), .int a1]).length) Slot.unset).toArray = ls at hl ⊢
  have hP : va_P (xw_D G) xw_cl (xw_W G w0) s.heap := hP
  have hl : lv_has ls 2 [(0, .ref (xw_ad G 119)), (1, .int a1)] := hl
  have HH : ∀ (H : Heap) (locs : List Loc) (hP : va_P (xw_D G) xw_cl (xw_W G w0) H) (hS : va_S (xw_A G) s.heap H locs), xw_Wi G p l e (xw_rm (0) (0)) s m args below meth c H locs r0 wz (F0 m 0 ls []) := by
    intro H locs hP hS
    unfold fX8_body at hf
    have J19 : ∀ (w : xw_M) (hf : fX8_body_19 a1 w = some (r0, wz)) (H : Heap) (locs : List Loc) (ls : Array Slot) (hP : va_P (xw_D G) xw_cl (xw_W G w) H) (hS : va_S (xw_A G) s.heap H locs) (hl : lv_has ls 2 [(0, .ref (xw_ad G 119)), (1, .int a1)]), xw_Wi G p l e (xw_rm (0) (0)) s m args below meth c H locs r0 wz (F0 m 19 ls []) := by
      intro w hf H locs ls hP hS hl
      unfold fX8_body_19 at hf
      refine lv_aload_n hx hb dX8_body_19 rfl (lv_at hl 0 rfl) ?_
      refine lv_dup hx hb dX8_body_20 rfl ?_
      refine xw_get hB hK hP (xw_o8 G) (C := RX8) (T := TX8) (N := 31) rfl TBi_X8 26 (by decide) tw_754 rfl rfl dX8_body_21 ?_
      refine lv_iconst (v := 1) hx hb dX8_body_24 (by decide) ?_
      refine lv_iadd hx hb dX8_body_25 ?_
      refine xw_put hG hB hK hS hP (x := (w.1 119 26) + (1 : Int32)) (xw_o8 G) (C := RX8) (T := TX8) (N := 31) rfl TBi_X8 tyX8 tyX8_ok nmX8 26 (by decide) tw_754 rfl rfl rfl rfl rfl (Nat.le_of_ble_eq_true rfl) rfl dX8_body_26 (fun w4 ew4 H locs hP hS => ?_)
      replace hf := xw_lt_e ew4 hf
      refine lv_iload_n hx hb dX8_body_29 rfl (lv_at hl 1 rfl) ?_
      obtain ⟨h0, h1⟩ := xw_s2 hf
      exact xw_iret hB hK hE hS hP hr hlk h0 h1 dX8_body_30
    refine lv_aload_n hx hb dX8_body_0 rfl (lv_at hl 0 rfl) ?_
    refine xw_get hB hK hP (xw_o8 G) (C := RX8) (T := TX8) (N := 31) rfl TBi_X8 26 (by decide) tw_754 rfl rfl dX8_body_1 ?_
    refine lv_bipush (v := 20) hx hb dX8_body_4 (by decide) ?_
    refine lv_icmp_ge (tgt := 19) hx hb dX8_body_6 (by decide) (fun c1 => ?_) (fun c1 => ?_)
    · replace hf := xw_ip c1 hf
      exact J19 w0 hf H locs ls hP hS (lv_sub hl [0, 1] rfl)
    · replace hf := xw_in' c1 hf
      refine lv_aload_n hx hb dX8_body_9 rfl (lv_at hl 0 rfl) ?_
      refine xw_get hB hK hP (xw_o8 G) (C := RX8) (T := TX8) (N := 31) rfl TBi_X8 25 (by decide) tw_753 rfl rfl dX8_body_10 ?_
      refine lv_aload_n hx hb dX8_body_13 rfl (lv_at hl 0 rfl) ?_
      refine xw_get hB hK hP (xw_o8 G) (C := RX8) (T := TX8) (N := 31) rfl TBi_X8 26 (by decide) tw_754 rfl rfl dX8_body_14 ?_
      refine lv_iload_n hx hb dX8_body_17 rfl (lv_at hl 1 rfl) ?_
      replace hf := xw_ck_e hf
      obtain ⟨hi2, hf⟩ := hf
      refine xw_ist hG hB hK hS hP (xw_k136 G) hi2 dX8_body_18 (fun w3 ew3 H locs hP hS => ?_)
      replace hf := xw_lt_e ew3 hf
      exact J19 w3 hf H locs ls hP hS (lv_sub hl [0, 1] rfl)
  exact HH s.heap [] hP hS
def fX8_all (n : Nat) (F : Int32 → Int32 → Int32 → Int32 → xw_M → Option (Int32 × xw_M)) (a1 : Int32) (a2 : Int32) (a3 : Int32) (w0 : xw_M) : Option (Int32 × xw_M) := xw_bp (fX8_one a1 (0 : Int32) w0) (fun r1 => xw_b (F r1 a1 a2 a3 w0) (fun r3 w4 => some (r3, w4)))
set_option maxHeartbeats 4000000 in
set_option maxRecDepth 100000 in
theorem kX8_all (l : Launch) (G : xw_G) (hG : xw_ok G) (n : Nat) (F : Int32 → Int32 → Int32 → Int32 → xw_M → Option (Int32 × xw_M)) (a1 : Int32) (a2 : Int32) (a3 : Int32) (fr lo : Nat) (hF : ∀ (a1 : Int32) (a2 : Int32) (a3 : Int32) (a4 : Int32) (w : xw_M) (r : Int32) (w' : xw_M), F a1 a2 a3 a4 w = some (r, w') → xw_Ti l G yX8_byKind cX8_byKind 7 ((Option.some Jvm.ClassFile.FieldType.int)) fr lo [.ref (xw_ad G 119), .int a1, .int a2, .int a3, .int a4] w r w') (w0 : xw_M) (r0 : Int32) (wz : xw_M) (hf : fX8_all n F a1 a2 a3 w0 = some (r0, wz)) : xw_Ti l G yX8_all cX8_all 4 ((Option.some Jvm.ClassFile.FieldType.int)) (fr + 1) (lo + 26) [.ref (xw_ad G 119), .int a1, .int a2, .int a3] w0 r0 wz := by
  unfold xw_Ti
  refine Met.ofW (cc := cX8_all) (maxL := 4) (ret := (Option.some Jvm.ClassFile.FieldType.int)) (by decide) rfl ?_
  intro p e s m args below meth c s₁ B hml hv
  obtain ⟨hargs, hP, hK, hE⟩ := hv
  have hx := B.exec
  have hb := B.bytes
  have hr := B.returns
  have hlk := B.notSynchronized
  have hB : CallFix p m c cX8_all 4 s args TB RX8 := ⟨hx, hb, hml, findClass_of_methodNamed B.named, fun q h => (atoms_spec (ws := Cond.code yX8_all cX8_all 4 ((Option.some Jvm.ClassFile.FieldType.int)) :: TB) B.pre) q (List.mem_cons_of_mem _ h)⟩
  have hS : va_S (xw_A G) s.heap s.heap [] := va_S.rf
  have hl := lv_entry [.ref (xw_ad G 119), .int a1, .int a2, .int a3] (n := 4) (Nat.le_of_ble_eq_true rfl)
  rw [show entryFrame m args 4 = entryFrame m ([.ref (xw_ad G 119), .int a1, .int a2, .int a3] : List Value).toArray 4 from by rw [hargs], lg_entry_eq]
  generalize (lg_sl [.ref (xw_ad G 119), .int a1, .int a2, .int a3] ++ List.replicate (4 - (lg_sl [.ref (xw_ad G 119), .int a1, .int a2, .int a3]).length) Slot.unset).toArray = ls at hl ⊢
  have hP : va_P (xw_D G) xw_cl (xw_W G w0) s.heap := hP
  have hl : lv_has ls 4 [(0, .ref (xw_ad G 119)), (1, .int a1), (2, .int a2), (3, .int a3)] := hl
  have HH : ∀ (H : Heap) (locs : List Loc) (hP : va_P (xw_D G) xw_cl (xw_W G w0) H) (hS : va_S (xw_A G) s.heap H locs), xw_Wi G p l e (xw_rm (fr + 1) (lo + 26)) s m args below meth c H locs r0 wz (F0 m 0 ls []) := by
    intro H locs hP hS
    unfold fX8_all at hf
    refine lv_aload_n hx hb dX8_all_0 rfl (lv_at hl 0 rfl) ?_
    refine lv_aload_n hx hb dX8_all_1 rfl (lv_at hl 0 rfl) ?_
    refine lv_iload_n hx hb dX8_all_2 rfl (lv_at hl 1 rfl) ?_
    refine lv_iconst (v := 0) hx hb dX8_all_3 (by decide) ?_
    replace hf := xw_bp_e hf
    obtain ⟨r1, he2, hf⟩ := hf
    refine xw_Vi hB hK hE hS hP (As := [.int a1, .int (0 : Int32)]) (rest := [.ref (xw_ad G 119)]) (kX8_one l G hG a1 (0 : Int32) w0 _ he2) gs_X8_89 (xw_rc hK hP (C := RX8) (T := TX8) (N := 31) (xw_o8 G) rfl) 2 hv_X8_one ⟨(by show 0 + 1 ≤ fr + 1; omega), (by show 8 + (3 + 11) + (0) ≤ lo + 26; omega)⟩ rfl hl.1 (Nat.le_of_ble_eq_true rfl) rfl dX8_all_4 ⟨Nat.zero_le _, Nat.zero_le _⟩ (fun H locs hP hS => ?_)
    refine lv_iload_n hx hb dX8_all_7 rfl (lv_at hl 1 rfl) ?_
    refine lv_iload_n hx hb dX8_all_8 rfl (lv_at hl 2 rfl) ?_
    refine lv_iload_n hx hb dX8_all_9 rfl (lv_at hl 3 rfl) ?_
    replace hf := xw_b_e hf
    obtain ⟨r3, w4, he5, hf⟩ := hf
    refine xw_Vi hB hK hE hS hP (As := [.int r1, .int a1, .int a2, .int a3]) (rest := []) (hF r1 a1 a2 a3 w0 _ _ he5) gs_X8_231 (xw_rc hK hP (C := RX8) (T := TX8) (N := 31) (xw_o8 G) rfl) 4 hv_X8_byKind ⟨(by show fr + 1 ≤ fr + 1; omega), (by show 8 + (7 + 11) + (lo) ≤ lo + 26; omega)⟩ rfl hl.1 (Nat.le_of_ble_eq_true rfl) rfl dX8_all_10 ⟨Nat.zero_le _, Nat.zero_le _⟩ (fun H locs hP hS => ?_)
    obtain ⟨h0, h1⟩ := xw_s2 hf
    exact xw_iret hB hK hE hS hP hr hlk h0 h1 dX8_all_13
  exact HH s.heap [] hP hS
def fX8_byKind_s_29 (n : Nat) (F : Int32 → Int32 → Int32 → Int32 → xw_M → Option (Int32 × xw_M)) (a1 : Int32) (a2 : Int32) (a3 : Int32) (a4 : Int32) (x5 : Int32) (w : xw_M) : Option (Int32 × xw_M) := xw_ck x5 7 (xw_lt (w.1 134 x5.toNatClampNeg) (fun x6_6 => xw_ck (((3 : Int32) * x5) + a3) 21 (xw_b (fX8_body (w.1 135 (((3 : Int32) * x5) + a3).toNatClampNeg) w) (fun r8 w9 => if r8 = 10 then some (a4 + a2, w9) else (if r8 = 11 then xw_b (fX8_all n F a2 (0 : Int32) a4 w9) (fun r12 w13 => xw_bp (fX8_one a2 (1 : Int32) w13) (fun r15 => some (r12 - r15, w13))) else (if r8 = 12 then xw_b (fX8_all n F a2 (1 : Int32) a4 w9) (fun r18 w19 => some (r18 * (2 : Int32), w19)) else (if r8 = 20 then xw_b (F x6_6 a2 (1 : Int32) a4 w9) (fun r22 w23 => some (r22 ^^^ (6 : Int32), w23)) else (if r8 = 30 then xw_b (F x6_6 a2 (0 : Int32) (a4 * (3 : Int32)) w9) (fun r26 w27 => some (r26, w27)) else (if r8 = 40 then xw_b (F x6_6 a2 (2 : Int32) a4 w9) (fun r30 w31 => xw_b (fX8_all n F a2 (1 : Int32) (1 : Int32) w31) (fun r33 w34 => some (r30 + r33, w34))) else (if r8 = 50 then xw_b (F x6_6 a2 (0 : Int32) a4 w9) (fun r37 w38 => some (-r37, w38)) else (if r8 = 51 then xw_b (F x6_6 a2 (1 : Int32) (a4 + (1 : Int32)) w9) (fun r41 w42 => some (r41, w42)) else (if r8 = 60 then xw_b (F x6_6 a2 (2 : Int32) (a4 - a2) w9) (fun r45 w46 => some (r45, w46)) else (if r8 = 70 then xw_b (F x6_6 a2 (1 : Int32) a4 w9) (fun r49 w50 => xw_b (F x6_6 a2 (0 : Int32) (2 : Int32) w50) (fun r52 w53 => some (r49 + r52, w53))) else (xw_b (F x6_6 a2 (0 : Int32) a4 w9) (fun r56 w57 => xw_bp (fX8_one a2 (1 : Int32) w57) (fun r59 => some (r56 ^^^ r59, w57)))))))))))))))))
def fX8_byKind_s_b3 (n : Nat) (F : Int32 → Int32 → Int32 → Int32 → xw_M → Option (Int32 × xw_M)) (a1 : Int32) (a2 : Int32) (a3 : Int32) (a4 : Int32) (x5 : Int32) (w : xw_M) : Option ((Int32) ⊕ (Int32)) := xw_ck (((3 : Int32) * x5) + a3) 21 (if (w.1 135 (((3 : Int32) * x5) + a3).toNatClampNeg) = 0 then xw_ck x5 7 (xw_lt (w.1 134 x5.toNatClampNeg) (fun x5_4 => some (.inl x5_4))) else some (.inr x5))
def fX8_byKind_s_3 (n : Nat) (F : Int32 → Int32 → Int32 → Int32 → xw_M → Option (Int32 × xw_M)) (a1 : Int32) (a2 : Int32) (a3 : Int32) (a4 : Int32) (x5 : Int32) (w : xw_M) : Option (Int32 × xw_M) := xw_bp (xw_it (fun z => fX8_byKind_s_b3 n F a1 a2 a3 a4 z w) n x5) (fun z => (fun (x5 : Int32) => fX8_byKind_s_29 n F a1 a2 a3 a4 x5 w) z)
def fX8_byKind_s (n : Nat) (F : Int32 → Int32 → Int32 → Int32 → xw_M → Option (Int32 × xw_M)) (a1 : Int32) (a2 : Int32) (a3 : Int32) (a4 : Int32) (w0 : xw_M) : Option (Int32 × xw_M) := fX8_byKind_s_3 n F a1 a2 a3 a4 a1 w0
set_option maxHeartbeats 4000000 in
set_option maxRecDepth 100000 in
theorem kX8_byKind_s (l : Launch) (G : xw_G) (hG : xw_ok G) (n : Nat) (F : Int32 → Int32 → Int32 → Int32 → xw_M → Option (Int32 × xw_M)) (a1 : Int32) (a2 : Int32) (a3 : Int32) (a4 : Int32) (fr lo : Nat) (hF : ∀ (a1 : Int32) (a2 : Int32) (a3 : Int32) (a4 : Int32) (w : xw_M) (r : Int32) (w' : xw_M), F a1 a2 a3 a4 w = some (r, w') → xw_Ti l G yX8_byKind cX8_byKind 7 ((Option.some Jvm.ClassFile.FieldType.int)) fr lo [.ref (xw_ad G 119), .int a1, .int a2, .int a3, .int a4] w r w') (w0 : xw_M) (r0 : Int32) (wz : xw_M) (hf : fX8_byKind_s n F a1 a2 a3 a4 w0 = some (r0, wz)) : xw_Ti l G yX8_byKind cX8_byKind 7 ((Option.some Jvm.ClassFile.FieldType.int)) (fr + 2) (lo + 49) [.ref (xw_ad G 119), .int a1, .int a2, .int a3, .int a4] w0 r0 wz := by
  unfold xw_Ti
  refine Met.ofW (cc := cX8_byKind) (maxL := 7) (ret := (Option.some Jvm.ClassFile.FieldType.int)) (by decide) rfl ?_
  intro p e s m args below meth c s₁ B hml hv
  obtain ⟨hargs, hP, hK, hE⟩ := hv
  have hx := B.exec
  have hb := B.bytes
  have hr := B.returns
  have hlk := B.notSynchronized
  have hB : CallFix p m c cX8_byKind 7 s args TB RX8 := ⟨hx, hb, hml, findClass_of_methodNamed B.named, fun q h => (atoms_spec (ws := Cond.code yX8_byKind cX8_byKind 7 ((Option.some Jvm.ClassFile.FieldType.int)) :: TB) B.pre) q (List.mem_cons_of_mem _ h)⟩
  have hS : va_S (xw_A G) s.heap s.heap [] := va_S.rf
  have hl := lv_entry [.ref (xw_ad G 119), .int a1, .int a2, .int a3, .int a4] (n := 7) (Nat.le_of_ble_eq_true rfl)
  rw [show entryFrame m args 7 = entryFrame m ([.ref (xw_ad G 119), .int a1, .int a2, .int a3, .int a4] : List Value).toArray 7 from by rw [hargs], lg_entry_eq]
  generalize (lg_sl [.ref (xw_ad G 119), .int a1, .int a2, .int a3, .int a4] ++ List.replicate (7 - (lg_sl [.ref (xw_ad G 119), .int a1, .int a2, .int a3, .int a4]).length) Slot.unset).toArray = ls at hl ⊢
  have hP : va_P (xw_D G) xw_cl (xw_W G w0) s.heap := hP
  have hl : lv_has ls 7 [(0, .ref (xw_ad G 119)), (1, .int a1), (2, .int a2), (3, .int a3), (4, .int a4)] := hl
  have HH : ∀ (H : Heap) (locs : List Loc) (hP : va_P (xw_D G) xw_cl (xw_W G w0) H) (hS : va_S (xw_A G) s.heap H locs), xw_Wi G p l e (xw_rm (fr + 2) (lo + 49)) s m args below meth c H locs r0 wz (F0 m 0 ls []) := by
    intro H locs hP hS
    unfold fX8_byKind_s at hf
    have J29 : ∀ (x5 : Int32) (w : xw_M) (hf : fX8_byKind_s_29 n F a1 a2 a3 a4 x5 w = some (r0, wz)) (H : Heap) (locs : List Loc) (ls : Array Slot) (hP : va_P (xw_D G) xw_cl (xw_W G w) H) (hS : va_S (xw_A G) s.heap H locs) (hl : lv_has ls 7 [(0, .ref (xw_ad G 119)), (2, .int a2), (3, .int a3), (4, .int a4), (5, .int x5)]), xw_Wi G p l e (xw_rm (fr + 2) (lo + 49)) s m args below meth c H locs r0 wz (F0 m 29 ls []) := by
      intro x5 w hf H locs ls hP hS hl
      unfold fX8_byKind_s_29 at hf
      refine lv_aload_n hx hb dX8_byKind_29 rfl (lv_at hl 0 rfl) ?_
      refine xw_get hB hK hP (xw_o8 G) (C := RX8) (T := TX8) (N := 31) rfl TBi_X8 23 (by decide) tw_751 rfl rfl dX8_byKind_30 ?_
      refine lv_iload hx hb dX8_byKind_33 (lv_at hl 4 rfl) ?_
      replace hf := xw_ck_e hf
      obtain ⟨hi5, hf⟩ := hf
      refine xw_ild hB hK hP (xw_k134 G) hi5 dX8_byKind_35 ?_
      refine lv_topi (fun x6_6 ex6_6 => ?_)
      replace hf := xw_lt_e ex6_6 hf
      refine lv_istore (lv' := [(6, .int x6_6), (0, .ref (xw_ad G 119)), (2, .int a2), (3, .int a3), (4, .int a4), (5, .int x5)]) hx hb dX8_byKind_36 hl (by decide) rfl (fun ls hl => ?_)
      refine lv_aload_n hx hb dX8_byKind_38 rfl (lv_at hl 1 rfl) ?_
      refine lv_aload_n hx hb dX8_byKind_39 rfl (lv_at hl 1 rfl) ?_
      refine xw_get hB hK hP (xw_o8 G) (C := RX8) (T := TX8) (N := 31) rfl TBi_X8 24 (by decide) tw_752 rfl rfl dX8_byKind_40 ?_
      refine lv_iconst (v := 3) hx hb dX8_byKind_43 (by decide) ?_
      refine lv_iload hx hb dX8_byKind_44 (lv_at hl 5 rfl) ?_
      refine lv_imul hx hb dX8_byKind_46 ?_
      refine lv_iload_n hx hb dX8_byKind_47 rfl (lv_at hl 3 rfl) ?_
      refine lv_iadd hx hb dX8_byKind_48 ?_
      replace hf := xw_ck_e hf
      obtain ⟨hi7, hf⟩ := hf
      refine xw_ild hB hK hP (xw_k135 G) hi7 dX8_byKind_49 ?_
      replace hf := xw_b_e hf
      obtain ⟨r8, w9, he10, hf⟩ := hf
      refine xw_Vi hB hK hE hS hP (As := [.int (w.1 135 (((3 : Int32) * x5) + a3).toNatClampNeg)]) (rest := []) (kX8_body l G hG (w.1 135 (((3 : Int32) * x5) + a3).toNatClampNeg) w _ _ he10) gs_X8_235 (xw_rc hK hP (C := RX8) (T := TX8) (N := 31) (xw_o8 G) rfl) 1 hv_X8_body ⟨(by show 0 + 1 ≤ fr + 2; omega), (by show 8 + (2 + 11) + (0) ≤ lo + 49; omega)⟩ rfl hl.1 (Nat.le_of_ble_eq_true rfl) rfl dX8_byKind_50 ⟨Nat.zero_le _, Nat.zero_le _⟩ (fun H locs hP hS => ?_)
      by_cases c11 : r8 = 10
      · refine lv_lookup (off := 91) (tgt := 144) hx hb dX8_byKind_53 (by decide) (by rw [c11]; rfl) (by decide) ?_
        replace hf := xw_ip c11 hf
        refine lv_iload hx hb dX8_byKind_144 (lv_at hl 4 rfl) ?_
        refine lv_iload_n hx hb dX8_byKind_146 rfl (lv_at hl 2 rfl) ?_
        refine lv_iadd hx hb dX8_byKind_147 ?_
        obtain ⟨h0, h1⟩ := xw_s2 hf
        exact xw_iret hB hK hE hS hP hr hlk h0 h1 dX8_byKind_148
      · replace hf := xw_in' c11 hf
        by_cases c17 : r8 = 11
        · refine lv_lookup (off := 96) (tgt := 149) hx hb dX8_byKind_53 (by decide) (by rw [c17]; rfl) (by decide) ?_
          replace hf := xw_ip c17 hf
          refine lv_aload_n hx hb dX8_byKind_149 rfl (lv_at hl 1 rfl) ?_
          refine lv_iload_n hx hb dX8_byKind_150 rfl (lv_at hl 2 rfl) ?_
          refine lv_iconst (v := 0) hx hb dX8_byKind_151 (by decide) ?_
          refine lv_iload hx hb dX8_byKind_152 (lv_at hl 4 rfl) ?_
          replace hf := xw_b_e hf
          obtain ⟨r12, w13, he14, hf⟩ := hf
          refine xw_Vi hB hK hE hS hP (As := [.int a2, .int (0 : Int32), .int a4]) (rest := []) (kX8_all l G hG n F a2 (0 : Int32) a4 fr lo hF w9 _ _ he14) gs_X8_238 (xw_rc hK hP (C := RX8) (T := TX8) (N := 31) (xw_o8 G) rfl) 3 hv_X8_all ⟨(by show fr + 1 + 1 ≤ fr + 2; omega), (by show 8 + (4 + 11) + (lo + 26) ≤ lo + 49; omega)⟩ rfl hl.1 (Nat.le_of_ble_eq_true rfl) rfl dX8_byKind_154 ⟨Nat.zero_le _, Nat.zero_le _⟩ (fun H locs hP hS => ?_)
          refine lv_aload_n hx hb dX8_byKind_157 rfl (lv_at hl 1 rfl) ?_
          refine lv_iload_n hx hb dX8_byKind_158 rfl (lv_at hl 2 rfl) ?_
          refine lv_iconst (v := 1) hx hb dX8_byKind_159 (by decide) ?_
          replace hf := xw_bp_e hf
          obtain ⟨r15, he16, hf⟩ := hf
          refine xw_Vi hB hK hE hS hP (As := [.int a2, .int (1 : Int32)]) (rest := [.int r12]) (kX8_one l G hG a2 (1 : Int32) w13 _ he16) gs_X8_89 (xw_rc hK hP (C := RX8) (T := TX8) (N := 31) (xw_o8 G) rfl) 2 hv_X8_one ⟨(by show 0 + 1 ≤ fr + 2; omega), (by show 8 + (3 + 11) + (0) ≤ lo + 49; omega)⟩ rfl hl.1 (Nat.le_of_ble_eq_true rfl) rfl dX8_byKind_160 ⟨Nat.zero_le _, Nat.zero_le _⟩ (fun H locs hP hS => ?_)
          refine lv_isub hx hb dX8_byKind_163 ?_
          obtain ⟨h0, h1⟩ := xw_s2 hf
          exact xw_iret hB hK hE hS hP hr hlk h0 h1 dX8_byKind_164
        · replace hf := xw_in' c17 hf
          by_cases c21 : r8 = 12
          · refine lv_lookup (off := 112) (tgt := 165) hx hb dX8_byKind_53 (by decide) (by rw [c21]; rfl) (by decide) ?_
            replace hf := xw_ip c21 hf
            refine lv_aload_n hx hb dX8_byKind_165 rfl (lv_at hl 1 rfl) ?_
            refine lv_iload_n hx hb dX8_byKind_166 rfl (lv_at hl 2 rfl) ?_
            refine lv_iconst (v := 1) hx hb dX8_byKind_167 (by decide) ?_
            refine lv_iload hx hb dX8_byKind_168 (lv_at hl 4 rfl) ?_
            replace hf := xw_b_e hf
            obtain ⟨r18, w19, he20, hf⟩ := hf
            refine xw_Vi hB hK hE hS hP (As := [.int a2, .int (1 : Int32), .int a4]) (rest := []) (kX8_all l G hG n F a2 (1 : Int32) a4 fr lo hF w9 _ _ he20) gs_X8_238 (xw_rc hK hP (C := RX8) (T := TX8) (N := 31) (xw_o8 G) rfl) 3 hv_X8_all ⟨(by show fr + 1 + 1 ≤ fr + 2; omega), (by show 8 + (4 + 11) + (lo + 26) ≤ lo + 49; omega)⟩ rfl hl.1 (Nat.le_of_ble_eq_true rfl) rfl dX8_byKind_170 ⟨Nat.zero_le _, Nat.zero_le _⟩ (fun H locs hP hS => ?_)
            refine lv_iconst (v := 2) hx hb dX8_byKind_173 (by decide) ?_
            refine lv_imul hx hb dX8_byKind_174 ?_
            obtain ⟨h0, h1⟩ := xw_s2 hf
            exact xw_iret hB hK hE hS hP hr hlk h0 h1 dX8_byKind_175
          · replace hf := xw_in' c21 hf
            by_cases c25 : r8 = 20
            · refine lv_lookup (off := 123) (tgt := 176) hx hb dX8_byKind_53 (by decide) (by rw [c25]; rfl) (by decide) ?_
              replace hf := xw_ip c25 hf
              refine lv_aload_n hx hb dX8_byKind_176 rfl (lv_at hl 1 rfl) ?_
              refine lv_iload hx hb dX8_byKind_177 (lv_at hl 0 rfl) ?_
              refine lv_iload_n hx hb dX8_byKind_179 rfl (lv_at hl 2 rfl) ?_
              refine lv_iconst (v := 1) hx hb dX8_byKind_180 (by decide) ?_
              refine lv_iload hx hb dX8_byKind_181 (lv_at hl 4 rfl) ?_
              replace hf := xw_b_e hf
              obtain ⟨r22, w23, he24, hf⟩ := hf
              refine xw_Vi hB hK hE hS hP (As := [.int x6_6, .int a2, .int (1 : Int32), .int a4]) (rest := []) (hF x6_6 a2 (1 : Int32) a4 w9 _ _ he24) gs_X8_231 (xw_rc hK hP (C := RX8) (T := TX8) (N := 31) (xw_o8 G) rfl) 4 hv_X8_byKind ⟨(by show fr + 1 ≤ fr + 2; omega), (by show 8 + (7 + 11) + (lo) ≤ lo + 49; omega)⟩ rfl hl.1 (Nat.le_of_ble_eq_true rfl) rfl dX8_byKind_183 ⟨Nat.zero_le _, Nat.zero_le _⟩ (fun H locs hP hS => ?_)
              refine lv_bipush (v := 6) hx hb dX8_byKind_186 (by decide) ?_
              refine lv_ixor hx hb dX8_byKind_188 ?_
              obtain ⟨h0, h1⟩ := xw_s2 hf
              exact xw_iret hB hK hE hS hP hr hlk h0 h1 dX8_byKind_189
            · replace hf := xw_in' c25 hf
              by_cases c29 : r8 = 30
              · refine lv_lookup (off := 137) (tgt := 190) hx hb dX8_byKind_53 (by decide) (by rw [c29]; rfl) (by decide) ?_
                replace hf := xw_ip c29 hf
                refine lv_aload_n hx hb dX8_byKind_190 rfl (lv_at hl 1 rfl) ?_
                refine lv_iload hx hb dX8_byKind_191 (lv_at hl 0 rfl) ?_
                refine lv_iload_n hx hb dX8_byKind_193 rfl (lv_at hl 2 rfl) ?_
                refine lv_iconst (v := 0) hx hb dX8_byKind_194 (by decide) ?_
                refine lv_iload hx hb dX8_byKind_195 (lv_at hl 4 rfl) ?_
                refine lv_iconst (v := 3) hx hb dX8_byKind_197 (by decide) ?_
                refine lv_imul hx hb dX8_byKind_198 ?_
                replace hf := xw_b_e hf
                obtain ⟨r26, w27, he28, hf⟩ := hf
                refine xw_Vi hB hK hE hS hP (As := [.int x6_6, .int a2, .int (0 : Int32), .int (a4 * (3 : Int32))]) (rest := []) (hF x6_6 a2 (0 : Int32) (a4 * (3 : Int32)) w9 _ _ he28) gs_X8_231 (xw_rc hK hP (C := RX8) (T := TX8) (N := 31) (xw_o8 G) rfl) 4 hv_X8_byKind ⟨(by show fr + 1 ≤ fr + 2; omega), (by show 8 + (7 + 11) + (lo) ≤ lo + 49; omega)⟩ rfl hl.1 (Nat.le_of_ble_eq_true rfl) rfl dX8_byKind_199 ⟨Nat.zero_le _, Nat.zero_le _⟩ (fun H locs hP hS => ?_)
                obtain ⟨h0, h1⟩ := xw_s2 hf
                exact xw_iret hB hK hE hS hP hr hlk h0 h1 dX8_byKind_202
              · replace hf := xw_in' c29 hf
                by_cases c36 : r8 = 40
                · refine lv_lookup (off := 150) (tgt := 203) hx hb dX8_byKind_53 (by decide) (by rw [c36]; rfl) (by decide) ?_
                  replace hf := xw_ip c36 hf
                  refine lv_aload_n hx hb dX8_byKind_203 rfl (lv_at hl 1 rfl) ?_
                  refine lv_iload hx hb dX8_byKind_204 (lv_at hl 0 rfl) ?_
                  refine lv_iload_n hx hb dX8_byKind_206 rfl (lv_at hl 2 rfl) ?_
                  refine lv_iconst (v := 2) hx hb dX8_byKind_207 (by decide) ?_
                  refine lv_iload hx hb dX8_byKind_208 (lv_at hl 4 rfl) ?_
                  replace hf := xw_b_e hf
                  obtain ⟨r30, w31, he32, hf⟩ := hf
                  refine xw_Vi hB hK hE hS hP (As := [.int x6_6, .int a2, .int (2 : Int32), .int a4]) (rest := []) (hF x6_6 a2 (2 : Int32) a4 w9 _ _ he32) gs_X8_231 (xw_rc hK hP (C := RX8) (T := TX8) (N := 31) (xw_o8 G) rfl) 4 hv_X8_byKind ⟨(by show fr + 1 ≤ fr + 2; omega), (by show 8 + (7 + 11) + (lo) ≤ lo + 49; omega)⟩ rfl hl.1 (Nat.le_of_ble_eq_true rfl) rfl dX8_byKind_210 ⟨Nat.zero_le _, Nat.zero_le _⟩ (fun H locs hP hS => ?_)
                  refine lv_aload_n hx hb dX8_byKind_213 rfl (lv_at hl 1 rfl) ?_
                  refine lv_iload_n hx hb dX8_byKind_214 rfl (lv_at hl 2 rfl) ?_
                  refine lv_iconst (v := 1) hx hb dX8_byKind_215 (by decide) ?_
                  refine lv_iconst (v := 1) hx hb dX8_byKind_216 (by decide) ?_
                  replace hf := xw_b_e hf
                  obtain ⟨r33, w34, he35, hf⟩ := hf
                  refine xw_Vi hB hK hE hS hP (As := [.int a2, .int (1 : Int32), .int (1 : Int32)]) (rest := [.int r30]) (kX8_all l G hG n F a2 (1 : Int32) (1 : Int32) fr lo hF w31 _ _ he35) gs_X8_238 (xw_rc hK hP (C := RX8) (T := TX8) (N := 31) (xw_o8 G) rfl) 3 hv_X8_all ⟨(by show fr + 1 + 1 ≤ fr + 2; omega), (by show 8 + (4 + 11) + (lo + 26) ≤ lo + 49; omega)⟩ rfl hl.1 (Nat.le_of_ble_eq_true rfl) rfl dX8_byKind_217 ⟨Nat.zero_le _, Nat.zero_le _⟩ (fun H locs hP hS => ?_)
                  refine lv_iadd hx hb dX8_byKind_220 ?_
                  obtain ⟨h0, h1⟩ := xw_s2 hf
                  exact xw_iret hB hK hE hS hP hr hlk h0 h1 dX8_byKind_221
                · replace hf := xw_in' c36 hf
                  by_cases c40 : r8 = 50
                  · refine lv_lookup (off := 169) (tgt := 222) hx hb dX8_byKind_53 (by decide) (by rw [c40]; rfl) (by decide) ?_
                    replace hf := xw_ip c40 hf
                    refine lv_aload_n hx hb dX8_byKind_222 rfl (lv_at hl 1 rfl) ?_
                    refine lv_iload hx hb dX8_byKind_223 (lv_at hl 0 rfl) ?_
                    refine lv_iload_n hx hb dX8_byKind_225 rfl (lv_at hl 2 rfl) ?_
                    refine lv_iconst (v := 0) hx hb dX8_byKind_226 (by decide) ?_
                    refine lv_iload hx hb dX8_byKind_227 (lv_at hl 4 rfl) ?_
                    replace hf := xw_b_e hf
                    obtain ⟨r37, w38, he39, hf⟩ := hf
                    refine xw_Vi hB hK hE hS hP (As := [.int x6_6, .int a2, .int (0 : Int32), .int a4]) (rest := []) (hF x6_6 a2 (0 : Int32) a4 w9 _ _ he39) gs_X8_231 (xw_rc hK hP (C := RX8) (T := TX8) (N := 31) (xw_o8 G) rfl) 4 hv_X8_byKind ⟨(by show fr + 1 ≤ fr + 2; omega), (by show 8 + (7 + 11) + (lo) ≤ lo + 49; omega)⟩ rfl hl.1 (Nat.le_of_ble_eq_true rfl) rfl dX8_byKind_229 ⟨Nat.zero_le _, Nat.zero_le _⟩ (fun H locs hP hS => ?_)
                    refine lv_ineg hx hb dX8_byKind_232 ?_
                    obtain ⟨h0, h1⟩ := xw_s2 hf
                    exact xw_iret hB hK hE hS hP hr hlk h0 h1 dX8_byKind_233
                  · replace hf := xw_in' c40 hf
                    by_cases c44 : r8 = 51
                    · refine lv_lookup (off := 181) (tgt := 234) hx hb dX8_byKind_53 (by decide) (by rw [c44]; rfl) (by decide) ?_
                      replace hf := xw_ip c44 hf
                      refine lv_aload_n hx hb dX8_byKind_234 rfl (lv_at hl 1 rfl) ?_
                      refine lv_iload hx hb dX8_byKind_235 (lv_at hl 0 rfl) ?_
                      refine lv_iload_n hx hb dX8_byKind_237 rfl (lv_at hl 2 rfl) ?_
                      refine lv_iconst (v := 1) hx hb dX8_byKind_238 (by decide) ?_
                      refine lv_iload hx hb dX8_byKind_239 (lv_at hl 4 rfl) ?_
                      refine lv_iconst (v := 1) hx hb dX8_byKind_241 (by decide) ?_
                      refine lv_iadd hx hb dX8_byKind_242 ?_
                      replace hf := xw_b_e hf
                      obtain ⟨r41, w42, he43, hf⟩ := hf
                      refine xw_Vi hB hK hE hS hP (As := [.int x6_6, .int a2, .int (1 : Int32), .int (a4 + (1 : Int32))]) (rest := []) (hF x6_6 a2 (1 : Int32) (a4 + (1 : Int32)) w9 _ _ he43) gs_X8_231 (xw_rc hK hP (C := RX8) (T := TX8) (N := 31) (xw_o8 G) rfl) 4 hv_X8_byKind ⟨(by show fr + 1 ≤ fr + 2; omega), (by show 8 + (7 + 11) + (lo) ≤ lo + 49; omega)⟩ rfl hl.1 (Nat.le_of_ble_eq_true rfl) rfl dX8_byKind_243 ⟨Nat.zero_le _, Nat.zero_le _⟩ (fun H locs hP hS => ?_)
                      obtain ⟨h0, h1⟩ := xw_s2 hf
                      exact xw_iret hB hK hE hS hP hr hlk h0 h1 dX8_byKind_246
                    · replace hf := xw_in' c44 hf
                      by_cases c48 : r8 = 60
                      · refine lv_lookup (off := 194) (tgt := 247) hx hb dX8_byKind_53 (by decide) (by rw [c48]; rfl) (by decide) ?_
                        replace hf := xw_ip c48 hf
                        refine lv_aload_n hx hb dX8_byKind_247 rfl (lv_at hl 1 rfl) ?_
                        refine lv_iload hx hb dX8_byKind_248 (lv_at hl 0 rfl) ?_
                        refine lv_iload_n hx hb dX8_byKind_250 rfl (lv_at hl 2 rfl) ?_
                        refine lv_iconst (v := 2) hx hb dX8_byKind_251 (by decide) ?_
                        refine lv_iload hx hb dX8_byKind_252 (lv_at hl 4 rfl) ?_
                        refine lv_iload_n hx hb dX8_byKind_254 rfl (lv_at hl 2 rfl) ?_
                        refine lv_isub hx hb dX8_byKind_255 ?_
                        replace hf := xw_b_e hf
                        obtain ⟨r45, w46, he47, hf⟩ := hf
                        refine xw_Vi hB hK hE hS hP (As := [.int x6_6, .int a2, .int (2 : Int32), .int (a4 - a2)]) (rest := []) (hF x6_6 a2 (2 : Int32) (a4 - a2) w9 _ _ he47) gs_X8_231 (xw_rc hK hP (C := RX8) (T := TX8) (N := 31) (xw_o8 G) rfl) 4 hv_X8_byKind ⟨(by show fr + 1 ≤ fr + 2; omega), (by show 8 + (7 + 11) + (lo) ≤ lo + 49; omega)⟩ rfl hl.1 (Nat.le_of_ble_eq_true rfl) rfl dX8_byKind_256 ⟨Nat.zero_le _, Nat.zero_le _⟩ (fun H locs hP hS => ?_)
                        obtain ⟨h0, h1⟩ := xw_s2 hf
                        exact xw_iret hB hK hE hS hP hr hlk h0 h1 dX8_byKind_259
                      · replace hf := xw_in' c48 hf
                        by_cases c55 : r8 = 70
                        · refine lv_lookup (off := 207) (tgt := 260) hx hb dX8_byKind_53 (by decide) (by rw [c55]; rfl) (by decide) ?_
                          replace hf := xw_ip c55 hf
                          refine lv_aload_n hx hb dX8_byKind_260 rfl (lv_at hl 1 rfl) ?_
                          refine lv_iload hx hb dX8_byKind_261 (lv_at hl 0 rfl) ?_
                          refine lv_iload_n hx hb dX8_byKind_263 rfl (lv_at hl 2 rfl) ?_
                          refine lv_iconst (v := 1) hx hb dX8_byKind_264 (by decide) ?_
                          refine lv_iload hx hb dX8_byKind_265 (lv_at hl 4 rfl) ?_
                          replace hf := xw_b_e hf
                          obtain ⟨r49, w50, he51, hf⟩ := hf
                          refine xw_Vi hB hK hE hS hP (As := [.int x6_6, .int a2, .int (1 : Int32), .int a4]) (rest := []) (hF x6_6 a2 (1 : Int32) a4 w9 _ _ he51) gs_X8_231 (xw_rc hK hP (C := RX8) (T := TX8) (N := 31) (xw_o8 G) rfl) 4 hv_X8_byKind ⟨(by show fr + 1 ≤ fr + 2; omega), (by show 8 + (7 + 11) + (lo) ≤ lo + 49; omega)⟩ rfl hl.1 (Nat.le_of_ble_eq_true rfl) rfl dX8_byKind_267 ⟨Nat.zero_le _, Nat.zero_le _⟩ (fun H locs hP hS => ?_)
                          refine lv_aload_n hx hb dX8_byKind_270 rfl (lv_at hl 1 rfl) ?_
                          refine lv_iload hx hb dX8_byKind_271 (lv_at hl 0 rfl) ?_
                          refine lv_iload_n hx hb dX8_byKind_273 rfl (lv_at hl 2 rfl) ?_
                          refine lv_iconst (v := 0) hx hb dX8_byKind_274 (by decide) ?_
                          refine lv_iconst (v := 2) hx hb dX8_byKind_275 (by decide) ?_
                          replace hf := xw_b_e hf
                          obtain ⟨r52, w53, he54, hf⟩ := hf
                          refine xw_Vi hB hK hE hS hP (As := [.int x6_6, .int a2, .int (0 : Int32), .int (2 : Int32)]) (rest := [.int r49]) (hF x6_6 a2 (0 : Int32) (2 : Int32) w50 _ _ he54) gs_X8_231 (xw_rc hK hP (C := RX8) (T := TX8) (N := 31) (xw_o8 G) rfl) 4 hv_X8_byKind ⟨(by show fr + 1 ≤ fr + 2; omega), (by show 8 + (7 + 11) + (lo) ≤ lo + 49; omega)⟩ rfl hl.1 (Nat.le_of_ble_eq_true rfl) rfl dX8_byKind_276 ⟨Nat.zero_le _, Nat.zero_le _⟩ (fun H locs hP hS => ?_)
                          refine lv_iadd hx hb dX8_byKind_279 ?_
                          obtain ⟨h0, h1⟩ := xw_s2 hf
                          exact xw_iret hB hK hE hS hP hr hlk h0 h1 dX8_byKind_280
                        · replace hf := xw_in' c55 hf
                          refine lv_lookup (off := 228) (tgt := 281) hx hb dX8_byKind_53 (by decide) (by show Op.lookupswitch.offset [(10, 91), (11, 96), (12, 112), (20, 123), (30, 137), (40, 150), (50, 169), (51, 181), (60, 194), (70, 207)] 228 _ = _; rw [lv_osw c11 (by decide : (10 : Int32).toInt = 10), lv_osw c17 (by decide : (11 : Int32).toInt = 11), lv_osw c21 (by decide : (12 : Int32).toInt = 12), lv_osw c25 (by decide : (20 : Int32).toInt = 20), lv_osw c29 (by decide : (30 : Int32).toInt = 30), lv_osw c36 (by decide : (40 : Int32).toInt = 40), lv_osw c40 (by decide : (50 : Int32).toInt = 50), lv_osw c44 (by decide : (51 : Int32).toInt = 51), lv_osw c48 (by decide : (60 : Int32).toInt = 60), lv_osw c55 (by decide : (70 : Int32).toInt = 70)]; rfl) (by decide) ?_
                          refine lv_aload_n hx hb dX8_byKind_281 rfl (lv_at hl 1 rfl) ?_
                          refine lv_iload hx hb dX8_byKind_282 (lv_at hl 0 rfl) ?_
                          refine lv_iload_n hx hb dX8_byKind_284 rfl (lv_at hl 2 rfl) ?_
                          refine lv_iconst (v := 0) hx hb dX8_byKind_285 (by decide) ?_
                          refine lv_iload hx hb dX8_byKind_286 (lv_at hl 4 rfl) ?_
                          replace hf := xw_b_e hf
                          obtain ⟨r56, w57, he58, hf⟩ := hf
                          refine xw_Vi hB hK hE hS hP (As := [.int x6_6, .int a2, .int (0 : Int32), .int a4]) (rest := []) (hF x6_6 a2 (0 : Int32) a4 w9 _ _ he58) gs_X8_231 (xw_rc hK hP (C := RX8) (T := TX8) (N := 31) (xw_o8 G) rfl) 4 hv_X8_byKind ⟨(by show fr + 1 ≤ fr + 2; omega), (by show 8 + (7 + 11) + (lo) ≤ lo + 49; omega)⟩ rfl hl.1 (Nat.le_of_ble_eq_true rfl) rfl dX8_byKind_288 ⟨Nat.zero_le _, Nat.zero_le _⟩ (fun H locs hP hS => ?_)
                          refine lv_aload_n hx hb dX8_byKind_291 rfl (lv_at hl 1 rfl) ?_
                          refine lv_iload_n hx hb dX8_byKind_292 rfl (lv_at hl 2 rfl) ?_
                          refine lv_iconst (v := 1) hx hb dX8_byKind_293 (by decide) ?_
                          replace hf := xw_bp_e hf
                          obtain ⟨r59, he60, hf⟩ := hf
                          refine xw_Vi hB hK hE hS hP (As := [.int a2, .int (1 : Int32)]) (rest := [.int r56]) (kX8_one l G hG a2 (1 : Int32) w57 _ he60) gs_X8_89 (xw_rc hK hP (C := RX8) (T := TX8) (N := 31) (xw_o8 G) rfl) 2 hv_X8_one ⟨(by show 0 + 1 ≤ fr + 2; omega), (by show 8 + (3 + 11) + (0) ≤ lo + 49; omega)⟩ rfl hl.1 (Nat.le_of_ble_eq_true rfl) rfl dX8_byKind_294 ⟨Nat.zero_le _, Nat.zero_le _⟩ (fun H locs hP hS => ?_)
                          refine lv_ixor hx hb dX8_byKind_297 ?_
                          obtain ⟨h0, h1⟩ := xw_s2 hf
                          exact xw_iret hB hK hE hS hP hr hlk h0 h1 dX8_byKind_298
    have J3 : ∀ (x5 : Int32) (w : xw_M) (hf : fX8_byKind_s_3 n F a1 a2 a3 a4 x5 w = some (r0, wz)) (H : Heap) (locs : List Loc) (ls : Array Slot) (hP : va_P (xw_D G) xw_cl (xw_W G w) H) (hS : va_S (xw_A G) s.heap H locs) (hl : lv_has ls 7 [(0, .ref (xw_ad G 119)), (2, .int a2), (3, .int a3), (4, .int a4), (5, .int x5)]), xw_Wi G p l e (xw_rm (fr + 2) (lo + 49)) s m args below meth c H locs r0 wz (F0 m 3 ls []) := by
      intro x5 w hf H locs ls hP hS hl
      unfold fX8_byKind_s_3 at hf
      replace hf := xw_bp_e hf
      obtain ⟨bb3, hit3, hfx3⟩ := hf
      have XX3 : ∀ (x5 : Int32) (hf : fX8_byKind_s_29 n F a1 a2 a3 a4 x5 w = some (r0, wz)) (H : Heap) (locs : List Loc) (ls : Array Slot) (hP : va_P (xw_D G) xw_cl (xw_W G w) H) (hS : va_S (xw_A G) s.heap H locs) (hl : lv_has ls 7 [(0, .ref (xw_ad G 119)), (2, .int a2), (3, .int a3), (4, .int a4), (5, .int x5)]), xw_Wi G p l e (xw_rm (fr + 2) (lo + 49)) s m args below meth c H locs r0 wz (F0 m 29 ls []) := by
        intro x5 hf H locs ls hP hS hl
        exact J29 x5 w hf H locs ls hP hS (lv_sub hl [0, 1, 2, 3, 4] rfl)
      have LL3 : ∀ (nn : Nat) (x5 : Int32) (hit : xw_it (fun z => fX8_byKind_s_b3 n F a1 a2 a3 a4 z w) nn x5 = some bb3) (H : Heap) (locs : List Loc) (ls : Array Slot) (hP : va_P (xw_D G) xw_cl (xw_W G w) H) (hS : va_S (xw_A G) s.heap H locs) (hl : lv_has ls 7 [(0, .ref (xw_ad G 119)), (2, .int a2), (3, .int a3), (4, .int a4), (5, .int x5)]), xw_Wi G p l e (xw_rm (fr + 2) (lo + 49)) s m args below meth c H locs r0 wz (F0 m 3 ls []) := by
        intro nn
        induction nn with
        | zero => intro x5 hit; exact (xw_it_0 hit).elim
        | succ nn ih3 =>
          intro x5 hit H locs ls hP hS hl
          replace hit := xw_it_e hit
          obtain ⟨wv3, hf, hC3, hX3⟩ := hit
          replace hf : fX8_byKind_s_b3 n F a1 a2 a3 a4 x5 w = some wv3 := hf
          unfold fX8_byKind_s_b3 at hf
          refine lv_aload_n hx hb dX8_byKind_3 rfl (lv_at hl 0 rfl) ?_
          refine xw_get hB hK hP (xw_o8 G) (C := RX8) (T := TX8) (N := 31) rfl TBi_X8 24 (by decide) tw_752 rfl rfl dX8_byKind_4 ?_
          refine lv_iconst (v := 3) hx hb dX8_byKind_7 (by decide) ?_
          refine lv_iload hx hb dX8_byKind_8 (lv_at hl 4 rfl) ?_
          refine lv_imul hx hb dX8_byKind_10 ?_
          refine lv_iload_n hx hb dX8_byKind_11 rfl (lv_at hl 2 rfl) ?_
          refine lv_iadd hx hb dX8_byKind_12 ?_
          replace hf := xw_ck_e hf
          obtain ⟨hi1, hf⟩ := hf
          refine xw_ild hB hK hP (xw_k135 G) hi1 dX8_byKind_13 ?_
          refine lv_if_ne (tgt := 29) hx hb dX8_byKind_14 (by decide) (fun c2 => ?_) (fun c2 => ?_)
          · replace hf := xw_in' c2 hf
            have he3 := hX3 _ (xw_so hf).symm
            rw [← he3] at hfx3
            exact XX3 x5 hfx3 H locs ls hP hS (lv_sub hl [0, 1, 2, 3, 4] rfl)
          · replace hf := xw_ip c2 hf
            refine lv_aload_n hx hb dX8_byKind_17 rfl (lv_at hl 0 rfl) ?_
            refine xw_get hB hK hP (xw_o8 G) (C := RX8) (T := TX8) (N := 31) rfl TBi_X8 23 (by decide) tw_751 rfl rfl dX8_byKind_18 ?_
            refine lv_iload hx hb dX8_byKind_21 (lv_at hl 4 rfl) ?_
            replace hf := xw_ck_e hf
            obtain ⟨hi3, hf⟩ := hf
            refine xw_ild hB hK hP (xw_k134 G) hi3 dX8_byKind_23 ?_
            refine lv_topi (fun x5_4 ex5_4 => ?_)
            replace hf := xw_lt_e ex5_4 hf
            refine lv_istore (lv' := [(5, .int x5_4), (0, .ref (xw_ad G 119)), (2, .int a2), (3, .int a3), (4, .int a4)]) hx hb dX8_byKind_24 hl (by decide) rfl (fun ls hl => ?_)
            refine lv_goto (tgt := 3) hx hb dX8_byKind_26 (by decide) ?_
            have hi := hC3 _ (xw_so hf).symm
            exact ih3 x5_4 hi H locs ls hP hS (lv_sub hl [1, 2, 3, 4, 0] rfl)
      exact LL3 n x5 hit3 H locs ls hP hS hl
    refine lv_iload_n hx hb dX8_byKind_0 rfl (lv_at hl 1 rfl) ?_
    refine lv_istore (lv' := [(5, .int a1), (0, .ref (xw_ad G 119)), (1, .int a1), (2, .int a2), (3, .int a3), (4, .int a4)]) hx hb dX8_byKind_1 hl (by decide) rfl (fun ls hl => ?_)
    exact J3 a1 w0 hf H locs ls hP hS (lv_sub hl [1, 3, 4, 5, 0] rfl)
  exact HH s.heap [] hP hS
def fX8_byKind (n : Nat) : Nat → Int32 → Int32 → Int32 → Int32 → xw_M → Option (Int32 × xw_M)
  | 0 => fun _ _ _ _ _ => none
  | d + 1 => fun a1 a2 a3 a4 w => fX8_byKind_s n (fX8_byKind n d) a1 a2 a3 a4 w
theorem kX8_byKind (l : Launch) (G : xw_G) (hG : xw_ok G) (n : Nat) : ∀ (d : Nat) (a1 : Int32) (a2 : Int32) (a3 : Int32) (a4 : Int32) (w : xw_M) (r : Int32) (w' : xw_M) (hf : fX8_byKind n d a1 a2 a3 a4 w = some (r, w')), xw_Ti l G yX8_byKind cX8_byKind 7 ((Option.some Jvm.ClassFile.FieldType.int)) (2 * d) (49 * d) [.ref (xw_ad G 119), .int a1, .int a2, .int a3, .int a4] w r w' := by
  intro d
  induction d with
  | zero => intro a1 a2 a3 a4 w r w' hf; cases hf
  | succ d ih => intro a1 a2 a3 a4 w r w' hf; exact kX8_byKind_s l G hG n (fX8_byKind n d) a1 a2 a3 a4 (2 * d) (49 * d) ih w r w' hf
