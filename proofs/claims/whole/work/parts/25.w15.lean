def fX8_act (n : Nat) (a1 : Int32) (a2 : Int32) (a3 : Int32) (w0 : xw_M) : Option (Int32 × xw_M) := xw_lt (xw_si w0 119 26 (0 : Int32)) (fun w1 => xw_bp (fX8_isOne a1 w1) (fun r2 => if r2 = 0 then some ((0 : Int32), w1) else xw_bp (fX8_isIn a2 (0 : Int32) (2 : Int32)) (fun r5 => if r5 = 0 then some ((0 : Int32), w1) else xw_b (fX8_all n (fX8_byKind n 16) a1 a2 a3 w1) (fun r8 w9 => some (r8, w9)))))
set_option maxHeartbeats 4000000 in
set_option maxRecDepth 100000 in
theorem kX8_act (l : Launch) (G : xw_G) (hG : xw_ok G) (n : Nat) (a1 : Int32) (a2 : Int32) (a3 : Int32) (w0 : xw_M) (r0 : Int32) (wz : xw_M) (hf : fX8_act n a1 a2 a3 w0 = some (r0, wz)) : xw_Ti l G yX8_act cX8_act 4 ((Option.some Jvm.ClassFile.FieldType.int)) (34) (833) [.ref (xw_ad G 119), .int a1, .int a2, .int a3] w0 r0 wz := by
  unfold xw_Ti
  refine Met.ofW (cc := cX8_act) (maxL := 4) (ret := (Option.some Jvm.ClassFile.FieldType.int)) (by decide) rfl ?_
  intro p e s m args below meth c s₁ B hml hv
  obtain ⟨hargs, hP, hK, hE⟩ := hv
  have hx := B.exec
  have hb := B.bytes
  have hr := B.returns
  have hlk := B.notSynchronized
  have hB : CallFix p m c cX8_act 4 s args TB RX8 := ⟨hx, hb, hml, findClass_of_methodNamed B.named, fun q h => (atoms_spec (ws := Cond.code yX8_act cX8_act 4 ((Option.some Jvm.ClassFile.FieldType.int)) :: TB) B.pre) q (List.mem_cons_of_mem _ h)⟩
  have hS : va_S (xw_A G) s.heap s.heap [] := va_S.rf
  have hl := lv_entry [.ref (xw_ad G 119), .int a1, .int a2, .int a3] (n := 4) (Nat.le_of_ble_eq_true rfl)
  rw [show entryFrame m args 4 = entryFrame m ([.ref (xw_ad G 119), .int a1, .int a2, .int a3] : List Value).toArray 4 from by rw [hargs], lg_entry_eq]
  generalize (lg_sl [.ref (xw_ad G 119), .int a1, .int a2, .int a3] ++ List.replicate (4 - (lg_sl [.ref (xw_ad G 119), .int a1, .int a2, .int a3]).length) Slot.unset).toArray = ls at hl ⊢
  have hP : va_P (xw_D G) xw_cl (xw_W G w0) s.heap := hP
  have hl : lv_has ls 4 [(0, .ref (xw_ad G 119)), (1, .int a1), (2, .int a2), (3, .int a3)] := hl
  have HH : ∀ (H : Heap) (locs : List Loc) (hP : va_P (xw_D G) xw_cl (xw_W G w0) H) (hS : va_S (xw_A G) s.heap H locs), xw_Wi G p l e (xw_rm (34) (833)) s m args below meth c H locs r0 wz (F0 m 0 ls []) := by
    intro H locs hP hS
    unfold fX8_act at hf
    refine lv_aload_n hx hb dX8_act_0 rfl (lv_at hl 0 rfl) ?_
    refine lv_iconst (v := 0) hx hb dX8_act_1 (by decide) ?_
    refine xw_put hG hB hK hS hP (x := (0 : Int32)) (xw_o8 G) (C := RX8) (T := TX8) (N := 31) rfl TBi_X8 tyX8 tyX8_ok nmX8 26 (by decide) tw_754 rfl rfl rfl rfl rfl (Nat.le_of_ble_eq_true rfl) rfl dX8_act_2 (fun w1 ew1 H locs hP hS => ?_)
    replace hf := xw_lt_e ew1 hf
    refine lv_aload_n hx hb dX8_act_5 rfl (lv_at hl 0 rfl) ?_
    refine lv_iload_n hx hb dX8_act_6 rfl (lv_at hl 1 rfl) ?_
    replace hf := xw_bp_e hf
    obtain ⟨r2, he3, hf⟩ := hf
    refine xw_Vi hB hK hE hS hP (As := [.int a1]) (rest := []) (kX8_isOne l G hG a1 w1 _ he3) gs_X8_101 (xw_rc hK hP (C := RX8) (T := TX8) (N := 31) (xw_o8 G) rfl) 1 hv_X8_isOne ⟨Nat.le_of_ble_eq_true rfl, Nat.le_of_ble_eq_true rfl⟩ rfl hl.1 (Nat.le_of_ble_eq_true rfl) rfl dX8_act_7 ⟨Nat.zero_le _, Nat.zero_le _⟩ (fun H locs hP hS => ?_)
    refine lv_if_eq (tgt := 32) hx hb dX8_act_10 (by decide) (fun c4 => ?_) (fun c4 => ?_)
    · replace hf := xw_ip c4 hf
      refine lv_iconst (v := 0) hx hb dX8_act_32 (by decide) ?_
      obtain ⟨h0, h1⟩ := xw_s2 hf
      exact xw_iret hB hK hE hS hP hr hlk h0 h1 dX8_act_33
    · replace hf := xw_in' c4 hf
      refine lv_iload_n hx hb dX8_act_13 rfl (lv_at hl 2 rfl) ?_
      refine lv_iconst (v := 0) hx hb dX8_act_14 (by decide) ?_
      refine lv_iconst (v := 2) hx hb dX8_act_15 (by decide) ?_
      replace hf := xw_bp_e hf
      obtain ⟨r5, he6, hf⟩ := hf
      refine xw_Si hB hK hE hS hP (As := [.int a2, .int (0 : Int32), .int (2 : Int32)]) (rest := []) (kX8_isIn l G hG a2 (0 : Int32) (2 : Int32) w1 _ he6) tw_835 tw_837 tw_836 tw_10 3 hs_X8_isIn ⟨Nat.le_of_ble_eq_true rfl, Nat.le_of_ble_eq_true rfl⟩ rfl hl.1 (Nat.le_of_ble_eq_true rfl) rfl dX8_act_16 ⟨Nat.zero_le _, Nat.zero_le _⟩ (fun H locs hP hS => ?_)
      refine lv_if_eq (tgt := 32) hx hb dX8_act_19 (by decide) (fun c7 => ?_) (fun c7 => ?_)
      · replace hf := xw_ip c7 hf
        refine lv_iconst (v := 0) hx hb dX8_act_32 (by decide) ?_
        obtain ⟨h0, h1⟩ := xw_s2 hf
        exact xw_iret hB hK hE hS hP hr hlk h0 h1 dX8_act_33
      · replace hf := xw_in' c7 hf
        refine lv_aload_n hx hb dX8_act_22 rfl (lv_at hl 0 rfl) ?_
        refine lv_iload_n hx hb dX8_act_23 rfl (lv_at hl 1 rfl) ?_
        refine lv_iload_n hx hb dX8_act_24 rfl (lv_at hl 2 rfl) ?_
        refine lv_iload_n hx hb dX8_act_25 rfl (lv_at hl 3 rfl) ?_
        replace hf := xw_b_e hf
        obtain ⟨r8, w9, he10, hf⟩ := hf
        refine xw_Vi hB hK hE hS hP (As := [.int a1, .int a2, .int a3]) (rest := []) (kX8_all l G hG n (fX8_byKind n 16) a1 a2 a3 32 784 (kX8_byKind l G hG n 16) w1 _ _ he10) gs_X8_238 (xw_rc hK hP (C := RX8) (T := TX8) (N := 31) (xw_o8 G) rfl) 3 hv_X8_all ⟨Nat.le_of_ble_eq_true rfl, Nat.le_of_ble_eq_true rfl⟩ rfl hl.1 (Nat.le_of_ble_eq_true rfl) rfl dX8_act_26 ⟨Nat.zero_le _, Nat.zero_le _⟩ (fun H locs hP hS => ?_)
        refine lv_goto (tgt := 33) hx hb dX8_act_29 (by decide) ?_
        obtain ⟨h0, h1⟩ := xw_s2 hf
        exact xw_iret hB hK hE hS hP hr hlk h0 h1 dX8_act_33
  exact HH s.heap [] hP hS
def fX8_trace (a1 : Int32) (w0 : xw_M) : Option Int32 := xw_bp (fX8_isIn a1 (0 : Int32) ((if (w0.1 119 26) < (20 : Int32) then (w0.1 119 26) else (20 : Int32)) - (1 : Int32))) (fun r1 => if r1 = 0 then some (-1 : Int32) else xw_ck a1 20 (some (w0.1 136 a1.toNatClampNeg)))
set_option maxHeartbeats 4000000 in
set_option maxRecDepth 100000 in
theorem kX8_trace (l : Launch) (G : xw_G) (hG : xw_ok G) (a1 : Int32) (w0 : xw_M) (r0 : Int32) (hf : fX8_trace a1 w0 = some r0) : xw_Ti l G yX8_trace cX8_trace 2 ((Option.some Jvm.ClassFile.FieldType.int)) (1) (60) [.ref (xw_ad G 119), .int a1] w0 r0 w0 := by
  unfold xw_Ti
  refine Met.ofW (cc := cX8_trace) (maxL := 2) (ret := (Option.some Jvm.ClassFile.FieldType.int)) (by decide) rfl ?_
  intro p e s m args below meth c s₁ B hml hv
  obtain ⟨hargs, hP, hK, hE⟩ := hv
  have hx := B.exec
  have hb := B.bytes
  have hr := B.returns
  have hlk := B.notSynchronized
  have hB : CallFix p m c cX8_trace 2 s args TB RX8 := ⟨hx, hb, hml, findClass_of_methodNamed B.named, fun q h => (atoms_spec (ws := Cond.code yX8_trace cX8_trace 2 ((Option.some Jvm.ClassFile.FieldType.int)) :: TB) B.pre) q (List.mem_cons_of_mem _ h)⟩
  have hS : va_S (xw_A G) s.heap s.heap [] := va_S.rf
  have hl := lv_entry [.ref (xw_ad G 119), .int a1] (n := 2) (Nat.le_of_ble_eq_true rfl)
  rw [show entryFrame m args 2 = entryFrame m ([.ref (xw_ad G 119), .int a1] : List Value).toArray 2 from by rw [hargs], lg_entry_eq]
  generalize (lg_sl [.ref (xw_ad G 119), .int a1] ++ List.replicate (2 - (lg_sl [.ref (xw_ad G 119), .int a1]).length) Slot.unset).toArray = ls at hl ⊢
  have hP : va_P (xw_D G) xw_cl (xw_W G w0) s.heap := hP
  have hl : lv_has ls 2 [(0, .ref (xw_ad G 119)), (1, .int a1)] := hl
  have HH : ∀ (H : Heap) (locs : List Loc) (hP : va_P (xw_D G) xw_cl (xw_W G w0) H) (hS : va_S (xw_A G) s.heap H locs), xw_Wi G p l e (xw_rm (1) (60)) s m args below meth c H locs r0 w0 (F0 m 0 ls []) := by
    intro H locs hP hS
    unfold fX8_trace at hf
    refine lv_iload_n hx hb dX8_trace_0 rfl (lv_at hl 1 rfl) ?_
    refine lv_iconst (v := 0) hx hb dX8_trace_1 (by decide) ?_
    refine lv_bipush (v := 20) hx hb dX8_trace_2 (by decide) ?_
    refine lv_aload_n hx hb dX8_trace_4 rfl (lv_at hl 0 rfl) ?_
    refine xw_get hB hK hP (xw_o8 G) (C := RX8) (T := TX8) (N := 31) rfl TBi_X8 26 (by decide) tw_754 rfl rfl dX8_trace_5 ?_
    refine va_mmin hx hb (hB.2.2.1.trans hl.1.symm) hB.2.2.2.1 (hB.2.2.2.2 _ tm_971) (hB.2.2.2.2 _ tm_38) (hB.2.2.2.2 _ tw_4) (hB.2.2.2.2 _ tm_39) (Nat.le_of_ble_eq_true rfl) (Nat.le_of_ble_eq_true rfl) (Nat.zero_le _) (Nat.zero_le _) dX8_trace_8 ?_
    refine lv_iconst (v := 1) hx hb dX8_trace_11 (by decide) ?_
    refine lv_isub hx hb dX8_trace_12 ?_
    replace hf := xw_bp_e hf
    obtain ⟨r1, he2, hf⟩ := hf
    refine xw_Si hB hK hE hS hP (As := [.int a1, .int (0 : Int32), .int ((if (w0.1 119 26) < (20 : Int32) then (w0.1 119 26) else (20 : Int32)) - (1 : Int32))]) (rest := []) (kX8_isIn l G hG a1 (0 : Int32) ((if (w0.1 119 26) < (20 : Int32) then (w0.1 119 26) else (20 : Int32)) - (1 : Int32)) w0 _ he2) tw_835 tw_837 tw_836 tw_10 3 hs_X8_isIn ⟨Nat.le_of_ble_eq_true rfl, Nat.le_of_ble_eq_true rfl⟩ rfl hl.1 (Nat.le_of_ble_eq_true rfl) rfl dX8_trace_13 ⟨Nat.zero_le _, Nat.zero_le _⟩ (fun H locs hP hS => ?_)
    refine lv_if_eq (tgt := 28) hx hb dX8_trace_16 (by decide) (fun c3 => ?_) (fun c3 => ?_)
    · replace hf := xw_ip c3 hf
      refine lv_iconst (v := (-1)) hx hb dX8_trace_28 (by decide) ?_
      have h0 := xw_so hf
      have h1 : w0 = w0 := rfl
      exact xw_iret hB hK hE hS hP hr hlk h0 h1 dX8_trace_29
    · replace hf := xw_in' c3 hf
      refine lv_aload_n hx hb dX8_trace_19 rfl (lv_at hl 0 rfl) ?_
      refine xw_get hB hK hP (xw_o8 G) (C := RX8) (T := TX8) (N := 31) rfl TBi_X8 25 (by decide) tw_753 rfl rfl dX8_trace_20 ?_
      refine lv_iload_n hx hb dX8_trace_23 rfl (lv_at hl 1 rfl) ?_
      replace hf := xw_ck_e hf
      obtain ⟨hi4, hf⟩ := hf
      refine xw_ild hB hK hP (xw_k136 G) hi4 dX8_trace_24 ?_
      refine lv_goto (tgt := 29) hx hb dX8_trace_25 (by decide) ?_
      have h0 := xw_so hf
      have h1 : w0 = w0 := rfl
      exact xw_iret hB hK hE hS hP hr hlk h0 h1 dX8_trace_29
  exact HH s.heap [] hP hS
def fX8_taken_51 (n : Nat) (a1 : Int32) (a2 : Int32) (x3 : Int32) (w0 : xw_M) : Option Int32 := if x3 = a2 then xw_bp (fX8_one a1 (0 : Int32) w0) (fun r14 => some r14) else some (-12 : Int32)
def fX8_taken_b31 (n : Nat) (a1 : Int32) (a2 : Int32) (x3 : Int32) (w0 : xw_M) : Option ((Int32) ⊕ (Int32)) := if x3 = (-1 : Int32) then some (.inr x3) else if x3 = a2 then some (.inr x3) else xw_ck x3 7 (xw_lt (w0.1 134 x3.toNatClampNeg) (fun x3_12 => some (.inl x3_12)))
def fX8_taken_31 (n : Nat) (a1 : Int32) (a2 : Int32) (x3 : Int32) (w0 : xw_M) : Option Int32 := xw_bp (xw_it (fun z => fX8_taken_b31 n a1 a2 z w0) n x3) (fun z => (fun (x3 : Int32) => fX8_taken_51 n a1 a2 x3 w0) z)
def fX8_taken (n : Nat) (a1 : Int32) (a2 : Int32) (w0 : xw_M) : Option Int32 := xw_bp (fX8_isIn a2 (0 : Int32) (6 : Int32)) (fun r1 => if r1 = 0 then some (-2 : Int32) else xw_bp (fX8_isOne a1 w0) (fun r4 => if r4 = 0 then some (-11 : Int32) else xw_bp (fX8_one a1 (0 : Int32) w0) (fun r7 => fX8_taken_31 n a1 a2 r7 w0)))
set_option maxHeartbeats 4000000 in
set_option maxRecDepth 100000 in
theorem kX8_taken (l : Launch) (G : xw_G) (hG : xw_ok G) (n : Nat) (a1 : Int32) (a2 : Int32) (w0 : xw_M) (r0 : Int32) (hf : fX8_taken n a1 a2 w0 = some r0) : xw_Ti l G yX8_taken cX8_taken 4 ((Option.some Jvm.ClassFile.FieldType.int)) (2) (43) [.ref (xw_ad G 119), .int a1, .int a2] w0 r0 w0 := by
  unfold xw_Ti
  refine Met.ofW (cc := cX8_taken) (maxL := 4) (ret := (Option.some Jvm.ClassFile.FieldType.int)) (by decide) rfl ?_
  intro p e s m args below meth c s₁ B hml hv
  obtain ⟨hargs, hP, hK, hE⟩ := hv
  have hx := B.exec
  have hb := B.bytes
  have hr := B.returns
  have hlk := B.notSynchronized
  have hB : CallFix p m c cX8_taken 4 s args TB RX8 := ⟨hx, hb, hml, findClass_of_methodNamed B.named, fun q h => (atoms_spec (ws := Cond.code yX8_taken cX8_taken 4 ((Option.some Jvm.ClassFile.FieldType.int)) :: TB) B.pre) q (List.mem_cons_of_mem _ h)⟩
  have hS : va_S (xw_A G) s.heap s.heap [] := va_S.rf
  have hl := lv_entry [.ref (xw_ad G 119), .int a1, .int a2] (n := 4) (Nat.le_of_ble_eq_true rfl)
  rw [show entryFrame m args 4 = entryFrame m ([.ref (xw_ad G 119), .int a1, .int a2] : List Value).toArray 4 from by rw [hargs], lg_entry_eq]
  generalize (lg_sl [.ref (xw_ad G 119), .int a1, .int a2] ++ List.replicate (4 - (lg_sl [.ref (xw_ad G 119), .int a1, .int a2]).length) Slot.unset).toArray = ls at hl ⊢
  have hP : va_P (xw_D G) xw_cl (xw_W G w0) s.heap := hP
  have hl : lv_has ls 4 [(0, .ref (xw_ad G 119)), (1, .int a1), (2, .int a2)] := hl
  have HH : ∀ (H : Heap) (locs : List Loc) (hP : va_P (xw_D G) xw_cl (xw_W G w0) H) (hS : va_S (xw_A G) s.heap H locs), xw_Wi G p l e (xw_rm (2) (43)) s m args below meth c H locs r0 w0 (F0 m 0 ls []) := by
    intro H locs hP hS
    unfold fX8_taken at hf
    have J51 : ∀ (x3 : Int32) (hf : fX8_taken_51 n a1 a2 x3 w0 = some r0) (H : Heap) (locs : List Loc) (ls : Array Slot) (hP : va_P (xw_D G) xw_cl (xw_W G w0) H) (hS : va_S (xw_A G) s.heap H locs) (hl : lv_has ls 4 [(0, .ref (xw_ad G 119)), (1, .int a1), (2, .int a2), (3, .int x3)]), xw_Wi G p l e (xw_rm (2) (43)) s m args below meth c H locs r0 w0 (F0 m 51 ls []) := by
      intro x3 hf H locs ls hP hS hl
      unfold fX8_taken_51 at hf
      refine lv_iload_n hx hb dX8_taken_51 rfl (lv_at hl 3 rfl) ?_
      refine lv_iload_n hx hb dX8_taken_52 rfl (lv_at hl 2 rfl) ?_
      refine lv_icmp_ne (tgt := 65) hx hb dX8_taken_53 (by decide) (fun c13 => ?_) (fun c13 => ?_)
      · replace hf := xw_in' c13 hf
        refine lv_bipush (v := (-12)) hx hb dX8_taken_65 (by decide) ?_
        have h0 := xw_so hf
        have h1 : w0 = w0 := rfl
        exact xw_iret hB hK hE hS hP hr hlk h0 h1 dX8_taken_67
      · replace hf := xw_ip c13 hf
        refine lv_aload_n hx hb dX8_taken_56 rfl (lv_at hl 0 rfl) ?_
        refine lv_iload_n hx hb dX8_taken_57 rfl (lv_at hl 1 rfl) ?_
        refine lv_iconst (v := 0) hx hb dX8_taken_58 (by decide) ?_
        replace hf := xw_bp_e hf
        obtain ⟨r14, he15, hf⟩ := hf
        refine xw_Vi hB hK hE hS hP (As := [.int a1, .int (0 : Int32)]) (rest := []) (kX8_one l G hG a1 (0 : Int32) w0 _ he15) gs_X8_89 (xw_rc hK hP (C := RX8) (T := TX8) (N := 31) (xw_o8 G) rfl) 2 hv_X8_one ⟨Nat.le_of_ble_eq_true rfl, Nat.le_of_ble_eq_true rfl⟩ rfl hl.1 (Nat.le_of_ble_eq_true rfl) rfl dX8_taken_59 ⟨Nat.zero_le _, Nat.zero_le _⟩ (fun H locs hP hS => ?_)
        refine lv_goto (tgt := 67) hx hb dX8_taken_62 (by decide) ?_
        have h0 := xw_so hf
        have h1 : w0 = w0 := rfl
        exact xw_iret hB hK hE hS hP hr hlk h0 h1 dX8_taken_67
    have J31 : ∀ (x3 : Int32) (hf : fX8_taken_31 n a1 a2 x3 w0 = some r0) (H : Heap) (locs : List Loc) (ls : Array Slot) (hP : va_P (xw_D G) xw_cl (xw_W G w0) H) (hS : va_S (xw_A G) s.heap H locs) (hl : lv_has ls 4 [(0, .ref (xw_ad G 119)), (1, .int a1), (2, .int a2), (3, .int x3)]), xw_Wi G p l e (xw_rm (2) (43)) s m args below meth c H locs r0 w0 (F0 m 31 ls []) := by
      intro x3 hf H locs ls hP hS hl
      unfold fX8_taken_31 at hf
      replace hf := xw_bp_e hf
      obtain ⟨bb31, hit31, hfx31⟩ := hf
      have XX31 : ∀ (x3 : Int32) (hf : fX8_taken_51 n a1 a2 x3 w0 = some r0) (H : Heap) (locs : List Loc) (ls : Array Slot) (hP : va_P (xw_D G) xw_cl (xw_W G w0) H) (hS : va_S (xw_A G) s.heap H locs) (hl : lv_has ls 4 [(0, .ref (xw_ad G 119)), (1, .int a1), (2, .int a2), (3, .int x3)]), xw_Wi G p l e (xw_rm (2) (43)) s m args below meth c H locs r0 w0 (F0 m 51 ls []) := by
        intro x3 hf H locs ls hP hS hl
        exact J51 x3 hf H locs ls hP hS (lv_sub hl [0, 1, 2, 3] rfl)
      have LL31 : ∀ (nn : Nat) (x3 : Int32) (hit : xw_it (fun z => fX8_taken_b31 n a1 a2 z w0) nn x3 = some bb31) (H : Heap) (locs : List Loc) (ls : Array Slot) (hP : va_P (xw_D G) xw_cl (xw_W G w0) H) (hS : va_S (xw_A G) s.heap H locs) (hl : lv_has ls 4 [(0, .ref (xw_ad G 119)), (1, .int a1), (2, .int a2), (3, .int x3)]), xw_Wi G p l e (xw_rm (2) (43)) s m args below meth c H locs r0 w0 (F0 m 31 ls []) := by
        intro nn
        induction nn with
        | zero => intro x3 hit; exact (xw_it_0 hit).elim
        | succ nn ih31 =>
          intro x3 hit H locs ls hP hS hl
          replace hit := xw_it_e hit
          obtain ⟨wv31, hf, hC31, hX31⟩ := hit
          replace hf : fX8_taken_b31 n a1 a2 x3 w0 = some wv31 := hf
          unfold fX8_taken_b31 at hf
          refine lv_iload_n hx hb dX8_taken_31 rfl (lv_at hl 3 rfl) ?_
          refine lv_iconst (v := (-1)) hx hb dX8_taken_32 (by decide) ?_
          refine lv_icmp_eq (tgt := 51) hx hb dX8_taken_33 (by decide) (fun c9 => ?_) (fun c9 => ?_)
          · replace hf := xw_ip c9 hf
            have he31 := hX31 _ (xw_so hf).symm
            rw [← he31] at hfx31
            exact XX31 x3 hfx31 H locs ls hP hS (lv_sub hl [0, 1, 2, 3] rfl)
          · replace hf := xw_in' c9 hf
            refine lv_iload_n hx hb dX8_taken_36 rfl (lv_at hl 3 rfl) ?_
            refine lv_iload_n hx hb dX8_taken_37 rfl (lv_at hl 2 rfl) ?_
            refine lv_icmp_eq (tgt := 51) hx hb dX8_taken_38 (by decide) (fun c10 => ?_) (fun c10 => ?_)
            · replace hf := xw_ip c10 hf
              have he31 := hX31 _ (xw_so hf).symm
              rw [← he31] at hfx31
              exact XX31 x3 hfx31 H locs ls hP hS (lv_sub hl [0, 1, 2, 3] rfl)
            · replace hf := xw_in' c10 hf
              refine lv_aload_n hx hb dX8_taken_41 rfl (lv_at hl 0 rfl) ?_
              refine xw_get hB hK hP (xw_o8 G) (C := RX8) (T := TX8) (N := 31) rfl TBi_X8 23 (by decide) tw_751 rfl rfl dX8_taken_42 ?_
              refine lv_iload_n hx hb dX8_taken_45 rfl (lv_at hl 3 rfl) ?_
              replace hf := xw_ck_e hf
              obtain ⟨hi11, hf⟩ := hf
              refine xw_ild hB hK hP (xw_k134 G) hi11 dX8_taken_46 ?_
              refine lv_topi (fun x3_12 ex3_12 => ?_)
              replace hf := xw_lt_e ex3_12 hf
              refine lv_istore_n (lv' := [(3, .int x3_12), (0, .ref (xw_ad G 119)), (1, .int a1), (2, .int a2)]) hx hb dX8_taken_47 rfl hl (by decide) rfl (fun ls hl => ?_)
              refine lv_goto (tgt := 31) hx hb dX8_taken_48 (by decide) ?_
              have hi := hC31 _ (xw_so hf).symm
              exact ih31 x3_12 hi H locs ls hP hS (lv_sub hl [1, 2, 3, 0] rfl)
      exact LL31 n x3 hit31 H locs ls hP hS hl
    refine lv_iload_n hx hb dX8_taken_0 rfl (lv_at hl 2 rfl) ?_
    refine lv_iconst (v := 0) hx hb dX8_taken_1 (by decide) ?_
    refine lv_bipush (v := 6) hx hb dX8_taken_2 (by decide) ?_
    replace hf := xw_bp_e hf
    obtain ⟨r1, he2, hf⟩ := hf
    refine xw_Si hB hK hE hS hP (As := [.int a2, .int (0 : Int32), .int (6 : Int32)]) (rest := []) (kX8_isIn l G hG a2 (0 : Int32) (6 : Int32) w0 _ he2) tw_835 tw_837 tw_836 tw_10 3 hs_X8_isIn ⟨Nat.le_of_ble_eq_true rfl, Nat.le_of_ble_eq_true rfl⟩ rfl hl.1 (Nat.le_of_ble_eq_true rfl) rfl dX8_taken_4 ⟨Nat.zero_le _, Nat.zero_le _⟩ (fun H locs hP hS => ?_)
    refine lv_if_ne (tgt := 13) hx hb dX8_taken_7 (by decide) (fun c3 => ?_) (fun c3 => ?_)
    · replace hf := xw_in' c3 hf
      refine lv_aload_n hx hb dX8_taken_13 rfl (lv_at hl 0 rfl) ?_
      refine lv_iload_n hx hb dX8_taken_14 rfl (lv_at hl 1 rfl) ?_
      replace hf := xw_bp_e hf
      obtain ⟨r4, he5, hf⟩ := hf
      refine xw_Vi hB hK hE hS hP (As := [.int a1]) (rest := []) (kX8_isOne l G hG a1 w0 _ he5) gs_X8_101 (xw_rc hK hP (C := RX8) (T := TX8) (N := 31) (xw_o8 G) rfl) 1 hv_X8_isOne ⟨Nat.le_of_ble_eq_true rfl, Nat.le_of_ble_eq_true rfl⟩ rfl hl.1 (Nat.le_of_ble_eq_true rfl) rfl dX8_taken_15 ⟨Nat.zero_le _, Nat.zero_le _⟩ (fun H locs hP hS => ?_)
      refine lv_if_ne (tgt := 24) hx hb dX8_taken_18 (by decide) (fun c6 => ?_) (fun c6 => ?_)
      · replace hf := xw_in' c6 hf
        refine lv_aload_n hx hb dX8_taken_24 rfl (lv_at hl 0 rfl) ?_
        refine lv_iload_n hx hb dX8_taken_25 rfl (lv_at hl 1 rfl) ?_
        refine lv_iconst (v := 0) hx hb dX8_taken_26 (by decide) ?_
        replace hf := xw_bp_e hf
        obtain ⟨r7, he8, hf⟩ := hf
        refine xw_Vi hB hK hE hS hP (As := [.int a1, .int (0 : Int32)]) (rest := []) (kX8_one l G hG a1 (0 : Int32) w0 _ he8) gs_X8_89 (xw_rc hK hP (C := RX8) (T := TX8) (N := 31) (xw_o8 G) rfl) 2 hv_X8_one ⟨Nat.le_of_ble_eq_true rfl, Nat.le_of_ble_eq_true rfl⟩ rfl hl.1 (Nat.le_of_ble_eq_true rfl) rfl dX8_taken_27 ⟨Nat.zero_le _, Nat.zero_le _⟩ (fun H locs hP hS => ?_)
        refine lv_istore_n (lv' := [(3, .int r7), (0, .ref (xw_ad G 119)), (1, .int a1), (2, .int a2)]) hx hb dX8_taken_30 rfl hl (by decide) rfl (fun ls hl => ?_)
        exact J31 r7 hf H locs ls hP hS (lv_sub hl [1, 2, 3, 0] rfl)
      · replace hf := xw_ip c6 hf
        refine lv_bipush (v := (-11)) hx hb dX8_taken_21 (by decide) ?_
        have h0 := xw_so hf
        have h1 : w0 = w0 := rfl
        exact xw_iret hB hK hE hS hP hr hlk h0 h1 dX8_taken_23
    · replace hf := xw_ip c3 hf
      refine lv_bipush (v := (-2)) hx hb dX8_taken_10 (by decide) ?_
      have h0 := xw_so hf
      have h1 : w0 = w0 := rfl
      exact xw_iret hB hK hE hS hP hr hlk h0 h1 dX8_taken_12
  exact HH s.heap [] hP hS
def fX8_count (a1 : Int32) (w0 : xw_M) : Option Int32 := if a1 = 0 then xw_ck (60 : Int32) 109 (some (w0.1 120 (60 : Int32).toNatClampNeg)) else (if a1 = 1 then some (w0.1 119 8) else (if a1 = 2 then xw_ck (64 : Int32) 109 (some (w0.1 120 (64 : Int32).toNatClampNeg)) else (if a1 = 3 then xw_ck (75 : Int32) 109 (some (w0.1 120 (75 : Int32).toNatClampNeg)) else (if a1 = 4 then xw_ck (92 : Int32) 109 (some (w0.1 120 (92 : Int32).toNatClampNeg)) else (if a1 = 5 then some (w0.1 119 5) else (if a1 = 6 then some (w0.1 119 26) else (some (-2 : Int32))))))))
set_option maxHeartbeats 4000000 in
set_option maxRecDepth 100000 in
theorem kX8_count (l : Launch) (G : xw_G) (hG : xw_ok G) (a1 : Int32) (w0 : xw_M) (r0 : Int32) (hf : fX8_count a1 w0 = some r0) : xw_Ti l G yX8_count cX8_count 2 ((Option.some Jvm.ClassFile.FieldType.int)) (0) (0) [.ref (xw_ad G 119), .int a1] w0 r0 w0 := by
  unfold xw_Ti
  refine Met.ofW (cc := cX8_count) (maxL := 2) (ret := (Option.some Jvm.ClassFile.FieldType.int)) (by decide) rfl ?_
  intro p e s m args below meth c s₁ B hml hv
  obtain ⟨hargs, hP, hK, hE⟩ := hv
  have hx := B.exec
  have hb := B.bytes
  have hr := B.returns
  have hlk := B.notSynchronized
  have hB : CallFix p m c cX8_count 2 s args TB RX8 := ⟨hx, hb, hml, findClass_of_methodNamed B.named, fun q h => (atoms_spec (ws := Cond.code yX8_count cX8_count 2 ((Option.some Jvm.ClassFile.FieldType.int)) :: TB) B.pre) q (List.mem_cons_of_mem _ h)⟩
  have hS : va_S (xw_A G) s.heap s.heap [] := va_S.rf
  have hl := lv_entry [.ref (xw_ad G 119), .int a1] (n := 2) (Nat.le_of_ble_eq_true rfl)
  rw [show entryFrame m args 2 = entryFrame m ([.ref (xw_ad G 119), .int a1] : List Value).toArray 2 from by rw [hargs], lg_entry_eq]
  generalize (lg_sl [.ref (xw_ad G 119), .int a1] ++ List.replicate (2 - (lg_sl [.ref (xw_ad G 119), .int a1]).length) Slot.unset).toArray = ls at hl ⊢
  have hP : va_P (xw_D G) xw_cl (xw_W G w0) s.heap := hP
  have hl : lv_has ls 2 [(0, .ref (xw_ad G 119)), (1, .int a1)] := hl
  have HH : ∀ (H : Heap) (locs : List Loc) (hP : va_P (xw_D G) xw_cl (xw_W G w0) H) (hS : va_S (xw_A G) s.heap H locs), xw_Wi G p l e (xw_rm (0) (0)) s m args below meth c H locs r0 w0 (F0 m 0 ls []) := by
    intro H locs hP hS
    unfold fX8_count at hf
    refine lv_iload_n hx hb dX8_count_0 rfl (lv_at hl 1 rfl) ?_
    by_cases c2 : a1 = 0
    · refine lv_tableIn (off := 43) (tgt := 44) hx hb dX8_count_1 (by rw [c2]; decide) (by rw [c2]; decide) (by rw [c2]; rfl) (by decide) ?_
      replace hf := xw_ip c2 hf
      refine lv_aload_n hx hb dX8_count_44 rfl (lv_at hl 0 rfl) ?_
      refine xw_get hB hK hP (xw_o8 G) (C := RX8) (T := TX8) (N := 31) rfl TBi_X8 0 (by decide) tw_728 rfl rfl dX8_count_45 ?_
      refine lv_bipush (v := 60) hx hb dX8_count_48 (by decide) ?_
      replace hf := xw_ck_e hf
      obtain ⟨hi1, hf⟩ := hf
      refine xw_ild hB hK hP (xw_k120 G) hi1 dX8_count_50 ?_
      have h0 := xw_so hf
      have h1 : w0 = w0 := rfl
      exact xw_iret hB hK hE hS hP hr hlk h0 h1 dX8_count_51
    · replace hf := xw_in' c2 hf
      by_cases c3 : a1 = 1
      · refine lv_tableIn (off := 51) (tgt := 52) hx hb dX8_count_1 (by rw [c3]; decide) (by rw [c3]; decide) (by rw [c3]; rfl) (by decide) ?_
        replace hf := xw_ip c3 hf
        refine lv_aload_n hx hb dX8_count_52 rfl (lv_at hl 0 rfl) ?_
        refine xw_get hB hK hP (xw_o8 G) (C := RX8) (T := TX8) (N := 31) rfl TBi_X8 8 (by decide) tw_736 rfl rfl dX8_count_53 ?_
        have h0 := xw_so hf
        have h1 : w0 = w0 := rfl
        exact xw_iret hB hK hE hS hP hr hlk h0 h1 dX8_count_56
      · replace hf := xw_in' c3 hf
        by_cases c5 : a1 = 2
        · refine lv_tableIn (off := 56) (tgt := 57) hx hb dX8_count_1 (by rw [c5]; decide) (by rw [c5]; decide) (by rw [c5]; rfl) (by decide) ?_
          replace hf := xw_ip c5 hf
          refine lv_aload_n hx hb dX8_count_57 rfl (lv_at hl 0 rfl) ?_
          refine xw_get hB hK hP (xw_o8 G) (C := RX8) (T := TX8) (N := 31) rfl TBi_X8 0 (by decide) tw_728 rfl rfl dX8_count_58 ?_
          refine lv_bipush (v := 64) hx hb dX8_count_61 (by decide) ?_
          replace hf := xw_ck_e hf
          obtain ⟨hi4, hf⟩ := hf
          refine xw_ild hB hK hP (xw_k120 G) hi4 dX8_count_63 ?_
          have h0 := xw_so hf
          have h1 : w0 = w0 := rfl
          exact xw_iret hB hK hE hS hP hr hlk h0 h1 dX8_count_64
        · replace hf := xw_in' c5 hf
          by_cases c7 : a1 = 3
          · refine lv_tableIn (off := 64) (tgt := 65) hx hb dX8_count_1 (by rw [c7]; decide) (by rw [c7]; decide) (by rw [c7]; rfl) (by decide) ?_
            replace hf := xw_ip c7 hf
            refine lv_aload_n hx hb dX8_count_65 rfl (lv_at hl 0 rfl) ?_
            refine xw_get hB hK hP (xw_o8 G) (C := RX8) (T := TX8) (N := 31) rfl TBi_X8 0 (by decide) tw_728 rfl rfl dX8_count_66 ?_
            refine lv_bipush (v := 75) hx hb dX8_count_69 (by decide) ?_
            replace hf := xw_ck_e hf
            obtain ⟨hi6, hf⟩ := hf
            refine xw_ild hB hK hP (xw_k120 G) hi6 dX8_count_71 ?_
            have h0 := xw_so hf
            have h1 : w0 = w0 := rfl
            exact xw_iret hB hK hE hS hP hr hlk h0 h1 dX8_count_72
          · replace hf := xw_in' c7 hf
            by_cases c9 : a1 = 4
            · refine lv_tableIn (off := 72) (tgt := 73) hx hb dX8_count_1 (by rw [c9]; decide) (by rw [c9]; decide) (by rw [c9]; rfl) (by decide) ?_
              replace hf := xw_ip c9 hf
              refine lv_aload_n hx hb dX8_count_73 rfl (lv_at hl 0 rfl) ?_
              refine xw_get hB hK hP (xw_o8 G) (C := RX8) (T := TX8) (N := 31) rfl TBi_X8 0 (by decide) tw_728 rfl rfl dX8_count_74 ?_
              refine lv_bipush (v := 92) hx hb dX8_count_77 (by decide) ?_
              replace hf := xw_ck_e hf
              obtain ⟨hi8, hf⟩ := hf
              refine xw_ild hB hK hP (xw_k120 G) hi8 dX8_count_79 ?_
              have h0 := xw_so hf
              have h1 : w0 = w0 := rfl
              exact xw_iret hB hK hE hS hP hr hlk h0 h1 dX8_count_80
            · replace hf := xw_in' c9 hf
              by_cases c10 : a1 = 5
              · refine lv_tableIn (off := 80) (tgt := 81) hx hb dX8_count_1 (by rw [c10]; decide) (by rw [c10]; decide) (by rw [c10]; rfl) (by decide) ?_
                replace hf := xw_ip c10 hf
                refine lv_aload_n hx hb dX8_count_81 rfl (lv_at hl 0 rfl) ?_
                refine xw_get hB hK hP (xw_o8 G) (C := RX8) (T := TX8) (N := 31) rfl TBi_X8 5 (by decide) tw_733 rfl rfl dX8_count_82 ?_
                have h0 := xw_so hf
                have h1 : w0 = w0 := rfl
                exact xw_iret hB hK hE hS hP hr hlk h0 h1 dX8_count_85
              · replace hf := xw_in' c10 hf
                by_cases c11 : a1 = 6
                · refine lv_tableIn (off := 85) (tgt := 86) hx hb dX8_count_1 (by rw [c11]; decide) (by rw [c11]; decide) (by rw [c11]; rfl) (by decide) ?_
                  replace hf := xw_ip c11 hf
                  refine lv_aload_n hx hb dX8_count_86 rfl (lv_at hl 0 rfl) ?_
                  refine xw_get hB hK hP (xw_o8 G) (C := RX8) (T := TX8) (N := 31) rfl TBi_X8 26 (by decide) tw_754 rfl rfl dX8_count_87 ?_
                  have h0 := xw_so hf
                  have h1 : w0 = w0 := rfl
                  exact xw_iret hB hK hE hS hP hr hlk h0 h1 dX8_count_90
                · replace hf := xw_in' c11 hf
                  refine lv_tableOut (tgt := 91) hx hb dX8_count_1 (by have n0 := lv_neT c2 (by decide : (0 : Int32).toInt = 0); have n1 := lv_neT c3 (by decide : (1 : Int32).toInt = 1); have n2 := lv_neT c5 (by decide : (2 : Int32).toInt = 2); have n3 := lv_neT c7 (by decide : (3 : Int32).toInt = 3); have n4 := lv_neT c9 (by decide : (4 : Int32).toInt = 4); have n5 := lv_neT c10 (by decide : (5 : Int32).toInt = 5); have n6 := lv_neT c11 (by decide : (6 : Int32).toInt = 6); omega) (by decide) ?_
                  refine lv_bipush (v := (-2)) hx hb dX8_count_91 (by decide) ?_
                  have h0 := xw_so hf
                  have h1 : w0 = w0 := rfl
                  exact xw_iret hB hK hE hS hP hr hlk h0 h1 dX8_count_93
  exact HH s.heap [] hP hS
def fX8_isTape (a0 : Int32) : Option Int32 := xw_bp (fX8_isIn a0 (0 : Int32) (5 : Int32)) (fun r1 => xw_cc (r1 = 0 ∨ r1 = 1) (some r1))
set_option maxHeartbeats 4000000 in
set_option maxRecDepth 100000 in
theorem kX8_isTape (l : Launch) (G : xw_G) (hG : xw_ok G) (a0 : Int32) (w0 : xw_M) (r0 : Int32) (hf : fX8_isTape a0 = some r0) : xw_Ti l G yX8_isTape cX8_isTape 1 ((Option.some Jvm.ClassFile.FieldType.boolean)) (1) (22) [.int a0] w0 r0 w0 := by
  unfold xw_Ti
  refine Met.ofW (cc := cX8_isTape) (maxL := 1) (ret := (Option.some Jvm.ClassFile.FieldType.boolean)) (by decide) rfl ?_
  intro p e s m args below meth c s₁ B hml hv
  obtain ⟨hargs, hP, hK, hE⟩ := hv
  have hx := B.exec
  have hb := B.bytes
  have hr := B.returns
  have hlk := B.notSynchronized
  have hB : CallFix p m c cX8_isTape 1 s args TB RX8 := ⟨hx, hb, hml, findClass_of_methodNamed B.named, fun q h => (atoms_spec (ws := Cond.code yX8_isTape cX8_isTape 1 ((Option.some Jvm.ClassFile.FieldType.boolean)) :: TB) B.pre) q (List.mem_cons_of_mem _ h)⟩
  have hS : va_S (xw_A G) s.heap s.heap [] := va_S.rf
  have hl := lv_entry [.int a0] (n := 1) (Nat.le_of_ble_eq_true rfl)
  rw [show entryFrame m args 1 = entryFrame m ([.int a0] : List Value).toArray 1 from by rw [hargs], lg_entry_eq]
  generalize (lg_sl [.int a0] ++ List.replicate (1 - (lg_sl [.int a0]).length) Slot.unset).toArray = ls at hl ⊢
  have hP : va_P (xw_D G) xw_cl (xw_W G w0) s.heap := hP
  have hl : lv_has ls 1 [(0, .int a0)] := hl
  have HH : ∀ (H : Heap) (locs : List Loc) (hP : va_P (xw_D G) xw_cl (xw_W G w0) H) (hS : va_S (xw_A G) s.heap H locs), xw_Wi G p l e (xw_rm (1) (22)) s m args below meth c H locs r0 w0 (F0 m 0 ls []) := by
    intro H locs hP hS
    unfold fX8_isTape at hf
    refine lv_iload_n hx hb dX8_isTape_0 rfl (lv_at hl 0 rfl) ?_
    refine lv_iconst (v := 0) hx hb dX8_isTape_1 (by decide) ?_
    refine lv_iconst (v := 5) hx hb dX8_isTape_2 (by decide) ?_
    replace hf := xw_bp_e hf
    obtain ⟨r1, he2, hf⟩ := hf
    refine xw_Si hB hK hE hS hP (As := [.int a0, .int (0 : Int32), .int (5 : Int32)]) (rest := []) (kX8_isIn l G hG a0 (0 : Int32) (5 : Int32) w0 _ he2) tw_835 tw_837 tw_836 tw_10 3 hs_X8_isIn ⟨Nat.le_of_ble_eq_true rfl, Nat.le_of_ble_eq_true rfl⟩ rfl hl.1 (Nat.le_of_ble_eq_true rfl) rfl dX8_isTape_3 ⟨Nat.zero_le _, Nat.zero_le _⟩ (fun H locs hP hS => ?_)
    replace hf := xw_cc_e hf
    obtain ⟨hn, hf⟩ := hf
    have h0 := xw_so hf
    have h1 : w0 = w0 := rfl
    exact xw_zret hB hK hE hS hP hr hlk (xw_nar hn) h0 h1 dX8_isTape_6
  exact HH s.heap [] hP hS
def fX8_tape_93 (n : Nat) (a1 : Int32) (a2 : Int32) (a3 : Int32) (w : xw_M) : Option (Int32 × xw_M) := some ((1 : Int32), w)
def fX8_tape_b67 (n : Nat) (a1 : Int32) (a2 : Int32) (a3 : Int32) (x4 : Int32) (w : xw_M) : Option ((Int32 × xw_M) ⊕ (xw_M)) := if (60 : Int32) ≤ x4 then some (.inr w) else xw_ck (((60 : Int32) * a1) + x4) 360 (xw_lt (xw_sl w 139 (((60 : Int32) * a1) + x4).toNatClampNeg (0 : Int64)) (fun w18 => xw_lt (x4 + 1) (fun x4_19 => some (.inl (x4_19, w18)))))
def fX8_tape_67 (n : Nat) (a1 : Int32) (a2 : Int32) (a3 : Int32) (x4 : Int32) (w : xw_M) : Option (Int32 × xw_M) := xw_bp (xw_it (fun z => fX8_tape_b67 n a1 a2 a3 z.1 z.2) n (x4, w)) (fun z => (fun (w : xw_M) => fX8_tape_93 n a1 a2 a3 w) z)
def fX8_tape_63 (n : Nat) (a1 : Int32) (a2 : Int32) (a3 : Int32) (v0 : Nat) (v1 : Int32) (v2 : Int32) (w : xw_M) : Option (Int32 × xw_M) := xw_ck v1 6 (xw_lt (xw_si w v0 v1.toNatClampNeg v2) (fun w15 => fX8_tape_67 n a1 a2 a3 (0 : Int32) w15))
def fX8_tape_42 (n : Nat) (a1 : Int32) (a2 : Int32) (a3 : Int32) (w : xw_M) : Option (Int32 × xw_M) := xw_ck a1 6 (xw_lt (xw_si w 137 a1.toNatClampNeg a2) (fun w12 => if 0 ≤ a2 then fX8_tape_63 n a1 a2 a3 138 a1 a3 w12 else fX8_tape_63 n a1 a2 a3 138 a1 (0 : Int32) w12))
def fX8_tape_31 (n : Nat) (a1 : Int32) (a2 : Int32) (a3 : Int32) (w : xw_M) : Option (Int32 × xw_M) := if a2 < 0 then fX8_tape_42 n a1 a2 a3 w else if 0 ≤ a3 then fX8_tape_42 n a1 a2 a3 w else some ((-14 : Int32), w)
def fX8_tape (n : Nat) (a1 : Int32) (a2 : Int32) (a3 : Int32) (w0 : xw_M) : Option (Int32 × xw_M) := xw_bp (fX8_isTape a1) (fun r1 => if r1 = 0 then some ((-1 : Int32), w0) else xw_bp (fX8_isIn a2 (-1 : Int32) (4 : Int32)) (fun r4 => if r4 = 0 then some ((-2 : Int32), w0) else if a2 < 0 then fX8_tape_31 n a1 a2 a3 w0 else if a3 ≤ (60 : Int32) then fX8_tape_31 n a1 a2 a3 w0 else some ((-2 : Int32), w0)))
set_option maxHeartbeats 4000000 in
set_option maxRecDepth 100000 in
theorem kX8_tape (l : Launch) (G : xw_G) (hG : xw_ok G) (n : Nat) (a1 : Int32) (a2 : Int32) (a3 : Int32) (w0 : xw_M) (r0 : Int32) (wz : xw_M) (hf : fX8_tape n a1 a2 a3 w0 = some (r0, wz)) : xw_Ti l G yX8_tape cX8_tape 5 ((Option.some Jvm.ClassFile.FieldType.int)) (2) (42) [.ref (xw_ad G 119), .int a1, .int a2, .int a3] w0 r0 wz := by
  unfold xw_Ti
  refine Met.ofW (cc := cX8_tape) (maxL := 5) (ret := (Option.some Jvm.ClassFile.FieldType.int)) (by decide) rfl ?_
  intro p e s m args below meth c s₁ B hml hv
  obtain ⟨hargs, hP, hK, hE⟩ := hv
  have hx := B.exec
  have hb := B.bytes
  have hr := B.returns
  have hlk := B.notSynchronized
  have hB : CallFix p m c cX8_tape 5 s args TB RX8 := ⟨hx, hb, hml, findClass_of_methodNamed B.named, fun q h => (atoms_spec (ws := Cond.code yX8_tape cX8_tape 5 ((Option.some Jvm.ClassFile.FieldType.int)) :: TB) B.pre) q (List.mem_cons_of_mem _ h)⟩
  have hS : va_S (xw_A G) s.heap s.heap [] := va_S.rf
  have hl := lv_entry [.ref (xw_ad G 119), .int a1, .int a2, .int a3] (n := 5) (Nat.le_of_ble_eq_true rfl)
  rw [show entryFrame m args 5 = entryFrame m ([.ref (xw_ad G 119), .int a1, .int a2, .int a3] : List Value).toArray 5 from by rw [hargs], lg_entry_eq]
  generalize (lg_sl [.ref (xw_ad G 119), .int a1, .int a2, .int a3] ++ List.replicate (5 - (lg_sl [.ref (xw_ad G 119), .int a1, .int a2, .int a3]).length) Slot.unset).toArray = ls at hl ⊢
  have hP : va_P (xw_D G) xw_cl (xw_W G w0) s.heap := hP
  have hl : lv_has ls 5 [(0, .ref (xw_ad G 119)), (1, .int a1), (2, .int a2), (3, .int a3)] := hl
  have HH : ∀ (H : Heap) (locs : List Loc) (hP : va_P (xw_D G) xw_cl (xw_W G w0) H) (hS : va_S (xw_A G) s.heap H locs), xw_Wi G p l e (xw_rm (2) (42)) s m args below meth c H locs r0 wz (F0 m 0 ls []) := by
    intro H locs hP hS
    unfold fX8_tape at hf
    have J93 : ∀ (w : xw_M) (hf : fX8_tape_93 n a1 a2 a3 w = some (r0, wz)) (H : Heap) (locs : List Loc) (ls : Array Slot) (hP : va_P (xw_D G) xw_cl (xw_W G w) H) (hS : va_S (xw_A G) s.heap H locs) (hl : lv_has ls 5 []), xw_Wi G p l e (xw_rm (2) (42)) s m args below meth c H locs r0 wz (F0 m 93 ls []) := by
      intro w hf H locs ls hP hS hl
      unfold fX8_tape_93 at hf
      refine lv_iconst (v := 1) hx hb dX8_tape_93 (by decide) ?_
      obtain ⟨h0, h1⟩ := xw_s2 hf
      exact xw_iret hB hK hE hS hP hr hlk h0 h1 dX8_tape_94
    have J67 : ∀ (x4 : Int32) (w : xw_M) (hf : fX8_tape_67 n a1 a2 a3 x4 w = some (r0, wz)) (H : Heap) (locs : List Loc) (ls : Array Slot) (hP : va_P (xw_D G) xw_cl (xw_W G w) H) (hS : va_S (xw_A G) s.heap H locs) (hl : lv_has ls 5 [(0, .ref (xw_ad G 119)), (1, .int a1), (4, .int x4)]), xw_Wi G p l e (xw_rm (2) (42)) s m args below meth c H locs r0 wz (F0 m 67 ls []) := by
      intro x4 w hf H locs ls hP hS hl
      unfold fX8_tape_67 at hf
      replace hf := xw_bp_e hf
      obtain ⟨bb67, hit67, hfx67⟩ := hf
      have XX67 : ∀ (w : xw_M) (hf : fX8_tape_93 n a1 a2 a3 w = some (r0, wz)) (H : Heap) (locs : List Loc) (ls : Array Slot) (hP : va_P (xw_D G) xw_cl (xw_W G w) H) (hS : va_S (xw_A G) s.heap H locs) (hl : lv_has ls 5 []), xw_Wi G p l e (xw_rm (2) (42)) s m args below meth c H locs r0 wz (F0 m 93 ls []) := by
        intro w hf H locs ls hP hS hl
        exact J93 w hf H locs ls hP hS (lv_sub hl [] rfl)
      have LL67 : ∀ (nn : Nat) (x4 : Int32) (w : xw_M) (hit : xw_it (fun z => fX8_tape_b67 n a1 a2 a3 z.1 z.2) nn (x4, w) = some bb67) (H : Heap) (locs : List Loc) (ls : Array Slot) (hP : va_P (xw_D G) xw_cl (xw_W G w) H) (hS : va_S (xw_A G) s.heap H locs) (hl : lv_has ls 5 [(0, .ref (xw_ad G 119)), (1, .int a1), (4, .int x4)]), xw_Wi G p l e (xw_rm (2) (42)) s m args below meth c H locs r0 wz (F0 m 67 ls []) := by
        intro nn
        induction nn with
        | zero => intro x4 w hit; exact (xw_it_0 hit).elim
        | succ nn ih67 =>
          intro x4 w hit H locs ls hP hS hl
          replace hit := xw_it_e hit
          obtain ⟨wv67, hf, hC67, hX67⟩ := hit
          replace hf : fX8_tape_b67 n a1 a2 a3 x4 w = some wv67 := hf
          unfold fX8_tape_b67 at hf
          refine lv_iload hx hb dX8_tape_67 (lv_at hl 2 rfl) ?_
          refine lv_bipush (v := 60) hx hb dX8_tape_69 (by decide) ?_
          refine lv_icmp_ge (tgt := 93) hx hb dX8_tape_71 (by decide) (fun c16 => ?_) (fun c16 => ?_)
          · replace hf := xw_ip c16 hf
            have he67 := hX67 _ (xw_so hf).symm
            rw [← he67] at hfx67
            exact XX67 w hfx67 H locs ls hP hS (lv_sub hl [] rfl)
          · replace hf := xw_in' c16 hf
            refine lv_aload_n hx hb dX8_tape_74 rfl (lv_at hl 0 rfl) ?_
            refine xw_get hB hK hP (xw_o8 G) (C := RX8) (T := TX8) (N := 31) rfl TBi_X8 29 (by decide) tw_757 rfl rfl dX8_tape_75 ?_
            refine lv_bipush (v := 60) hx hb dX8_tape_78 (by decide) ?_
            refine lv_iload_n hx hb dX8_tape_80 rfl (lv_at hl 1 rfl) ?_
            refine lv_imul hx hb dX8_tape_81 ?_
            refine lv_iload hx hb dX8_tape_82 (lv_at hl 2 rfl) ?_
            refine lv_iadd hx hb dX8_tape_84 ?_
            refine lv_lconst (v := 0) hx hb dX8_tape_85 (by decide) ?_
            replace hf := xw_ck_e hf
            obtain ⟨hi17, hf⟩ := hf
            refine xw_lst hG hB hK hS hP (xw_k139 G) hi17 dX8_tape_86 (fun w18 ew18 H locs hP hS => ?_)
            replace hf := xw_lt_e ew18 hf
            obtain ⟨x4_19, ex4_19⟩ : ∃ y : Int32, y = x4 + 1 := ⟨_, rfl⟩
            replace hf := xw_lt_e ex4_19 hf
            refine lv_iinc (v := x4_19) (lv' := [(4, .int x4_19), (0, .ref (xw_ad G 119)), (1, .int a1)]) hx hb dX8_tape_87 hl (k := 2) rfl (by rw [ex4_19]; rfl) (by decide) rfl (fun ls hl => ?_)
            refine lv_goto (tgt := 67) hx hb dX8_tape_90 (by decide) ?_
            have hi := hC67 _ (xw_so hf).symm
            exact ih67 x4_19 w18 hi H locs ls hP hS (lv_sub hl [1, 2, 0] rfl)
      exact LL67 n x4 w hit67 H locs ls hP hS hl
    have J63 : ∀ (v0 : Nat) (v1 : Int32) (v2 : Int32) (hv0 : xw_ia G 0 v0 6) (w : xw_M) (hf : fX8_tape_63 n a1 a2 a3 v0 v1 v2 w = some (r0, wz)) (H : Heap) (locs : List Loc) (ls : Array Slot) (hP : va_P (xw_D G) xw_cl (xw_W G w) H) (hS : va_S (xw_A G) s.heap H locs) (hl : lv_has ls 5 [(0, .ref (xw_ad G 119)), (1, .int a1)]), xw_Wi G p l e (xw_rm (2) (42)) s m args below meth c H locs r0 wz (F0 m 63 ls [.int v2, .int v1, .ref (xw_ad G v0)]) := by
      intro v0 v1 v2 hv0 w hf H locs ls hP hS hl
      unfold fX8_tape_63 at hf
      replace hf := xw_ck_e hf
      obtain ⟨hi14, hf⟩ := hf
      refine xw_ist hG hB hK hS hP hv0 hi14 dX8_tape_63 (fun w15 ew15 H locs hP hS => ?_)
      replace hf := xw_lt_e ew15 hf
      refine lv_iconst (v := 0) hx hb dX8_tape_64 (by decide) ?_
      refine lv_istore (lv' := [(4, .int (0 : Int32)), (0, .ref (xw_ad G 119)), (1, .int a1)]) hx hb dX8_tape_65 hl (by decide) rfl (fun ls hl => ?_)
      exact J67 (0 : Int32) w15 hf H locs ls hP hS (lv_sub hl [1, 2, 0] rfl)
    have J42 : ∀ (w : xw_M) (hf : fX8_tape_42 n a1 a2 a3 w = some (r0, wz)) (H : Heap) (locs : List Loc) (ls : Array Slot) (hP : va_P (xw_D G) xw_cl (xw_W G w) H) (hS : va_S (xw_A G) s.heap H locs) (hl : lv_has ls 5 [(0, .ref (xw_ad G 119)), (1, .int a1), (2, .int a2), (3, .int a3)]), xw_Wi G p l e (xw_rm (2) (42)) s m args below meth c H locs r0 wz (F0 m 42 ls []) := by
      intro w hf H locs ls hP hS hl
      unfold fX8_tape_42 at hf
      refine lv_aload_n hx hb dX8_tape_42 rfl (lv_at hl 0 rfl) ?_
      refine xw_get hB hK hP (xw_o8 G) (C := RX8) (T := TX8) (N := 31) rfl TBi_X8 27 (by decide) tw_755 rfl rfl dX8_tape_43 ?_
      refine lv_iload_n hx hb dX8_tape_46 rfl (lv_at hl 1 rfl) ?_
      refine lv_iload_n hx hb dX8_tape_47 rfl (lv_at hl 2 rfl) ?_
      replace hf := xw_ck_e hf
      obtain ⟨hi11, hf⟩ := hf
      refine xw_ist hG hB hK hS hP (xw_k137 G) hi11 dX8_tape_48 (fun w12 ew12 H locs hP hS => ?_)
      replace hf := xw_lt_e ew12 hf
      refine lv_aload_n hx hb dX8_tape_49 rfl (lv_at hl 0 rfl) ?_
      refine xw_get hB hK hP (xw_o8 G) (C := RX8) (T := TX8) (N := 31) rfl TBi_X8 28 (by decide) tw_756 rfl rfl dX8_tape_50 ?_
      refine lv_iload_n hx hb dX8_tape_53 rfl (lv_at hl 1 rfl) ?_
      refine lv_iload_n hx hb dX8_tape_54 rfl (lv_at hl 2 rfl) ?_
      refine lv_if_ge (tgt := 62) hx hb dX8_tape_55 (by decide) (fun c13 => ?_) (fun c13 => ?_)
      · replace hf := xw_ip c13 hf
        refine lv_iload_n hx hb dX8_tape_62 rfl (lv_at hl 3 rfl) ?_
        exact J63 138 a1 a3 (xw_k138 G) w12 hf H locs ls hP hS (lv_sub hl [0, 1] rfl)
      · replace hf := xw_in' c13 hf
        refine lv_iconst (v := 0) hx hb dX8_tape_58 (by decide) ?_
        refine lv_goto (tgt := 63) hx hb dX8_tape_59 (by decide) ?_
        exact J63 138 a1 (0 : Int32) (xw_k138 G) w12 hf H locs ls hP hS (lv_sub hl [0, 1] rfl)
    have J31 : ∀ (w : xw_M) (hf : fX8_tape_31 n a1 a2 a3 w = some (r0, wz)) (H : Heap) (locs : List Loc) (ls : Array Slot) (hP : va_P (xw_D G) xw_cl (xw_W G w) H) (hS : va_S (xw_A G) s.heap H locs) (hl : lv_has ls 5 [(0, .ref (xw_ad G 119)), (1, .int a1), (2, .int a2), (3, .int a3)]), xw_Wi G p l e (xw_rm (2) (42)) s m args below meth c H locs r0 wz (F0 m 31 ls []) := by
      intro w hf H locs ls hP hS hl
      unfold fX8_tape_31 at hf
      refine lv_iload_n hx hb dX8_tape_31 rfl (lv_at hl 2 rfl) ?_
      refine lv_if_lt (tgt := 42) hx hb dX8_tape_32 (by decide) (fun c9 => ?_) (fun c9 => ?_)
      · replace hf := xw_ip c9 hf
        exact J42 w hf H locs ls hP hS (lv_sub hl [0, 1, 2, 3] rfl)
      · replace hf := xw_in' c9 hf
        refine lv_iload_n hx hb dX8_tape_35 rfl (lv_at hl 3 rfl) ?_
        refine lv_if_ge (tgt := 42) hx hb dX8_tape_36 (by decide) (fun c10 => ?_) (fun c10 => ?_)
        · replace hf := xw_ip c10 hf
          exact J42 w hf H locs ls hP hS (lv_sub hl [0, 1, 2, 3] rfl)
        · replace hf := xw_in' c10 hf
          refine lv_bipush (v := (-14)) hx hb dX8_tape_39 (by decide) ?_
          obtain ⟨h0, h1⟩ := xw_s2 hf
          exact xw_iret hB hK hE hS hP hr hlk h0 h1 dX8_tape_41
    refine lv_iload_n hx hb dX8_tape_0 rfl (lv_at hl 1 rfl) ?_
    replace hf := xw_bp_e hf
    obtain ⟨r1, he2, hf⟩ := hf
    refine xw_Si hB hK hE hS hP (As := [.int a1]) (rest := []) (kX8_isTape l G hG a1 w0 _ he2) tw_1071 tw_1073 tw_1072 tw_10 1 hs_X8_isTape ⟨Nat.le_of_ble_eq_true rfl, Nat.le_of_ble_eq_true rfl⟩ rfl hl.1 (Nat.le_of_ble_eq_true rfl) rfl dX8_tape_1 ⟨Nat.zero_le _, Nat.zero_le _⟩ (fun H locs hP hS => ?_)
    refine lv_if_ne (tgt := 9) hx hb dX8_tape_4 (by decide) (fun c3 => ?_) (fun c3 => ?_)
    · replace hf := xw_in' c3 hf
      refine lv_iload_n hx hb dX8_tape_9 rfl (lv_at hl 2 rfl) ?_
      refine lv_iconst (v := (-1)) hx hb dX8_tape_10 (by decide) ?_
      refine lv_iconst (v := 4) hx hb dX8_tape_11 (by decide) ?_
      replace hf := xw_bp_e hf
      obtain ⟨r4, he5, hf⟩ := hf
      refine xw_Si hB hK hE hS hP (As := [.int a2, .int (-1 : Int32), .int (4 : Int32)]) (rest := []) (kX8_isIn l G hG a2 (-1 : Int32) (4 : Int32) w0 _ he5) tw_835 tw_837 tw_836 tw_10 3 hs_X8_isIn ⟨Nat.le_of_ble_eq_true rfl, Nat.le_of_ble_eq_true rfl⟩ rfl hl.1 (Nat.le_of_ble_eq_true rfl) rfl dX8_tape_12 ⟨Nat.zero_le _, Nat.zero_le _⟩ (fun H locs hP hS => ?_)
      refine lv_if_eq (tgt := 28) hx hb dX8_tape_15 (by decide) (fun c6 => ?_) (fun c6 => ?_)
      · replace hf := xw_ip c6 hf
        refine lv_bipush (v := (-2)) hx hb dX8_tape_28 (by decide) ?_
        obtain ⟨h0, h1⟩ := xw_s2 hf
        exact xw_iret hB hK hE hS hP hr hlk h0 h1 dX8_tape_30
      · replace hf := xw_in' c6 hf
        refine lv_iload_n hx hb dX8_tape_18 rfl (lv_at hl 2 rfl) ?_
        refine lv_if_lt (tgt := 31) hx hb dX8_tape_19 (by decide) (fun c7 => ?_) (fun c7 => ?_)
        · replace hf := xw_ip c7 hf
          exact J31 w0 hf H locs ls hP hS (lv_sub hl [0, 1, 2, 3] rfl)
        · replace hf := xw_in' c7 hf
          refine lv_iload_n hx hb dX8_tape_22 rfl (lv_at hl 3 rfl) ?_
          refine lv_bipush (v := 60) hx hb dX8_tape_23 (by decide) ?_
          refine lv_icmp_le (tgt := 31) hx hb dX8_tape_25 (by decide) (fun c8 => ?_) (fun c8 => ?_)
          · replace hf := xw_ip c8 hf
            exact J31 w0 hf H locs ls hP hS (lv_sub hl [0, 1, 2, 3] rfl)
          · replace hf := xw_in' c8 hf
            refine lv_bipush (v := (-2)) hx hb dX8_tape_28 (by decide) ?_
            obtain ⟨h0, h1⟩ := xw_s2 hf
            exact xw_iret hB hK hE hS hP hr hlk h0 h1 dX8_tape_30
    · replace hf := xw_ip c3 hf
      refine lv_iconst (v := (-1)) hx hb dX8_tape_7 (by decide) ?_
      obtain ⟨h0, h1⟩ := xw_s2 hf
      exact xw_iret hB hK hE hS hP hr hlk h0 h1 dX8_tape_8
  exact HH s.heap [] hP hS
def fX8_item_116 (a1 : Int32) (a2 : Int32) (a3 : Int64) (v1 : Int32) (v2 : Int64) (w : xw_M) : Option (Int32 × xw_M) := xw_ck v1 360 (xw_lt (xw_sl w 139 v1.toNatClampNeg v2) (fun w18 => some ((1 : Int32), w18)))
def fX8_item (a1 : Int32) (a2 : Int32) (a3 : Int64) (w0 : xw_M) : Option (Int32 × xw_M) := xw_bp (fX8_isTape a1) (fun r1 => if r1 = 0 then some ((-1 : Int32), w0) else xw_ck a1 6 (if 0 ≤ (w0.1 137 a1.toNatClampNeg) then xw_ck a1 6 (xw_bp (fX8_isIn a2 (0 : Int32) ((w0.1 138 a1.toNatClampNeg) - (1 : Int32))) (fun r7 => if r7 = 0 then some ((-13 : Int32), w0) else xw_ck a1 6 (xw_lt (w0.1 137 a1.toNatClampNeg) (fun x5_11 => if x5_11 = 0 then fX8_item_116 a1 a2 a3 (((60 : Int32) * a1) + a2) a3.toInt32.toInt8.toInt32.toInt64 w0 else if x5_11 = (1 : Int32) then fX8_item_116 a1 a2 a3 (((60 : Int32) * a1) + a2) a3.toInt32.toInt16.toInt32.toInt64 w0 else if x5_11 = (2 : Int32) then fX8_item_116 a1 a2 a3 (((60 : Int32) * a1) + a2) a3.toInt32.toInt64 w0 else if x5_11 = (3 : Int32) then fX8_item_116 a1 a2 a3 (((60 : Int32) * a1) + a2) a3 w0 else if (lg_cmp a3 (0 : Int64)) = 0 then fX8_item_116 a1 a2 a3 (((60 : Int32) * a1) + a2) (0 : Int64) w0 else fX8_item_116 a1 a2 a3 (((60 : Int32) * a1) + a2) (1 : Int64) w0)))) else some ((-11 : Int32), w0)))
set_option maxHeartbeats 4000000 in
set_option maxRecDepth 100000 in
theorem kX8_item (l : Launch) (G : xw_G) (hG : xw_ok G) (a1 : Int32) (a2 : Int32) (a3 : Int64) (w0 : xw_M) (r0 : Int32) (wz : xw_M) (hf : fX8_item a1 a2 a3 w0 = some (r0, wz)) : xw_Ti l G yX8_item cX8_item 6 ((Option.some Jvm.ClassFile.FieldType.int)) (2) (42) [.ref (xw_ad G 119), .int a1, .int a2, .long a3] w0 r0 wz := by
  unfold xw_Ti
  refine Met.ofW (cc := cX8_item) (maxL := 6) (ret := (Option.some Jvm.ClassFile.FieldType.int)) (by decide) rfl ?_
  intro p e s m args below meth c s₁ B hml hv
  obtain ⟨hargs, hP, hK, hE⟩ := hv
  have hx := B.exec
  have hb := B.bytes
  have hr := B.returns
  have hlk := B.notSynchronized
  have hB : CallFix p m c cX8_item 6 s args TB RX8 := ⟨hx, hb, hml, findClass_of_methodNamed B.named, fun q h => (atoms_spec (ws := Cond.code yX8_item cX8_item 6 ((Option.some Jvm.ClassFile.FieldType.int)) :: TB) B.pre) q (List.mem_cons_of_mem _ h)⟩
  have hS : va_S (xw_A G) s.heap s.heap [] := va_S.rf
  have hl := lv_entry [.ref (xw_ad G 119), .int a1, .int a2, .long a3] (n := 6) (Nat.le_of_ble_eq_true rfl)
  rw [show entryFrame m args 6 = entryFrame m ([.ref (xw_ad G 119), .int a1, .int a2, .long a3] : List Value).toArray 6 from by rw [hargs], lg_entry_eq]
  generalize (lg_sl [.ref (xw_ad G 119), .int a1, .int a2, .long a3] ++ List.replicate (6 - (lg_sl [.ref (xw_ad G 119), .int a1, .int a2, .long a3]).length) Slot.unset).toArray = ls at hl ⊢
  have hP : va_P (xw_D G) xw_cl (xw_W G w0) s.heap := hP
  have hl : lv_has ls 6 [(0, .ref (xw_ad G 119)), (1, .int a1), (2, .int a2), (3, .long a3)] := hl
  have HH : ∀ (H : Heap) (locs : List Loc) (hP : va_P (xw_D G) xw_cl (xw_W G w0) H) (hS : va_S (xw_A G) s.heap H locs), xw_Wi G p l e (xw_rm (2) (42)) s m args below meth c H locs r0 wz (F0 m 0 ls []) := by
    intro H locs hP hS
    unfold fX8_item at hf
    have J116 : ∀ (v1 : Int32) (v2 : Int64) (w : xw_M) (hf : fX8_item_116 a1 a2 a3 v1 v2 w = some (r0, wz)) (H : Heap) (locs : List Loc) (ls : Array Slot) (hP : va_P (xw_D G) xw_cl (xw_W G w) H) (hS : va_S (xw_A G) s.heap H locs) (hl : lv_has ls 6 []), xw_Wi G p l e (xw_rm (2) (42)) s m args below meth c H locs r0 wz (F0 m 116 ls [.long v2, .int v1, .ref (xw_ad G 139)]) := by
      intro v1 v2 w hf H locs ls hP hS hl
      unfold fX8_item_116 at hf
      replace hf := xw_ck_e hf
      obtain ⟨hi17, hf⟩ := hf
      refine xw_lst hG hB hK hS hP (xw_k139 G) hi17 dX8_item_116 (fun w18 ew18 H locs hP hS => ?_)
      replace hf := xw_lt_e ew18 hf
      refine lv_iconst (v := 1) hx hb dX8_item_117 (by decide) ?_
      obtain ⟨h0, h1⟩ := xw_s2 hf
      exact xw_iret hB hK hE hS hP hr hlk h0 h1 dX8_item_118
    refine lv_iload_n hx hb dX8_item_0 rfl (lv_at hl 1 rfl) ?_
    replace hf := xw_bp_e hf
    obtain ⟨r1, he2, hf⟩ := hf
    refine xw_Si hB hK hE hS hP (As := [.int a1]) (rest := []) (kX8_isTape l G hG a1 w0 _ he2) tw_1071 tw_1073 tw_1072 tw_10 1 hs_X8_isTape ⟨Nat.le_of_ble_eq_true rfl, Nat.le_of_ble_eq_true rfl⟩ rfl hl.1 (Nat.le_of_ble_eq_true rfl) rfl dX8_item_1 ⟨Nat.zero_le _, Nat.zero_le _⟩ (fun H locs hP hS => ?_)
    refine lv_if_ne (tgt := 9) hx hb dX8_item_4 (by decide) (fun c3 => ?_) (fun c3 => ?_)
    · replace hf := xw_in' c3 hf
      refine lv_aload_n hx hb dX8_item_9 rfl (lv_at hl 0 rfl) ?_
      refine xw_get hB hK hP (xw_o8 G) (C := RX8) (T := TX8) (N := 31) rfl TBi_X8 27 (by decide) tw_755 rfl rfl dX8_item_10 ?_
      refine lv_iload_n hx hb dX8_item_13 rfl (lv_at hl 1 rfl) ?_
      replace hf := xw_ck_e hf
      obtain ⟨hi4, hf⟩ := hf
      refine xw_ild hB hK hP (xw_k137 G) hi4 dX8_item_14 ?_
      refine lv_if_ge (tgt := 21) hx hb dX8_item_15 (by decide) (fun c5 => ?_) (fun c5 => ?_)
      · replace hf := xw_ip c5 hf
        refine lv_iload_n hx hb dX8_item_21 rfl (lv_at hl 2 rfl) ?_
        refine lv_iconst (v := 0) hx hb dX8_item_22 (by decide) ?_
        refine lv_aload_n hx hb dX8_item_23 rfl (lv_at hl 0 rfl) ?_
        refine xw_get hB hK hP (xw_o8 G) (C := RX8) (T := TX8) (N := 31) rfl TBi_X8 28 (by decide) tw_756 rfl rfl dX8_item_24 ?_
        refine lv_iload_n hx hb dX8_item_27 rfl (lv_at hl 1 rfl) ?_
        replace hf := xw_ck_e hf
        obtain ⟨hi6, hf⟩ := hf
        refine xw_ild hB hK hP (xw_k138 G) hi6 dX8_item_28 ?_
        refine lv_iconst (v := 1) hx hb dX8_item_29 (by decide) ?_
        refine lv_isub hx hb dX8_item_30 ?_
        replace hf := xw_bp_e hf
        obtain ⟨r7, he8, hf⟩ := hf
        refine xw_Si hB hK hE hS hP (As := [.int a2, .int (0 : Int32), .int ((w0.1 138 a1.toNatClampNeg) - (1 : Int32))]) (rest := []) (kX8_isIn l G hG a2 (0 : Int32) ((w0.1 138 a1.toNatClampNeg) - (1 : Int32)) w0 _ he8) tw_835 tw_837 tw_836 tw_10 3 hs_X8_isIn ⟨Nat.le_of_ble_eq_true rfl, Nat.le_of_ble_eq_true rfl⟩ rfl hl.1 (Nat.le_of_ble_eq_true rfl) rfl dX8_item_31 ⟨Nat.zero_le _, Nat.zero_le _⟩ (fun H locs hP hS => ?_)
        refine lv_if_ne (tgt := 40) hx hb dX8_item_34 (by decide) (fun c9 => ?_) (fun c9 => ?_)
        · replace hf := xw_in' c9 hf
          refine lv_aload_n hx hb dX8_item_40 rfl (lv_at hl 0 rfl) ?_
          refine xw_get hB hK hP (xw_o8 G) (C := RX8) (T := TX8) (N := 31) rfl TBi_X8 27 (by decide) tw_755 rfl rfl dX8_item_41 ?_
          refine lv_iload_n hx hb dX8_item_44 rfl (lv_at hl 1 rfl) ?_
          replace hf := xw_ck_e hf
          obtain ⟨hi10, hf⟩ := hf
          refine xw_ild hB hK hP (xw_k137 G) hi10 dX8_item_45 ?_
          refine lv_topi (fun x5_11 ex5_11 => ?_)
          replace hf := xw_lt_e ex5_11 hf
          refine lv_istore (lv' := [(5, .int x5_11), (0, .ref (xw_ad G 119)), (1, .int a1), (2, .int a2), (3, .long a3)]) hx hb dX8_item_46 hl (by decide) rfl (fun ls hl => ?_)
          refine lv_aload_n hx hb dX8_item_48 rfl (lv_at hl 1 rfl) ?_
          refine xw_get hB hK hP (xw_o8 G) (C := RX8) (T := TX8) (N := 31) rfl TBi_X8 29 (by decide) tw_757 rfl rfl dX8_item_49 ?_
          refine lv_bipush (v := 60) hx hb dX8_item_52 (by decide) ?_
          refine lv_iload_n hx hb dX8_item_54 rfl (lv_at hl 2 rfl) ?_
          refine lv_imul hx hb dX8_item_55 ?_
          refine lv_iload_n hx hb dX8_item_56 rfl (lv_at hl 3 rfl) ?_
          refine lv_iadd hx hb dX8_item_57 ?_
          refine lv_iload hx hb dX8_item_58 (lv_at hl 0 rfl) ?_
          refine lv_if_ne (tgt := 70) hx hb dX8_item_60 (by decide) (fun c12 => ?_) (fun c12 => ?_)
          · replace hf := xw_in' c12 hf
            refine lv_iload hx hb dX8_item_70 (lv_at hl 0 rfl) ?_
            refine lv_iconst (v := 1) hx hb dX8_item_72 (by decide) ?_
            refine lv_icmp_ne (tgt := 83) hx hb dX8_item_73 (by decide) (fun c13 => ?_) (fun c13 => ?_)
            · replace hf := xw_in' c13 hf
              refine lv_iload hx hb dX8_item_83 (lv_at hl 0 rfl) ?_
              refine lv_iconst (v := 2) hx hb dX8_item_85 (by decide) ?_
              refine lv_icmp_ne (tgt := 95) hx hb dX8_item_86 (by decide) (fun c14 => ?_) (fun c14 => ?_)
              · replace hf := xw_in' c14 hf
                refine lv_iload hx hb dX8_item_95 (lv_at hl 0 rfl) ?_
                refine lv_iconst (v := 3) hx hb dX8_item_97 (by decide) ?_
                refine lv_icmp_ne (tgt := 105) hx hb dX8_item_98 (by decide) (fun c15 => ?_) (fun c15 => ?_)
                · replace hf := xw_in' c15 hf
                  refine lv_lload_n hx hb dX8_item_105 rfl (lv_at hl 4 rfl) ?_
                  refine lv_lconst (v := 0) hx hb dX8_item_106 (by decide) ?_
                  refine W.lcmp hx hb dX8_item_107 ?_
                  refine lv_if_eq (tgt := 115) hx hb dX8_item_108 (by decide) (fun c16 => ?_) (fun c16 => ?_)
                  · replace hf := xw_ip c16 hf
                    refine lv_lconst (v := 0) hx hb dX8_item_115 (by decide) ?_
                    exact J116 (((60 : Int32) * a1) + a2) (0 : Int64) w0 hf H locs ls hP hS (lv_sub hl [] rfl)
                  · replace hf := xw_in' c16 hf
                    refine lv_lconst (v := 1) hx hb dX8_item_111 (by decide) ?_
                    refine lv_goto (tgt := 116) hx hb dX8_item_112 (by decide) ?_
                    exact J116 (((60 : Int32) * a1) + a2) (1 : Int64) w0 hf H locs ls hP hS (lv_sub hl [] rfl)
                · replace hf := xw_ip c15 hf
                  refine lv_lload_n hx hb dX8_item_101 rfl (lv_at hl 4 rfl) ?_
                  refine lv_goto (tgt := 116) hx hb dX8_item_102 (by decide) ?_
                  exact J116 (((60 : Int32) * a1) + a2) a3 w0 hf H locs ls hP hS (lv_sub hl [] rfl)
              · replace hf := xw_ip c14 hf
                refine lv_lload_n hx hb dX8_item_89 rfl (lv_at hl 4 rfl) ?_
                refine lv_l2i hx hb dX8_item_90 rfl ?_
                refine lv_i2l hx hb dX8_item_91 rfl ?_
                refine lv_goto (tgt := 116) hx hb dX8_item_92 (by decide) ?_
                exact J116 (((60 : Int32) * a1) + a2) a3.toInt32.toInt64 w0 hf H locs ls hP hS (lv_sub hl [] rfl)
            · replace hf := xw_ip c13 hf
              refine lv_lload_n hx hb dX8_item_76 rfl (lv_at hl 4 rfl) ?_
              refine lv_l2i hx hb dX8_item_77 rfl ?_
              refine lv_i2s hx hb dX8_item_78 rfl ?_
              refine lv_i2l hx hb dX8_item_79 rfl ?_
              refine lv_goto (tgt := 116) hx hb dX8_item_80 (by decide) ?_
              exact J116 (((60 : Int32) * a1) + a2) a3.toInt32.toInt16.toInt32.toInt64 w0 hf H locs ls hP hS (lv_sub hl [] rfl)
          · replace hf := xw_ip c12 hf
            refine lv_lload_n hx hb dX8_item_63 rfl (lv_at hl 4 rfl) ?_
            refine lv_l2i hx hb dX8_item_64 rfl ?_
            refine lv_i2b hx hb dX8_item_65 rfl ?_
            refine lv_i2l hx hb dX8_item_66 rfl ?_
            refine lv_goto (tgt := 116) hx hb dX8_item_67 (by decide) ?_
            exact J116 (((60 : Int32) * a1) + a2) a3.toInt32.toInt8.toInt32.toInt64 w0 hf H locs ls hP hS (lv_sub hl [] rfl)
        · replace hf := xw_ip c9 hf
          refine lv_bipush (v := (-13)) hx hb dX8_item_37 (by decide) ?_
          obtain ⟨h0, h1⟩ := xw_s2 hf
          exact xw_iret hB hK hE hS hP hr hlk h0 h1 dX8_item_39
      · replace hf := xw_in' c5 hf
        refine lv_bipush (v := (-11)) hx hb dX8_item_18 (by decide) ?_
        obtain ⟨h0, h1⟩ := xw_s2 hf
        exact xw_iret hB hK hE hS hP hr hlk h0 h1 dX8_item_20
    · replace hf := xw_ip c3 hf
      refine lv_iconst (v := (-1)) hx hb dX8_item_7 (by decide) ?_
      obtain ⟨h0, h1⟩ := xw_s2 hf
      exact xw_iret hB hK hE hS hP hr hlk h0 h1 dX8_item_8
  exact HH s.heap [] hP hS
def fX8_read (a1 : Int32) (a2 : Int32) (w0 : xw_M) : Option Int64 := xw_bp (fX8_isTape a1) (fun r1 => if r1 = 0 then some (-9223372036854775808 : Int64) else xw_ck a1 6 (xw_bp (fX8_isIn a2 (0 : Int32) ((w0.1 138 a1.toNatClampNeg) - (1 : Int32))) (fun r5 => if r5 = 0 then some (-9223372036854775808 : Int64) else xw_ck (((60 : Int32) * a1) + a2) 360 (some (w0.2 139 (((60 : Int32) * a1) + a2).toNatClampNeg)))))
set_option maxHeartbeats 4000000 in
set_option maxRecDepth 100000 in
theorem kX8_read (l : Launch) (G : xw_G) (hG : xw_ok G) (a1 : Int32) (a2 : Int32) (w0 : xw_M) (r0 : Int64) (hf : fX8_read a1 a2 w0 = some r0) : xw_Tl l G yX8_read cX8_read 3 ((Option.some Jvm.ClassFile.FieldType.long)) (2) (42) [.ref (xw_ad G 119), .int a1, .int a2] w0 r0 w0 := by
  unfold xw_Tl
  refine Met.ofW (cc := cX8_read) (maxL := 3) (ret := (Option.some Jvm.ClassFile.FieldType.long)) (by decide) rfl ?_
  intro p e s m args below meth c s₁ B hml hv
  obtain ⟨hargs, hP, hK, hE⟩ := hv
  have hx := B.exec
  have hb := B.bytes
  have hr := B.returns
  have hlk := B.notSynchronized
  have hB : CallFix p m c cX8_read 3 s args TB RX8 := ⟨hx, hb, hml, findClass_of_methodNamed B.named, fun q h => (atoms_spec (ws := Cond.code yX8_read cX8_read 3 ((Option.some Jvm.ClassFile.FieldType.long)) :: TB) B.pre) q (List.mem_cons_of_mem _ h)⟩
  have hS : va_S (xw_A G) s.heap s.heap [] := va_S.rf
  have hl := lv_entry [.ref (xw_ad G 119), .int a1, .int a2] (n := 3) (Nat.le_of_ble_eq_true rfl)
  rw [show entryFrame m args 3 = entryFrame m ([.ref (xw_ad G 119), .int a1, .int a2] : List Value).toArray 3 from by rw [hargs], lg_entry_eq]
  generalize (lg_sl [.ref (xw_ad G 119), .int a1, .int a2] ++ List.replicate (3 - (lg_sl [.ref (xw_ad G 119), .int a1, .int a2]).length) Slot.unset).toArray = ls at hl ⊢
  have hP : va_P (xw_D G) xw_cl (xw_W G w0) s.heap := hP
  have hl : lv_has ls 3 [(0, .ref (xw_ad G 119)), (1, .int a1), (2, .int a2)] := hl
  have HH : ∀ (H : Heap) (locs : List Loc) (hP : va_P (xw_D G) xw_cl (xw_W G w0) H) (hS : va_S (xw_A G) s.heap H locs), xw_Wl G p l e (xw_rm (2) (42)) s m args below meth c H locs r0 w0 (F0 m 0 ls []) := by
    intro H locs hP hS
    unfold fX8_read at hf
    refine lv_iload_n hx hb dX8_read_0 rfl (lv_at hl 1 rfl) ?_
    replace hf := xw_bp_e hf
    obtain ⟨r1, he2, hf⟩ := hf
    refine xw_Si hB hK hE hS hP (As := [.int a1]) (rest := []) (kX8_isTape l G hG a1 w0 _ he2) tw_1071 tw_1073 tw_1072 tw_10 1 hs_X8_isTape ⟨Nat.le_of_ble_eq_true rfl, Nat.le_of_ble_eq_true rfl⟩ rfl hl.1 (Nat.le_of_ble_eq_true rfl) rfl dX8_read_1 ⟨Nat.zero_le _, Nat.zero_le _⟩ (fun H locs hP hS => ?_)
    refine lv_if_eq (tgt := 37) hx hb dX8_read_4 (by decide) (fun c3 => ?_) (fun c3 => ?_)
    · replace hf := xw_ip c3 hf
      refine lv_ldc2 (v := (-9223372036854775808)) hx hb hB.2.2.2.1 (hB.2.2.2.2 _ tw_1015) dX8_read_37 ?_
      have h0 := xw_so hf
      have h1 : w0 = w0 := rfl
      exact xw_lret hB hK hE hS hP hr hlk h0 h1 dX8_read_40
    · replace hf := xw_in' c3 hf
      refine lv_iload_n hx hb dX8_read_7 rfl (lv_at hl 2 rfl) ?_
      refine lv_iconst (v := 0) hx hb dX8_read_8 (by decide) ?_
      refine lv_aload_n hx hb dX8_read_9 rfl (lv_at hl 0 rfl) ?_
      refine xw_get hB hK hP (xw_o8 G) (C := RX8) (T := TX8) (N := 31) rfl TBi_X8 28 (by decide) tw_756 rfl rfl dX8_read_10 ?_
      refine lv_iload_n hx hb dX8_read_13 rfl (lv_at hl 1 rfl) ?_
      replace hf := xw_ck_e hf
      obtain ⟨hi4, hf⟩ := hf
      refine xw_ild hB hK hP (xw_k138 G) hi4 dX8_read_14 ?_
      refine lv_iconst (v := 1) hx hb dX8_read_15 (by decide) ?_
      refine lv_isub hx hb dX8_read_16 ?_
      replace hf := xw_bp_e hf
      obtain ⟨r5, he6, hf⟩ := hf
      refine xw_Si hB hK hE hS hP (As := [.int a2, .int (0 : Int32), .int ((w0.1 138 a1.toNatClampNeg) - (1 : Int32))]) (rest := []) (kX8_isIn l G hG a2 (0 : Int32) ((w0.1 138 a1.toNatClampNeg) - (1 : Int32)) w0 _ he6) tw_835 tw_837 tw_836 tw_10 3 hs_X8_isIn ⟨Nat.le_of_ble_eq_true rfl, Nat.le_of_ble_eq_true rfl⟩ rfl hl.1 (Nat.le_of_ble_eq_true rfl) rfl dX8_read_17 ⟨Nat.zero_le _, Nat.zero_le _⟩ (fun H locs hP hS => ?_)
      refine lv_if_eq (tgt := 37) hx hb dX8_read_20 (by decide) (fun c7 => ?_) (fun c7 => ?_)
      · replace hf := xw_ip c7 hf
        refine lv_ldc2 (v := (-9223372036854775808)) hx hb hB.2.2.2.1 (hB.2.2.2.2 _ tw_1015) dX8_read_37 ?_
        have h0 := xw_so hf
        have h1 : w0 = w0 := rfl
        exact xw_lret hB hK hE hS hP hr hlk h0 h1 dX8_read_40
      · replace hf := xw_in' c7 hf
        refine lv_aload_n hx hb dX8_read_23 rfl (lv_at hl 0 rfl) ?_
        refine xw_get hB hK hP (xw_o8 G) (C := RX8) (T := TX8) (N := 31) rfl TBi_X8 29 (by decide) tw_757 rfl rfl dX8_read_24 ?_
        refine lv_bipush (v := 60) hx hb dX8_read_27 (by decide) ?_
        refine lv_iload_n hx hb dX8_read_29 rfl (lv_at hl 1 rfl) ?_
        refine lv_imul hx hb dX8_read_30 ?_
        refine lv_iload_n hx hb dX8_read_31 rfl (lv_at hl 2 rfl) ?_
        refine lv_iadd hx hb dX8_read_32 ?_
        replace hf := xw_ck_e hf
        obtain ⟨hi8, hf⟩ := hf
        refine xw_lld hB hK hP (xw_k139 G) hi8 dX8_read_33 ?_
        refine lv_goto (tgt := 40) hx hb dX8_read_34 (by decide) ?_
        have h0 := xw_so hf
        have h1 : w0 = w0 := rfl
        exact xw_lret hB hK hE hS hP hr hlk h0 h1 dX8_read_40
  exact HH s.heap [] hP hS
def fX8_shift_174 (n : Nat) (a1 : Int32) (a2 : Int32) (a3 : Int32) (a4 : Int32) (a5 : Int32) (w : xw_M) : Option (Int32 × xw_M) := some (a5, w)
def fX8_shift_b139 (n : Nat) (a1 : Int32) (a2 : Int32) (a3 : Int32) (a4 : Int32) (a5 : Int32) (x6 : Int32) (w : xw_M) : Option ((Int32 × xw_M) ⊕ (xw_M)) := if a5 ≤ x6 then some (.inr w) else xw_ck x6 60 (xw_ck ((((60 : Int32) * a3) + a4) + x6) 360 (xw_lt (xw_sl w 139 ((((60 : Int32) * a3) + a4) + x6).toNatClampNeg (w.2 140 x6.toNatClampNeg)) (fun w29 => xw_lt (x6 + 1) (fun x6_30 => some (.inl (x6_30, w29))))))
def fX8_shift_139 (n : Nat) (a1 : Int32) (a2 : Int32) (a3 : Int32) (a4 : Int32) (a5 : Int32) (x6 : Int32) (w : xw_M) : Option (Int32 × xw_M) := xw_bp (xw_it (fun z => fX8_shift_b139 n a1 a2 a3 a4 a5 z.1 z.2) n (x6, w)) (fun z => (fun (w : xw_M) => fX8_shift_174 n a1 a2 a3 a4 a5 w) z)
def fX8_shift_136 (n : Nat) (a1 : Int32) (a2 : Int32) (a3 : Int32) (a4 : Int32) (a5 : Int32) (w : xw_M) : Option (Int32 × xw_M) := fX8_shift_139 n a1 a2 a3 a4 a5 (0 : Int32) w
def fX8_shift_b102 (n : Nat) (a1 : Int32) (a2 : Int32) (a3 : Int32) (a4 : Int32) (a5 : Int32) (x6 : Int32) (w : xw_M) : Option ((Int32 × xw_M) ⊕ (xw_M)) := if a5 ≤ x6 then some (.inr w) else xw_ck ((((60 : Int32) * a1) + a2) + x6) 360 (xw_ck x6 60 (xw_lt (xw_sl w 140 x6.toNatClampNeg (w.2 139 ((((60 : Int32) * a1) + a2) + x6).toNatClampNeg)) (fun w24 => xw_lt (x6 + 1) (fun x6_25 => some (.inl (x6_25, w24))))))
def fX8_shift_102 (n : Nat) (a1 : Int32) (a2 : Int32) (a3 : Int32) (a4 : Int32) (a5 : Int32) (x6 : Int32) (w : xw_M) : Option (Int32 × xw_M) := xw_bp (xw_it (fun z => fX8_shift_b102 n a1 a2 a3 a4 a5 z.1 z.2) n (x6, w)) (fun z => (fun (w : xw_M) => fX8_shift_136 n a1 a2 a3 a4 a5 w) z)
def fX8_shift (n : Nat) (a1 : Int32) (a2 : Int32) (a3 : Int32) (a4 : Int32) (a5 : Int32) (w0 : xw_M) : Option (Int32 × xw_M) := xw_bp (fX8_isTape a1) (fun r1 => if r1 = 0 then some ((-1 : Int32), w0) else xw_bp (fX8_isTape a3) (fun r4 => if r4 = 0 then some ((-1 : Int32), w0) else xw_ck a1 6 (if (w0.1 137 a1.toNatClampNeg) < 0 then some ((-11 : Int32), w0) else xw_ck a3 6 (if 0 ≤ (w0.1 137 a3.toNatClampNeg) then xw_ck a1 6 (xw_ck a3 6 (if (w0.1 137 a1.toNatClampNeg) = (w0.1 137 a3.toNatClampNeg) then if a5 < 0 then some ((-13 : Int32), w0) else if a2 < 0 then some ((-13 : Int32), w0) else if a4 < 0 then some ((-13 : Int32), w0) else xw_ck a1 6 (if ((w0.1 138 a1.toNatClampNeg) - a2) < a5 then some ((-13 : Int32), w0) else xw_ck a3 6 (if a5 ≤ ((w0.1 138 a3.toNatClampNeg) - a4) then fX8_shift_102 n a1 a2 a3 a4 a5 (0 : Int32) w0 else some ((-13 : Int32), w0))) else some ((-12 : Int32), w0))) else some ((-11 : Int32), w0)))))
set_option maxHeartbeats 4000000 in
set_option maxRecDepth 100000 in
theorem kX8_shift (l : Launch) (G : xw_G) (hG : xw_ok G) (n : Nat) (a1 : Int32) (a2 : Int32) (a3 : Int32) (a4 : Int32) (a5 : Int32) (w0 : xw_M) (r0 : Int32) (wz : xw_M) (hf : fX8_shift n a1 a2 a3 a4 a5 w0 = some (r0, wz)) : xw_Ti l G yX8_shift cX8_shift 7 ((Option.some Jvm.ClassFile.FieldType.int)) (2) (42) [.ref (xw_ad G 119), .int a1, .int a2, .int a3, .int a4, .int a5] w0 r0 wz := by
  unfold xw_Ti
  refine Met.ofW (cc := cX8_shift) (maxL := 7) (ret := (Option.some Jvm.ClassFile.FieldType.int)) (by decide) rfl ?_
  intro p e s m args below meth c s₁ B hml hv
  obtain ⟨hargs, hP, hK, hE⟩ := hv
  have hx := B.exec
  have hb := B.bytes
  have hr := B.returns
  have hlk := B.notSynchronized
  have hB : CallFix p m c cX8_shift 7 s args TB RX8 := ⟨hx, hb, hml, findClass_of_methodNamed B.named, fun q h => (atoms_spec (ws := Cond.code yX8_shift cX8_shift 7 ((Option.some Jvm.ClassFile.FieldType.int)) :: TB) B.pre) q (List.mem_cons_of_mem _ h)⟩
  have hS : va_S (xw_A G) s.heap s.heap [] := va_S.rf
  have hl := lv_entry [.ref (xw_ad G 119), .int a1, .int a2, .int a3, .int a4, .int a5] (n := 7) (Nat.le_of_ble_eq_true rfl)
  rw [show entryFrame m args 7 = entryFrame m ([.ref (xw_ad G 119), .int a1, .int a2, .int a3, .int a4, .int a5] : List Value).toArray 7 from by rw [hargs], lg_entry_eq]
  generalize (lg_sl [.ref (xw_ad G 119), .int a1, .int a2, .int a3, .int a4, .int a5] ++ List.replicate (7 - (lg_sl [.ref (xw_ad G 119), .int a1, .int a2, .int a3, .int a4, .int a5]).length) Slot.unset).toArray = ls at hl ⊢
  have hP : va_P (xw_D G) xw_cl (xw_W G w0) s.heap := hP
  have hl : lv_has ls 7 [(0, .ref (xw_ad G 119)), (1, .int a1), (2, .int a2), (3, .int a3), (4, .int a4), (5, .int a5)] := hl
  have HH : ∀ (H : Heap) (locs : List Loc) (hP : va_P (xw_D G) xw_cl (xw_W G w0) H) (hS : va_S (xw_A G) s.heap H locs), xw_Wi G p l e (xw_rm (2) (42)) s m args below meth c H locs r0 wz (F0 m 0 ls []) := by
    intro H locs hP hS
    unfold fX8_shift at hf
    have J174 : ∀ (w : xw_M) (hf : fX8_shift_174 n a1 a2 a3 a4 a5 w = some (r0, wz)) (H : Heap) (locs : List Loc) (ls : Array Slot) (hP : va_P (xw_D G) xw_cl (xw_W G w) H) (hS : va_S (xw_A G) s.heap H locs) (hl : lv_has ls 7 [(5, .int a5)]), xw_Wi G p l e (xw_rm (2) (42)) s m args below meth c H locs r0 wz (F0 m 174 ls []) := by
      intro w hf H locs ls hP hS hl
      unfold fX8_shift_174 at hf
      refine lv_iload hx hb dX8_shift_174 (lv_at hl 0 rfl) ?_
      obtain ⟨h0, h1⟩ := xw_s2 hf
      exact xw_iret hB hK hE hS hP hr hlk h0 h1 dX8_shift_176
    have J139 : ∀ (x6 : Int32) (w : xw_M) (hf : fX8_shift_139 n a1 a2 a3 a4 a5 x6 w = some (r0, wz)) (H : Heap) (locs : List Loc) (ls : Array Slot) (hP : va_P (xw_D G) xw_cl (xw_W G w) H) (hS : va_S (xw_A G) s.heap H locs) (hl : lv_has ls 7 [(0, .ref (xw_ad G 119)), (3, .int a3), (4, .int a4), (5, .int a5), (6, .int x6)]), xw_Wi G p l e (xw_rm (2) (42)) s m args below meth c H locs r0 wz (F0 m 139 ls []) := by
      intro x6 w hf H locs ls hP hS hl
      unfold fX8_shift_139 at hf
      replace hf := xw_bp_e hf
      obtain ⟨bb139, hit139, hfx139⟩ := hf
      have XX139 : ∀ (w : xw_M) (hf : fX8_shift_174 n a1 a2 a3 a4 a5 w = some (r0, wz)) (H : Heap) (locs : List Loc) (ls : Array Slot) (hP : va_P (xw_D G) xw_cl (xw_W G w) H) (hS : va_S (xw_A G) s.heap H locs) (hl : lv_has ls 7 [(5, .int a5)]), xw_Wi G p l e (xw_rm (2) (42)) s m args below meth c H locs r0 wz (F0 m 174 ls []) := by
        intro w hf H locs ls hP hS hl
        exact J174 w hf H locs ls hP hS (lv_sub hl [0] rfl)
      have LL139 : ∀ (nn : Nat) (x6 : Int32) (w : xw_M) (hit : xw_it (fun z => fX8_shift_b139 n a1 a2 a3 a4 a5 z.1 z.2) nn (x6, w) = some bb139) (H : Heap) (locs : List Loc) (ls : Array Slot) (hP : va_P (xw_D G) xw_cl (xw_W G w) H) (hS : va_S (xw_A G) s.heap H locs) (hl : lv_has ls 7 [(0, .ref (xw_ad G 119)), (3, .int a3), (4, .int a4), (5, .int a5), (6, .int x6)]), xw_Wi G p l e (xw_rm (2) (42)) s m args below meth c H locs r0 wz (F0 m 139 ls []) := by
        intro nn
        induction nn with
        | zero => intro x6 w hit; exact (xw_it_0 hit).elim
        | succ nn ih139 =>
          intro x6 w hit H locs ls hP hS hl
          replace hit := xw_it_e hit
          obtain ⟨wv139, hf, hC139, hX139⟩ := hit
          replace hf : fX8_shift_b139 n a1 a2 a3 a4 a5 x6 w = some wv139 := hf
          unfold fX8_shift_b139 at hf
          refine lv_iload hx hb dX8_shift_139 (lv_at hl 4 rfl) ?_
          refine lv_iload hx hb dX8_shift_141 (lv_at hl 3 rfl) ?_
          refine lv_icmp_ge (tgt := 174) hx hb dX8_shift_143 (by decide) (fun c26 => ?_) (fun c26 => ?_)
          · replace hf := xw_ip c26 hf
            have he139 := hX139 _ (xw_so hf).symm
            rw [← he139] at hfx139
            exact XX139 w hfx139 H locs ls hP hS (lv_sub hl [3] rfl)
          · replace hf := xw_in' c26 hf
            refine lv_aload_n hx hb dX8_shift_146 rfl (lv_at hl 0 rfl) ?_
            refine xw_get hB hK hP (xw_o8 G) (C := RX8) (T := TX8) (N := 31) rfl TBi_X8 29 (by decide) tw_757 rfl rfl dX8_shift_147 ?_
            refine lv_bipush (v := 60) hx hb dX8_shift_150 (by decide) ?_
            refine lv_iload_n hx hb dX8_shift_152 rfl (lv_at hl 1 rfl) ?_
            refine lv_imul hx hb dX8_shift_153 ?_
            refine lv_iload hx hb dX8_shift_154 (lv_at hl 2 rfl) ?_
            refine lv_iadd hx hb dX8_shift_156 ?_
            refine lv_iload hx hb dX8_shift_157 (lv_at hl 4 rfl) ?_
            refine lv_iadd hx hb dX8_shift_159 ?_
            refine lv_aload_n hx hb dX8_shift_160 rfl (lv_at hl 0 rfl) ?_
            refine xw_get hB hK hP (xw_o8 G) (C := RX8) (T := TX8) (N := 31) rfl TBi_X8 30 (by decide) tw_758 rfl rfl dX8_shift_161 ?_
            refine lv_iload hx hb dX8_shift_164 (lv_at hl 4 rfl) ?_
            replace hf := xw_ck_e hf
            obtain ⟨hi27, hf⟩ := hf
            refine xw_lld hB hK hP (xw_k140 G) hi27 dX8_shift_166 ?_
            replace hf := xw_ck_e hf
            obtain ⟨hi28, hf⟩ := hf
            refine xw_lst hG hB hK hS hP (xw_k139 G) hi28 dX8_shift_167 (fun w29 ew29 H locs hP hS => ?_)
            replace hf := xw_lt_e ew29 hf
            obtain ⟨x6_30, ex6_30⟩ : ∃ y : Int32, y = x6 + 1 := ⟨_, rfl⟩
            replace hf := xw_lt_e ex6_30 hf
            refine lv_iinc (v := x6_30) (lv' := [(6, .int x6_30), (0, .ref (xw_ad G 119)), (3, .int a3), (4, .int a4), (5, .int a5)]) hx hb dX8_shift_168 hl (k := 4) rfl (by rw [ex6_30]; rfl) (by decide) rfl (fun ls hl => ?_)
            refine lv_goto (tgt := 139) hx hb dX8_shift_171 (by decide) ?_
            have hi := hC139 _ (xw_so hf).symm
            exact ih139 x6_30 w29 hi H locs ls hP hS (lv_sub hl [1, 2, 3, 4, 0] rfl)
      exact LL139 n x6 w hit139 H locs ls hP hS hl
    have J136 : ∀ (w : xw_M) (hf : fX8_shift_136 n a1 a2 a3 a4 a5 w = some (r0, wz)) (H : Heap) (locs : List Loc) (ls : Array Slot) (hP : va_P (xw_D G) xw_cl (xw_W G w) H) (hS : va_S (xw_A G) s.heap H locs) (hl : lv_has ls 7 [(0, .ref (xw_ad G 119)), (3, .int a3), (4, .int a4), (5, .int a5)]), xw_Wi G p l e (xw_rm (2) (42)) s m args below meth c H locs r0 wz (F0 m 136 ls []) := by
      intro w hf H locs ls hP hS hl
      unfold fX8_shift_136 at hf
      refine lv_iconst (v := 0) hx hb dX8_shift_136 (by decide) ?_
      refine lv_istore (lv' := [(6, .int (0 : Int32)), (0, .ref (xw_ad G 119)), (3, .int a3), (4, .int a4), (5, .int a5)]) hx hb dX8_shift_137 hl (by decide) rfl (fun ls hl => ?_)
      exact J139 (0 : Int32) w hf H locs ls hP hS (lv_sub hl [1, 2, 3, 4, 0] rfl)
    have J102 : ∀ (x6 : Int32) (w : xw_M) (hf : fX8_shift_102 n a1 a2 a3 a4 a5 x6 w = some (r0, wz)) (H : Heap) (locs : List Loc) (ls : Array Slot) (hP : va_P (xw_D G) xw_cl (xw_W G w) H) (hS : va_S (xw_A G) s.heap H locs) (hl : lv_has ls 7 [(0, .ref (xw_ad G 119)), (1, .int a1), (2, .int a2), (3, .int a3), (4, .int a4), (5, .int a5), (6, .int x6)]), xw_Wi G p l e (xw_rm (2) (42)) s m args below meth c H locs r0 wz (F0 m 102 ls []) := by
      intro x6 w hf H locs ls hP hS hl
      unfold fX8_shift_102 at hf
      replace hf := xw_bp_e hf
      obtain ⟨bb102, hit102, hfx102⟩ := hf
      have XX102 : ∀ (w : xw_M) (hf : fX8_shift_136 n a1 a2 a3 a4 a5 w = some (r0, wz)) (H : Heap) (locs : List Loc) (ls : Array Slot) (hP : va_P (xw_D G) xw_cl (xw_W G w) H) (hS : va_S (xw_A G) s.heap H locs) (hl : lv_has ls 7 [(0, .ref (xw_ad G 119)), (3, .int a3), (4, .int a4), (5, .int a5)]), xw_Wi G p l e (xw_rm (2) (42)) s m args below meth c H locs r0 wz (F0 m 136 ls []) := by
        intro w hf H locs ls hP hS hl
        exact J136 w hf H locs ls hP hS (lv_sub hl [0, 1, 2, 3] rfl)
      have LL102 : ∀ (nn : Nat) (x6 : Int32) (w : xw_M) (hit : xw_it (fun z => fX8_shift_b102 n a1 a2 a3 a4 a5 z.1 z.2) nn (x6, w) = some bb102) (H : Heap) (locs : List Loc) (ls : Array Slot) (hP : va_P (xw_D G) xw_cl (xw_W G w) H) (hS : va_S (xw_A G) s.heap H locs) (hl : lv_has ls 7 [(0, .ref (xw_ad G 119)), (1, .int a1), (2, .int a2), (3, .int a3), (4, .int a4), (5, .int a5), (6, .int x6)]), xw_Wi G p l e (xw_rm (2) (42)) s m args below meth c H locs r0 wz (F0 m 102 ls []) := by
        intro nn
        induction nn with
        | zero => intro x6 w hit; exact (xw_it_0 hit).elim
        | succ nn ih102 =>
          intro x6 w hit H locs ls hP hS hl
          replace hit := xw_it_e hit
          obtain ⟨wv102, hf, hC102, hX102⟩ := hit
          replace hf : fX8_shift_b102 n a1 a2 a3 a4 a5 x6 w = some wv102 := hf
          unfold fX8_shift_b102 at hf
          refine lv_iload hx hb dX8_shift_102 (lv_at hl 6 rfl) ?_
          refine lv_iload hx hb dX8_shift_104 (lv_at hl 5 rfl) ?_
          refine lv_icmp_ge (tgt := 136) hx hb dX8_shift_106 (by decide) (fun c21 => ?_) (fun c21 => ?_)
          · replace hf := xw_ip c21 hf
            have he102 := hX102 _ (xw_so hf).symm
            rw [← he102] at hfx102
            exact XX102 w hfx102 H locs ls hP hS (lv_sub hl [0, 3, 4, 5] rfl)
          · replace hf := xw_in' c21 hf
            refine lv_aload_n hx hb dX8_shift_109 rfl (lv_at hl 0 rfl) ?_
            refine xw_get hB hK hP (xw_o8 G) (C := RX8) (T := TX8) (N := 31) rfl TBi_X8 30 (by decide) tw_758 rfl rfl dX8_shift_110 ?_
            refine lv_iload hx hb dX8_shift_113 (lv_at hl 6 rfl) ?_
            refine lv_aload_n hx hb dX8_shift_115 rfl (lv_at hl 0 rfl) ?_
            refine xw_get hB hK hP (xw_o8 G) (C := RX8) (T := TX8) (N := 31) rfl TBi_X8 29 (by decide) tw_757 rfl rfl dX8_shift_116 ?_
            refine lv_bipush (v := 60) hx hb dX8_shift_119 (by decide) ?_
            refine lv_iload_n hx hb dX8_shift_121 rfl (lv_at hl 1 rfl) ?_
            refine lv_imul hx hb dX8_shift_122 ?_
            refine lv_iload_n hx hb dX8_shift_123 rfl (lv_at hl 2 rfl) ?_
            refine lv_iadd hx hb dX8_shift_124 ?_
            refine lv_iload hx hb dX8_shift_125 (lv_at hl 6 rfl) ?_
            refine lv_iadd hx hb dX8_shift_127 ?_
            replace hf := xw_ck_e hf
            obtain ⟨hi22, hf⟩ := hf
            refine xw_lld hB hK hP (xw_k139 G) hi22 dX8_shift_128 ?_
            replace hf := xw_ck_e hf
            obtain ⟨hi23, hf⟩ := hf
            refine xw_lst hG hB hK hS hP (xw_k140 G) hi23 dX8_shift_129 (fun w24 ew24 H locs hP hS => ?_)
            replace hf := xw_lt_e ew24 hf
            obtain ⟨x6_25, ex6_25⟩ : ∃ y : Int32, y = x6 + 1 := ⟨_, rfl⟩
            replace hf := xw_lt_e ex6_25 hf
            refine lv_iinc (v := x6_25) (lv' := [(6, .int x6_25), (0, .ref (xw_ad G 119)), (1, .int a1), (2, .int a2), (3, .int a3), (4, .int a4), (5, .int a5)]) hx hb dX8_shift_130 hl (k := 6) rfl (by rw [ex6_25]; rfl) (by decide) rfl (fun ls hl => ?_)
            refine lv_goto (tgt := 102) hx hb dX8_shift_133 (by decide) ?_
            have hi := hC102 _ (xw_so hf).symm
            exact ih102 x6_25 w24 hi H locs ls hP hS (lv_sub hl [1, 2, 3, 4, 5, 6, 0] rfl)
      exact LL102 n x6 w hit102 H locs ls hP hS hl
    refine lv_iload_n hx hb dX8_shift_0 rfl (lv_at hl 1 rfl) ?_
    replace hf := xw_bp_e hf
    obtain ⟨r1, he2, hf⟩ := hf
    refine xw_Si hB hK hE hS hP (As := [.int a1]) (rest := []) (kX8_isTape l G hG a1 w0 _ he2) tw_1071 tw_1073 tw_1072 tw_10 1 hs_X8_isTape ⟨Nat.le_of_ble_eq_true rfl, Nat.le_of_ble_eq_true rfl⟩ rfl hl.1 (Nat.le_of_ble_eq_true rfl) rfl dX8_shift_1 ⟨Nat.zero_le _, Nat.zero_le _⟩ (fun H locs hP hS => ?_)
    refine lv_if_eq (tgt := 14) hx hb dX8_shift_4 (by decide) (fun c3 => ?_) (fun c3 => ?_)
    · replace hf := xw_ip c3 hf
      refine lv_iconst (v := (-1)) hx hb dX8_shift_14 (by decide) ?_
      obtain ⟨h0, h1⟩ := xw_s2 hf
      exact xw_iret hB hK hE hS hP hr hlk h0 h1 dX8_shift_15
    · replace hf := xw_in' c3 hf
      refine lv_iload_n hx hb dX8_shift_7 rfl (lv_at hl 3 rfl) ?_
      replace hf := xw_bp_e hf
      obtain ⟨r4, he5, hf⟩ := hf
      refine xw_Si hB hK hE hS hP (As := [.int a3]) (rest := []) (kX8_isTape l G hG a3 w0 _ he5) tw_1071 tw_1073 tw_1072 tw_10 1 hs_X8_isTape ⟨Nat.le_of_ble_eq_true rfl, Nat.le_of_ble_eq_true rfl⟩ rfl hl.1 (Nat.le_of_ble_eq_true rfl) rfl dX8_shift_8 ⟨Nat.zero_le _, Nat.zero_le _⟩ (fun H locs hP hS => ?_)
      refine lv_if_ne (tgt := 16) hx hb dX8_shift_11 (by decide) (fun c6 => ?_) (fun c6 => ?_)
      · replace hf := xw_in' c6 hf
        refine lv_aload_n hx hb dX8_shift_16 rfl (lv_at hl 0 rfl) ?_
        refine xw_get hB hK hP (xw_o8 G) (C := RX8) (T := TX8) (N := 31) rfl TBi_X8 27 (by decide) tw_755 rfl rfl dX8_shift_17 ?_
        refine lv_iload_n hx hb dX8_shift_20 rfl (lv_at hl 1 rfl) ?_
        replace hf := xw_ck_e hf
        obtain ⟨hi7, hf⟩ := hf
        refine xw_ild hB hK hP (xw_k137 G) hi7 dX8_shift_21 ?_
        refine lv_if_lt (tgt := 34) hx hb dX8_shift_22 (by decide) (fun c8 => ?_) (fun c8 => ?_)
        · replace hf := xw_ip c8 hf
          refine lv_bipush (v := (-11)) hx hb dX8_shift_34 (by decide) ?_
          obtain ⟨h0, h1⟩ := xw_s2 hf
          exact xw_iret hB hK hE hS hP hr hlk h0 h1 dX8_shift_36
        · replace hf := xw_in' c8 hf
          refine lv_aload_n hx hb dX8_shift_25 rfl (lv_at hl 0 rfl) ?_
          refine xw_get hB hK hP (xw_o8 G) (C := RX8) (T := TX8) (N := 31) rfl TBi_X8 27 (by decide) tw_755 rfl rfl dX8_shift_26 ?_
          refine lv_iload_n hx hb dX8_shift_29 rfl (lv_at hl 3 rfl) ?_
          replace hf := xw_ck_e hf
          obtain ⟨hi9, hf⟩ := hf
          refine xw_ild hB hK hP (xw_k137 G) hi9 dX8_shift_30 ?_
          refine lv_if_ge (tgt := 37) hx hb dX8_shift_31 (by decide) (fun c10 => ?_) (fun c10 => ?_)
          · replace hf := xw_ip c10 hf
            refine lv_aload_n hx hb dX8_shift_37 rfl (lv_at hl 0 rfl) ?_
            refine xw_get hB hK hP (xw_o8 G) (C := RX8) (T := TX8) (N := 31) rfl TBi_X8 27 (by decide) tw_755 rfl rfl dX8_shift_38 ?_
            refine lv_iload_n hx hb dX8_shift_41 rfl (lv_at hl 1 rfl) ?_
            replace hf := xw_ck_e hf
            obtain ⟨hi11, hf⟩ := hf
            refine xw_ild hB hK hP (xw_k137 G) hi11 dX8_shift_42 ?_
            refine lv_aload_n hx hb dX8_shift_43 rfl (lv_at hl 0 rfl) ?_
            refine xw_get hB hK hP (xw_o8 G) (C := RX8) (T := TX8) (N := 31) rfl TBi_X8 27 (by decide) tw_755 rfl rfl dX8_shift_44 ?_
            refine lv_iload_n hx hb dX8_shift_47 rfl (lv_at hl 3 rfl) ?_
            replace hf := xw_ck_e hf
            obtain ⟨hi12, hf⟩ := hf
            refine xw_ild hB hK hP (xw_k137 G) hi12 dX8_shift_48 ?_
            refine lv_icmp_eq (tgt := 55) hx hb dX8_shift_49 (by decide) (fun c13 => ?_) (fun c13 => ?_)
            · replace hf := xw_ip c13 hf
              refine lv_iload hx hb dX8_shift_55 (lv_at hl 5 rfl) ?_
              refine lv_if_lt (tgt := 96) hx hb dX8_shift_57 (by decide) (fun c14 => ?_) (fun c14 => ?_)
              · replace hf := xw_ip c14 hf
                refine lv_bipush (v := (-13)) hx hb dX8_shift_96 (by decide) ?_
                obtain ⟨h0, h1⟩ := xw_s2 hf
                exact xw_iret hB hK hE hS hP hr hlk h0 h1 dX8_shift_98
              · replace hf := xw_in' c14 hf
                refine lv_iload_n hx hb dX8_shift_60 rfl (lv_at hl 2 rfl) ?_
                refine lv_if_lt (tgt := 96) hx hb dX8_shift_61 (by decide) (fun c15 => ?_) (fun c15 => ?_)
                · replace hf := xw_ip c15 hf
                  refine lv_bipush (v := (-13)) hx hb dX8_shift_96 (by decide) ?_
                  obtain ⟨h0, h1⟩ := xw_s2 hf
                  exact xw_iret hB hK hE hS hP hr hlk h0 h1 dX8_shift_98
                · replace hf := xw_in' c15 hf
                  refine lv_iload hx hb dX8_shift_64 (lv_at hl 4 rfl) ?_
                  refine lv_if_lt (tgt := 96) hx hb dX8_shift_66 (by decide) (fun c16 => ?_) (fun c16 => ?_)
                  · replace hf := xw_ip c16 hf
                    refine lv_bipush (v := (-13)) hx hb dX8_shift_96 (by decide) ?_
                    obtain ⟨h0, h1⟩ := xw_s2 hf
                    exact xw_iret hB hK hE hS hP hr hlk h0 h1 dX8_shift_98
                  · replace hf := xw_in' c16 hf
                    refine lv_iload hx hb dX8_shift_69 (lv_at hl 5 rfl) ?_
                    refine lv_aload_n hx hb dX8_shift_71 rfl (lv_at hl 0 rfl) ?_
                    refine xw_get hB hK hP (xw_o8 G) (C := RX8) (T := TX8) (N := 31) rfl TBi_X8 28 (by decide) tw_756 rfl rfl dX8_shift_72 ?_
                    refine lv_iload_n hx hb dX8_shift_75 rfl (lv_at hl 1 rfl) ?_
                    replace hf := xw_ck_e hf
                    obtain ⟨hi17, hf⟩ := hf
                    refine xw_ild hB hK hP (xw_k138 G) hi17 dX8_shift_76 ?_
                    refine lv_iload_n hx hb dX8_shift_77 rfl (lv_at hl 2 rfl) ?_
                    refine lv_isub hx hb dX8_shift_78 ?_
                    refine lv_icmp_gt (tgt := 96) hx hb dX8_shift_79 (by decide) (fun c18 => ?_) (fun c18 => ?_)
                    · replace hf := xw_ip c18 hf
                      refine lv_bipush (v := (-13)) hx hb dX8_shift_96 (by decide) ?_
                      obtain ⟨h0, h1⟩ := xw_s2 hf
                      exact xw_iret hB hK hE hS hP hr hlk h0 h1 dX8_shift_98
                    · replace hf := xw_in' c18 hf
                      refine lv_iload hx hb dX8_shift_82 (lv_at hl 5 rfl) ?_
                      refine lv_aload_n hx hb dX8_shift_84 rfl (lv_at hl 0 rfl) ?_
                      refine xw_get hB hK hP (xw_o8 G) (C := RX8) (T := TX8) (N := 31) rfl TBi_X8 28 (by decide) tw_756 rfl rfl dX8_shift_85 ?_
                      refine lv_iload_n hx hb dX8_shift_88 rfl (lv_at hl 3 rfl) ?_
                      replace hf := xw_ck_e hf
                      obtain ⟨hi19, hf⟩ := hf
                      refine xw_ild hB hK hP (xw_k138 G) hi19 dX8_shift_89 ?_
                      refine lv_iload hx hb dX8_shift_90 (lv_at hl 4 rfl) ?_
                      refine lv_isub hx hb dX8_shift_92 ?_
                      refine lv_icmp_le (tgt := 99) hx hb dX8_shift_93 (by decide) (fun c20 => ?_) (fun c20 => ?_)
                      · replace hf := xw_ip c20 hf
                        refine lv_iconst (v := 0) hx hb dX8_shift_99 (by decide) ?_
                        refine lv_istore (lv' := [(6, .int (0 : Int32)), (0, .ref (xw_ad G 119)), (1, .int a1), (2, .int a2), (3, .int a3), (4, .int a4), (5, .int a5)]) hx hb dX8_shift_100 hl (by decide) rfl (fun ls hl => ?_)
                        exact J102 (0 : Int32) w0 hf H locs ls hP hS (lv_sub hl [1, 2, 3, 4, 5, 6, 0] rfl)
                      · replace hf := xw_in' c20 hf
                        refine lv_bipush (v := (-13)) hx hb dX8_shift_96 (by decide) ?_
                        obtain ⟨h0, h1⟩ := xw_s2 hf
                        exact xw_iret hB hK hE hS hP hr hlk h0 h1 dX8_shift_98
            · replace hf := xw_in' c13 hf
              refine lv_bipush (v := (-12)) hx hb dX8_shift_52 (by decide) ?_
              obtain ⟨h0, h1⟩ := xw_s2 hf
              exact xw_iret hB hK hE hS hP hr hlk h0 h1 dX8_shift_54
          · replace hf := xw_in' c10 hf
            refine lv_bipush (v := (-11)) hx hb dX8_shift_34 (by decide) ?_
            obtain ⟨h0, h1⟩ := xw_s2 hf
            exact xw_iret hB hK hE hS hP hr hlk h0 h1 dX8_shift_36
      · replace hf := xw_ip c6 hf
        refine lv_iconst (v := (-1)) hx hb dX8_shift_14 (by decide) ?_
        obtain ⟨h0, h1⟩ := xw_s2 hf
        exact xw_iret hB hK hE hS hP hr hlk h0 h1 dX8_shift_15
  exact HH s.heap [] hP hS
def fX8_judge_110 (n : Nat) (a1 : Int32) (a2 : Int32) (w : xw_M) : Option (Int32 × xw_M) := some ((-5 : Int32), w)
def fX8_judge_b38 (n : Nat) (a1 : Int32) (a2 : Int32) (x3 : Int32) (w : xw_M) : Option ((Int32) ⊕ ((Int32 × xw_M) ⊕ (Unit))) := xw_ck (60 : Int32) 109 (if (w.1 120 (60 : Int32).toNatClampNeg) ≤ x3 then some (.inr (.inr ())) else xw_lt (a2.toInt64 + x3.toInt64) (fun x4_13 => if a2 < 0 then some (.inr (.inl ((100 : Int32) + x3, w))) else xw_ck a1 6 (if (lg_cmp x4_13 ((w.1 138 a1.toNatClampNeg).toInt64)) < 0 then xw_ck (((60 : Int32) * a1) + x4_13.toInt32) 360 (xw_ck x3 6 (if (lg_cmp (w.2 139 (((60 : Int32) * a1) + x4_13.toInt32).toNatClampNeg) ((w.1 132 x3.toNatClampNeg).toInt64)) = 0 then xw_lt (x3 + 1) (fun x3_20 => some (.inl x3_20)) else some (.inr (.inl (x3, w))))) else some (.inr (.inl ((100 : Int32) + x3, w))))))
def fX8_judge_38 (n : Nat) (a1 : Int32) (a2 : Int32) (x3 : Int32) (w : xw_M) : Option (Int32 × xw_M) := xw_bp (xw_it (fun z => fX8_judge_b38 n a1 a2 z w) n x3) (fun z => xw_su z (fun r => some r) (fun _ => fX8_judge_110 n a1 a2 w))
def fX8_judge_32 (n : Nat) (a1 : Int32) (a2 : Int32) (w : xw_M) : Option (Int32 × xw_M) := xw_b (fX8_share n w) (fun (_ : Unit) w9 => fX8_judge_38 n a1 a2 (0 : Int32) w9)
def fX8_judge (n : Nat) (a1 : Int32) (a2 : Int32) (w0 : xw_M) : Option (Int32 × xw_M) := xw_bp (fX8_isTape a1) (fun r1 => if r1 = 0 then some ((-1 : Int32), w0) else xw_ck a1 6 (if (w0.1 137 a1.toNatClampNeg) = (-1 : Int32) then fX8_judge_32 n a1 a2 w0 else xw_ck a1 6 (if (w0.1 137 a1.toNatClampNeg) = (1 : Int32) then fX8_judge_32 n a1 a2 w0 else some ((-12 : Int32), w0))))
set_option maxHeartbeats 4000000 in
set_option maxRecDepth 100000 in
theorem kX8_judge (l : Launch) (G : xw_G) (hG : xw_ok G) (n : Nat) (a1 : Int32) (a2 : Int32) (w0 : xw_M) (r0 : Int32) (wz : xw_M) (hf : fX8_judge n a1 a2 w0 = some (r0, wz)) : xw_Ti l G yX8_judge cX8_judge 6 ((Option.some Jvm.ClassFile.FieldType.int)) (32) (700) [.ref (xw_ad G 119), .int a1, .int a2] w0 r0 wz := by
  unfold xw_Ti
  refine Met.ofW (cc := cX8_judge) (maxL := 6) (ret := (Option.some Jvm.ClassFile.FieldType.int)) (by decide) rfl ?_
  intro p e s m args below meth c s₁ B hml hv
  obtain ⟨hargs, hP, hK, hE⟩ := hv
  have hx := B.exec
  have hb := B.bytes
  have hr := B.returns
  have hlk := B.notSynchronized
  have hB : CallFix p m c cX8_judge 6 s args TB RX8 := ⟨hx, hb, hml, findClass_of_methodNamed B.named, fun q h => (atoms_spec (ws := Cond.code yX8_judge cX8_judge 6 ((Option.some Jvm.ClassFile.FieldType.int)) :: TB) B.pre) q (List.mem_cons_of_mem _ h)⟩
  have hS : va_S (xw_A G) s.heap s.heap [] := va_S.rf
  have hl := lv_entry [.ref (xw_ad G 119), .int a1, .int a2] (n := 6) (Nat.le_of_ble_eq_true rfl)
  rw [show entryFrame m args 6 = entryFrame m ([.ref (xw_ad G 119), .int a1, .int a2] : List Value).toArray 6 from by rw [hargs], lg_entry_eq]
  generalize (lg_sl [.ref (xw_ad G 119), .int a1, .int a2] ++ List.replicate (6 - (lg_sl [.ref (xw_ad G 119), .int a1, .int a2]).length) Slot.unset).toArray = ls at hl ⊢
  have hP : va_P (xw_D G) xw_cl (xw_W G w0) s.heap := hP
  have hl : lv_has ls 6 [(0, .ref (xw_ad G 119)), (1, .int a1), (2, .int a2)] := hl
  have HH : ∀ (H : Heap) (locs : List Loc) (hP : va_P (xw_D G) xw_cl (xw_W G w0) H) (hS : va_S (xw_A G) s.heap H locs), xw_Wi G p l e (xw_rm (32) (700)) s m args below meth c H locs r0 wz (F0 m 0 ls []) := by
    intro H locs hP hS
    unfold fX8_judge at hf
    have J110 : ∀ (w : xw_M) (hf : fX8_judge_110 n a1 a2 w = some (r0, wz)) (H : Heap) (locs : List Loc) (ls : Array Slot) (hP : va_P (xw_D G) xw_cl (xw_W G w) H) (hS : va_S (xw_A G) s.heap H locs) (hl : lv_has ls 6 []), xw_Wi G p l e (xw_rm (32) (700)) s m args below meth c H locs r0 wz (F0 m 110 ls []) := by
      intro w hf H locs ls hP hS hl
      unfold fX8_judge_110 at hf
      refine lv_bipush (v := (-5)) hx hb dX8_judge_110 (by decide) ?_
      obtain ⟨h0, h1⟩ := xw_s2 hf
      exact xw_iret hB hK hE hS hP hr hlk h0 h1 dX8_judge_112
    have J38 : ∀ (x3 : Int32) (w : xw_M) (hf : fX8_judge_38 n a1 a2 x3 w = some (r0, wz)) (H : Heap) (locs : List Loc) (ls : Array Slot) (hP : va_P (xw_D G) xw_cl (xw_W G w) H) (hS : va_S (xw_A G) s.heap H locs) (hl : lv_has ls 6 [(0, .ref (xw_ad G 119)), (1, .int a1), (2, .int a2), (3, .int x3)]), xw_Wi G p l e (xw_rm (32) (700)) s m args below meth c H locs r0 wz (F0 m 38 ls []) := by
      intro x3 w hf H locs ls hP hS hl
      unfold fX8_judge_38 at hf
      replace hf := xw_bp_e hf
      obtain ⟨bb38, hit38, hfx38⟩ := hf
      have XX38 : ∀ (hf : fX8_judge_110 n a1 a2 w = some (r0, wz)) (H : Heap) (locs : List Loc) (ls : Array Slot) (hP : va_P (xw_D G) xw_cl (xw_W G w) H) (hS : va_S (xw_A G) s.heap H locs) (hl : lv_has ls 6 []), xw_Wi G p l e (xw_rm (32) (700)) s m args below meth c H locs r0 wz (F0 m 110 ls []) := by
        intro hf H locs ls hP hS hl
        exact J110 w hf H locs ls hP hS (lv_sub hl [] rfl)
      have LL38 : ∀ (nn : Nat) (x3 : Int32) (hit : xw_it (fun z => fX8_judge_b38 n a1 a2 z w) nn x3 = some bb38) (H : Heap) (locs : List Loc) (ls : Array Slot) (hP : va_P (xw_D G) xw_cl (xw_W G w) H) (hS : va_S (xw_A G) s.heap H locs) (hl : lv_has ls 6 [(0, .ref (xw_ad G 119)), (1, .int a1), (2, .int a2), (3, .int x3)]), xw_Wi G p l e (xw_rm (32) (700)) s m args below meth c H locs r0 wz (F0 m 38 ls []) := by
        intro nn
        induction nn with
        | zero => intro x3 hit; exact (xw_it_0 hit).elim
        | succ nn ih38 =>
          intro x3 hit H locs ls hP hS hl
          replace hit := xw_it_e hit
          obtain ⟨wv38, hf, hC38, hX38⟩ := hit
          replace hf : fX8_judge_b38 n a1 a2 x3 w = some wv38 := hf
          unfold fX8_judge_b38 at hf
          refine lv_iload_n hx hb dX8_judge_38 rfl (lv_at hl 3 rfl) ?_
          refine lv_aload_n hx hb dX8_judge_39 rfl (lv_at hl 0 rfl) ?_
          refine xw_get hB hK hP (xw_o8 G) (C := RX8) (T := TX8) (N := 31) rfl TBi_X8 0 (by decide) tw_728 rfl rfl dX8_judge_40 ?_
          refine lv_bipush (v := 60) hx hb dX8_judge_43 (by decide) ?_
          replace hf := xw_ck_e hf
          obtain ⟨hi11, hf⟩ := hf
          refine xw_ild hB hK hP (xw_k120 G) hi11 dX8_judge_45 ?_
          refine lv_icmp_ge (tgt := 110) hx hb dX8_judge_46 (by decide) (fun c12 => ?_) (fun c12 => ?_)
          · replace hf := xw_ip c12 hf
            have he38 := hX38 _ (xw_so hf).symm
            rw [← he38] at hfx38
            exact XX38  hfx38 H locs ls hP hS (lv_sub hl [] rfl)
          · replace hf := xw_in' c12 hf
            refine lv_iload_n hx hb dX8_judge_49 rfl (lv_at hl 2 rfl) ?_
            refine lv_i2l hx hb dX8_judge_50 rfl ?_
            refine lv_iload_n hx hb dX8_judge_51 rfl (lv_at hl 3 rfl) ?_
            refine lv_i2l hx hb dX8_judge_52 rfl ?_
            refine lv_ladd hx hb dX8_judge_53 ?_
            refine lv_topl (fun x4_13 ex4_13 => ?_)
            replace hf := xw_lt_e ex4_13 hf
            refine lv_lstore (lv' := [(4, .long x4_13), (0, .ref (xw_ad G 119)), (1, .int a1), (2, .int a2), (3, .int x3)]) hx hb dX8_judge_54 hl (by decide) rfl (fun ls hl => ?_)
            refine lv_iload_n hx hb dX8_judge_56 rfl (lv_at hl 3 rfl) ?_
            refine lv_if_lt (tgt := 73) hx hb dX8_judge_57 (by decide) (fun c14 => ?_) (fun c14 => ?_)
            · replace hf := xw_ip c14 hf
              refine lv_bipush (v := 100) hx hb dX8_judge_73 (by decide) ?_
              refine lv_iload_n hx hb dX8_judge_75 rfl (lv_at hl 4 rfl) ?_
              refine lv_iadd hx hb dX8_judge_76 ?_
              have he38 := hX38 _ (xw_so hf).symm
              rw [← he38] at hfx38
              replace hfx38 : some ((100 : Int32) + x3, w) = some (r0, wz) := hfx38
              obtain ⟨h0, h1⟩ := xw_s2 hfx38
              exact xw_iret hB hK hE hS hP hr hlk h0 h1 dX8_judge_77
            · replace hf := xw_in' c14 hf
              refine lv_lload hx hb dX8_judge_60 (lv_at hl 0 rfl) ?_
              refine lv_aload_n hx hb dX8_judge_62 rfl (lv_at hl 1 rfl) ?_
              refine xw_get hB hK hP (xw_o8 G) (C := RX8) (T := TX8) (N := 31) rfl TBi_X8 28 (by decide) tw_756 rfl rfl dX8_judge_63 ?_
              refine lv_iload_n hx hb dX8_judge_66 rfl (lv_at hl 2 rfl) ?_
              replace hf := xw_ck_e hf
              obtain ⟨hi15, hf⟩ := hf
              refine xw_ild hB hK hP (xw_k138 G) hi15 dX8_judge_67 ?_
              refine lv_i2l hx hb dX8_judge_68 rfl ?_
              refine W.lcmp hx hb dX8_judge_69 ?_
              refine lv_if_lt (tgt := 78) hx hb dX8_judge_70 (by decide) (fun c16 => ?_) (fun c16 => ?_)
              · replace hf := xw_ip c16 hf
                refine lv_aload_n hx hb dX8_judge_78 rfl (lv_at hl 1 rfl) ?_
                refine xw_get hB hK hP (xw_o8 G) (C := RX8) (T := TX8) (N := 31) rfl TBi_X8 29 (by decide) tw_757 rfl rfl dX8_judge_79 ?_
                refine lv_bipush (v := 60) hx hb dX8_judge_82 (by decide) ?_
                refine lv_iload_n hx hb dX8_judge_84 rfl (lv_at hl 2 rfl) ?_
                refine lv_imul hx hb dX8_judge_85 ?_
                refine lv_lload hx hb dX8_judge_86 (lv_at hl 0 rfl) ?_
                refine lv_l2i hx hb dX8_judge_88 rfl ?_
                refine lv_iadd hx hb dX8_judge_89 ?_
                replace hf := xw_ck_e hf
                obtain ⟨hi17, hf⟩ := hf
                refine xw_lld hB hK hP (xw_k139 G) hi17 dX8_judge_90 ?_
                refine lv_aload_n hx hb dX8_judge_91 rfl (lv_at hl 1 rfl) ?_
                refine xw_get hB hK hP (xw_o8 G) (C := RX8) (T := TX8) (N := 31) rfl TBi_X8 21 (by decide) tw_749 rfl rfl dX8_judge_92 ?_
                refine lv_iload_n hx hb dX8_judge_95 rfl (lv_at hl 4 rfl) ?_
                replace hf := xw_ck_e hf
                obtain ⟨hi18, hf⟩ := hf
                refine xw_ild hB hK hP (xw_k132 G) hi18 dX8_judge_96 ?_
                refine lv_i2l hx hb dX8_judge_97 rfl ?_
                refine W.lcmp hx hb dX8_judge_98 ?_
                refine lv_if_eq (tgt := 104) hx hb dX8_judge_99 (by decide) (fun c19 => ?_) (fun c19 => ?_)
                · replace hf := xw_ip c19 hf
                  obtain ⟨x3_20, ex3_20⟩ : ∃ y : Int32, y = x3 + 1 := ⟨_, rfl⟩
                  replace hf := xw_lt_e ex3_20 hf
                  refine lv_iinc (v := x3_20) (lv' := [(3, .int x3_20), (4, .long x4_13), (0, .ref (xw_ad G 119)), (1, .int a1), (2, .int a2)]) hx hb dX8_judge_104 hl (k := 4) rfl (by rw [ex3_20]; rfl) (by decide) rfl (fun ls hl => ?_)
                  refine lv_goto (tgt := 38) hx hb dX8_judge_107 (by decide) ?_
                  have hi := hC38 _ (xw_so hf).symm
                  exact ih38 x3_20 hi H locs ls hP hS (lv_sub hl [2, 3, 4, 0] rfl)
                · replace hf := xw_in' c19 hf
                  refine lv_iload_n hx hb dX8_judge_102 rfl (lv_at hl 4 rfl) ?_
                  have he38 := hX38 _ (xw_so hf).symm
                  rw [← he38] at hfx38
                  replace hfx38 : some (x3, w) = some (r0, wz) := hfx38
                  obtain ⟨h0, h1⟩ := xw_s2 hfx38
                  exact xw_iret hB hK hE hS hP hr hlk h0 h1 dX8_judge_103
              · replace hf := xw_in' c16 hf
                refine lv_bipush (v := 100) hx hb dX8_judge_73 (by decide) ?_
                refine lv_iload_n hx hb dX8_judge_75 rfl (lv_at hl 4 rfl) ?_
                refine lv_iadd hx hb dX8_judge_76 ?_
                have he38 := hX38 _ (xw_so hf).symm
                rw [← he38] at hfx38
                replace hfx38 : some ((100 : Int32) + x3, w) = some (r0, wz) := hfx38
                obtain ⟨h0, h1⟩ := xw_s2 hfx38
                exact xw_iret hB hK hE hS hP hr hlk h0 h1 dX8_judge_77
      exact LL38 n x3 hit38 H locs ls hP hS hl
    have J32 : ∀ (w : xw_M) (hf : fX8_judge_32 n a1 a2 w = some (r0, wz)) (H : Heap) (locs : List Loc) (ls : Array Slot) (hP : va_P (xw_D G) xw_cl (xw_W G w) H) (hS : va_S (xw_A G) s.heap H locs) (hl : lv_has ls 6 [(0, .ref (xw_ad G 119)), (1, .int a1), (2, .int a2)]), xw_Wi G p l e (xw_rm (32) (700)) s m args below meth c H locs r0 wz (F0 m 32 ls []) := by
      intro w hf H locs ls hP hS hl
      unfold fX8_judge_32 at hf
      refine lv_aload_n hx hb dX8_judge_32 rfl (lv_at hl 0 rfl) ?_
      replace hf := xw_b_e hf
      obtain ⟨r8, w9, he10, hf⟩ := hf
      refine xw_Vv hB hK hE hS hP (As := []) (rest := []) (kX8_share l G hG n w _ _ he10) gs_X8_104 (xw_rc hK hP (C := RX8) (T := TX8) (N := 31) (xw_o8 G) rfl) 0 hv_X8_share ⟨Nat.le_of_ble_eq_true rfl, Nat.le_of_ble_eq_true rfl⟩ rfl hl.1 (Nat.le_of_ble_eq_true rfl) rfl dX8_judge_33 ⟨Nat.zero_le _, Nat.zero_le _⟩ (fun H locs hP hS => ?_)
      refine lv_iconst (v := 0) hx hb dX8_judge_36 (by decide) ?_
      refine lv_istore_n (lv' := [(3, .int (0 : Int32)), (0, .ref (xw_ad G 119)), (1, .int a1), (2, .int a2)]) hx hb dX8_judge_37 rfl hl (by decide) rfl (fun ls hl => ?_)
      exact J38 (0 : Int32) w9 hf H locs ls hP hS (lv_sub hl [1, 2, 3, 0] rfl)
    refine lv_iload_n hx hb dX8_judge_0 rfl (lv_at hl 1 rfl) ?_
    replace hf := xw_bp_e hf
    obtain ⟨r1, he2, hf⟩ := hf
    refine xw_Si hB hK hE hS hP (As := [.int a1]) (rest := []) (kX8_isTape l G hG a1 w0 _ he2) tw_1071 tw_1073 tw_1072 tw_10 1 hs_X8_isTape ⟨Nat.le_of_ble_eq_true rfl, Nat.le_of_ble_eq_true rfl⟩ rfl hl.1 (Nat.le_of_ble_eq_true rfl) rfl dX8_judge_1 ⟨Nat.zero_le _, Nat.zero_le _⟩ (fun H locs hP hS => ?_)
    refine lv_if_ne (tgt := 9) hx hb dX8_judge_4 (by decide) (fun c3 => ?_) (fun c3 => ?_)
    · replace hf := xw_in' c3 hf
      refine lv_aload_n hx hb dX8_judge_9 rfl (lv_at hl 0 rfl) ?_
      refine xw_get hB hK hP (xw_o8 G) (C := RX8) (T := TX8) (N := 31) rfl TBi_X8 27 (by decide) tw_755 rfl rfl dX8_judge_10 ?_
      refine lv_iload_n hx hb dX8_judge_13 rfl (lv_at hl 1 rfl) ?_
      replace hf := xw_ck_e hf
      obtain ⟨hi4, hf⟩ := hf
      refine xw_ild hB hK hP (xw_k137 G) hi4 dX8_judge_14 ?_
      refine lv_iconst (v := (-1)) hx hb dX8_judge_15 (by decide) ?_
      refine lv_icmp_eq (tgt := 32) hx hb dX8_judge_16 (by decide) (fun c5 => ?_) (fun c5 => ?_)
      · replace hf := xw_ip c5 hf
        exact J32 w0 hf H locs ls hP hS (lv_sub hl [0, 1, 2] rfl)
      · replace hf := xw_in' c5 hf
        refine lv_aload_n hx hb dX8_judge_19 rfl (lv_at hl 0 rfl) ?_
        refine xw_get hB hK hP (xw_o8 G) (C := RX8) (T := TX8) (N := 31) rfl TBi_X8 27 (by decide) tw_755 rfl rfl dX8_judge_20 ?_
        refine lv_iload_n hx hb dX8_judge_23 rfl (lv_at hl 1 rfl) ?_
        replace hf := xw_ck_e hf
        obtain ⟨hi6, hf⟩ := hf
        refine xw_ild hB hK hP (xw_k137 G) hi6 dX8_judge_24 ?_
        refine lv_iconst (v := 1) hx hb dX8_judge_25 (by decide) ?_
        refine lv_icmp_eq (tgt := 32) hx hb dX8_judge_26 (by decide) (fun c7 => ?_) (fun c7 => ?_)
        · replace hf := xw_ip c7 hf
          exact J32 w0 hf H locs ls hP hS (lv_sub hl [0, 1, 2] rfl)
        · replace hf := xw_in' c7 hf
          refine lv_bipush (v := (-12)) hx hb dX8_judge_29 (by decide) ?_
          obtain ⟨h0, h1⟩ := xw_s2 hf
          exact xw_iret hB hK hE hS hP hr hlk h0 h1 dX8_judge_31
    · replace hf := xw_ip c3 hf
      refine lv_iconst (v := (-1)) hx hb dX8_judge_7 (by decide) ?_
      obtain ⟨h0, h1⟩ := xw_s2 hf
      exact xw_iret hB hK hE hS hP hr hlk h0 h1 dX8_judge_8
  exact HH s.heap [] hP hS
