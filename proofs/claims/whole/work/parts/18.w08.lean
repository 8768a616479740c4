def fX7_tape (n : Nat) (a1 : Int32) (a2 : Int32) (a3 : Int32) (w0 : xw_M) : Option (Int32 × xw_M) := xw_bp (fX7_tapeAt a1 w0) (fun r1 => xw_om r1 (some ((-1 : Int32), w0)) (fun t3 => xw_cc (xw_tp t3) (if a2 = (-1 : Int32) then xw_b (fX6_become n t3 (-1 : Int32) (0 : Int32) w0) (fun (_ : Unit) w15 => some ((1 : Int32), w15)) else xw_bp (fX7_within a2 (4 : Int32)) (fun r6 => if r6 = 0 then some ((-2 : Int32), w0) else if a3 ≤ (60 : Int32) then if 0 ≤ a3 then xw_b (fX6_become n t3 a2 a3 w0) (fun (_ : Unit) w12 => some ((1 : Int32), w12)) else some ((-14 : Int32), w0) else some ((-2 : Int32), w0)))))
set_option maxHeartbeats 4000000 in
set_option maxRecDepth 100000 in
theorem kX7_tape (l : Launch) (G : xw_G) (hG : xw_ok G) (n : Nat) (a1 : Int32) (a2 : Int32) (a3 : Int32) (w0 : xw_M) (r0 : Int32) (wz : xw_M) (hf : fX7_tape n a1 a2 a3 w0 = some (r0, wz)) : xw_Ti l G yX7_tape cX7_tape 5 ((Option.some Jvm.ClassFile.FieldType.int)) (2) (83) [.ref (xw_ad G 0), .int a1, .int a2, .int a3] w0 r0 wz := by
  unfold xw_Ti
  refine Met.ofW (cc := cX7_tape) (maxL := 5) (ret := (Option.some Jvm.ClassFile.FieldType.int)) (by decide) rfl ?_
  intro p e s m args below meth c s₁ B hml hv
  obtain ⟨hargs, hP, hK, hE⟩ := hv
  have hx := B.exec
  have hb := B.bytes
  have hr := B.returns
  have hlk := B.notSynchronized
  have hB : CallFix p m c cX7_tape 5 s args TB RX7 := ⟨hx, hb, hml, findClass_of_methodNamed B.named, fun q h => (atoms_spec (ws := Cond.code yX7_tape cX7_tape 5 ((Option.some Jvm.ClassFile.FieldType.int)) :: TB) B.pre) q (List.mem_cons_of_mem _ h)⟩
  have hS : va_S (xw_A G) s.heap s.heap [] := va_S.rf
  have hl := lv_entry [.ref (xw_ad G 0), .int a1, .int a2, .int a3] (n := 5) (Nat.le_of_ble_eq_true rfl)
  rw [show entryFrame m args 5 = entryFrame m ([.ref (xw_ad G 0), .int a1, .int a2, .int a3] : List Value).toArray 5 from by rw [hargs], lg_entry_eq]
  generalize (lg_sl [.ref (xw_ad G 0), .int a1, .int a2, .int a3] ++ List.replicate (5 - (lg_sl [.ref (xw_ad G 0), .int a1, .int a2, .int a3]).length) Slot.unset).toArray = ls at hl ⊢
  have hP : va_P (xw_D G) xw_cl (xw_W G w0) s.heap := hP
  have hl : lv_has ls 5 [(0, .ref (xw_ad G 0)), (1, .int a1), (2, .int a2), (3, .int a3)] := hl
  have HH : ∀ (H : Heap) (locs : List Loc) (hP : va_P (xw_D G) xw_cl (xw_W G w0) H) (hS : va_S (xw_A G) s.heap H locs), xw_Wi G p l e (xw_rm (2) (83)) s m args below meth c H locs r0 wz (F0 m 0 ls []) := by
    intro H locs hP hS
    unfold fX7_tape at hf
    refine lv_aload_n hx hb dX7_tape_0 rfl (lv_at hl 0 rfl) ?_
    refine lv_iload_n hx hb dX7_tape_1 rfl (lv_at hl 1 rfl) ?_
    replace hf := xw_bp_e hf
    obtain ⟨r1, he2, hf⟩ := hf
    refine xw_Vq hB hK hE hS hP (As := [.int a1]) (rest := []) (kX7_tapeAt l G hG a1 w0 _ he2) gs_X7_237 (xw_rc hK hP (C := RX7) (T := TX7) (N := 11) (xw_o7 G) rfl) 1 hv_X7_tapeAt ⟨Nat.le_of_ble_eq_true rfl, Nat.le_of_ble_eq_true rfl⟩ rfl hl.1 (Nat.le_of_ble_eq_true rfl) rfl dX7_tape_2 ⟨Nat.zero_le _, Nat.zero_le _⟩ (fun H locs hP hS => ?_)
    cases r1 with
    | none =>
      replace hf := xw_om_n hf
      refine lv_astoreN (lv' := [(4, .null), (0, .ref (xw_ad G 0)), (1, .int a1), (2, .int a2), (3, .int a3)]) hx hb dX7_tape_5 hl (by decide) rfl (fun ls hl => ?_)
      refine lv_aloadN hx hb dX7_tape_7 (lv_at hl 0 rfl) ?_
      refine lv_ifnonnullN hx hb dX7_tape_9 ?_
      refine lv_iconst (v := (-1)) hx hb dX7_tape_12 (by decide) ?_
      obtain ⟨h0, h1⟩ := xw_s2 hf
      exact xw_iret hB hK hE hS hP hr hlk h0 h1 dX7_tape_13
    | some t3 =>
      replace hf := xw_om_s hf
      replace hf := xw_cc_e hf
      obtain ⟨ht4, hf⟩ := hf
      refine lv_astore (lv' := [(4, .ref (xw_ad G t3)), (0, .ref (xw_ad G 0)), (1, .int a1), (2, .int a2), (3, .int a3)]) hx hb dX7_tape_5 hl (by decide) rfl (fun ls hl => ?_)
      refine lv_aload hx hb dX7_tape_7 (lv_at hl 0 rfl) ?_
      refine lv_ifnonnull (tgt := 14) hx hb dX7_tape_9 (by decide) ?_
      refine lv_iload_n hx hb dX7_tape_14 rfl (lv_at hl 3 rfl) ?_
      refine lv_iconst (v := (-1)) hx hb dX7_tape_15 (by decide) ?_
      refine lv_icmp_ne (tgt := 28) hx hb dX7_tape_16 (by decide) (fun c5 => ?_) (fun c5 => ?_)
      · replace hf := xw_in' c5 hf
        refine lv_iload_n hx hb dX7_tape_28 rfl (lv_at hl 3 rfl) ?_
        refine lv_iconst (v := 4) hx hb dX7_tape_29 (by decide) ?_
        replace hf := xw_bp_e hf
        obtain ⟨r6, he7, hf⟩ := hf
        refine xw_Si hB hK hE hS hP (As := [.int a2, .int (4 : Int32)]) (rest := []) (kX7_within l G hG a2 (4 : Int32) w0 _ he7) tw_293 tw_295 tw_294 tw_1 2 hs_X7_within ⟨Nat.le_of_ble_eq_true rfl, Nat.le_of_ble_eq_true rfl⟩ rfl hl.1 (Nat.le_of_ble_eq_true rfl) rfl dX7_tape_30 ⟨Nat.zero_le _, Nat.zero_le _⟩ (fun H locs hP hS => ?_)
        refine lv_if_eq (tgt := 42) hx hb dX7_tape_33 (by decide) (fun c8 => ?_) (fun c8 => ?_)
        · replace hf := xw_ip c8 hf
          refine lv_bipush (v := (-2)) hx hb dX7_tape_42 (by decide) ?_
          obtain ⟨h0, h1⟩ := xw_s2 hf
          exact xw_iret hB hK hE hS hP hr hlk h0 h1 dX7_tape_44
        · replace hf := xw_in' c8 hf
          refine lv_iload_n hx hb dX7_tape_36 rfl (lv_at hl 4 rfl) ?_
          refine lv_bipush (v := 60) hx hb dX7_tape_37 (by decide) ?_
          refine lv_icmp_le (tgt := 45) hx hb dX7_tape_39 (by decide) (fun c9 => ?_) (fun c9 => ?_)
          · replace hf := xw_ip c9 hf
            refine lv_iload_n hx hb dX7_tape_45 rfl (lv_at hl 4 rfl) ?_
            refine lv_if_ge (tgt := 52) hx hb dX7_tape_46 (by decide) (fun c10 => ?_) (fun c10 => ?_)
            · replace hf := xw_ip c10 hf
              refine lv_aload hx hb dX7_tape_52 (lv_at hl 0 rfl) ?_
              refine lv_iload_n hx hb dX7_tape_54 rfl (lv_at hl 3 rfl) ?_
              refine lv_iload_n hx hb dX7_tape_55 rfl (lv_at hl 4 rfl) ?_
              replace hf := xw_b_e hf
              obtain ⟨r11, w12, he13, hf⟩ := hf
              refine xw_Vv hB hK hE hS hP (As := [.int a2, .int a3]) (rest := []) (kX6_become l G hG n t3 a2 a3 ht4 w0 _ _ he13) gs_X7_280 (xw_rc hK hP (C := RX6) (T := TX6) (N := 3) (xw_o6 G ht4) rfl) 2 hv_X6_become ⟨Nat.le_of_ble_eq_true rfl, Nat.le_of_ble_eq_true rfl⟩ rfl hl.1 (Nat.le_of_ble_eq_true rfl) rfl dX7_tape_56 ⟨Nat.zero_le _, Nat.zero_le _⟩ (fun H locs hP hS => ?_)
              refine lv_iconst (v := 1) hx hb dX7_tape_59 (by decide) ?_
              obtain ⟨h0, h1⟩ := xw_s2 hf
              exact xw_iret hB hK hE hS hP hr hlk h0 h1 dX7_tape_60
            · replace hf := xw_in' c10 hf
              refine lv_bipush (v := (-14)) hx hb dX7_tape_49 (by decide) ?_
              obtain ⟨h0, h1⟩ := xw_s2 hf
              exact xw_iret hB hK hE hS hP hr hlk h0 h1 dX7_tape_51
          · replace hf := xw_in' c9 hf
            refine lv_bipush (v := (-2)) hx hb dX7_tape_42 (by decide) ?_
            obtain ⟨h0, h1⟩ := xw_s2 hf
            exact xw_iret hB hK hE hS hP hr hlk h0 h1 dX7_tape_44
      · replace hf := xw_ip c5 hf
        refine lv_aload hx hb dX7_tape_19 (lv_at hl 0 rfl) ?_
        refine lv_iconst (v := (-1)) hx hb dX7_tape_21 (by decide) ?_
        refine lv_iconst (v := 0) hx hb dX7_tape_22 (by decide) ?_
        replace hf := xw_b_e hf
        obtain ⟨r14, w15, he16, hf⟩ := hf
        refine xw_Vv hB hK hE hS hP (As := [.int (-1 : Int32), .int (0 : Int32)]) (rest := []) (kX6_become l G hG n t3 (-1 : Int32) (0 : Int32) ht4 w0 _ _ he16) gs_X7_280 (xw_rc hK hP (C := RX6) (T := TX6) (N := 3) (xw_o6 G ht4) rfl) 2 hv_X6_become ⟨Nat.le_of_ble_eq_true rfl, Nat.le_of_ble_eq_true rfl⟩ rfl hl.1 (Nat.le_of_ble_eq_true rfl) rfl dX7_tape_23 ⟨Nat.zero_le _, Nat.zero_le _⟩ (fun H locs hP hS => ?_)
        refine lv_iconst (v := 1) hx hb dX7_tape_26 (by decide) ?_
        obtain ⟨h0, h1⟩ := xw_s2 hf
        exact xw_iret hB hK hE hS hP hr hlk h0 h1 dX7_tape_27
  exact HH s.heap [] hP hS
def fX6_fitted (b : Nat) (a1 : Int64) (w0 : xw_M) : Option Int64 := if (w0.1 b 0) = 0 then some a1.toInt32.toInt8.toInt32.toInt64 else (if (w0.1 b 0) = 1 then some a1.toInt32.toInt16.toInt32.toInt64 else (if (w0.1 b 0) = 2 then some a1.toInt32.toInt64 else (if (w0.1 b 0) = 3 then some a1 else (if (w0.1 b 0) = 4 then if (lg_cmp a1 (0 : Int64)) = 0 then some (0 : Int64) else some (1 : Int64) else (some a1)))))
set_option maxHeartbeats 4000000 in
set_option maxRecDepth 100000 in
theorem kX6_fitted (l : Launch) (G : xw_G) (hG : xw_ok G) (b : Nat) (a1 : Int64) (hb0 : xw_tp b) (w0 : xw_M) (r0 : Int64) (hf : fX6_fitted b a1 w0 = some r0) : xw_Tl l G yX6_fitted cX6_fitted 3 ((Option.some Jvm.ClassFile.FieldType.long)) (0) (0) [.ref (xw_ad G b), .long a1] w0 r0 w0 := by
  unfold xw_Tl
  refine Met.ofW (cc := cX6_fitted) (maxL := 3) (ret := (Option.some Jvm.ClassFile.FieldType.long)) (by decide) rfl ?_
  intro p e s m args below meth c s₁ B hml hv
  obtain ⟨hargs, hP, hK, hE⟩ := hv
  have hx := B.exec
  have hb := B.bytes
  have hr := B.returns
  have hlk := B.notSynchronized
  have hB : CallFix p m c cX6_fitted 3 s args TB RX6 := ⟨hx, hb, hml, findClass_of_methodNamed B.named, fun q h => (atoms_spec (ws := Cond.code yX6_fitted cX6_fitted 3 ((Option.some Jvm.ClassFile.FieldType.long)) :: TB) B.pre) q (List.mem_cons_of_mem _ h)⟩
  have hS : va_S (xw_A G) s.heap s.heap [] := va_S.rf
  have hl := lv_entry [.ref (xw_ad G b), .long a1] (n := 3) (Nat.le_of_ble_eq_true rfl)
  rw [show entryFrame m args 3 = entryFrame m ([.ref (xw_ad G b), .long a1] : List Value).toArray 3 from by rw [hargs], lg_entry_eq]
  generalize (lg_sl [.ref (xw_ad G b), .long a1] ++ List.replicate (3 - (lg_sl [.ref (xw_ad G b), .long a1]).length) Slot.unset).toArray = ls at hl ⊢
  have hP : va_P (xw_D G) xw_cl (xw_W G w0) s.heap := hP
  have hl : lv_has ls 3 [(0, .ref (xw_ad G b)), (1, .long a1)] := hl
  have HH : ∀ (H : Heap) (locs : List Loc) (hP : va_P (xw_D G) xw_cl (xw_W G w0) H) (hS : va_S (xw_A G) s.heap H locs), xw_Wl G p l e (xw_rm (0) (0)) s m args below meth c H locs r0 w0 (F0 m 0 ls []) := by
    intro H locs hP hS
    unfold fX6_fitted at hf
    refine lv_aload_n hx hb dX6_fitted_0 rfl (lv_at hl 0 rfl) ?_
    refine xw_get hB hK hP (xw_o6 G hb0) (C := RX6) (T := TX6) (N := 3) rfl TBi_X6 0 (by decide) tw_241 rfl rfl dX6_fitted_1 ?_
    by_cases c1 : (w0.1 b 0) = 0
    · refine lv_tableIn (off := 36) (tgt := 40) hx hb dX6_fitted_4 (by rw [c1]; decide) (by rw [c1]; decide) (by rw [c1]; rfl) (by decide) ?_
      replace hf := xw_ip c1 hf
      refine lv_lload_n hx hb dX6_fitted_40 rfl (lv_at hl 1 rfl) ?_
      refine lv_l2i hx hb dX6_fitted_41 rfl ?_
      refine lv_i2b hx hb dX6_fitted_42 rfl ?_
      refine lv_i2l hx hb dX6_fitted_43 rfl ?_
      have h0 := xw_so hf
      have h1 : w0 = w0 := rfl
      exact xw_lret hB hK hE hS hP hr hlk h0 h1 dX6_fitted_44
    · replace hf := xw_in' c1 hf
      by_cases c2 : (w0.1 b 0) = 1
      · refine lv_tableIn (off := 41) (tgt := 45) hx hb dX6_fitted_4 (by rw [c2]; decide) (by rw [c2]; decide) (by rw [c2]; rfl) (by decide) ?_
        replace hf := xw_ip c2 hf
        refine lv_lload_n hx hb dX6_fitted_45 rfl (lv_at hl 1 rfl) ?_
        refine lv_l2i hx hb dX6_fitted_46 rfl ?_
        refine lv_i2s hx hb dX6_fitted_47 rfl ?_
        refine lv_i2l hx hb dX6_fitted_48 rfl ?_
        have h0 := xw_so hf
        have h1 : w0 = w0 := rfl
        exact xw_lret hB hK hE hS hP hr hlk h0 h1 dX6_fitted_49
      · replace hf := xw_in' c2 hf
        by_cases c3 : (w0.1 b 0) = 2
        · refine lv_tableIn (off := 46) (tgt := 50) hx hb dX6_fitted_4 (by rw [c3]; decide) (by rw [c3]; decide) (by rw [c3]; rfl) (by decide) ?_
          replace hf := xw_ip c3 hf
          refine lv_lload_n hx hb dX6_fitted_50 rfl (lv_at hl 1 rfl) ?_
          refine lv_l2i hx hb dX6_fitted_51 rfl ?_
          refine lv_i2l hx hb dX6_fitted_52 rfl ?_
          have h0 := xw_so hf
          have h1 : w0 = w0 := rfl
          exact xw_lret hB hK hE hS hP hr hlk h0 h1 dX6_fitted_53
        · replace hf := xw_in' c3 hf
          by_cases c4 : (w0.1 b 0) = 3
          · refine lv_tableIn (off := 62) (tgt := 66) hx hb dX6_fitted_4 (by rw [c4]; decide) (by rw [c4]; decide) (by rw [c4]; rfl) (by decide) ?_
            replace hf := xw_ip c4 hf
            refine lv_lload_n hx hb dX6_fitted_66 rfl (lv_at hl 1 rfl) ?_
            have h0 := xw_so hf
            have h1 : w0 = w0 := rfl
            exact xw_lret hB hK hE hS hP hr hlk h0 h1 dX6_fitted_67
          · replace hf := xw_in' c4 hf
            by_cases c6 : (w0.1 b 0) = 4
            · refine lv_tableIn (off := 50) (tgt := 54) hx hb dX6_fitted_4 (by rw [c6]; decide) (by rw [c6]; decide) (by rw [c6]; rfl) (by decide) ?_
              replace hf := xw_ip c6 hf
              refine lv_lload_n hx hb dX6_fitted_54 rfl (lv_at hl 1 rfl) ?_
              refine lv_lconst (v := 0) hx hb dX6_fitted_55 (by decide) ?_
              refine W.lcmp hx hb dX6_fitted_56 ?_
              refine lv_if_eq (tgt := 64) hx hb dX6_fitted_57 (by decide) (fun c5 => ?_) (fun c5 => ?_)
              · replace hf := xw_ip c5 hf
                refine lv_lconst (v := 0) hx hb dX6_fitted_64 (by decide) ?_
                have h0 := xw_so hf
                have h1 : w0 = w0 := rfl
                exact xw_lret hB hK hE hS hP hr hlk h0 h1 dX6_fitted_65
              · replace hf := xw_in' c5 hf
                refine lv_lconst (v := 1) hx hb dX6_fitted_60 (by decide) ?_
                refine lv_goto (tgt := 65) hx hb dX6_fitted_61 (by decide) ?_
                have h0 := xw_so hf
                have h1 : w0 = w0 := rfl
                exact xw_lret hB hK hE hS hP hr hlk h0 h1 dX6_fitted_65
            · replace hf := xw_in' c6 hf
              refine lv_tableOut (tgt := 66) hx hb dX6_fitted_4 (by have n0 := lv_neT c1 (by decide : (0 : Int32).toInt = 0); have n1 := lv_neT c2 (by decide : (1 : Int32).toInt = 1); have n2 := lv_neT c3 (by decide : (2 : Int32).toInt = 2); have n3 := lv_neT c4 (by decide : (3 : Int32).toInt = 3); have n4 := lv_neT c6 (by decide : (4 : Int32).toInt = 4); omega) (by decide) ?_
              refine lv_lload_n hx hb dX6_fitted_66 rfl (lv_at hl 1 rfl) ?_
              have h0 := xw_so hf
              have h1 : w0 = w0 := rfl
              exact xw_lret hB hK hE hS hP hr hlk h0 h1 dX6_fitted_67
  exact HH s.heap [] hP hS
def fX6_store (b : Nat) (a1 : Int32) (a2 : Int64) (w0 : xw_M) : Option (Int32 × xw_M) := if a1 < 0 then some ((0 : Int32), w0) else if (w0.1 b 1) ≤ a1 then some ((0 : Int32), w0) else if a1 < (nI 60) then xw_bp (fX6_fitted b a2 w0) (fun r4 => xw_ck a1 60 (xw_lt (xw_sl w0 (b + 1) a1.toNatClampNeg r4) (fun w7 => some ((1 : Int32), w7)))) else some ((0 : Int32), w0)
set_option maxHeartbeats 4000000 in
set_option maxRecDepth 100000 in
theorem kX6_store (l : Launch) (G : xw_G) (hG : xw_ok G) (b : Nat) (a1 : Int32) (a2 : Int64) (hb0 : xw_tp b) (w0 : xw_M) (r0 : Int32) (wz : xw_M) (hf : fX6_store b a1 a2 w0 = some (r0, wz)) : xw_Ti l G yX6_store cX6_store 4 ((Option.some Jvm.ClassFile.FieldType.boolean)) (1) (22) [.ref (xw_ad G b), .int a1, .long a2] w0 r0 wz := by
  unfold xw_Ti
  refine Met.ofW (cc := cX6_store) (maxL := 4) (ret := (Option.some Jvm.ClassFile.FieldType.boolean)) (by decide) rfl ?_
  intro p e s m args below meth c s₁ B hml hv
  obtain ⟨hargs, hP, hK, hE⟩ := hv
  have hx := B.exec
  have hb := B.bytes
  have hr := B.returns
  have hlk := B.notSynchronized
  have hB : CallFix p m c cX6_store 4 s args TB RX6 := ⟨hx, hb, hml, findClass_of_methodNamed B.named, fun q h => (atoms_spec (ws := Cond.code yX6_store cX6_store 4 ((Option.some Jvm.ClassFile.FieldType.boolean)) :: TB) B.pre) q (List.mem_cons_of_mem _ h)⟩
  have hS : va_S (xw_A G) s.heap s.heap [] := va_S.rf
  have hl := lv_entry [.ref (xw_ad G b), .int a1, .long a2] (n := 4) (Nat.le_of_ble_eq_true rfl)
  rw [show entryFrame m args 4 = entryFrame m ([.ref (xw_ad G b), .int a1, .long a2] : List Value).toArray 4 from by rw [hargs], lg_entry_eq]
  generalize (lg_sl [.ref (xw_ad G b), .int a1, .long a2] ++ List.replicate (4 - (lg_sl [.ref (xw_ad G b), .int a1, .long a2]).length) Slot.unset).toArray = ls at hl ⊢
  have hP : va_P (xw_D G) xw_cl (xw_W G w0) s.heap := hP
  have hl : lv_has ls 4 [(0, .ref (xw_ad G b)), (1, .int a1), (2, .long a2)] := hl
  have HH : ∀ (H : Heap) (locs : List Loc) (hP : va_P (xw_D G) xw_cl (xw_W G w0) H) (hS : va_S (xw_A G) s.heap H locs), xw_Wi G p l e (xw_rm (1) (22)) s m args below meth c H locs r0 wz (F0 m 0 ls []) := by
    intro H locs hP hS
    unfold fX6_store at hf
    refine lv_iload_n hx hb dX6_store_0 rfl (lv_at hl 1 rfl) ?_
    refine lv_if_lt (tgt := 21) hx hb dX6_store_1 (by decide) (fun c1 => ?_) (fun c1 => ?_)
    · replace hf := xw_ip c1 hf
      refine lv_iconst (v := 0) hx hb dX6_store_21 (by decide) ?_
      obtain ⟨h0, h1⟩ := xw_s2 hf
      exact xw_zret hB hK hE hS hP hr hlk rfl h0 h1 dX6_store_22
    · replace hf := xw_in' c1 hf
      refine lv_iload_n hx hb dX6_store_4 rfl (lv_at hl 1 rfl) ?_
      refine lv_aload_n hx hb dX6_store_5 rfl (lv_at hl 0 rfl) ?_
      refine xw_get hB hK hP (xw_o6 G hb0) (C := RX6) (T := TX6) (N := 3) rfl TBi_X6 1 (by decide) tw_243 rfl rfl dX6_store_6 ?_
      refine lv_icmp_ge (tgt := 21) hx hb dX6_store_9 (by decide) (fun c2 => ?_) (fun c2 => ?_)
      · replace hf := xw_ip c2 hf
        refine lv_iconst (v := 0) hx hb dX6_store_21 (by decide) ?_
        obtain ⟨h0, h1⟩ := xw_s2 hf
        exact xw_zret hB hK hE hS hP hr hlk rfl h0 h1 dX6_store_22
      · replace hf := xw_in' c2 hf
        refine lv_iload_n hx hb dX6_store_12 rfl (lv_at hl 1 rfl) ?_
        refine lv_aload_n hx hb dX6_store_13 rfl (lv_at hl 0 rfl) ?_
        refine xw_get hB hK hP (xw_o6 G hb0) (C := RX6) (T := TX6) (N := 3) rfl TBi_X6 2 (by decide) tw_245 rfl rfl dX6_store_14 ?_
        refine xw_llen hB hK hP (xw_a6_1 G hb0) dX6_store_17 ?_
        refine lv_icmp_lt (tgt := 23) hx hb dX6_store_18 (by decide) (fun c3 => ?_) (fun c3 => ?_)
        · replace hf := xw_ip c3 hf
          refine lv_aload_n hx hb dX6_store_23 rfl (lv_at hl 0 rfl) ?_
          refine xw_get hB hK hP (xw_o6 G hb0) (C := RX6) (T := TX6) (N := 3) rfl TBi_X6 2 (by decide) tw_245 rfl rfl dX6_store_24 ?_
          refine lv_iload_n hx hb dX6_store_27 rfl (lv_at hl 1 rfl) ?_
          refine lv_aload_n hx hb dX6_store_28 rfl (lv_at hl 0 rfl) ?_
          refine lv_lload_n hx hb dX6_store_29 rfl (lv_at hl 2 rfl) ?_
          replace hf := xw_bp_e hf
          obtain ⟨r4, he5, hf⟩ := hf
          refine xw_Vl hB hK hE hS hP (As := [.long a2]) (rest := [.int a1, .ref (xw_ad G (b + 1))]) (kX6_fitted l G hG b a2 hb0 w0 _ he5) gs_X6_30 (xw_rc hK hP (C := RX6) (T := TX6) (N := 3) (xw_o6 G hb0) rfl) 1 hv_X6_fitted ⟨Nat.le_of_ble_eq_true rfl, Nat.le_of_ble_eq_true rfl⟩ rfl hl.1 (Nat.le_of_ble_eq_true rfl) rfl dX6_store_30 ⟨Nat.zero_le _, Nat.zero_le _⟩ (fun H locs hP hS => ?_)
          replace hf := xw_ck_e hf
          obtain ⟨hi6, hf⟩ := hf
          refine xw_lst hG hB hK hS hP (xw_a6_1 G hb0) hi6 dX6_store_33 (fun w7 ew7 H locs hP hS => ?_)
          replace hf := xw_lt_e ew7 hf
          refine lv_iconst (v := 1) hx hb dX6_store_34 (by decide) ?_
          obtain ⟨h0, h1⟩ := xw_s2 hf
          exact xw_zret hB hK hE hS hP hr hlk rfl h0 h1 dX6_store_35
        · replace hf := xw_in' c3 hf
          refine lv_iconst (v := 0) hx hb dX6_store_21 (by decide) ?_
          obtain ⟨h0, h1⟩ := xw_s2 hf
          exact xw_zret hB hK hE hS hP hr hlk rfl h0 h1 dX6_store_22
  exact HH s.heap [] hP hS
def fX7_item (a1 : Int32) (a2 : Int32) (a3 : Int64) (w0 : xw_M) : Option (Int32 × xw_M) := xw_bp (fX7_tapeAt a1 w0) (fun r1 => xw_om r1 (some ((-1 : Int32), w0)) (fun t3 => xw_cc (xw_tp t3) (xw_bp (fX6_holdsRow t3 w0) (fun r5 => if r5 = 0 then some ((-11 : Int32), w0) else xw_b (fX6_store t3 a2 a3 w0) (fun r8 w9 => if r8 = 0 then some ((-13 : Int32), w9) else some ((1 : Int32), w9))))))
set_option maxHeartbeats 4000000 in
set_option maxRecDepth 100000 in
theorem kX7_item (l : Launch) (G : xw_G) (hG : xw_ok G) (a1 : Int32) (a2 : Int32) (a3 : Int64) (w0 : xw_M) (r0 : Int32) (wz : xw_M) (hf : fX7_item a1 a2 a3 w0 = some (r0, wz)) : xw_Ti l G yX7_item cX7_item 6 ((Option.some Jvm.ClassFile.FieldType.int)) (2) (45) [.ref (xw_ad G 0), .int a1, .int a2, .long a3] w0 r0 wz := by
  unfold xw_Ti
  refine Met.ofW (cc := cX7_item) (maxL := 6) (ret := (Option.some Jvm.ClassFile.FieldType.int)) (by decide) rfl ?_
  intro p e s m args below meth c s₁ B hml hv
  obtain ⟨hargs, hP, hK, hE⟩ := hv
  have hx := B.exec
  have hb := B.bytes
  have hr := B.returns
  have hlk := B.notSynchronized
  have hB : CallFix p m c cX7_item 6 s args TB RX7 := ⟨hx, hb, hml, findClass_of_methodNamed B.named, fun q h => (atoms_spec (ws := Cond.code yX7_item cX7_item 6 ((Option.some Jvm.ClassFile.FieldType.int)) :: TB) B.pre) q (List.mem_cons_of_mem _ h)⟩
  have hS : va_S (xw_A G) s.heap s.heap [] := va_S.rf
  have hl := lv_entry [.ref (xw_ad G 0), .int a1, .int a2, .long a3] (n := 6) (Nat.le_of_ble_eq_true rfl)
  rw [show entryFrame m args 6 = entryFrame m ([.ref (xw_ad G 0), .int a1, .int a2, .long a3] : List Value).toArray 6 from by rw [hargs], lg_entry_eq]
  generalize (lg_sl [.ref (xw_ad G 0), .int a1, .int a2, .long a3] ++ List.replicate (6 - (lg_sl [.ref (xw_ad G 0), .int a1, .int a2, .long a3]).length) Slot.unset).toArray = ls at hl ⊢
  have hP : va_P (xw_D G) xw_cl (xw_W G w0) s.heap := hP
  have hl : lv_has ls 6 [(0, .ref (xw_ad G 0)), (1, .int a1), (2, .int a2), (3, .long a3)] := hl
  have HH : ∀ (H : Heap) (locs : List Loc) (hP : va_P (xw_D G) xw_cl (xw_W G w0) H) (hS : va_S (xw_A G) s.heap H locs), xw_Wi G p l e (xw_rm (2) (45)) s m args below meth c H locs r0 wz (F0 m 0 ls []) := by
    intro H locs hP hS
    unfold fX7_item at hf
    refine lv_aload_n hx hb dX7_item_0 rfl (lv_at hl 0 rfl) ?_
    refine lv_iload_n hx hb dX7_item_1 rfl (lv_at hl 1 rfl) ?_
    replace hf := xw_bp_e hf
    obtain ⟨r1, he2, hf⟩ := hf
    refine xw_Vq hB hK hE hS hP (As := [.int a1]) (rest := []) (kX7_tapeAt l G hG a1 w0 _ he2) gs_X7_237 (xw_rc hK hP (C := RX7) (T := TX7) (N := 11) (xw_o7 G) rfl) 1 hv_X7_tapeAt ⟨Nat.le_of_ble_eq_true rfl, Nat.le_of_ble_eq_true rfl⟩ rfl hl.1 (Nat.le_of_ble_eq_true rfl) rfl dX7_item_2 ⟨Nat.zero_le _, Nat.zero_le _⟩ (fun H locs hP hS => ?_)
    cases r1 with
    | none =>
      replace hf := xw_om_n hf
      refine lv_astoreN (lv' := [(5, .null), (0, .ref (xw_ad G 0)), (1, .int a1), (2, .int a2), (3, .long a3)]) hx hb dX7_item_5 hl (by decide) rfl (fun ls hl => ?_)
      refine lv_aloadN hx hb dX7_item_7 (lv_at hl 0 rfl) ?_
      refine lv_ifnonnullN hx hb dX7_item_9 ?_
      refine lv_iconst (v := (-1)) hx hb dX7_item_12 (by decide) ?_
      obtain ⟨h0, h1⟩ := xw_s2 hf
      exact xw_iret hB hK hE hS hP hr hlk h0 h1 dX7_item_13
    | some t3 =>
      replace hf := xw_om_s hf
      replace hf := xw_cc_e hf
      obtain ⟨ht4, hf⟩ := hf
      refine lv_astore (lv' := [(5, .ref (xw_ad G t3)), (0, .ref (xw_ad G 0)), (1, .int a1), (2, .int a2), (3, .long a3)]) hx hb dX7_item_5 hl (by decide) rfl (fun ls hl => ?_)
      refine lv_aload hx hb dX7_item_7 (lv_at hl 0 rfl) ?_
      refine lv_ifnonnull (tgt := 14) hx hb dX7_item_9 (by decide) ?_
      refine lv_aload hx hb dX7_item_14 (lv_at hl 0 rfl) ?_
      replace hf := xw_bp_e hf
      obtain ⟨r5, he6, hf⟩ := hf
      refine xw_Vi hB hK hE hS hP (As := []) (rest := []) (kX6_holdsRow l G hG t3 ht4 w0 _ he6) gs_X7_241 (xw_rc hK hP (C := RX6) (T := TX6) (N := 3) (xw_o6 G ht4) rfl) 0 hv_X6_holdsRow ⟨Nat.le_of_ble_eq_true rfl, Nat.le_of_ble_eq_true rfl⟩ rfl hl.1 (Nat.le_of_ble_eq_true rfl) rfl dX7_item_16 ⟨Nat.zero_le _, Nat.zero_le _⟩ (fun H locs hP hS => ?_)
      refine lv_if_ne (tgt := 25) hx hb dX7_item_19 (by decide) (fun c7 => ?_) (fun c7 => ?_)
      · replace hf := xw_in' c7 hf
        refine lv_aload hx hb dX7_item_25 (lv_at hl 0 rfl) ?_
        refine lv_iload_n hx hb dX7_item_27 rfl (lv_at hl 3 rfl) ?_
        refine lv_lload_n hx hb dX7_item_28 rfl (lv_at hl 4 rfl) ?_
        replace hf := xw_b_e hf
        obtain ⟨r8, w9, he10, hf⟩ := hf
        refine xw_Vi hB hK hE hS hP (As := [.int a2, .long a3]) (rest := []) (kX6_store l G hG t3 a2 a3 ht4 w0 _ _ he10) gs_X7_283 (xw_rc hK hP (C := RX6) (T := TX6) (N := 3) (xw_o6 G ht4) rfl) 2 hv_X6_store ⟨Nat.le_of_ble_eq_true rfl, Nat.le_of_ble_eq_true rfl⟩ rfl hl.1 (Nat.le_of_ble_eq_true rfl) rfl dX7_item_29 ⟨Nat.zero_le _, Nat.zero_le _⟩ (fun H locs hP hS => ?_)
        refine lv_if_eq (tgt := 39) hx hb dX7_item_32 (by decide) (fun c11 => ?_) (fun c11 => ?_)
        · replace hf := xw_ip c11 hf
          refine lv_bipush (v := (-13)) hx hb dX7_item_39 (by decide) ?_
          obtain ⟨h0, h1⟩ := xw_s2 hf
          exact xw_iret hB hK hE hS hP hr hlk h0 h1 dX7_item_41
        · replace hf := xw_in' c11 hf
          refine lv_iconst (v := 1) hx hb dX7_item_35 (by decide) ?_
          refine lv_goto (tgt := 41) hx hb dX7_item_36 (by decide) ?_
          obtain ⟨h0, h1⟩ := xw_s2 hf
          exact xw_iret hB hK hE hS hP hr hlk h0 h1 dX7_item_41
      · replace hf := xw_ip c7 hf
        refine lv_bipush (v := (-11)) hx hb dX7_item_22 (by decide) ?_
        obtain ⟨h0, h1⟩ := xw_s2 hf
        exact xw_iret hB hK hE hS hP hr hlk h0 h1 dX7_item_24
  exact HH s.heap [] hP hS
def fX7_read (a1 : Int32) (a2 : Int32) (w0 : xw_M) : Option Int64 := xw_bp (fX7_tapeAt a1 w0) (fun r1 => xw_om r1 (some (-9223372036854775808 : Int64)) (fun t3 => xw_cc (xw_tp t3) (xw_bp (fX6_itemAt t3 a2 w0) (fun r5 => some r5))))
set_option maxHeartbeats 4000000 in
set_option maxRecDepth 100000 in
theorem kX7_read (l : Launch) (G : xw_G) (hG : xw_ok G) (a1 : Int32) (a2 : Int32) (w0 : xw_M) (r0 : Int64) (hf : fX7_read a1 a2 w0 = some r0) : xw_Tl l G yX7_read cX7_read 4 ((Option.some Jvm.ClassFile.FieldType.long)) (1) (21) [.ref (xw_ad G 0), .int a1, .int a2] w0 r0 w0 := by
  unfold xw_Tl
  refine Met.ofW (cc := cX7_read) (maxL := 4) (ret := (Option.some Jvm.ClassFile.FieldType.long)) (by decide) rfl ?_
  intro p e s m args below meth c s₁ B hml hv
  obtain ⟨hargs, hP, hK, hE⟩ := hv
  have hx := B.exec
  have hb := B.bytes
  have hr := B.returns
  have hlk := B.notSynchronized
  have hB : CallFix p m c cX7_read 4 s args TB RX7 := ⟨hx, hb, hml, findClass_of_methodNamed B.named, fun q h => (atoms_spec (ws := Cond.code yX7_read cX7_read 4 ((Option.some Jvm.ClassFile.FieldType.long)) :: TB) B.pre) q (List.mem_cons_of_mem _ h)⟩
  have hS : va_S (xw_A G) s.heap s.heap [] := va_S.rf
  have hl := lv_entry [.ref (xw_ad G 0), .int a1, .int a2] (n := 4) (Nat.le_of_ble_eq_true rfl)
  rw [show entryFrame m args 4 = entryFrame m ([.ref (xw_ad G 0), .int a1, .int a2] : List Value).toArray 4 from by rw [hargs], lg_entry_eq]
  generalize (lg_sl [.ref (xw_ad G 0), .int a1, .int a2] ++ List.replicate (4 - (lg_sl [.ref (xw_ad G 0), .int a1, .int a2]).length) Slot.unset).toArray = ls at hl ⊢
  have hP : va_P (xw_D G) xw_cl (xw_W G w0) s.heap := hP
  have hl : lv_has ls 4 [(0, .ref (xw_ad G 0)), (1, .int a1), (2, .int a2)] := hl
  have HH : ∀ (H : Heap) (locs : List Loc) (hP : va_P (xw_D G) xw_cl (xw_W G w0) H) (hS : va_S (xw_A G) s.heap H locs), xw_Wl G p l e (xw_rm (1) (21)) s m args below meth c H locs r0 w0 (F0 m 0 ls []) := by
    intro H locs hP hS
    unfold fX7_read at hf
    refine lv_aload_n hx hb dX7_read_0 rfl (lv_at hl 0 rfl) ?_
    refine lv_iload_n hx hb dX7_read_1 rfl (lv_at hl 1 rfl) ?_
    replace hf := xw_bp_e hf
    obtain ⟨r1, he2, hf⟩ := hf
    refine xw_Vq hB hK hE hS hP (As := [.int a1]) (rest := []) (kX7_tapeAt l G hG a1 w0 _ he2) gs_X7_237 (xw_rc hK hP (C := RX7) (T := TX7) (N := 11) (xw_o7 G) rfl) 1 hv_X7_tapeAt ⟨Nat.le_of_ble_eq_true rfl, Nat.le_of_ble_eq_true rfl⟩ rfl hl.1 (Nat.le_of_ble_eq_true rfl) rfl dX7_read_2 ⟨Nat.zero_le _, Nat.zero_le _⟩ (fun H locs hP hS => ?_)
    cases r1 with
    | none =>
      replace hf := xw_om_n hf
      refine lv_astore_nN (lv' := [(3, .null), (0, .ref (xw_ad G 0)), (1, .int a1), (2, .int a2)]) hx hb dX7_read_5 rfl hl (by decide) rfl (fun ls hl => ?_)
      refine lv_aload_nN hx hb dX7_read_6 rfl (lv_at hl 0 rfl) ?_
      refine lv_ifnonnullN hx hb dX7_read_7 ?_
      refine lv_ldc2 (v := (-9223372036854775808)) hx hb hB.2.2.2.1 (hB.2.2.2.2 _ tw_595) dX7_read_10 ?_
      refine lv_goto (tgt := 21) hx hb dX7_read_13 (by decide) ?_
      have h0 := xw_so hf
      have h1 : w0 = w0 := rfl
      exact xw_lret hB hK hE hS hP hr hlk h0 h1 dX7_read_21
    | some t3 =>
      replace hf := xw_om_s hf
      replace hf := xw_cc_e hf
      obtain ⟨ht4, hf⟩ := hf
      refine lv_astore_n (lv' := [(3, .ref (xw_ad G t3)), (0, .ref (xw_ad G 0)), (1, .int a1), (2, .int a2)]) hx hb dX7_read_5 rfl hl (by decide) rfl (fun ls hl => ?_)
      refine lv_aload_n hx hb dX7_read_6 rfl (lv_at hl 0 rfl) ?_
      refine lv_ifnonnull (tgt := 16) hx hb dX7_read_7 (by decide) ?_
      refine lv_aload_n hx hb dX7_read_16 rfl (lv_at hl 0 rfl) ?_
      refine lv_iload_n hx hb dX7_read_17 rfl (lv_at hl 3 rfl) ?_
      replace hf := xw_bp_e hf
      obtain ⟨r5, he6, hf⟩ := hf
      refine xw_Vl hB hK hE hS hP (As := [.int a2]) (rest := []) (kX6_itemAt l G hG t3 a2 ht4 w0 _ he6) gs_X7_251 (xw_rc hK hP (C := RX6) (T := TX6) (N := 3) (xw_o6 G ht4) rfl) 1 hv_X6_itemAt ⟨Nat.le_of_ble_eq_true rfl, Nat.le_of_ble_eq_true rfl⟩ rfl hl.1 (Nat.le_of_ble_eq_true rfl) rfl dX7_read_18 ⟨Nat.zero_le _, Nat.zero_le _⟩ (fun H locs hP hS => ?_)
      have h0 := xw_so hf
      have h1 : w0 = w0 := rfl
      exact xw_lret hB hK hE hS hP hr hlk h0 h1 dX7_read_21
  exact HH s.heap [] hP hS
def fX6_hasPlaces (b : Nat) (a1 : Int32) (a2 : Int32) (w0 : xw_M) : Option Int32 := if a2 < 0 then some (0 : Int32) else if a1 < 0 then some (0 : Int32) else if (w0.1 b 1) < a2 then some (0 : Int32) else if ((w0.1 b 1) - a2) < a1 then some (0 : Int32) else some (1 : Int32)
set_option maxHeartbeats 4000000 in
set_option maxRecDepth 100000 in
theorem kX6_hasPlaces (l : Launch) (G : xw_G) (hG : xw_ok G) (b : Nat) (a1 : Int32) (a2 : Int32) (hb0 : xw_tp b) (w0 : xw_M) (r0 : Int32) (hf : fX6_hasPlaces b a1 a2 w0 = some r0) : xw_Ti l G yX6_hasPlaces cX6_hasPlaces 3 ((Option.some Jvm.ClassFile.FieldType.boolean)) (0) (0) [.ref (xw_ad G b), .int a1, .int a2] w0 r0 w0 := by
  unfold xw_Ti
  refine Met.ofW (cc := cX6_hasPlaces) (maxL := 3) (ret := (Option.some Jvm.ClassFile.FieldType.boolean)) (by decide) rfl ?_
  intro p e s m args below meth c s₁ B hml hv
  obtain ⟨hargs, hP, hK, hE⟩ := hv
  have hx := B.exec
  have hb := B.bytes
  have hr := B.returns
  have hlk := B.notSynchronized
  have hB : CallFix p m c cX6_hasPlaces 3 s args TB RX6 := ⟨hx, hb, hml, findClass_of_methodNamed B.named, fun q h => (atoms_spec (ws := Cond.code yX6_hasPlaces cX6_hasPlaces 3 ((Option.some Jvm.ClassFile.FieldType.boolean)) :: TB) B.pre) q (List.mem_cons_of_mem _ h)⟩
  have hS : va_S (xw_A G) s.heap s.heap [] := va_S.rf
  have hl := lv_entry [.ref (xw_ad G b), .int a1, .int a2] (n := 3) (Nat.le_of_ble_eq_true rfl)
  rw [show entryFrame m args 3 = entryFrame m ([.ref (xw_ad G b), .int a1, .int a2] : List Value).toArray 3 from by rw [hargs], lg_entry_eq]
  generalize (lg_sl [.ref (xw_ad G b), .int a1, .int a2] ++ List.replicate (3 - (lg_sl [.ref (xw_ad G b), .int a1, .int a2]).length) Slot.unset).toArray = ls at hl ⊢
  have hP : va_P (xw_D G) xw_cl (xw_W G w0) s.heap := hP
  have hl : lv_has ls 3 [(0, .ref (xw_ad G b)), (1, .int a1), (2, .int a2)] := hl
  have HH : ∀ (H : Heap) (locs : List Loc) (hP : va_P (xw_D G) xw_cl (xw_W G w0) H) (hS : va_S (xw_A G) s.heap H locs), xw_Wi G p l e (xw_rm (0) (0)) s m args below meth c H locs r0 w0 (F0 m 0 ls []) := by
    intro H locs hP hS
    unfold fX6_hasPlaces at hf
    refine lv_iload_n hx hb dX6_hasPlaces_0 rfl (lv_at hl 2 rfl) ?_
    refine lv_if_lt (tgt := 30) hx hb dX6_hasPlaces_1 (by decide) (fun c1 => ?_) (fun c1 => ?_)
    · replace hf := xw_ip c1 hf
      refine lv_iconst (v := 0) hx hb dX6_hasPlaces_30 (by decide) ?_
      have h0 := xw_so hf
      have h1 : w0 = w0 := rfl
      exact xw_zret hB hK hE hS hP hr hlk rfl h0 h1 dX6_hasPlaces_31
    · replace hf := xw_in' c1 hf
      refine lv_iload_n hx hb dX6_hasPlaces_4 rfl (lv_at hl 1 rfl) ?_
      refine lv_if_lt (tgt := 30) hx hb dX6_hasPlaces_5 (by decide) (fun c2 => ?_) (fun c2 => ?_)
      · replace hf := xw_ip c2 hf
        refine lv_iconst (v := 0) hx hb dX6_hasPlaces_30 (by decide) ?_
        have h0 := xw_so hf
        have h1 : w0 = w0 := rfl
        exact xw_zret hB hK hE hS hP hr hlk rfl h0 h1 dX6_hasPlaces_31
      · replace hf := xw_in' c2 hf
        refine lv_iload_n hx hb dX6_hasPlaces_8 rfl (lv_at hl 2 rfl) ?_
        refine lv_aload_n hx hb dX6_hasPlaces_9 rfl (lv_at hl 0 rfl) ?_
        refine xw_get hB hK hP (xw_o6 G hb0) (C := RX6) (T := TX6) (N := 3) rfl TBi_X6 1 (by decide) tw_243 rfl rfl dX6_hasPlaces_10 ?_
        refine lv_icmp_gt (tgt := 30) hx hb dX6_hasPlaces_13 (by decide) (fun c3 => ?_) (fun c3 => ?_)
        · replace hf := xw_ip c3 hf
          refine lv_iconst (v := 0) hx hb dX6_hasPlaces_30 (by decide) ?_
          have h0 := xw_so hf
          have h1 : w0 = w0 := rfl
          exact xw_zret hB hK hE hS hP hr hlk rfl h0 h1 dX6_hasPlaces_31
        · replace hf := xw_in' c3 hf
          refine lv_iload_n hx hb dX6_hasPlaces_16 rfl (lv_at hl 1 rfl) ?_
          refine lv_aload_n hx hb dX6_hasPlaces_17 rfl (lv_at hl 0 rfl) ?_
          refine xw_get hB hK hP (xw_o6 G hb0) (C := RX6) (T := TX6) (N := 3) rfl TBi_X6 1 (by decide) tw_243 rfl rfl dX6_hasPlaces_18 ?_
          refine lv_iload_n hx hb dX6_hasPlaces_21 rfl (lv_at hl 2 rfl) ?_
          refine lv_isub hx hb dX6_hasPlaces_22 ?_
          refine lv_icmp_gt (tgt := 30) hx hb dX6_hasPlaces_23 (by decide) (fun c4 => ?_) (fun c4 => ?_)
          · replace hf := xw_ip c4 hf
            refine lv_iconst (v := 0) hx hb dX6_hasPlaces_30 (by decide) ?_
            have h0 := xw_so hf
            have h1 : w0 = w0 := rfl
            exact xw_zret hB hK hE hS hP hr hlk rfl h0 h1 dX6_hasPlaces_31
          · replace hf := xw_in' c4 hf
            refine lv_iconst (v := 1) hx hb dX6_hasPlaces_26 (by decide) ?_
            refine lv_goto (tgt := 31) hx hb dX6_hasPlaces_27 (by decide) ?_
            have h0 := xw_so hf
            have h1 : w0 = w0 := rfl
            exact xw_zret hB hK hE hS hP hr hlk rfl h0 h1 dX6_hasPlaces_31
  exact HH s.heap [] hP hS
def fX7_shift (a1 : Int32) (a2 : Int32) (a3 : Int32) (a4 : Int32) (a5 : Int32) (w0 : xw_M) : Option (Int32 × xw_M) := xw_bp (fX7_tapeAt a1 w0) (fun r1 => xw_om r1 (xw_bp (fX7_tapeAt a3 w0) (fun r5 => xw_om r5 (some ((-1 : Int32), w0)) (fun t7 => xw_cc (xw_tp t7) (some ((-1 : Int32), w0))))) (fun t3 => xw_cc (xw_tp t3) (xw_bp (fX7_tapeAt a3 w0) (fun r9 => xw_om r9 (some ((-1 : Int32), w0)) (fun t11 => xw_cc (xw_tp t11) (xw_bp (fX6_holdsRow t3 w0) (fun r13 => if r13 = 0 then some ((-11 : Int32), w0) else xw_bp (fX6_holdsRow t11 w0) (fun r16 => if r16 = 0 then some ((-11 : Int32), w0) else if (w0.1 t3 0) = (w0.1 t11 0) then xw_bp (fX6_hasPlaces t3 a2 a5 w0) (fun r20 => if r20 = 0 then some ((-13 : Int32), w0) else xw_bp (fX6_hasPlaces t11 a4 a5 w0) (fun r23 => if r23 = 0 then some ((-13 : Int32), w0) else xw_cc (¬ a2 < 0 ∧ ¬ a4 < 0 ∧ ¬ a5 < 0 ∧ a2.toNatClampNeg + a5.toNatClampNeg ≤ 60 ∧ a4.toNatClampNeg + a5.toNatClampNeg ≤ 60) (xw_lt (xw_cL w0 (t3 + 1) (t11 + 1) a2.toNatClampNeg a4.toNatClampNeg a5.toNatClampNeg) (fun w26 => some (a5, w26))))) else some ((-12 : Int32), w0)))))))))
set_option maxHeartbeats 4000000 in
set_option maxRecDepth 100000 in
theorem kX7_shift (l : Launch) (G : xw_G) (hG : xw_ok G) (a1 : Int32) (a2 : Int32) (a3 : Int32) (a4 : Int32) (a5 : Int32) (w0 : xw_M) (r0 : Int32) (wz : xw_M) (hf : fX7_shift a1 a2 a3 a4 a5 w0 = some (r0, wz)) : xw_Ti l G yX7_shift cX7_shift 8 ((Option.some Jvm.ClassFile.FieldType.int)) (1) (60) [.ref (xw_ad G 0), .int a1, .int a2, .int a3, .int a4, .int a5] w0 r0 wz := by
  unfold xw_Ti
  refine Met.ofW (cc := cX7_shift) (maxL := 8) (ret := (Option.some Jvm.ClassFile.FieldType.int)) (by decide) rfl ?_
  intro p e s m args below meth c s₁ B hml hv
  obtain ⟨hargs, hP, hK, hE⟩ := hv
  have hx := B.exec
  have hb := B.bytes
  have hr := B.returns
  have hlk := B.notSynchronized
  have hB : CallFix p m c cX7_shift 8 s args TB RX7 := ⟨hx, hb, hml, findClass_of_methodNamed B.named, fun q h => (atoms_spec (ws := Cond.code yX7_shift cX7_shift 8 ((Option.some Jvm.ClassFile.FieldType.int)) :: TB) B.pre) q (List.mem_cons_of_mem _ h)⟩
  have hS : va_S (xw_A G) s.heap s.heap [] := va_S.rf
  have hl := lv_entry [.ref (xw_ad G 0), .int a1, .int a2, .int a3, .int a4, .int a5] (n := 8) (Nat.le_of_ble_eq_true rfl)
  rw [show entryFrame m args 8 = entryFrame m ([.ref (xw_ad G 0), .int a1, .int a2, .int a3, .int a4, .int a5] : List Value).toArray 8 from by rw [hargs], lg_entry_eq]
  generalize (lg_sl [.ref (xw_ad G 0), .int a1, .int a2, .int a3, .int a4, .int a5] ++ List.replicate (8 - (lg_sl [.ref (xw_ad G 0), .int a1, .int a2, .int a3, .int a4, .int a5]).length) Slot.unset).toArray = ls at hl ⊢
  have hP : va_P (xw_D G) xw_cl (xw_W G w0) s.heap := hP
  have hl : lv_has ls 8 [(0, .ref (xw_ad G 0)), (1, .int a1), (2, .int a2), (3, .int a3), (4, .int a4), (5, .int a5)] := hl
  have HH : ∀ (H : Heap) (locs : List Loc) (hP : va_P (xw_D G) xw_cl (xw_W G w0) H) (hS : va_S (xw_A G) s.heap H locs), xw_Wi G p l e (xw_rm (1) (60)) s m args below meth c H locs r0 wz (F0 m 0 ls []) := by
    intro H locs hP hS
    unfold fX7_shift at hf
    refine lv_aload_n hx hb dX7_shift_0 rfl (lv_at hl 0 rfl) ?_
    refine lv_iload_n hx hb dX7_shift_1 rfl (lv_at hl 1 rfl) ?_
    replace hf := xw_bp_e hf
    obtain ⟨r1, he2, hf⟩ := hf
    refine xw_Vq hB hK hE hS hP (As := [.int a1]) (rest := []) (kX7_tapeAt l G hG a1 w0 _ he2) gs_X7_237 (xw_rc hK hP (C := RX7) (T := TX7) (N := 11) (xw_o7 G) rfl) 1 hv_X7_tapeAt ⟨Nat.le_of_ble_eq_true rfl, Nat.le_of_ble_eq_true rfl⟩ rfl hl.1 (Nat.le_of_ble_eq_true rfl) rfl dX7_shift_2 ⟨Nat.zero_le _, Nat.zero_le _⟩ (fun H locs hP hS => ?_)
    cases r1 with
    | none =>
      replace hf := xw_om_n hf
      refine lv_astoreN (lv' := [(6, .null), (0, .ref (xw_ad G 0)), (1, .int a1), (2, .int a2), (3, .int a3), (4, .int a4), (5, .int a5)]) hx hb dX7_shift_5 hl (by decide) rfl (fun ls hl => ?_)
      refine lv_aload_n hx hb dX7_shift_7 rfl (lv_at hl 1 rfl) ?_
      refine lv_iload_n hx hb dX7_shift_8 rfl (lv_at hl 4 rfl) ?_
      replace hf := xw_bp_e hf
      obtain ⟨r5, he6, hf⟩ := hf
      refine xw_Vq hB hK hE hS hP (As := [.int a3]) (rest := []) (kX7_tapeAt l G hG a3 w0 _ he6) gs_X7_237 (xw_rc hK hP (C := RX7) (T := TX7) (N := 11) (xw_o7 G) rfl) 1 hv_X7_tapeAt ⟨Nat.le_of_ble_eq_true rfl, Nat.le_of_ble_eq_true rfl⟩ rfl hl.1 (Nat.le_of_ble_eq_true rfl) rfl dX7_shift_9 ⟨Nat.zero_le _, Nat.zero_le _⟩ (fun H locs hP hS => ?_)
      cases r5 with
      | none =>
        replace hf := xw_om_n hf
        refine lv_astoreN (lv' := [(7, .null), (6, .null), (0, .ref (xw_ad G 0)), (1, .int a1), (2, .int a2), (3, .int a3), (4, .int a4), (5, .int a5)]) hx hb dX7_shift_12 hl (by decide) rfl (fun ls hl => ?_)
        refine lv_aloadN hx hb dX7_shift_14 (lv_at hl 1 rfl) ?_
        refine lv_ifnullN (tgt := 24) hx hb dX7_shift_16 (by decide) ?_
        refine lv_iconst (v := (-1)) hx hb dX7_shift_24 (by decide) ?_
        obtain ⟨h0, h1⟩ := xw_s2 hf
        exact xw_iret hB hK hE hS hP hr hlk h0 h1 dX7_shift_25
      | some t7 =>
        replace hf := xw_om_s hf
        replace hf := xw_cc_e hf
        obtain ⟨ht8, hf⟩ := hf
        refine lv_astore (lv' := [(7, .ref (xw_ad G t7)), (6, .null), (0, .ref (xw_ad G 0)), (1, .int a1), (2, .int a2), (3, .int a3), (4, .int a4), (5, .int a5)]) hx hb dX7_shift_12 hl (by decide) rfl (fun ls hl => ?_)
        refine lv_aloadN hx hb dX7_shift_14 (lv_at hl 1 rfl) ?_
        refine lv_ifnullN (tgt := 24) hx hb dX7_shift_16 (by decide) ?_
        refine lv_iconst (v := (-1)) hx hb dX7_shift_24 (by decide) ?_
        obtain ⟨h0, h1⟩ := xw_s2 hf
        exact xw_iret hB hK hE hS hP hr hlk h0 h1 dX7_shift_25
    | some t3 =>
      replace hf := xw_om_s hf
      replace hf := xw_cc_e hf
      obtain ⟨ht4, hf⟩ := hf
      refine lv_astore (lv' := [(6, .ref (xw_ad G t3)), (0, .ref (xw_ad G 0)), (1, .int a1), (2, .int a2), (3, .int a3), (4, .int a4), (5, .int a5)]) hx hb dX7_shift_5 hl (by decide) rfl (fun ls hl => ?_)
      refine lv_aload_n hx hb dX7_shift_7 rfl (lv_at hl 1 rfl) ?_
      refine lv_iload_n hx hb dX7_shift_8 rfl (lv_at hl 4 rfl) ?_
      replace hf := xw_bp_e hf
      obtain ⟨r9, he10, hf⟩ := hf
      refine xw_Vq hB hK hE hS hP (As := [.int a3]) (rest := []) (kX7_tapeAt l G hG a3 w0 _ he10) gs_X7_237 (xw_rc hK hP (C := RX7) (T := TX7) (N := 11) (xw_o7 G) rfl) 1 hv_X7_tapeAt ⟨Nat.le_of_ble_eq_true rfl, Nat.le_of_ble_eq_true rfl⟩ rfl hl.1 (Nat.le_of_ble_eq_true rfl) rfl dX7_shift_9 ⟨Nat.zero_le _, Nat.zero_le _⟩ (fun H locs hP hS => ?_)
      cases r9 with
      | none =>
        replace hf := xw_om_n hf
        refine lv_astoreN (lv' := [(7, .null), (6, .ref (xw_ad G t3)), (0, .ref (xw_ad G 0)), (1, .int a1), (2, .int a2), (3, .int a3), (4, .int a4), (5, .int a5)]) hx hb dX7_shift_12 hl (by decide) rfl (fun ls hl => ?_)
        refine lv_aload hx hb dX7_shift_14 (lv_at hl 1 rfl) ?_
        refine lv_ifnull hx hb dX7_shift_16 ?_
        refine lv_aloadN hx hb dX7_shift_19 (lv_at hl 0 rfl) ?_
        refine lv_ifnonnullN hx hb dX7_shift_21 ?_
        refine lv_iconst (v := (-1)) hx hb dX7_shift_24 (by decide) ?_
        obtain ⟨h0, h1⟩ := xw_s2 hf
        exact xw_iret hB hK hE hS hP hr hlk h0 h1 dX7_shift_25
      | some t11 =>
        replace hf := xw_om_s hf
        replace hf := xw_cc_e hf
        obtain ⟨ht12, hf⟩ := hf
        refine lv_astore (lv' := [(7, .ref (xw_ad G t11)), (6, .ref (xw_ad G t3)), (0, .ref (xw_ad G 0)), (1, .int a1), (2, .int a2), (3, .int a3), (4, .int a4), (5, .int a5)]) hx hb dX7_shift_12 hl (by decide) rfl (fun ls hl => ?_)
        refine lv_aload hx hb dX7_shift_14 (lv_at hl 1 rfl) ?_
        refine lv_ifnull hx hb dX7_shift_16 ?_
        refine lv_aload hx hb dX7_shift_19 (lv_at hl 0 rfl) ?_
        refine lv_ifnonnull (tgt := 26) hx hb dX7_shift_21 (by decide) ?_
        refine lv_aload hx hb dX7_shift_26 (lv_at hl 1 rfl) ?_
        replace hf := xw_bp_e hf
        obtain ⟨r13, he14, hf⟩ := hf
        refine xw_Vi hB hK hE hS hP (As := []) (rest := []) (kX6_holdsRow l G hG t3 ht4 w0 _ he14) gs_X7_241 (xw_rc hK hP (C := RX6) (T := TX6) (N := 3) (xw_o6 G ht4) rfl) 0 hv_X6_holdsRow ⟨Nat.le_of_ble_eq_true rfl, Nat.le_of_ble_eq_true rfl⟩ rfl hl.1 (Nat.le_of_ble_eq_true rfl) rfl dX7_shift_28 ⟨Nat.zero_le _, Nat.zero_le _⟩ (fun H locs hP hS => ?_)
        refine lv_if_eq (tgt := 42) hx hb dX7_shift_31 (by decide) (fun c15 => ?_) (fun c15 => ?_)
        · replace hf := xw_ip c15 hf
          refine lv_bipush (v := (-11)) hx hb dX7_shift_42 (by decide) ?_
          obtain ⟨h0, h1⟩ := xw_s2 hf
          exact xw_iret hB hK hE hS hP hr hlk h0 h1 dX7_shift_44
        · replace hf := xw_in' c15 hf
          refine lv_aload hx hb dX7_shift_34 (lv_at hl 0 rfl) ?_
          replace hf := xw_bp_e hf
          obtain ⟨r16, he17, hf⟩ := hf
          refine xw_Vi hB hK hE hS hP (As := []) (rest := []) (kX6_holdsRow l G hG t11 ht12 w0 _ he17) gs_X7_241 (xw_rc hK hP (C := RX6) (T := TX6) (N := 3) (xw_o6 G ht12) rfl) 0 hv_X6_holdsRow ⟨Nat.le_of_ble_eq_true rfl, Nat.le_of_ble_eq_true rfl⟩ rfl hl.1 (Nat.le_of_ble_eq_true rfl) rfl dX7_shift_36 ⟨Nat.zero_le _, Nat.zero_le _⟩ (fun H locs hP hS => ?_)
          refine lv_if_ne (tgt := 45) hx hb dX7_shift_39 (by decide) (fun c18 => ?_) (fun c18 => ?_)
          · replace hf := xw_in' c18 hf
            refine lv_aload hx hb dX7_shift_45 (lv_at hl 1 rfl) ?_
            refine xw_get hB hK hP (xw_o6 G ht4) (C := RX6) (T := TX6) (N := 3) rfl TBi_X6 0 (by decide) tw_242 rfl rfl dX7_shift_47 ?_
            refine lv_aload hx hb dX7_shift_50 (lv_at hl 0 rfl) ?_
            refine xw_get hB hK hP (xw_o6 G ht12) (C := RX6) (T := TX6) (N := 3) rfl TBi_X6 0 (by decide) tw_242 rfl rfl dX7_shift_52 ?_
            refine lv_icmp_eq (tgt := 61) hx hb dX7_shift_55 (by decide) (fun c19 => ?_) (fun c19 => ?_)
            · replace hf := xw_ip c19 hf
              refine lv_aload hx hb dX7_shift_61 (lv_at hl 1 rfl) ?_
              refine lv_iload_n hx hb dX7_shift_63 rfl (lv_at hl 4 rfl) ?_
              refine lv_iload hx hb dX7_shift_64 (lv_at hl 7 rfl) ?_
              replace hf := xw_bp_e hf
              obtain ⟨r20, he21, hf⟩ := hf
              refine xw_Vi hB hK hE hS hP (As := [.int a2, .int a5]) (rest := []) (kX6_hasPlaces l G hG t3 a2 a5 ht4 w0 _ he21) gs_X7_287 (xw_rc hK hP (C := RX6) (T := TX6) (N := 3) (xw_o6 G ht4) rfl) 2 hv_X6_hasPlaces ⟨Nat.le_of_ble_eq_true rfl, Nat.le_of_ble_eq_true rfl⟩ rfl hl.1 (Nat.le_of_ble_eq_true rfl) rfl dX7_shift_66 ⟨Nat.zero_le _, Nat.zero_le _⟩ (fun H locs hP hS => ?_)
              refine lv_if_eq (tgt := 84) hx hb dX7_shift_69 (by decide) (fun c22 => ?_) (fun c22 => ?_)
              · replace hf := xw_ip c22 hf
                refine lv_bipush (v := (-13)) hx hb dX7_shift_84 (by decide) ?_
                obtain ⟨h0, h1⟩ := xw_s2 hf
                exact xw_iret hB hK hE hS hP hr hlk h0 h1 dX7_shift_86
              · replace hf := xw_in' c22 hf
                refine lv_aload hx hb dX7_shift_72 (lv_at hl 0 rfl) ?_
                refine lv_iload hx hb dX7_shift_74 (lv_at hl 6 rfl) ?_
                refine lv_iload hx hb dX7_shift_76 (lv_at hl 7 rfl) ?_
                replace hf := xw_bp_e hf
                obtain ⟨r23, he24, hf⟩ := hf
                refine xw_Vi hB hK hE hS hP (As := [.int a4, .int a5]) (rest := []) (kX6_hasPlaces l G hG t11 a4 a5 ht12 w0 _ he24) gs_X7_287 (xw_rc hK hP (C := RX6) (T := TX6) (N := 3) (xw_o6 G ht12) rfl) 2 hv_X6_hasPlaces ⟨Nat.le_of_ble_eq_true rfl, Nat.le_of_ble_eq_true rfl⟩ rfl hl.1 (Nat.le_of_ble_eq_true rfl) rfl dX7_shift_78 ⟨Nat.zero_le _, Nat.zero_le _⟩ (fun H locs hP hS => ?_)
                refine lv_if_ne (tgt := 87) hx hb dX7_shift_81 (by decide) (fun c25 => ?_) (fun c25 => ?_)
                · replace hf := xw_in' c25 hf
                  refine lv_aload hx hb dX7_shift_87 (lv_at hl 1 rfl) ?_
                  refine xw_get hB hK hP (xw_o6 G ht4) (C := RX6) (T := TX6) (N := 3) rfl TBi_X6 2 (by decide) tw_246 rfl rfl dX7_shift_89 ?_
                  refine lv_iload_n hx hb dX7_shift_92 rfl (lv_at hl 4 rfl) ?_
                  refine lv_aload hx hb dX7_shift_93 (lv_at hl 0 rfl) ?_
                  refine xw_get hB hK hP (xw_o6 G ht12) (C := RX6) (T := TX6) (N := 3) rfl TBi_X6 2 (by decide) tw_246 rfl rfl dX7_shift_95 ?_
                  refine lv_iload hx hb dX7_shift_98 (lv_at hl 6 rfl) ?_
                  refine lv_iload hx hb dX7_shift_100 (lv_at hl 7 rfl) ?_
                  replace hf := xw_cc_e hf
                  obtain ⟨hc27, hf⟩ := hf
                  refine xw_copyl hG hB hK hS hP (xw_a6_1 G ht4) (xw_a6_1 G ht12) hc27 tw_525 tw_527 tw_526 tw_15 hl.1 (Nat.le_of_ble_eq_true rfl) (Nat.le_of_ble_eq_true rfl) dX7_shift_102 (fun w26 ew26 H locs hP hS => ?_)
                  replace hf := xw_lt_e ew26 hf
                  refine lv_iload hx hb dX7_shift_105 (lv_at hl 7 rfl) ?_
                  obtain ⟨h0, h1⟩ := xw_s2 hf
                  exact xw_iret hB hK hE hS hP hr hlk h0 h1 dX7_shift_107
                · replace hf := xw_ip c25 hf
                  refine lv_bipush (v := (-13)) hx hb dX7_shift_84 (by decide) ?_
                  obtain ⟨h0, h1⟩ := xw_s2 hf
                  exact xw_iret hB hK hE hS hP hr hlk h0 h1 dX7_shift_86
            · replace hf := xw_in' c19 hf
              refine lv_bipush (v := (-12)) hx hb dX7_shift_58 (by decide) ?_
              obtain ⟨h0, h1⟩ := xw_s2 hf
              exact xw_iret hB hK hE hS hP hr hlk h0 h1 dX7_shift_60
          · replace hf := xw_ip c18 hf
            refine lv_bipush (v := (-11)) hx hb dX7_shift_42 (by decide) ?_
            obtain ⟨h0, h1⟩ := xw_s2 hf
            exact xw_iret hB hK hE hS hP hr hlk h0 h1 dX7_shift_44
  exact HH s.heap [] hP hS
def fX8_image_31 (n : Nat) (w : xw_M) : Option (Int32 × xw_M) := xw_ck (60 : Int32) 109 (some (w.1 120 (60 : Int32).toNatClampNeg, w))
def fX8_image_b7 (n : Nat) (x1 : Int32) (w : xw_M) : Option ((Int32 × xw_M) ⊕ (xw_M)) := if (109 : Int32) ≤ x1 then some (.inr w) else xw_ck x1 109 (xw_ck x1 109 (xw_lt (xw_si w 122 x1.toNatClampNeg (w.1 120 x1.toNatClampNeg)) (fun w5 => xw_lt (x1 + 1) (fun x1_6 => some (.inl (x1_6, w5))))))
def fX8_image_7 (n : Nat) (x1 : Int32) (w : xw_M) : Option (Int32 × xw_M) := xw_bp (xw_it (fun z => fX8_image_b7 n z.1 z.2) n (x1, w)) (fun z => (fun (w : xw_M) => fX8_image_31 n w) z)
def fX8_image (n : Nat) (w0 : xw_M) : Option (Int32 × xw_M) := xw_lt (xw_si w0 119 3 (1 : Int32)) (fun w1 => fX8_image_7 n (0 : Int32) w1)
set_option maxHeartbeats 4000000 in
set_option maxRecDepth 100000 in
theorem kX8_image (l : Launch) (G : xw_G) (hG : xw_ok G) (n : Nat) (w0 : xw_M) (r0 : Int32) (wz : xw_M) (hf : fX8_image n w0 = some (r0, wz)) : xw_Ti l G yX8_image cX8_image 2 ((Option.some Jvm.ClassFile.FieldType.int)) (0) (0) [.ref (xw_ad G 119)] w0 r0 wz := by
  unfold xw_Ti
  refine Met.ofW (cc := cX8_image) (maxL := 2) (ret := (Option.some Jvm.ClassFile.FieldType.int)) (by decide) rfl ?_
  intro p e s m args below meth c s₁ B hml hv
  obtain ⟨hargs, hP, hK, hE⟩ := hv
  have hx := B.exec
  have hb := B.bytes
  have hr := B.returns
  have hlk := B.notSynchronized
  have hB : CallFix p m c cX8_image 2 s args TB RX8 := ⟨hx, hb, hml, findClass_of_methodNamed B.named, fun q h => (atoms_spec (ws := Cond.code yX8_image cX8_image 2 ((Option.some Jvm.ClassFile.FieldType.int)) :: TB) B.pre) q (List.mem_cons_of_mem _ h)⟩
  have hS : va_S (xw_A G) s.heap s.heap [] := va_S.rf
  have hl := lv_entry [.ref (xw_ad G 119)] (n := 2) (Nat.le_of_ble_eq_true rfl)
  rw [show entryFrame m args 2 = entryFrame m ([.ref (xw_ad G 119)] : List Value).toArray 2 from by rw [hargs], lg_entry_eq]
  generalize (lg_sl [.ref (xw_ad G 119)] ++ List.replicate (2 - (lg_sl [.ref (xw_ad G 119)]).length) Slot.unset).toArray = ls at hl ⊢
  have hP : va_P (xw_D G) xw_cl (xw_W G w0) s.heap := hP
  have hl : lv_has ls 2 [(0, .ref (xw_ad G 119))] := hl
  have HH : ∀ (H : Heap) (locs : List Loc) (hP : va_P (xw_D G) xw_cl (xw_W G w0) H) (hS : va_S (xw_A G) s.heap H locs), xw_Wi G p l e (xw_rm (0) (0)) s m args below meth c H locs r0 wz (F0 m 0 ls []) := by
    intro H locs hP hS
    unfold fX8_image at hf
    have J31 : ∀ (w : xw_M) (hf : fX8_image_31 n w = some (r0, wz)) (H : Heap) (locs : List Loc) (ls : Array Slot) (hP : va_P (xw_D G) xw_cl (xw_W G w) H) (hS : va_S (xw_A G) s.heap H locs) (hl : lv_has ls 2 [(0, .ref (xw_ad G 119))]), xw_Wi G p l e (xw_rm (0) (0)) s m args below meth c H locs r0 wz (F0 m 31 ls []) := by
      intro w hf H locs ls hP hS hl
      unfold fX8_image_31 at hf
      refine lv_aload_n hx hb dX8_image_31 rfl (lv_at hl 0 rfl) ?_
      refine xw_get hB hK hP (xw_o8 G) (C := RX8) (T := TX8) (N := 31) rfl TBi_X8 0 (by decide) tw_728 rfl rfl dX8_image_32 ?_
      refine lv_bipush (v := 60) hx hb dX8_image_35 (by decide) ?_
      replace hf := xw_ck_e hf
      obtain ⟨hi7, hf⟩ := hf
      refine xw_ild hB hK hP (xw_k120 G) hi7 dX8_image_37 ?_
      obtain ⟨h0, h1⟩ := xw_s2 hf
      exact xw_iret hB hK hE hS hP hr hlk h0 h1 dX8_image_38
    have J7 : ∀ (x1 : Int32) (w : xw_M) (hf : fX8_image_7 n x1 w = some (r0, wz)) (H : Heap) (locs : List Loc) (ls : Array Slot) (hP : va_P (xw_D G) xw_cl (xw_W G w) H) (hS : va_S (xw_A G) s.heap H locs) (hl : lv_has ls 2 [(0, .ref (xw_ad G 119)), (1, .int x1)]), xw_Wi G p l e (xw_rm (0) (0)) s m args below meth c H locs r0 wz (F0 m 7 ls []) := by
      intro x1 w hf H locs ls hP hS hl
      unfold fX8_image_7 at hf
      replace hf := xw_bp_e hf
      obtain ⟨bb7, hit7, hfx7⟩ := hf
      have XX7 : ∀ (w : xw_M) (hf : fX8_image_31 n w = some (r0, wz)) (H : Heap) (locs : List Loc) (ls : Array Slot) (hP : va_P (xw_D G) xw_cl (xw_W G w) H) (hS : va_S (xw_A G) s.heap H locs) (hl : lv_has ls 2 [(0, .ref (xw_ad G 119))]), xw_Wi G p l e (xw_rm (0) (0)) s m args below meth c H locs r0 wz (F0 m 31 ls []) := by
        intro w hf H locs ls hP hS hl
        exact J31 w hf H locs ls hP hS (lv_sub hl [0] rfl)
      have LL7 : ∀ (nn : Nat) (x1 : Int32) (w : xw_M) (hit : xw_it (fun z => fX8_image_b7 n z.1 z.2) nn (x1, w) = some bb7) (H : Heap) (locs : List Loc) (ls : Array Slot) (hP : va_P (xw_D G) xw_cl (xw_W G w) H) (hS : va_S (xw_A G) s.heap H locs) (hl : lv_has ls 2 [(0, .ref (xw_ad G 119)), (1, .int x1)]), xw_Wi G p l e (xw_rm (0) (0)) s m args below meth c H locs r0 wz (F0 m 7 ls []) := by
        intro nn
        induction nn with
        | zero => intro x1 w hit; exact (xw_it_0 hit).elim
        | succ nn ih7 =>
          intro x1 w hit H locs ls hP hS hl
          replace hit := xw_it_e hit
          obtain ⟨wv7, hf, hC7, hX7⟩ := hit
          replace hf : fX8_image_b7 n x1 w = some wv7 := hf
          unfold fX8_image_b7 at hf
          refine lv_iload_n hx hb dX8_image_7 rfl (lv_at hl 1 rfl) ?_
          refine lv_bipush (v := 109) hx hb dX8_image_8 (by decide) ?_
          refine lv_icmp_ge (tgt := 31) hx hb dX8_image_10 (by decide) (fun c2 => ?_) (fun c2 => ?_)
          · replace hf := xw_ip c2 hf
            have he7 := hX7 _ (xw_so hf).symm
            rw [← he7] at hfx7
            exact XX7 w hfx7 H locs ls hP hS (lv_sub hl [0] rfl)
          · replace hf := xw_in' c2 hf
            refine lv_aload_n hx hb dX8_image_13 rfl (lv_at hl 0 rfl) ?_
            refine xw_get hB hK hP (xw_o8 G) (C := RX8) (T := TX8) (N := 31) rfl TBi_X8 2 (by decide) tw_730 rfl rfl dX8_image_14 ?_
            refine lv_iload_n hx hb dX8_image_17 rfl (lv_at hl 1 rfl) ?_
            refine lv_aload_n hx hb dX8_image_18 rfl (lv_at hl 0 rfl) ?_
            refine xw_get hB hK hP (xw_o8 G) (C := RX8) (T := TX8) (N := 31) rfl TBi_X8 0 (by decide) tw_728 rfl rfl dX8_image_19 ?_
            refine lv_iload_n hx hb dX8_image_22 rfl (lv_at hl 1 rfl) ?_
            replace hf := xw_ck_e hf
            obtain ⟨hi3, hf⟩ := hf
            refine xw_ild hB hK hP (xw_k120 G) hi3 dX8_image_23 ?_
            replace hf := xw_ck_e hf
            obtain ⟨hi4, hf⟩ := hf
            refine xw_ist hG hB hK hS hP (xw_k122 G) hi4 dX8_image_24 (fun w5 ew5 H locs hP hS => ?_)
            replace hf := xw_lt_e ew5 hf
            obtain ⟨x1_6, ex1_6⟩ : ∃ y : Int32, y = x1 + 1 := ⟨_, rfl⟩
            replace hf := xw_lt_e ex1_6 hf
            refine lv_iinc (v := x1_6) (lv' := [(1, .int x1_6), (0, .ref (xw_ad G 119))]) hx hb dX8_image_25 hl (k := 1) rfl (by rw [ex1_6]; rfl) (by decide) rfl (fun ls hl => ?_)
            refine lv_goto (tgt := 7) hx hb dX8_image_28 (by decide) ?_
            have hi := hC7 _ (xw_so hf).symm
            exact ih7 x1_6 w5 hi H locs ls hP hS (lv_sub hl [1, 0] rfl)
      exact LL7 n x1 w hit7 H locs ls hP hS hl
    refine lv_aload_n hx hb dX8_image_0 rfl (lv_at hl 0 rfl) ?_
    refine lv_iconst (v := 1) hx hb dX8_image_1 (by decide) ?_
    refine xw_put hG hB hK hS hP (x := (1 : Int32)) (xw_o8 G) (C := RX8) (T := TX8) (N := 31) rfl TBi_X8 tyX8 tyX8_ok nmX8 3 (by decide) tw_731 rfl rfl rfl rfl rfl (Nat.le_of_ble_eq_true rfl) rfl dX8_image_2 (fun w1 ew1 H locs hP hS => ?_)
    replace hf := xw_lt_e ew1 hf
    refine lv_iconst (v := 0) hx hb dX8_image_5 (by decide) ?_
    refine lv_istore_n (lv' := [(1, .int (0 : Int32)), (0, .ref (xw_ad G 119))]) hx hb dX8_image_6 rfl hl (by decide) rfl (fun ls hl => ?_)
    exact J7 (0 : Int32) w1 hf H locs ls hP hS (lv_sub hl [1, 0] rfl)
  exact HH s.heap [] hP hS
def fX8_undo_36 (n : Nat) (w : xw_M) : Option (Int32 × xw_M) := xw_ck (60 : Int32) 109 (some (w.1 120 (60 : Int32).toNatClampNeg, w))
def fX8_undo_b12 (n : Nat) (x1 : Int32) (w : xw_M) : Option ((Int32 × xw_M) ⊕ (xw_M)) := if (109 : Int32) ≤ x1 then some (.inr w) else xw_ck x1 109 (xw_ck x1 109 (xw_lt (xw_si w 120 x1.toNatClampNeg (w.1 122 x1.toNatClampNeg)) (fun w5 => xw_lt (x1 + 1) (fun x1_6 => some (.inl (x1_6, w5))))))
def fX8_undo_12 (n : Nat) (x1 : Int32) (w : xw_M) : Option (Int32 × xw_M) := xw_bp (xw_it (fun z => fX8_undo_b12 n z.1 z.2) n (x1, w)) (fun z => (fun (w : xw_M) => fX8_undo_36 n w) z)
def fX8_undo (n : Nat) (w0 : xw_M) : Option (Int32 × xw_M) := if (w0.1 119 3) = 0 then some ((-3 : Int32), w0) else fX8_undo_12 n (0 : Int32) w0
set_option maxHeartbeats 4000000 in
set_option maxRecDepth 100000 in
theorem kX8_undo (l : Launch) (G : xw_G) (hG : xw_ok G) (n : Nat) (w0 : xw_M) (r0 : Int32) (wz : xw_M) (hf : fX8_undo n w0 = some (r0, wz)) : xw_Ti l G yX8_undo cX8_undo 2 ((Option.some Jvm.ClassFile.FieldType.int)) (0) (0) [.ref (xw_ad G 119)] w0 r0 wz := by
  unfold xw_Ti
  refine Met.ofW (cc := cX8_undo) (maxL := 2) (ret := (Option.some Jvm.ClassFile.FieldType.int)) (by decide) rfl ?_
  intro p e s m args below meth c s₁ B hml hv
  obtain ⟨hargs, hP, hK, hE⟩ := hv
  have hx := B.exec
  have hb := B.bytes
  have hr := B.returns
  have hlk := B.notSynchronized
  have hB : CallFix p m c cX8_undo 2 s args TB RX8 := ⟨hx, hb, hml, findClass_of_methodNamed B.named, fun q h => (atoms_spec (ws := Cond.code yX8_undo cX8_undo 2 ((Option.some Jvm.ClassFile.FieldType.int)) :: TB) B.pre) q (List.mem_cons_of_mem _ h)⟩
  have hS : va_S (xw_A G) s.heap s.heap [] := va_S.rf
  have hl := lv_entry [.ref (xw_ad G 119)] (n := 2) (Nat.le_of_ble_eq_true rfl)
  rw [show entryFrame m args 2 = entryFrame m ([.ref (xw_ad G 119)] : List Value).toArray 2 from by rw [hargs], lg_entry_eq]
  generalize (lg_sl [.ref (xw_ad G 119)] ++ List.replicate (2 - (lg_sl [.ref (xw_ad G 119)]).length) Slot.unset).toArray = ls at hl ⊢
  have hP : va_P (xw_D G) xw_cl (xw_W G w0) s.heap := hP
  have hl : lv_has ls 2 [(0, .ref (xw_ad G 119))] := hl
  have HH : ∀ (H : Heap) (locs : List Loc) (hP : va_P (xw_D G) xw_cl (xw_W G w0) H) (hS : va_S (xw_A G) s.heap H locs), xw_Wi G p l e (xw_rm (0) (0)) s m args below meth c H locs r0 wz (F0 m 0 ls []) := by
    intro H locs hP hS
    unfold fX8_undo at hf
    have J36 : ∀ (w : xw_M) (hf : fX8_undo_36 n w = some (r0, wz)) (H : Heap) (locs : List Loc) (ls : Array Slot) (hP : va_P (xw_D G) xw_cl (xw_W G w) H) (hS : va_S (xw_A G) s.heap H locs) (hl : lv_has ls 2 [(0, .ref (xw_ad G 119))]), xw_Wi G p l e (xw_rm (0) (0)) s m args below meth c H locs r0 wz (F0 m 36 ls []) := by
      intro w hf H locs ls hP hS hl
      unfold fX8_undo_36 at hf
      refine lv_aload_n hx hb dX8_undo_36 rfl (lv_at hl 0 rfl) ?_
      refine xw_get hB hK hP (xw_o8 G) (C := RX8) (T := TX8) (N := 31) rfl TBi_X8 0 (by decide) tw_728 rfl rfl dX8_undo_37 ?_
      refine lv_bipush (v := 60) hx hb dX8_undo_40 (by decide) ?_
      replace hf := xw_ck_e hf
      obtain ⟨hi7, hf⟩ := hf
      refine xw_ild hB hK hP (xw_k120 G) hi7 dX8_undo_42 ?_
      obtain ⟨h0, h1⟩ := xw_s2 hf
      exact xw_iret hB hK hE hS hP hr hlk h0 h1 dX8_undo_43
    have J12 : ∀ (x1 : Int32) (w : xw_M) (hf : fX8_undo_12 n x1 w = some (r0, wz)) (H : Heap) (locs : List Loc) (ls : Array Slot) (hP : va_P (xw_D G) xw_cl (xw_W G w) H) (hS : va_S (xw_A G) s.heap H locs) (hl : lv_has ls 2 [(0, .ref (xw_ad G 119)), (1, .int x1)]), xw_Wi G p l e (xw_rm (0) (0)) s m args below meth c H locs r0 wz (F0 m 12 ls []) := by
      intro x1 w hf H locs ls hP hS hl
      unfold fX8_undo_12 at hf
      replace hf := xw_bp_e hf
      obtain ⟨bb12, hit12, hfx12⟩ := hf
      have XX12 : ∀ (w : xw_M) (hf : fX8_undo_36 n w = some (r0, wz)) (H : Heap) (locs : List Loc) (ls : Array Slot) (hP : va_P (xw_D G) xw_cl (xw_W G w) H) (hS : va_S (xw_A G) s.heap H locs) (hl : lv_has ls 2 [(0, .ref (xw_ad G 119))]), xw_Wi G p l e (xw_rm (0) (0)) s m args below meth c H locs r0 wz (F0 m 36 ls []) := by
        intro w hf H locs ls hP hS hl
        exact J36 w hf H locs ls hP hS (lv_sub hl [0] rfl)
      have LL12 : ∀ (nn : Nat) (x1 : Int32) (w : xw_M) (hit : xw_it (fun z => fX8_undo_b12 n z.1 z.2) nn (x1, w) = some bb12) (H : Heap) (locs : List Loc) (ls : Array Slot) (hP : va_P (xw_D G) xw_cl (xw_W G w) H) (hS : va_S (xw_A G) s.heap H locs) (hl : lv_has ls 2 [(0, .ref (xw_ad G 119)), (1, .int x1)]), xw_Wi G p l e (xw_rm (0) (0)) s m args below meth c H locs r0 wz (F0 m 12 ls []) := by
        intro nn
        induction nn with
        | zero => intro x1 w hit; exact (xw_it_0 hit).elim
        | succ nn ih12 =>
          intro x1 w hit H locs ls hP hS hl
          replace hit := xw_it_e hit
          obtain ⟨wv12, hf, hC12, hX12⟩ := hit
          replace hf : fX8_undo_b12 n x1 w = some wv12 := hf
          unfold fX8_undo_b12 at hf
          refine lv_iload_n hx hb dX8_undo_12 rfl (lv_at hl 1 rfl) ?_
          refine lv_bipush (v := 109) hx hb dX8_undo_13 (by decide) ?_
          refine lv_icmp_ge (tgt := 36) hx hb dX8_undo_15 (by decide) (fun c2 => ?_) (fun c2 => ?_)
          · replace hf := xw_ip c2 hf
            have he12 := hX12 _ (xw_so hf).symm
            rw [← he12] at hfx12
            exact XX12 w hfx12 H locs ls hP hS (lv_sub hl [0] rfl)
          · replace hf := xw_in' c2 hf
            refine lv_aload_n hx hb dX8_undo_18 rfl (lv_at hl 0 rfl) ?_
            refine xw_get hB hK hP (xw_o8 G) (C := RX8) (T := TX8) (N := 31) rfl TBi_X8 0 (by decide) tw_728 rfl rfl dX8_undo_19 ?_
            refine lv_iload_n hx hb dX8_undo_22 rfl (lv_at hl 1 rfl) ?_
            refine lv_aload_n hx hb dX8_undo_23 rfl (lv_at hl 0 rfl) ?_
            refine xw_get hB hK hP (xw_o8 G) (C := RX8) (T := TX8) (N := 31) rfl TBi_X8 2 (by decide) tw_730 rfl rfl dX8_undo_24 ?_
            refine lv_iload_n hx hb dX8_undo_27 rfl (lv_at hl 1 rfl) ?_
            replace hf := xw_ck_e hf
            obtain ⟨hi3, hf⟩ := hf
            refine xw_ild hB hK hP (xw_k122 G) hi3 dX8_undo_28 ?_
            replace hf := xw_ck_e hf
            obtain ⟨hi4, hf⟩ := hf
            refine xw_ist hG hB hK hS hP (xw_k120 G) hi4 dX8_undo_29 (fun w5 ew5 H locs hP hS => ?_)
            replace hf := xw_lt_e ew5 hf
            obtain ⟨x1_6, ex1_6⟩ : ∃ y : Int32, y = x1 + 1 := ⟨_, rfl⟩
            replace hf := xw_lt_e ex1_6 hf
            refine lv_iinc (v := x1_6) (lv' := [(1, .int x1_6), (0, .ref (xw_ad G 119))]) hx hb dX8_undo_30 hl (k := 1) rfl (by rw [ex1_6]; rfl) (by decide) rfl (fun ls hl => ?_)
            refine lv_goto (tgt := 12) hx hb dX8_undo_33 (by decide) ?_
            have hi := hC12 _ (xw_so hf).symm
            exact ih12 x1_6 w5 hi H locs ls hP hS (lv_sub hl [1, 0] rfl)
      exact LL12 n x1 w hit12 H locs ls hP hS hl
    refine lv_aload_n hx hb dX8_undo_0 rfl (lv_at hl 0 rfl) ?_
    refine xw_get hB hK hP (xw_o8 G) (C := RX8) (T := TX8) (N := 31) rfl TBi_X8 3 (by decide) tw_731 rfl rfl dX8_undo_1 ?_
    refine lv_if_ne (tgt := 10) hx hb dX8_undo_4 (by decide) (fun c1 => ?_) (fun c1 => ?_)
    · replace hf := xw_in' c1 hf
      refine lv_iconst (v := 0) hx hb dX8_undo_10 (by decide) ?_
      refine lv_istore_n (lv' := [(1, .int (0 : Int32)), (0, .ref (xw_ad G 119))]) hx hb dX8_undo_11 rfl hl (by decide) rfl (fun ls hl => ?_)
      exact J12 (0 : Int32) w0 hf H locs ls hP hS (lv_sub hl [1, 0] rfl)
    · replace hf := xw_ip c1 hf
      refine lv_bipush (v := (-3)) hx hb dX8_undo_7 (by decide) ?_
      obtain ⟨h0, h1⟩ := xw_s2 hf
      exact xw_iret hB hK hE hS hP hr hlk h0 h1 dX8_undo_9
  exact HH s.heap [] hP hS
def fX8_isIn (a0 : Int32) (a1 : Int32) (a2 : Int32) : Option Int32 := if a0 < a1 then some (0 : Int32) else if a2 < a0 then some (0 : Int32) else some (1 : Int32)
set_option maxHeartbeats 4000000 in
set_option maxRecDepth 100000 in
theorem kX8_isIn (l : Launch) (G : xw_G) (hG : xw_ok G) (a0 : Int32) (a1 : Int32) (a2 : Int32) (w0 : xw_M) (r0 : Int32) (hf : fX8_isIn a0 a1 a2 = some r0) : xw_Ti l G yX8_isIn cX8_isIn 3 ((Option.some Jvm.ClassFile.FieldType.boolean)) (0) (0) [.int a0, .int a1, .int a2] w0 r0 w0 := by
  unfold xw_Ti
  refine Met.ofW (cc := cX8_isIn) (maxL := 3) (ret := (Option.some Jvm.ClassFile.FieldType.boolean)) (by decide) rfl ?_
  intro p e s m args below meth c s₁ B hml hv
  obtain ⟨hargs, hP, hK, hE⟩ := hv
  have hx := B.exec
  have hb := B.bytes
  have hr := B.returns
  have hlk := B.notSynchronized
  have hB : CallFix p m c cX8_isIn 3 s args TB RX8 := ⟨hx, hb, hml, findClass_of_methodNamed B.named, fun q h => (atoms_spec (ws := Cond.code yX8_isIn cX8_isIn 3 ((Option.some Jvm.ClassFile.FieldType.boolean)) :: TB) B.pre) q (List.mem_cons_of_mem _ h)⟩
  have hS : va_S (xw_A G) s.heap s.heap [] := va_S.rf
  have hl := lv_entry [.int a0, .int a1, .int a2] (n := 3) (Nat.le_of_ble_eq_true rfl)
  rw [show entryFrame m args 3 = entryFrame m ([.int a0, .int a1, .int a2] : List Value).toArray 3 from by rw [hargs], lg_entry_eq]
  generalize (lg_sl [.int a0, .int a1, .int a2] ++ List.replicate (3 - (lg_sl [.int a0, .int a1, .int a2]).length) Slot.unset).toArray = ls at hl ⊢
  have hP : va_P (xw_D G) xw_cl (xw_W G w0) s.heap := hP
  have hl : lv_has ls 3 [(0, .int a0), (1, .int a1), (2, .int a2)] := hl
  have HH : ∀ (H : Heap) (locs : List Loc) (hP : va_P (xw_D G) xw_cl (xw_W G w0) H) (hS : va_S (xw_A G) s.heap H locs), xw_Wi G p l e (xw_rm (0) (0)) s m args below meth c H locs r0 w0 (F0 m 0 ls []) := by
    intro H locs hP hS
    unfold fX8_isIn at hf
    refine lv_iload_n hx hb dX8_isIn_0 rfl (lv_at hl 0 rfl) ?_
    refine lv_iload_n hx hb dX8_isIn_1 rfl (lv_at hl 1 rfl) ?_
    refine lv_icmp_lt (tgt := 14) hx hb dX8_isIn_2 (by decide) (fun c1 => ?_) (fun c1 => ?_)
    · replace hf := xw_ip c1 hf
      refine lv_iconst (v := 0) hx hb dX8_isIn_14 (by decide) ?_
      have h0 := xw_so hf
      have h1 : w0 = w0 := rfl
      exact xw_zret hB hK hE hS hP hr hlk rfl h0 h1 dX8_isIn_15
    · replace hf := xw_in' c1 hf
      refine lv_iload_n hx hb dX8_isIn_5 rfl (lv_at hl 0 rfl) ?_
      refine lv_iload_n hx hb dX8_isIn_6 rfl (lv_at hl 2 rfl) ?_
      refine lv_icmp_gt (tgt := 14) hx hb dX8_isIn_7 (by decide) (fun c2 => ?_) (fun c2 => ?_)
      · replace hf := xw_ip c2 hf
        refine lv_iconst (v := 0) hx hb dX8_isIn_14 (by decide) ?_
        have h0 := xw_so hf
        have h1 : w0 = w0 := rfl
        exact xw_zret hB hK hE hS hP hr hlk rfl h0 h1 dX8_isIn_15
      · replace hf := xw_in' c2 hf
        refine lv_iconst (v := 1) hx hb dX8_isIn_10 (by decide) ?_
        refine lv_goto (tgt := 15) hx hb dX8_isIn_11 (by decide) ?_
        have h0 := xw_so hf
        have h1 : w0 = w0 := rfl
        exact xw_zret hB hK hE hS hP hr hlk rfl h0 h1 dX8_isIn_15
  exact HH s.heap [] hP hS
def fX8_isYard (a0 : Int32) : Option Int32 := xw_bp (fX8_isIn a0 (0 : Int32) (9 : Int32)) (fun r1 => xw_cc (r1 = 0 ∨ r1 = 1) (some r1))
set_option maxHeartbeats 4000000 in
set_option maxRecDepth 100000 in
theorem kX8_isYard (l : Launch) (G : xw_G) (hG : xw_ok G) (a0 : Int32) (w0 : xw_M) (r0 : Int32) (hf : fX8_isYard a0 = some r0) : xw_Ti l G yX8_isYard cX8_isYard 1 ((Option.some Jvm.ClassFile.FieldType.boolean)) (1) (22) [.int a0] w0 r0 w0 := by
  unfold xw_Ti
  refine Met.ofW (cc := cX8_isYard) (maxL := 1) (ret := (Option.some Jvm.ClassFile.FieldType.boolean)) (by decide) rfl ?_
  intro p e s m args below meth c s₁ B hml hv
  obtain ⟨hargs, hP, hK, hE⟩ := hv
  have hx := B.exec
  have hb := B.bytes
  have hr := B.returns
  have hlk := B.notSynchronized
  have hB : CallFix p m c cX8_isYard 1 s args TB RX8 := ⟨hx, hb, hml, findClass_of_methodNamed B.named, fun q h => (atoms_spec (ws := Cond.code yX8_isYard cX8_isYard 1 ((Option.some Jvm.ClassFile.FieldType.boolean)) :: TB) B.pre) q (List.mem_cons_of_mem _ h)⟩
  have hS : va_S (xw_A G) s.heap s.heap [] := va_S.rf
  have hl := lv_entry [.int a0] (n := 1) (Nat.le_of_ble_eq_true rfl)
  rw [show entryFrame m args 1 = entryFrame m ([.int a0] : List Value).toArray 1 from by rw [hargs], lg_entry_eq]
  generalize (lg_sl [.int a0] ++ List.replicate (1 - (lg_sl [.int a0]).length) Slot.unset).toArray = ls at hl ⊢
  have hP : va_P (xw_D G) xw_cl (xw_W G w0) s.heap := hP
  have hl : lv_has ls 1 [(0, .int a0)] := hl
  have HH : ∀ (H : Heap) (locs : List Loc) (hP : va_P (xw_D G) xw_cl (xw_W G w0) H) (hS : va_S (xw_A G) s.heap H locs), xw_Wi G p l e (xw_rm (1) (22)) s m args below meth c H locs r0 w0 (F0 m 0 ls []) := by
    intro H locs hP hS
    unfold fX8_isYard at hf
    refine lv_iload_n hx hb dX8_isYard_0 rfl (lv_at hl 0 rfl) ?_
    refine lv_iconst (v := 0) hx hb dX8_isYard_1 (by decide) ?_
    refine lv_bipush (v := 9) hx hb dX8_isYard_2 (by decide) ?_
    replace hf := xw_bp_e hf
    obtain ⟨r1, he2, hf⟩ := hf
    refine xw_Si hB hK hE hS hP (As := [.int a0, .int (0 : Int32), .int (9 : Int32)]) (rest := []) (kX8_isIn l G hG a0 (0 : Int32) (9 : Int32) w0 _ he2) tw_835 tw_837 tw_836 tw_10 3 hs_X8_isIn ⟨Nat.le_of_ble_eq_true rfl, Nat.le_of_ble_eq_true rfl⟩ rfl hl.1 (Nat.le_of_ble_eq_true rfl) rfl dX8_isYard_4 ⟨Nat.zero_le _, Nat.zero_le _⟩ (fun H locs hP hS => ?_)
    replace hf := xw_cc_e hf
    obtain ⟨hn, hf⟩ := hf
    have h0 := xw_so hf
    have h1 : w0 = w0 := rfl
    exact xw_zret hB hK hE hS hP hr hlk (xw_nar hn) h0 h1 dX8_isYard_7
  exact HH s.heap [] hP hS
def fX8_one (a1 : Int32) (a2 : Int32) (w0 : xw_M) : Option Int32 := xw_ck (((10 : Int32) * a1) + a2) 109 (some (w0.1 120 (((10 : Int32) * a1) + a2).toNatClampNeg))
set_option maxHeartbeats 4000000 in
set_option maxRecDepth 100000 in
theorem kX8_one (l : Launch) (G : xw_G) (hG : xw_ok G) (a1 : Int32) (a2 : Int32) (w0 : xw_M) (r0 : Int32) (hf : fX8_one a1 a2 w0 = some r0) : xw_Ti l G yX8_one cX8_one 3 ((Option.some Jvm.ClassFile.FieldType.int)) (0) (0) [.ref (xw_ad G 119), .int a1, .int a2] w0 r0 w0 := by
  unfold xw_Ti
  refine Met.ofW (cc := cX8_one) (maxL := 3) (ret := (Option.some Jvm.ClassFile.FieldType.int)) (by decide) rfl ?_
  intro p e s m args below meth c s₁ B hml hv
  obtain ⟨hargs, hP, hK, hE⟩ := hv
  have hx := B.exec
  have hb := B.bytes
  have hr := B.returns
  have hlk := B.notSynchronized
  have hB : CallFix p m c cX8_one 3 s args TB RX8 := ⟨hx, hb, hml, findClass_of_methodNamed B.named, fun q h => (atoms_spec (ws := Cond.code yX8_one cX8_one 3 ((Option.some Jvm.ClassFile.FieldType.int)) :: TB) B.pre) q (List.mem_cons_of_mem _ h)⟩
  have hS : va_S (xw_A G) s.heap s.heap [] := va_S.rf
  have hl := lv_entry [.ref (xw_ad G 119), .int a1, .int a2] (n := 3) (Nat.le_of_ble_eq_true rfl)
  rw [show entryFrame m args 3 = entryFrame m ([.ref (xw_ad G 119), .int a1, .int a2] : List Value).toArray 3 from by rw [hargs], lg_entry_eq]
  generalize (lg_sl [.ref (xw_ad G 119), .int a1, .int a2] ++ List.replicate (3 - (lg_sl [.ref (xw_ad G 119), .int a1, .int a2]).length) Slot.unset).toArray = ls at hl ⊢
  have hP : va_P (xw_D G) xw_cl (xw_W G w0) s.heap := hP
  have hl : lv_has ls 3 [(0, .ref (xw_ad G 119)), (1, .int a1), (2, .int a2)] := hl
  have HH : ∀ (H : Heap) (locs : List Loc) (hP : va_P (xw_D G) xw_cl (xw_W G w0) H) (hS : va_S (xw_A G) s.heap H locs), xw_Wi G p l e (xw_rm (0) (0)) s m args below meth c H locs r0 w0 (F0 m 0 ls []) := by
    intro H locs hP hS
    unfold fX8_one at hf
    refine lv_aload_n hx hb dX8_one_0 rfl (lv_at hl 0 rfl) ?_
    refine xw_get hB hK hP (xw_o8 G) (C := RX8) (T := TX8) (N := 31) rfl TBi_X8 0 (by decide) tw_728 rfl rfl dX8_one_1 ?_
    refine lv_bipush (v := 10) hx hb dX8_one_4 (by decide) ?_
    refine lv_iload_n hx hb dX8_one_6 rfl (lv_at hl 1 rfl) ?_
    refine lv_imul hx hb dX8_one_7 ?_
    refine lv_iload_n hx hb dX8_one_8 rfl (lv_at hl 2 rfl) ?_
    refine lv_iadd hx hb dX8_one_9 ?_
    replace hf := xw_ck_e hf
    obtain ⟨hi1, hf⟩ := hf
    refine xw_ild hB hK hP (xw_k120 G) hi1 dX8_one_10 ?_
    have h0 := xw_so hf
    have h1 : w0 = w0 := rfl
    exact xw_iret hB hK hE hS hP hr hlk h0 h1 dX8_one_11
  exact HH s.heap [] hP hS
def fX8_change (a1 : Int32) (a2 : Int32) (a3 : Int32) (w0 : xw_M) : Option (Int32 × xw_M) := xw_bp (fX8_one a1 a2 w0) (fun r1 => xw_ck (((10 : Int32) * a1) + a2) 109 (xw_lt (xw_si w0 120 (((10 : Int32) * a1) + a2).toNatClampNeg a3) (fun w4 => some (r1, w4))))
set_option maxHeartbeats 4000000 in
set_option maxRecDepth 100000 in
theorem kX8_change (l : Launch) (G : xw_G) (hG : xw_ok G) (a1 : Int32) (a2 : Int32) (a3 : Int32) (w0 : xw_M) (r0 : Int32) (wz : xw_M) (hf : fX8_change a1 a2 a3 w0 = some (r0, wz)) : xw_Ti l G yX8_change cX8_change 5 ((Option.some Jvm.ClassFile.FieldType.int)) (1) (22) [.ref (xw_ad G 119), .int a1, .int a2, .int a3] w0 r0 wz := by
  unfold xw_Ti
  refine Met.ofW (cc := cX8_change) (maxL := 5) (ret := (Option.some Jvm.ClassFile.FieldType.int)) (by decide) rfl ?_
  intro p e s m args below meth c s₁ B hml hv
  obtain ⟨hargs, hP, hK, hE⟩ := hv
  have hx := B.exec
  have hb := B.bytes
  have hr := B.returns
  have hlk := B.notSynchronized
  have hB : CallFix p m c cX8_change 5 s args TB RX8 := ⟨hx, hb, hml, findClass_of_methodNamed B.named, fun q h => (atoms_spec (ws := Cond.code yX8_change cX8_change 5 ((Option.some Jvm.ClassFile.FieldType.int)) :: TB) B.pre) q (List.mem_cons_of_mem _ h)⟩
  have hS : va_S (xw_A G) s.heap s.heap [] := va_S.rf
  have hl := lv_entry [.ref (xw_ad G 119), .int a1, .int a2, .int a3] (n := 5) (Nat.le_of_ble_eq_true rfl)
  rw [show entryFrame m args 5 = entryFrame m ([.ref (xw_ad G 119), .int a1, .int a2, .int a3] : List Value).toArray 5 from by rw [hargs], lg_entry_eq]
  generalize (lg_sl [.ref (xw_ad G 119), .int a1, .int a2, .int a3] ++ List.replicate (5 - (lg_sl [.ref (xw_ad G 119), .int a1, .int a2, .int a3]).length) Slot.unset).toArray = ls at hl ⊢
  have hP : va_P (xw_D G) xw_cl (xw_W G w0) s.heap := hP
  have hl : lv_has ls 5 [(0, .ref (xw_ad G 119)), (1, .int a1), (2, .int a2), (3, .int a3)] := hl
  have HH : ∀ (H : Heap) (locs : List Loc) (hP : va_P (xw_D G) xw_cl (xw_W G w0) H) (hS : va_S (xw_A G) s.heap H locs), xw_Wi G p l e (xw_rm (1) (22)) s m args below meth c H locs r0 wz (F0 m 0 ls []) := by
    intro H locs hP hS
    unfold fX8_change at hf
    refine lv_aload_n hx hb dX8_change_0 rfl (lv_at hl 0 rfl) ?_
    refine lv_iload_n hx hb dX8_change_1 rfl (lv_at hl 1 rfl) ?_
    refine lv_iload_n hx hb dX8_change_2 rfl (lv_at hl 2 rfl) ?_
    replace hf := xw_bp_e hf
    obtain ⟨r1, he2, hf⟩ := hf
    refine xw_Vi hB hK hE hS hP (As := [.int a1, .int a2]) (rest := []) (kX8_one l G hG a1 a2 w0 _ he2) gs_X8_89 (xw_rc hK hP (C := RX8) (T := TX8) (N := 31) (xw_o8 G) rfl) 2 hv_X8_one ⟨Nat.le_of_ble_eq_true rfl, Nat.le_of_ble_eq_true rfl⟩ rfl hl.1 (Nat.le_of_ble_eq_true rfl) rfl dX8_change_3 ⟨Nat.zero_le _, Nat.zero_le _⟩ (fun H locs hP hS => ?_)
    refine lv_istore (lv' := [(4, .int r1), (0, .ref (xw_ad G 119)), (1, .int a1), (2, .int a2), (3, .int a3)]) hx hb dX8_change_6 hl (by decide) rfl (fun ls hl => ?_)
    refine lv_aload_n hx hb dX8_change_8 rfl (lv_at hl 1 rfl) ?_
    refine xw_get hB hK hP (xw_o8 G) (C := RX8) (T := TX8) (N := 31) rfl TBi_X8 0 (by decide) tw_728 rfl rfl dX8_change_9 ?_
    refine lv_bipush (v := 10) hx hb dX8_change_12 (by decide) ?_
    refine lv_iload_n hx hb dX8_change_14 rfl (lv_at hl 2 rfl) ?_
    refine lv_imul hx hb dX8_change_15 ?_
    refine lv_iload_n hx hb dX8_change_16 rfl (lv_at hl 3 rfl) ?_
    refine lv_iadd hx hb dX8_change_17 ?_
    refine lv_iload_n hx hb dX8_change_18 rfl (lv_at hl 4 rfl) ?_
    replace hf := xw_ck_e hf
    obtain ⟨hi3, hf⟩ := hf
    refine xw_ist hG hB hK hS hP (xw_k120 G) hi3 dX8_change_19 (fun w4 ew4 H locs hP hS => ?_)
    replace hf := xw_lt_e ew4 hf
    refine lv_iload hx hb dX8_change_20 (lv_at hl 0 rfl) ?_
    obtain ⟨h0, h1⟩ := xw_s2 hf
    exact xw_iret hB hK hE hS hP hr hlk h0 h1 dX8_change_22
  exact HH s.heap [] hP hS
def fX8_mourner_88 (n : Nat) (a1 : Int32) (a2 : Int32) (a3 : Int32) (a4 : Int32) (x5 : Int32) (w : xw_M) : Option (Int32 × xw_M) := xw_b (fX8_change x5 (0 : Int32) a1 w) (fun r21 w22 => xw_b (fX8_change x5 (1 : Int32) a2 w22) (fun r24 w25 => xw_b (fX8_change x5 (2 : Int32) a3 w25) (fun r27 w28 => xw_b (fX8_change x5 (3 : Int32) a4 w28) (fun r30 w31 => xw_ck (60 : Int32) 109 (xw_ck (60 : Int32) 109 (xw_lt (xw_si w31 120 (60 : Int32).toNatClampNeg ((w31.1 120 (60 : Int32).toNatClampNeg) + (1 : Int32))) (fun w35 => some (x5, w35))))))))
def fX8_mourner_b65 (n : Nat) (a1 : Int32) (a2 : Int32) (a3 : Int32) (a4 : Int32) (x5 : Int32) (x6 : Int32) (w : xw_M) : Option ((Int32 × xw_M) ⊕ (xw_M)) := if (10 : Int32) ≤ x6 then some (.inr w) else xw_b (fX8_change x5 x6 (0 : Int32) w) (fun r17 w18 => xw_lt (x6 + 1) (fun x6_20 => some (.inl (x6_20, w18))))
def fX8_mourner_65 (n : Nat) (a1 : Int32) (a2 : Int32) (a3 : Int32) (a4 : Int32) (x5 : Int32) (x6 : Int32) (w : xw_M) : Option (Int32 × xw_M) := xw_bp (xw_it (fun z => fX8_mourner_b65 n a1 a2 a3 a4 x5 z.1 z.2) n (x6, w)) (fun z => (fun (w : xw_M) => fX8_mourner_88 n a1 a2 a3 a4 x5 w) z)
def fX8_mourner (n : Nat) (a1 : Int32) (a2 : Int32) (a3 : Int32) (a4 : Int32) (w0 : xw_M) : Option (Int32 × xw_M) := xw_bp (fX8_isIn a1 (0 : Int32) (6 : Int32)) (fun r1 => if r1 = 0 then some ((-1 : Int32), w0) else xw_bp (fX8_isYard a4) (fun r4 => if r4 = 0 then some ((-1 : Int32), w0) else xw_bp (fX8_isIn a2 (0 : Int32) (9 : Int32)) (fun r7 => if r7 = 0 then some ((-2 : Int32), w0) else xw_bp (fX8_isIn a3 (0 : Int32) (20 : Int32)) (fun r10 => if r10 = 0 then some ((-2 : Int32), w0) else xw_ck (60 : Int32) 109 (xw_lt (w0.1 120 (60 : Int32).toNatClampNeg) (fun x5_14 => if x5_14 = (6 : Int32) then some ((-4 : Int32), w0) else fX8_mourner_65 n a1 a2 a3 a4 x5_14 (0 : Int32) w0))))))
set_option maxHeartbeats 4000000 in
set_option maxRecDepth 100000 in
theorem kX8_mourner (l : Launch) (G : xw_G) (hG : xw_ok G) (n : Nat) (a1 : Int32) (a2 : Int32) (a3 : Int32) (a4 : Int32) (w0 : xw_M) (r0 : Int32) (wz : xw_M) (hf : fX8_mourner n a1 a2 a3 a4 w0 = some (r0, wz)) : xw_Ti l G yX8_mourner cX8_mourner 7 ((Option.some Jvm.ClassFile.FieldType.int)) (2) (46) [.ref (xw_ad G 119), .int a1, .int a2, .int a3, .int a4] w0 r0 wz := by
  unfold xw_Ti
  refine Met.ofW (cc := cX8_mourner) (maxL := 7) (ret := (Option.some Jvm.ClassFile.FieldType.int)) (by decide) rfl ?_
  intro p e s m args below meth c s₁ B hml hv
  obtain ⟨hargs, hP, hK, hE⟩ := hv
  have hx := B.exec
  have hb := B.bytes
  have hr := B.returns
  have hlk := B.notSynchronized
  have hB : CallFix p m c cX8_mourner 7 s args TB RX8 := ⟨hx, hb, hml, findClass_of_methodNamed B.named, fun q h => (atoms_spec (ws := Cond.code yX8_mourner cX8_mourner 7 ((Option.some Jvm.ClassFile.FieldType.int)) :: TB) B.pre) q (List.mem_cons_of_mem _ h)⟩
  have hS : va_S (xw_A G) s.heap s.heap [] := va_S.rf
  have hl := lv_entry [.ref (xw_ad G 119), .int a1, .int a2, .int a3, .int a4] (n := 7) (Nat.le_of_ble_eq_true rfl)
  rw [show entryFrame m args 7 = entryFrame m ([.ref (xw_ad G 119), .int a1, .int a2, .int a3, .int a4] : List Value).toArray 7 from by rw [hargs], lg_entry_eq]
  generalize (lg_sl [.ref (xw_ad G 119), .int a1, .int a2, .int a3, .int a4] ++ List.replicate (7 - (lg_sl [.ref (xw_ad G 119), .int a1, .int a2, .int a3, .int a4]).length) Slot.unset).toArray = ls at hl ⊢
  have hP : va_P (xw_D G) xw_cl (xw_W G w0) s.heap := hP
  have hl : lv_has ls 7 [(0, .ref (xw_ad G 119)), (1, .int a1), (2, .int a2), (3, .int a3), (4, .int a4)] := hl
  have HH : ∀ (H : Heap) (locs : List Loc) (hP : va_P (xw_D G) xw_cl (xw_W G w0) H) (hS : va_S (xw_A G) s.heap H locs), xw_Wi G p l e (xw_rm (2) (46)) s m args below meth c H locs r0 wz (F0 m 0 ls []) := by
    intro H locs hP hS
    unfold fX8_mourner at hf
    have J88 : ∀ (x5 : Int32) (w : xw_M) (hf : fX8_mourner_88 n a1 a2 a3 a4 x5 w = some (r0, wz)) (H : Heap) (locs : List Loc) (ls : Array Slot) (hP : va_P (xw_D G) xw_cl (xw_W G w) H) (hS : va_S (xw_A G) s.heap H locs) (hl : lv_has ls 7 [(0, .ref (xw_ad G 119)), (1, .int a1), (2, .int a2), (3, .int a3), (4, .int a4), (5, .int x5)]), xw_Wi G p l e (xw_rm (2) (46)) s m args below meth c H locs r0 wz (F0 m 88 ls []) := by
      intro x5 w hf H locs ls hP hS hl
      unfold fX8_mourner_88 at hf
      refine lv_aload_n hx hb dX8_mourner_88 rfl (lv_at hl 0 rfl) ?_
      refine lv_iload hx hb dX8_mourner_89 (lv_at hl 5 rfl) ?_
      refine lv_iconst (v := 0) hx hb dX8_mourner_91 (by decide) ?_
      refine lv_iload_n hx hb dX8_mourner_92 rfl (lv_at hl 1 rfl) ?_
      replace hf := xw_b_e hf
      obtain ⟨r21, w22, he23, hf⟩ := hf
      refine xw_Vi hB hK hE hS hP (As := [.int x5, .int (0 : Int32), .int a1]) (rest := []) (kX8_change l G hG x5 (0 : Int32) a1 w _ _ he23) gs_X8_97 (xw_rc hK hP (C := RX8) (T := TX8) (N := 31) (xw_o8 G) rfl) 3 hv_X8_change ⟨Nat.le_of_ble_eq_true rfl, Nat.le_of_ble_eq_true rfl⟩ rfl hl.1 (Nat.le_of_ble_eq_true rfl) rfl dX8_mourner_93 ⟨Nat.zero_le _, Nat.zero_le _⟩ (fun H locs hP hS => ?_)
      refine lv_pop hx hb dX8_mourner_96 rfl ?_
      refine lv_aload_n hx hb dX8_mourner_97 rfl (lv_at hl 0 rfl) ?_
      refine lv_iload hx hb dX8_mourner_98 (lv_at hl 5 rfl) ?_
      refine lv_iconst (v := 1) hx hb dX8_mourner_100 (by decide) ?_
      refine lv_iload_n hx hb dX8_mourner_101 rfl (lv_at hl 2 rfl) ?_
      replace hf := xw_b_e hf
      obtain ⟨r24, w25, he26, hf⟩ := hf
      refine xw_Vi hB hK hE hS hP (As := [.int x5, .int (1 : Int32), .int a2]) (rest := []) (kX8_change l G hG x5 (1 : Int32) a2 w22 _ _ he26) gs_X8_97 (xw_rc hK hP (C := RX8) (T := TX8) (N := 31) (xw_o8 G) rfl) 3 hv_X8_change ⟨Nat.le_of_ble_eq_true rfl, Nat.le_of_ble_eq_true rfl⟩ rfl hl.1 (Nat.le_of_ble_eq_true rfl) rfl dX8_mourner_102 ⟨Nat.zero_le _, Nat.zero_le _⟩ (fun H locs hP hS => ?_)
      refine lv_pop hx hb dX8_mourner_105 rfl ?_
      refine lv_aload_n hx hb dX8_mourner_106 rfl (lv_at hl 0 rfl) ?_
      refine lv_iload hx hb dX8_mourner_107 (lv_at hl 5 rfl) ?_
      refine lv_iconst (v := 2) hx hb dX8_mourner_109 (by decide) ?_
      refine lv_iload_n hx hb dX8_mourner_110 rfl (lv_at hl 3 rfl) ?_
      replace hf := xw_b_e hf
      obtain ⟨r27, w28, he29, hf⟩ := hf
      refine xw_Vi hB hK hE hS hP (As := [.int x5, .int (2 : Int32), .int a3]) (rest := []) (kX8_change l G hG x5 (2 : Int32) a3 w25 _ _ he29) gs_X8_97 (xw_rc hK hP (C := RX8) (T := TX8) (N := 31) (xw_o8 G) rfl) 3 hv_X8_change ⟨Nat.le_of_ble_eq_true rfl, Nat.le_of_ble_eq_true rfl⟩ rfl hl.1 (Nat.le_of_ble_eq_true rfl) rfl dX8_mourner_111 ⟨Nat.zero_le _, Nat.zero_le _⟩ (fun H locs hP hS => ?_)
      refine lv_pop hx hb dX8_mourner_114 rfl ?_
      refine lv_aload_n hx hb dX8_mourner_115 rfl (lv_at hl 0 rfl) ?_
      refine lv_iload hx hb dX8_mourner_116 (lv_at hl 5 rfl) ?_
      refine lv_iconst (v := 3) hx hb dX8_mourner_118 (by decide) ?_
      refine lv_iload hx hb dX8_mourner_119 (lv_at hl 4 rfl) ?_
      replace hf := xw_b_e hf
      obtain ⟨r30, w31, he32, hf⟩ := hf
      refine xw_Vi hB hK hE hS hP (As := [.int x5, .int (3 : Int32), .int a4]) (rest := []) (kX8_change l G hG x5 (3 : Int32) a4 w28 _ _ he32) gs_X8_97 (xw_rc hK hP (C := RX8) (T := TX8) (N := 31) (xw_o8 G) rfl) 3 hv_X8_change ⟨Nat.le_of_ble_eq_true rfl, Nat.le_of_ble_eq_true rfl⟩ rfl hl.1 (Nat.le_of_ble_eq_true rfl) rfl dX8_mourner_121 ⟨Nat.zero_le _, Nat.zero_le _⟩ (fun H locs hP hS => ?_)
      refine lv_pop hx hb dX8_mourner_124 rfl ?_
      refine lv_aload_n hx hb dX8_mourner_125 rfl (lv_at hl 0 rfl) ?_
      refine xw_get hB hK hP (xw_o8 G) (C := RX8) (T := TX8) (N := 31) rfl TBi_X8 0 (by decide) tw_728 rfl rfl dX8_mourner_126 ?_
      refine lv_bipush (v := 60) hx hb dX8_mourner_129 (by decide) ?_
      refine lv_dup2_11 hx hb dX8_mourner_131 rfl rfl ?_
      replace hf := xw_ck_e hf
      obtain ⟨hi33, hf⟩ := hf
      refine xw_ild hB hK hP (xw_k120 G) hi33 dX8_mourner_132 ?_
      refine lv_iconst (v := 1) hx hb dX8_mourner_133 (by decide) ?_
      refine lv_iadd hx hb dX8_mourner_134 ?_
      replace hf := xw_ck_e hf
      obtain ⟨hi34, hf⟩ := hf
      refine xw_ist hG hB hK hS hP (xw_k120 G) hi34 dX8_mourner_135 (fun w35 ew35 H locs hP hS => ?_)
      replace hf := xw_lt_e ew35 hf
      refine lv_iload hx hb dX8_mourner_136 (lv_at hl 5 rfl) ?_
      obtain ⟨h0, h1⟩ := xw_s2 hf
      exact xw_iret hB hK hE hS hP hr hlk h0 h1 dX8_mourner_138
    have J65 : ∀ (x5 : Int32) (x6 : Int32) (w : xw_M) (hf : fX8_mourner_65 n a1 a2 a3 a4 x5 x6 w = some (r0, wz)) (H : Heap) (locs : List Loc) (ls : Array Slot) (hP : va_P (xw_D G) xw_cl (xw_W G w) H) (hS : va_S (xw_A G) s.heap H locs) (hl : lv_has ls 7 [(0, .ref (xw_ad G 119)), (1, .int a1), (2, .int a2), (3, .int a3), (4, .int a4), (5, .int x5), (6, .int x6)]), xw_Wi G p l e (xw_rm (2) (46)) s m args below meth c H locs r0 wz (F0 m 65 ls []) := by
      intro x5 x6 w hf H locs ls hP hS hl
      unfold fX8_mourner_65 at hf
      replace hf := xw_bp_e hf
      obtain ⟨bb65, hit65, hfx65⟩ := hf
      have XX65 : ∀ (w : xw_M) (hf : fX8_mourner_88 n a1 a2 a3 a4 x5 w = some (r0, wz)) (H : Heap) (locs : List Loc) (ls : Array Slot) (hP : va_P (xw_D G) xw_cl (xw_W G w) H) (hS : va_S (xw_A G) s.heap H locs) (hl : lv_has ls 7 [(0, .ref (xw_ad G 119)), (1, .int a1), (2, .int a2), (3, .int a3), (4, .int a4), (5, .int x5)]), xw_Wi G p l e (xw_rm (2) (46)) s m args below meth c H locs r0 wz (F0 m 88 ls []) := by
        intro w hf H locs ls hP hS hl
        exact J88 x5 w hf H locs ls hP hS (lv_sub hl [0, 1, 2, 3, 4, 5] rfl)
      have LL65 : ∀ (nn : Nat) (x6 : Int32) (w : xw_M) (hit : xw_it (fun z => fX8_mourner_b65 n a1 a2 a3 a4 x5 z.1 z.2) nn (x6, w) = some bb65) (H : Heap) (locs : List Loc) (ls : Array Slot) (hP : va_P (xw_D G) xw_cl (xw_W G w) H) (hS : va_S (xw_A G) s.heap H locs) (hl : lv_has ls 7 [(0, .ref (xw_ad G 119)), (1, .int a1), (2, .int a2), (3, .int a3), (4, .int a4), (5, .int x5), (6, .int x6)]), xw_Wi G p l e (xw_rm (2) (46)) s m args below meth c H locs r0 wz (F0 m 65 ls []) := by
        intro nn
        induction nn with
        | zero => intro x6 w hit; exact (xw_it_0 hit).elim
        | succ nn ih65 =>
          intro x6 w hit H locs ls hP hS hl
          replace hit := xw_it_e hit
          obtain ⟨wv65, hf, hC65, hX65⟩ := hit
          replace hf : fX8_mourner_b65 n a1 a2 a3 a4 x5 x6 w = some wv65 := hf
          unfold fX8_mourner_b65 at hf
          refine lv_iload hx hb dX8_mourner_65 (lv_at hl 6 rfl) ?_
          refine lv_bipush (v := 10) hx hb dX8_mourner_67 (by decide) ?_
          refine lv_icmp_ge (tgt := 88) hx hb dX8_mourner_69 (by decide) (fun c16 => ?_) (fun c16 => ?_)
          · replace hf := xw_ip c16 hf
            have he65 := hX65 _ (xw_so hf).symm
            rw [← he65] at hfx65
            exact XX65 w hfx65 H locs ls hP hS (lv_sub hl [0, 1, 2, 3, 4, 5] rfl)
          · replace hf := xw_in' c16 hf
            refine lv_aload_n hx hb dX8_mourner_72 rfl (lv_at hl 0 rfl) ?_
            refine lv_iload hx hb dX8_mourner_73 (lv_at hl 5 rfl) ?_
            refine lv_iload hx hb dX8_mourner_75 (lv_at hl 6 rfl) ?_
            refine lv_iconst (v := 0) hx hb dX8_mourner_77 (by decide) ?_
            replace hf := xw_b_e hf
            obtain ⟨r17, w18, he19, hf⟩ := hf
            refine xw_Vi hB hK hE hS hP (As := [.int x5, .int x6, .int (0 : Int32)]) (rest := []) (kX8_change l G hG x5 x6 (0 : Int32) w _ _ he19) gs_X8_97 (xw_rc hK hP (C := RX8) (T := TX8) (N := 31) (xw_o8 G) rfl) 3 hv_X8_change ⟨Nat.le_of_ble_eq_true rfl, Nat.le_of_ble_eq_true rfl⟩ rfl hl.1 (Nat.le_of_ble_eq_true rfl) rfl dX8_mourner_78 ⟨Nat.zero_le _, Nat.zero_le _⟩ (fun H locs hP hS => ?_)
            refine lv_pop hx hb dX8_mourner_81 rfl ?_
            obtain ⟨x6_20, ex6_20⟩ : ∃ y : Int32, y = x6 + 1 := ⟨_, rfl⟩
            replace hf := xw_lt_e ex6_20 hf
            refine lv_iinc (v := x6_20) (lv' := [(6, .int x6_20), (0, .ref (xw_ad G 119)), (1, .int a1), (2, .int a2), (3, .int a3), (4, .int a4), (5, .int x5)]) hx hb dX8_mourner_82 hl (k := 6) rfl (by rw [ex6_20]; rfl) (by decide) rfl (fun ls hl => ?_)
            refine lv_goto (tgt := 65) hx hb dX8_mourner_85 (by decide) ?_
            have hi := hC65 _ (xw_so hf).symm
            exact ih65 x6_20 w18 hi H locs ls hP hS (lv_sub hl [1, 2, 3, 4, 5, 6, 0] rfl)
      exact LL65 n x6 w hit65 H locs ls hP hS hl
    refine lv_iload_n hx hb dX8_mourner_0 rfl (lv_at hl 1 rfl) ?_
    refine lv_iconst (v := 0) hx hb dX8_mourner_1 (by decide) ?_
    refine lv_bipush (v := 6) hx hb dX8_mourner_2 (by decide) ?_
    replace hf := xw_bp_e hf
    obtain ⟨r1, he2, hf⟩ := hf
    refine xw_Si hB hK hE hS hP (As := [.int a1, .int (0 : Int32), .int (6 : Int32)]) (rest := []) (kX8_isIn l G hG a1 (0 : Int32) (6 : Int32) w0 _ he2) tw_835 tw_837 tw_836 tw_10 3 hs_X8_isIn ⟨Nat.le_of_ble_eq_true rfl, Nat.le_of_ble_eq_true rfl⟩ rfl hl.1 (Nat.le_of_ble_eq_true rfl) rfl dX8_mourner_4 ⟨Nat.zero_le _, Nat.zero_le _⟩ (fun H locs hP hS => ?_)
    refine lv_if_eq (tgt := 18) hx hb dX8_mourner_7 (by decide) (fun c3 => ?_) (fun c3 => ?_)
    · replace hf := xw_ip c3 hf
      refine lv_iconst (v := (-1)) hx hb dX8_mourner_18 (by decide) ?_
      obtain ⟨h0, h1⟩ := xw_s2 hf
      exact xw_iret hB hK hE hS hP hr hlk h0 h1 dX8_mourner_19
    · replace hf := xw_in' c3 hf
      refine lv_iload hx hb dX8_mourner_10 (lv_at hl 4 rfl) ?_
      replace hf := xw_bp_e hf
      obtain ⟨r4, he5, hf⟩ := hf
      refine xw_Si hB hK hE hS hP (As := [.int a4]) (rest := []) (kX8_isYard l G hG a4 w0 _ he5) tw_838 tw_840 tw_839 tw_10 1 hs_X8_isYard ⟨Nat.le_of_ble_eq_true rfl, Nat.le_of_ble_eq_true rfl⟩ rfl hl.1 (Nat.le_of_ble_eq_true rfl) rfl dX8_mourner_12 ⟨Nat.zero_le _, Nat.zero_le _⟩ (fun H locs hP hS => ?_)
      refine lv_if_ne (tgt := 20) hx hb dX8_mourner_15 (by decide) (fun c6 => ?_) (fun c6 => ?_)
      · replace hf := xw_in' c6 hf
        refine lv_iload_n hx hb dX8_mourner_20 rfl (lv_at hl 2 rfl) ?_
        refine lv_iconst (v := 0) hx hb dX8_mourner_21 (by decide) ?_
        refine lv_bipush (v := 9) hx hb dX8_mourner_22 (by decide) ?_
        replace hf := xw_bp_e hf
        obtain ⟨r7, he8, hf⟩ := hf
        refine xw_Si hB hK hE hS hP (As := [.int a2, .int (0 : Int32), .int (9 : Int32)]) (rest := []) (kX8_isIn l G hG a2 (0 : Int32) (9 : Int32) w0 _ he8) tw_835 tw_837 tw_836 tw_10 3 hs_X8_isIn ⟨Nat.le_of_ble_eq_true rfl, Nat.le_of_ble_eq_true rfl⟩ rfl hl.1 (Nat.le_of_ble_eq_true rfl) rfl dX8_mourner_24 ⟨Nat.zero_le _, Nat.zero_le _⟩ (fun H locs hP hS => ?_)
        refine lv_if_eq (tgt := 40) hx hb dX8_mourner_27 (by decide) (fun c9 => ?_) (fun c9 => ?_)
        · replace hf := xw_ip c9 hf
          refine lv_bipush (v := (-2)) hx hb dX8_mourner_40 (by decide) ?_
          obtain ⟨h0, h1⟩ := xw_s2 hf
          exact xw_iret hB hK hE hS hP hr hlk h0 h1 dX8_mourner_42
        · replace hf := xw_in' c9 hf
          refine lv_iload_n hx hb dX8_mourner_30 rfl (lv_at hl 3 rfl) ?_
          refine lv_iconst (v := 0) hx hb dX8_mourner_31 (by decide) ?_
          refine lv_bipush (v := 20) hx hb dX8_mourner_32 (by decide) ?_
          replace hf := xw_bp_e hf
          obtain ⟨r10, he11, hf⟩ := hf
          refine xw_Si hB hK hE hS hP (As := [.int a3, .int (0 : Int32), .int (20 : Int32)]) (rest := []) (kX8_isIn l G hG a3 (0 : Int32) (20 : Int32) w0 _ he11) tw_835 tw_837 tw_836 tw_10 3 hs_X8_isIn ⟨Nat.le_of_ble_eq_true rfl, Nat.le_of_ble_eq_true rfl⟩ rfl hl.1 (Nat.le_of_ble_eq_true rfl) rfl dX8_mourner_34 ⟨Nat.zero_le _, Nat.zero_le _⟩ (fun H locs hP hS => ?_)
          refine lv_if_ne (tgt := 43) hx hb dX8_mourner_37 (by decide) (fun c12 => ?_) (fun c12 => ?_)
          · replace hf := xw_in' c12 hf
            refine lv_aload_n hx hb dX8_mourner_43 rfl (lv_at hl 0 rfl) ?_
            refine xw_get hB hK hP (xw_o8 G) (C := RX8) (T := TX8) (N := 31) rfl TBi_X8 0 (by decide) tw_728 rfl rfl dX8_mourner_44 ?_
            refine lv_bipush (v := 60) hx hb dX8_mourner_47 (by decide) ?_
            replace hf := xw_ck_e hf
            obtain ⟨hi13, hf⟩ := hf
            refine xw_ild hB hK hP (xw_k120 G) hi13 dX8_mourner_49 ?_
            refine lv_topi (fun x5_14 ex5_14 => ?_)
            replace hf := xw_lt_e ex5_14 hf
            refine lv_istore (lv' := [(5, .int x5_14), (0, .ref (xw_ad G 119)), (1, .int a1), (2, .int a2), (3, .int a3), (4, .int a4)]) hx hb dX8_mourner_50 hl (by decide) rfl (fun ls hl => ?_)
            refine lv_iload hx hb dX8_mourner_52 (lv_at hl 0 rfl) ?_
            refine lv_bipush (v := 6) hx hb dX8_mourner_54 (by decide) ?_
            refine lv_icmp_ne (tgt := 62) hx hb dX8_mourner_56 (by decide) (fun c15 => ?_) (fun c15 => ?_)
            · replace hf := xw_in' c15 hf
              refine lv_iconst (v := 0) hx hb dX8_mourner_62 (by decide) ?_
              refine lv_istore (lv' := [(6, .int (0 : Int32)), (5, .int x5_14), (0, .ref (xw_ad G 119)), (1, .int a1), (2, .int a2), (3, .int a3), (4, .int a4)]) hx hb dX8_mourner_63 hl (by decide) rfl (fun ls hl => ?_)
              exact J65 x5_14 (0 : Int32) w0 hf H locs ls hP hS (lv_sub hl [2, 3, 4, 5, 6, 1, 0] rfl)
            · replace hf := xw_ip c15 hf
              refine lv_bipush (v := (-4)) hx hb dX8_mourner_59 (by decide) ?_
              obtain ⟨h0, h1⟩ := xw_s2 hf
              exact xw_iret hB hK hE hS hP hr hlk h0 h1 dX8_mourner_61
          · replace hf := xw_ip c12 hf
            refine lv_bipush (v := (-2)) hx hb dX8_mourner_40 (by decide) ?_
            obtain ⟨h0, h1⟩ := xw_s2 hf
            exact xw_iret hB hK hE hS hP hr hlk h0 h1 dX8_mourner_42
      · replace hf := xw_ip c6 hf
        refine lv_iconst (v := (-1)) hx hb dX8_mourner_18 (by decide) ?_
        obtain ⟨h0, h1⟩ := xw_s2 hf
        exact xw_iret hB hK hE hS hP hr hlk h0 h1 dX8_mourner_19
  exact HH s.heap [] hP hS
