def fX8_of (n : Nat) (a1 : Int32) (a2 : Int32) (w0 : xw_M) : Option (Int32 × xw_M) := xw_bp (fX8_isOne a1 w0) (fun r1 => if r1 = 0 then some ((-10001 : Int32), w0) else xw_bp (fX8_isIn a2 (0 : Int32) (5 : Int32)) (fun r4 => if r4 = 0 then if a2 = (6 : Int32) then xw_b (fX8_share n w0) (fun (_ : Unit) w25 => xw_ck a1 6 (some (w25.1 132 a1.toNatClampNeg, w25))) else if a2 = (7 : Int32) then xw_b (fX8_best n a1 w0) (fun r21 w22 => some (r21, w22)) else xw_bp (fX8_isYard (a2 - (10 : Int32))) (fun r9 => if r9 = 0 then xw_bp (fX8_isYard (a2 - (20 : Int32))) (fun r12 => if r12 = 0 then some ((-10001 : Int32), w0) else xw_b (fX8_worth n a1 (a2 - (20 : Int32)) w0) (fun r15 w16 => some (r15, w16))) else xw_b (fX8_rate n a1 (a2 - (10 : Int32)) w0) (fun r18 w19 => some (r18, w19))) else xw_bp (fX8_one a1 a2 w0) (fun r28 => some (r28, w0))))
set_option maxHeartbeats 4000000 in
set_option maxRecDepth 100000 in
theorem kX8_of (l : Launch) (G : xw_G) (hG : xw_ok G) (n : Nat) (a1 : Int32) (a2 : Int32) (w0 : xw_M) (r0 : Int32) (wz : xw_M) (hf : fX8_of n a1 a2 w0 = some (r0, wz)) : xw_Ti l G yX8_of cX8_of 3 ((Option.some Jvm.ClassFile.FieldType.int)) (34) (749) [.ref (xw_ad G 119), .int a1, .int a2] w0 r0 wz := by
  unfold xw_Ti
  refine Met.ofW (cc := cX8_of) (maxL := 3) (ret := (Option.some Jvm.ClassFile.FieldType.int)) (by decide) rfl ?_
  intro p e s m args below meth c s₁ B hml hv
  obtain ⟨hargs, hP, hK, hE⟩ := hv
  have hx := B.exec
  have hb := B.bytes
  have hr := B.returns
  have hlk := B.notSynchronized
  have hB : CallFix p m c cX8_of 3 s args TB RX8 := ⟨hx, hb, hml, findClass_of_methodNamed B.named, fun q h => (atoms_spec (ws := Cond.code yX8_of cX8_of 3 ((Option.some Jvm.ClassFile.FieldType.int)) :: TB) B.pre) q (List.mem_cons_of_mem _ h)⟩
  have hS : va_S (xw_A G) s.heap s.heap [] := va_S.rf
  have hl := lv_entry [.ref (xw_ad G 119), .int a1, .int a2] (n := 3) (Nat.le_of_ble_eq_true rfl)
  rw [show entryFrame m args 3 = entryFrame m ([.ref (xw_ad G 119), .int a1, .int a2] : List Value).toArray 3 from by rw [hargs], lg_entry_eq]
  generalize (lg_sl [.ref (xw_ad G 119), .int a1, .int a2] ++ List.replicate (3 - (lg_sl [.ref (xw_ad G 119), .int a1, .int a2]).length) Slot.unset).toArray = ls at hl ⊢
  have hP : va_P (xw_D G) xw_cl (xw_W G w0) s.heap := hP
  have hl : lv_has ls 3 [(0, .ref (xw_ad G 119)), (1, .int a1), (2, .int a2)] := hl
  have HH : ∀ (H : Heap) (locs : List Loc) (hP : va_P (xw_D G) xw_cl (xw_W G w0) H) (hS : va_S (xw_A G) s.heap H locs), xw_Wi G p l e (xw_rm (34) (749)) s m args below meth c H locs r0 wz (F0 m 0 ls []) := by
    intro H locs hP hS
    unfold fX8_of at hf
    refine lv_aload_n hx hb dX8_of_0 rfl (lv_at hl 0 rfl) ?_
    refine lv_iload_n hx hb dX8_of_1 rfl (lv_at hl 1 rfl) ?_
    replace hf := xw_bp_e hf
    obtain ⟨r1, he2, hf⟩ := hf
    refine xw_Vi hB hK hE hS hP (As := [.int a1]) (rest := []) (kX8_isOne l G hG a1 w0 _ he2) gs_X8_101 (xw_rc hK hP (C := RX8) (T := TX8) (N := 31) (xw_o8 G) rfl) 1 hv_X8_isOne ⟨Nat.le_of_ble_eq_true rfl, Nat.le_of_ble_eq_true rfl⟩ rfl hl.1 (Nat.le_of_ble_eq_true rfl) rfl dX8_of_2 ⟨Nat.zero_le _, Nat.zero_le _⟩ (fun H locs hP hS => ?_)
    refine lv_if_ne (tgt := 12) hx hb dX8_of_5 (by decide) (fun c3 => ?_) (fun c3 => ?_)
    · replace hf := xw_in' c3 hf
      refine lv_iload_n hx hb dX8_of_12 rfl (lv_at hl 2 rfl) ?_
      refine lv_iconst (v := 0) hx hb dX8_of_13 (by decide) ?_
      refine lv_iconst (v := 5) hx hb dX8_of_14 (by decide) ?_
      replace hf := xw_bp_e hf
      obtain ⟨r4, he5, hf⟩ := hf
      refine xw_Si hB hK hE hS hP (As := [.int a2, .int (0 : Int32), .int (5 : Int32)]) (rest := []) (kX8_isIn l G hG a2 (0 : Int32) (5 : Int32) w0 _ he5) tw_835 tw_837 tw_836 tw_10 3 hs_X8_isIn ⟨Nat.le_of_ble_eq_true rfl, Nat.le_of_ble_eq_true rfl⟩ rfl hl.1 (Nat.le_of_ble_eq_true rfl) rfl dX8_of_15 ⟨Nat.zero_le _, Nat.zero_le _⟩ (fun H locs hP hS => ?_)
      refine lv_if_eq (tgt := 28) hx hb dX8_of_18 (by decide) (fun c6 => ?_) (fun c6 => ?_)
      · replace hf := xw_ip c6 hf
        refine lv_iload_n hx hb dX8_of_28 rfl (lv_at hl 2 rfl) ?_
        refine lv_bipush (v := 6) hx hb dX8_of_29 (by decide) ?_
        refine lv_icmp_ne (tgt := 45) hx hb dX8_of_31 (by decide) (fun c7 => ?_) (fun c7 => ?_)
        · replace hf := xw_in' c7 hf
          refine lv_iload_n hx hb dX8_of_45 rfl (lv_at hl 2 rfl) ?_
          refine lv_bipush (v := 7) hx hb dX8_of_46 (by decide) ?_
          refine lv_icmp_ne (tgt := 59) hx hb dX8_of_48 (by decide) (fun c8 => ?_) (fun c8 => ?_)
          · replace hf := xw_in' c8 hf
            refine lv_iload_n hx hb dX8_of_59 rfl (lv_at hl 2 rfl) ?_
            refine lv_bipush (v := 10) hx hb dX8_of_60 (by decide) ?_
            refine lv_isub hx hb dX8_of_62 ?_
            replace hf := xw_bp_e hf
            obtain ⟨r9, he10, hf⟩ := hf
            refine xw_Si hB hK hE hS hP (As := [.int (a2 - (10 : Int32))]) (rest := []) (kX8_isYard l G hG (a2 - (10 : Int32)) w0 _ he10) tw_838 tw_840 tw_839 tw_10 1 hs_X8_isYard ⟨Nat.le_of_ble_eq_true rfl, Nat.le_of_ble_eq_true rfl⟩ rfl hl.1 (Nat.le_of_ble_eq_true rfl) rfl dX8_of_63 ⟨Nat.zero_le _, Nat.zero_le _⟩ (fun H locs hP hS => ?_)
            refine lv_if_eq (tgt := 81) hx hb dX8_of_66 (by decide) (fun c11 => ?_) (fun c11 => ?_)
            · replace hf := xw_ip c11 hf
              refine lv_iload_n hx hb dX8_of_81 rfl (lv_at hl 2 rfl) ?_
              refine lv_bipush (v := 20) hx hb dX8_of_82 (by decide) ?_
              refine lv_isub hx hb dX8_of_84 ?_
              replace hf := xw_bp_e hf
              obtain ⟨r12, he13, hf⟩ := hf
              refine xw_Si hB hK hE hS hP (As := [.int (a2 - (20 : Int32))]) (rest := []) (kX8_isYard l G hG (a2 - (20 : Int32)) w0 _ he13) tw_838 tw_840 tw_839 tw_10 1 hs_X8_isYard ⟨Nat.le_of_ble_eq_true rfl, Nat.le_of_ble_eq_true rfl⟩ rfl hl.1 (Nat.le_of_ble_eq_true rfl) rfl dX8_of_85 ⟨Nat.zero_le _, Nat.zero_le _⟩ (fun H locs hP hS => ?_)
              refine lv_if_eq (tgt := 103) hx hb dX8_of_88 (by decide) (fun c14 => ?_) (fun c14 => ?_)
              · replace hf := xw_ip c14 hf
                refine lv_sipush (v := (-10001)) hx hb dX8_of_103 (by decide) ?_
                obtain ⟨h0, h1⟩ := xw_s2 hf
                exact xw_iret hB hK hE hS hP hr hlk h0 h1 dX8_of_106
              · replace hf := xw_in' c14 hf
                refine lv_aload_n hx hb dX8_of_91 rfl (lv_at hl 0 rfl) ?_
                refine lv_iload_n hx hb dX8_of_92 rfl (lv_at hl 1 rfl) ?_
                refine lv_iload_n hx hb dX8_of_93 rfl (lv_at hl 2 rfl) ?_
                refine lv_bipush (v := 20) hx hb dX8_of_94 (by decide) ?_
                refine lv_isub hx hb dX8_of_96 ?_
                replace hf := xw_b_e hf
                obtain ⟨r15, w16, he17, hf⟩ := hf
                refine xw_Vi hB hK hE hS hP (As := [.int a1, .int (a2 - (20 : Int32))]) (rest := []) (kX8_worth l G hG n a1 (a2 - (20 : Int32)) w0 _ _ he17) gs_X8_114 (xw_rc hK hP (C := RX8) (T := TX8) (N := 31) (xw_o8 G) rfl) 2 hv_X8_worth ⟨Nat.le_of_ble_eq_true rfl, Nat.le_of_ble_eq_true rfl⟩ rfl hl.1 (Nat.le_of_ble_eq_true rfl) rfl dX8_of_97 ⟨Nat.zero_le _, Nat.zero_le _⟩ (fun H locs hP hS => ?_)
                refine lv_goto (tgt := 106) hx hb dX8_of_100 (by decide) ?_
                obtain ⟨h0, h1⟩ := xw_s2 hf
                exact xw_iret hB hK hE hS hP hr hlk h0 h1 dX8_of_106
            · replace hf := xw_in' c11 hf
              refine lv_aload_n hx hb dX8_of_69 rfl (lv_at hl 0 rfl) ?_
              refine lv_iload_n hx hb dX8_of_70 rfl (lv_at hl 1 rfl) ?_
              refine lv_iload_n hx hb dX8_of_71 rfl (lv_at hl 2 rfl) ?_
              refine lv_bipush (v := 10) hx hb dX8_of_72 (by decide) ?_
              refine lv_isub hx hb dX8_of_74 ?_
              replace hf := xw_b_e hf
              obtain ⟨r18, w19, he20, hf⟩ := hf
              refine xw_Vi hB hK hE hS hP (As := [.int a1, .int (a2 - (10 : Int32))]) (rest := []) (kX8_rate l G hG n a1 (a2 - (10 : Int32)) w0 _ _ he20) gs_X8_111 (xw_rc hK hP (C := RX8) (T := TX8) (N := 31) (xw_o8 G) rfl) 2 hv_X8_rate ⟨Nat.le_of_ble_eq_true rfl, Nat.le_of_ble_eq_true rfl⟩ rfl hl.1 (Nat.le_of_ble_eq_true rfl) rfl dX8_of_75 ⟨Nat.zero_le _, Nat.zero_le _⟩ (fun H locs hP hS => ?_)
              refine lv_goto (tgt := 106) hx hb dX8_of_78 (by decide) ?_
              obtain ⟨h0, h1⟩ := xw_s2 hf
              exact xw_iret hB hK hE hS hP hr hlk h0 h1 dX8_of_106
          · replace hf := xw_ip c8 hf
            refine lv_aload_n hx hb dX8_of_51 rfl (lv_at hl 0 rfl) ?_
            refine lv_iload_n hx hb dX8_of_52 rfl (lv_at hl 1 rfl) ?_
            replace hf := xw_b_e hf
            obtain ⟨r21, w22, he23, hf⟩ := hf
            refine xw_Vi hB hK hE hS hP (As := [.int a1]) (rest := []) (kX8_best l G hG n a1 w0 _ _ he23) gs_X8_107 (xw_rc hK hP (C := RX8) (T := TX8) (N := 31) (xw_o8 G) rfl) 1 hv_X8_best ⟨Nat.le_of_ble_eq_true rfl, Nat.le_of_ble_eq_true rfl⟩ rfl hl.1 (Nat.le_of_ble_eq_true rfl) rfl dX8_of_53 ⟨Nat.zero_le _, Nat.zero_le _⟩ (fun H locs hP hS => ?_)
            refine lv_goto (tgt := 106) hx hb dX8_of_56 (by decide) ?_
            obtain ⟨h0, h1⟩ := xw_s2 hf
            exact xw_iret hB hK hE hS hP hr hlk h0 h1 dX8_of_106
        · replace hf := xw_ip c7 hf
          refine lv_aload_n hx hb dX8_of_34 rfl (lv_at hl 0 rfl) ?_
          replace hf := xw_b_e hf
          obtain ⟨r24, w25, he26, hf⟩ := hf
          refine xw_Vv hB hK hE hS hP (As := []) (rest := []) (kX8_share l G hG n w0 _ _ he26) gs_X8_104 (xw_rc hK hP (C := RX8) (T := TX8) (N := 31) (xw_o8 G) rfl) 0 hv_X8_share ⟨Nat.le_of_ble_eq_true rfl, Nat.le_of_ble_eq_true rfl⟩ rfl hl.1 (Nat.le_of_ble_eq_true rfl) rfl dX8_of_35 ⟨Nat.zero_le _, Nat.zero_le _⟩ (fun H locs hP hS => ?_)
          refine lv_aload_n hx hb dX8_of_38 rfl (lv_at hl 0 rfl) ?_
          refine xw_get hB hK hP (xw_o8 G) (C := RX8) (T := TX8) (N := 31) rfl TBi_X8 21 (by decide) tw_749 rfl rfl dX8_of_39 ?_
          refine lv_iload_n hx hb dX8_of_42 rfl (lv_at hl 1 rfl) ?_
          replace hf := xw_ck_e hf
          obtain ⟨hi27, hf⟩ := hf
          refine xw_ild hB hK hP (xw_k132 G) hi27 dX8_of_43 ?_
          obtain ⟨h0, h1⟩ := xw_s2 hf
          exact xw_iret hB hK hE hS hP hr hlk h0 h1 dX8_of_44
      · replace hf := xw_in' c6 hf
        refine lv_aload_n hx hb dX8_of_21 rfl (lv_at hl 0 rfl) ?_
        refine lv_iload_n hx hb dX8_of_22 rfl (lv_at hl 1 rfl) ?_
        refine lv_iload_n hx hb dX8_of_23 rfl (lv_at hl 2 rfl) ?_
        replace hf := xw_bp_e hf
        obtain ⟨r28, he29, hf⟩ := hf
        refine xw_Vi hB hK hE hS hP (As := [.int a1, .int a2]) (rest := []) (kX8_one l G hG a1 a2 w0 _ he29) gs_X8_89 (xw_rc hK hP (C := RX8) (T := TX8) (N := 31) (xw_o8 G) rfl) 2 hv_X8_one ⟨Nat.le_of_ble_eq_true rfl, Nat.le_of_ble_eq_true rfl⟩ rfl hl.1 (Nat.le_of_ble_eq_true rfl) rfl dX8_of_24 ⟨Nat.zero_le _, Nat.zero_le _⟩ (fun H locs hP hS => ?_)
        obtain ⟨h0, h1⟩ := xw_s2 hf
        exact xw_iret hB hK hE hS hP hr hlk h0 h1 dX8_of_27
    · replace hf := xw_ip c3 hf
      refine lv_sipush (v := (-10001)) hx hb dX8_of_8 (by decide) ?_
      obtain ⟨h0, h1⟩ := xw_s2 hf
      exact xw_iret hB hK hE hS hP hr hlk h0 h1 dX8_of_11
  exact HH s.heap [] hP hS
def fX8_set_32 (a1 : Int32) (a2 : Int32) (a3 : Int32) (v0 : Int32) (v1 : Int32) (v2 : Int32) (w : xw_M) : Option (Int32 × xw_M) := xw_bp (fX8_isIn v0 v1 v2) (fun r8 => if r8 = 0 then some ((-2 : Int32), w) else xw_b (fX8_change a1 ((2 : Int32) + a2) a3 w) (fun r11 w12 => some (r11, w12)))
def fX8_set (a1 : Int32) (a2 : Int32) (a3 : Int32) (w0 : xw_M) : Option (Int32 × xw_M) := xw_bp (fX8_isOne a1 w0) (fun r1 => if r1 = 0 then some ((-1 : Int32), w0) else xw_bp (fX8_isIn a2 (0 : Int32) (1 : Int32)) (fun r4 => if r4 = 0 then some ((-1 : Int32), w0) else if a2 = 0 then fX8_set_32 a1 a2 a3 a3 (0 : Int32) (20 : Int32) w0 else fX8_set_32 a1 a2 a3 a3 (0 : Int32) (9 : Int32) w0))
set_option maxHeartbeats 4000000 in
set_option maxRecDepth 100000 in
theorem kX8_set (l : Launch) (G : xw_G) (hG : xw_ok G) (a1 : Int32) (a2 : Int32) (a3 : Int32) (w0 : xw_M) (r0 : Int32) (wz : xw_M) (hf : fX8_set a1 a2 a3 w0 = some (r0, wz)) : xw_Ti l G yX8_set cX8_set 4 ((Option.some Jvm.ClassFile.FieldType.int)) (2) (46) [.ref (xw_ad G 119), .int a1, .int a2, .int a3] w0 r0 wz := by
  unfold xw_Ti
  refine Met.ofW (cc := cX8_set) (maxL := 4) (ret := (Option.some Jvm.ClassFile.FieldType.int)) (by decide) rfl ?_
  intro p e s m args below meth c s₁ B hml hv
  obtain ⟨hargs, hP, hK, hE⟩ := hv
  have hx := B.exec
  have hb := B.bytes
  have hr := B.returns
  have hlk := B.notSynchronized
  have hB : CallFix p m c cX8_set 4 s args TB RX8 := ⟨hx, hb, hml, findClass_of_methodNamed B.named, fun q h => (atoms_spec (ws := Cond.code yX8_set cX8_set 4 ((Option.some Jvm.ClassFile.FieldType.int)) :: TB) B.pre) q (List.mem_cons_of_mem _ h)⟩
  have hS : va_S (xw_A G) s.heap s.heap [] := va_S.rf
  have hl := lv_entry [.ref (xw_ad G 119), .int a1, .int a2, .int a3] (n := 4) (Nat.le_of_ble_eq_true rfl)
  rw [show entryFrame m args 4 = entryFrame m ([.ref (xw_ad G 119), .int a1, .int a2, .int a3] : List Value).toArray 4 from by rw [hargs], lg_entry_eq]
  generalize (lg_sl [.ref (xw_ad G 119), .int a1, .int a2, .int a3] ++ List.replicate (4 - (lg_sl [.ref (xw_ad G 119), .int a1, .int a2, .int a3]).length) Slot.unset).toArray = ls at hl ⊢
  have hP : va_P (xw_D G) xw_cl (xw_W G w0) s.heap := hP
  have hl : lv_has ls 4 [(0, .ref (xw_ad G 119)), (1, .int a1), (2, .int a2), (3, .int a3)] := hl
  have HH : ∀ (H : Heap) (locs : List Loc) (hP : va_P (xw_D G) xw_cl (xw_W G w0) H) (hS : va_S (xw_A G) s.heap H locs), xw_Wi G p l e (xw_rm (2) (46)) s m args below meth c H locs r0 wz (F0 m 0 ls []) := by
    intro H locs hP hS
    unfold fX8_set at hf
    have J32 : ∀ (v0 : Int32) (v1 : Int32) (v2 : Int32) (w : xw_M) (hf : fX8_set_32 a1 a2 a3 v0 v1 v2 w = some (r0, wz)) (H : Heap) (locs : List Loc) (ls : Array Slot) (hP : va_P (xw_D G) xw_cl (xw_W G w) H) (hS : va_S (xw_A G) s.heap H locs) (hl : lv_has ls 4 [(0, .ref (xw_ad G 119)), (1, .int a1), (2, .int a2), (3, .int a3)]), xw_Wi G p l e (xw_rm (2) (46)) s m args below meth c H locs r0 wz (F0 m 32 ls [.int v2, .int v1, .int v0]) := by
      intro v0 v1 v2 w hf H locs ls hP hS hl
      unfold fX8_set_32 at hf
      replace hf := xw_bp_e hf
      obtain ⟨r8, he9, hf⟩ := hf
      refine xw_Si hB hK hE hS hP (As := [.int v0, .int v1, .int v2]) (rest := []) (kX8_isIn l G hG v0 v1 v2 w _ he9) tw_835 tw_837 tw_836 tw_10 3 hs_X8_isIn ⟨Nat.le_of_ble_eq_true rfl, Nat.le_of_ble_eq_true rfl⟩ rfl hl.1 (Nat.le_of_ble_eq_true rfl) rfl dX8_set_32 ⟨Nat.zero_le _, Nat.zero_le _⟩ (fun H locs hP hS => ?_)
      refine lv_if_eq (tgt := 50) hx hb dX8_set_35 (by decide) (fun c10 => ?_) (fun c10 => ?_)
      · replace hf := xw_ip c10 hf
        refine lv_bipush (v := (-2)) hx hb dX8_set_50 (by decide) ?_
        obtain ⟨h0, h1⟩ := xw_s2 hf
        exact xw_iret hB hK hE hS hP hr hlk h0 h1 dX8_set_52
      · replace hf := xw_in' c10 hf
        refine lv_aload_n hx hb dX8_set_38 rfl (lv_at hl 0 rfl) ?_
        refine lv_iload_n hx hb dX8_set_39 rfl (lv_at hl 1 rfl) ?_
        refine lv_iconst (v := 2) hx hb dX8_set_40 (by decide) ?_
        refine lv_iload_n hx hb dX8_set_41 rfl (lv_at hl 2 rfl) ?_
        refine lv_iadd hx hb dX8_set_42 ?_
        refine lv_iload_n hx hb dX8_set_43 rfl (lv_at hl 3 rfl) ?_
        replace hf := xw_b_e hf
        obtain ⟨r11, w12, he13, hf⟩ := hf
        refine xw_Vi hB hK hE hS hP (As := [.int a1, .int ((2 : Int32) + a2), .int a3]) (rest := []) (kX8_change l G hG a1 ((2 : Int32) + a2) a3 w _ _ he13) gs_X8_97 (xw_rc hK hP (C := RX8) (T := TX8) (N := 31) (xw_o8 G) rfl) 3 hv_X8_change ⟨Nat.le_of_ble_eq_true rfl, Nat.le_of_ble_eq_true rfl⟩ rfl hl.1 (Nat.le_of_ble_eq_true rfl) rfl dX8_set_44 ⟨Nat.zero_le _, Nat.zero_le _⟩ (fun H locs hP hS => ?_)
        refine lv_goto (tgt := 52) hx hb dX8_set_47 (by decide) ?_
        obtain ⟨h0, h1⟩ := xw_s2 hf
        exact xw_iret hB hK hE hS hP hr hlk h0 h1 dX8_set_52
    refine lv_aload_n hx hb dX8_set_0 rfl (lv_at hl 0 rfl) ?_
    refine lv_iload_n hx hb dX8_set_1 rfl (lv_at hl 1 rfl) ?_
    replace hf := xw_bp_e hf
    obtain ⟨r1, he2, hf⟩ := hf
    refine xw_Vi hB hK hE hS hP (As := [.int a1]) (rest := []) (kX8_isOne l G hG a1 w0 _ he2) gs_X8_101 (xw_rc hK hP (C := RX8) (T := TX8) (N := 31) (xw_o8 G) rfl) 1 hv_X8_isOne ⟨Nat.le_of_ble_eq_true rfl, Nat.le_of_ble_eq_true rfl⟩ rfl hl.1 (Nat.le_of_ble_eq_true rfl) rfl dX8_set_2 ⟨Nat.zero_le _, Nat.zero_le _⟩ (fun H locs hP hS => ?_)
    refine lv_if_eq (tgt := 17) hx hb dX8_set_5 (by decide) (fun c3 => ?_) (fun c3 => ?_)
    · replace hf := xw_ip c3 hf
      refine lv_iconst (v := (-1)) hx hb dX8_set_17 (by decide) ?_
      obtain ⟨h0, h1⟩ := xw_s2 hf
      exact xw_iret hB hK hE hS hP hr hlk h0 h1 dX8_set_18
    · replace hf := xw_in' c3 hf
      refine lv_iload_n hx hb dX8_set_8 rfl (lv_at hl 2 rfl) ?_
      refine lv_iconst (v := 0) hx hb dX8_set_9 (by decide) ?_
      refine lv_iconst (v := 1) hx hb dX8_set_10 (by decide) ?_
      replace hf := xw_bp_e hf
      obtain ⟨r4, he5, hf⟩ := hf
      refine xw_Si hB hK hE hS hP (As := [.int a2, .int (0 : Int32), .int (1 : Int32)]) (rest := []) (kX8_isIn l G hG a2 (0 : Int32) (1 : Int32) w0 _ he5) tw_835 tw_837 tw_836 tw_10 3 hs_X8_isIn ⟨Nat.le_of_ble_eq_true rfl, Nat.le_of_ble_eq_true rfl⟩ rfl hl.1 (Nat.le_of_ble_eq_true rfl) rfl dX8_set_11 ⟨Nat.zero_le _, Nat.zero_le _⟩ (fun H locs hP hS => ?_)
      refine lv_if_ne (tgt := 19) hx hb dX8_set_14 (by decide) (fun c6 => ?_) (fun c6 => ?_)
      · replace hf := xw_in' c6 hf
        refine lv_iload_n hx hb dX8_set_19 rfl (lv_at hl 3 rfl) ?_
        refine lv_iconst (v := 0) hx hb dX8_set_20 (by decide) ?_
        refine lv_iload_n hx hb dX8_set_21 rfl (lv_at hl 2 rfl) ?_
        refine lv_if_ne (tgt := 30) hx hb dX8_set_22 (by decide) (fun c7 => ?_) (fun c7 => ?_)
        · replace hf := xw_in' c7 hf
          refine lv_bipush (v := 9) hx hb dX8_set_30 (by decide) ?_
          exact J32 a3 (0 : Int32) (9 : Int32) w0 hf H locs ls hP hS (lv_sub hl [0, 1, 2, 3] rfl)
        · replace hf := xw_ip c7 hf
          refine lv_bipush (v := 20) hx hb dX8_set_25 (by decide) ?_
          refine lv_goto (tgt := 32) hx hb dX8_set_27 (by decide) ?_
          exact J32 a3 (0 : Int32) (20 : Int32) w0 hf H locs ls hP hS (lv_sub hl [0, 1, 2, 3] rfl)
      · replace hf := xw_ip c6 hf
        refine lv_iconst (v := (-1)) hx hb dX8_set_17 (by decide) ?_
        obtain ⟨h0, h1⟩ := xw_s2 hf
        exact xw_iret hB hK hE hS hP hr hlk h0 h1 dX8_set_18
  exact HH s.heap [] hP hS
def fX8_away_20 (a1 : Int32) (a2 : Int32) (v1 : Int32) (v2 : Int32) (v3 : Int32) (w : xw_M) : Option (Int32 × xw_M) := xw_b (fX8_change v1 v2 v3 w) (fun r5 w6 => some (r5, w6))
def fX8_away (a1 : Int32) (a2 : Int32) (w0 : xw_M) : Option (Int32 × xw_M) := xw_bp (fX8_isOne a1 w0) (fun r1 => if r1 = 0 then some ((-1 : Int32), w0) else if a2 = 0 then fX8_away_20 a1 a2 a1 (4 : Int32) (0 : Int32) w0 else fX8_away_20 a1 a2 a1 (4 : Int32) (1 : Int32) w0)
set_option maxHeartbeats 4000000 in
set_option maxRecDepth 100000 in
theorem kX8_away (l : Launch) (G : xw_G) (hG : xw_ok G) (a1 : Int32) (a2 : Int32) (w0 : xw_M) (r0 : Int32) (wz : xw_M) (hf : fX8_away a1 a2 w0 = some (r0, wz)) : xw_Ti l G yX8_away cX8_away 3 ((Option.some Jvm.ClassFile.FieldType.int)) (2) (46) [.ref (xw_ad G 119), .int a1, .int a2] w0 r0 wz := by
  unfold xw_Ti
  refine Met.ofW (cc := cX8_away) (maxL := 3) (ret := (Option.some Jvm.ClassFile.FieldType.int)) (by decide) rfl ?_
  intro p e s m args below meth c s₁ B hml hv
  obtain ⟨hargs, hP, hK, hE⟩ := hv
  have hx := B.exec
  have hb := B.bytes
  have hr := B.returns
  have hlk := B.notSynchronized
  have hB : CallFix p m c cX8_away 3 s args TB RX8 := ⟨hx, hb, hml, findClass_of_methodNamed B.named, fun q h => (atoms_spec (ws := Cond.code yX8_away cX8_away 3 ((Option.some Jvm.ClassFile.FieldType.int)) :: TB) B.pre) q (List.mem_cons_of_mem _ h)⟩
  have hS : va_S (xw_A G) s.heap s.heap [] := va_S.rf
  have hl := lv_entry [.ref (xw_ad G 119), .int a1, .int a2] (n := 3) (Nat.le_of_ble_eq_true rfl)
  rw [show entryFrame m args 3 = entryFrame m ([.ref (xw_ad G 119), .int a1, .int a2] : List Value).toArray 3 from by rw [hargs], lg_entry_eq]
  generalize (lg_sl [.ref (xw_ad G 119), .int a1, .int a2] ++ List.replicate (3 - (lg_sl [.ref (xw_ad G 119), .int a1, .int a2]).length) Slot.unset).toArray = ls at hl ⊢
  have hP : va_P (xw_D G) xw_cl (xw_W G w0) s.heap := hP
  have hl : lv_has ls 3 [(0, .ref (xw_ad G 119)), (1, .int a1), (2, .int a2)] := hl
  have HH : ∀ (H : Heap) (locs : List Loc) (hP : va_P (xw_D G) xw_cl (xw_W G w0) H) (hS : va_S (xw_A G) s.heap H locs), xw_Wi G p l e (xw_rm (2) (46)) s m args below meth c H locs r0 wz (F0 m 0 ls []) := by
    intro H locs hP hS
    unfold fX8_away at hf
    have J20 : ∀ (v1 : Int32) (v2 : Int32) (v3 : Int32) (w : xw_M) (hf : fX8_away_20 a1 a2 v1 v2 v3 w = some (r0, wz)) (H : Heap) (locs : List Loc) (ls : Array Slot) (hP : va_P (xw_D G) xw_cl (xw_W G w) H) (hS : va_S (xw_A G) s.heap H locs) (hl : lv_has ls 3 []), xw_Wi G p l e (xw_rm (2) (46)) s m args below meth c H locs r0 wz (F0 m 20 ls [.int v3, .int v2, .int v1, .ref (xw_ad G 119)]) := by
      intro v1 v2 v3 w hf H locs ls hP hS hl
      unfold fX8_away_20 at hf
      replace hf := xw_b_e hf
      obtain ⟨r5, w6, he7, hf⟩ := hf
      refine xw_Vi hB hK hE hS hP (As := [.int v1, .int v2, .int v3]) (rest := []) (kX8_change l G hG v1 v2 v3 w _ _ he7) gs_X8_97 (xw_rc hK hP (C := RX8) (T := TX8) (N := 31) (xw_o8 G) rfl) 3 hv_X8_change ⟨Nat.le_of_ble_eq_true rfl, Nat.le_of_ble_eq_true rfl⟩ rfl hl.1 (Nat.le_of_ble_eq_true rfl) rfl dX8_away_20 ⟨Nat.zero_le _, Nat.zero_le _⟩ (fun H locs hP hS => ?_)
      refine lv_goto (tgt := 27) hx hb dX8_away_23 (by decide) ?_
      obtain ⟨h0, h1⟩ := xw_s2 hf
      exact xw_iret hB hK hE hS hP hr hlk h0 h1 dX8_away_27
    refine lv_aload_n hx hb dX8_away_0 rfl (lv_at hl 0 rfl) ?_
    refine lv_iload_n hx hb dX8_away_1 rfl (lv_at hl 1 rfl) ?_
    replace hf := xw_bp_e hf
    obtain ⟨r1, he2, hf⟩ := hf
    refine xw_Vi hB hK hE hS hP (As := [.int a1]) (rest := []) (kX8_isOne l G hG a1 w0 _ he2) gs_X8_101 (xw_rc hK hP (C := RX8) (T := TX8) (N := 31) (xw_o8 G) rfl) 1 hv_X8_isOne ⟨Nat.le_of_ble_eq_true rfl, Nat.le_of_ble_eq_true rfl⟩ rfl hl.1 (Nat.le_of_ble_eq_true rfl) rfl dX8_away_2 ⟨Nat.zero_le _, Nat.zero_le _⟩ (fun H locs hP hS => ?_)
    refine lv_if_eq (tgt := 26) hx hb dX8_away_5 (by decide) (fun c3 => ?_) (fun c3 => ?_)
    · replace hf := xw_ip c3 hf
      refine lv_iconst (v := (-1)) hx hb dX8_away_26 (by decide) ?_
      obtain ⟨h0, h1⟩ := xw_s2 hf
      exact xw_iret hB hK hE hS hP hr hlk h0 h1 dX8_away_27
    · replace hf := xw_in' c3 hf
      refine lv_aload_n hx hb dX8_away_8 rfl (lv_at hl 0 rfl) ?_
      refine lv_iload_n hx hb dX8_away_9 rfl (lv_at hl 1 rfl) ?_
      refine lv_iconst (v := 4) hx hb dX8_away_10 (by decide) ?_
      refine lv_iload_n hx hb dX8_away_11 rfl (lv_at hl 2 rfl) ?_
      refine lv_if_eq (tgt := 19) hx hb dX8_away_12 (by decide) (fun c4 => ?_) (fun c4 => ?_)
      · replace hf := xw_ip c4 hf
        refine lv_iconst (v := 0) hx hb dX8_away_19 (by decide) ?_
        exact J20 a1 (4 : Int32) (0 : Int32) w0 hf H locs ls hP hS (lv_sub hl [] rfl)
      · replace hf := xw_in' c4 hf
        refine lv_iconst (v := 1) hx hb dX8_away_15 (by decide) ?_
        refine lv_goto (tgt := 20) hx hb dX8_away_16 (by decide) ?_
        exact J20 a1 (4 : Int32) (1 : Int32) w0 hf H locs ls hP hS (lv_sub hl [] rfl)
  exact HH s.heap [] hP hS
def fX8_debt (a1 : Int32) (w0 : xw_M) : Option (Int32 × xw_M) := xw_bp (fX8_isIn a1 (0 : Int32) (999 : Int32)) (fun r1 => if r1 = 0 then some ((-2 : Int32), w0) else xw_ck (61 : Int32) 109 (xw_lt (w0.1 120 (61 : Int32).toNatClampNeg) (fun x2_5 => xw_ck (61 : Int32) 109 (xw_lt (xw_si w0 120 (61 : Int32).toNatClampNeg a1) (fun w7 => some (x2_5, w7))))))
set_option maxHeartbeats 4000000 in
set_option maxRecDepth 100000 in
theorem kX8_debt (l : Launch) (G : xw_G) (hG : xw_ok G) (a1 : Int32) (w0 : xw_M) (r0 : Int32) (wz : xw_M) (hf : fX8_debt a1 w0 = some (r0, wz)) : xw_Ti l G yX8_debt cX8_debt 3 ((Option.some Jvm.ClassFile.FieldType.int)) (1) (22) [.ref (xw_ad G 119), .int a1] w0 r0 wz := by
  unfold xw_Ti
  refine Met.ofW (cc := cX8_debt) (maxL := 3) (ret := (Option.some Jvm.ClassFile.FieldType.int)) (by decide) rfl ?_
  intro p e s m args below meth c s₁ B hml hv
  obtain ⟨hargs, hP, hK, hE⟩ := hv
  have hx := B.exec
  have hb := B.bytes
  have hr := B.returns
  have hlk := B.notSynchronized
  have hB : CallFix p m c cX8_debt 3 s args TB RX8 := ⟨hx, hb, hml, findClass_of_methodNamed B.named, fun q h => (atoms_spec (ws := Cond.code yX8_debt cX8_debt 3 ((Option.some Jvm.ClassFile.FieldType.int)) :: TB) B.pre) q (List.mem_cons_of_mem _ h)⟩
  have hS : va_S (xw_A G) s.heap s.heap [] := va_S.rf
  have hl := lv_entry [.ref (xw_ad G 119), .int a1] (n := 3) (Nat.le_of_ble_eq_true rfl)
  rw [show entryFrame m args 3 = entryFrame m ([.ref (xw_ad G 119), .int a1] : List Value).toArray 3 from by rw [hargs], lg_entry_eq]
  generalize (lg_sl [.ref (xw_ad G 119), .int a1] ++ List.replicate (3 - (lg_sl [.ref (xw_ad G 119), .int a1]).length) Slot.unset).toArray = ls at hl ⊢
  have hP : va_P (xw_D G) xw_cl (xw_W G w0) s.heap := hP
  have hl : lv_has ls 3 [(0, .ref (xw_ad G 119)), (1, .int a1)] := hl
  have HH : ∀ (H : Heap) (locs : List Loc) (hP : va_P (xw_D G) xw_cl (xw_W G w0) H) (hS : va_S (xw_A G) s.heap H locs), xw_Wi G p l e (xw_rm (1) (22)) s m args below meth c H locs r0 wz (F0 m 0 ls []) := by
    intro H locs hP hS
    unfold fX8_debt at hf
    refine lv_iload_n hx hb dX8_debt_0 rfl (lv_at hl 1 rfl) ?_
    refine lv_iconst (v := 0) hx hb dX8_debt_1 (by decide) ?_
    refine lv_sipush (v := 999) hx hb dX8_debt_2 (by decide) ?_
    replace hf := xw_bp_e hf
    obtain ⟨r1, he2, hf⟩ := hf
    refine xw_Si hB hK hE hS hP (As := [.int a1, .int (0 : Int32), .int (999 : Int32)]) (rest := []) (kX8_isIn l G hG a1 (0 : Int32) (999 : Int32) w0 _ he2) tw_835 tw_837 tw_836 tw_10 3 hs_X8_isIn ⟨Nat.le_of_ble_eq_true rfl, Nat.le_of_ble_eq_true rfl⟩ rfl hl.1 (Nat.le_of_ble_eq_true rfl) rfl dX8_debt_5 ⟨Nat.zero_le _, Nat.zero_le _⟩ (fun H locs hP hS => ?_)
    refine lv_if_ne (tgt := 14) hx hb dX8_debt_8 (by decide) (fun c3 => ?_) (fun c3 => ?_)
    · replace hf := xw_in' c3 hf
      refine lv_aload_n hx hb dX8_debt_14 rfl (lv_at hl 0 rfl) ?_
      refine xw_get hB hK hP (xw_o8 G) (C := RX8) (T := TX8) (N := 31) rfl TBi_X8 0 (by decide) tw_728 rfl rfl dX8_debt_15 ?_
      refine lv_bipush (v := 61) hx hb dX8_debt_18 (by decide) ?_
      replace hf := xw_ck_e hf
      obtain ⟨hi4, hf⟩ := hf
      refine xw_ild hB hK hP (xw_k120 G) hi4 dX8_debt_20 ?_
      refine lv_topi (fun x2_5 ex2_5 => ?_)
      replace hf := xw_lt_e ex2_5 hf
      refine lv_istore_n (lv' := [(2, .int x2_5), (0, .ref (xw_ad G 119)), (1, .int a1)]) hx hb dX8_debt_21 rfl hl (by decide) rfl (fun ls hl => ?_)
      refine lv_aload_n hx hb dX8_debt_22 rfl (lv_at hl 1 rfl) ?_
      refine xw_get hB hK hP (xw_o8 G) (C := RX8) (T := TX8) (N := 31) rfl TBi_X8 0 (by decide) tw_728 rfl rfl dX8_debt_23 ?_
      refine lv_bipush (v := 61) hx hb dX8_debt_26 (by decide) ?_
      refine lv_iload_n hx hb dX8_debt_28 rfl (lv_at hl 2 rfl) ?_
      replace hf := xw_ck_e hf
      obtain ⟨hi6, hf⟩ := hf
      refine xw_ist hG hB hK hS hP (xw_k120 G) hi6 dX8_debt_29 (fun w7 ew7 H locs hP hS => ?_)
      replace hf := xw_lt_e ew7 hf
      refine lv_iload_n hx hb dX8_debt_30 rfl (lv_at hl 0 rfl) ?_
      obtain ⟨h0, h1⟩ := xw_s2 hf
      exact xw_iret hB hK hE hS hP hr hlk h0 h1 dX8_debt_31
    · replace hf := xw_ip c3 hf
      refine lv_bipush (v := (-2)) hx hb dX8_debt_11 (by decide) ?_
      obtain ⟨h0, h1⟩ := xw_s2 hf
      exact xw_iret hB hK hE hS hP hr hlk h0 h1 dX8_debt_13
  exact HH s.heap [] hP hS
def fX8_row (a1 : Int32) (a2 : Int32) (a3 : Int32) (w0 : xw_M) : Option (Int32 × xw_M) := xw_bp (fX8_isOne a1 w0) (fun r1 => if r1 = 0 then some ((-1 : Int32), w0) else xw_bp (fX8_isIn a2 (0 : Int32) (3 : Int32)) (fun r4 => if r4 = 0 then some ((-1 : Int32), w0) else xw_bp (fX8_isIn a3 (0 : Int32) (9 : Int32)) (fun r7 => if r7 = 0 then some ((-2 : Int32), w0) else xw_bp (fX8_one a1 (0 : Int32) w0) (fun r10 => if r10 = (6 : Int32) then xw_b (fX8_change a1 ((6 : Int32) + a2) a3 w0) (fun r13 w14 => some (r13, w14)) else some ((-3 : Int32), w0)))))
set_option maxHeartbeats 4000000 in
set_option maxRecDepth 100000 in
theorem kX8_row (l : Launch) (G : xw_G) (hG : xw_ok G) (a1 : Int32) (a2 : Int32) (a3 : Int32) (w0 : xw_M) (r0 : Int32) (wz : xw_M) (hf : fX8_row a1 a2 a3 w0 = some (r0, wz)) : xw_Ti l G yX8_row cX8_row 4 ((Option.some Jvm.ClassFile.FieldType.int)) (2) (46) [.ref (xw_ad G 119), .int a1, .int a2, .int a3] w0 r0 wz := by
  unfold xw_Ti
  refine Met.ofW (cc := cX8_row) (maxL := 4) (ret := (Option.some Jvm.ClassFile.FieldType.int)) (by decide) rfl ?_
  intro p e s m args below meth c s₁ B hml hv
  obtain ⟨hargs, hP, hK, hE⟩ := hv
  have hx := B.exec
  have hb := B.bytes
  have hr := B.returns
  have hlk := B.notSynchronized
  have hB : CallFix p m c cX8_row 4 s args TB RX8 := ⟨hx, hb, hml, findClass_of_methodNamed B.named, fun q h => (atoms_spec (ws := Cond.code yX8_row cX8_row 4 ((Option.some Jvm.ClassFile.FieldType.int)) :: TB) B.pre) q (List.mem_cons_of_mem _ h)⟩
  have hS : va_S (xw_A G) s.heap s.heap [] := va_S.rf
  have hl := lv_entry [.ref (xw_ad G 119), .int a1, .int a2, .int a3] (n := 4) (Nat.le_of_ble_eq_true rfl)
  rw [show entryFrame m args 4 = entryFrame m ([.ref (xw_ad G 119), .int a1, .int a2, .int a3] : List Value).toArray 4 from by rw [hargs], lg_entry_eq]
  generalize (lg_sl [.ref (xw_ad G 119), .int a1, .int a2, .int a3] ++ List.replicate (4 - (lg_sl [.ref (xw_ad G 119), .int a1, .int a2, .int a3]).length) Slot.unset).toArray = ls at hl ⊢
  have hP : va_P (xw_D G) xw_cl (xw_W G w0) s.heap := hP
  have hl : lv_has ls 4 [(0, .ref (xw_ad G 119)), (1, .int a1), (2, .int a2), (3, .int a3)] := hl
  have HH : ∀ (H : Heap) (locs : List Loc) (hP : va_P (xw_D G) xw_cl (xw_W G w0) H) (hS : va_S (xw_A G) s.heap H locs), xw_Wi G p l e (xw_rm (2) (46)) s m args below meth c H locs r0 wz (F0 m 0 ls []) := by
    intro H locs hP hS
    unfold fX8_row at hf
    refine lv_aload_n hx hb dX8_row_0 rfl (lv_at hl 0 rfl) ?_
    refine lv_iload_n hx hb dX8_row_1 rfl (lv_at hl 1 rfl) ?_
    replace hf := xw_bp_e hf
    obtain ⟨r1, he2, hf⟩ := hf
    refine xw_Vi hB hK hE hS hP (As := [.int a1]) (rest := []) (kX8_isOne l G hG a1 w0 _ he2) gs_X8_101 (xw_rc hK hP (C := RX8) (T := TX8) (N := 31) (xw_o8 G) rfl) 1 hv_X8_isOne ⟨Nat.le_of_ble_eq_true rfl, Nat.le_of_ble_eq_true rfl⟩ rfl hl.1 (Nat.le_of_ble_eq_true rfl) rfl dX8_row_2 ⟨Nat.zero_le _, Nat.zero_le _⟩ (fun H locs hP hS => ?_)
    refine lv_if_eq (tgt := 17) hx hb dX8_row_5 (by decide) (fun c3 => ?_) (fun c3 => ?_)
    · replace hf := xw_ip c3 hf
      refine lv_iconst (v := (-1)) hx hb dX8_row_17 (by decide) ?_
      obtain ⟨h0, h1⟩ := xw_s2 hf
      exact xw_iret hB hK hE hS hP hr hlk h0 h1 dX8_row_18
    · replace hf := xw_in' c3 hf
      refine lv_iload_n hx hb dX8_row_8 rfl (lv_at hl 2 rfl) ?_
      refine lv_iconst (v := 0) hx hb dX8_row_9 (by decide) ?_
      refine lv_iconst (v := 3) hx hb dX8_row_10 (by decide) ?_
      replace hf := xw_bp_e hf
      obtain ⟨r4, he5, hf⟩ := hf
      refine xw_Si hB hK hE hS hP (As := [.int a2, .int (0 : Int32), .int (3 : Int32)]) (rest := []) (kX8_isIn l G hG a2 (0 : Int32) (3 : Int32) w0 _ he5) tw_835 tw_837 tw_836 tw_10 3 hs_X8_isIn ⟨Nat.le_of_ble_eq_true rfl, Nat.le_of_ble_eq_true rfl⟩ rfl hl.1 (Nat.le_of_ble_eq_true rfl) rfl dX8_row_11 ⟨Nat.zero_le _, Nat.zero_le _⟩ (fun H locs hP hS => ?_)
      refine lv_if_ne (tgt := 19) hx hb dX8_row_14 (by decide) (fun c6 => ?_) (fun c6 => ?_)
      · replace hf := xw_in' c6 hf
        refine lv_iload_n hx hb dX8_row_19 rfl (lv_at hl 3 rfl) ?_
        refine lv_iconst (v := 0) hx hb dX8_row_20 (by decide) ?_
        refine lv_bipush (v := 9) hx hb dX8_row_21 (by decide) ?_
        replace hf := xw_bp_e hf
        obtain ⟨r7, he8, hf⟩ := hf
        refine xw_Si hB hK hE hS hP (As := [.int a3, .int (0 : Int32), .int (9 : Int32)]) (rest := []) (kX8_isIn l G hG a3 (0 : Int32) (9 : Int32) w0 _ he8) tw_835 tw_837 tw_836 tw_10 3 hs_X8_isIn ⟨Nat.le_of_ble_eq_true rfl, Nat.le_of_ble_eq_true rfl⟩ rfl hl.1 (Nat.le_of_ble_eq_true rfl) rfl dX8_row_23 ⟨Nat.zero_le _, Nat.zero_le _⟩ (fun H locs hP hS => ?_)
        refine lv_if_ne (tgt := 32) hx hb dX8_row_26 (by decide) (fun c9 => ?_) (fun c9 => ?_)
        · replace hf := xw_in' c9 hf
          refine lv_aload_n hx hb dX8_row_32 rfl (lv_at hl 0 rfl) ?_
          refine lv_iload_n hx hb dX8_row_33 rfl (lv_at hl 1 rfl) ?_
          refine lv_iconst (v := 0) hx hb dX8_row_34 (by decide) ?_
          replace hf := xw_bp_e hf
          obtain ⟨r10, he11, hf⟩ := hf
          refine xw_Vi hB hK hE hS hP (As := [.int a1, .int (0 : Int32)]) (rest := []) (kX8_one l G hG a1 (0 : Int32) w0 _ he11) gs_X8_89 (xw_rc hK hP (C := RX8) (T := TX8) (N := 31) (xw_o8 G) rfl) 2 hv_X8_one ⟨Nat.le_of_ble_eq_true rfl, Nat.le_of_ble_eq_true rfl⟩ rfl hl.1 (Nat.le_of_ble_eq_true rfl) rfl dX8_row_35 ⟨Nat.zero_le _, Nat.zero_le _⟩ (fun H locs hP hS => ?_)
          refine lv_bipush (v := 6) hx hb dX8_row_38 (by decide) ?_
          refine lv_icmp_ne (tgt := 56) hx hb dX8_row_40 (by decide) (fun c12 => ?_) (fun c12 => ?_)
          · replace hf := xw_in' c12 hf
            refine lv_bipush (v := (-3)) hx hb dX8_row_56 (by decide) ?_
            obtain ⟨h0, h1⟩ := xw_s2 hf
            exact xw_iret hB hK hE hS hP hr hlk h0 h1 dX8_row_58
          · replace hf := xw_ip c12 hf
            refine lv_aload_n hx hb dX8_row_43 rfl (lv_at hl 0 rfl) ?_
            refine lv_iload_n hx hb dX8_row_44 rfl (lv_at hl 1 rfl) ?_
            refine lv_bipush (v := 6) hx hb dX8_row_45 (by decide) ?_
            refine lv_iload_n hx hb dX8_row_47 rfl (lv_at hl 2 rfl) ?_
            refine lv_iadd hx hb dX8_row_48 ?_
            refine lv_iload_n hx hb dX8_row_49 rfl (lv_at hl 3 rfl) ?_
            replace hf := xw_b_e hf
            obtain ⟨r13, w14, he15, hf⟩ := hf
            refine xw_Vi hB hK hE hS hP (As := [.int a1, .int ((6 : Int32) + a2), .int a3]) (rest := []) (kX8_change l G hG a1 ((6 : Int32) + a2) a3 w0 _ _ he15) gs_X8_97 (xw_rc hK hP (C := RX8) (T := TX8) (N := 31) (xw_o8 G) rfl) 3 hv_X8_change ⟨Nat.le_of_ble_eq_true rfl, Nat.le_of_ble_eq_true rfl⟩ rfl hl.1 (Nat.le_of_ble_eq_true rfl) rfl dX8_row_50 ⟨Nat.zero_le _, Nat.zero_le _⟩ (fun H locs hP hS => ?_)
            refine lv_goto (tgt := 58) hx hb dX8_row_53 (by decide) ?_
            obtain ⟨h0, h1⟩ := xw_s2 hf
            exact xw_iret hB hK hE hS hP hr hlk h0 h1 dX8_row_58
        · replace hf := xw_ip c9 hf
          refine lv_bipush (v := (-2)) hx hb dX8_row_29 (by decide) ?_
          obtain ⟨h0, h1⟩ := xw_s2 hf
          exact xw_iret hB hK hE hS hP hr hlk h0 h1 dX8_row_31
      · replace hf := xw_ip c6 hf
        refine lv_iconst (v := (-1)) hx hb dX8_row_17 (by decide) ?_
        obtain ⟨h0, h1⟩ := xw_s2 hf
        exact xw_iret hB hK hE hS hP hr hlk h0 h1 dX8_row_18
  exact HH s.heap [] hP hS
def fX8_feed (a1 : Int32) (w0 : xw_M) : Option (Int32 × xw_M) := xw_bp (fX8_isIn a1 (0 : Int32) (127 : Int32)) (fun r1 => if r1 = 0 then some ((-2 : Int32), w0) else if (w0.1 119 5) = (100 : Int32) then some ((-4 : Int32), w0) else xw_ck (w0.1 119 5) 100 (xw_lt (xw_si w0 123 (w0.1 119 5).toNatClampNeg a1) (fun w6 => xw_lt (xw_si w6 119 5 ((w6.1 119 5) + (1 : Int32))) (fun w7 => some (w7.1 119 5, w7)))))
set_option maxHeartbeats 4000000 in
set_option maxRecDepth 100000 in
theorem kX8_feed (l : Launch) (G : xw_G) (hG : xw_ok G) (a1 : Int32) (w0 : xw_M) (r0 : Int32) (wz : xw_M) (hf : fX8_feed a1 w0 = some (r0, wz)) : xw_Ti l G yX8_feed cX8_feed 2 ((Option.some Jvm.ClassFile.FieldType.int)) (1) (22) [.ref (xw_ad G 119), .int a1] w0 r0 wz := by
  unfold xw_Ti
  refine Met.ofW (cc := cX8_feed) (maxL := 2) (ret := (Option.some Jvm.ClassFile.FieldType.int)) (by decide) rfl ?_
  intro p e s m args below meth c s₁ B hml hv
  obtain ⟨hargs, hP, hK, hE⟩ := hv
  have hx := B.exec
  have hb := B.bytes
  have hr := B.returns
  have hlk := B.notSynchronized
  have hB : CallFix p m c cX8_feed 2 s args TB RX8 := ⟨hx, hb, hml, findClass_of_methodNamed B.named, fun q h => (atoms_spec (ws := Cond.code yX8_feed cX8_feed 2 ((Option.some Jvm.ClassFile.FieldType.int)) :: TB) B.pre) q (List.mem_cons_of_mem _ h)⟩
  have hS : va_S (xw_A G) s.heap s.heap [] := va_S.rf
  have hl := lv_entry [.ref (xw_ad G 119), .int a1] (n := 2) (Nat.le_of_ble_eq_true rfl)
  rw [show entryFrame m args 2 = entryFrame m ([.ref (xw_ad G 119), .int a1] : List Value).toArray 2 from by rw [hargs], lg_entry_eq]
  generalize (lg_sl [.ref (xw_ad G 119), .int a1] ++ List.replicate (2 - (lg_sl [.ref (xw_ad G 119), .int a1]).length) Slot.unset).toArray = ls at hl ⊢
  have hP : va_P (xw_D G) xw_cl (xw_W G w0) s.heap := hP
  have hl : lv_has ls 2 [(0, .ref (xw_ad G 119)), (1, .int a1)] := hl
  have HH : ∀ (H : Heap) (locs : List Loc) (hP : va_P (xw_D G) xw_cl (xw_W G w0) H) (hS : va_S (xw_A G) s.heap H locs), xw_Wi G p l e (xw_rm (1) (22)) s m args below meth c H locs r0 wz (F0 m 0 ls []) := by
    intro H locs hP hS
    unfold fX8_feed at hf
    refine lv_iload_n hx hb dX8_feed_0 rfl (lv_at hl 1 rfl) ?_
    refine lv_iconst (v := 0) hx hb dX8_feed_1 (by decide) ?_
    refine lv_bipush (v := 127) hx hb dX8_feed_2 (by decide) ?_
    replace hf := xw_bp_e hf
    obtain ⟨r1, he2, hf⟩ := hf
    refine xw_Si hB hK hE hS hP (As := [.int a1, .int (0 : Int32), .int (127 : Int32)]) (rest := []) (kX8_isIn l G hG a1 (0 : Int32) (127 : Int32) w0 _ he2) tw_835 tw_837 tw_836 tw_10 3 hs_X8_isIn ⟨Nat.le_of_ble_eq_true rfl, Nat.le_of_ble_eq_true rfl⟩ rfl hl.1 (Nat.le_of_ble_eq_true rfl) rfl dX8_feed_4 ⟨Nat.zero_le _, Nat.zero_le _⟩ (fun H locs hP hS => ?_)
    refine lv_if_ne (tgt := 13) hx hb dX8_feed_7 (by decide) (fun c3 => ?_) (fun c3 => ?_)
    · replace hf := xw_in' c3 hf
      refine lv_aload_n hx hb dX8_feed_13 rfl (lv_at hl 0 rfl) ?_
      refine xw_get hB hK hP (xw_o8 G) (C := RX8) (T := TX8) (N := 31) rfl TBi_X8 5 (by decide) tw_733 rfl rfl dX8_feed_14 ?_
      refine lv_bipush (v := 100) hx hb dX8_feed_17 (by decide) ?_
      refine lv_icmp_ne (tgt := 25) hx hb dX8_feed_19 (by decide) (fun c4 => ?_) (fun c4 => ?_)
      · replace hf := xw_in' c4 hf
        refine lv_aload_n hx hb dX8_feed_25 rfl (lv_at hl 0 rfl) ?_
        refine xw_get hB hK hP (xw_o8 G) (C := RX8) (T := TX8) (N := 31) rfl TBi_X8 4 (by decide) tw_732 rfl rfl dX8_feed_26 ?_
        refine lv_aload_n hx hb dX8_feed_29 rfl (lv_at hl 0 rfl) ?_
        refine xw_get hB hK hP (xw_o8 G) (C := RX8) (T := TX8) (N := 31) rfl TBi_X8 5 (by decide) tw_733 rfl rfl dX8_feed_30 ?_
        refine lv_iload_n hx hb dX8_feed_33 rfl (lv_at hl 1 rfl) ?_
        replace hf := xw_ck_e hf
        obtain ⟨hi5, hf⟩ := hf
        refine xw_ist hG hB hK hS hP (xw_k123 G) hi5 dX8_feed_34 (fun w6 ew6 H locs hP hS => ?_)
        replace hf := xw_lt_e ew6 hf
        refine lv_aload_n hx hb dX8_feed_35 rfl (lv_at hl 0 rfl) ?_
        refine lv_dup hx hb dX8_feed_36 rfl ?_
        refine xw_get hB hK hP (xw_o8 G) (C := RX8) (T := TX8) (N := 31) rfl TBi_X8 5 (by decide) tw_733 rfl rfl dX8_feed_37 ?_
        refine lv_iconst (v := 1) hx hb dX8_feed_40 (by decide) ?_
        refine lv_iadd hx hb dX8_feed_41 ?_
        refine xw_put hG hB hK hS hP (x := (w6.1 119 5) + (1 : Int32)) (xw_o8 G) (C := RX8) (T := TX8) (N := 31) rfl TBi_X8 tyX8 tyX8_ok nmX8 5 (by decide) tw_733 rfl rfl rfl rfl rfl (Nat.le_of_ble_eq_true rfl) rfl dX8_feed_42 (fun w7 ew7 H locs hP hS => ?_)
        replace hf := xw_lt_e ew7 hf
        refine lv_aload_n hx hb dX8_feed_45 rfl (lv_at hl 0 rfl) ?_
        refine xw_get hB hK hP (xw_o8 G) (C := RX8) (T := TX8) (N := 31) rfl TBi_X8 5 (by decide) tw_733 rfl rfl dX8_feed_46 ?_
        obtain ⟨h0, h1⟩ := xw_s2 hf
        exact xw_iret hB hK hE hS hP hr hlk h0 h1 dX8_feed_49
      · replace hf := xw_ip c4 hf
        refine lv_bipush (v := (-4)) hx hb dX8_feed_22 (by decide) ?_
        obtain ⟨h0, h1⟩ := xw_s2 hf
        exact xw_iret hB hK hE hS hP hr hlk h0 h1 dX8_feed_24
    · replace hf := xw_ip c3 hf
      refine lv_bipush (v := (-2)) hx hb dX8_feed_10 (by decide) ?_
      obtain ⟨h0, h1⟩ := xw_s2 hf
      exact xw_iret hB hK hE hS hP hr hlk h0 h1 dX8_feed_12
  exact HH s.heap [] hP hS
def fX8_parish_104 (n : Nat) (w : xw_M) : Option (Int32 × xw_M) := xw_ck (w.1 119 8) 6 (xw_lt (xw_si w 125 (w.1 119 8).toNatClampNeg (w.1 119 10)) (fun w19 => xw_lt (xw_si w19 119 8 ((w19.1 119 8) + (1 : Int32))) (fun w20 => xw_ck (63 : Int32) 109 (xw_lt (xw_si w20 120 (63 : Int32).toNatClampNeg (w20.1 119 8)) (fun w22 => some ((w22.1 119 8) - (1 : Int32), w22))))))
def fX8_parish_b70 (n : Nat) (x1 : Int32) (w : xw_M) : Option ((Int32 × xw_M) ⊕ (xw_M)) := if (w.1 119 10) ≤ x1 then some (.inr w) else xw_ck x1 100 (xw_ck (((100 : Int32) * (w.1 119 8)) + x1) 600 (xw_lt (xw_si w 124 (((100 : Int32) * (w.1 119 8)) + x1).toNatClampNeg (w.1 126 x1.toNatClampNeg)) (fun w16 => xw_lt (x1 + 1) (fun x1_17 => some (.inl (x1_17, w16))))))
def fX8_parish_70 (n : Nat) (x1 : Int32) (w : xw_M) : Option (Int32 × xw_M) := xw_bp (xw_it (fun z => fX8_parish_b70 n z.1 z.2) n (x1, w)) (fun z => (fun (w : xw_M) => fX8_parish_104 n w) z)
def fX8_parish_48 (n : Nat) (w : xw_M) : Option (Int32 × xw_M) := xw_lt (xw_si w 119 5 (0 : Int32)) (fun w8 => xw_b (fX8_readAll n w8) (fun r9 w10 => if r9 = 0 then some ((-10 : Int32) - (w10.1 119 11), w10) else fX8_parish_70 n (0 : Int32) w10))
def fX8_parish_b22 (n : Nat) (x1 : Int32) (w : xw_M) : Option ((Int32 × xw_M) ⊕ (xw_M)) := if (w.1 119 10) ≤ x1 then some (.inr w) else xw_ck x1 100 (xw_ck x1 100 (xw_lt (xw_si w 126 x1.toNatClampNeg (w.1 123 x1.toNatClampNeg)) (fun w6 => xw_lt (x1 + 1) (fun x1_7 => some (.inl (x1_7, w6))))))
def fX8_parish_22 (n : Nat) (x1 : Int32) (w : xw_M) : Option (Int32 × xw_M) := xw_bp (xw_it (fun z => fX8_parish_b22 n z.1 z.2) n (x1, w)) (fun z => (fun (w : xw_M) => fX8_parish_48 n w) z)
def fX8_parish (n : Nat) (w0 : xw_M) : Option (Int32 × xw_M) := if (w0.1 119 8) = (6 : Int32) then some ((-4 : Int32), w0) else xw_lt (xw_si w0 119 10 (w0.1 119 5)) (fun w2 => fX8_parish_22 n (0 : Int32) w2)
set_option maxHeartbeats 4000000 in
set_option maxRecDepth 100000 in
theorem kX8_parish (l : Launch) (G : xw_G) (hG : xw_ok G) (n : Nat) (w0 : xw_M) (r0 : Int32) (wz : xw_M) (hf : fX8_parish n w0 = some (r0, wz)) : xw_Ti l G yX8_parish cX8_parish 2 ((Option.some Jvm.ClassFile.FieldType.int)) (29) (629) [.ref (xw_ad G 119)] w0 r0 wz := by
  unfold xw_Ti
  refine Met.ofW (cc := cX8_parish) (maxL := 2) (ret := (Option.some Jvm.ClassFile.FieldType.int)) (by decide) rfl ?_
  intro p e s m args below meth c s₁ B hml hv
  obtain ⟨hargs, hP, hK, hE⟩ := hv
  have hx := B.exec
  have hb := B.bytes
  have hr := B.returns
  have hlk := B.notSynchronized
  have hB : CallFix p m c cX8_parish 2 s args TB RX8 := ⟨hx, hb, hml, findClass_of_methodNamed B.named, fun q h => (atoms_spec (ws := Cond.code yX8_parish cX8_parish 2 ((Option.some Jvm.ClassFile.FieldType.int)) :: TB) B.pre) q (List.mem_cons_of_mem _ h)⟩
  have hS : va_S (xw_A G) s.heap s.heap [] := va_S.rf
  have hl := lv_entry [.ref (xw_ad G 119)] (n := 2) (Nat.le_of_ble_eq_true rfl)
  rw [show entryFrame m args 2 = entryFrame m ([.ref (xw_ad G 119)] : List Value).toArray 2 from by rw [hargs], lg_entry_eq]
  generalize (lg_sl [.ref (xw_ad G 119)] ++ List.replicate (2 - (lg_sl [.ref (xw_ad G 119)]).length) Slot.unset).toArray = ls at hl ⊢
  have hP : va_P (xw_D G) xw_cl (xw_W G w0) s.heap := hP
  have hl : lv_has ls 2 [(0, .ref (xw_ad G 119))] := hl
  have HH : ∀ (H : Heap) (locs : List Loc) (hP : va_P (xw_D G) xw_cl (xw_W G w0) H) (hS : va_S (xw_A G) s.heap H locs), xw_Wi G p l e (xw_rm (29) (629)) s m args below meth c H locs r0 wz (F0 m 0 ls []) := by
    intro H locs hP hS
    unfold fX8_parish at hf
    have J104 : ∀ (w : xw_M) (hf : fX8_parish_104 n w = some (r0, wz)) (H : Heap) (locs : List Loc) (ls : Array Slot) (hP : va_P (xw_D G) xw_cl (xw_W G w) H) (hS : va_S (xw_A G) s.heap H locs) (hl : lv_has ls 2 [(0, .ref (xw_ad G 119))]), xw_Wi G p l e (xw_rm (29) (629)) s m args below meth c H locs r0 wz (F0 m 104 ls []) := by
      intro w hf H locs ls hP hS hl
      unfold fX8_parish_104 at hf
      refine lv_aload_n hx hb dX8_parish_104 rfl (lv_at hl 0 rfl) ?_
      refine xw_get hB hK hP (xw_o8 G) (C := RX8) (T := TX8) (N := 31) rfl TBi_X8 7 (by decide) tw_735 rfl rfl dX8_parish_105 ?_
      refine lv_aload_n hx hb dX8_parish_108 rfl (lv_at hl 0 rfl) ?_
      refine xw_get hB hK hP (xw_o8 G) (C := RX8) (T := TX8) (N := 31) rfl TBi_X8 8 (by decide) tw_736 rfl rfl dX8_parish_109 ?_
      refine lv_aload_n hx hb dX8_parish_112 rfl (lv_at hl 0 rfl) ?_
      refine xw_get hB hK hP (xw_o8 G) (C := RX8) (T := TX8) (N := 31) rfl TBi_X8 10 (by decide) tw_738 rfl rfl dX8_parish_113 ?_
      replace hf := xw_ck_e hf
      obtain ⟨hi18, hf⟩ := hf
      refine xw_ist hG hB hK hS hP (xw_k125 G) hi18 dX8_parish_116 (fun w19 ew19 H locs hP hS => ?_)
      replace hf := xw_lt_e ew19 hf
      refine lv_aload_n hx hb dX8_parish_117 rfl (lv_at hl 0 rfl) ?_
      refine lv_dup hx hb dX8_parish_118 rfl ?_
      refine xw_get hB hK hP (xw_o8 G) (C := RX8) (T := TX8) (N := 31) rfl TBi_X8 8 (by decide) tw_736 rfl rfl dX8_parish_119 ?_
      refine lv_iconst (v := 1) hx hb dX8_parish_122 (by decide) ?_
      refine lv_iadd hx hb dX8_parish_123 ?_
      refine xw_put hG hB hK hS hP (x := (w19.1 119 8) + (1 : Int32)) (xw_o8 G) (C := RX8) (T := TX8) (N := 31) rfl TBi_X8 tyX8 tyX8_ok nmX8 8 (by decide) tw_736 rfl rfl rfl rfl rfl (Nat.le_of_ble_eq_true rfl) rfl dX8_parish_124 (fun w20 ew20 H locs hP hS => ?_)
      replace hf := xw_lt_e ew20 hf
      refine lv_aload_n hx hb dX8_parish_127 rfl (lv_at hl 0 rfl) ?_
      refine xw_get hB hK hP (xw_o8 G) (C := RX8) (T := TX8) (N := 31) rfl TBi_X8 0 (by decide) tw_728 rfl rfl dX8_parish_128 ?_
      refine lv_bipush (v := 63) hx hb dX8_parish_131 (by decide) ?_
      refine lv_aload_n hx hb dX8_parish_133 rfl (lv_at hl 0 rfl) ?_
      refine xw_get hB hK hP (xw_o8 G) (C := RX8) (T := TX8) (N := 31) rfl TBi_X8 8 (by decide) tw_736 rfl rfl dX8_parish_134 ?_
      replace hf := xw_ck_e hf
      obtain ⟨hi21, hf⟩ := hf
      refine xw_ist hG hB hK hS hP (xw_k120 G) hi21 dX8_parish_137 (fun w22 ew22 H locs hP hS => ?_)
      replace hf := xw_lt_e ew22 hf
      refine lv_aload_n hx hb dX8_parish_138 rfl (lv_at hl 0 rfl) ?_
      refine xw_get hB hK hP (xw_o8 G) (C := RX8) (T := TX8) (N := 31) rfl TBi_X8 8 (by decide) tw_736 rfl rfl dX8_parish_139 ?_
      refine lv_iconst (v := 1) hx hb dX8_parish_142 (by decide) ?_
      refine lv_isub hx hb dX8_parish_143 ?_
      obtain ⟨h0, h1⟩ := xw_s2 hf
      exact xw_iret hB hK hE hS hP hr hlk h0 h1 dX8_parish_144
    have J70 : ∀ (x1 : Int32) (w : xw_M) (hf : fX8_parish_70 n x1 w = some (r0, wz)) (H : Heap) (locs : List Loc) (ls : Array Slot) (hP : va_P (xw_D G) xw_cl (xw_W G w) H) (hS : va_S (xw_A G) s.heap H locs) (hl : lv_has ls 2 [(0, .ref (xw_ad G 119)), (1, .int x1)]), xw_Wi G p l e (xw_rm (29) (629)) s m args below meth c H locs r0 wz (F0 m 70 ls []) := by
      intro x1 w hf H locs ls hP hS hl
      unfold fX8_parish_70 at hf
      replace hf := xw_bp_e hf
      obtain ⟨bb70, hit70, hfx70⟩ := hf
      have XX70 : ∀ (w : xw_M) (hf : fX8_parish_104 n w = some (r0, wz)) (H : Heap) (locs : List Loc) (ls : Array Slot) (hP : va_P (xw_D G) xw_cl (xw_W G w) H) (hS : va_S (xw_A G) s.heap H locs) (hl : lv_has ls 2 [(0, .ref (xw_ad G 119))]), xw_Wi G p l e (xw_rm (29) (629)) s m args below meth c H locs r0 wz (F0 m 104 ls []) := by
        intro w hf H locs ls hP hS hl
        exact J104 w hf H locs ls hP hS (lv_sub hl [0] rfl)
      have LL70 : ∀ (nn : Nat) (x1 : Int32) (w : xw_M) (hit : xw_it (fun z => fX8_parish_b70 n z.1 z.2) nn (x1, w) = some bb70) (H : Heap) (locs : List Loc) (ls : Array Slot) (hP : va_P (xw_D G) xw_cl (xw_W G w) H) (hS : va_S (xw_A G) s.heap H locs) (hl : lv_has ls 2 [(0, .ref (xw_ad G 119)), (1, .int x1)]), xw_Wi G p l e (xw_rm (29) (629)) s m args below meth c H locs r0 wz (F0 m 70 ls []) := by
        intro nn
        induction nn with
        | zero => intro x1 w hit; exact (xw_it_0 hit).elim
        | succ nn ih70 =>
          intro x1 w hit H locs ls hP hS hl
          replace hit := xw_it_e hit
          obtain ⟨wv70, hf, hC70, hX70⟩ := hit
          replace hf : fX8_parish_b70 n x1 w = some wv70 := hf
          unfold fX8_parish_b70 at hf
          refine lv_iload_n hx hb dX8_parish_70 rfl (lv_at hl 1 rfl) ?_
          refine lv_aload_n hx hb dX8_parish_71 rfl (lv_at hl 0 rfl) ?_
          refine xw_get hB hK hP (xw_o8 G) (C := RX8) (T := TX8) (N := 31) rfl TBi_X8 10 (by decide) tw_738 rfl rfl dX8_parish_72 ?_
          refine lv_icmp_ge (tgt := 104) hx hb dX8_parish_75 (by decide) (fun c13 => ?_) (fun c13 => ?_)
          · replace hf := xw_ip c13 hf
            have he70 := hX70 _ (xw_so hf).symm
            rw [← he70] at hfx70
            exact XX70 w hfx70 H locs ls hP hS (lv_sub hl [0] rfl)
          · replace hf := xw_in' c13 hf
            refine lv_aload_n hx hb dX8_parish_78 rfl (lv_at hl 0 rfl) ?_
            refine xw_get hB hK hP (xw_o8 G) (C := RX8) (T := TX8) (N := 31) rfl TBi_X8 6 (by decide) tw_734 rfl rfl dX8_parish_79 ?_
            refine lv_bipush (v := 100) hx hb dX8_parish_82 (by decide) ?_
            refine lv_aload_n hx hb dX8_parish_84 rfl (lv_at hl 0 rfl) ?_
            refine xw_get hB hK hP (xw_o8 G) (C := RX8) (T := TX8) (N := 31) rfl TBi_X8 8 (by decide) tw_736 rfl rfl dX8_parish_85 ?_
            refine lv_imul hx hb dX8_parish_88 ?_
            refine lv_iload_n hx hb dX8_parish_89 rfl (lv_at hl 1 rfl) ?_
            refine lv_iadd hx hb dX8_parish_90 ?_
            refine lv_aload_n hx hb dX8_parish_91 rfl (lv_at hl 0 rfl) ?_
            refine xw_get hB hK hP (xw_o8 G) (C := RX8) (T := TX8) (N := 31) rfl TBi_X8 9 (by decide) tw_737 rfl rfl dX8_parish_92 ?_
            refine lv_iload_n hx hb dX8_parish_95 rfl (lv_at hl 1 rfl) ?_
            replace hf := xw_ck_e hf
            obtain ⟨hi14, hf⟩ := hf
            refine xw_ild hB hK hP (xw_k126 G) hi14 dX8_parish_96 ?_
            replace hf := xw_ck_e hf
            obtain ⟨hi15, hf⟩ := hf
            refine xw_ist hG hB hK hS hP (xw_k124 G) hi15 dX8_parish_97 (fun w16 ew16 H locs hP hS => ?_)
            replace hf := xw_lt_e ew16 hf
            obtain ⟨x1_17, ex1_17⟩ : ∃ y : Int32, y = x1 + 1 := ⟨_, rfl⟩
            replace hf := xw_lt_e ex1_17 hf
            refine lv_iinc (v := x1_17) (lv' := [(1, .int x1_17), (0, .ref (xw_ad G 119))]) hx hb dX8_parish_98 hl (k := 1) rfl (by rw [ex1_17]; rfl) (by decide) rfl (fun ls hl => ?_)
            refine lv_goto (tgt := 70) hx hb dX8_parish_101 (by decide) ?_
            have hi := hC70 _ (xw_so hf).symm
            exact ih70 x1_17 w16 hi H locs ls hP hS (lv_sub hl [1, 0] rfl)
      exact LL70 n x1 w hit70 H locs ls hP hS hl
    have J48 : ∀ (w : xw_M) (hf : fX8_parish_48 n w = some (r0, wz)) (H : Heap) (locs : List Loc) (ls : Array Slot) (hP : va_P (xw_D G) xw_cl (xw_W G w) H) (hS : va_S (xw_A G) s.heap H locs) (hl : lv_has ls 2 [(0, .ref (xw_ad G 119))]), xw_Wi G p l e (xw_rm (29) (629)) s m args below meth c H locs r0 wz (F0 m 48 ls []) := by
      intro w hf H locs ls hP hS hl
      unfold fX8_parish_48 at hf
      refine lv_aload_n hx hb dX8_parish_48 rfl (lv_at hl 0 rfl) ?_
      refine lv_iconst (v := 0) hx hb dX8_parish_49 (by decide) ?_
      refine xw_put hG hB hK hS hP (x := (0 : Int32)) (xw_o8 G) (C := RX8) (T := TX8) (N := 31) rfl TBi_X8 tyX8 tyX8_ok nmX8 5 (by decide) tw_733 rfl rfl rfl rfl rfl (Nat.le_of_ble_eq_true rfl) rfl dX8_parish_50 (fun w8 ew8 H locs hP hS => ?_)
      replace hf := xw_lt_e ew8 hf
      refine lv_aload_n hx hb dX8_parish_53 rfl (lv_at hl 0 rfl) ?_
      replace hf := xw_b_e hf
      obtain ⟨r9, w10, he11, hf⟩ := hf
      refine xw_Vi hB hK hE hS hP (As := []) (rest := []) (kX8_readAll l G hG n w8 _ _ he11) gs_X8_169 (xw_rc hK hP (C := RX8) (T := TX8) (N := 31) (xw_o8 G) rfl) 0 hv_X8_readAll ⟨Nat.le_of_ble_eq_true rfl, Nat.le_of_ble_eq_true rfl⟩ rfl hl.1 (Nat.le_of_ble_eq_true rfl) rfl dX8_parish_54 ⟨Nat.zero_le _, Nat.zero_le _⟩ (fun H locs hP hS => ?_)
      refine lv_if_ne (tgt := 68) hx hb dX8_parish_57 (by decide) (fun c12 => ?_) (fun c12 => ?_)
      · replace hf := xw_in' c12 hf
        refine lv_iconst (v := 0) hx hb dX8_parish_68 (by decide) ?_
        refine lv_istore_n (lv' := [(1, .int (0 : Int32)), (0, .ref (xw_ad G 119))]) hx hb dX8_parish_69 rfl hl (by decide) rfl (fun ls hl => ?_)
        exact J70 (0 : Int32) w10 hf H locs ls hP hS (lv_sub hl [1, 0] rfl)
      · replace hf := xw_ip c12 hf
        refine lv_bipush (v := (-10)) hx hb dX8_parish_60 (by decide) ?_
        refine lv_aload_n hx hb dX8_parish_62 rfl (lv_at hl 0 rfl) ?_
        refine xw_get hB hK hP (xw_o8 G) (C := RX8) (T := TX8) (N := 31) rfl TBi_X8 11 (by decide) tw_739 rfl rfl dX8_parish_63 ?_
        refine lv_isub hx hb dX8_parish_66 ?_
        obtain ⟨h0, h1⟩ := xw_s2 hf
        exact xw_iret hB hK hE hS hP hr hlk h0 h1 dX8_parish_67
    have J22 : ∀ (x1 : Int32) (w : xw_M) (hf : fX8_parish_22 n x1 w = some (r0, wz)) (H : Heap) (locs : List Loc) (ls : Array Slot) (hP : va_P (xw_D G) xw_cl (xw_W G w) H) (hS : va_S (xw_A G) s.heap H locs) (hl : lv_has ls 2 [(0, .ref (xw_ad G 119)), (1, .int x1)]), xw_Wi G p l e (xw_rm (29) (629)) s m args below meth c H locs r0 wz (F0 m 22 ls []) := by
      intro x1 w hf H locs ls hP hS hl
      unfold fX8_parish_22 at hf
      replace hf := xw_bp_e hf
      obtain ⟨bb22, hit22, hfx22⟩ := hf
      have XX22 : ∀ (w : xw_M) (hf : fX8_parish_48 n w = some (r0, wz)) (H : Heap) (locs : List Loc) (ls : Array Slot) (hP : va_P (xw_D G) xw_cl (xw_W G w) H) (hS : va_S (xw_A G) s.heap H locs) (hl : lv_has ls 2 [(0, .ref (xw_ad G 119))]), xw_Wi G p l e (xw_rm (29) (629)) s m args below meth c H locs r0 wz (F0 m 48 ls []) := by
        intro w hf H locs ls hP hS hl
        exact J48 w hf H locs ls hP hS (lv_sub hl [0] rfl)
      have LL22 : ∀ (nn : Nat) (x1 : Int32) (w : xw_M) (hit : xw_it (fun z => fX8_parish_b22 n z.1 z.2) nn (x1, w) = some bb22) (H : Heap) (locs : List Loc) (ls : Array Slot) (hP : va_P (xw_D G) xw_cl (xw_W G w) H) (hS : va_S (xw_A G) s.heap H locs) (hl : lv_has ls 2 [(0, .ref (xw_ad G 119)), (1, .int x1)]), xw_Wi G p l e (xw_rm (29) (629)) s m args below meth c H locs r0 wz (F0 m 22 ls []) := by
        intro nn
        induction nn with
        | zero => intro x1 w hit; exact (xw_it_0 hit).elim
        | succ nn ih22 =>
          intro x1 w hit H locs ls hP hS hl
          replace hit := xw_it_e hit
          obtain ⟨wv22, hf, hC22, hX22⟩ := hit
          replace hf : fX8_parish_b22 n x1 w = some wv22 := hf
          unfold fX8_parish_b22 at hf
          refine lv_iload_n hx hb dX8_parish_22 rfl (lv_at hl 1 rfl) ?_
          refine lv_aload_n hx hb dX8_parish_23 rfl (lv_at hl 0 rfl) ?_
          refine xw_get hB hK hP (xw_o8 G) (C := RX8) (T := TX8) (N := 31) rfl TBi_X8 10 (by decide) tw_738 rfl rfl dX8_parish_24 ?_
          refine lv_icmp_ge (tgt := 48) hx hb dX8_parish_27 (by decide) (fun c3 => ?_) (fun c3 => ?_)
          · replace hf := xw_ip c3 hf
            have he22 := hX22 _ (xw_so hf).symm
            rw [← he22] at hfx22
            exact XX22 w hfx22 H locs ls hP hS (lv_sub hl [0] rfl)
          · replace hf := xw_in' c3 hf
            refine lv_aload_n hx hb dX8_parish_30 rfl (lv_at hl 0 rfl) ?_
            refine xw_get hB hK hP (xw_o8 G) (C := RX8) (T := TX8) (N := 31) rfl TBi_X8 9 (by decide) tw_737 rfl rfl dX8_parish_31 ?_
            refine lv_iload_n hx hb dX8_parish_34 rfl (lv_at hl 1 rfl) ?_
            refine lv_aload_n hx hb dX8_parish_35 rfl (lv_at hl 0 rfl) ?_
            refine xw_get hB hK hP (xw_o8 G) (C := RX8) (T := TX8) (N := 31) rfl TBi_X8 4 (by decide) tw_732 rfl rfl dX8_parish_36 ?_
            refine lv_iload_n hx hb dX8_parish_39 rfl (lv_at hl 1 rfl) ?_
            replace hf := xw_ck_e hf
            obtain ⟨hi4, hf⟩ := hf
            refine xw_ild hB hK hP (xw_k123 G) hi4 dX8_parish_40 ?_
            replace hf := xw_ck_e hf
            obtain ⟨hi5, hf⟩ := hf
            refine xw_ist hG hB hK hS hP (xw_k126 G) hi5 dX8_parish_41 (fun w6 ew6 H locs hP hS => ?_)
            replace hf := xw_lt_e ew6 hf
            obtain ⟨x1_7, ex1_7⟩ : ∃ y : Int32, y = x1 + 1 := ⟨_, rfl⟩
            replace hf := xw_lt_e ex1_7 hf
            refine lv_iinc (v := x1_7) (lv' := [(1, .int x1_7), (0, .ref (xw_ad G 119))]) hx hb dX8_parish_42 hl (k := 1) rfl (by rw [ex1_7]; rfl) (by decide) rfl (fun ls hl => ?_)
            refine lv_goto (tgt := 22) hx hb dX8_parish_45 (by decide) ?_
            have hi := hC22 _ (xw_so hf).symm
            exact ih22 x1_7 w6 hi H locs ls hP hS (lv_sub hl [1, 0] rfl)
      exact LL22 n x1 w hit22 H locs ls hP hS hl
    refine lv_aload_n hx hb dX8_parish_0 rfl (lv_at hl 0 rfl) ?_
    refine xw_get hB hK hP (xw_o8 G) (C := RX8) (T := TX8) (N := 31) rfl TBi_X8 8 (by decide) tw_736 rfl rfl dX8_parish_1 ?_
    refine lv_bipush (v := 6) hx hb dX8_parish_4 (by decide) ?_
    refine lv_icmp_ne (tgt := 12) hx hb dX8_parish_6 (by decide) (fun c1 => ?_) (fun c1 => ?_)
    · replace hf := xw_in' c1 hf
      refine lv_aload_n hx hb dX8_parish_12 rfl (lv_at hl 0 rfl) ?_
      refine lv_aload_n hx hb dX8_parish_13 rfl (lv_at hl 0 rfl) ?_
      refine xw_get hB hK hP (xw_o8 G) (C := RX8) (T := TX8) (N := 31) rfl TBi_X8 5 (by decide) tw_733 rfl rfl dX8_parish_14 ?_
      refine xw_put hG hB hK hS hP (x := w0.1 119 5) (xw_o8 G) (C := RX8) (T := TX8) (N := 31) rfl TBi_X8 tyX8 tyX8_ok nmX8 10 (by decide) tw_738 rfl rfl rfl rfl rfl (Nat.le_of_ble_eq_true rfl) rfl dX8_parish_17 (fun w2 ew2 H locs hP hS => ?_)
      replace hf := xw_lt_e ew2 hf
      refine lv_iconst (v := 0) hx hb dX8_parish_20 (by decide) ?_
      refine lv_istore_n (lv' := [(1, .int (0 : Int32)), (0, .ref (xw_ad G 119))]) hx hb dX8_parish_21 rfl hl (by decide) rfl (fun ls hl => ?_)
      exact J22 (0 : Int32) w2 hf H locs ls hP hS (lv_sub hl [1, 0] rfl)
    · replace hf := xw_ip c1 hf
      refine lv_bipush (v := (-4)) hx hb dX8_parish_9 (by decide) ?_
      obtain ⟨h0, h1⟩ := xw_s2 hf
      exact xw_iret hB hK hE hS hP hr hlk h0 h1 dX8_parish_11
  exact HH s.heap [] hP hS
def fX8_aways_39 (n : Nat) (x1 : Int32) (w0 : xw_M) : Option Int32 := some x1
def fX8_aways_31 (n : Nat) (x2 : Int32) (v0 : Int32) (v1 : Int32) (w0 : xw_M) : Option ((Int32 × Int32) ⊕ (Int32)) := xw_lt (v0 ||| v1) (fun x1_6 => xw_lt (x2 + 1) (fun x2_7 => some (.inl (x1_6, x2_7))))
def fX8_aways_b4 (n : Nat) (x1 : Int32) (x2 : Int32) (w0 : xw_M) : Option ((Int32 × Int32) ⊕ (Int32)) := xw_ck (60 : Int32) 109 (if (w0.1 120 (60 : Int32).toNatClampNeg) ≤ x2 then some (.inr x1) else xw_bp (fX8_isHere x2 w0) (fun r3 => if r3 = 0 then fX8_aways_31 n x2 x1 ((1 : Int32) <<< (x2 &&& 31)) w0 else fX8_aways_31 n x2 x1 (0 : Int32) w0))
def fX8_aways_4 (n : Nat) (x1 : Int32) (x2 : Int32) (w0 : xw_M) : Option Int32 := xw_bp (xw_it (fun z => fX8_aways_b4 n z.1 z.2 w0) n (x1, x2)) (fun z => (fun (x1 : Int32) => fX8_aways_39 n x1 w0) z)
def fX8_aways (n : Nat) (w0 : xw_M) : Option Int32 := fX8_aways_4 n (0 : Int32) (0 : Int32) w0
set_option maxHeartbeats 4000000 in
set_option maxRecDepth 100000 in
theorem kX8_aways (l : Launch) (G : xw_G) (hG : xw_ok G) (n : Nat) (w0 : xw_M) (r0 : Int32) (hf : fX8_aways n w0 = some r0) : xw_Ti l G yX8_aways cX8_aways 3 ((Option.some Jvm.ClassFile.FieldType.int)) (2) (43) [.ref (xw_ad G 119)] w0 r0 w0 := by
  unfold xw_Ti
  refine Met.ofW (cc := cX8_aways) (maxL := 3) (ret := (Option.some Jvm.ClassFile.FieldType.int)) (by decide) rfl ?_
  intro p e s m args below meth c s₁ B hml hv
  obtain ⟨hargs, hP, hK, hE⟩ := hv
  have hx := B.exec
  have hb := B.bytes
  have hr := B.returns
  have hlk := B.notSynchronized
  have hB : CallFix p m c cX8_aways 3 s args TB RX8 := ⟨hx, hb, hml, findClass_of_methodNamed B.named, fun q h => (atoms_spec (ws := Cond.code yX8_aways cX8_aways 3 ((Option.some Jvm.ClassFile.FieldType.int)) :: TB) B.pre) q (List.mem_cons_of_mem _ h)⟩
  have hS : va_S (xw_A G) s.heap s.heap [] := va_S.rf
  have hl := lv_entry [.ref (xw_ad G 119)] (n := 3) (Nat.le_of_ble_eq_true rfl)
  rw [show entryFrame m args 3 = entryFrame m ([.ref (xw_ad G 119)] : List Value).toArray 3 from by rw [hargs], lg_entry_eq]
  generalize (lg_sl [.ref (xw_ad G 119)] ++ List.replicate (3 - (lg_sl [.ref (xw_ad G 119)]).length) Slot.unset).toArray = ls at hl ⊢
  have hP : va_P (xw_D G) xw_cl (xw_W G w0) s.heap := hP
  have hl : lv_has ls 3 [(0, .ref (xw_ad G 119))] := hl
  have HH : ∀ (H : Heap) (locs : List Loc) (hP : va_P (xw_D G) xw_cl (xw_W G w0) H) (hS : va_S (xw_A G) s.heap H locs), xw_Wi G p l e (xw_rm (2) (43)) s m args below meth c H locs r0 w0 (F0 m 0 ls []) := by
    intro H locs hP hS
    unfold fX8_aways at hf
    have J39 : ∀ (x1 : Int32) (hf : fX8_aways_39 n x1 w0 = some r0) (H : Heap) (locs : List Loc) (ls : Array Slot) (hP : va_P (xw_D G) xw_cl (xw_W G w0) H) (hS : va_S (xw_A G) s.heap H locs) (hl : lv_has ls 3 [(1, .int x1)]), xw_Wi G p l e (xw_rm (2) (43)) s m args below meth c H locs r0 w0 (F0 m 39 ls []) := by
      intro x1 hf H locs ls hP hS hl
      unfold fX8_aways_39 at hf
      refine lv_iload_n hx hb dX8_aways_39 rfl (lv_at hl 0 rfl) ?_
      have h0 := xw_so hf
      have h1 : w0 = w0 := rfl
      exact xw_iret hB hK hE hS hP hr hlk h0 h1 dX8_aways_40
    have J4 : ∀ (x1 : Int32) (x2 : Int32) (hf : fX8_aways_4 n x1 x2 w0 = some r0) (H : Heap) (locs : List Loc) (ls : Array Slot) (hP : va_P (xw_D G) xw_cl (xw_W G w0) H) (hS : va_S (xw_A G) s.heap H locs) (hl : lv_has ls 3 [(0, .ref (xw_ad G 119)), (1, .int x1), (2, .int x2)]), xw_Wi G p l e (xw_rm (2) (43)) s m args below meth c H locs r0 w0 (F0 m 4 ls []) := by
      intro x1 x2 hf H locs ls hP hS hl
      unfold fX8_aways_4 at hf
      replace hf := xw_bp_e hf
      obtain ⟨bb4, hit4, hfx4⟩ := hf
      have XX4 : ∀ (x1 : Int32) (hf : fX8_aways_39 n x1 w0 = some r0) (H : Heap) (locs : List Loc) (ls : Array Slot) (hP : va_P (xw_D G) xw_cl (xw_W G w0) H) (hS : va_S (xw_A G) s.heap H locs) (hl : lv_has ls 3 [(1, .int x1)]), xw_Wi G p l e (xw_rm (2) (43)) s m args below meth c H locs r0 w0 (F0 m 39 ls []) := by
        intro x1 hf H locs ls hP hS hl
        exact J39 x1 hf H locs ls hP hS (lv_sub hl [0] rfl)
      have LL4 : ∀ (nn : Nat) (x1 : Int32) (x2 : Int32) (hit : xw_it (fun z => fX8_aways_b4 n z.1 z.2 w0) nn (x1, x2) = some bb4) (H : Heap) (locs : List Loc) (ls : Array Slot) (hP : va_P (xw_D G) xw_cl (xw_W G w0) H) (hS : va_S (xw_A G) s.heap H locs) (hl : lv_has ls 3 [(0, .ref (xw_ad G 119)), (1, .int x1), (2, .int x2)]), xw_Wi G p l e (xw_rm (2) (43)) s m args below meth c H locs r0 w0 (F0 m 4 ls []) := by
        intro nn
        induction nn with
        | zero => intro x1 x2 hit; exact (xw_it_0 hit).elim
        | succ nn ih4 =>
          intro x1 x2 hit H locs ls hP hS hl
          replace hit := xw_it_e hit
          obtain ⟨wv4, hf, hC4, hX4⟩ := hit
          replace hf : fX8_aways_b4 n x1 x2 w0 = some wv4 := hf
          unfold fX8_aways_b4 at hf
          have J31 : ∀ (x2 : Int32) (v0 : Int32) (v1 : Int32) (hf : fX8_aways_31 n x2 v0 v1 w0 = some wv4) (H : Heap) (locs : List Loc) (ls : Array Slot) (hP : va_P (xw_D G) xw_cl (xw_W G w0) H) (hS : va_S (xw_A G) s.heap H locs) (hl : lv_has ls 3 [(0, .ref (xw_ad G 119)), (2, .int x2)]), xw_Wi G p l e (xw_rm (2) (43)) s m args below meth c H locs r0 w0 (F0 m 31 ls [.int v1, .int v0]) := by
            intro x2 v0 v1 hf H locs ls hP hS hl
            unfold fX8_aways_31 at hf
            refine lv_ior hx hb dX8_aways_31 ?_
            refine lv_topi (fun x1_6 ex1_6 => ?_)
            replace hf := xw_lt_e ex1_6 hf
            refine lv_istore_n (lv' := [(1, .int x1_6), (0, .ref (xw_ad G 119)), (2, .int x2)]) hx hb dX8_aways_32 rfl hl (by decide) rfl (fun ls hl => ?_)
            obtain ⟨x2_7, ex2_7⟩ : ∃ y : Int32, y = x2 + 1 := ⟨_, rfl⟩
            replace hf := xw_lt_e ex2_7 hf
            refine lv_iinc (v := x2_7) (lv' := [(2, .int x2_7), (1, .int x1_6), (0, .ref (xw_ad G 119))]) hx hb dX8_aways_33 hl (k := 2) rfl (by rw [ex2_7]; rfl) (by decide) rfl (fun ls hl => ?_)
            refine lv_goto (tgt := 4) hx hb dX8_aways_36 (by decide) ?_
            have hi := hC4 _ (xw_so hf).symm
            exact ih4 x1_6 x2_7 hi H locs ls hP hS (lv_sub hl [2, 1, 0] rfl)
          refine lv_iload_n hx hb dX8_aways_4 rfl (lv_at hl 2 rfl) ?_
          refine lv_aload_n hx hb dX8_aways_5 rfl (lv_at hl 0 rfl) ?_
          refine xw_get hB hK hP (xw_o8 G) (C := RX8) (T := TX8) (N := 31) rfl TBi_X8 0 (by decide) tw_728 rfl rfl dX8_aways_6 ?_
          refine lv_bipush (v := 60) hx hb dX8_aways_9 (by decide) ?_
          replace hf := xw_ck_e hf
          obtain ⟨hi1, hf⟩ := hf
          refine xw_ild hB hK hP (xw_k120 G) hi1 dX8_aways_11 ?_
          refine lv_icmp_ge (tgt := 39) hx hb dX8_aways_12 (by decide) (fun c2 => ?_) (fun c2 => ?_)
          · replace hf := xw_ip c2 hf
            have he4 := hX4 _ (xw_so hf).symm
            rw [← he4] at hfx4
            exact XX4 x1 hfx4 H locs ls hP hS (lv_sub hl [1] rfl)
          · replace hf := xw_in' c2 hf
            refine lv_iload_n hx hb dX8_aways_15 rfl (lv_at hl 1 rfl) ?_
            refine lv_aload_n hx hb dX8_aways_16 rfl (lv_at hl 0 rfl) ?_
            refine lv_iload_n hx hb dX8_aways_17 rfl (lv_at hl 2 rfl) ?_
            replace hf := xw_bp_e hf
            obtain ⟨r3, he4, hf⟩ := hf
            refine xw_Vi hB hK hE hS hP (As := [.int x2]) (rest := [.int x1]) (kX8_isHere l G hG x2 w0 _ he4) gs_X8_179 (xw_rc hK hP (C := RX8) (T := TX8) (N := 31) (xw_o8 G) rfl) 1 hv_X8_isHere ⟨Nat.le_of_ble_eq_true rfl, Nat.le_of_ble_eq_true rfl⟩ rfl hl.1 (Nat.le_of_ble_eq_true rfl) rfl dX8_aways_18 ⟨Nat.zero_le _, Nat.zero_le _⟩ (fun H locs hP hS => ?_)
            refine lv_if_eq (tgt := 28) hx hb dX8_aways_21 (by decide) (fun c5 => ?_) (fun c5 => ?_)
            · replace hf := xw_ip c5 hf
              refine lv_iconst (v := 1) hx hb dX8_aways_28 (by decide) ?_
              refine lv_iload_n hx hb dX8_aways_29 rfl (lv_at hl 2 rfl) ?_
              refine lv_ishl hx hb dX8_aways_30 ?_
              exact J31 x2 x1 ((1 : Int32) <<< (x2 &&& 31)) hf H locs ls hP hS (lv_sub hl [0, 2] rfl)
            · replace hf := xw_in' c5 hf
              refine lv_iconst (v := 0) hx hb dX8_aways_24 (by decide) ?_
              refine lv_goto (tgt := 31) hx hb dX8_aways_25 (by decide) ?_
              exact J31 x2 x1 (0 : Int32) hf H locs ls hP hS (lv_sub hl [0, 2] rfl)
      exact LL4 n x1 x2 hit4 H locs ls hP hS hl
    refine lv_iconst (v := 0) hx hb dX8_aways_0 (by decide) ?_
    refine lv_istore_n (lv' := [(1, .int (0 : Int32)), (0, .ref (xw_ad G 119))]) hx hb dX8_aways_1 rfl hl (by decide) rfl (fun ls hl => ?_)
    refine lv_iconst (v := 0) hx hb dX8_aways_2 (by decide) ?_
    refine lv_istore_n (lv' := [(2, .int (0 : Int32)), (1, .int (0 : Int32)), (0, .ref (xw_ad G 119))]) hx hb dX8_aways_3 rfl hl (by decide) rfl (fun ls hl => ?_)
    exact J4 (0 : Int32) (0 : Int32) hf H locs ls hP hS (lv_sub hl [2, 1, 0] rfl)
  exact HH s.heap [] hP hS
def fX8_keep_31 (n : Nat) (a1 : Int32) (w : xw_M) : Option (Unit × xw_M) := some ((), w)
def fX8_keep_b2 (n : Nat) (a1 : Int32) (x2 : Int32) (w : xw_M) : Option ((Int32 × xw_M) ⊕ (xw_M)) := if (109 : Int32) ≤ x2 then some (.inr w) else xw_ck x2 109 (xw_ck (((109 : Int32) * a1) + x2) 218 (xw_lt (xw_si w 121 (((109 : Int32) * a1) + x2).toNatClampNeg (w.1 120 x2.toNatClampNeg)) (fun w4 => xw_lt (x2 + 1) (fun x2_5 => some (.inl (x2_5, w4))))))
def fX8_keep_2 (n : Nat) (a1 : Int32) (x2 : Int32) (w : xw_M) : Option (Unit × xw_M) := xw_bp (xw_it (fun z => fX8_keep_b2 n a1 z.1 z.2) n (x2, w)) (fun z => (fun (w : xw_M) => fX8_keep_31 n a1 w) z)
def fX8_keep (n : Nat) (a1 : Int32) (w0 : xw_M) : Option (Unit × xw_M) := fX8_keep_2 n a1 (0 : Int32) w0
set_option maxHeartbeats 4000000 in
set_option maxRecDepth 100000 in
theorem kX8_keep (l : Launch) (G : xw_G) (hG : xw_ok G) (n : Nat) (a1 : Int32) (w0 : xw_M) (r0 : Unit) (wz : xw_M) (hf : fX8_keep n a1 w0 = some (r0, wz)) : xw_Tv l G yX8_keep cX8_keep 3 ((Option.none : Option Jvm.ClassFile.FieldType)) (0) (0) [.ref (xw_ad G 119), .int a1] w0 r0 wz := by
  unfold xw_Tv
  refine Met.ofW (cc := cX8_keep) (maxL := 3) (ret := (Option.none : Option Jvm.ClassFile.FieldType)) (by decide) rfl ?_
  intro p e s m args below meth c s₁ B hml hv
  obtain ⟨hargs, hP, hK, hE⟩ := hv
  have hx := B.exec
  have hb := B.bytes
  have hr := B.returns
  have hlk := B.notSynchronized
  have hB : CallFix p m c cX8_keep 3 s args TB RX8 := ⟨hx, hb, hml, findClass_of_methodNamed B.named, fun q h => (atoms_spec (ws := Cond.code yX8_keep cX8_keep 3 ((Option.none : Option Jvm.ClassFile.FieldType)) :: TB) B.pre) q (List.mem_cons_of_mem _ h)⟩
  have hS : va_S (xw_A G) s.heap s.heap [] := va_S.rf
  have hl := lv_entry [.ref (xw_ad G 119), .int a1] (n := 3) (Nat.le_of_ble_eq_true rfl)
  rw [show entryFrame m args 3 = entryFrame m ([.ref (xw_ad G 119), .int a1] : List Value).toArray 3 from by rw [hargs], lg_entry_eq]
  generalize (lg_sl [.ref (xw_ad G 119), .int a1] ++ List.replicate (3 - (lg_sl [.ref (xw_ad G 119), .int a1]).length) Slot.unset).toArray = ls at hl ⊢
  have hP : va_P (xw_D G) xw_cl (xw_W G w0) s.heap := hP
  have hl : lv_has ls 3 [(0, .ref (xw_ad G 119)), (1, .int a1)] := hl
  have HH : ∀ (H : Heap) (locs : List Loc) (hP : va_P (xw_D G) xw_cl (xw_W G w0) H) (hS : va_S (xw_A G) s.heap H locs), xw_Wv G p l e (xw_rm (0) (0)) s m args below meth c H locs r0 wz (F0 m 0 ls []) := by
    intro H locs hP hS
    unfold fX8_keep at hf
    have J31 : ∀ (w : xw_M) (hf : fX8_keep_31 n a1 w = some (r0, wz)) (H : Heap) (locs : List Loc) (ls : Array Slot) (hP : va_P (xw_D G) xw_cl (xw_W G w) H) (hS : va_S (xw_A G) s.heap H locs) (hl : lv_has ls 3 []), xw_Wv G p l e (xw_rm (0) (0)) s m args below meth c H locs r0 wz (F0 m 31 ls []) := by
      intro w hf H locs ls hP hS hl
      unfold fX8_keep_31 at hf
      obtain ⟨h0, h1⟩ := xw_s2 hf
      exact xw_vret hB hK hE hS hP hr hlk h1 dX8_keep_31
    have J2 : ∀ (x2 : Int32) (w : xw_M) (hf : fX8_keep_2 n a1 x2 w = some (r0, wz)) (H : Heap) (locs : List Loc) (ls : Array Slot) (hP : va_P (xw_D G) xw_cl (xw_W G w) H) (hS : va_S (xw_A G) s.heap H locs) (hl : lv_has ls 3 [(0, .ref (xw_ad G 119)), (1, .int a1), (2, .int x2)]), xw_Wv G p l e (xw_rm (0) (0)) s m args below meth c H locs r0 wz (F0 m 2 ls []) := by
      intro x2 w hf H locs ls hP hS hl
      unfold fX8_keep_2 at hf
      replace hf := xw_bp_e hf
      obtain ⟨bb2, hit2, hfx2⟩ := hf
      have XX2 : ∀ (w : xw_M) (hf : fX8_keep_31 n a1 w = some (r0, wz)) (H : Heap) (locs : List Loc) (ls : Array Slot) (hP : va_P (xw_D G) xw_cl (xw_W G w) H) (hS : va_S (xw_A G) s.heap H locs) (hl : lv_has ls 3 []), xw_Wv G p l e (xw_rm (0) (0)) s m args below meth c H locs r0 wz (F0 m 31 ls []) := by
        intro w hf H locs ls hP hS hl
        exact J31 w hf H locs ls hP hS (lv_sub hl [] rfl)
      have LL2 : ∀ (nn : Nat) (x2 : Int32) (w : xw_M) (hit : xw_it (fun z => fX8_keep_b2 n a1 z.1 z.2) nn (x2, w) = some bb2) (H : Heap) (locs : List Loc) (ls : Array Slot) (hP : va_P (xw_D G) xw_cl (xw_W G w) H) (hS : va_S (xw_A G) s.heap H locs) (hl : lv_has ls 3 [(0, .ref (xw_ad G 119)), (1, .int a1), (2, .int x2)]), xw_Wv G p l e (xw_rm (0) (0)) s m args below meth c H locs r0 wz (F0 m 2 ls []) := by
        intro nn
        induction nn with
        | zero => intro x2 w hit; exact (xw_it_0 hit).elim
        | succ nn ih2 =>
          intro x2 w hit H locs ls hP hS hl
          replace hit := xw_it_e hit
          obtain ⟨wv2, hf, hC2, hX2⟩ := hit
          replace hf : fX8_keep_b2 n a1 x2 w = some wv2 := hf
          unfold fX8_keep_b2 at hf
          refine lv_iload_n hx hb dX8_keep_2 rfl (lv_at hl 2 rfl) ?_
          refine lv_bipush (v := 109) hx hb dX8_keep_3 (by decide) ?_
          refine lv_icmp_ge (tgt := 31) hx hb dX8_keep_5 (by decide) (fun c1 => ?_) (fun c1 => ?_)
          · replace hf := xw_ip c1 hf
            have he2 := hX2 _ (xw_so hf).symm
            rw [← he2] at hfx2
            exact XX2 w hfx2 H locs ls hP hS (lv_sub hl [] rfl)
          · replace hf := xw_in' c1 hf
            refine lv_aload_n hx hb dX8_keep_8 rfl (lv_at hl 0 rfl) ?_
            refine xw_get hB hK hP (xw_o8 G) (C := RX8) (T := TX8) (N := 31) rfl TBi_X8 1 (by decide) tw_729 rfl rfl dX8_keep_9 ?_
            refine lv_bipush (v := 109) hx hb dX8_keep_12 (by decide) ?_
            refine lv_iload_n hx hb dX8_keep_14 rfl (lv_at hl 1 rfl) ?_
            refine lv_imul hx hb dX8_keep_15 ?_
            refine lv_iload_n hx hb dX8_keep_16 rfl (lv_at hl 2 rfl) ?_
            refine lv_iadd hx hb dX8_keep_17 ?_
            refine lv_aload_n hx hb dX8_keep_18 rfl (lv_at hl 0 rfl) ?_
            refine xw_get hB hK hP (xw_o8 G) (C := RX8) (T := TX8) (N := 31) rfl TBi_X8 0 (by decide) tw_728 rfl rfl dX8_keep_19 ?_
            refine lv_iload_n hx hb dX8_keep_22 rfl (lv_at hl 2 rfl) ?_
            replace hf := xw_ck_e hf
            obtain ⟨hi2, hf⟩ := hf
            refine xw_ild hB hK hP (xw_k120 G) hi2 dX8_keep_23 ?_
            replace hf := xw_ck_e hf
            obtain ⟨hi3, hf⟩ := hf
            refine xw_ist hG hB hK hS hP (xw_k121 G) hi3 dX8_keep_24 (fun w4 ew4 H locs hP hS => ?_)
            replace hf := xw_lt_e ew4 hf
            obtain ⟨x2_5, ex2_5⟩ : ∃ y : Int32, y = x2 + 1 := ⟨_, rfl⟩
            replace hf := xw_lt_e ex2_5 hf
            refine lv_iinc (v := x2_5) (lv' := [(2, .int x2_5), (0, .ref (xw_ad G 119)), (1, .int a1)]) hx hb dX8_keep_25 hl (k := 2) rfl (by rw [ex2_5]; rfl) (by decide) rfl (fun ls hl => ?_)
            refine lv_goto (tgt := 2) hx hb dX8_keep_28 (by decide) ?_
            have hi := hC2 _ (xw_so hf).symm
            exact ih2 x2_5 w4 hi H locs ls hP hS (lv_sub hl [1, 2, 0] rfl)
      exact LL2 n x2 w hit2 H locs ls hP hS hl
    refine lv_iconst (v := 0) hx hb dX8_keep_0 (by decide) ?_
    refine lv_istore_n (lv' := [(2, .int (0 : Int32)), (0, .ref (xw_ad G 119)), (1, .int a1)]) hx hb dX8_keep_1 rfl hl (by decide) rfl (fun ls hl => ?_)
    exact J2 (0 : Int32) w0 hf H locs ls hP hS (lv_sub hl [1, 2, 0] rfl)
  exact HH s.heap [] hP hS
def fX8_moves_66 (n : Nat) (x1 : Int32) (w : xw_M) : Option (Int32 × xw_M) := some (x1, w)
def fX8_moves_60 (n : Nat) (x1 : Int32) (x2 : Int32) (w : xw_M) : Option ((Int32 × Int32 × xw_M) ⊕ (Int32 × xw_M)) := xw_lt (x2 + 1) (fun x2_22 => some (.inl (x1, x2_22, w)))
def fX8_moves_b4 (n : Nat) (x1 : Int32) (x2 : Int32) (w : xw_M) : Option ((Int32 × Int32 × xw_M) ⊕ (Int32 × xw_M)) := xw_ck (60 : Int32) 109 (if (w.1 120 (60 : Int32).toNatClampNeg) ≤ x2 then some (.inr (x1, w)) else xw_bp (fX8_isHere x2 w) (fun r3 => if r3 = 0 then fX8_moves_60 n x1 x2 w else xw_b (fX8_best n x2 w) (fun r6 w7 => xw_b (fX8_worth n x2 r6 w7) (fun r9 w10 => xw_bp (fX8_one x2 (3 : Int32) w10) (fun r12 => xw_b (fX8_worth n x2 r12 w10) (fun r14 w15 => if r9 ≤ r14 then fX8_moves_60 n x1 x2 w15 else xw_b (fX8_change x2 (3 : Int32) r6 w15) (fun r18 w19 => xw_lt (x1 + 1) (fun x1_21 => fX8_moves_60 n x1_21 x2 w19))))))))
def fX8_moves_4 (n : Nat) (x1 : Int32) (x2 : Int32) (w : xw_M) : Option (Int32 × xw_M) := xw_bp (xw_it (fun z => fX8_moves_b4 n z.1 z.2.1 z.2.2) n (x1, x2, w)) (fun z => (fun (x1 : Int32) (w : xw_M) => fX8_moves_66 n x1 w) z.1 z.2)
def fX8_moves (n : Nat) (w0 : xw_M) : Option (Int32 × xw_M) := fX8_moves_4 n (0 : Int32) (0 : Int32) w0
set_option maxHeartbeats 4000000 in
set_option maxRecDepth 100000 in
theorem kX8_moves (l : Launch) (G : xw_G) (hG : xw_ok G) (n : Nat) (w0 : xw_M) (r0 : Int32) (wz : xw_M) (hf : fX8_moves n w0 = some (r0, wz)) : xw_Ti l G yX8_moves cX8_moves 4 ((Option.some Jvm.ClassFile.FieldType.int)) (34) (749) [.ref (xw_ad G 119)] w0 r0 wz := by
  unfold xw_Ti
  refine Met.ofW (cc := cX8_moves) (maxL := 4) (ret := (Option.some Jvm.ClassFile.FieldType.int)) (by decide) rfl ?_
  intro p e s m args below meth c s₁ B hml hv
  obtain ⟨hargs, hP, hK, hE⟩ := hv
  have hx := B.exec
  have hb := B.bytes
  have hr := B.returns
  have hlk := B.notSynchronized
  have hB : CallFix p m c cX8_moves 4 s args TB RX8 := ⟨hx, hb, hml, findClass_of_methodNamed B.named, fun q h => (atoms_spec (ws := Cond.code yX8_moves cX8_moves 4 ((Option.some Jvm.ClassFile.FieldType.int)) :: TB) B.pre) q (List.mem_cons_of_mem _ h)⟩
  have hS : va_S (xw_A G) s.heap s.heap [] := va_S.rf
  have hl := lv_entry [.ref (xw_ad G 119)] (n := 4) (Nat.le_of_ble_eq_true rfl)
  rw [show entryFrame m args 4 = entryFrame m ([.ref (xw_ad G 119)] : List Value).toArray 4 from by rw [hargs], lg_entry_eq]
  generalize (lg_sl [.ref (xw_ad G 119)] ++ List.replicate (4 - (lg_sl [.ref (xw_ad G 119)]).length) Slot.unset).toArray = ls at hl ⊢
  have hP : va_P (xw_D G) xw_cl (xw_W G w0) s.heap := hP
  have hl : lv_has ls 4 [(0, .ref (xw_ad G 119))] := hl
  have HH : ∀ (H : Heap) (locs : List Loc) (hP : va_P (xw_D G) xw_cl (xw_W G w0) H) (hS : va_S (xw_A G) s.heap H locs), xw_Wi G p l e (xw_rm (34) (749)) s m args below meth c H locs r0 wz (F0 m 0 ls []) := by
    intro H locs hP hS
    unfold fX8_moves at hf
    have J66 : ∀ (x1 : Int32) (w : xw_M) (hf : fX8_moves_66 n x1 w = some (r0, wz)) (H : Heap) (locs : List Loc) (ls : Array Slot) (hP : va_P (xw_D G) xw_cl (xw_W G w) H) (hS : va_S (xw_A G) s.heap H locs) (hl : lv_has ls 4 [(1, .int x1)]), xw_Wi G p l e (xw_rm (34) (749)) s m args below meth c H locs r0 wz (F0 m 66 ls []) := by
      intro x1 w hf H locs ls hP hS hl
      unfold fX8_moves_66 at hf
      refine lv_iload_n hx hb dX8_moves_66 rfl (lv_at hl 0 rfl) ?_
      obtain ⟨h0, h1⟩ := xw_s2 hf
      exact xw_iret hB hK hE hS hP hr hlk h0 h1 dX8_moves_67
    have J4 : ∀ (x1 : Int32) (x2 : Int32) (w : xw_M) (hf : fX8_moves_4 n x1 x2 w = some (r0, wz)) (H : Heap) (locs : List Loc) (ls : Array Slot) (hP : va_P (xw_D G) xw_cl (xw_W G w) H) (hS : va_S (xw_A G) s.heap H locs) (hl : lv_has ls 4 [(0, .ref (xw_ad G 119)), (1, .int x1), (2, .int x2)]), xw_Wi G p l e (xw_rm (34) (749)) s m args below meth c H locs r0 wz (F0 m 4 ls []) := by
      intro x1 x2 w hf H locs ls hP hS hl
      unfold fX8_moves_4 at hf
      replace hf := xw_bp_e hf
      obtain ⟨bb4, hit4, hfx4⟩ := hf
      have XX4 : ∀ (x1 : Int32) (w : xw_M) (hf : fX8_moves_66 n x1 w = some (r0, wz)) (H : Heap) (locs : List Loc) (ls : Array Slot) (hP : va_P (xw_D G) xw_cl (xw_W G w) H) (hS : va_S (xw_A G) s.heap H locs) (hl : lv_has ls 4 [(1, .int x1)]), xw_Wi G p l e (xw_rm (34) (749)) s m args below meth c H locs r0 wz (F0 m 66 ls []) := by
        intro x1 w hf H locs ls hP hS hl
        exact J66 x1 w hf H locs ls hP hS (lv_sub hl [0] rfl)
      have LL4 : ∀ (nn : Nat) (x1 : Int32) (x2 : Int32) (w : xw_M) (hit : xw_it (fun z => fX8_moves_b4 n z.1 z.2.1 z.2.2) nn (x1, x2, w) = some bb4) (H : Heap) (locs : List Loc) (ls : Array Slot) (hP : va_P (xw_D G) xw_cl (xw_W G w) H) (hS : va_S (xw_A G) s.heap H locs) (hl : lv_has ls 4 [(0, .ref (xw_ad G 119)), (1, .int x1), (2, .int x2)]), xw_Wi G p l e (xw_rm (34) (749)) s m args below meth c H locs r0 wz (F0 m 4 ls []) := by
        intro nn
        induction nn with
        | zero => intro x1 x2 w hit; exact (xw_it_0 hit).elim
        | succ nn ih4 =>
          intro x1 x2 w hit H locs ls hP hS hl
          replace hit := xw_it_e hit
          obtain ⟨wv4, hf, hC4, hX4⟩ := hit
          replace hf : fX8_moves_b4 n x1 x2 w = some wv4 := hf
          unfold fX8_moves_b4 at hf
          have J60 : ∀ (x1 : Int32) (x2 : Int32) (w : xw_M) (hf : fX8_moves_60 n x1 x2 w = some wv4) (H : Heap) (locs : List Loc) (ls : Array Slot) (hP : va_P (xw_D G) xw_cl (xw_W G w) H) (hS : va_S (xw_A G) s.heap H locs) (hl : lv_has ls 4 [(0, .ref (xw_ad G 119)), (1, .int x1), (2, .int x2)]), xw_Wi G p l e (xw_rm (34) (749)) s m args below meth c H locs r0 wz (F0 m 60 ls []) := by
            intro x1 x2 w hf H locs ls hP hS hl
            unfold fX8_moves_60 at hf
            obtain ⟨x2_22, ex2_22⟩ : ∃ y : Int32, y = x2 + 1 := ⟨_, rfl⟩
            replace hf := xw_lt_e ex2_22 hf
            refine lv_iinc (v := x2_22) (lv' := [(2, .int x2_22), (0, .ref (xw_ad G 119)), (1, .int x1)]) hx hb dX8_moves_60 hl (k := 2) rfl (by rw [ex2_22]; rfl) (by decide) rfl (fun ls hl => ?_)
            refine lv_goto (tgt := 4) hx hb dX8_moves_63 (by decide) ?_
            have hi := hC4 _ (xw_so hf).symm
            exact ih4 x1 x2_22 w hi H locs ls hP hS (lv_sub hl [1, 2, 0] rfl)
          refine lv_iload_n hx hb dX8_moves_4 rfl (lv_at hl 2 rfl) ?_
          refine lv_aload_n hx hb dX8_moves_5 rfl (lv_at hl 0 rfl) ?_
          refine xw_get hB hK hP (xw_o8 G) (C := RX8) (T := TX8) (N := 31) rfl TBi_X8 0 (by decide) tw_728 rfl rfl dX8_moves_6 ?_
          refine lv_bipush (v := 60) hx hb dX8_moves_9 (by decide) ?_
          replace hf := xw_ck_e hf
          obtain ⟨hi1, hf⟩ := hf
          refine xw_ild hB hK hP (xw_k120 G) hi1 dX8_moves_11 ?_
          refine lv_icmp_ge (tgt := 66) hx hb dX8_moves_12 (by decide) (fun c2 => ?_) (fun c2 => ?_)
          · replace hf := xw_ip c2 hf
            have he4 := hX4 _ (xw_so hf).symm
            rw [← he4] at hfx4
            exact XX4 x1 w hfx4 H locs ls hP hS (lv_sub hl [1] rfl)
          · replace hf := xw_in' c2 hf
            refine lv_aload_n hx hb dX8_moves_15 rfl (lv_at hl 0 rfl) ?_
            refine lv_iload_n hx hb dX8_moves_16 rfl (lv_at hl 2 rfl) ?_
            replace hf := xw_bp_e hf
            obtain ⟨r3, he4, hf⟩ := hf
            refine xw_Vi hB hK hE hS hP (As := [.int x2]) (rest := []) (kX8_isHere l G hG x2 w _ he4) gs_X8_179 (xw_rc hK hP (C := RX8) (T := TX8) (N := 31) (xw_o8 G) rfl) 1 hv_X8_isHere ⟨Nat.le_of_ble_eq_true rfl, Nat.le_of_ble_eq_true rfl⟩ rfl hl.1 (Nat.le_of_ble_eq_true rfl) rfl dX8_moves_17 ⟨Nat.zero_le _, Nat.zero_le _⟩ (fun H locs hP hS => ?_)
            refine lv_if_eq (tgt := 60) hx hb dX8_moves_20 (by decide) (fun c5 => ?_) (fun c5 => ?_)
            · replace hf := xw_ip c5 hf
              exact J60 x1 x2 w hf H locs ls hP hS (lv_sub hl [0, 1, 2] rfl)
            · replace hf := xw_in' c5 hf
              refine lv_aload_n hx hb dX8_moves_23 rfl (lv_at hl 0 rfl) ?_
              refine lv_iload_n hx hb dX8_moves_24 rfl (lv_at hl 2 rfl) ?_
              replace hf := xw_b_e hf
              obtain ⟨r6, w7, he8, hf⟩ := hf
              refine xw_Vi hB hK hE hS hP (As := [.int x2]) (rest := []) (kX8_best l G hG n x2 w _ _ he8) gs_X8_107 (xw_rc hK hP (C := RX8) (T := TX8) (N := 31) (xw_o8 G) rfl) 1 hv_X8_best ⟨Nat.le_of_ble_eq_true rfl, Nat.le_of_ble_eq_true rfl⟩ rfl hl.1 (Nat.le_of_ble_eq_true rfl) rfl dX8_moves_25 ⟨Nat.zero_le _, Nat.zero_le _⟩ (fun H locs hP hS => ?_)
              refine lv_istore_n (lv' := [(3, .int r6), (0, .ref (xw_ad G 119)), (1, .int x1), (2, .int x2)]) hx hb dX8_moves_28 rfl hl (by decide) rfl (fun ls hl => ?_)
              refine lv_aload_n hx hb dX8_moves_29 rfl (lv_at hl 1 rfl) ?_
              refine lv_iload_n hx hb dX8_moves_30 rfl (lv_at hl 3 rfl) ?_
              refine lv_iload_n hx hb dX8_moves_31 rfl (lv_at hl 0 rfl) ?_
              replace hf := xw_b_e hf
              obtain ⟨r9, w10, he11, hf⟩ := hf
              refine xw_Vi hB hK hE hS hP (As := [.int x2, .int r6]) (rest := []) (kX8_worth l G hG n x2 r6 w7 _ _ he11) gs_X8_114 (xw_rc hK hP (C := RX8) (T := TX8) (N := 31) (xw_o8 G) rfl) 2 hv_X8_worth ⟨Nat.le_of_ble_eq_true rfl, Nat.le_of_ble_eq_true rfl⟩ rfl hl.1 (Nat.le_of_ble_eq_true rfl) rfl dX8_moves_32 ⟨Nat.zero_le _, Nat.zero_le _⟩ (fun H locs hP hS => ?_)
              refine lv_aload_n hx hb dX8_moves_35 rfl (lv_at hl 1 rfl) ?_
              refine lv_iload_n hx hb dX8_moves_36 rfl (lv_at hl 3 rfl) ?_
              refine lv_aload_n hx hb dX8_moves_37 rfl (lv_at hl 1 rfl) ?_
              refine lv_iload_n hx hb dX8_moves_38 rfl (lv_at hl 3 rfl) ?_
              refine lv_iconst (v := 3) hx hb dX8_moves_39 (by decide) ?_
              replace hf := xw_bp_e hf
              obtain ⟨r12, he13, hf⟩ := hf
              refine xw_Vi hB hK hE hS hP (As := [.int x2, .int (3 : Int32)]) (rest := [.int x2, .ref (xw_ad G 119), .int r9]) (kX8_one l G hG x2 (3 : Int32) w10 _ he13) gs_X8_89 (xw_rc hK hP (C := RX8) (T := TX8) (N := 31) (xw_o8 G) rfl) 2 hv_X8_one ⟨Nat.le_of_ble_eq_true rfl, Nat.le_of_ble_eq_true rfl⟩ rfl hl.1 (Nat.le_of_ble_eq_true rfl) rfl dX8_moves_40 ⟨Nat.zero_le _, Nat.zero_le _⟩ (fun H locs hP hS => ?_)
              replace hf := xw_b_e hf
              obtain ⟨r14, w15, he16, hf⟩ := hf
              refine xw_Vi hB hK hE hS hP (As := [.int x2, .int r12]) (rest := [.int r9]) (kX8_worth l G hG n x2 r12 w10 _ _ he16) gs_X8_114 (xw_rc hK hP (C := RX8) (T := TX8) (N := 31) (xw_o8 G) rfl) 2 hv_X8_worth ⟨Nat.le_of_ble_eq_true rfl, Nat.le_of_ble_eq_true rfl⟩ rfl hl.1 (Nat.le_of_ble_eq_true rfl) rfl dX8_moves_43 ⟨Nat.zero_le _, Nat.zero_le _⟩ (fun H locs hP hS => ?_)
              refine lv_icmp_le (tgt := 60) hx hb dX8_moves_46 (by decide) (fun c17 => ?_) (fun c17 => ?_)
              · replace hf := xw_ip c17 hf
                exact J60 x1 x2 w15 hf H locs ls hP hS (lv_sub hl [1, 2, 3] rfl)
              · replace hf := xw_in' c17 hf
                refine lv_aload_n hx hb dX8_moves_49 rfl (lv_at hl 1 rfl) ?_
                refine lv_iload_n hx hb dX8_moves_50 rfl (lv_at hl 3 rfl) ?_
                refine lv_iconst (v := 3) hx hb dX8_moves_51 (by decide) ?_
                refine lv_iload_n hx hb dX8_moves_52 rfl (lv_at hl 0 rfl) ?_
                replace hf := xw_b_e hf
                obtain ⟨r18, w19, he20, hf⟩ := hf
                refine xw_Vi hB hK hE hS hP (As := [.int x2, .int (3 : Int32), .int r6]) (rest := []) (kX8_change l G hG x2 (3 : Int32) r6 w15 _ _ he20) gs_X8_97 (xw_rc hK hP (C := RX8) (T := TX8) (N := 31) (xw_o8 G) rfl) 3 hv_X8_change ⟨Nat.le_of_ble_eq_true rfl, Nat.le_of_ble_eq_true rfl⟩ rfl hl.1 (Nat.le_of_ble_eq_true rfl) rfl dX8_moves_53 ⟨Nat.zero_le _, Nat.zero_le _⟩ (fun H locs hP hS => ?_)
                refine lv_pop hx hb dX8_moves_56 rfl ?_
                obtain ⟨x1_21, ex1_21⟩ : ∃ y : Int32, y = x1 + 1 := ⟨_, rfl⟩
                replace hf := xw_lt_e ex1_21 hf
                refine lv_iinc (v := x1_21) (lv' := [(1, .int x1_21), (3, .int r6), (0, .ref (xw_ad G 119)), (2, .int x2)]) hx hb dX8_moves_57 hl (k := 2) rfl (by rw [ex1_21]; rfl) (by decide) rfl (fun ls hl => ?_)
                exact J60 x1_21 x2 w19 hf H locs ls hP hS (lv_sub hl [2, 0, 3] rfl)
      exact LL4 n x1 x2 w hit4 H locs ls hP hS hl
    refine lv_iconst (v := 0) hx hb dX8_moves_0 (by decide) ?_
    refine lv_istore_n (lv' := [(1, .int (0 : Int32)), (0, .ref (xw_ad G 119))]) hx hb dX8_moves_1 rfl hl (by decide) rfl (fun ls hl => ?_)
    refine lv_iconst (v := 0) hx hb dX8_moves_2 (by decide) ?_
    refine lv_istore_n (lv' := [(2, .int (0 : Int32)), (1, .int (0 : Int32)), (0, .ref (xw_ad G 119))]) hx hb dX8_moves_3 rfl hl (by decide) rfl (fun ls hl => ?_)
    exact J4 (0 : Int32) (0 : Int32) w0 hf H locs ls hP hS (lv_sub hl [2, 1, 0] rfl)
  exact HH s.heap [] hP hS
def fX8_day_66 (n : Nat) (a1 : Int32) (x2 : Int32) (w : xw_M) : Option (Int32 × xw_M) := xw_ck (62 : Int32) 109 (xw_ck (62 : Int32) 109 (xw_lt (xw_si w 120 (62 : Int32).toNatClampNeg ((w.1 120 (62 : Int32).toNatClampNeg) + (1 : Int32))) (fun w20 => some (x2, w20))))
def fX8_day_56 (n : Nat) (a1 : Int32) (x2 : Int32) (x3 : Int32) (v1 : Int32) (v2 : Int32) (v3 : Int32) (w : xw_M) : Option ((Int32 × xw_M) ⊕ (xw_M)) := xw_b (fX8_change v1 v2 v3 w) (fun r14 w15 => xw_lt (x3 + 1) (fun x3_17 => some (.inl (x3_17, w15))))
def fX8_day_b11 (n : Nat) (a1 : Int32) (x2 : Int32) (x3 : Int32) (w : xw_M) : Option ((Int32 × xw_M) ⊕ (xw_M)) := xw_ck (60 : Int32) 109 (if (w.1 120 (60 : Int32).toNatClampNeg) ≤ x3 then some (.inr w) else xw_bp (fX8_one x3 (5 : Int32) w) (fun r9 => xw_ck x3 6 (xw_lt (r9 + (w.1 132 x3.toNatClampNeg)) (fun x4_12 => if a1 = 0 then fX8_day_56 n a1 x2 x3 x3 (5 : Int32) x4_12 w else fX8_day_56 n a1 x2 x3 x3 (5 : Int32) (if x4_12 < (999999 : Int32) then x4_12 else (999999 : Int32)) w))))
def fX8_day_11 (n : Nat) (a1 : Int32) (x2 : Int32) (x3 : Int32) (w : xw_M) : Option (Int32 × xw_M) := xw_bp (xw_it (fun z => fX8_day_b11 n a1 x2 z.1 z.2) n (x3, w)) (fun z => (fun (w : xw_M) => fX8_day_66 n a1 x2 w) z)
def fX8_day (n : Nat) (a1 : Int32) (w0 : xw_M) : Option (Int32 × xw_M) := xw_b (fX8_moves n w0) (fun r1 w2 => xw_b (fX8_share n w2) (fun (_ : Unit) w5 => fX8_day_11 n a1 r1 (0 : Int32) w5))
set_option maxHeartbeats 4000000 in
set_option maxRecDepth 100000 in
theorem kX8_day (l : Launch) (G : xw_G) (hG : xw_ok G) (n : Nat) (a1 : Int32) (w0 : xw_M) (r0 : Int32) (wz : xw_M) (hf : fX8_day n a1 w0 = some (r0, wz)) : xw_Ti l G yX8_day cX8_day 5 ((Option.some Jvm.ClassFile.FieldType.int)) (35) (772) [.ref (xw_ad G 119), .int a1] w0 r0 wz := by
  unfold xw_Ti
  refine Met.ofW (cc := cX8_day) (maxL := 5) (ret := (Option.some Jvm.ClassFile.FieldType.int)) (by decide) rfl ?_
  intro p e s m args below meth c s₁ B hml hv
  obtain ⟨hargs, hP, hK, hE⟩ := hv
  have hx := B.exec
  have hb := B.bytes
  have hr := B.returns
  have hlk := B.notSynchronized
  have hB : CallFix p m c cX8_day 5 s args TB RX8 := ⟨hx, hb, hml, findClass_of_methodNamed B.named, fun q h => (atoms_spec (ws := Cond.code yX8_day cX8_day 5 ((Option.some Jvm.ClassFile.FieldType.int)) :: TB) B.pre) q (List.mem_cons_of_mem _ h)⟩
  have hS : va_S (xw_A G) s.heap s.heap [] := va_S.rf
  have hl := lv_entry [.ref (xw_ad G 119), .int a1] (n := 5) (Nat.le_of_ble_eq_true rfl)
  rw [show entryFrame m args 5 = entryFrame m ([.ref (xw_ad G 119), .int a1] : List Value).toArray 5 from by rw [hargs], lg_entry_eq]
  generalize (lg_sl [.ref (xw_ad G 119), .int a1] ++ List.replicate (5 - (lg_sl [.ref (xw_ad G 119), .int a1]).length) Slot.unset).toArray = ls at hl ⊢
  have hP : va_P (xw_D G) xw_cl (xw_W G w0) s.heap := hP
  have hl : lv_has ls 5 [(0, .ref (xw_ad G 119)), (1, .int a1)] := hl
  have HH : ∀ (H : Heap) (locs : List Loc) (hP : va_P (xw_D G) xw_cl (xw_W G w0) H) (hS : va_S (xw_A G) s.heap H locs), xw_Wi G p l e (xw_rm (35) (772)) s m args below meth c H locs r0 wz (F0 m 0 ls []) := by
    intro H locs hP hS
    unfold fX8_day at hf
    have J66 : ∀ (x2 : Int32) (w : xw_M) (hf : fX8_day_66 n a1 x2 w = some (r0, wz)) (H : Heap) (locs : List Loc) (ls : Array Slot) (hP : va_P (xw_D G) xw_cl (xw_W G w) H) (hS : va_S (xw_A G) s.heap H locs) (hl : lv_has ls 5 [(0, .ref (xw_ad G 119)), (2, .int x2)]), xw_Wi G p l e (xw_rm (35) (772)) s m args below meth c H locs r0 wz (F0 m 66 ls []) := by
      intro x2 w hf H locs ls hP hS hl
      unfold fX8_day_66 at hf
      refine lv_aload_n hx hb dX8_day_66 rfl (lv_at hl 0 rfl) ?_
      refine xw_get hB hK hP (xw_o8 G) (C := RX8) (T := TX8) (N := 31) rfl TBi_X8 0 (by decide) tw_728 rfl rfl dX8_day_67 ?_
      refine lv_bipush (v := 62) hx hb dX8_day_70 (by decide) ?_
      refine lv_dup2_11 hx hb dX8_day_72 rfl rfl ?_
      replace hf := xw_ck_e hf
      obtain ⟨hi18, hf⟩ := hf
      refine xw_ild hB hK hP (xw_k120 G) hi18 dX8_day_73 ?_
      refine lv_iconst (v := 1) hx hb dX8_day_74 (by decide) ?_
      refine lv_iadd hx hb dX8_day_75 ?_
      replace hf := xw_ck_e hf
      obtain ⟨hi19, hf⟩ := hf
      refine xw_ist hG hB hK hS hP (xw_k120 G) hi19 dX8_day_76 (fun w20 ew20 H locs hP hS => ?_)
      replace hf := xw_lt_e ew20 hf
      refine lv_iload_n hx hb dX8_day_77 rfl (lv_at hl 1 rfl) ?_
      obtain ⟨h0, h1⟩ := xw_s2 hf
      exact xw_iret hB hK hE hS hP hr hlk h0 h1 dX8_day_78
    have J11 : ∀ (x2 : Int32) (x3 : Int32) (w : xw_M) (hf : fX8_day_11 n a1 x2 x3 w = some (r0, wz)) (H : Heap) (locs : List Loc) (ls : Array Slot) (hP : va_P (xw_D G) xw_cl (xw_W G w) H) (hS : va_S (xw_A G) s.heap H locs) (hl : lv_has ls 5 [(0, .ref (xw_ad G 119)), (1, .int a1), (2, .int x2), (3, .int x3)]), xw_Wi G p l e (xw_rm (35) (772)) s m args below meth c H locs r0 wz (F0 m 11 ls []) := by
      intro x2 x3 w hf H locs ls hP hS hl
      unfold fX8_day_11 at hf
      replace hf := xw_bp_e hf
      obtain ⟨bb11, hit11, hfx11⟩ := hf
      have XX11 : ∀ (w : xw_M) (hf : fX8_day_66 n a1 x2 w = some (r0, wz)) (H : Heap) (locs : List Loc) (ls : Array Slot) (hP : va_P (xw_D G) xw_cl (xw_W G w) H) (hS : va_S (xw_A G) s.heap H locs) (hl : lv_has ls 5 [(0, .ref (xw_ad G 119)), (2, .int x2)]), xw_Wi G p l e (xw_rm (35) (772)) s m args below meth c H locs r0 wz (F0 m 66 ls []) := by
        intro w hf H locs ls hP hS hl
        exact J66 x2 w hf H locs ls hP hS (lv_sub hl [0, 1] rfl)
      have LL11 : ∀ (nn : Nat) (x3 : Int32) (w : xw_M) (hit : xw_it (fun z => fX8_day_b11 n a1 x2 z.1 z.2) nn (x3, w) = some bb11) (H : Heap) (locs : List Loc) (ls : Array Slot) (hP : va_P (xw_D G) xw_cl (xw_W G w) H) (hS : va_S (xw_A G) s.heap H locs) (hl : lv_has ls 5 [(0, .ref (xw_ad G 119)), (1, .int a1), (2, .int x2), (3, .int x3)]), xw_Wi G p l e (xw_rm (35) (772)) s m args below meth c H locs r0 wz (F0 m 11 ls []) := by
        intro nn
        induction nn with
        | zero => intro x3 w hit; exact (xw_it_0 hit).elim
        | succ nn ih11 =>
          intro x3 w hit H locs ls hP hS hl
          replace hit := xw_it_e hit
          obtain ⟨wv11, hf, hC11, hX11⟩ := hit
          replace hf : fX8_day_b11 n a1 x2 x3 w = some wv11 := hf
          unfold fX8_day_b11 at hf
          have J56 : ∀ (x3 : Int32) (v1 : Int32) (v2 : Int32) (v3 : Int32) (w : xw_M) (hf : fX8_day_56 n a1 x2 x3 v1 v2 v3 w = some wv11) (H : Heap) (locs : List Loc) (ls : Array Slot) (hP : va_P (xw_D G) xw_cl (xw_W G w) H) (hS : va_S (xw_A G) s.heap H locs) (hl : lv_has ls 5 [(0, .ref (xw_ad G 119)), (1, .int a1), (2, .int x2), (3, .int x3)]), xw_Wi G p l e (xw_rm (35) (772)) s m args below meth c H locs r0 wz (F0 m 56 ls [.int v3, .int v2, .int v1, .ref (xw_ad G 119)]) := by
            intro x3 v1 v2 v3 w hf H locs ls hP hS hl
            unfold fX8_day_56 at hf
            replace hf := xw_b_e hf
            obtain ⟨r14, w15, he16, hf⟩ := hf
            refine xw_Vi hB hK hE hS hP (As := [.int v1, .int v2, .int v3]) (rest := []) (kX8_change l G hG v1 v2 v3 w _ _ he16) gs_X8_97 (xw_rc hK hP (C := RX8) (T := TX8) (N := 31) (xw_o8 G) rfl) 3 hv_X8_change ⟨Nat.le_of_ble_eq_true rfl, Nat.le_of_ble_eq_true rfl⟩ rfl hl.1 (Nat.le_of_ble_eq_true rfl) rfl dX8_day_56 ⟨Nat.zero_le _, Nat.zero_le _⟩ (fun H locs hP hS => ?_)
            refine lv_pop hx hb dX8_day_59 rfl ?_
            obtain ⟨x3_17, ex3_17⟩ : ∃ y : Int32, y = x3 + 1 := ⟨_, rfl⟩
            replace hf := xw_lt_e ex3_17 hf
            refine lv_iinc (v := x3_17) (lv' := [(3, .int x3_17), (0, .ref (xw_ad G 119)), (1, .int a1), (2, .int x2)]) hx hb dX8_day_60 hl (k := 3) rfl (by rw [ex3_17]; rfl) (by decide) rfl (fun ls hl => ?_)
            refine lv_goto (tgt := 11) hx hb dX8_day_63 (by decide) ?_
            have hi := hC11 _ (xw_so hf).symm
            exact ih11 x3_17 w15 hi H locs ls hP hS (lv_sub hl [1, 2, 3, 0] rfl)
          refine lv_iload_n hx hb dX8_day_11 rfl (lv_at hl 3 rfl) ?_
          refine lv_aload_n hx hb dX8_day_12 rfl (lv_at hl 0 rfl) ?_
          refine xw_get hB hK hP (xw_o8 G) (C := RX8) (T := TX8) (N := 31) rfl TBi_X8 0 (by decide) tw_728 rfl rfl dX8_day_13 ?_
          refine lv_bipush (v := 60) hx hb dX8_day_16 (by decide) ?_
          replace hf := xw_ck_e hf
          obtain ⟨hi7, hf⟩ := hf
          refine xw_ild hB hK hP (xw_k120 G) hi7 dX8_day_18 ?_
          refine lv_icmp_ge (tgt := 66) hx hb dX8_day_19 (by decide) (fun c8 => ?_) (fun c8 => ?_)
          · replace hf := xw_ip c8 hf
            have he11 := hX11 _ (xw_so hf).symm
            rw [← he11] at hfx11
            exact XX11 w hfx11 H locs ls hP hS (lv_sub hl [0, 2] rfl)
          · replace hf := xw_in' c8 hf
            refine lv_aload_n hx hb dX8_day_22 rfl (lv_at hl 0 rfl) ?_
            refine lv_iload_n hx hb dX8_day_23 rfl (lv_at hl 3 rfl) ?_
            refine lv_iconst (v := 5) hx hb dX8_day_24 (by decide) ?_
            replace hf := xw_bp_e hf
            obtain ⟨r9, he10, hf⟩ := hf
            refine xw_Vi hB hK hE hS hP (As := [.int x3, .int (5 : Int32)]) (rest := []) (kX8_one l G hG x3 (5 : Int32) w _ he10) gs_X8_89 (xw_rc hK hP (C := RX8) (T := TX8) (N := 31) (xw_o8 G) rfl) 2 hv_X8_one ⟨Nat.le_of_ble_eq_true rfl, Nat.le_of_ble_eq_true rfl⟩ rfl hl.1 (Nat.le_of_ble_eq_true rfl) rfl dX8_day_25 ⟨Nat.zero_le _, Nat.zero_le _⟩ (fun H locs hP hS => ?_)
            refine lv_aload_n hx hb dX8_day_28 rfl (lv_at hl 0 rfl) ?_
            refine xw_get hB hK hP (xw_o8 G) (C := RX8) (T := TX8) (N := 31) rfl TBi_X8 21 (by decide) tw_749 rfl rfl dX8_day_29 ?_
            refine lv_iload_n hx hb dX8_day_32 rfl (lv_at hl 3 rfl) ?_
            replace hf := xw_ck_e hf
            obtain ⟨hi11, hf⟩ := hf
            refine xw_ild hB hK hP (xw_k132 G) hi11 dX8_day_33 ?_
            refine lv_iadd hx hb dX8_day_34 ?_
            refine lv_topi (fun x4_12 ex4_12 => ?_)
            replace hf := xw_lt_e ex4_12 hf
            refine lv_istore (lv' := [(4, .int x4_12), (0, .ref (xw_ad G 119)), (1, .int a1), (2, .int x2), (3, .int x3)]) hx hb dX8_day_35 hl (by decide) rfl (fun ls hl => ?_)
            refine lv_aload_n hx hb dX8_day_37 rfl (lv_at hl 1 rfl) ?_
            refine lv_iload_n hx hb dX8_day_38 rfl (lv_at hl 4 rfl) ?_
            refine lv_iconst (v := 5) hx hb dX8_day_39 (by decide) ?_
            refine lv_iload_n hx hb dX8_day_40 rfl (lv_at hl 2 rfl) ?_
            refine lv_if_eq (tgt := 54) hx hb dX8_day_41 (by decide) (fun c13 => ?_) (fun c13 => ?_)
            · replace hf := xw_ip c13 hf
              refine lv_iload hx hb dX8_day_54 (lv_at hl 0 rfl) ?_
              exact J56 x3 x3 (5 : Int32) x4_12 w hf H locs ls hP hS (lv_sub hl [1, 2, 3, 4] rfl)
            · replace hf := xw_in' c13 hf
              refine lv_ldc (v := (999999)) hx hb hB.2.2.2.1 (hB.2.2.2.2 _ tw_970) dX8_day_44 ?_
              refine lv_iload hx hb dX8_day_46 (lv_at hl 0 rfl) ?_
              refine va_mmin hx hb (hB.2.2.1.trans hl.1.symm) hB.2.2.2.1 (hB.2.2.2.2 _ tm_971) (hB.2.2.2.2 _ tm_38) (hB.2.2.2.2 _ tw_4) (hB.2.2.2.2 _ tm_39) (Nat.le_of_ble_eq_true rfl) (Nat.le_of_ble_eq_true rfl) (Nat.zero_le _) (Nat.zero_le _) dX8_day_48 ?_
              refine lv_goto (tgt := 56) hx hb dX8_day_51 (by decide) ?_
              exact J56 x3 x3 (5 : Int32) (if x4_12 < (999999 : Int32) then x4_12 else (999999 : Int32)) w hf H locs ls hP hS (lv_sub hl [1, 2, 3, 4] rfl)
      exact LL11 n x3 w hit11 H locs ls hP hS hl
    refine lv_aload_n hx hb dX8_day_0 rfl (lv_at hl 0 rfl) ?_
    replace hf := xw_b_e hf
    obtain ⟨r1, w2, he3, hf⟩ := hf
    refine xw_Vi hB hK hE hS hP (As := []) (rest := []) (kX8_moves l G hG n w0 _ _ he3) gs_X8_187 (xw_rc hK hP (C := RX8) (T := TX8) (N := 31) (xw_o8 G) rfl) 0 hv_X8_moves ⟨Nat.le_of_ble_eq_true rfl, Nat.le_of_ble_eq_true rfl⟩ rfl hl.1 (Nat.le_of_ble_eq_true rfl) rfl dX8_day_1 ⟨Nat.zero_le _, Nat.zero_le _⟩ (fun H locs hP hS => ?_)
    refine lv_istore_n (lv' := [(2, .int r1), (0, .ref (xw_ad G 119)), (1, .int a1)]) hx hb dX8_day_4 rfl hl (by decide) rfl (fun ls hl => ?_)
    refine lv_aload_n hx hb dX8_day_5 rfl (lv_at hl 1 rfl) ?_
    replace hf := xw_b_e hf
    obtain ⟨r4, w5, he6, hf⟩ := hf
    refine xw_Vv hB hK hE hS hP (As := []) (rest := []) (kX8_share l G hG n w2 _ _ he6) gs_X8_104 (xw_rc hK hP (C := RX8) (T := TX8) (N := 31) (xw_o8 G) rfl) 0 hv_X8_share ⟨Nat.le_of_ble_eq_true rfl, Nat.le_of_ble_eq_true rfl⟩ rfl hl.1 (Nat.le_of_ble_eq_true rfl) rfl dX8_day_6 ⟨Nat.zero_le _, Nat.zero_le _⟩ (fun H locs hP hS => ?_)
    refine lv_iconst (v := 0) hx hb dX8_day_9 (by decide) ?_
    refine lv_istore_n (lv' := [(3, .int (0 : Int32)), (2, .int r1), (0, .ref (xw_ad G 119)), (1, .int a1)]) hx hb dX8_day_10 rfl hl (by decide) rfl (fun ls hl => ?_)
    exact J11 r1 (0 : Int32) w5 hf H locs ls hP hS (lv_sub hl [2, 3, 1, 0] rfl)
  exact HH s.heap [] hP hS
