def fX8_readAll_62 (n : Nat) (w : xw_M) : Option (Int32 × xw_M) := if (w.1 119 12) = 0 then some ((0 : Int32), w) else if (w.1 119 11) = (w.1 119 10) then some ((1 : Int32), w) else some ((0 : Int32), w)
def fX8_readAll_b27 (n : Nat) (x1 : Int32) (w : xw_M) : Option ((Int32 × xw_M) ⊕ (xw_M)) := if (10 : Int32) ≤ x1 then some (.inr w) else xw_bp (fX8_isAt (59 : Int32) w) (fun r9 => if r9 = 0 then some (.inr w) else xw_lt (xw_si w 119 11 ((w.1 119 11) + (1 : Int32))) (fun w12 => xw_b (fX8_clause n w12) (fun (_ : Unit) w14 => xw_lt (x1 + 1) (fun x1_16 => some (.inl (x1_16, w14))))))
def fX8_readAll_27 (n : Nat) (x1 : Int32) (w : xw_M) : Option (Int32 × xw_M) := xw_bp (xw_it (fun z => fX8_readAll_b27 n z.1 z.2) n (x1, w)) (fun z => (fun (w : xw_M) => fX8_readAll_62 n w) z)
def fX8_readAll (n : Nat) (w0 : xw_M) : Option (Int32 × xw_M) := xw_lt (xw_si w0 119 11 (0 : Int32)) (fun w1 => xw_lt (xw_si w1 119 12 (1 : Int32)) (fun w2 => xw_lt (xw_si w2 119 14 (20 : Int32)) (fun w3 => xw_lt (xw_si w3 119 15 (2 : Int32)) (fun w4 => xw_b (fX8_clause n w4) (fun (_ : Unit) w6 => fX8_readAll_27 n (1 : Int32) w6)))))
set_option maxHeartbeats 4000000 in
set_option maxRecDepth 100000 in
theorem kX8_readAll (l : Launch) (G : xw_G) (hG : xw_ok G) (n : Nat) (w0 : xw_M) (r0 : Int32) (wz : xw_M) (hf : fX8_readAll n w0 = some (r0, wz)) : xw_Ti l G yX8_readAll cX8_readAll 2 ((Option.some Jvm.ClassFile.FieldType.boolean)) (28) (608) [.ref (xw_ad G 119)] w0 r0 wz := by
  unfold xw_Ti
  refine Met.ofW (cc := cX8_readAll) (maxL := 2) (ret := (Option.some Jvm.ClassFile.FieldType.boolean)) (by decide) rfl ?_
  intro p e s m args below meth c s₁ B hml hv
  obtain ⟨hargs, hP, hK, hE⟩ := hv
  have hx := B.exec
  have hb := B.bytes
  have hr := B.returns
  have hlk := B.notSynchronized
  have hB : CallFix p m c cX8_readAll 2 s args TB RX8 := ⟨hx, hb, hml, findClass_of_methodNamed B.named, fun q h => (atoms_spec (ws := Cond.code yX8_readAll cX8_readAll 2 ((Option.some Jvm.ClassFile.FieldType.boolean)) :: TB) B.pre) q (List.mem_cons_of_mem _ h)⟩
  have hS : va_S (xw_A G) s.heap s.heap [] := va_S.rf
  have hl := lv_entry [.ref (xw_ad G 119)] (n := 2) (Nat.le_of_ble_eq_true rfl)
  rw [show entryFrame m args 2 = entryFrame m ([.ref (xw_ad G 119)] : List Value).toArray 2 from by rw [hargs], lg_entry_eq]
  generalize (lg_sl [.ref (xw_ad G 119)] ++ List.replicate (2 - (lg_sl [.ref (xw_ad G 119)]).length) Slot.unset).toArray = ls at hl ⊢
  have hP : va_P (xw_D G) xw_cl (xw_W G w0) s.heap := hP
  have hl : lv_has ls 2 [(0, .ref (xw_ad G 119))] := hl
  have HH : ∀ (H : Heap) (locs : List Loc) (hP : va_P (xw_D G) xw_cl (xw_W G w0) H) (hS : va_S (xw_A G) s.heap H locs), xw_Wi G p l e (xw_rm (28) (608)) s m args below meth c H locs r0 wz (F0 m 0 ls []) := by
    intro H locs hP hS
    unfold fX8_readAll at hf
    have J62 : ∀ (w : xw_M) (hf : fX8_readAll_62 n w = some (r0, wz)) (H : Heap) (locs : List Loc) (ls : Array Slot) (hP : va_P (xw_D G) xw_cl (xw_W G w) H) (hS : va_S (xw_A G) s.heap H locs) (hl : lv_has ls 2 [(0, .ref (xw_ad G 119))]), xw_Wi G p l e (xw_rm (28) (608)) s m args below meth c H locs r0 wz (F0 m 62 ls []) := by
      intro w hf H locs ls hP hS hl
      unfold fX8_readAll_62 at hf
      refine lv_aload_n hx hb dX8_readAll_62 rfl (lv_at hl 0 rfl) ?_
      refine xw_get hB hK hP (xw_o8 G) (C := RX8) (T := TX8) (N := 31) rfl TBi_X8 12 (by decide) tw_740 rfl rfl dX8_readAll_63 ?_
      refine lv_if_eq (tgt := 84) hx hb dX8_readAll_66 (by decide) (fun c17 => ?_) (fun c17 => ?_)
      · replace hf := xw_ip c17 hf
        refine lv_iconst (v := 0) hx hb dX8_readAll_84 (by decide) ?_
        obtain ⟨h0, h1⟩ := xw_s2 hf
        exact xw_zret hB hK hE hS hP hr hlk rfl h0 h1 dX8_readAll_85
      · replace hf := xw_in' c17 hf
        refine lv_aload_n hx hb dX8_readAll_69 rfl (lv_at hl 0 rfl) ?_
        refine xw_get hB hK hP (xw_o8 G) (C := RX8) (T := TX8) (N := 31) rfl TBi_X8 11 (by decide) tw_739 rfl rfl dX8_readAll_70 ?_
        refine lv_aload_n hx hb dX8_readAll_73 rfl (lv_at hl 0 rfl) ?_
        refine xw_get hB hK hP (xw_o8 G) (C := RX8) (T := TX8) (N := 31) rfl TBi_X8 10 (by decide) tw_738 rfl rfl dX8_readAll_74 ?_
        refine lv_icmp_ne (tgt := 84) hx hb dX8_readAll_77 (by decide) (fun c18 => ?_) (fun c18 => ?_)
        · replace hf := xw_in' c18 hf
          refine lv_iconst (v := 0) hx hb dX8_readAll_84 (by decide) ?_
          obtain ⟨h0, h1⟩ := xw_s2 hf
          exact xw_zret hB hK hE hS hP hr hlk rfl h0 h1 dX8_readAll_85
        · replace hf := xw_ip c18 hf
          refine lv_iconst (v := 1) hx hb dX8_readAll_80 (by decide) ?_
          refine lv_goto (tgt := 85) hx hb dX8_readAll_81 (by decide) ?_
          obtain ⟨h0, h1⟩ := xw_s2 hf
          exact xw_zret hB hK hE hS hP hr hlk rfl h0 h1 dX8_readAll_85
    have J27 : ∀ (x1 : Int32) (w : xw_M) (hf : fX8_readAll_27 n x1 w = some (r0, wz)) (H : Heap) (locs : List Loc) (ls : Array Slot) (hP : va_P (xw_D G) xw_cl (xw_W G w) H) (hS : va_S (xw_A G) s.heap H locs) (hl : lv_has ls 2 [(0, .ref (xw_ad G 119)), (1, .int x1)]), xw_Wi G p l e (xw_rm (28) (608)) s m args below meth c H locs r0 wz (F0 m 27 ls []) := by
      intro x1 w hf H locs ls hP hS hl
      unfold fX8_readAll_27 at hf
      replace hf := xw_bp_e hf
      obtain ⟨bb27, hit27, hfx27⟩ := hf
      have XX27 : ∀ (w : xw_M) (hf : fX8_readAll_62 n w = some (r0, wz)) (H : Heap) (locs : List Loc) (ls : Array Slot) (hP : va_P (xw_D G) xw_cl (xw_W G w) H) (hS : va_S (xw_A G) s.heap H locs) (hl : lv_has ls 2 [(0, .ref (xw_ad G 119))]), xw_Wi G p l e (xw_rm (28) (608)) s m args below meth c H locs r0 wz (F0 m 62 ls []) := by
        intro w hf H locs ls hP hS hl
        exact J62 w hf H locs ls hP hS (lv_sub hl [0] rfl)
      have LL27 : ∀ (nn : Nat) (x1 : Int32) (w : xw_M) (hit : xw_it (fun z => fX8_readAll_b27 n z.1 z.2) nn (x1, w) = some bb27) (H : Heap) (locs : List Loc) (ls : Array Slot) (hP : va_P (xw_D G) xw_cl (xw_W G w) H) (hS : va_S (xw_A G) s.heap H locs) (hl : lv_has ls 2 [(0, .ref (xw_ad G 119)), (1, .int x1)]), xw_Wi G p l e (xw_rm (28) (608)) s m args below meth c H locs r0 wz (F0 m 27 ls []) := by
        intro nn
        induction nn with
        | zero => intro x1 w hit; exact (xw_it_0 hit).elim
        | succ nn ih27 =>
          intro x1 w hit H locs ls hP hS hl
          replace hit := xw_it_e hit
          obtain ⟨wv27, hf, hC27, hX27⟩ := hit
          replace hf : fX8_readAll_b27 n x1 w = some wv27 := hf
          unfold fX8_readAll_b27 at hf
          refine lv_iload_n hx hb dX8_readAll_27 rfl (lv_at hl 1 rfl) ?_
          refine lv_bipush (v := 10) hx hb dX8_readAll_28 (by decide) ?_
          refine lv_icmp_ge (tgt := 62) hx hb dX8_readAll_30 (by decide) (fun c8 => ?_) (fun c8 => ?_)
          · replace hf := xw_ip c8 hf
            have he27 := hX27 _ (xw_so hf).symm
            rw [← he27] at hfx27
            exact XX27 w hfx27 H locs ls hP hS (lv_sub hl [0] rfl)
          · replace hf := xw_in' c8 hf
            refine lv_aload_n hx hb dX8_readAll_33 rfl (lv_at hl 0 rfl) ?_
            refine lv_bipush (v := 59) hx hb dX8_readAll_34 (by decide) ?_
            replace hf := xw_bp_e hf
            obtain ⟨r9, he10, hf⟩ := hf
            refine xw_Vi hB hK hE hS hP (As := [.int (59 : Int32)]) (rest := []) (kX8_isAt l G hG (59 : Int32) w _ he10) gs_X8_130 (xw_rc hK hP (C := RX8) (T := TX8) (N := 31) (xw_o8 G) rfl) 1 hv_X8_isAt ⟨Nat.le_of_ble_eq_true rfl, Nat.le_of_ble_eq_true rfl⟩ rfl hl.1 (Nat.le_of_ble_eq_true rfl) rfl dX8_readAll_36 ⟨Nat.zero_le _, Nat.zero_le _⟩ (fun H locs hP hS => ?_)
            refine lv_if_eq (tgt := 62) hx hb dX8_readAll_39 (by decide) (fun c11 => ?_) (fun c11 => ?_)
            · replace hf := xw_ip c11 hf
              have he27 := hX27 _ (xw_so hf).symm
              rw [← he27] at hfx27
              exact XX27 w hfx27 H locs ls hP hS (lv_sub hl [0] rfl)
            · replace hf := xw_in' c11 hf
              refine lv_aload_n hx hb dX8_readAll_42 rfl (lv_at hl 0 rfl) ?_
              refine lv_dup hx hb dX8_readAll_43 rfl ?_
              refine xw_get hB hK hP (xw_o8 G) (C := RX8) (T := TX8) (N := 31) rfl TBi_X8 11 (by decide) tw_739 rfl rfl dX8_readAll_44 ?_
              refine lv_iconst (v := 1) hx hb dX8_readAll_47 (by decide) ?_
              refine lv_iadd hx hb dX8_readAll_48 ?_
              refine xw_put hG hB hK hS hP (x := (w.1 119 11) + (1 : Int32)) (xw_o8 G) (C := RX8) (T := TX8) (N := 31) rfl TBi_X8 tyX8 tyX8_ok nmX8 11 (by decide) tw_739 rfl rfl rfl rfl rfl (Nat.le_of_ble_eq_true rfl) rfl dX8_readAll_49 (fun w12 ew12 H locs hP hS => ?_)
              replace hf := xw_lt_e ew12 hf
              refine lv_aload_n hx hb dX8_readAll_52 rfl (lv_at hl 0 rfl) ?_
              replace hf := xw_b_e hf
              obtain ⟨r13, w14, he15, hf⟩ := hf
              refine xw_Vv hB hK hE hS hP (As := []) (rest := []) (kX8_clause l G hG n w12 _ _ he15) gs_X8_166 (xw_rc hK hP (C := RX8) (T := TX8) (N := 31) (xw_o8 G) rfl) 0 hv_X8_clause ⟨Nat.le_of_ble_eq_true rfl, Nat.le_of_ble_eq_true rfl⟩ rfl hl.1 (Nat.le_of_ble_eq_true rfl) rfl dX8_readAll_53 ⟨Nat.zero_le _, Nat.zero_le _⟩ (fun H locs hP hS => ?_)
              obtain ⟨x1_16, ex1_16⟩ : ∃ y : Int32, y = x1 + 1 := ⟨_, rfl⟩
              replace hf := xw_lt_e ex1_16 hf
              refine lv_iinc (v := x1_16) (lv' := [(1, .int x1_16), (0, .ref (xw_ad G 119))]) hx hb dX8_readAll_56 hl (k := 1) rfl (by rw [ex1_16]; rfl) (by decide) rfl (fun ls hl => ?_)
              refine lv_goto (tgt := 27) hx hb dX8_readAll_59 (by decide) ?_
              have hi := hC27 _ (xw_so hf).symm
              exact ih27 x1_16 w14 hi H locs ls hP hS (lv_sub hl [1, 0] rfl)
      exact LL27 n x1 w hit27 H locs ls hP hS hl
    refine lv_aload_n hx hb dX8_readAll_0 rfl (lv_at hl 0 rfl) ?_
    refine lv_iconst (v := 0) hx hb dX8_readAll_1 (by decide) ?_
    refine xw_put hG hB hK hS hP (x := (0 : Int32)) (xw_o8 G) (C := RX8) (T := TX8) (N := 31) rfl TBi_X8 tyX8 tyX8_ok nmX8 11 (by decide) tw_739 rfl rfl rfl rfl rfl (Nat.le_of_ble_eq_true rfl) rfl dX8_readAll_2 (fun w1 ew1 H locs hP hS => ?_)
    replace hf := xw_lt_e ew1 hf
    refine lv_aload_n hx hb dX8_readAll_5 rfl (lv_at hl 0 rfl) ?_
    refine lv_iconst (v := 1) hx hb dX8_readAll_6 (by decide) ?_
    refine xw_put hG hB hK hS hP (x := (1 : Int32)) (xw_o8 G) (C := RX8) (T := TX8) (N := 31) rfl TBi_X8 tyX8 tyX8_ok nmX8 12 (by decide) tw_740 rfl rfl rfl rfl rfl (Nat.le_of_ble_eq_true rfl) rfl dX8_readAll_7 (fun w2 ew2 H locs hP hS => ?_)
    replace hf := xw_lt_e ew2 hf
    refine lv_aload_n hx hb dX8_readAll_10 rfl (lv_at hl 0 rfl) ?_
    refine lv_bipush (v := 20) hx hb dX8_readAll_11 (by decide) ?_
    refine xw_put hG hB hK hS hP (x := (20 : Int32)) (xw_o8 G) (C := RX8) (T := TX8) (N := 31) rfl TBi_X8 tyX8 tyX8_ok nmX8 14 (by decide) tw_742 rfl rfl rfl rfl rfl (Nat.le_of_ble_eq_true rfl) rfl dX8_readAll_13 (fun w3 ew3 H locs hP hS => ?_)
    replace hf := xw_lt_e ew3 hf
    refine lv_aload_n hx hb dX8_readAll_16 rfl (lv_at hl 0 rfl) ?_
    refine lv_iconst (v := 2) hx hb dX8_readAll_17 (by decide) ?_
    refine xw_put hG hB hK hS hP (x := (2 : Int32)) (xw_o8 G) (C := RX8) (T := TX8) (N := 31) rfl TBi_X8 tyX8 tyX8_ok nmX8 15 (by decide) tw_743 rfl rfl rfl rfl rfl (Nat.le_of_ble_eq_true rfl) rfl dX8_readAll_18 (fun w4 ew4 H locs hP hS => ?_)
    replace hf := xw_lt_e ew4 hf
    refine lv_iconst (v := 1) hx hb dX8_readAll_21 (by decide) ?_
    refine lv_istore_n (lv' := [(1, .int (1 : Int32)), (0, .ref (xw_ad G 119))]) hx hb dX8_readAll_22 rfl hl (by decide) rfl (fun ls hl => ?_)
    refine lv_aload_n hx hb dX8_readAll_23 rfl (lv_at hl 1 rfl) ?_
    replace hf := xw_b_e hf
    obtain ⟨r5, w6, he7, hf⟩ := hf
    refine xw_Vv hB hK hE hS hP (As := []) (rest := []) (kX8_clause l G hG n w4 _ _ he7) gs_X8_166 (xw_rc hK hP (C := RX8) (T := TX8) (N := 31) (xw_o8 G) rfl) 0 hv_X8_clause ⟨Nat.le_of_ble_eq_true rfl, Nat.le_of_ble_eq_true rfl⟩ rfl hl.1 (Nat.le_of_ble_eq_true rfl) rfl dX8_readAll_24 ⟨Nat.zero_le _, Nat.zero_le _⟩ (fun H locs hP hS => ?_)
    exact J27 (1 : Int32) w6 hf H locs ls hP hS (lv_sub hl [1, 0] rfl)
  exact HH s.heap [] hP hS
def fX8_readFor_152 (n : Nat) (a1 : Int32) (a2 : Int32) (w : xw_M) : Option (Unit × xw_M) := xw_lt (xw_si w 119 14 ((w.1 119 14) - ((w.1 119 15) * a2))) (fun w29 => some ((), w29))
def fX8_readFor_147 (n : Nat) (a1 : Int32) (a2 : Int32) (w : xw_M) : Option (Unit × xw_M) := xw_b (fX8_readAll n w) (fun r35 w36 => fX8_readFor_152 n a1 a2 w36)
def fX8_readFor_b113 (n : Nat) (a1 : Int32) (a2 : Int32) (x3 : Int32) (x4 : Int32) (w : xw_M) : Option ((Int32 × xw_M) ⊕ (xw_M)) := if (w.1 119 10) ≤ x4 then some (.inr w) else xw_ck (((100 : Int32) * x3) + x4) 600 (xw_ck x4 100 (xw_lt (xw_si w 126 x4.toNatClampNeg (w.1 124 (((100 : Int32) * x3) + x4).toNatClampNeg)) (fun w33 => xw_lt (x4 + 1) (fun x4_34 => some (.inl (x4_34, w33))))))
def fX8_readFor_113 (n : Nat) (a1 : Int32) (a2 : Int32) (x3 : Int32) (x4 : Int32) (w : xw_M) : Option (Unit × xw_M) := xw_bp (xw_it (fun z => fX8_readFor_b113 n a1 a2 x3 z.1 z.2) n (x4, w)) (fun z => (fun (w : xw_M) => fX8_readFor_147 n a1 a2 w) z)
def fX8_readFor (n : Nat) (a1 : Int32) (a2 : Int32) (w0 : xw_M) : Option (Unit × xw_M) := xw_ck (0 : Int32) 6 (xw_lt (xw_si w0 127 (0 : Int32).toNatClampNeg a1) (fun w2 => xw_bp (fX8_one a1 (0 : Int32) w2) (fun r3 => xw_ck (1 : Int32) 6 (xw_lt (xw_si w2 127 (1 : Int32).toNatClampNeg r3) (fun w6 => xw_bp (fX8_one a1 (1 : Int32) w6) (fun r7 => xw_ck (2 : Int32) 6 (xw_lt (xw_si w6 127 (2 : Int32).toNatClampNeg r7) (fun w10 => xw_bp (fX8_one a1 (2 : Int32) w10) (fun r11 => xw_ck (3 : Int32) 6 (xw_lt (xw_si w10 127 (3 : Int32).toNatClampNeg r11) (fun w14 => xw_ck (4 : Int32) 6 (xw_lt (xw_si w14 127 (4 : Int32).toNatClampNeg a2) (fun w16 => xw_ck (62 : Int32) 109 (xw_cc (¬ (10 : Int32) = 0) (xw_ck (5 : Int32) 6 (xw_lt (xw_si w16 127 (5 : Int32).toNatClampNeg ((w16.1 120 (62 : Int32).toNatClampNeg) - (w16.1 120 (62 : Int32).toNatClampNeg) / (10 : Int32) * (10 : Int32))) (fun w20 => xw_ck (63 : Int32) 109 (if (w20.1 120 (63 : Int32).toNatClampNeg) = 0 then xw_lt (xw_si w20 119 14 (20 : Int32)) (fun w27 => xw_lt (xw_si w27 119 15 (2 : Int32)) (fun w28 => fX8_readFor_152 n a1 a2 w28)) else xw_ck (63 : Int32) 109 (xw_lt ((w20.1 120 (63 : Int32).toNatClampNeg) - (1 : Int32)) (fun x3_24 => xw_ck x3_24 6 (xw_lt (xw_si w20 119 10 (w20.1 125 x3_24.toNatClampNeg)) (fun w26 => fX8_readFor_113 n a1 a2 x3_24 (0 : Int32) w26))))))))))))))))))))))
set_option maxHeartbeats 4000000 in
set_option maxRecDepth 100000 in
theorem kX8_readFor (l : Launch) (G : xw_G) (hG : xw_ok G) (n : Nat) (a1 : Int32) (a2 : Int32) (w0 : xw_M) (r0 : Unit) (wz : xw_M) (hf : fX8_readFor n a1 a2 w0 = some (r0, wz)) : xw_Tv l G yX8_readFor cX8_readFor 5 ((Option.none : Option Jvm.ClassFile.FieldType)) (29) (629) [.ref (xw_ad G 119), .int a1, .int a2] w0 r0 wz := by
  unfold xw_Tv
  refine Met.ofW (cc := cX8_readFor) (maxL := 5) (ret := (Option.none : Option Jvm.ClassFile.FieldType)) (by decide) rfl ?_
  intro p e s m args below meth c s₁ B hml hv
  obtain ⟨hargs, hP, hK, hE⟩ := hv
  have hx := B.exec
  have hb := B.bytes
  have hr := B.returns
  have hlk := B.notSynchronized
  have hB : CallFix p m c cX8_readFor 5 s args TB RX8 := ⟨hx, hb, hml, findClass_of_methodNamed B.named, fun q h => (atoms_spec (ws := Cond.code yX8_readFor cX8_readFor 5 ((Option.none : Option Jvm.ClassFile.FieldType)) :: TB) B.pre) q (List.mem_cons_of_mem _ h)⟩
  have hS : va_S (xw_A G) s.heap s.heap [] := va_S.rf
  have hl := lv_entry [.ref (xw_ad G 119), .int a1, .int a2] (n := 5) (Nat.le_of_ble_eq_true rfl)
  rw [show entryFrame m args 5 = entryFrame m ([.ref (xw_ad G 119), .int a1, .int a2] : List Value).toArray 5 from by rw [hargs], lg_entry_eq]
  generalize (lg_sl [.ref (xw_ad G 119), .int a1, .int a2] ++ List.replicate (5 - (lg_sl [.ref (xw_ad G 119), .int a1, .int a2]).length) Slot.unset).toArray = ls at hl ⊢
  have hP : va_P (xw_D G) xw_cl (xw_W G w0) s.heap := hP
  have hl : lv_has ls 5 [(0, .ref (xw_ad G 119)), (1, .int a1), (2, .int a2)] := hl
  have HH : ∀ (H : Heap) (locs : List Loc) (hP : va_P (xw_D G) xw_cl (xw_W G w0) H) (hS : va_S (xw_A G) s.heap H locs), xw_Wv G p l e (xw_rm (29) (629)) s m args below meth c H locs r0 wz (F0 m 0 ls []) := by
    intro H locs hP hS
    unfold fX8_readFor at hf
    have J152 : ∀ (w : xw_M) (hf : fX8_readFor_152 n a1 a2 w = some (r0, wz)) (H : Heap) (locs : List Loc) (ls : Array Slot) (hP : va_P (xw_D G) xw_cl (xw_W G w) H) (hS : va_S (xw_A G) s.heap H locs) (hl : lv_has ls 5 [(0, .ref (xw_ad G 119)), (2, .int a2)]), xw_Wv G p l e (xw_rm (29) (629)) s m args below meth c H locs r0 wz (F0 m 152 ls []) := by
      intro w hf H locs ls hP hS hl
      unfold fX8_readFor_152 at hf
      refine lv_aload_n hx hb dX8_readFor_152 rfl (lv_at hl 0 rfl) ?_
      refine lv_dup hx hb dX8_readFor_153 rfl ?_
      refine xw_get hB hK hP (xw_o8 G) (C := RX8) (T := TX8) (N := 31) rfl TBi_X8 14 (by decide) tw_742 rfl rfl dX8_readFor_154 ?_
      refine lv_aload_n hx hb dX8_readFor_157 rfl (lv_at hl 0 rfl) ?_
      refine xw_get hB hK hP (xw_o8 G) (C := RX8) (T := TX8) (N := 31) rfl TBi_X8 15 (by decide) tw_743 rfl rfl dX8_readFor_158 ?_
      refine lv_iload_n hx hb dX8_readFor_161 rfl (lv_at hl 1 rfl) ?_
      refine lv_imul hx hb dX8_readFor_162 ?_
      refine lv_isub hx hb dX8_readFor_163 ?_
      refine xw_put hG hB hK hS hP (x := (w.1 119 14) - ((w.1 119 15) * a2)) (xw_o8 G) (C := RX8) (T := TX8) (N := 31) rfl TBi_X8 tyX8 tyX8_ok nmX8 14 (by decide) tw_742 rfl rfl rfl rfl rfl (Nat.le_of_ble_eq_true rfl) rfl dX8_readFor_164 (fun w29 ew29 H locs hP hS => ?_)
      replace hf := xw_lt_e ew29 hf
      obtain ⟨h0, h1⟩ := xw_s2 hf
      exact xw_vret hB hK hE hS hP hr hlk h1 dX8_readFor_167
    have J147 : ∀ (w : xw_M) (hf : fX8_readFor_147 n a1 a2 w = some (r0, wz)) (H : Heap) (locs : List Loc) (ls : Array Slot) (hP : va_P (xw_D G) xw_cl (xw_W G w) H) (hS : va_S (xw_A G) s.heap H locs) (hl : lv_has ls 5 [(0, .ref (xw_ad G 119)), (2, .int a2)]), xw_Wv G p l e (xw_rm (29) (629)) s m args below meth c H locs r0 wz (F0 m 147 ls []) := by
      intro w hf H locs ls hP hS hl
      unfold fX8_readFor_147 at hf
      refine lv_aload_n hx hb dX8_readFor_147 rfl (lv_at hl 0 rfl) ?_
      replace hf := xw_b_e hf
      obtain ⟨r35, w36, he37, hf⟩ := hf
      refine xw_Vi hB hK hE hS hP (As := []) (rest := []) (kX8_readAll l G hG n w _ _ he37) gs_X8_169 (xw_rc hK hP (C := RX8) (T := TX8) (N := 31) (xw_o8 G) rfl) 0 hv_X8_readAll ⟨Nat.le_of_ble_eq_true rfl, Nat.le_of_ble_eq_true rfl⟩ rfl hl.1 (Nat.le_of_ble_eq_true rfl) rfl dX8_readFor_148 ⟨Nat.zero_le _, Nat.zero_le _⟩ (fun H locs hP hS => ?_)
      refine lv_pop hx hb dX8_readFor_151 rfl ?_
      exact J152 w36 hf H locs ls hP hS (lv_sub hl [0, 1] rfl)
    have J113 : ∀ (x3 : Int32) (x4 : Int32) (w : xw_M) (hf : fX8_readFor_113 n a1 a2 x3 x4 w = some (r0, wz)) (H : Heap) (locs : List Loc) (ls : Array Slot) (hP : va_P (xw_D G) xw_cl (xw_W G w) H) (hS : va_S (xw_A G) s.heap H locs) (hl : lv_has ls 5 [(0, .ref (xw_ad G 119)), (2, .int a2), (3, .int x3), (4, .int x4)]), xw_Wv G p l e (xw_rm (29) (629)) s m args below meth c H locs r0 wz (F0 m 113 ls []) := by
      intro x3 x4 w hf H locs ls hP hS hl
      unfold fX8_readFor_113 at hf
      replace hf := xw_bp_e hf
      obtain ⟨bb113, hit113, hfx113⟩ := hf
      have XX113 : ∀ (w : xw_M) (hf : fX8_readFor_147 n a1 a2 w = some (r0, wz)) (H : Heap) (locs : List Loc) (ls : Array Slot) (hP : va_P (xw_D G) xw_cl (xw_W G w) H) (hS : va_S (xw_A G) s.heap H locs) (hl : lv_has ls 5 [(0, .ref (xw_ad G 119)), (2, .int a2)]), xw_Wv G p l e (xw_rm (29) (629)) s m args below meth c H locs r0 wz (F0 m 147 ls []) := by
        intro w hf H locs ls hP hS hl
        exact J147 w hf H locs ls hP hS (lv_sub hl [0, 1] rfl)
      have LL113 : ∀ (nn : Nat) (x4 : Int32) (w : xw_M) (hit : xw_it (fun z => fX8_readFor_b113 n a1 a2 x3 z.1 z.2) nn (x4, w) = some bb113) (H : Heap) (locs : List Loc) (ls : Array Slot) (hP : va_P (xw_D G) xw_cl (xw_W G w) H) (hS : va_S (xw_A G) s.heap H locs) (hl : lv_has ls 5 [(0, .ref (xw_ad G 119)), (2, .int a2), (3, .int x3), (4, .int x4)]), xw_Wv G p l e (xw_rm (29) (629)) s m args below meth c H locs r0 wz (F0 m 113 ls []) := by
        intro nn
        induction nn with
        | zero => intro x4 w hit; exact (xw_it_0 hit).elim
        | succ nn ih113 =>
          intro x4 w hit H locs ls hP hS hl
          replace hit := xw_it_e hit
          obtain ⟨wv113, hf, hC113, hX113⟩ := hit
          replace hf : fX8_readFor_b113 n a1 a2 x3 x4 w = some wv113 := hf
          unfold fX8_readFor_b113 at hf
          refine lv_iload hx hb dX8_readFor_113 (lv_at hl 3 rfl) ?_
          refine lv_aload_n hx hb dX8_readFor_115 rfl (lv_at hl 0 rfl) ?_
          refine xw_get hB hK hP (xw_o8 G) (C := RX8) (T := TX8) (N := 31) rfl TBi_X8 10 (by decide) tw_738 rfl rfl dX8_readFor_116 ?_
          refine lv_icmp_ge (tgt := 147) hx hb dX8_readFor_119 (by decide) (fun c30 => ?_) (fun c30 => ?_)
          · replace hf := xw_ip c30 hf
            have he113 := hX113 _ (xw_so hf).symm
            rw [← he113] at hfx113
            exact XX113 w hfx113 H locs ls hP hS (lv_sub hl [0, 1] rfl)
          · replace hf := xw_in' c30 hf
            refine lv_aload_n hx hb dX8_readFor_122 rfl (lv_at hl 0 rfl) ?_
            refine xw_get hB hK hP (xw_o8 G) (C := RX8) (T := TX8) (N := 31) rfl TBi_X8 9 (by decide) tw_737 rfl rfl dX8_readFor_123 ?_
            refine lv_iload hx hb dX8_readFor_126 (lv_at hl 3 rfl) ?_
            refine lv_aload_n hx hb dX8_readFor_128 rfl (lv_at hl 0 rfl) ?_
            refine xw_get hB hK hP (xw_o8 G) (C := RX8) (T := TX8) (N := 31) rfl TBi_X8 6 (by decide) tw_734 rfl rfl dX8_readFor_129 ?_
            refine lv_bipush (v := 100) hx hb dX8_readFor_132 (by decide) ?_
            refine lv_iload_n hx hb dX8_readFor_134 rfl (lv_at hl 2 rfl) ?_
            refine lv_imul hx hb dX8_readFor_135 ?_
            refine lv_iload hx hb dX8_readFor_136 (lv_at hl 3 rfl) ?_
            refine lv_iadd hx hb dX8_readFor_138 ?_
            replace hf := xw_ck_e hf
            obtain ⟨hi31, hf⟩ := hf
            refine xw_ild hB hK hP (xw_k124 G) hi31 dX8_readFor_139 ?_
            replace hf := xw_ck_e hf
            obtain ⟨hi32, hf⟩ := hf
            refine xw_ist hG hB hK hS hP (xw_k126 G) hi32 dX8_readFor_140 (fun w33 ew33 H locs hP hS => ?_)
            replace hf := xw_lt_e ew33 hf
            obtain ⟨x4_34, ex4_34⟩ : ∃ y : Int32, y = x4 + 1 := ⟨_, rfl⟩
            replace hf := xw_lt_e ex4_34 hf
            refine lv_iinc (v := x4_34) (lv' := [(4, .int x4_34), (0, .ref (xw_ad G 119)), (2, .int a2), (3, .int x3)]) hx hb dX8_readFor_141 hl (k := 3) rfl (by rw [ex4_34]; rfl) (by decide) rfl (fun ls hl => ?_)
            refine lv_goto (tgt := 113) hx hb dX8_readFor_144 (by decide) ?_
            have hi := hC113 _ (xw_so hf).symm
            exact ih113 x4_34 w33 hi H locs ls hP hS (lv_sub hl [1, 2, 3, 0] rfl)
      exact LL113 n x4 w hit113 H locs ls hP hS hl
    refine lv_aload_n hx hb dX8_readFor_0 rfl (lv_at hl 0 rfl) ?_
    refine xw_get hB hK hP (xw_o8 G) (C := RX8) (T := TX8) (N := 31) rfl TBi_X8 16 (by decide) tw_744 rfl rfl dX8_readFor_1 ?_
    refine lv_iconst (v := 0) hx hb dX8_readFor_4 (by decide) ?_
    refine lv_iload_n hx hb dX8_readFor_5 rfl (lv_at hl 1 rfl) ?_
    replace hf := xw_ck_e hf
    obtain ⟨hi1, hf⟩ := hf
    refine xw_ist hG hB hK hS hP (xw_k127 G) hi1 dX8_readFor_6 (fun w2 ew2 H locs hP hS => ?_)
    replace hf := xw_lt_e ew2 hf
    refine lv_aload_n hx hb dX8_readFor_7 rfl (lv_at hl 0 rfl) ?_
    refine xw_get hB hK hP (xw_o8 G) (C := RX8) (T := TX8) (N := 31) rfl TBi_X8 16 (by decide) tw_744 rfl rfl dX8_readFor_8 ?_
    refine lv_iconst (v := 1) hx hb dX8_readFor_11 (by decide) ?_
    refine lv_aload_n hx hb dX8_readFor_12 rfl (lv_at hl 0 rfl) ?_
    refine lv_iload_n hx hb dX8_readFor_13 rfl (lv_at hl 1 rfl) ?_
    refine lv_iconst (v := 0) hx hb dX8_readFor_14 (by decide) ?_
    replace hf := xw_bp_e hf
    obtain ⟨r3, he4, hf⟩ := hf
    refine xw_Vi hB hK hE hS hP (As := [.int a1, .int (0 : Int32)]) (rest := [.int (1 : Int32), .ref (xw_ad G 127)]) (kX8_one l G hG a1 (0 : Int32) w2 _ he4) gs_X8_89 (xw_rc hK hP (C := RX8) (T := TX8) (N := 31) (xw_o8 G) rfl) 2 hv_X8_one ⟨Nat.le_of_ble_eq_true rfl, Nat.le_of_ble_eq_true rfl⟩ rfl hl.1 (Nat.le_of_ble_eq_true rfl) rfl dX8_readFor_15 ⟨Nat.zero_le _, Nat.zero_le _⟩ (fun H locs hP hS => ?_)
    replace hf := xw_ck_e hf
    obtain ⟨hi5, hf⟩ := hf
    refine xw_ist hG hB hK hS hP (xw_k127 G) hi5 dX8_readFor_18 (fun w6 ew6 H locs hP hS => ?_)
    replace hf := xw_lt_e ew6 hf
    refine lv_aload_n hx hb dX8_readFor_19 rfl (lv_at hl 0 rfl) ?_
    refine xw_get hB hK hP (xw_o8 G) (C := RX8) (T := TX8) (N := 31) rfl TBi_X8 16 (by decide) tw_744 rfl rfl dX8_readFor_20 ?_
    refine lv_iconst (v := 2) hx hb dX8_readFor_23 (by decide) ?_
    refine lv_aload_n hx hb dX8_readFor_24 rfl (lv_at hl 0 rfl) ?_
    refine lv_iload_n hx hb dX8_readFor_25 rfl (lv_at hl 1 rfl) ?_
    refine lv_iconst (v := 1) hx hb dX8_readFor_26 (by decide) ?_
    replace hf := xw_bp_e hf
    obtain ⟨r7, he8, hf⟩ := hf
    refine xw_Vi hB hK hE hS hP (As := [.int a1, .int (1 : Int32)]) (rest := [.int (2 : Int32), .ref (xw_ad G 127)]) (kX8_one l G hG a1 (1 : Int32) w6 _ he8) gs_X8_89 (xw_rc hK hP (C := RX8) (T := TX8) (N := 31) (xw_o8 G) rfl) 2 hv_X8_one ⟨Nat.le_of_ble_eq_true rfl, Nat.le_of_ble_eq_true rfl⟩ rfl hl.1 (Nat.le_of_ble_eq_true rfl) rfl dX8_readFor_27 ⟨Nat.zero_le _, Nat.zero_le _⟩ (fun H locs hP hS => ?_)
    replace hf := xw_ck_e hf
    obtain ⟨hi9, hf⟩ := hf
    refine xw_ist hG hB hK hS hP (xw_k127 G) hi9 dX8_readFor_30 (fun w10 ew10 H locs hP hS => ?_)
    replace hf := xw_lt_e ew10 hf
    refine lv_aload_n hx hb dX8_readFor_31 rfl (lv_at hl 0 rfl) ?_
    refine xw_get hB hK hP (xw_o8 G) (C := RX8) (T := TX8) (N := 31) rfl TBi_X8 16 (by decide) tw_744 rfl rfl dX8_readFor_32 ?_
    refine lv_iconst (v := 3) hx hb dX8_readFor_35 (by decide) ?_
    refine lv_aload_n hx hb dX8_readFor_36 rfl (lv_at hl 0 rfl) ?_
    refine lv_iload_n hx hb dX8_readFor_37 rfl (lv_at hl 1 rfl) ?_
    refine lv_iconst (v := 2) hx hb dX8_readFor_38 (by decide) ?_
    replace hf := xw_bp_e hf
    obtain ⟨r11, he12, hf⟩ := hf
    refine xw_Vi hB hK hE hS hP (As := [.int a1, .int (2 : Int32)]) (rest := [.int (3 : Int32), .ref (xw_ad G 127)]) (kX8_one l G hG a1 (2 : Int32) w10 _ he12) gs_X8_89 (xw_rc hK hP (C := RX8) (T := TX8) (N := 31) (xw_o8 G) rfl) 2 hv_X8_one ⟨Nat.le_of_ble_eq_true rfl, Nat.le_of_ble_eq_true rfl⟩ rfl hl.1 (Nat.le_of_ble_eq_true rfl) rfl dX8_readFor_39 ⟨Nat.zero_le _, Nat.zero_le _⟩ (fun H locs hP hS => ?_)
    replace hf := xw_ck_e hf
    obtain ⟨hi13, hf⟩ := hf
    refine xw_ist hG hB hK hS hP (xw_k127 G) hi13 dX8_readFor_42 (fun w14 ew14 H locs hP hS => ?_)
    replace hf := xw_lt_e ew14 hf
    refine lv_aload_n hx hb dX8_readFor_43 rfl (lv_at hl 0 rfl) ?_
    refine xw_get hB hK hP (xw_o8 G) (C := RX8) (T := TX8) (N := 31) rfl TBi_X8 16 (by decide) tw_744 rfl rfl dX8_readFor_44 ?_
    refine lv_iconst (v := 4) hx hb dX8_readFor_47 (by decide) ?_
    refine lv_iload_n hx hb dX8_readFor_48 rfl (lv_at hl 2 rfl) ?_
    replace hf := xw_ck_e hf
    obtain ⟨hi15, hf⟩ := hf
    refine xw_ist hG hB hK hS hP (xw_k127 G) hi15 dX8_readFor_49 (fun w16 ew16 H locs hP hS => ?_)
    replace hf := xw_lt_e ew16 hf
    refine lv_aload_n hx hb dX8_readFor_50 rfl (lv_at hl 0 rfl) ?_
    refine xw_get hB hK hP (xw_o8 G) (C := RX8) (T := TX8) (N := 31) rfl TBi_X8 16 (by decide) tw_744 rfl rfl dX8_readFor_51 ?_
    refine lv_iconst (v := 5) hx hb dX8_readFor_54 (by decide) ?_
    refine lv_aload_n hx hb dX8_readFor_55 rfl (lv_at hl 0 rfl) ?_
    refine xw_get hB hK hP (xw_o8 G) (C := RX8) (T := TX8) (N := 31) rfl TBi_X8 0 (by decide) tw_728 rfl rfl dX8_readFor_56 ?_
    refine lv_bipush (v := 62) hx hb dX8_readFor_59 (by decide) ?_
    replace hf := xw_ck_e hf
    obtain ⟨hi17, hf⟩ := hf
    refine xw_ild hB hK hP (xw_k120 G) hi17 dX8_readFor_61 ?_
    refine lv_bipush (v := 10) hx hb dX8_readFor_62 (by decide) ?_
    replace hf := xw_cc_e hf
    obtain ⟨hd18, hf⟩ := hf
    refine lv_irem hx hb dX8_readFor_64 hd18 ?_
    replace hf := xw_ck_e hf
    obtain ⟨hi19, hf⟩ := hf
    refine xw_ist hG hB hK hS hP (xw_k127 G) hi19 dX8_readFor_65 (fun w20 ew20 H locs hP hS => ?_)
    replace hf := xw_lt_e ew20 hf
    refine lv_aload_n hx hb dX8_readFor_66 rfl (lv_at hl 0 rfl) ?_
    refine xw_get hB hK hP (xw_o8 G) (C := RX8) (T := TX8) (N := 31) rfl TBi_X8 0 (by decide) tw_728 rfl rfl dX8_readFor_67 ?_
    refine lv_bipush (v := 63) hx hb dX8_readFor_70 (by decide) ?_
    replace hf := xw_ck_e hf
    obtain ⟨hi21, hf⟩ := hf
    refine xw_ild hB hK hP (xw_k120 G) hi21 dX8_readFor_72 ?_
    refine lv_if_ne (tgt := 90) hx hb dX8_readFor_73 (by decide) (fun c22 => ?_) (fun c22 => ?_)
    · replace hf := xw_in' c22 hf
      refine lv_aload_n hx hb dX8_readFor_90 rfl (lv_at hl 0 rfl) ?_
      refine xw_get hB hK hP (xw_o8 G) (C := RX8) (T := TX8) (N := 31) rfl TBi_X8 0 (by decide) tw_728 rfl rfl dX8_readFor_91 ?_
      refine lv_bipush (v := 63) hx hb dX8_readFor_94 (by decide) ?_
      replace hf := xw_ck_e hf
      obtain ⟨hi23, hf⟩ := hf
      refine xw_ild hB hK hP (xw_k120 G) hi23 dX8_readFor_96 ?_
      refine lv_iconst (v := 1) hx hb dX8_readFor_97 (by decide) ?_
      refine lv_isub hx hb dX8_readFor_98 ?_
      refine lv_topi (fun x3_24 ex3_24 => ?_)
      replace hf := xw_lt_e ex3_24 hf
      refine lv_istore_n (lv' := [(3, .int x3_24), (0, .ref (xw_ad G 119)), (1, .int a1), (2, .int a2)]) hx hb dX8_readFor_99 rfl hl (by decide) rfl (fun ls hl => ?_)
      refine lv_aload_n hx hb dX8_readFor_100 rfl (lv_at hl 1 rfl) ?_
      refine lv_aload_n hx hb dX8_readFor_101 rfl (lv_at hl 1 rfl) ?_
      refine xw_get hB hK hP (xw_o8 G) (C := RX8) (T := TX8) (N := 31) rfl TBi_X8 7 (by decide) tw_735 rfl rfl dX8_readFor_102 ?_
      refine lv_iload_n hx hb dX8_readFor_105 rfl (lv_at hl 0 rfl) ?_
      replace hf := xw_ck_e hf
      obtain ⟨hi25, hf⟩ := hf
      refine xw_ild hB hK hP (xw_k125 G) hi25 dX8_readFor_106 ?_
      refine xw_put hG hB hK hS hP (x := w20.1 125 x3_24.toNatClampNeg) (xw_o8 G) (C := RX8) (T := TX8) (N := 31) rfl TBi_X8 tyX8 tyX8_ok nmX8 10 (by decide) tw_738 rfl rfl rfl rfl rfl (Nat.le_of_ble_eq_true rfl) rfl dX8_readFor_107 (fun w26 ew26 H locs hP hS => ?_)
      replace hf := xw_lt_e ew26 hf
      refine lv_iconst (v := 0) hx hb dX8_readFor_110 (by decide) ?_
      refine lv_istore (lv' := [(4, .int (0 : Int32)), (3, .int x3_24), (0, .ref (xw_ad G 119)), (1, .int a1), (2, .int a2)]) hx hb dX8_readFor_111 hl (by decide) rfl (fun ls hl => ?_)
      exact J113 x3_24 (0 : Int32) w26 hf H locs ls hP hS (lv_sub hl [2, 4, 1, 0] rfl)
    · replace hf := xw_ip c22 hf
      refine lv_aload_n hx hb dX8_readFor_76 rfl (lv_at hl 0 rfl) ?_
      refine lv_bipush (v := 20) hx hb dX8_readFor_77 (by decide) ?_
      refine xw_put hG hB hK hS hP (x := (20 : Int32)) (xw_o8 G) (C := RX8) (T := TX8) (N := 31) rfl TBi_X8 tyX8 tyX8_ok nmX8 14 (by decide) tw_742 rfl rfl rfl rfl rfl (Nat.le_of_ble_eq_true rfl) rfl dX8_readFor_79 (fun w27 ew27 H locs hP hS => ?_)
      replace hf := xw_lt_e ew27 hf
      refine lv_aload_n hx hb dX8_readFor_82 rfl (lv_at hl 0 rfl) ?_
      refine lv_iconst (v := 2) hx hb dX8_readFor_83 (by decide) ?_
      refine xw_put hG hB hK hS hP (x := (2 : Int32)) (xw_o8 G) (C := RX8) (T := TX8) (N := 31) rfl TBi_X8 tyX8 tyX8_ok nmX8 15 (by decide) tw_743 rfl rfl rfl rfl rfl (Nat.le_of_ble_eq_true rfl) rfl dX8_readFor_84 (fun w28 ew28 H locs hP hS => ?_)
      replace hf := xw_lt_e ew28 hf
      refine lv_goto (tgt := 152) hx hb dX8_readFor_87 (by decide) ?_
      exact J152 w28 hf H locs ls hP hS (lv_sub hl [0, 2] rfl)
  exact HH s.heap [] hP hS
def fX8_rate_19 (n : Nat) (a1 : Int32) (a2 : Int32) (v0 : Int32) (w : xw_M) : Option (Int32 × xw_M) := xw_bp (fX8_one a1 (0 : Int32) w) (fun r5 => if r5 = 1 then xw_bp (fX8_one a1 (1 : Int32) w) (fun r7 => some ((w.1 119 14) + r7, w)) else (if r5 = 2 then xw_cc (¬ (2 : Int32) = 0) (some ((w.1 119 14) / (2 : Int32), w)) else (if r5 = 3 then some (v0, w) else (if r5 = 4 then xw_ck (62 : Int32) 109 (xw_cc (¬ (7 : Int32) = 0) (if ((w.1 120 (62 : Int32).toNatClampNeg) - (w.1 120 (62 : Int32).toNatClampNeg) / (7 : Int32) * (7 : Int32)) = 0 then some ((0 : Int32), w) else xw_bp (fX8_one a1 (1 : Int32) w) (fun r16 => some ((w.1 119 14) + r16, w)))) else (if r5 = 5 then xw_cc (¬ (2 : Int32) = 0) (some (((w.1 119 14) / (2 : Int32)) + (5 : Int32), w)) else (if r5 = 6 then xw_cc (¬ (4 : Int32) = 0) (xw_bp (fX8_one a1 ((6 : Int32) + (a2 - a2 / (4 : Int32) * (4 : Int32))) w) (fun r22 => some (v0 + r22, w))) else (some (w.1 119 14, w))))))))
def fX8_rate (n : Nat) (a1 : Int32) (a2 : Int32) (w0 : xw_M) : Option (Int32 × xw_M) := xw_b (fX8_readFor n a1 a2 w0) (fun (_ : Unit) w2 => if a2 < (5 : Int32) then fX8_rate_19 n a1 a2 (w2.1 119 14) w2 else fX8_rate_19 n a1 a2 (1 : Int32) w2)
set_option maxHeartbeats 4000000 in
set_option maxRecDepth 100000 in
theorem kX8_rate (l : Launch) (G : xw_G) (hG : xw_ok G) (n : Nat) (a1 : Int32) (a2 : Int32) (w0 : xw_M) (r0 : Int32) (wz : xw_M) (hf : fX8_rate n a1 a2 w0 = some (r0, wz)) : xw_Ti l G yX8_rate cX8_rate 4 ((Option.some Jvm.ClassFile.FieldType.int)) (30) (653) [.ref (xw_ad G 119), .int a1, .int a2] w0 r0 wz := by
  unfold xw_Ti
  refine Met.ofW (cc := cX8_rate) (maxL := 4) (ret := (Option.some Jvm.ClassFile.FieldType.int)) (by decide) rfl ?_
  intro p e s m args below meth c s₁ B hml hv
  obtain ⟨hargs, hP, hK, hE⟩ := hv
  have hx := B.exec
  have hb := B.bytes
  have hr := B.returns
  have hlk := B.notSynchronized
  have hB : CallFix p m c cX8_rate 4 s args TB RX8 := ⟨hx, hb, hml, findClass_of_methodNamed B.named, fun q h => (atoms_spec (ws := Cond.code yX8_rate cX8_rate 4 ((Option.some Jvm.ClassFile.FieldType.int)) :: TB) B.pre) q (List.mem_cons_of_mem _ h)⟩
  have hS : va_S (xw_A G) s.heap s.heap [] := va_S.rf
  have hl := lv_entry [.ref (xw_ad G 119), .int a1, .int a2] (n := 4) (Nat.le_of_ble_eq_true rfl)
  rw [show entryFrame m args 4 = entryFrame m ([.ref (xw_ad G 119), .int a1, .int a2] : List Value).toArray 4 from by rw [hargs], lg_entry_eq]
  generalize (lg_sl [.ref (xw_ad G 119), .int a1, .int a2] ++ List.replicate (4 - (lg_sl [.ref (xw_ad G 119), .int a1, .int a2]).length) Slot.unset).toArray = ls at hl ⊢
  have hP : va_P (xw_D G) xw_cl (xw_W G w0) s.heap := hP
  have hl : lv_has ls 4 [(0, .ref (xw_ad G 119)), (1, .int a1), (2, .int a2)] := hl
  have HH : ∀ (H : Heap) (locs : List Loc) (hP : va_P (xw_D G) xw_cl (xw_W G w0) H) (hS : va_S (xw_A G) s.heap H locs), xw_Wi G p l e (xw_rm (30) (653)) s m args below meth c H locs r0 wz (F0 m 0 ls []) := by
    intro H locs hP hS
    unfold fX8_rate at hf
    have J19 : ∀ (v0 : Int32) (w : xw_M) (hf : fX8_rate_19 n a1 a2 v0 w = some (r0, wz)) (H : Heap) (locs : List Loc) (ls : Array Slot) (hP : va_P (xw_D G) xw_cl (xw_W G w) H) (hS : va_S (xw_A G) s.heap H locs) (hl : lv_has ls 4 [(0, .ref (xw_ad G 119)), (1, .int a1), (2, .int a2)]), xw_Wi G p l e (xw_rm (30) (653)) s m args below meth c H locs r0 wz (F0 m 19 ls [.int v0]) := by
      intro v0 w hf H locs ls hP hS hl
      unfold fX8_rate_19 at hf
      refine lv_istore_n (lv' := [(3, .int v0), (0, .ref (xw_ad G 119)), (1, .int a1), (2, .int a2)]) hx hb dX8_rate_19 rfl hl (by decide) rfl (fun ls hl => ?_)
      refine lv_aload_n hx hb dX8_rate_20 rfl (lv_at hl 1 rfl) ?_
      refine lv_iload_n hx hb dX8_rate_21 rfl (lv_at hl 2 rfl) ?_
      refine lv_iconst (v := 0) hx hb dX8_rate_22 (by decide) ?_
      replace hf := xw_bp_e hf
      obtain ⟨r5, he6, hf⟩ := hf
      refine xw_Vi hB hK hE hS hP (As := [.int a1, .int (0 : Int32)]) (rest := []) (kX8_one l G hG a1 (0 : Int32) w _ he6) gs_X8_89 (xw_rc hK hP (C := RX8) (T := TX8) (N := 31) (xw_o8 G) rfl) 2 hv_X8_one ⟨Nat.le_of_ble_eq_true rfl, Nat.le_of_ble_eq_true rfl⟩ rfl hl.1 (Nat.le_of_ble_eq_true rfl) rfl dX8_rate_23 ⟨Nat.zero_le _, Nat.zero_le _⟩ (fun H locs hP hS => ?_)
      by_cases c9 : r5 = 1
      · refine lv_tableIn (off := 38) (tgt := 64) hx hb dX8_rate_26 (by rw [c9]; decide) (by rw [c9]; decide) (by rw [c9]; rfl) (by decide) ?_
        replace hf := xw_ip c9 hf
        refine lv_aload_n hx hb dX8_rate_64 rfl (lv_at hl 1 rfl) ?_
        refine xw_get hB hK hP (xw_o8 G) (C := RX8) (T := TX8) (N := 31) rfl TBi_X8 14 (by decide) tw_742 rfl rfl dX8_rate_65 ?_
        refine lv_aload_n hx hb dX8_rate_68 rfl (lv_at hl 1 rfl) ?_
        refine lv_iload_n hx hb dX8_rate_69 rfl (lv_at hl 2 rfl) ?_
        refine lv_iconst (v := 1) hx hb dX8_rate_70 (by decide) ?_
        replace hf := xw_bp_e hf
        obtain ⟨r7, he8, hf⟩ := hf
        refine xw_Vi hB hK hE hS hP (As := [.int a1, .int (1 : Int32)]) (rest := [.int (w.1 119 14)]) (kX8_one l G hG a1 (1 : Int32) w _ he8) gs_X8_89 (xw_rc hK hP (C := RX8) (T := TX8) (N := 31) (xw_o8 G) rfl) 2 hv_X8_one ⟨Nat.le_of_ble_eq_true rfl, Nat.le_of_ble_eq_true rfl⟩ rfl hl.1 (Nat.le_of_ble_eq_true rfl) rfl dX8_rate_71 ⟨Nat.zero_le _, Nat.zero_le _⟩ (fun H locs hP hS => ?_)
        refine lv_iadd hx hb dX8_rate_74 ?_
        obtain ⟨h0, h1⟩ := xw_s2 hf
        exact xw_iret hB hK hE hS hP hr hlk h0 h1 dX8_rate_75
      · replace hf := xw_in' c9 hf
        by_cases c11 : r5 = 2
        · refine lv_tableIn (off := 50) (tgt := 76) hx hb dX8_rate_26 (by rw [c11]; decide) (by rw [c11]; decide) (by rw [c11]; rfl) (by decide) ?_
          replace hf := xw_ip c11 hf
          refine lv_aload_n hx hb dX8_rate_76 rfl (lv_at hl 1 rfl) ?_
          refine xw_get hB hK hP (xw_o8 G) (C := RX8) (T := TX8) (N := 31) rfl TBi_X8 14 (by decide) tw_742 rfl rfl dX8_rate_77 ?_
          refine lv_iconst (v := 2) hx hb dX8_rate_80 (by decide) ?_
          replace hf := xw_cc_e hf
          obtain ⟨hd10, hf⟩ := hf
          refine lv_idiv hx hb dX8_rate_81 hd10 ?_
          obtain ⟨h0, h1⟩ := xw_s2 hf
          exact xw_iret hB hK hE hS hP hr hlk h0 h1 dX8_rate_82
        · replace hf := xw_in' c11 hf
          by_cases c12 : r5 = 3
          · refine lv_tableIn (off := 57) (tgt := 83) hx hb dX8_rate_26 (by rw [c12]; decide) (by rw [c12]; decide) (by rw [c12]; rfl) (by decide) ?_
            replace hf := xw_ip c12 hf
            refine lv_iload_n hx hb dX8_rate_83 rfl (lv_at hl 0 rfl) ?_
            obtain ⟨h0, h1⟩ := xw_s2 hf
            exact xw_iret hB hK hE hS hP hr hlk h0 h1 dX8_rate_84
          · replace hf := xw_in' c12 hf
            by_cases c18 : r5 = 4
            · refine lv_tableIn (off := 59) (tgt := 85) hx hb dX8_rate_26 (by rw [c18]; decide) (by rw [c18]; decide) (by rw [c18]; rfl) (by decide) ?_
              replace hf := xw_ip c18 hf
              refine lv_aload_n hx hb dX8_rate_85 rfl (lv_at hl 1 rfl) ?_
              refine xw_get hB hK hP (xw_o8 G) (C := RX8) (T := TX8) (N := 31) rfl TBi_X8 0 (by decide) tw_728 rfl rfl dX8_rate_86 ?_
              refine lv_bipush (v := 62) hx hb dX8_rate_89 (by decide) ?_
              replace hf := xw_ck_e hf
              obtain ⟨hi13, hf⟩ := hf
              refine xw_ild hB hK hP (xw_k120 G) hi13 dX8_rate_91 ?_
              refine lv_bipush (v := 7) hx hb dX8_rate_92 (by decide) ?_
              replace hf := xw_cc_e hf
              obtain ⟨hd14, hf⟩ := hf
              refine lv_irem hx hb dX8_rate_94 hd14 ?_
              refine lv_if_ne (tgt := 102) hx hb dX8_rate_95 (by decide) (fun c15 => ?_) (fun c15 => ?_)
              · replace hf := xw_in' c15 hf
                refine lv_aload_n hx hb dX8_rate_102 rfl (lv_at hl 1 rfl) ?_
                refine xw_get hB hK hP (xw_o8 G) (C := RX8) (T := TX8) (N := 31) rfl TBi_X8 14 (by decide) tw_742 rfl rfl dX8_rate_103 ?_
                refine lv_aload_n hx hb dX8_rate_106 rfl (lv_at hl 1 rfl) ?_
                refine lv_iload_n hx hb dX8_rate_107 rfl (lv_at hl 2 rfl) ?_
                refine lv_iconst (v := 1) hx hb dX8_rate_108 (by decide) ?_
                replace hf := xw_bp_e hf
                obtain ⟨r16, he17, hf⟩ := hf
                refine xw_Vi hB hK hE hS hP (As := [.int a1, .int (1 : Int32)]) (rest := [.int (w.1 119 14)]) (kX8_one l G hG a1 (1 : Int32) w _ he17) gs_X8_89 (xw_rc hK hP (C := RX8) (T := TX8) (N := 31) (xw_o8 G) rfl) 2 hv_X8_one ⟨Nat.le_of_ble_eq_true rfl, Nat.le_of_ble_eq_true rfl⟩ rfl hl.1 (Nat.le_of_ble_eq_true rfl) rfl dX8_rate_109 ⟨Nat.zero_le _, Nat.zero_le _⟩ (fun H locs hP hS => ?_)
                refine lv_iadd hx hb dX8_rate_112 ?_
                obtain ⟨h0, h1⟩ := xw_s2 hf
                exact xw_iret hB hK hE hS hP hr hlk h0 h1 dX8_rate_113
              · replace hf := xw_ip c15 hf
                refine lv_iconst (v := 0) hx hb dX8_rate_98 (by decide) ?_
                refine lv_goto (tgt := 113) hx hb dX8_rate_99 (by decide) ?_
                obtain ⟨h0, h1⟩ := xw_s2 hf
                exact xw_iret hB hK hE hS hP hr hlk h0 h1 dX8_rate_113
            · replace hf := xw_in' c18 hf
              by_cases c20 : r5 = 5
              · refine lv_tableIn (off := 88) (tgt := 114) hx hb dX8_rate_26 (by rw [c20]; decide) (by rw [c20]; decide) (by rw [c20]; rfl) (by decide) ?_
                replace hf := xw_ip c20 hf
                refine lv_aload_n hx hb dX8_rate_114 rfl (lv_at hl 1 rfl) ?_
                refine xw_get hB hK hP (xw_o8 G) (C := RX8) (T := TX8) (N := 31) rfl TBi_X8 14 (by decide) tw_742 rfl rfl dX8_rate_115 ?_
                refine lv_iconst (v := 2) hx hb dX8_rate_118 (by decide) ?_
                replace hf := xw_cc_e hf
                obtain ⟨hd19, hf⟩ := hf
                refine lv_idiv hx hb dX8_rate_119 hd19 ?_
                refine lv_iconst (v := 5) hx hb dX8_rate_120 (by decide) ?_
                refine lv_iadd hx hb dX8_rate_121 ?_
                obtain ⟨h0, h1⟩ := xw_s2 hf
                exact xw_iret hB hK hE hS hP hr hlk h0 h1 dX8_rate_122
              · replace hf := xw_in' c20 hf
                by_cases c24 : r5 = 6
                · refine lv_tableIn (off := 97) (tgt := 123) hx hb dX8_rate_26 (by rw [c24]; decide) (by rw [c24]; decide) (by rw [c24]; rfl) (by decide) ?_
                  replace hf := xw_ip c24 hf
                  refine lv_iload_n hx hb dX8_rate_123 rfl (lv_at hl 0 rfl) ?_
                  refine lv_aload_n hx hb dX8_rate_124 rfl (lv_at hl 1 rfl) ?_
                  refine lv_iload_n hx hb dX8_rate_125 rfl (lv_at hl 2 rfl) ?_
                  refine lv_bipush (v := 6) hx hb dX8_rate_126 (by decide) ?_
                  refine lv_iload_n hx hb dX8_rate_128 rfl (lv_at hl 3 rfl) ?_
                  refine lv_iconst (v := 4) hx hb dX8_rate_129 (by decide) ?_
                  replace hf := xw_cc_e hf
                  obtain ⟨hd21, hf⟩ := hf
                  refine lv_irem hx hb dX8_rate_130 hd21 ?_
                  refine lv_iadd hx hb dX8_rate_131 ?_
                  replace hf := xw_bp_e hf
                  obtain ⟨r22, he23, hf⟩ := hf
                  refine xw_Vi hB hK hE hS hP (As := [.int a1, .int ((6 : Int32) + (a2 - a2 / (4 : Int32) * (4 : Int32)))]) (rest := [.int v0]) (kX8_one l G hG a1 ((6 : Int32) + (a2 - a2 / (4 : Int32) * (4 : Int32))) w _ he23) gs_X8_89 (xw_rc hK hP (C := RX8) (T := TX8) (N := 31) (xw_o8 G) rfl) 2 hv_X8_one ⟨Nat.le_of_ble_eq_true rfl, Nat.le_of_ble_eq_true rfl⟩ rfl hl.1 (Nat.le_of_ble_eq_true rfl) rfl dX8_rate_132 ⟨Nat.zero_le _, Nat.zero_le _⟩ (fun H locs hP hS => ?_)
                  refine lv_iadd hx hb dX8_rate_135 ?_
                  obtain ⟨h0, h1⟩ := xw_s2 hf
                  exact xw_iret hB hK hE hS hP hr hlk h0 h1 dX8_rate_136
                · replace hf := xw_in' c24 hf
                  refine lv_tableOut (tgt := 137) hx hb dX8_rate_26 (by have n0 := lv_neT c9 (by decide : (1 : Int32).toInt = 1); have n1 := lv_neT c11 (by decide : (2 : Int32).toInt = 2); have n2 := lv_neT c12 (by decide : (3 : Int32).toInt = 3); have n3 := lv_neT c18 (by decide : (4 : Int32).toInt = 4); have n4 := lv_neT c20 (by decide : (5 : Int32).toInt = 5); have n5 := lv_neT c24 (by decide : (6 : Int32).toInt = 6); omega) (by decide) ?_
                  refine lv_aload_n hx hb dX8_rate_137 rfl (lv_at hl 1 rfl) ?_
                  refine xw_get hB hK hP (xw_o8 G) (C := RX8) (T := TX8) (N := 31) rfl TBi_X8 14 (by decide) tw_742 rfl rfl dX8_rate_138 ?_
                  obtain ⟨h0, h1⟩ := xw_s2 hf
                  exact xw_iret hB hK hE hS hP hr hlk h0 h1 dX8_rate_141
    refine lv_aload_n hx hb dX8_rate_0 rfl (lv_at hl 0 rfl) ?_
    refine lv_iload_n hx hb dX8_rate_1 rfl (lv_at hl 1 rfl) ?_
    refine lv_iload_n hx hb dX8_rate_2 rfl (lv_at hl 2 rfl) ?_
    replace hf := xw_b_e hf
    obtain ⟨r1, w2, he3, hf⟩ := hf
    refine xw_Vv hB hK hE hS hP (As := [.int a1, .int a2]) (rest := []) (kX8_readFor l G hG n a1 a2 w0 _ _ he3) gs_X8_175 (xw_rc hK hP (C := RX8) (T := TX8) (N := 31) (xw_o8 G) rfl) 2 hv_X8_readFor ⟨Nat.le_of_ble_eq_true rfl, Nat.le_of_ble_eq_true rfl⟩ rfl hl.1 (Nat.le_of_ble_eq_true rfl) rfl dX8_rate_3 ⟨Nat.zero_le _, Nat.zero_le _⟩ (fun H locs hP hS => ?_)
    refine lv_iload_n hx hb dX8_rate_6 rfl (lv_at hl 2 rfl) ?_
    refine lv_iconst (v := 5) hx hb dX8_rate_7 (by decide) ?_
    refine lv_icmp_lt (tgt := 15) hx hb dX8_rate_8 (by decide) (fun c4 => ?_) (fun c4 => ?_)
    · replace hf := xw_ip c4 hf
      refine lv_aload_n hx hb dX8_rate_15 rfl (lv_at hl 0 rfl) ?_
      refine xw_get hB hK hP (xw_o8 G) (C := RX8) (T := TX8) (N := 31) rfl TBi_X8 14 (by decide) tw_742 rfl rfl dX8_rate_16 ?_
      exact J19 (w2.1 119 14) w2 hf H locs ls hP hS (lv_sub hl [0, 1, 2] rfl)
    · replace hf := xw_in' c4 hf
      refine lv_iconst (v := 1) hx hb dX8_rate_11 (by decide) ?_
      refine lv_goto (tgt := 19) hx hb dX8_rate_12 (by decide) ?_
      exact J19 (1 : Int32) w2 hf H locs ls hP hS (lv_sub hl [0, 1, 2] rfl)
  exact HH s.heap [] hP hS
def fX8_share_181 (n : Nat) (x2 : Int32) (x3 : Int32) (w : xw_M) : Option (Unit × xw_M) := xw_ck x2 6 (xw_ck x2 6 (xw_lt (xw_si w 132 x2.toNatClampNeg ((w.1 132 x2.toNatClampNeg) + x3)) (fun w40 => some ((), w40))))
def fX8_share_158 (n : Nat) (x1 : Int32) (x2 : Int32) (x3 : Int32) (x4 : Int32) (v0 : Nat) (v1 : Int32) (v2 : Int32) (v3 : Int32) (v4 : Int32) (w : xw_M) : Option ((Int32 × Int32 × xw_M) ⊕ (Int32 × xw_M)) := xw_cc (¬ x1 = 0) (xw_ck v1 6 (xw_lt (xw_si w v0 v1.toNatClampNeg ((v2 * (if v3 < v4 then v4 else v3)) / x1)) (fun w34 => xw_ck x4 6 (xw_lt (x3 - (w34.1 132 x4.toNatClampNeg)) (fun x3_36 => xw_lt (x4 + 1) (fun x4_37 => some (.inl (x3_36, x4_37, w34))))))))
def fX8_share_b112 (n : Nat) (x1 : Int32) (x2 : Int32) (x3 : Int32) (x4 : Int32) (w : xw_M) : Option ((Int32 × Int32 × xw_M) ⊕ (Int32 × xw_M)) := xw_ck (60 : Int32) 109 (if (w.1 120 (60 : Int32).toNatClampNeg) ≤ x4 then some (.inr (x3, w)) else xw_ck (61 : Int32) 109 (xw_bp (fX8_isHere x4 w) (fun r28 => if r28 = 0 then fX8_share_158 n x1 x2 x3 x4 132 x4 (w.1 120 (61 : Int32).toNatClampNeg) (0 : Int32) (0 : Int32) w else xw_ck x4 6 (fX8_share_158 n x1 x2 x3 x4 132 x4 (w.1 120 (61 : Int32).toNatClampNeg) (0 : Int32) (w.1 131 x4.toNatClampNeg) w))))
def fX8_share_112 (n : Nat) (x1 : Int32) (x2 : Int32) (x3 : Int32) (x4 : Int32) (w : xw_M) : Option (Unit × xw_M) := xw_bp (xw_it (fun z => fX8_share_b112 n x1 x2 z.1 z.2.1 z.2.2) n (x3, x4, w)) (fun z => (fun (x3 : Int32) (w : xw_M) => fX8_share_181 n x2 x3 w) z.1 z.2)
def fX8_share_97 (n : Nat) (x1 : Int32) (x2 : Int32) (w : xw_M) : Option (Unit × xw_M) := if x1 ≤ 0 then some ((), w) else xw_ck (61 : Int32) 109 (xw_lt (w.1 120 (61 : Int32).toNatClampNeg) (fun x3_24 => fX8_share_112 n x1 x2 x3_24 (0 : Int32) w))
def fX8_share_91 (n : Nat) (x1 : Int32) (x2 : Int32) (x3 : Int32) (w : xw_M) : Option ((Int32 × Int32 × Int32 × xw_M) ⊕ (Int32 × Int32 × xw_M)) := xw_lt (x3 + 1) (fun x3_21 => some (.inl (x1, x2, x3_21, w)))
def fX8_share_73 (n : Nat) (x1 : Int32) (x3 : Int32) (x4 : Int32) (v0 : Int32) (w : xw_M) : Option ((Int32 × Int32 × Int32 × xw_M) ⊕ (Int32 × Int32 × xw_M)) := xw_ck x3 6 (xw_lt (xw_si w 131 x3.toNatClampNeg x4) (fun w19 => xw_lt (x1 + (if (0 : Int32) < x4 then x4 else (0 : Int32))) (fun x1_20 => fX8_share_91 n x1_20 v0 x3 w19)))
def fX8_share_68 (n : Nat) (x1 : Int32) (x3 : Int32) (x4 : Int32) (w : xw_M) : Option ((Int32 × Int32 × Int32 × xw_M) ⊕ (Int32 × Int32 × xw_M)) := fX8_share_73 n x1 x3 x4 x3 w
def fX8_share_b6 (n : Nat) (x1 : Int32) (x2 : Int32) (x3 : Int32) (w : xw_M) : Option ((Int32 × Int32 × Int32 × xw_M) ⊕ (Int32 × Int32 × xw_M)) := xw_ck (60 : Int32) 109 (if (w.1 120 (60 : Int32).toNatClampNeg) ≤ x3 then some (.inr (x1, x2, w)) else xw_ck x3 6 (xw_lt (xw_si w 132 x3.toNatClampNeg (0 : Int32)) (fun w4 => xw_ck x3 6 (xw_lt (xw_si w4 131 x3.toNatClampNeg (0 : Int32)) (fun w6 => xw_bp (fX8_isHere x3 w6) (fun r7 => if r7 = 0 then fX8_share_91 n x1 x2 x3 w6 else xw_bp (fX8_one x3 (3 : Int32) w6) (fun r10 => xw_b (fX8_rate n x3 r10 w6) (fun r12 w13 => if x2 = (-1 : Int32) then fX8_share_68 n x1 x3 r12 w13 else xw_ck x2 6 (if r12 ≤ (w13.1 131 x2.toNatClampNeg) then fX8_share_73 n x1 x3 r12 x2 w13 else fX8_share_68 n x1 x3 r12 w13)))))))))
def fX8_share_6 (n : Nat) (x1 : Int32) (x2 : Int32) (x3 : Int32) (w : xw_M) : Option (Unit × xw_M) := xw_bp (xw_it (fun z => fX8_share_b6 n z.1 z.2.1 z.2.2.1 z.2.2.2) n (x1, x2, x3, w)) (fun z => (fun (x1 : Int32) (x2 : Int32) (w : xw_M) => fX8_share_97 n x1 x2 w) z.1 z.2.1 z.2.2)
def fX8_share (n : Nat) (w0 : xw_M) : Option (Unit × xw_M) := fX8_share_6 n (0 : Int32) (-1 : Int32) (0 : Int32) w0
set_option maxHeartbeats 4000000 in
set_option maxRecDepth 100000 in
theorem kX8_share (l : Launch) (G : xw_G) (hG : xw_ok G) (n : Nat) (w0 : xw_M) (r0 : Unit) (wz : xw_M) (hf : fX8_share n w0 = some (r0, wz)) : xw_Tv l G yX8_share cX8_share 5 ((Option.none : Option Jvm.ClassFile.FieldType)) (31) (676) [.ref (xw_ad G 119)] w0 r0 wz := by
  unfold xw_Tv
  refine Met.ofW (cc := cX8_share) (maxL := 5) (ret := (Option.none : Option Jvm.ClassFile.FieldType)) (by decide) rfl ?_
  intro p e s m args below meth c s₁ B hml hv
  obtain ⟨hargs, hP, hK, hE⟩ := hv
  have hx := B.exec
  have hb := B.bytes
  have hr := B.returns
  have hlk := B.notSynchronized
  have hB : CallFix p m c cX8_share 5 s args TB RX8 := ⟨hx, hb, hml, findClass_of_methodNamed B.named, fun q h => (atoms_spec (ws := Cond.code yX8_share cX8_share 5 ((Option.none : Option Jvm.ClassFile.FieldType)) :: TB) B.pre) q (List.mem_cons_of_mem _ h)⟩
  have hS : va_S (xw_A G) s.heap s.heap [] := va_S.rf
  have hl := lv_entry [.ref (xw_ad G 119)] (n := 5) (Nat.le_of_ble_eq_true rfl)
  rw [show entryFrame m args 5 = entryFrame m ([.ref (xw_ad G 119)] : List Value).toArray 5 from by rw [hargs], lg_entry_eq]
  generalize (lg_sl [.ref (xw_ad G 119)] ++ List.replicate (5 - (lg_sl [.ref (xw_ad G 119)]).length) Slot.unset).toArray = ls at hl ⊢
  have hP : va_P (xw_D G) xw_cl (xw_W G w0) s.heap := hP
  have hl : lv_has ls 5 [(0, .ref (xw_ad G 119))] := hl
  have HH : ∀ (H : Heap) (locs : List Loc) (hP : va_P (xw_D G) xw_cl (xw_W G w0) H) (hS : va_S (xw_A G) s.heap H locs), xw_Wv G p l e (xw_rm (31) (676)) s m args below meth c H locs r0 wz (F0 m 0 ls []) := by
    intro H locs hP hS
    unfold fX8_share at hf
    have J181 : ∀ (x2 : Int32) (x3 : Int32) (w : xw_M) (hf : fX8_share_181 n x2 x3 w = some (r0, wz)) (H : Heap) (locs : List Loc) (ls : Array Slot) (hP : va_P (xw_D G) xw_cl (xw_W G w) H) (hS : va_S (xw_A G) s.heap H locs) (hl : lv_has ls 5 [(0, .ref (xw_ad G 119)), (2, .int x2), (3, .int x3)]), xw_Wv G p l e (xw_rm (31) (676)) s m args below meth c H locs r0 wz (F0 m 181 ls []) := by
      intro x2 x3 w hf H locs ls hP hS hl
      unfold fX8_share_181 at hf
      refine lv_aload_n hx hb dX8_share_181 rfl (lv_at hl 0 rfl) ?_
      refine xw_get hB hK hP (xw_o8 G) (C := RX8) (T := TX8) (N := 31) rfl TBi_X8 21 (by decide) tw_749 rfl rfl dX8_share_182 ?_
      refine lv_iload_n hx hb dX8_share_185 rfl (lv_at hl 1 rfl) ?_
      refine lv_dup2_11 hx hb dX8_share_186 rfl rfl ?_
      replace hf := xw_ck_e hf
      obtain ⟨hi38, hf⟩ := hf
      refine xw_ild hB hK hP (xw_k132 G) hi38 dX8_share_187 ?_
      refine lv_iload_n hx hb dX8_share_188 rfl (lv_at hl 2 rfl) ?_
      refine lv_iadd hx hb dX8_share_189 ?_
      replace hf := xw_ck_e hf
      obtain ⟨hi39, hf⟩ := hf
      refine xw_ist hG hB hK hS hP (xw_k132 G) hi39 dX8_share_190 (fun w40 ew40 H locs hP hS => ?_)
      replace hf := xw_lt_e ew40 hf
      obtain ⟨h0, h1⟩ := xw_s2 hf
      exact xw_vret hB hK hE hS hP hr hlk h1 dX8_share_191
    have J112 : ∀ (x1 : Int32) (x2 : Int32) (x3 : Int32) (x4 : Int32) (w : xw_M) (hf : fX8_share_112 n x1 x2 x3 x4 w = some (r0, wz)) (H : Heap) (locs : List Loc) (ls : Array Slot) (hP : va_P (xw_D G) xw_cl (xw_W G w) H) (hS : va_S (xw_A G) s.heap H locs) (hl : lv_has ls 5 [(0, .ref (xw_ad G 119)), (1, .int x1), (2, .int x2), (3, .int x3), (4, .int x4)]), xw_Wv G p l e (xw_rm (31) (676)) s m args below meth c H locs r0 wz (F0 m 112 ls []) := by
      intro x1 x2 x3 x4 w hf H locs ls hP hS hl
      unfold fX8_share_112 at hf
      replace hf := xw_bp_e hf
      obtain ⟨bb112, hit112, hfx112⟩ := hf
      have XX112 : ∀ (x3 : Int32) (w : xw_M) (hf : fX8_share_181 n x2 x3 w = some (r0, wz)) (H : Heap) (locs : List Loc) (ls : Array Slot) (hP : va_P (xw_D G) xw_cl (xw_W G w) H) (hS : va_S (xw_A G) s.heap H locs) (hl : lv_has ls 5 [(0, .ref (xw_ad G 119)), (2, .int x2), (3, .int x3)]), xw_Wv G p l e (xw_rm (31) (676)) s m args below meth c H locs r0 wz (F0 m 181 ls []) := by
        intro x3 w hf H locs ls hP hS hl
        exact J181 x2 x3 w hf H locs ls hP hS (lv_sub hl [0, 1, 2] rfl)
      have LL112 : ∀ (nn : Nat) (x3 : Int32) (x4 : Int32) (w : xw_M) (hit : xw_it (fun z => fX8_share_b112 n x1 x2 z.1 z.2.1 z.2.2) nn (x3, x4, w) = some bb112) (H : Heap) (locs : List Loc) (ls : Array Slot) (hP : va_P (xw_D G) xw_cl (xw_W G w) H) (hS : va_S (xw_A G) s.heap H locs) (hl : lv_has ls 5 [(0, .ref (xw_ad G 119)), (1, .int x1), (2, .int x2), (3, .int x3), (4, .int x4)]), xw_Wv G p l e (xw_rm (31) (676)) s m args below meth c H locs r0 wz (F0 m 112 ls []) := by
        intro nn
        induction nn with
        | zero => intro x3 x4 w hit; exact (xw_it_0 hit).elim
        | succ nn ih112 =>
          intro x3 x4 w hit H locs ls hP hS hl
          replace hit := xw_it_e hit
          obtain ⟨wv112, hf, hC112, hX112⟩ := hit
          replace hf : fX8_share_b112 n x1 x2 x3 x4 w = some wv112 := hf
          unfold fX8_share_b112 at hf
          have J158 : ∀ (x3 : Int32) (x4 : Int32) (v0 : Nat) (v1 : Int32) (v2 : Int32) (v3 : Int32) (v4 : Int32) (hv0 : xw_ia G 0 v0 6) (w : xw_M) (hf : fX8_share_158 n x1 x2 x3 x4 v0 v1 v2 v3 v4 w = some wv112) (H : Heap) (locs : List Loc) (ls : Array Slot) (hP : va_P (xw_D G) xw_cl (xw_W G w) H) (hS : va_S (xw_A G) s.heap H locs) (hl : lv_has ls 5 [(0, .ref (xw_ad G 119)), (1, .int x1), (2, .int x2), (3, .int x3), (4, .int x4)]), xw_Wv G p l e (xw_rm (31) (676)) s m args below meth c H locs r0 wz (F0 m 158 ls [.int v4, .int v3, .int v2, .int v1, .ref (xw_ad G v0)]) := by
            intro x3 x4 v0 v1 v2 v3 v4 hv0 w hf H locs ls hP hS hl
            unfold fX8_share_158 at hf
            refine va_mmax hx hb (hB.2.2.1.trans hl.1.symm) hB.2.2.2.1 (hB.2.2.2.2 _ tm_913) (hB.2.2.2.2 _ tm_360) (hB.2.2.2.2 _ tw_4) (hB.2.2.2.2 _ tm_361) (Nat.le_of_ble_eq_true rfl) (Nat.le_of_ble_eq_true rfl) (Nat.zero_le _) (Nat.zero_le _) dX8_share_158 ?_
            refine lv_imul hx hb dX8_share_161 ?_
            refine lv_iload_n hx hb dX8_share_162 rfl (lv_at hl 1 rfl) ?_
            replace hf := xw_cc_e hf
            obtain ⟨hd32, hf⟩ := hf
            refine lv_idiv hx hb dX8_share_163 hd32 ?_
            replace hf := xw_ck_e hf
            obtain ⟨hi33, hf⟩ := hf
            refine xw_ist hG hB hK hS hP hv0 hi33 dX8_share_164 (fun w34 ew34 H locs hP hS => ?_)
            replace hf := xw_lt_e ew34 hf
            refine lv_iload_n hx hb dX8_share_165 rfl (lv_at hl 3 rfl) ?_
            refine lv_aload_n hx hb dX8_share_166 rfl (lv_at hl 0 rfl) ?_
            refine xw_get hB hK hP (xw_o8 G) (C := RX8) (T := TX8) (N := 31) rfl TBi_X8 21 (by decide) tw_749 rfl rfl dX8_share_167 ?_
            refine lv_iload hx hb dX8_share_170 (lv_at hl 4 rfl) ?_
            replace hf := xw_ck_e hf
            obtain ⟨hi35, hf⟩ := hf
            refine xw_ild hB hK hP (xw_k132 G) hi35 dX8_share_172 ?_
            refine lv_isub hx hb dX8_share_173 ?_
            refine lv_topi (fun x3_36 ex3_36 => ?_)
            replace hf := xw_lt_e ex3_36 hf
            refine lv_istore_n (lv' := [(3, .int x3_36), (0, .ref (xw_ad G 119)), (1, .int x1), (2, .int x2), (4, .int x4)]) hx hb dX8_share_174 rfl hl (by decide) rfl (fun ls hl => ?_)
            obtain ⟨x4_37, ex4_37⟩ : ∃ y : Int32, y = x4 + 1 := ⟨_, rfl⟩
            replace hf := xw_lt_e ex4_37 hf
            refine lv_iinc (v := x4_37) (lv' := [(4, .int x4_37), (3, .int x3_36), (0, .ref (xw_ad G 119)), (1, .int x1), (2, .int x2)]) hx hb dX8_share_175 hl (k := 4) rfl (by rw [ex4_37]; rfl) (by decide) rfl (fun ls hl => ?_)
            refine lv_goto (tgt := 112) hx hb dX8_share_178 (by decide) ?_
            have hi := hC112 _ (xw_so hf).symm
            exact ih112 x3_36 x4_37 w34 hi H locs ls hP hS (lv_sub hl [2, 3, 4, 1, 0] rfl)
          refine lv_iload hx hb dX8_share_112 (lv_at hl 4 rfl) ?_
          refine lv_aload_n hx hb dX8_share_114 rfl (lv_at hl 0 rfl) ?_
          refine xw_get hB hK hP (xw_o8 G) (C := RX8) (T := TX8) (N := 31) rfl TBi_X8 0 (by decide) tw_728 rfl rfl dX8_share_115 ?_
          refine lv_bipush (v := 60) hx hb dX8_share_118 (by decide) ?_
          replace hf := xw_ck_e hf
          obtain ⟨hi25, hf⟩ := hf
          refine xw_ild hB hK hP (xw_k120 G) hi25 dX8_share_120 ?_
          refine lv_icmp_ge (tgt := 181) hx hb dX8_share_121 (by decide) (fun c26 => ?_) (fun c26 => ?_)
          · replace hf := xw_ip c26 hf
            have he112 := hX112 _ (xw_so hf).symm
            rw [← he112] at hfx112
            exact XX112 x3 w hfx112 H locs ls hP hS (lv_sub hl [0, 2, 3] rfl)
          · replace hf := xw_in' c26 hf
            refine lv_aload_n hx hb dX8_share_124 rfl (lv_at hl 0 rfl) ?_
            refine xw_get hB hK hP (xw_o8 G) (C := RX8) (T := TX8) (N := 31) rfl TBi_X8 21 (by decide) tw_749 rfl rfl dX8_share_125 ?_
            refine lv_iload hx hb dX8_share_128 (lv_at hl 4 rfl) ?_
            refine lv_aload_n hx hb dX8_share_130 rfl (lv_at hl 0 rfl) ?_
            refine xw_get hB hK hP (xw_o8 G) (C := RX8) (T := TX8) (N := 31) rfl TBi_X8 0 (by decide) tw_728 rfl rfl dX8_share_131 ?_
            refine lv_bipush (v := 61) hx hb dX8_share_134 (by decide) ?_
            replace hf := xw_ck_e hf
            obtain ⟨hi27, hf⟩ := hf
            refine xw_ild hB hK hP (xw_k120 G) hi27 dX8_share_136 ?_
            refine lv_iconst (v := 0) hx hb dX8_share_137 (by decide) ?_
            refine lv_aload_n hx hb dX8_share_138 rfl (lv_at hl 0 rfl) ?_
            refine lv_iload hx hb dX8_share_139 (lv_at hl 4 rfl) ?_
            replace hf := xw_bp_e hf
            obtain ⟨r28, he29, hf⟩ := hf
            refine xw_Vi hB hK hE hS hP (As := [.int x4]) (rest := [.int (0 : Int32), .int (w.1 120 (61 : Int32).toNatClampNeg), .int x4, .ref (xw_ad G 132)]) (kX8_isHere l G hG x4 w _ he29) gs_X8_179 (xw_rc hK hP (C := RX8) (T := TX8) (N := 31) (xw_o8 G) rfl) 1 hv_X8_isHere ⟨Nat.le_of_ble_eq_true rfl, Nat.le_of_ble_eq_true rfl⟩ rfl hl.1 (Nat.le_of_ble_eq_true rfl) rfl dX8_share_141 ⟨Nat.zero_le _, Nat.zero_le _⟩ (fun H locs hP hS => ?_)
            refine lv_if_eq (tgt := 157) hx hb dX8_share_144 (by decide) (fun c30 => ?_) (fun c30 => ?_)
            · replace hf := xw_ip c30 hf
              refine lv_iconst (v := 0) hx hb dX8_share_157 (by decide) ?_
              exact J158 x3 x4 132 x4 (w.1 120 (61 : Int32).toNatClampNeg) (0 : Int32) (0 : Int32) (xw_k132 G) w hf H locs ls hP hS (lv_sub hl [0, 1, 2, 3, 4] rfl)
            · replace hf := xw_in' c30 hf
              refine lv_aload_n hx hb dX8_share_147 rfl (lv_at hl 0 rfl) ?_
              refine xw_get hB hK hP (xw_o8 G) (C := RX8) (T := TX8) (N := 31) rfl TBi_X8 20 (by decide) tw_748 rfl rfl dX8_share_148 ?_
              refine lv_iload hx hb dX8_share_151 (lv_at hl 4 rfl) ?_
              replace hf := xw_ck_e hf
              obtain ⟨hi31, hf⟩ := hf
              refine xw_ild hB hK hP (xw_k131 G) hi31 dX8_share_153 ?_
              refine lv_goto (tgt := 158) hx hb dX8_share_154 (by decide) ?_
              exact J158 x3 x4 132 x4 (w.1 120 (61 : Int32).toNatClampNeg) (0 : Int32) (w.1 131 x4.toNatClampNeg) (xw_k132 G) w hf H locs ls hP hS (lv_sub hl [0, 1, 2, 3, 4] rfl)
      exact LL112 n x3 x4 w hit112 H locs ls hP hS hl
    have J97 : ∀ (x1 : Int32) (x2 : Int32) (w : xw_M) (hf : fX8_share_97 n x1 x2 w = some (r0, wz)) (H : Heap) (locs : List Loc) (ls : Array Slot) (hP : va_P (xw_D G) xw_cl (xw_W G w) H) (hS : va_S (xw_A G) s.heap H locs) (hl : lv_has ls 5 [(0, .ref (xw_ad G 119)), (1, .int x1), (2, .int x2)]), xw_Wv G p l e (xw_rm (31) (676)) s m args below meth c H locs r0 wz (F0 m 97 ls []) := by
      intro x1 x2 w hf H locs ls hP hS hl
      unfold fX8_share_97 at hf
      refine lv_iload_n hx hb dX8_share_97 rfl (lv_at hl 1 rfl) ?_
      refine lv_if_le (tgt := 191) hx hb dX8_share_98 (by decide) (fun c22 => ?_) (fun c22 => ?_)
      · replace hf := xw_ip c22 hf
        obtain ⟨h0, h1⟩ := xw_s2 hf
        exact xw_vret hB hK hE hS hP hr hlk h1 dX8_share_191
      · replace hf := xw_in' c22 hf
        refine lv_aload_n hx hb dX8_share_101 rfl (lv_at hl 0 rfl) ?_
        refine xw_get hB hK hP (xw_o8 G) (C := RX8) (T := TX8) (N := 31) rfl TBi_X8 0 (by decide) tw_728 rfl rfl dX8_share_102 ?_
        refine lv_bipush (v := 61) hx hb dX8_share_105 (by decide) ?_
        replace hf := xw_ck_e hf
        obtain ⟨hi23, hf⟩ := hf
        refine xw_ild hB hK hP (xw_k120 G) hi23 dX8_share_107 ?_
        refine lv_topi (fun x3_24 ex3_24 => ?_)
        replace hf := xw_lt_e ex3_24 hf
        refine lv_istore_n (lv' := [(3, .int x3_24), (0, .ref (xw_ad G 119)), (1, .int x1), (2, .int x2)]) hx hb dX8_share_108 rfl hl (by decide) rfl (fun ls hl => ?_)
        refine lv_iconst (v := 0) hx hb dX8_share_109 (by decide) ?_
        refine lv_istore (lv' := [(4, .int (0 : Int32)), (3, .int x3_24), (0, .ref (xw_ad G 119)), (1, .int x1), (2, .int x2)]) hx hb dX8_share_110 hl (by decide) rfl (fun ls hl => ?_)
        exact J112 x1 x2 x3_24 (0 : Int32) w hf H locs ls hP hS (lv_sub hl [2, 3, 4, 1, 0] rfl)
    have J6 : ∀ (x1 : Int32) (x2 : Int32) (x3 : Int32) (w : xw_M) (hf : fX8_share_6 n x1 x2 x3 w = some (r0, wz)) (H : Heap) (locs : List Loc) (ls : Array Slot) (hP : va_P (xw_D G) xw_cl (xw_W G w) H) (hS : va_S (xw_A G) s.heap H locs) (hl : lv_has ls 5 [(0, .ref (xw_ad G 119)), (1, .int x1), (2, .int x2), (3, .int x3)]), xw_Wv G p l e (xw_rm (31) (676)) s m args below meth c H locs r0 wz (F0 m 6 ls []) := by
      intro x1 x2 x3 w hf H locs ls hP hS hl
      unfold fX8_share_6 at hf
      replace hf := xw_bp_e hf
      obtain ⟨bb6, hit6, hfx6⟩ := hf
      have XX6 : ∀ (x1 : Int32) (x2 : Int32) (w : xw_M) (hf : fX8_share_97 n x1 x2 w = some (r0, wz)) (H : Heap) (locs : List Loc) (ls : Array Slot) (hP : va_P (xw_D G) xw_cl (xw_W G w) H) (hS : va_S (xw_A G) s.heap H locs) (hl : lv_has ls 5 [(0, .ref (xw_ad G 119)), (1, .int x1), (2, .int x2)]), xw_Wv G p l e (xw_rm (31) (676)) s m args below meth c H locs r0 wz (F0 m 97 ls []) := by
        intro x1 x2 w hf H locs ls hP hS hl
        exact J97 x1 x2 w hf H locs ls hP hS (lv_sub hl [0, 1, 2] rfl)
      have LL6 : ∀ (nn : Nat) (x1 : Int32) (x2 : Int32) (x3 : Int32) (w : xw_M) (hit : xw_it (fun z => fX8_share_b6 n z.1 z.2.1 z.2.2.1 z.2.2.2) nn (x1, x2, x3, w) = some bb6) (H : Heap) (locs : List Loc) (ls : Array Slot) (hP : va_P (xw_D G) xw_cl (xw_W G w) H) (hS : va_S (xw_A G) s.heap H locs) (hl : lv_has ls 5 [(0, .ref (xw_ad G 119)), (1, .int x1), (2, .int x2), (3, .int x3)]), xw_Wv G p l e (xw_rm (31) (676)) s m args below meth c H locs r0 wz (F0 m 6 ls []) := by
        intro nn
        induction nn with
        | zero => intro x1 x2 x3 w hit; exact (xw_it_0 hit).elim
        | succ nn ih6 =>
          intro x1 x2 x3 w hit H locs ls hP hS hl
          replace hit := xw_it_e hit
          obtain ⟨wv6, hf, hC6, hX6⟩ := hit
          replace hf : fX8_share_b6 n x1 x2 x3 w = some wv6 := hf
          unfold fX8_share_b6 at hf
          have J91 : ∀ (x1 : Int32) (x2 : Int32) (x3 : Int32) (w : xw_M) (hf : fX8_share_91 n x1 x2 x3 w = some wv6) (H : Heap) (locs : List Loc) (ls : Array Slot) (hP : va_P (xw_D G) xw_cl (xw_W G w) H) (hS : va_S (xw_A G) s.heap H locs) (hl : lv_has ls 5 [(0, .ref (xw_ad G 119)), (1, .int x1), (2, .int x2), (3, .int x3)]), xw_Wv G p l e (xw_rm (31) (676)) s m args below meth c H locs r0 wz (F0 m 91 ls []) := by
            intro x1 x2 x3 w hf H locs ls hP hS hl
            unfold fX8_share_91 at hf
            obtain ⟨x3_21, ex3_21⟩ : ∃ y : Int32, y = x3 + 1 := ⟨_, rfl⟩
            replace hf := xw_lt_e ex3_21 hf
            refine lv_iinc (v := x3_21) (lv' := [(3, .int x3_21), (0, .ref (xw_ad G 119)), (1, .int x1), (2, .int x2)]) hx hb dX8_share_91 hl (k := 3) rfl (by rw [ex3_21]; rfl) (by decide) rfl (fun ls hl => ?_)
            refine lv_goto (tgt := 6) hx hb dX8_share_94 (by decide) ?_
            have hi := hC6 _ (xw_so hf).symm
            exact ih6 x1 x2 x3_21 w hi H locs ls hP hS (lv_sub hl [1, 2, 3, 0] rfl)
          have J73 : ∀ (x1 : Int32) (x3 : Int32) (x4 : Int32) (v0 : Int32) (w : xw_M) (hf : fX8_share_73 n x1 x3 x4 v0 w = some wv6) (H : Heap) (locs : List Loc) (ls : Array Slot) (hP : va_P (xw_D G) xw_cl (xw_W G w) H) (hS : va_S (xw_A G) s.heap H locs) (hl : lv_has ls 5 [(0, .ref (xw_ad G 119)), (1, .int x1), (3, .int x3), (4, .int x4)]), xw_Wv G p l e (xw_rm (31) (676)) s m args below meth c H locs r0 wz (F0 m 73 ls [.int v0]) := by
            intro x1 x3 x4 v0 w hf H locs ls hP hS hl
            unfold fX8_share_73 at hf
            refine lv_istore_n (lv' := [(2, .int v0), (0, .ref (xw_ad G 119)), (1, .int x1), (3, .int x3), (4, .int x4)]) hx hb dX8_share_73 rfl hl (by decide) rfl (fun ls hl => ?_)
            refine lv_aload_n hx hb dX8_share_74 rfl (lv_at hl 1 rfl) ?_
            refine xw_get hB hK hP (xw_o8 G) (C := RX8) (T := TX8) (N := 31) rfl TBi_X8 20 (by decide) tw_748 rfl rfl dX8_share_75 ?_
            refine lv_iload_n hx hb dX8_share_78 rfl (lv_at hl 3 rfl) ?_
            refine lv_iload hx hb dX8_share_79 (lv_at hl 4 rfl) ?_
            replace hf := xw_ck_e hf
            obtain ⟨hi18, hf⟩ := hf
            refine xw_ist hG hB hK hS hP (xw_k131 G) hi18 dX8_share_81 (fun w19 ew19 H locs hP hS => ?_)
            replace hf := xw_lt_e ew19 hf
            refine lv_iload_n hx hb dX8_share_82 rfl (lv_at hl 2 rfl) ?_
            refine lv_iconst (v := 0) hx hb dX8_share_83 (by decide) ?_
            refine lv_iload hx hb dX8_share_84 (lv_at hl 4 rfl) ?_
            refine va_mmax hx hb (hB.2.2.1.trans hl.1.symm) hB.2.2.2.1 (hB.2.2.2.2 _ tm_913) (hB.2.2.2.2 _ tm_360) (hB.2.2.2.2 _ tw_4) (hB.2.2.2.2 _ tm_361) (Nat.le_of_ble_eq_true rfl) (Nat.le_of_ble_eq_true rfl) (Nat.zero_le _) (Nat.zero_le _) dX8_share_86 ?_
            refine lv_iadd hx hb dX8_share_89 ?_
            refine lv_topi (fun x1_20 ex1_20 => ?_)
            replace hf := xw_lt_e ex1_20 hf
            refine lv_istore_n (lv' := [(1, .int x1_20), (2, .int v0), (0, .ref (xw_ad G 119)), (3, .int x3), (4, .int x4)]) hx hb dX8_share_90 rfl hl (by decide) rfl (fun ls hl => ?_)
            exact J91 x1_20 v0 x3 w19 hf H locs ls hP hS (lv_sub hl [2, 0, 1, 3] rfl)
          have J68 : ∀ (x1 : Int32) (x3 : Int32) (x4 : Int32) (w : xw_M) (hf : fX8_share_68 n x1 x3 x4 w = some wv6) (H : Heap) (locs : List Loc) (ls : Array Slot) (hP : va_P (xw_D G) xw_cl (xw_W G w) H) (hS : va_S (xw_A G) s.heap H locs) (hl : lv_has ls 5 [(0, .ref (xw_ad G 119)), (1, .int x1), (3, .int x3), (4, .int x4)]), xw_Wv G p l e (xw_rm (31) (676)) s m args below meth c H locs r0 wz (F0 m 68 ls []) := by
            intro x1 x3 x4 w hf H locs ls hP hS hl
            unfold fX8_share_68 at hf
            refine lv_iload_n hx hb dX8_share_68 rfl (lv_at hl 2 rfl) ?_
            refine lv_goto (tgt := 73) hx hb dX8_share_69 (by decide) ?_
            exact J73 x1 x3 x4 x3 w hf H locs ls hP hS (lv_sub hl [0, 1, 2, 3] rfl)
          refine lv_iload_n hx hb dX8_share_6 rfl (lv_at hl 3 rfl) ?_
          refine lv_aload_n hx hb dX8_share_7 rfl (lv_at hl 0 rfl) ?_
          refine xw_get hB hK hP (xw_o8 G) (C := RX8) (T := TX8) (N := 31) rfl TBi_X8 0 (by decide) tw_728 rfl rfl dX8_share_8 ?_
          refine lv_bipush (v := 60) hx hb dX8_share_11 (by decide) ?_
          replace hf := xw_ck_e hf
          obtain ⟨hi1, hf⟩ := hf
          refine xw_ild hB hK hP (xw_k120 G) hi1 dX8_share_13 ?_
          refine lv_icmp_ge (tgt := 97) hx hb dX8_share_14 (by decide) (fun c2 => ?_) (fun c2 => ?_)
          · replace hf := xw_ip c2 hf
            have he6 := hX6 _ (xw_so hf).symm
            rw [← he6] at hfx6
            exact XX6 x1 x2 w hfx6 H locs ls hP hS (lv_sub hl [0, 1, 2] rfl)
          · replace hf := xw_in' c2 hf
            refine lv_aload_n hx hb dX8_share_17 rfl (lv_at hl 0 rfl) ?_
            refine xw_get hB hK hP (xw_o8 G) (C := RX8) (T := TX8) (N := 31) rfl TBi_X8 21 (by decide) tw_749 rfl rfl dX8_share_18 ?_
            refine lv_iload_n hx hb dX8_share_21 rfl (lv_at hl 3 rfl) ?_
            refine lv_iconst (v := 0) hx hb dX8_share_22 (by decide) ?_
            replace hf := xw_ck_e hf
            obtain ⟨hi3, hf⟩ := hf
            refine xw_ist hG hB hK hS hP (xw_k132 G) hi3 dX8_share_23 (fun w4 ew4 H locs hP hS => ?_)
            replace hf := xw_lt_e ew4 hf
            refine lv_aload_n hx hb dX8_share_24 rfl (lv_at hl 0 rfl) ?_
            refine xw_get hB hK hP (xw_o8 G) (C := RX8) (T := TX8) (N := 31) rfl TBi_X8 20 (by decide) tw_748 rfl rfl dX8_share_25 ?_
            refine lv_iload_n hx hb dX8_share_28 rfl (lv_at hl 3 rfl) ?_
            refine lv_iconst (v := 0) hx hb dX8_share_29 (by decide) ?_
            replace hf := xw_ck_e hf
            obtain ⟨hi5, hf⟩ := hf
            refine xw_ist hG hB hK hS hP (xw_k131 G) hi5 dX8_share_30 (fun w6 ew6 H locs hP hS => ?_)
            replace hf := xw_lt_e ew6 hf
            refine lv_aload_n hx hb dX8_share_31 rfl (lv_at hl 0 rfl) ?_
            refine lv_iload_n hx hb dX8_share_32 rfl (lv_at hl 3 rfl) ?_
            replace hf := xw_bp_e hf
            obtain ⟨r7, he8, hf⟩ := hf
            refine xw_Vi hB hK hE hS hP (As := [.int x3]) (rest := []) (kX8_isHere l G hG x3 w6 _ he8) gs_X8_179 (xw_rc hK hP (C := RX8) (T := TX8) (N := 31) (xw_o8 G) rfl) 1 hv_X8_isHere ⟨Nat.le_of_ble_eq_true rfl, Nat.le_of_ble_eq_true rfl⟩ rfl hl.1 (Nat.le_of_ble_eq_true rfl) rfl dX8_share_33 ⟨Nat.zero_le _, Nat.zero_le _⟩ (fun H locs hP hS => ?_)
            refine lv_if_eq (tgt := 91) hx hb dX8_share_36 (by decide) (fun c9 => ?_) (fun c9 => ?_)
            · replace hf := xw_ip c9 hf
              exact J91 x1 x2 x3 w6 hf H locs ls hP hS (lv_sub hl [0, 1, 2, 3] rfl)
            · replace hf := xw_in' c9 hf
              refine lv_aload_n hx hb dX8_share_39 rfl (lv_at hl 0 rfl) ?_
              refine lv_iload_n hx hb dX8_share_40 rfl (lv_at hl 3 rfl) ?_
              refine lv_aload_n hx hb dX8_share_41 rfl (lv_at hl 0 rfl) ?_
              refine lv_iload_n hx hb dX8_share_42 rfl (lv_at hl 3 rfl) ?_
              refine lv_iconst (v := 3) hx hb dX8_share_43 (by decide) ?_
              replace hf := xw_bp_e hf
              obtain ⟨r10, he11, hf⟩ := hf
              refine xw_Vi hB hK hE hS hP (As := [.int x3, .int (3 : Int32)]) (rest := [.int x3, .ref (xw_ad G 119)]) (kX8_one l G hG x3 (3 : Int32) w6 _ he11) gs_X8_89 (xw_rc hK hP (C := RX8) (T := TX8) (N := 31) (xw_o8 G) rfl) 2 hv_X8_one ⟨Nat.le_of_ble_eq_true rfl, Nat.le_of_ble_eq_true rfl⟩ rfl hl.1 (Nat.le_of_ble_eq_true rfl) rfl dX8_share_44 ⟨Nat.zero_le _, Nat.zero_le _⟩ (fun H locs hP hS => ?_)
              replace hf := xw_b_e hf
              obtain ⟨r12, w13, he14, hf⟩ := hf
              refine xw_Vi hB hK hE hS hP (As := [.int x3, .int r10]) (rest := []) (kX8_rate l G hG n x3 r10 w6 _ _ he14) gs_X8_111 (xw_rc hK hP (C := RX8) (T := TX8) (N := 31) (xw_o8 G) rfl) 2 hv_X8_rate ⟨Nat.le_of_ble_eq_true rfl, Nat.le_of_ble_eq_true rfl⟩ rfl hl.1 (Nat.le_of_ble_eq_true rfl) rfl dX8_share_47 ⟨Nat.zero_le _, Nat.zero_le _⟩ (fun H locs hP hS => ?_)
              refine lv_istore (lv' := [(4, .int r12), (0, .ref (xw_ad G 119)), (1, .int x1), (2, .int x2), (3, .int x3)]) hx hb dX8_share_50 hl (by decide) rfl (fun ls hl => ?_)
              refine lv_iload_n hx hb dX8_share_52 rfl (lv_at hl 3 rfl) ?_
              refine lv_iconst (v := (-1)) hx hb dX8_share_53 (by decide) ?_
              refine lv_icmp_eq (tgt := 68) hx hb dX8_share_54 (by decide) (fun c15 => ?_) (fun c15 => ?_)
              · replace hf := xw_ip c15 hf
                exact J68 x1 x3 r12 w13 hf H locs ls hP hS (lv_sub hl [1, 2, 4, 0] rfl)
              · replace hf := xw_in' c15 hf
                refine lv_iload hx hb dX8_share_57 (lv_at hl 0 rfl) ?_
                refine lv_aload_n hx hb dX8_share_59 rfl (lv_at hl 1 rfl) ?_
                refine xw_get hB hK hP (xw_o8 G) (C := RX8) (T := TX8) (N := 31) rfl TBi_X8 20 (by decide) tw_748 rfl rfl dX8_share_60 ?_
                refine lv_iload_n hx hb dX8_share_63 rfl (lv_at hl 3 rfl) ?_
                replace hf := xw_ck_e hf
                obtain ⟨hi16, hf⟩ := hf
                refine xw_ild hB hK hP (xw_k131 G) hi16 dX8_share_64 ?_
                refine lv_icmp_le (tgt := 72) hx hb dX8_share_65 (by decide) (fun c17 => ?_) (fun c17 => ?_)
                · replace hf := xw_ip c17 hf
                  refine lv_iload_n hx hb dX8_share_72 rfl (lv_at hl 3 rfl) ?_
                  exact J73 x1 x3 r12 x2 w13 hf H locs ls hP hS (lv_sub hl [1, 2, 4, 0] rfl)
                · replace hf := xw_in' c17 hf
                  exact J68 x1 x3 r12 w13 hf H locs ls hP hS (lv_sub hl [1, 2, 4, 0] rfl)
      exact LL6 n x1 x2 x3 w hit6 H locs ls hP hS hl
    refine lv_iconst (v := 0) hx hb dX8_share_0 (by decide) ?_
    refine lv_istore_n (lv' := [(1, .int (0 : Int32)), (0, .ref (xw_ad G 119))]) hx hb dX8_share_1 rfl hl (by decide) rfl (fun ls hl => ?_)
    refine lv_iconst (v := (-1)) hx hb dX8_share_2 (by decide) ?_
    refine lv_istore_n (lv' := [(2, .int (-1 : Int32)), (1, .int (0 : Int32)), (0, .ref (xw_ad G 119))]) hx hb dX8_share_3 rfl hl (by decide) rfl (fun ls hl => ?_)
    refine lv_iconst (v := 0) hx hb dX8_share_4 (by decide) ?_
    refine lv_istore_n (lv' := [(3, .int (0 : Int32)), (2, .int (-1 : Int32)), (1, .int (0 : Int32)), (0, .ref (xw_ad G 119))]) hx hb dX8_share_5 rfl hl (by decide) rfl (fun ls hl => ?_)
    exact J6 (0 : Int32) (-1 : Int32) (0 : Int32) w0 hf H locs ls hP hS (lv_sub hl [3, 2, 1, 0] rfl)
  exact HH s.heap [] hP hS
def fX8_worth (n : Nat) (a1 : Int32) (a2 : Int32) (w0 : xw_M) : Option (Int32 × xw_M) := xw_b (fX8_change a1 (3 : Int32) a2 w0) (fun r1 w2 => xw_b (fX8_change a1 (4 : Int32) (0 : Int32) w2) (fun r4 w5 => xw_b (fX8_share n w5) (fun (_ : Unit) w8 => xw_b (fX8_change a1 (3 : Int32) r1 w8) (fun r10 w11 => xw_b (fX8_change a1 (4 : Int32) r4 w11) (fun r13 w14 => xw_bp (fX8_one a1 (2 : Int32) w14) (fun r16 => xw_ck a1 6 (some ((r16 * ((10 : Int32) - a2)) - (w14.1 132 a1.toNatClampNeg), w14))))))))
set_option maxHeartbeats 4000000 in
set_option maxRecDepth 100000 in
theorem kX8_worth (l : Launch) (G : xw_G) (hG : xw_ok G) (n : Nat) (a1 : Int32) (a2 : Int32) (w0 : xw_M) (r0 : Int32) (wz : xw_M) (hf : fX8_worth n a1 a2 w0 = some (r0, wz)) : xw_Ti l G yX8_worth cX8_worth 5 ((Option.some Jvm.ClassFile.FieldType.int)) (32) (700) [.ref (xw_ad G 119), .int a1, .int a2] w0 r0 wz := by
  unfold xw_Ti
  refine Met.ofW (cc := cX8_worth) (maxL := 5) (ret := (Option.some Jvm.ClassFile.FieldType.int)) (by decide) rfl ?_
  intro p e s m args below meth c s₁ B hml hv
  obtain ⟨hargs, hP, hK, hE⟩ := hv
  have hx := B.exec
  have hb := B.bytes
  have hr := B.returns
  have hlk := B.notSynchronized
  have hB : CallFix p m c cX8_worth 5 s args TB RX8 := ⟨hx, hb, hml, findClass_of_methodNamed B.named, fun q h => (atoms_spec (ws := Cond.code yX8_worth cX8_worth 5 ((Option.some Jvm.ClassFile.FieldType.int)) :: TB) B.pre) q (List.mem_cons_of_mem _ h)⟩
  have hS : va_S (xw_A G) s.heap s.heap [] := va_S.rf
  have hl := lv_entry [.ref (xw_ad G 119), .int a1, .int a2] (n := 5) (Nat.le_of_ble_eq_true rfl)
  rw [show entryFrame m args 5 = entryFrame m ([.ref (xw_ad G 119), .int a1, .int a2] : List Value).toArray 5 from by rw [hargs], lg_entry_eq]
  generalize (lg_sl [.ref (xw_ad G 119), .int a1, .int a2] ++ List.replicate (5 - (lg_sl [.ref (xw_ad G 119), .int a1, .int a2]).length) Slot.unset).toArray = ls at hl ⊢
  have hP : va_P (xw_D G) xw_cl (xw_W G w0) s.heap := hP
  have hl : lv_has ls 5 [(0, .ref (xw_ad G 119)), (1, .int a1), (2, .int a2)] := hl
  have HH : ∀ (H : Heap) (locs : List Loc) (hP : va_P (xw_D G) xw_cl (xw_W G w0) H) (hS : va_S (xw_A G) s.heap H locs), xw_Wi G p l e (xw_rm (32) (700)) s m args below meth c H locs r0 wz (F0 m 0 ls []) := by
    intro H locs hP hS
    unfold fX8_worth at hf
    refine lv_aload_n hx hb dX8_worth_0 rfl (lv_at hl 0 rfl) ?_
    refine lv_iload_n hx hb dX8_worth_1 rfl (lv_at hl 1 rfl) ?_
    refine lv_iconst (v := 3) hx hb dX8_worth_2 (by decide) ?_
    refine lv_iload_n hx hb dX8_worth_3 rfl (lv_at hl 2 rfl) ?_
    replace hf := xw_b_e hf
    obtain ⟨r1, w2, he3, hf⟩ := hf
    refine xw_Vi hB hK hE hS hP (As := [.int a1, .int (3 : Int32), .int a2]) (rest := []) (kX8_change l G hG a1 (3 : Int32) a2 w0 _ _ he3) gs_X8_97 (xw_rc hK hP (C := RX8) (T := TX8) (N := 31) (xw_o8 G) rfl) 3 hv_X8_change ⟨Nat.le_of_ble_eq_true rfl, Nat.le_of_ble_eq_true rfl⟩ rfl hl.1 (Nat.le_of_ble_eq_true rfl) rfl dX8_worth_4 ⟨Nat.zero_le _, Nat.zero_le _⟩ (fun H locs hP hS => ?_)
    refine lv_istore_n (lv' := [(3, .int r1), (0, .ref (xw_ad G 119)), (1, .int a1), (2, .int a2)]) hx hb dX8_worth_7 rfl hl (by decide) rfl (fun ls hl => ?_)
    refine lv_aload_n hx hb dX8_worth_8 rfl (lv_at hl 1 rfl) ?_
    refine lv_iload_n hx hb dX8_worth_9 rfl (lv_at hl 2 rfl) ?_
    refine lv_iconst (v := 4) hx hb dX8_worth_10 (by decide) ?_
    refine lv_iconst (v := 0) hx hb dX8_worth_11 (by decide) ?_
    replace hf := xw_b_e hf
    obtain ⟨r4, w5, he6, hf⟩ := hf
    refine xw_Vi hB hK hE hS hP (As := [.int a1, .int (4 : Int32), .int (0 : Int32)]) (rest := []) (kX8_change l G hG a1 (4 : Int32) (0 : Int32) w2 _ _ he6) gs_X8_97 (xw_rc hK hP (C := RX8) (T := TX8) (N := 31) (xw_o8 G) rfl) 3 hv_X8_change ⟨Nat.le_of_ble_eq_true rfl, Nat.le_of_ble_eq_true rfl⟩ rfl hl.1 (Nat.le_of_ble_eq_true rfl) rfl dX8_worth_12 ⟨Nat.zero_le _, Nat.zero_le _⟩ (fun H locs hP hS => ?_)
    refine lv_istore (lv' := [(4, .int r4), (3, .int r1), (0, .ref (xw_ad G 119)), (1, .int a1), (2, .int a2)]) hx hb dX8_worth_15 hl (by decide) rfl (fun ls hl => ?_)
    refine lv_aload_n hx hb dX8_worth_17 rfl (lv_at hl 2 rfl) ?_
    replace hf := xw_b_e hf
    obtain ⟨r7, w8, he9, hf⟩ := hf
    refine xw_Vv hB hK hE hS hP (As := []) (rest := []) (kX8_share l G hG n w5 _ _ he9) gs_X8_104 (xw_rc hK hP (C := RX8) (T := TX8) (N := 31) (xw_o8 G) rfl) 0 hv_X8_share ⟨Nat.le_of_ble_eq_true rfl, Nat.le_of_ble_eq_true rfl⟩ rfl hl.1 (Nat.le_of_ble_eq_true rfl) rfl dX8_worth_18 ⟨Nat.zero_le _, Nat.zero_le _⟩ (fun H locs hP hS => ?_)
    refine lv_aload_n hx hb dX8_worth_21 rfl (lv_at hl 2 rfl) ?_
    refine lv_iload_n hx hb dX8_worth_22 rfl (lv_at hl 3 rfl) ?_
    refine lv_iconst (v := 3) hx hb dX8_worth_23 (by decide) ?_
    refine lv_iload_n hx hb dX8_worth_24 rfl (lv_at hl 1 rfl) ?_
    replace hf := xw_b_e hf
    obtain ⟨r10, w11, he12, hf⟩ := hf
    refine xw_Vi hB hK hE hS hP (As := [.int a1, .int (3 : Int32), .int r1]) (rest := []) (kX8_change l G hG a1 (3 : Int32) r1 w8 _ _ he12) gs_X8_97 (xw_rc hK hP (C := RX8) (T := TX8) (N := 31) (xw_o8 G) rfl) 3 hv_X8_change ⟨Nat.le_of_ble_eq_true rfl, Nat.le_of_ble_eq_true rfl⟩ rfl hl.1 (Nat.le_of_ble_eq_true rfl) rfl dX8_worth_25 ⟨Nat.zero_le _, Nat.zero_le _⟩ (fun H locs hP hS => ?_)
    refine lv_pop hx hb dX8_worth_28 rfl ?_
    refine lv_aload_n hx hb dX8_worth_29 rfl (lv_at hl 2 rfl) ?_
    refine lv_iload_n hx hb dX8_worth_30 rfl (lv_at hl 3 rfl) ?_
    refine lv_iconst (v := 4) hx hb dX8_worth_31 (by decide) ?_
    refine lv_iload hx hb dX8_worth_32 (lv_at hl 0 rfl) ?_
    replace hf := xw_b_e hf
    obtain ⟨r13, w14, he15, hf⟩ := hf
    refine xw_Vi hB hK hE hS hP (As := [.int a1, .int (4 : Int32), .int r4]) (rest := []) (kX8_change l G hG a1 (4 : Int32) r4 w11 _ _ he15) gs_X8_97 (xw_rc hK hP (C := RX8) (T := TX8) (N := 31) (xw_o8 G) rfl) 3 hv_X8_change ⟨Nat.le_of_ble_eq_true rfl, Nat.le_of_ble_eq_true rfl⟩ rfl hl.1 (Nat.le_of_ble_eq_true rfl) rfl dX8_worth_34 ⟨Nat.zero_le _, Nat.zero_le _⟩ (fun H locs hP hS => ?_)
    refine lv_pop hx hb dX8_worth_37 rfl ?_
    refine lv_aload_n hx hb dX8_worth_38 rfl (lv_at hl 2 rfl) ?_
    refine lv_iload_n hx hb dX8_worth_39 rfl (lv_at hl 3 rfl) ?_
    refine lv_iconst (v := 2) hx hb dX8_worth_40 (by decide) ?_
    replace hf := xw_bp_e hf
    obtain ⟨r16, he17, hf⟩ := hf
    refine xw_Vi hB hK hE hS hP (As := [.int a1, .int (2 : Int32)]) (rest := []) (kX8_one l G hG a1 (2 : Int32) w14 _ he17) gs_X8_89 (xw_rc hK hP (C := RX8) (T := TX8) (N := 31) (xw_o8 G) rfl) 2 hv_X8_one ⟨Nat.le_of_ble_eq_true rfl, Nat.le_of_ble_eq_true rfl⟩ rfl hl.1 (Nat.le_of_ble_eq_true rfl) rfl dX8_worth_41 ⟨Nat.zero_le _, Nat.zero_le _⟩ (fun H locs hP hS => ?_)
    refine lv_bipush (v := 10) hx hb dX8_worth_44 (by decide) ?_
    refine lv_iload_n hx hb dX8_worth_46 rfl (lv_at hl 4 rfl) ?_
    refine lv_isub hx hb dX8_worth_47 ?_
    refine lv_imul hx hb dX8_worth_48 ?_
    refine lv_aload_n hx hb dX8_worth_49 rfl (lv_at hl 2 rfl) ?_
    refine xw_get hB hK hP (xw_o8 G) (C := RX8) (T := TX8) (N := 31) rfl TBi_X8 21 (by decide) tw_749 rfl rfl dX8_worth_50 ?_
    refine lv_iload_n hx hb dX8_worth_53 rfl (lv_at hl 3 rfl) ?_
    replace hf := xw_ck_e hf
    obtain ⟨hi18, hf⟩ := hf
    refine xw_ild hB hK hP (xw_k132 G) hi18 dX8_worth_54 ?_
    refine lv_isub hx hb dX8_worth_55 ?_
    obtain ⟨h0, h1⟩ := xw_s2 hf
    exact xw_iret hB hK hE hS hP hr hlk h0 h1 dX8_worth_56
  exact HH s.heap [] hP hS
def fX8_best_54 (n : Nat) (a1 : Int32) (x2 : Int32) (w : xw_M) : Option (Int32 × xw_M) := some (x2, w)
def fX8_best_40 (n : Nat) (a1 : Int32) (x3 : Int32) (x4 : Int32) (x5 : Int32) (v0 : Int32) (w : xw_M) : Option ((Int32 × Int32 × Int32 × xw_M) ⊕ (Int32 × xw_M)) := xw_lt (if x5 < x3 then x3 else x5) (fun x3_9 => xw_lt (x4 + 1) (fun x4_10 => some (.inl (v0, x3_9, x4_10, w))))
def fX8_best_b12 (n : Nat) (a1 : Int32) (x2 : Int32) (x3 : Int32) (x4 : Int32) (w : xw_M) : Option ((Int32 × Int32 × Int32 × xw_M) ⊕ (Int32 × xw_M)) := if (10 : Int32) ≤ x4 then some (.inr (x2, w)) else xw_b (fX8_worth n a1 x4 w) (fun r5 w6 => if r5 ≤ x3 then fX8_best_40 n a1 x3 x4 r5 x2 w6 else fX8_best_40 n a1 x3 x4 r5 x4 w6)
def fX8_best_12 (n : Nat) (a1 : Int32) (x2 : Int32) (x3 : Int32) (x4 : Int32) (w : xw_M) : Option (Int32 × xw_M) := xw_bp (xw_it (fun z => fX8_best_b12 n a1 z.1 z.2.1 z.2.2.1 z.2.2.2) n (x2, x3, x4, w)) (fun z => (fun (x2 : Int32) (w : xw_M) => fX8_best_54 n a1 x2 w) z.1 z.2)
def fX8_best (n : Nat) (a1 : Int32) (w0 : xw_M) : Option (Int32 × xw_M) := xw_b (fX8_worth n a1 (0 : Int32) w0) (fun r1 w2 => fX8_best_12 n a1 (0 : Int32) r1 (1 : Int32) w2)
set_option maxHeartbeats 4000000 in
set_option maxRecDepth 100000 in
theorem kX8_best (l : Launch) (G : xw_G) (hG : xw_ok G) (n : Nat) (a1 : Int32) (w0 : xw_M) (r0 : Int32) (wz : xw_M) (hf : fX8_best n a1 w0 = some (r0, wz)) : xw_Ti l G yX8_best cX8_best 6 ((Option.some Jvm.ClassFile.FieldType.int)) (33) (724) [.ref (xw_ad G 119), .int a1] w0 r0 wz := by
  unfold xw_Ti
  refine Met.ofW (cc := cX8_best) (maxL := 6) (ret := (Option.some Jvm.ClassFile.FieldType.int)) (by decide) rfl ?_
  intro p e s m args below meth c s₁ B hml hv
  obtain ⟨hargs, hP, hK, hE⟩ := hv
  have hx := B.exec
  have hb := B.bytes
  have hr := B.returns
  have hlk := B.notSynchronized
  have hB : CallFix p m c cX8_best 6 s args TB RX8 := ⟨hx, hb, hml, findClass_of_methodNamed B.named, fun q h => (atoms_spec (ws := Cond.code yX8_best cX8_best 6 ((Option.some Jvm.ClassFile.FieldType.int)) :: TB) B.pre) q (List.mem_cons_of_mem _ h)⟩
  have hS : va_S (xw_A G) s.heap s.heap [] := va_S.rf
  have hl := lv_entry [.ref (xw_ad G 119), .int a1] (n := 6) (Nat.le_of_ble_eq_true rfl)
  rw [show entryFrame m args 6 = entryFrame m ([.ref (xw_ad G 119), .int a1] : List Value).toArray 6 from by rw [hargs], lg_entry_eq]
  generalize (lg_sl [.ref (xw_ad G 119), .int a1] ++ List.replicate (6 - (lg_sl [.ref (xw_ad G 119), .int a1]).length) Slot.unset).toArray = ls at hl ⊢
  have hP : va_P (xw_D G) xw_cl (xw_W G w0) s.heap := hP
  have hl : lv_has ls 6 [(0, .ref (xw_ad G 119)), (1, .int a1)] := hl
  have HH : ∀ (H : Heap) (locs : List Loc) (hP : va_P (xw_D G) xw_cl (xw_W G w0) H) (hS : va_S (xw_A G) s.heap H locs), xw_Wi G p l e (xw_rm (33) (724)) s m args below meth c H locs r0 wz (F0 m 0 ls []) := by
    intro H locs hP hS
    unfold fX8_best at hf
    have J54 : ∀ (x2 : Int32) (w : xw_M) (hf : fX8_best_54 n a1 x2 w = some (r0, wz)) (H : Heap) (locs : List Loc) (ls : Array Slot) (hP : va_P (xw_D G) xw_cl (xw_W G w) H) (hS : va_S (xw_A G) s.heap H locs) (hl : lv_has ls 6 [(2, .int x2)]), xw_Wi G p l e (xw_rm (33) (724)) s m args below meth c H locs r0 wz (F0 m 54 ls []) := by
      intro x2 w hf H locs ls hP hS hl
      unfold fX8_best_54 at hf
      refine lv_iload_n hx hb dX8_best_54 rfl (lv_at hl 0 rfl) ?_
      obtain ⟨h0, h1⟩ := xw_s2 hf
      exact xw_iret hB hK hE hS hP hr hlk h0 h1 dX8_best_55
    have J12 : ∀ (x2 : Int32) (x3 : Int32) (x4 : Int32) (w : xw_M) (hf : fX8_best_12 n a1 x2 x3 x4 w = some (r0, wz)) (H : Heap) (locs : List Loc) (ls : Array Slot) (hP : va_P (xw_D G) xw_cl (xw_W G w) H) (hS : va_S (xw_A G) s.heap H locs) (hl : lv_has ls 6 [(0, .ref (xw_ad G 119)), (1, .int a1), (2, .int x2), (3, .int x3), (4, .int x4)]), xw_Wi G p l e (xw_rm (33) (724)) s m args below meth c H locs r0 wz (F0 m 12 ls []) := by
      intro x2 x3 x4 w hf H locs ls hP hS hl
      unfold fX8_best_12 at hf
      replace hf := xw_bp_e hf
      obtain ⟨bb12, hit12, hfx12⟩ := hf
      have XX12 : ∀ (x2 : Int32) (w : xw_M) (hf : fX8_best_54 n a1 x2 w = some (r0, wz)) (H : Heap) (locs : List Loc) (ls : Array Slot) (hP : va_P (xw_D G) xw_cl (xw_W G w) H) (hS : va_S (xw_A G) s.heap H locs) (hl : lv_has ls 6 [(2, .int x2)]), xw_Wi G p l e (xw_rm (33) (724)) s m args below meth c H locs r0 wz (F0 m 54 ls []) := by
        intro x2 w hf H locs ls hP hS hl
        exact J54 x2 w hf H locs ls hP hS (lv_sub hl [0] rfl)
      have LL12 : ∀ (nn : Nat) (x2 : Int32) (x3 : Int32) (x4 : Int32) (w : xw_M) (hit : xw_it (fun z => fX8_best_b12 n a1 z.1 z.2.1 z.2.2.1 z.2.2.2) nn (x2, x3, x4, w) = some bb12) (H : Heap) (locs : List Loc) (ls : Array Slot) (hP : va_P (xw_D G) xw_cl (xw_W G w) H) (hS : va_S (xw_A G) s.heap H locs) (hl : lv_has ls 6 [(0, .ref (xw_ad G 119)), (1, .int a1), (2, .int x2), (3, .int x3), (4, .int x4)]), xw_Wi G p l e (xw_rm (33) (724)) s m args below meth c H locs r0 wz (F0 m 12 ls []) := by
        intro nn
        induction nn with
        | zero => intro x2 x3 x4 w hit; exact (xw_it_0 hit).elim
        | succ nn ih12 =>
          intro x2 x3 x4 w hit H locs ls hP hS hl
          replace hit := xw_it_e hit
          obtain ⟨wv12, hf, hC12, hX12⟩ := hit
          replace hf : fX8_best_b12 n a1 x2 x3 x4 w = some wv12 := hf
          unfold fX8_best_b12 at hf
          have J40 : ∀ (x3 : Int32) (x4 : Int32) (x5 : Int32) (v0 : Int32) (w : xw_M) (hf : fX8_best_40 n a1 x3 x4 x5 v0 w = some wv12) (H : Heap) (locs : List Loc) (ls : Array Slot) (hP : va_P (xw_D G) xw_cl (xw_W G w) H) (hS : va_S (xw_A G) s.heap H locs) (hl : lv_has ls 6 [(0, .ref (xw_ad G 119)), (1, .int a1), (3, .int x3), (4, .int x4), (5, .int x5)]), xw_Wi G p l e (xw_rm (33) (724)) s m args below meth c H locs r0 wz (F0 m 40 ls [.int v0]) := by
            intro x3 x4 x5 v0 w hf H locs ls hP hS hl
            unfold fX8_best_40 at hf
            refine lv_istore_n (lv' := [(2, .int v0), (0, .ref (xw_ad G 119)), (1, .int a1), (3, .int x3), (4, .int x4), (5, .int x5)]) hx hb dX8_best_40 rfl hl (by decide) rfl (fun ls hl => ?_)
            refine lv_iload hx hb dX8_best_41 (lv_at hl 5 rfl) ?_
            refine lv_iload_n hx hb dX8_best_43 rfl (lv_at hl 3 rfl) ?_
            refine va_mmax hx hb (hB.2.2.1.trans hl.1.symm) hB.2.2.2.1 (hB.2.2.2.2 _ tm_913) (hB.2.2.2.2 _ tm_360) (hB.2.2.2.2 _ tw_4) (hB.2.2.2.2 _ tm_361) (Nat.le_of_ble_eq_true rfl) (Nat.le_of_ble_eq_true rfl) (Nat.zero_le _) (Nat.zero_le _) dX8_best_44 ?_
            refine lv_topi (fun x3_9 ex3_9 => ?_)
            replace hf := xw_lt_e ex3_9 hf
            refine lv_istore_n (lv' := [(3, .int x3_9), (2, .int v0), (0, .ref (xw_ad G 119)), (1, .int a1), (4, .int x4), (5, .int x5)]) hx hb dX8_best_47 rfl hl (by decide) rfl (fun ls hl => ?_)
            obtain ⟨x4_10, ex4_10⟩ : ∃ y : Int32, y = x4 + 1 := ⟨_, rfl⟩
            replace hf := xw_lt_e ex4_10 hf
            refine lv_iinc (v := x4_10) (lv' := [(4, .int x4_10), (3, .int x3_9), (2, .int v0), (0, .ref (xw_ad G 119)), (1, .int a1), (5, .int x5)]) hx hb dX8_best_48 hl (k := 4) rfl (by rw [ex4_10]; rfl) (by decide) rfl (fun ls hl => ?_)
            refine lv_goto (tgt := 12) hx hb dX8_best_51 (by decide) ?_
            have hi := hC12 _ (xw_so hf).symm
            exact ih12 v0 x3_9 x4_10 w hi H locs ls hP hS (lv_sub hl [3, 4, 2, 1, 0] rfl)
          refine lv_iload hx hb dX8_best_12 (lv_at hl 4 rfl) ?_
          refine lv_bipush (v := 10) hx hb dX8_best_14 (by decide) ?_
          refine lv_icmp_ge (tgt := 54) hx hb dX8_best_16 (by decide) (fun c4 => ?_) (fun c4 => ?_)
          · replace hf := xw_ip c4 hf
            have he12 := hX12 _ (xw_so hf).symm
            rw [← he12] at hfx12
            exact XX12 x2 w hfx12 H locs ls hP hS (lv_sub hl [2] rfl)
          · replace hf := xw_in' c4 hf
            refine lv_aload_n hx hb dX8_best_19 rfl (lv_at hl 0 rfl) ?_
            refine lv_iload_n hx hb dX8_best_20 rfl (lv_at hl 1 rfl) ?_
            refine lv_iload hx hb dX8_best_21 (lv_at hl 4 rfl) ?_
            replace hf := xw_b_e hf
            obtain ⟨r5, w6, he7, hf⟩ := hf
            refine xw_Vi hB hK hE hS hP (As := [.int a1, .int x4]) (rest := []) (kX8_worth l G hG n a1 x4 w _ _ he7) gs_X8_114 (xw_rc hK hP (C := RX8) (T := TX8) (N := 31) (xw_o8 G) rfl) 2 hv_X8_worth ⟨Nat.le_of_ble_eq_true rfl, Nat.le_of_ble_eq_true rfl⟩ rfl hl.1 (Nat.le_of_ble_eq_true rfl) rfl dX8_best_23 ⟨Nat.zero_le _, Nat.zero_le _⟩ (fun H locs hP hS => ?_)
            refine lv_istore (lv' := [(5, .int r5), (0, .ref (xw_ad G 119)), (1, .int a1), (2, .int x2), (3, .int x3), (4, .int x4)]) hx hb dX8_best_26 hl (by decide) rfl (fun ls hl => ?_)
            refine lv_iload hx hb dX8_best_28 (lv_at hl 0 rfl) ?_
            refine lv_iload_n hx hb dX8_best_30 rfl (lv_at hl 4 rfl) ?_
            refine lv_icmp_le (tgt := 39) hx hb dX8_best_31 (by decide) (fun c8 => ?_) (fun c8 => ?_)
            · replace hf := xw_ip c8 hf
              refine lv_iload_n hx hb dX8_best_39 rfl (lv_at hl 3 rfl) ?_
              exact J40 x3 x4 r5 x2 w6 hf H locs ls hP hS (lv_sub hl [1, 2, 4, 5, 0] rfl)
            · replace hf := xw_in' c8 hf
              refine lv_iload hx hb dX8_best_34 (lv_at hl 5 rfl) ?_
              refine lv_goto (tgt := 40) hx hb dX8_best_36 (by decide) ?_
              exact J40 x3 x4 r5 x4 w6 hf H locs ls hP hS (lv_sub hl [1, 2, 4, 5, 0] rfl)
      exact LL12 n x2 x3 x4 w hit12 H locs ls hP hS hl
    refine lv_iconst (v := 0) hx hb dX8_best_0 (by decide) ?_
    refine lv_istore_n (lv' := [(2, .int (0 : Int32)), (0, .ref (xw_ad G 119)), (1, .int a1)]) hx hb dX8_best_1 rfl hl (by decide) rfl (fun ls hl => ?_)
    refine lv_aload_n hx hb dX8_best_2 rfl (lv_at hl 1 rfl) ?_
    refine lv_iload_n hx hb dX8_best_3 rfl (lv_at hl 2 rfl) ?_
    refine lv_iconst (v := 0) hx hb dX8_best_4 (by decide) ?_
    replace hf := xw_b_e hf
    obtain ⟨r1, w2, he3, hf⟩ := hf
    refine xw_Vi hB hK hE hS hP (As := [.int a1, .int (0 : Int32)]) (rest := []) (kX8_worth l G hG n a1 (0 : Int32) w0 _ _ he3) gs_X8_114 (xw_rc hK hP (C := RX8) (T := TX8) (N := 31) (xw_o8 G) rfl) 2 hv_X8_worth ⟨Nat.le_of_ble_eq_true rfl, Nat.le_of_ble_eq_true rfl⟩ rfl hl.1 (Nat.le_of_ble_eq_true rfl) rfl dX8_best_5 ⟨Nat.zero_le _, Nat.zero_le _⟩ (fun H locs hP hS => ?_)
    refine lv_istore_n (lv' := [(3, .int r1), (2, .int (0 : Int32)), (0, .ref (xw_ad G 119)), (1, .int a1)]) hx hb dX8_best_8 rfl hl (by decide) rfl (fun ls hl => ?_)
    refine lv_iconst (v := 1) hx hb dX8_best_9 (by decide) ?_
    refine lv_istore (lv' := [(4, .int (1 : Int32)), (3, .int r1), (2, .int (0 : Int32)), (0, .ref (xw_ad G 119)), (1, .int a1)]) hx hb dX8_best_10 hl (by decide) rfl (fun ls hl => ?_)
    exact J12 (0 : Int32) r1 (1 : Int32) w2 hf H locs ls hP hS (lv_sub hl [3, 4, 2, 1, 0] rfl)
  exact HH s.heap [] hP hS
