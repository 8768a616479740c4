def fX7_within (a0 : Int32) (a1 : Int32) : Option Int32 := if a0 < 0 then some (0 : Int32) else if a1 < a0 then some (0 : Int32) else some (1 : Int32)
set_option maxHeartbeats 4000000 in
set_option maxRecDepth 100000 in
theorem kX7_within (l : Launch) (G : xw_G) (hG : xw_ok G) (a0 : Int32) (a1 : Int32) (w0 : xw_M) (r0 : Int32) (hf : fX7_within a0 a1 = some r0) : xw_Ti l G yX7_within cX7_within 2 ((Option.some Jvm.ClassFile.FieldType.boolean)) (0) (0) [.int a0, .int a1] w0 r0 w0 := by
  unfold xw_Ti
  refine Met.ofW (cc := cX7_within) (maxL := 2) (ret := (Option.some Jvm.ClassFile.FieldType.boolean)) (by decide) rfl ?_
  intro p e s m args below meth c s₁ B hml hv
  obtain ⟨hargs, hP, hK, hE⟩ := hv
  have hx := B.exec
  have hb := B.bytes
  have hr := B.returns
  have hlk := B.notSynchronized
  have hB : CallFix p m c cX7_within 2 s args TB RX7 := ⟨hx, hb, hml, findClass_of_methodNamed B.named, fun q h => (atoms_spec (ws := Cond.code yX7_within cX7_within 2 ((Option.some Jvm.ClassFile.FieldType.boolean)) :: TB) B.pre) q (List.mem_cons_of_mem _ h)⟩
  have hS : va_S (xw_A G) s.heap s.heap [] := va_S.rf
  have hl := lv_entry [.int a0, .int a1] (n := 2) (Nat.le_of_ble_eq_true rfl)
  rw [show entryFrame m args 2 = entryFrame m ([.int a0, .int a1] : List Value).toArray 2 from by rw [hargs], lg_entry_eq]
  generalize (lg_sl [.int a0, .int a1] ++ List.replicate (2 - (lg_sl [.int a0, .int a1]).length) Slot.unset).toArray = ls at hl ⊢
  have hP : va_P (xw_D G) xw_cl (xw_W G w0) s.heap := hP
  have hl : lv_has ls 2 [(0, .int a0), (1, .int a1)] := hl
  have HH : ∀ (H : Heap) (locs : List Loc) (hP : va_P (xw_D G) xw_cl (xw_W G w0) H) (hS : va_S (xw_A G) s.heap H locs), xw_Wi G p l e (xw_rm (0) (0)) s m args below meth c H locs r0 w0 (F0 m 0 ls []) := by
    intro H locs hP hS
    unfold fX7_within at hf
    refine lv_iload_n hx hb dX7_within_0 rfl (lv_at hl 0 rfl) ?_
    refine lv_if_lt (tgt := 13) hx hb dX7_within_1 (by decide) (fun c1 => ?_) (fun c1 => ?_)
    · replace hf := xw_ip c1 hf
      refine lv_iconst (v := 0) hx hb dX7_within_13 (by decide) ?_
      have h0 := xw_so hf
      have h1 : w0 = w0 := rfl
      exact xw_zret hB hK hE hS hP hr hlk rfl h0 h1 dX7_within_14
    · replace hf := xw_in' c1 hf
      refine lv_iload_n hx hb dX7_within_4 rfl (lv_at hl 0 rfl) ?_
      refine lv_iload_n hx hb dX7_within_5 rfl (lv_at hl 1 rfl) ?_
      refine lv_icmp_gt (tgt := 13) hx hb dX7_within_6 (by decide) (fun c2 => ?_) (fun c2 => ?_)
      · replace hf := xw_ip c2 hf
        refine lv_iconst (v := 0) hx hb dX7_within_13 (by decide) ?_
        have h0 := xw_so hf
        have h1 : w0 = w0 := rfl
        exact xw_zret hB hK hE hS hP hr hlk rfl h0 h1 dX7_within_14
      · replace hf := xw_in' c2 hf
        refine lv_iconst (v := 1) hx hb dX7_within_9 (by decide) ?_
        refine lv_goto (tgt := 14) hx hb dX7_within_10 (by decide) ?_
        have h0 := xw_so hf
        have h1 : w0 = w0 := rfl
        exact xw_zret hB hK hE hS hP hr hlk rfl h0 h1 dX7_within_14
  exact HH s.heap [] hP hS
def fX7_put (a0 : Nat) (n0 : Nat) (a1 : Int32) (a2 : Int32) (w0 : xw_M) : Option (Unit × xw_M) := if a1 < 0 then some ((), w0) else if (nI n0) ≤ a1 then some ((), w0) else xw_ck a1 n0 (xw_lt (xw_si w0 a0 a1.toNatClampNeg a2) (fun w4 => some ((), w4)))
set_option maxHeartbeats 4000000 in
set_option maxRecDepth 100000 in
theorem kX7_put (l : Launch) (G : xw_G) (hG : xw_ok G) (a0 : Nat) (n0 : Nat) (a1 : Int32) (a2 : Int32) (ha0 : xw_ia G 0 a0 n0) (w0 : xw_M) (r0 : Unit) (wz : xw_M) (hf : fX7_put a0 n0 a1 a2 w0 = some (r0, wz)) : xw_Tv l G yX7_put cX7_put 3 ((Option.none : Option Jvm.ClassFile.FieldType)) (0) (0) [.ref (xw_ad G a0), .int a1, .int a2] w0 r0 wz := by
  unfold xw_Tv
  refine Met.ofW (cc := cX7_put) (maxL := 3) (ret := (Option.none : Option Jvm.ClassFile.FieldType)) (by decide) rfl ?_
  intro p e s m args below meth c s₁ B hml hv
  obtain ⟨hargs, hP, hK, hE⟩ := hv
  have hx := B.exec
  have hb := B.bytes
  have hr := B.returns
  have hlk := B.notSynchronized
  have hB : CallFix p m c cX7_put 3 s args TB RX7 := ⟨hx, hb, hml, findClass_of_methodNamed B.named, fun q h => (atoms_spec (ws := Cond.code yX7_put cX7_put 3 ((Option.none : Option Jvm.ClassFile.FieldType)) :: TB) B.pre) q (List.mem_cons_of_mem _ h)⟩
  have hS : va_S (xw_A G) s.heap s.heap [] := va_S.rf
  have hl := lv_entry [.ref (xw_ad G a0), .int a1, .int a2] (n := 3) (Nat.le_of_ble_eq_true rfl)
  rw [show entryFrame m args 3 = entryFrame m ([.ref (xw_ad G a0), .int a1, .int a2] : List Value).toArray 3 from by rw [hargs], lg_entry_eq]
  generalize (lg_sl [.ref (xw_ad G a0), .int a1, .int a2] ++ List.replicate (3 - (lg_sl [.ref (xw_ad G a0), .int a1, .int a2]).length) Slot.unset).toArray = ls at hl ⊢
  have hP : va_P (xw_D G) xw_cl (xw_W G w0) s.heap := hP
  have hl : lv_has ls 3 [(0, .ref (xw_ad G a0)), (1, .int a1), (2, .int a2)] := hl
  have HH : ∀ (H : Heap) (locs : List Loc) (hP : va_P (xw_D G) xw_cl (xw_W G w0) H) (hS : va_S (xw_A G) s.heap H locs), xw_Wv G p l e (xw_rm (0) (0)) s m args below meth c H locs r0 wz (F0 m 0 ls []) := by
    intro H locs hP hS
    unfold fX7_put at hf
    refine lv_iload_n hx hb dX7_put_0 rfl (lv_at hl 1 rfl) ?_
    refine lv_if_lt (tgt := 14) hx hb dX7_put_1 (by decide) (fun c1 => ?_) (fun c1 => ?_)
    · replace hf := xw_ip c1 hf
      obtain ⟨h0, h1⟩ := xw_s2 hf
      exact xw_vret hB hK hE hS hP hr hlk h1 dX7_put_14
    · replace hf := xw_in' c1 hf
      refine lv_iload_n hx hb dX7_put_4 rfl (lv_at hl 1 rfl) ?_
      refine lv_aload_n hx hb dX7_put_5 rfl (lv_at hl 0 rfl) ?_
      refine xw_ilen hB hK hP ha0 rfl dX7_put_6 ?_
      refine lv_icmp_ge (tgt := 14) hx hb dX7_put_7 (by decide) (fun c2 => ?_) (fun c2 => ?_)
      · replace hf := xw_ip c2 hf
        obtain ⟨h0, h1⟩ := xw_s2 hf
        exact xw_vret hB hK hE hS hP hr hlk h1 dX7_put_14
      · replace hf := xw_in' c2 hf
        refine lv_aload_n hx hb dX7_put_10 rfl (lv_at hl 0 rfl) ?_
        refine lv_iload_n hx hb dX7_put_11 rfl (lv_at hl 1 rfl) ?_
        refine lv_iload_n hx hb dX7_put_12 rfl (lv_at hl 2 rfl) ?_
        replace hf := xw_ck_e hf
        obtain ⟨hi3, hf⟩ := hf
        refine xw_ist hG hB hK hS hP ha0 hi3 dX7_put_13 (fun w4 ew4 H locs hP hS => ?_)
        replace hf := xw_lt_e ew4 hf
        obtain ⟨h0, h1⟩ := xw_s2 hf
        exact xw_vret hB hK hE hS hP hr hlk h1 dX7_put_14
  exact HH s.heap [] hP hS
def fX5_add (b : Nat) (a1 : Int32) (a2 : Int32) (a3 : Int32) (a4 : Int32) (w0 : xw_M) : Option (Int32 × xw_M) := xw_lt (w0.1 b 0) (fun x5_1 => xw_b (fX7_put (b + 1) 6 x5_1 a1 w0) (fun (_ : Unit) w3 => xw_b (fX7_put (b + 2) 6 x5_1 a2 w3) (fun (_ : Unit) w6 => xw_b (fX7_put (b + 3) 6 x5_1 a3 w6) (fun (_ : Unit) w9 => xw_b (fX7_put (b + 4) 6 x5_1 a4 w9) (fun (_ : Unit) w12 => xw_lt (xw_si w12 b 0 ((w12.1 b 0) + (1 : Int32))) (fun w14 => some (x5_1, w14)))))))
set_option maxHeartbeats 4000000 in
set_option maxRecDepth 100000 in
theorem kX5_add (l : Launch) (G : xw_G) (hG : xw_ok G) (b : Nat) (a1 : Int32) (a2 : Int32) (a3 : Int32) (a4 : Int32) (hb0 : xw_sc b) (w0 : xw_M) (r0 : Int32) (wz : xw_M) (hf : fX5_add b a1 a2 a3 a4 w0 = some (r0, wz)) : xw_Ti l G yX5_add cX5_add 6 ((Option.some Jvm.ClassFile.FieldType.int)) (1) (22) [.ref (xw_ad G b), .int a1, .int a2, .int a3, .int a4] w0 r0 wz := by
  unfold xw_Ti
  refine Met.ofW (cc := cX5_add) (maxL := 6) (ret := (Option.some Jvm.ClassFile.FieldType.int)) (by decide) rfl ?_
  intro p e s m args below meth c s₁ B hml hv
  obtain ⟨hargs, hP, hK, hE⟩ := hv
  have hx := B.exec
  have hb := B.bytes
  have hr := B.returns
  have hlk := B.notSynchronized
  have hB : CallFix p m c cX5_add 6 s args TB RX5 := ⟨hx, hb, hml, findClass_of_methodNamed B.named, fun q h => (atoms_spec (ws := Cond.code yX5_add cX5_add 6 ((Option.some Jvm.ClassFile.FieldType.int)) :: TB) B.pre) q (List.mem_cons_of_mem _ h)⟩
  have hS : va_S (xw_A G) s.heap s.heap [] := va_S.rf
  have hl := lv_entry [.ref (xw_ad G b), .int a1, .int a2, .int a3, .int a4] (n := 6) (Nat.le_of_ble_eq_true rfl)
  rw [show entryFrame m args 6 = entryFrame m ([.ref (xw_ad G b), .int a1, .int a2, .int a3, .int a4] : List Value).toArray 6 from by rw [hargs], lg_entry_eq]
  generalize (lg_sl [.ref (xw_ad G b), .int a1, .int a2, .int a3, .int a4] ++ List.replicate (6 - (lg_sl [.ref (xw_ad G b), .int a1, .int a2, .int a3, .int a4]).length) Slot.unset).toArray = ls at hl ⊢
  have hP : va_P (xw_D G) xw_cl (xw_W G w0) s.heap := hP
  have hl : lv_has ls 6 [(0, .ref (xw_ad G b)), (1, .int a1), (2, .int a2), (3, .int a3), (4, .int a4)] := hl
  have HH : ∀ (H : Heap) (locs : List Loc) (hP : va_P (xw_D G) xw_cl (xw_W G w0) H) (hS : va_S (xw_A G) s.heap H locs), xw_Wi G p l e (xw_rm (1) (22)) s m args below meth c H locs r0 wz (F0 m 0 ls []) := by
    intro H locs hP hS
    unfold fX5_add at hf
    refine lv_aload_n hx hb dX5_add_0 rfl (lv_at hl 0 rfl) ?_
    refine xw_get hB hK hP (xw_o5 G hb0) (C := RX5) (T := TX5) (N := 14) rfl TBi_X5 0 (by decide) tw_60 rfl rfl dX5_add_1 ?_
    refine lv_topi (fun x5_1 ex5_1 => ?_)
    replace hf := xw_lt_e ex5_1 hf
    refine lv_istore (lv' := [(5, .int x5_1), (0, .ref (xw_ad G b)), (1, .int a1), (2, .int a2), (3, .int a3), (4, .int a4)]) hx hb dX5_add_4 hl (by decide) rfl (fun ls hl => ?_)
    refine lv_aload_n hx hb dX5_add_6 rfl (lv_at hl 1 rfl) ?_
    refine xw_get hB hK hP (xw_o5 G hb0) (C := RX5) (T := TX5) (N := 14) rfl TBi_X5 1 (by decide) tw_63 rfl rfl dX5_add_7 ?_
    refine lv_iload hx hb dX5_add_10 (lv_at hl 0 rfl) ?_
    refine lv_iload_n hx hb dX5_add_12 rfl (lv_at hl 2 rfl) ?_
    replace hf := xw_b_e hf
    obtain ⟨r2, w3, he4, hf⟩ := hf
    refine xw_Nv hB hK hE hS hP (As := [.ref (xw_ad G (b + 1)), .int x5_1, .int a1]) (rest := []) (kX7_put l G hG (b + 1) 6 x5_1 a1 (xw_a5_1 G hb0) w0 _ _ he4) (host := RX7) (by decide +kernel) tw_302 tw_301 tw_1 3 hs_X7_put ⟨Nat.le_of_ble_eq_true rfl, Nat.le_of_ble_eq_true rfl⟩ rfl hl.1 (Nat.le_of_ble_eq_true rfl) rfl dX5_add_13 ⟨Nat.zero_le _, Nat.zero_le _⟩ (fun H locs hP hS => ?_)
    refine lv_aload_n hx hb dX5_add_16 rfl (lv_at hl 1 rfl) ?_
    refine xw_get hB hK hP (xw_o5 G hb0) (C := RX5) (T := TX5) (N := 14) rfl TBi_X5 2 (by decide) tw_67 rfl rfl dX5_add_17 ?_
    refine lv_iload hx hb dX5_add_20 (lv_at hl 0 rfl) ?_
    refine lv_iload_n hx hb dX5_add_22 rfl (lv_at hl 3 rfl) ?_
    replace hf := xw_b_e hf
    obtain ⟨r5, w6, he7, hf⟩ := hf
    refine xw_Nv hB hK hE hS hP (As := [.ref (xw_ad G (b + 2)), .int x5_1, .int a2]) (rest := []) (kX7_put l G hG (b + 2) 6 x5_1 a2 (xw_a5_2 G hb0) w3 _ _ he7) (host := RX7) (by decide +kernel) tw_302 tw_301 tw_1 3 hs_X7_put ⟨Nat.le_of_ble_eq_true rfl, Nat.le_of_ble_eq_true rfl⟩ rfl hl.1 (Nat.le_of_ble_eq_true rfl) rfl dX5_add_23 ⟨Nat.zero_le _, Nat.zero_le _⟩ (fun H locs hP hS => ?_)
    refine lv_aload_n hx hb dX5_add_26 rfl (lv_at hl 1 rfl) ?_
    refine xw_get hB hK hP (xw_o5 G hb0) (C := RX5) (T := TX5) (N := 14) rfl TBi_X5 3 (by decide) tw_71 rfl rfl dX5_add_27 ?_
    refine lv_iload hx hb dX5_add_30 (lv_at hl 0 rfl) ?_
    refine lv_iload_n hx hb dX5_add_32 rfl (lv_at hl 4 rfl) ?_
    replace hf := xw_b_e hf
    obtain ⟨r8, w9, he10, hf⟩ := hf
    refine xw_Nv hB hK hE hS hP (As := [.ref (xw_ad G (b + 3)), .int x5_1, .int a3]) (rest := []) (kX7_put l G hG (b + 3) 6 x5_1 a3 (xw_a5_3 G hb0) w6 _ _ he10) (host := RX7) (by decide +kernel) tw_302 tw_301 tw_1 3 hs_X7_put ⟨Nat.le_of_ble_eq_true rfl, Nat.le_of_ble_eq_true rfl⟩ rfl hl.1 (Nat.le_of_ble_eq_true rfl) rfl dX5_add_33 ⟨Nat.zero_le _, Nat.zero_le _⟩ (fun H locs hP hS => ?_)
    refine lv_aload_n hx hb dX5_add_36 rfl (lv_at hl 1 rfl) ?_
    refine xw_get hB hK hP (xw_o5 G hb0) (C := RX5) (T := TX5) (N := 14) rfl TBi_X5 4 (by decide) tw_74 rfl rfl dX5_add_37 ?_
    refine lv_iload hx hb dX5_add_40 (lv_at hl 0 rfl) ?_
    refine lv_iload hx hb dX5_add_42 (lv_at hl 5 rfl) ?_
    replace hf := xw_b_e hf
    obtain ⟨r11, w12, he13, hf⟩ := hf
    refine xw_Nv hB hK hE hS hP (As := [.ref (xw_ad G (b + 4)), .int x5_1, .int a4]) (rest := []) (kX7_put l G hG (b + 4) 6 x5_1 a4 (xw_a5_4 G hb0) w9 _ _ he13) (host := RX7) (by decide +kernel) tw_302 tw_301 tw_1 3 hs_X7_put ⟨Nat.le_of_ble_eq_true rfl, Nat.le_of_ble_eq_true rfl⟩ rfl hl.1 (Nat.le_of_ble_eq_true rfl) rfl dX5_add_44 ⟨Nat.zero_le _, Nat.zero_le _⟩ (fun H locs hP hS => ?_)
    refine lv_aload_n hx hb dX5_add_47 rfl (lv_at hl 1 rfl) ?_
    refine lv_dup hx hb dX5_add_48 rfl ?_
    refine xw_get hB hK hP (xw_o5 G hb0) (C := RX5) (T := TX5) (N := 14) rfl TBi_X5 0 (by decide) tw_60 rfl rfl dX5_add_49 ?_
    refine lv_iconst (v := 1) hx hb dX5_add_52 (by decide) ?_
    refine lv_iadd hx hb dX5_add_53 ?_
    refine xw_put hG hB hK hS hP (x := (w12.1 b 0) + (1 : Int32)) (xw_o5 G hb0) (C := RX5) (T := TX5) (N := 14) rfl TBi_X5 tyX5 tyX5_ok nmX5 0 (by decide) tw_60 rfl rfl rfl rfl rfl (Nat.le_of_ble_eq_true rfl) rfl dX5_add_54 (fun w14 ew14 H locs hP hS => ?_)
    replace hf := xw_lt_e ew14 hf
    refine lv_iload hx hb dX5_add_57 (lv_at hl 0 rfl) ?_
    obtain ⟨h0, h1⟩ := xw_s2 hf
    exact xw_iret hB hK hE hS hP hr hlk h0 h1 dX5_add_59
  exact HH s.heap [] hP hS
def fX7_mourner (a1 : Int32) (a2 : Int32) (a3 : Int32) (a4 : Int32) (w0 : xw_M) : Option (Int32 × xw_M) := xw_bp (fX7_within a1 (6 : Int32)) (fun r1 => if r1 = 0 then some ((-1 : Int32), w0) else xw_bp (fX7_within a4 (9 : Int32)) (fun r4 => if r4 = 0 then some ((-1 : Int32), w0) else xw_bp (fX7_within a2 (9 : Int32)) (fun r7 => if r7 = 0 then some ((-2 : Int32), w0) else xw_bp (fX7_within a3 (20 : Int32)) (fun r10 => if r10 = 0 then some ((-2 : Int32), w0) else if (w0.1 1 0) < (6 : Int32) then xw_b (fX5_add 1 a1 a2 a3 a4 w0) (fun r14 w15 => some (r14, w15)) else some ((-4 : Int32), w0)))))
set_option maxHeartbeats 4000000 in
set_option maxRecDepth 100000 in
theorem kX7_mourner (l : Launch) (G : xw_G) (hG : xw_ok G) (a1 : Int32) (a2 : Int32) (a3 : Int32) (a4 : Int32) (w0 : xw_M) (r0 : Int32) (wz : xw_M) (hf : fX7_mourner a1 a2 a3 a4 w0 = some (r0, wz)) : xw_Ti l G yX7_mourner cX7_mourner 5 ((Option.some Jvm.ClassFile.FieldType.int)) (2) (47) [.ref (xw_ad G 0), .int a1, .int a2, .int a3, .int a4] w0 r0 wz := by
  unfold xw_Ti
  refine Met.ofW (cc := cX7_mourner) (maxL := 5) (ret := (Option.some Jvm.ClassFile.FieldType.int)) (by decide) rfl ?_
  intro p e s m args below meth c s₁ B hml hv
  obtain ⟨hargs, hP, hK, hE⟩ := hv
  have hx := B.exec
  have hb := B.bytes
  have hr := B.returns
  have hlk := B.notSynchronized
  have hB : CallFix p m c cX7_mourner 5 s args TB RX7 := ⟨hx, hb, hml, findClass_of_methodNamed B.named, fun q h => (atoms_spec (ws := Cond.code yX7_mourner cX7_mourner 5 ((Option.some Jvm.ClassFile.FieldType.int)) :: TB) B.pre) q (List.mem_cons_of_mem _ h)⟩
  have hS : va_S (xw_A G) s.heap s.heap [] := va_S.rf
  have hl := lv_entry [.ref (xw_ad G 0), .int a1, .int a2, .int a3, .int a4] (n := 5) (Nat.le_of_ble_eq_true rfl)
  rw [show entryFrame m args 5 = entryFrame m ([.ref (xw_ad G 0), .int a1, .int a2, .int a3, .int a4] : List Value).toArray 5 from by rw [hargs], lg_entry_eq]
  generalize (lg_sl [.ref (xw_ad G 0), .int a1, .int a2, .int a3, .int a4] ++ List.replicate (5 - (lg_sl [.ref (xw_ad G 0), .int a1, .int a2, .int a3, .int a4]).length) Slot.unset).toArray = ls at hl ⊢
  have hP : va_P (xw_D G) xw_cl (xw_W G w0) s.heap := hP
  have hl : lv_has ls 5 [(0, .ref (xw_ad G 0)), (1, .int a1), (2, .int a2), (3, .int a3), (4, .int a4)] := hl
  have HH : ∀ (H : Heap) (locs : List Loc) (hP : va_P (xw_D G) xw_cl (xw_W G w0) H) (hS : va_S (xw_A G) s.heap H locs), xw_Wi G p l e (xw_rm (2) (47)) s m args below meth c H locs r0 wz (F0 m 0 ls []) := by
    intro H locs hP hS
    unfold fX7_mourner at hf
    refine lv_iload_n hx hb dX7_mourner_0 rfl (lv_at hl 1 rfl) ?_
    refine lv_bipush (v := 6) hx hb dX7_mourner_1 (by decide) ?_
    replace hf := xw_bp_e hf
    obtain ⟨r1, he2, hf⟩ := hf
    refine xw_Si hB hK hE hS hP (As := [.int a1, .int (6 : Int32)]) (rest := []) (kX7_within l G hG a1 (6 : Int32) w0 _ he2) tw_293 tw_295 tw_294 tw_1 2 hs_X7_within ⟨Nat.le_of_ble_eq_true rfl, Nat.le_of_ble_eq_true rfl⟩ rfl hl.1 (Nat.le_of_ble_eq_true rfl) rfl dX7_mourner_3 ⟨Nat.zero_le _, Nat.zero_le _⟩ (fun H locs hP hS => ?_)
    refine lv_if_eq (tgt := 19) hx hb dX7_mourner_6 (by decide) (fun c3 => ?_) (fun c3 => ?_)
    · replace hf := xw_ip c3 hf
      refine lv_iconst (v := (-1)) hx hb dX7_mourner_19 (by decide) ?_
      obtain ⟨h0, h1⟩ := xw_s2 hf
      exact xw_iret hB hK hE hS hP hr hlk h0 h1 dX7_mourner_20
    · replace hf := xw_in' c3 hf
      refine lv_iload hx hb dX7_mourner_9 (lv_at hl 4 rfl) ?_
      refine lv_bipush (v := 9) hx hb dX7_mourner_11 (by decide) ?_
      replace hf := xw_bp_e hf
      obtain ⟨r4, he5, hf⟩ := hf
      refine xw_Si hB hK hE hS hP (As := [.int a4, .int (9 : Int32)]) (rest := []) (kX7_within l G hG a4 (9 : Int32) w0 _ he5) tw_293 tw_295 tw_294 tw_1 2 hs_X7_within ⟨Nat.le_of_ble_eq_true rfl, Nat.le_of_ble_eq_true rfl⟩ rfl hl.1 (Nat.le_of_ble_eq_true rfl) rfl dX7_mourner_13 ⟨Nat.zero_le _, Nat.zero_le _⟩ (fun H locs hP hS => ?_)
      refine lv_if_ne (tgt := 21) hx hb dX7_mourner_16 (by decide) (fun c6 => ?_) (fun c6 => ?_)
      · replace hf := xw_in' c6 hf
        refine lv_iload_n hx hb dX7_mourner_21 rfl (lv_at hl 2 rfl) ?_
        refine lv_bipush (v := 9) hx hb dX7_mourner_22 (by decide) ?_
        replace hf := xw_bp_e hf
        obtain ⟨r7, he8, hf⟩ := hf
        refine xw_Si hB hK hE hS hP (As := [.int a2, .int (9 : Int32)]) (rest := []) (kX7_within l G hG a2 (9 : Int32) w0 _ he8) tw_293 tw_295 tw_294 tw_1 2 hs_X7_within ⟨Nat.le_of_ble_eq_true rfl, Nat.le_of_ble_eq_true rfl⟩ rfl hl.1 (Nat.le_of_ble_eq_true rfl) rfl dX7_mourner_24 ⟨Nat.zero_le _, Nat.zero_le _⟩ (fun H locs hP hS => ?_)
        refine lv_if_eq (tgt := 39) hx hb dX7_mourner_27 (by decide) (fun c9 => ?_) (fun c9 => ?_)
        · replace hf := xw_ip c9 hf
          refine lv_bipush (v := (-2)) hx hb dX7_mourner_39 (by decide) ?_
          obtain ⟨h0, h1⟩ := xw_s2 hf
          exact xw_iret hB hK hE hS hP hr hlk h0 h1 dX7_mourner_41
        · replace hf := xw_in' c9 hf
          refine lv_iload_n hx hb dX7_mourner_30 rfl (lv_at hl 3 rfl) ?_
          refine lv_bipush (v := 20) hx hb dX7_mourner_31 (by decide) ?_
          replace hf := xw_bp_e hf
          obtain ⟨r10, he11, hf⟩ := hf
          refine xw_Si hB hK hE hS hP (As := [.int a3, .int (20 : Int32)]) (rest := []) (kX7_within l G hG a3 (20 : Int32) w0 _ he11) tw_293 tw_295 tw_294 tw_1 2 hs_X7_within ⟨Nat.le_of_ble_eq_true rfl, Nat.le_of_ble_eq_true rfl⟩ rfl hl.1 (Nat.le_of_ble_eq_true rfl) rfl dX7_mourner_33 ⟨Nat.zero_le _, Nat.zero_le _⟩ (fun H locs hP hS => ?_)
          refine lv_if_ne (tgt := 42) hx hb dX7_mourner_36 (by decide) (fun c12 => ?_) (fun c12 => ?_)
          · replace hf := xw_in' c12 hf
            refine lv_aload_n hx hb dX7_mourner_42 rfl (lv_at hl 0 rfl) ?_
            refine xw_get hB hK hP (xw_o7 G) (C := RX7) (T := TX7) (N := 11) rfl TBi_X7 0 (by decide) tw_255 rfl rfl dX7_mourner_43 ?_
            refine xw_get hB hK hP (xw_o5 G (Or.inl rfl)) (C := RX5) (T := TX5) (N := 14) rfl TBi_X5 0 (by decide) tw_62 rfl rfl dX7_mourner_46 ?_
            refine lv_bipush (v := 6) hx hb dX7_mourner_49 (by decide) ?_
            refine lv_icmp_lt (tgt := 59) hx hb dX7_mourner_51 (by decide) (fun c13 => ?_) (fun c13 => ?_)
            · replace hf := xw_ip c13 hf
              refine lv_aload_n hx hb dX7_mourner_59 rfl (lv_at hl 0 rfl) ?_
              refine xw_get hB hK hP (xw_o7 G) (C := RX7) (T := TX7) (N := 11) rfl TBi_X7 0 (by decide) tw_255 rfl rfl dX7_mourner_60 ?_
              refine lv_iload_n hx hb dX7_mourner_63 rfl (lv_at hl 1 rfl) ?_
              refine lv_iload_n hx hb dX7_mourner_64 rfl (lv_at hl 2 rfl) ?_
              refine lv_iload_n hx hb dX7_mourner_65 rfl (lv_at hl 3 rfl) ?_
              refine lv_iload hx hb dX7_mourner_66 (lv_at hl 4 rfl) ?_
              replace hf := xw_b_e hf
              obtain ⟨r14, w15, he16, hf⟩ := hf
              refine xw_Vi hB hK hE hS hP (As := [.int a1, .int a2, .int a3, .int a4]) (rest := []) (kX5_add l G hG 1 a1 a2 a3 a4 (Or.inl rfl) w0 _ _ he16) gs_X7_73 (xw_rc hK hP (C := RX5) (T := TX5) (N := 14) (xw_o5 G (Or.inl rfl)) rfl) 4 hv_X5_add ⟨Nat.le_of_ble_eq_true rfl, Nat.le_of_ble_eq_true rfl⟩ rfl hl.1 (Nat.le_of_ble_eq_true rfl) rfl dX7_mourner_68 ⟨Nat.zero_le _, Nat.zero_le _⟩ (fun H locs hP hS => ?_)
              obtain ⟨h0, h1⟩ := xw_s2 hf
              exact xw_iret hB hK hE hS hP hr hlk h0 h1 dX7_mourner_71
            · replace hf := xw_in' c13 hf
              refine lv_bipush (v := (-4)) hx hb dX7_mourner_54 (by decide) ?_
              refine lv_goto (tgt := 71) hx hb dX7_mourner_56 (by decide) ?_
              obtain ⟨h0, h1⟩ := xw_s2 hf
              exact xw_iret hB hK hE hS hP hr hlk h0 h1 dX7_mourner_71
          · replace hf := xw_ip c12 hf
            refine lv_bipush (v := (-2)) hx hb dX7_mourner_39 (by decide) ?_
            obtain ⟨h0, h1⟩ := xw_s2 hf
            exact xw_iret hB hK hE hS hP hr hlk h0 h1 dX7_mourner_41
      · replace hf := xw_ip c6 hf
        refine lv_iconst (v := (-1)) hx hb dX7_mourner_19 (by decide) ?_
        obtain ⟨h0, h1⟩ := xw_s2 hf
        exact xw_iret hB hK hE hS hP hr hlk h0 h1 dX7_mourner_20
  exact HH s.heap [] hP hS
def fX5_has (b : Nat) (a1 : Int32) (w0 : xw_M) : Option Int32 := if a1 < 0 then some (0 : Int32) else if (w0.1 b 0) ≤ a1 then some (0 : Int32) else some (1 : Int32)
set_option maxHeartbeats 4000000 in
set_option maxRecDepth 100000 in
theorem kX5_has (l : Launch) (G : xw_G) (hG : xw_ok G) (b : Nat) (a1 : Int32) (hb0 : xw_sc b) (w0 : xw_M) (r0 : Int32) (hf : fX5_has b a1 w0 = some r0) : xw_Ti l G yX5_has cX5_has 2 ((Option.some Jvm.ClassFile.FieldType.boolean)) (0) (0) [.ref (xw_ad G b), .int a1] w0 r0 w0 := by
  unfold xw_Ti
  refine Met.ofW (cc := cX5_has) (maxL := 2) (ret := (Option.some Jvm.ClassFile.FieldType.boolean)) (by decide) rfl ?_
  intro p e s m args below meth c s₁ B hml hv
  obtain ⟨hargs, hP, hK, hE⟩ := hv
  have hx := B.exec
  have hb := B.bytes
  have hr := B.returns
  have hlk := B.notSynchronized
  have hB : CallFix p m c cX5_has 2 s args TB RX5 := ⟨hx, hb, hml, findClass_of_methodNamed B.named, fun q h => (atoms_spec (ws := Cond.code yX5_has cX5_has 2 ((Option.some Jvm.ClassFile.FieldType.boolean)) :: TB) B.pre) q (List.mem_cons_of_mem _ h)⟩
  have hS : va_S (xw_A G) s.heap s.heap [] := va_S.rf
  have hl := lv_entry [.ref (xw_ad G b), .int a1] (n := 2) (Nat.le_of_ble_eq_true rfl)
  rw [show entryFrame m args 2 = entryFrame m ([.ref (xw_ad G b), .int a1] : List Value).toArray 2 from by rw [hargs], lg_entry_eq]
  generalize (lg_sl [.ref (xw_ad G b), .int a1] ++ List.replicate (2 - (lg_sl [.ref (xw_ad G b), .int a1]).length) Slot.unset).toArray = ls at hl ⊢
  have hP : va_P (xw_D G) xw_cl (xw_W G w0) s.heap := hP
  have hl : lv_has ls 2 [(0, .ref (xw_ad G b)), (1, .int a1)] := hl
  have HH : ∀ (H : Heap) (locs : List Loc) (hP : va_P (xw_D G) xw_cl (xw_W G w0) H) (hS : va_S (xw_A G) s.heap H locs), xw_Wi G p l e (xw_rm (0) (0)) s m args below meth c H locs r0 w0 (F0 m 0 ls []) := by
    intro H locs hP hS
    unfold fX5_has at hf
    refine lv_iload_n hx hb dX5_has_0 rfl (lv_at hl 1 rfl) ?_
    refine lv_if_lt (tgt := 16) hx hb dX5_has_1 (by decide) (fun c1 => ?_) (fun c1 => ?_)
    · replace hf := xw_ip c1 hf
      refine lv_iconst (v := 0) hx hb dX5_has_16 (by decide) ?_
      have h0 := xw_so hf
      have h1 : w0 = w0 := rfl
      exact xw_zret hB hK hE hS hP hr hlk rfl h0 h1 dX5_has_17
    · replace hf := xw_in' c1 hf
      refine lv_iload_n hx hb dX5_has_4 rfl (lv_at hl 1 rfl) ?_
      refine lv_aload_n hx hb dX5_has_5 rfl (lv_at hl 0 rfl) ?_
      refine xw_get hB hK hP (xw_o5 G hb0) (C := RX5) (T := TX5) (N := 14) rfl TBi_X5 0 (by decide) tw_60 rfl rfl dX5_has_6 ?_
      refine lv_icmp_ge (tgt := 16) hx hb dX5_has_9 (by decide) (fun c2 => ?_) (fun c2 => ?_)
      · replace hf := xw_ip c2 hf
        refine lv_iconst (v := 0) hx hb dX5_has_16 (by decide) ?_
        have h0 := xw_so hf
        have h1 : w0 = w0 := rfl
        exact xw_zret hB hK hE hS hP hr hlk rfl h0 h1 dX5_has_17
      · replace hf := xw_in' c2 hf
        refine lv_iconst (v := 1) hx hb dX5_has_12 (by decide) ?_
        refine lv_goto (tgt := 17) hx hb dX5_has_13 (by decide) ?_
        have h0 := xw_so hf
        have h1 : w0 = w0 := rfl
        exact xw_zret hB hK hE hS hP hr hlk rfl h0 h1 dX5_has_17
  exact HH s.heap [] hP hS
def fX7_at (a0 : Nat) (n0 : Nat) (a1 : Int32) (w0 : xw_M) : Option Int32 := if a1 < 0 then some (0 : Int32) else if (nI n0) ≤ a1 then some (0 : Int32) else xw_ck a1 n0 (some (w0.1 a0 a1.toNatClampNeg))
set_option maxHeartbeats 4000000 in
set_option maxRecDepth 100000 in
theorem kX7_at (l : Launch) (G : xw_G) (hG : xw_ok G) (a0 : Nat) (n0 : Nat) (a1 : Int32) (ha0 : xw_ia G 0 a0 n0) (w0 : xw_M) (r0 : Int32) (hf : fX7_at a0 n0 a1 w0 = some r0) : xw_Ti l G yX7_at cX7_at 2 ((Option.some Jvm.ClassFile.FieldType.int)) (0) (0) [.ref (xw_ad G a0), .int a1] w0 r0 w0 := by
  unfold xw_Ti
  refine Met.ofW (cc := cX7_at) (maxL := 2) (ret := (Option.some Jvm.ClassFile.FieldType.int)) (by decide) rfl ?_
  intro p e s m args below meth c s₁ B hml hv
  obtain ⟨hargs, hP, hK, hE⟩ := hv
  have hx := B.exec
  have hb := B.bytes
  have hr := B.returns
  have hlk := B.notSynchronized
  have hB : CallFix p m c cX7_at 2 s args TB RX7 := ⟨hx, hb, hml, findClass_of_methodNamed B.named, fun q h => (atoms_spec (ws := Cond.code yX7_at cX7_at 2 ((Option.some Jvm.ClassFile.FieldType.int)) :: TB) B.pre) q (List.mem_cons_of_mem _ h)⟩
  have hS : va_S (xw_A G) s.heap s.heap [] := va_S.rf
  have hl := lv_entry [.ref (xw_ad G a0), .int a1] (n := 2) (Nat.le_of_ble_eq_true rfl)
  rw [show entryFrame m args 2 = entryFrame m ([.ref (xw_ad G a0), .int a1] : List Value).toArray 2 from by rw [hargs], lg_entry_eq]
  generalize (lg_sl [.ref (xw_ad G a0), .int a1] ++ List.replicate (2 - (lg_sl [.ref (xw_ad G a0), .int a1]).length) Slot.unset).toArray = ls at hl ⊢
  have hP : va_P (xw_D G) xw_cl (xw_W G w0) s.heap := hP
  have hl : lv_has ls 2 [(0, .ref (xw_ad G a0)), (1, .int a1)] := hl
  have HH : ∀ (H : Heap) (locs : List Loc) (hP : va_P (xw_D G) xw_cl (xw_W G w0) H) (hS : va_S (xw_A G) s.heap H locs), xw_Wi G p l e (xw_rm (0) (0)) s m args below meth c H locs r0 w0 (F0 m 0 ls []) := by
    intro H locs hP hS
    unfold fX7_at at hf
    refine lv_iload_n hx hb dX7_at_0 rfl (lv_at hl 1 rfl) ?_
    refine lv_if_lt (tgt := 16) hx hb dX7_at_1 (by decide) (fun c1 => ?_) (fun c1 => ?_)
    · replace hf := xw_ip c1 hf
      refine lv_iconst (v := 0) hx hb dX7_at_16 (by decide) ?_
      have h0 := xw_so hf
      have h1 : w0 = w0 := rfl
      exact xw_iret hB hK hE hS hP hr hlk h0 h1 dX7_at_17
    · replace hf := xw_in' c1 hf
      refine lv_iload_n hx hb dX7_at_4 rfl (lv_at hl 1 rfl) ?_
      refine lv_aload_n hx hb dX7_at_5 rfl (lv_at hl 0 rfl) ?_
      refine xw_ilen hB hK hP ha0 rfl dX7_at_6 ?_
      refine lv_icmp_ge (tgt := 16) hx hb dX7_at_7 (by decide) (fun c2 => ?_) (fun c2 => ?_)
      · replace hf := xw_ip c2 hf
        refine lv_iconst (v := 0) hx hb dX7_at_16 (by decide) ?_
        have h0 := xw_so hf
        have h1 : w0 = w0 := rfl
        exact xw_iret hB hK hE hS hP hr hlk h0 h1 dX7_at_17
      · replace hf := xw_in' c2 hf
        refine lv_aload_n hx hb dX7_at_10 rfl (lv_at hl 0 rfl) ?_
        refine lv_iload_n hx hb dX7_at_11 rfl (lv_at hl 1 rfl) ?_
        replace hf := xw_ck_e hf
        obtain ⟨hi3, hf⟩ := hf
        refine xw_ild hB hK hP ha0 hi3 dX7_at_12 ?_
        refine lv_goto (tgt := 17) hx hb dX7_at_13 (by decide) ?_
        have h0 := xw_so hf
        have h1 : w0 = w0 := rfl
        exact xw_iret hB hK hE hS hP hr hlk h0 h1 dX7_at_17
  exact HH s.heap [] hP hS
def fX5_isAway (b : Nat) (a1 : Int32) (w0 : xw_M) : Option Int32 := if (((w0.1 b 7) >>> (a1 &&& 31)) &&& (1 : Int32)) = 0 then some (0 : Int32) else some (1 : Int32)
set_option maxHeartbeats 4000000 in
set_option maxRecDepth 100000 in
theorem kX5_isAway (l : Launch) (G : xw_G) (hG : xw_ok G) (b : Nat) (a1 : Int32) (hb0 : xw_sc b) (w0 : xw_M) (r0 : Int32) (hf : fX5_isAway b a1 w0 = some r0) : xw_Ti l G yX5_isAway cX5_isAway 2 ((Option.some Jvm.ClassFile.FieldType.boolean)) (0) (0) [.ref (xw_ad G b), .int a1] w0 r0 w0 := by
  unfold xw_Ti
  refine Met.ofW (cc := cX5_isAway) (maxL := 2) (ret := (Option.some Jvm.ClassFile.FieldType.boolean)) (by decide) rfl ?_
  intro p e s m args below meth c s₁ B hml hv
  obtain ⟨hargs, hP, hK, hE⟩ := hv
  have hx := B.exec
  have hb := B.bytes
  have hr := B.returns
  have hlk := B.notSynchronized
  have hB : CallFix p m c cX5_isAway 2 s args TB RX5 := ⟨hx, hb, hml, findClass_of_methodNamed B.named, fun q h => (atoms_spec (ws := Cond.code yX5_isAway cX5_isAway 2 ((Option.some Jvm.ClassFile.FieldType.boolean)) :: TB) B.pre) q (List.mem_cons_of_mem _ h)⟩
  have hS : va_S (xw_A G) s.heap s.heap [] := va_S.rf
  have hl := lv_entry [.ref (xw_ad G b), .int a1] (n := 2) (Nat.le_of_ble_eq_true rfl)
  rw [show entryFrame m args 2 = entryFrame m ([.ref (xw_ad G b), .int a1] : List Value).toArray 2 from by rw [hargs], lg_entry_eq]
  generalize (lg_sl [.ref (xw_ad G b), .int a1] ++ List.replicate (2 - (lg_sl [.ref (xw_ad G b), .int a1]).length) Slot.unset).toArray = ls at hl ⊢
  have hP : va_P (xw_D G) xw_cl (xw_W G w0) s.heap := hP
  have hl : lv_has ls 2 [(0, .ref (xw_ad G b)), (1, .int a1)] := hl
  have HH : ∀ (H : Heap) (locs : List Loc) (hP : va_P (xw_D G) xw_cl (xw_W G w0) H) (hS : va_S (xw_A G) s.heap H locs), xw_Wi G p l e (xw_rm (0) (0)) s m args below meth c H locs r0 w0 (F0 m 0 ls []) := by
    intro H locs hP hS
    unfold fX5_isAway at hf
    refine lv_aload_n hx hb dX5_isAway_0 rfl (lv_at hl 0 rfl) ?_
    refine xw_get hB hK hP (xw_o5 G hb0) (C := RX5) (T := TX5) (N := 14) rfl TBi_X5 7 (by decide) tw_83 rfl rfl dX5_isAway_1 ?_
    refine lv_iload_n hx hb dX5_isAway_4 rfl (lv_at hl 1 rfl) ?_
    refine lv_ishr hx hb dX5_isAway_5 ?_
    refine lv_iconst (v := 1) hx hb dX5_isAway_6 (by decide) ?_
    refine lv_iand hx hb dX5_isAway_7 ?_
    refine lv_if_eq (tgt := 15) hx hb dX5_isAway_8 (by decide) (fun c1 => ?_) (fun c1 => ?_)
    · replace hf := xw_ip c1 hf
      refine lv_iconst (v := 0) hx hb dX5_isAway_15 (by decide) ?_
      have h0 := xw_so hf
      have h1 : w0 = w0 := rfl
      exact xw_zret hB hK hE hS hP hr hlk rfl h0 h1 dX5_isAway_16
    · replace hf := xw_in' c1 hf
      refine lv_iconst (v := 1) hx hb dX5_isAway_11 (by decide) ?_
      refine lv_goto (tgt := 16) hx hb dX5_isAway_12 (by decide) ?_
      have h0 := xw_so hf
      have h1 : w0 = w0 := rfl
      exact xw_zret hB hK hE hS hP hr hlk rfl h0 h1 dX5_isAway_16
  exact HH s.heap [] hP hS
def fX7_parishAt (a1 : Int32) (w0 : xw_M) : Option (Option Nat) := if a1 < 0 then some none else if (nI 6) ≤ a1 then some none else xw_ck a1 6 (xw_cc (xw_pa (71 + 6 * a1.toNatClampNeg)) (some (some (71 + 6 * a1.toNatClampNeg))))
set_option maxHeartbeats 4000000 in
set_option maxRecDepth 100000 in
theorem kX7_parishAt (l : Launch) (G : xw_G) (hG : xw_ok G) (a1 : Int32) (w0 : xw_M) (r0 : Option Nat) (hf : fX7_parishAt a1 w0 = some r0) : xw_Tq l G yX7_parishAt cX7_parishAt 2 ((Option.some (Jvm.ClassFile.FieldType.object "FuneralDebts$Parish"))) (0) (0) [.ref (xw_ad G 0), .int a1] w0 r0 w0 := by
  unfold xw_Tq
  refine Met.ofW (cc := cX7_parishAt) (maxL := 2) (ret := (Option.some (Jvm.ClassFile.FieldType.object "FuneralDebts$Parish"))) (by decide) rfl ?_
  intro p e s m args below meth c s₁ B hml hv
  obtain ⟨hargs, hP, hK, hE⟩ := hv
  have hx := B.exec
  have hb := B.bytes
  have hr := B.returns
  have hlk := B.notSynchronized
  have hB : CallFix p m c cX7_parishAt 2 s args TB RX7 := ⟨hx, hb, hml, findClass_of_methodNamed B.named, fun q h => (atoms_spec (ws := Cond.code yX7_parishAt cX7_parishAt 2 ((Option.some (Jvm.ClassFile.FieldType.object "FuneralDebts$Parish"))) :: TB) B.pre) q (List.mem_cons_of_mem _ h)⟩
  have hS : va_S (xw_A G) s.heap s.heap [] := va_S.rf
  have hl := lv_entry [.ref (xw_ad G 0), .int a1] (n := 2) (Nat.le_of_ble_eq_true rfl)
  rw [show entryFrame m args 2 = entryFrame m ([.ref (xw_ad G 0), .int a1] : List Value).toArray 2 from by rw [hargs], lg_entry_eq]
  generalize (lg_sl [.ref (xw_ad G 0), .int a1] ++ List.replicate (2 - (lg_sl [.ref (xw_ad G 0), .int a1]).length) Slot.unset).toArray = ls at hl ⊢
  have hP : va_P (xw_D G) xw_cl (xw_W G w0) s.heap := hP
  have hl : lv_has ls 2 [(0, .ref (xw_ad G 0)), (1, .int a1)] := hl
  have HH : ∀ (H : Heap) (locs : List Loc) (hP : va_P (xw_D G) xw_cl (xw_W G w0) H) (hS : va_S (xw_A G) s.heap H locs), xw_Wq G p l e (xw_rm (0) (0)) s m args below meth c H locs r0 w0 (F0 m 0 ls []) := by
    intro H locs hP hS
    unfold fX7_parishAt at hf
    refine lv_iload_n hx hb dX7_parishAt_0 rfl (lv_at hl 1 rfl) ?_
    refine lv_if_lt (tgt := 22) hx hb dX7_parishAt_1 (by decide) (fun c1 => ?_) (fun c1 => ?_)
    · replace hf := xw_ip c1 hf
      refine lv_null hx hb dX7_parishAt_22 ?_
      have h0 := xw_so hf
      have h1 : w0 = w0 := rfl
      exact xw_aret (v := none) (C := "FuneralDebts$Parish") hB hK hE hS hP hr hlk h0 h1 dX7_parishAt_23
    · replace hf := xw_in' c1 hf
      refine lv_iload_n hx hb dX7_parishAt_4 rfl (lv_at hl 1 rfl) ?_
      refine lv_aload_n hx hb dX7_parishAt_5 rfl (lv_at hl 0 rfl) ?_
      refine xw_get hB hK hP (xw_o7 G) (C := RX7) (T := TX7) (N := 11) rfl TBi_X7 5 (by decide) tw_260 rfl rfl dX7_parishAt_6 ?_
      refine xw_rlen hB hK hP (xw_k57 G) rfl dX7_parishAt_9 ?_
      refine lv_icmp_ge (tgt := 22) hx hb dX7_parishAt_10 (by decide) (fun c2 => ?_) (fun c2 => ?_)
      · replace hf := xw_ip c2 hf
        refine lv_null hx hb dX7_parishAt_22 ?_
        have h0 := xw_so hf
        have h1 : w0 = w0 := rfl
        exact xw_aret (v := none) (C := "FuneralDebts$Parish") hB hK hE hS hP hr hlk h0 h1 dX7_parishAt_23
      · replace hf := xw_in' c2 hf
        refine lv_aload_n hx hb dX7_parishAt_13 rfl (lv_at hl 0 rfl) ?_
        refine xw_get hB hK hP (xw_o7 G) (C := RX7) (T := TX7) (N := 11) rfl TBi_X7 5 (by decide) tw_260 rfl rfl dX7_parishAt_14 ?_
        refine lv_iload_n hx hb dX7_parishAt_17 rfl (lv_at hl 1 rfl) ?_
        replace hf := xw_ck_e hf
        obtain ⟨hi3, hf⟩ := hf
        refine xw_rldP hB hK hP hi3 dX7_parishAt_18 ?_
        replace hf := xw_cc_e hf
        obtain ⟨hp4, hf⟩ := hf
        refine lv_goto (tgt := 23) hx hb dX7_parishAt_19 (by decide) ?_
        have h0 := xw_so hf
        have h1 : w0 = w0 := rfl
        exact xw_aret (v := (some (71 + 6 * a1.toNatClampNeg))) (C := "FuneralDebts$Parish") hB hK hE hS hP hr hlk h0 h1 dX7_parishAt_23
  exact HH s.heap [] hP hS
def fX7_held (w0 : xw_M) : Option (Option Nat) := xw_bp (fX7_parishAt (w0.1 1 10) w0) (fun r1 => xw_om r1 (some (some 58)) (fun t3 => xw_cc (xw_pa t3) (some (some t3))))
set_option maxHeartbeats 4000000 in
set_option maxRecDepth 100000 in
theorem kX7_held (l : Launch) (G : xw_G) (hG : xw_ok G) (w0 : xw_M) (r0 : Option Nat) (hf : fX7_held w0 = some r0) : xw_Tq l G yX7_held cX7_held 2 ((Option.some (Jvm.ClassFile.FieldType.object "FuneralDebts$Parish"))) (1) (21) [.ref (xw_ad G 0)] w0 r0 w0 := by
  unfold xw_Tq
  refine Met.ofW (cc := cX7_held) (maxL := 2) (ret := (Option.some (Jvm.ClassFile.FieldType.object "FuneralDebts$Parish"))) (by decide) rfl ?_
  intro p e s m args below meth c s₁ B hml hv
  obtain ⟨hargs, hP, hK, hE⟩ := hv
  have hx := B.exec
  have hb := B.bytes
  have hr := B.returns
  have hlk := B.notSynchronized
  have hB : CallFix p m c cX7_held 2 s args TB RX7 := ⟨hx, hb, hml, findClass_of_methodNamed B.named, fun q h => (atoms_spec (ws := Cond.code yX7_held cX7_held 2 ((Option.some (Jvm.ClassFile.FieldType.object "FuneralDebts$Parish"))) :: TB) B.pre) q (List.mem_cons_of_mem _ h)⟩
  have hS : va_S (xw_A G) s.heap s.heap [] := va_S.rf
  have hl := lv_entry [.ref (xw_ad G 0)] (n := 2) (Nat.le_of_ble_eq_true rfl)
  rw [show entryFrame m args 2 = entryFrame m ([.ref (xw_ad G 0)] : List Value).toArray 2 from by rw [hargs], lg_entry_eq]
  generalize (lg_sl [.ref (xw_ad G 0)] ++ List.replicate (2 - (lg_sl [.ref (xw_ad G 0)]).length) Slot.unset).toArray = ls at hl ⊢
  have hP : va_P (xw_D G) xw_cl (xw_W G w0) s.heap := hP
  have hl : lv_has ls 2 [(0, .ref (xw_ad G 0))] := hl
  have HH : ∀ (H : Heap) (locs : List Loc) (hP : va_P (xw_D G) xw_cl (xw_W G w0) H) (hS : va_S (xw_A G) s.heap H locs), xw_Wq G p l e (xw_rm (1) (21)) s m args below meth c H locs r0 w0 (F0 m 0 ls []) := by
    intro H locs hP hS
    unfold fX7_held at hf
    refine lv_aload_n hx hb dX7_held_0 rfl (lv_at hl 0 rfl) ?_
    refine lv_aload_n hx hb dX7_held_1 rfl (lv_at hl 0 rfl) ?_
    refine xw_get hB hK hP (xw_o7 G) (C := RX7) (T := TX7) (N := 11) rfl TBi_X7 0 (by decide) tw_255 rfl rfl dX7_held_2 ?_
    refine xw_get hB hK hP (xw_o5 G (Or.inl rfl)) (C := RX5) (T := TX5) (N := 14) rfl TBi_X5 10 (by decide) tw_93 rfl rfl dX7_held_5 ?_
    replace hf := xw_bp_e hf
    obtain ⟨r1, he2, hf⟩ := hf
    refine xw_Vq hB hK hE hS hP (As := [.int (w0.1 1 10)]) (rest := []) (kX7_parishAt l G hG (w0.1 1 10) w0 _ he2) gs_X7_155 (xw_rc hK hP (C := RX7) (T := TX7) (N := 11) (xw_o7 G) rfl) 1 hv_X7_parishAt ⟨Nat.le_of_ble_eq_true rfl, Nat.le_of_ble_eq_true rfl⟩ rfl hl.1 (Nat.le_of_ble_eq_true rfl) rfl dX7_held_8 ⟨Nat.zero_le _, Nat.zero_le _⟩ (fun H locs hP hS => ?_)
    cases r1 with
    | none =>
      replace hf := xw_om_n hf
      refine lv_astore_nN (lv' := [(1, .null), (0, .ref (xw_ad G 0))]) hx hb dX7_held_11 rfl hl (by decide) rfl (fun ls hl => ?_)
      refine lv_aload_nN hx hb dX7_held_12 rfl (lv_at hl 0 rfl) ?_
      refine lv_ifnonnullN hx hb dX7_held_13 ?_
      refine lv_aload_n hx hb dX7_held_16 rfl (lv_at hl 1 rfl) ?_
      refine xw_get hB hK hP (xw_o7 G) (C := RX7) (T := TX7) (N := 11) rfl TBi_X7 7 (by decide) tw_262 rfl rfl dX7_held_17 ?_
      refine lv_goto (tgt := 24) hx hb dX7_held_20 (by decide) ?_
      have h0 := xw_so hf
      have h1 : w0 = w0 := rfl
      exact xw_aret (v := (some 58)) (C := "FuneralDebts$Parish") hB hK hE hS hP hr hlk h0 h1 dX7_held_24
    | some t3 =>
      replace hf := xw_om_s hf
      replace hf := xw_cc_e hf
      obtain ⟨ht4, hf⟩ := hf
      refine lv_astore_n (lv' := [(1, .ref (xw_ad G t3)), (0, .ref (xw_ad G 0))]) hx hb dX7_held_11 rfl hl (by decide) rfl (fun ls hl => ?_)
      refine lv_aload_n hx hb dX7_held_12 rfl (lv_at hl 0 rfl) ?_
      refine lv_ifnonnull (tgt := 23) hx hb dX7_held_13 (by decide) ?_
      refine lv_aload_n hx hb dX7_held_23 rfl (lv_at hl 0 rfl) ?_
      have h0 := xw_so hf
      have h1 : w0 = w0 := rfl
      exact xw_aret (v := (some t3)) (C := "FuneralDebts$Parish") hB hK hE hS hP hr hlk h0 h1 dX7_held_24
  exact HH s.heap [] hP hS
def fX2_passes (a0 : Int32) (a1 : Int32) (a2 : Int32) : Option Int32 := if a1 = 60 then if a2 ≤ a0 then some (0 : Int32) else some (1 : Int32) else (if a1 = 62 then if a0 ≤ a2 then some (0 : Int32) else some (1 : Int32) else (if a0 = a2 then some (1 : Int32) else some (0 : Int32)))
set_option maxHeartbeats 4000000 in
set_option maxRecDepth 100000 in
theorem kX2_passes (l : Launch) (G : xw_G) (hG : xw_ok G) (a0 : Int32) (a1 : Int32) (a2 : Int32) (w0 : xw_M) (r0 : Int32) (hf : fX2_passes a0 a1 a2 = some r0) : xw_Ti l G yX2_passes cX2_passes 3 ((Option.some Jvm.ClassFile.FieldType.boolean)) (0) (0) [.int a0, .int a1, .int a2] w0 r0 w0 := by
  unfold xw_Ti
  refine Met.ofW (cc := cX2_passes) (maxL := 3) (ret := (Option.some Jvm.ClassFile.FieldType.boolean)) (by decide) rfl ?_
  intro p e s m args below meth c s₁ B hml hv
  obtain ⟨hargs, hP, hK, hE⟩ := hv
  have hx := B.exec
  have hb := B.bytes
  have hr := B.returns
  have hlk := B.notSynchronized
  have hB : CallFix p m c cX2_passes 3 s args TB RX2 := ⟨hx, hb, hml, findClass_of_methodNamed B.named, fun q h => (atoms_spec (ws := Cond.code yX2_passes cX2_passes 3 ((Option.some Jvm.ClassFile.FieldType.boolean)) :: TB) B.pre) q (List.mem_cons_of_mem _ h)⟩
  have hS : va_S (xw_A G) s.heap s.heap [] := va_S.rf
  have hl := lv_entry [.int a0, .int a1, .int a2] (n := 3) (Nat.le_of_ble_eq_true rfl)
  rw [show entryFrame m args 3 = entryFrame m ([.int a0, .int a1, .int a2] : List Value).toArray 3 from by rw [hargs], lg_entry_eq]
  generalize (lg_sl [.int a0, .int a1, .int a2] ++ List.replicate (3 - (lg_sl [.int a0, .int a1, .int a2]).length) Slot.unset).toArray = ls at hl ⊢
  have hP : va_P (xw_D G) xw_cl (xw_W G w0) s.heap := hP
  have hl : lv_has ls 3 [(0, .int a0), (1, .int a1), (2, .int a2)] := hl
  have HH : ∀ (H : Heap) (locs : List Loc) (hP : va_P (xw_D G) xw_cl (xw_W G w0) H) (hS : va_S (xw_A G) s.heap H locs), xw_Wi G p l e (xw_rm (0) (0)) s m args below meth c H locs r0 w0 (F0 m 0 ls []) := by
    intro H locs hP hS
    unfold fX2_passes at hf
    refine lv_iload_n hx hb dX2_passes_0 rfl (lv_at hl 1 rfl) ?_
    by_cases c2 : a1 = 60
    · refine lv_lookup (off := 27) (tgt := 28) hx hb dX2_passes_1 (by decide) (by rw [c2]; rfl) (by decide) ?_
      replace hf := xw_ip c2 hf
      refine lv_iload_n hx hb dX2_passes_28 rfl (lv_at hl 0 rfl) ?_
      refine lv_iload_n hx hb dX2_passes_29 rfl (lv_at hl 2 rfl) ?_
      refine lv_icmp_ge (tgt := 37) hx hb dX2_passes_30 (by decide) (fun c1 => ?_) (fun c1 => ?_)
      · replace hf := xw_ip c1 hf
        refine lv_iconst (v := 0) hx hb dX2_passes_37 (by decide) ?_
        have h0 := xw_so hf
        have h1 : w0 = w0 := rfl
        exact xw_zret hB hK hE hS hP hr hlk rfl h0 h1 dX2_passes_38
      · replace hf := xw_in' c1 hf
        refine lv_iconst (v := 1) hx hb dX2_passes_33 (by decide) ?_
        refine lv_goto (tgt := 38) hx hb dX2_passes_34 (by decide) ?_
        have h0 := xw_so hf
        have h1 : w0 = w0 := rfl
        exact xw_zret hB hK hE hS hP hr hlk rfl h0 h1 dX2_passes_38
    · replace hf := xw_in' c2 hf
      by_cases c4 : a1 = 62
      · refine lv_lookup (off := 38) (tgt := 39) hx hb dX2_passes_1 (by decide) (by rw [c4]; rfl) (by decide) ?_
        replace hf := xw_ip c4 hf
        refine lv_iload_n hx hb dX2_passes_39 rfl (lv_at hl 0 rfl) ?_
        refine lv_iload_n hx hb dX2_passes_40 rfl (lv_at hl 2 rfl) ?_
        refine lv_icmp_le (tgt := 48) hx hb dX2_passes_41 (by decide) (fun c3 => ?_) (fun c3 => ?_)
        · replace hf := xw_ip c3 hf
          refine lv_iconst (v := 0) hx hb dX2_passes_48 (by decide) ?_
          have h0 := xw_so hf
          have h1 : w0 = w0 := rfl
          exact xw_zret hB hK hE hS hP hr hlk rfl h0 h1 dX2_passes_49
        · replace hf := xw_in' c3 hf
          refine lv_iconst (v := 1) hx hb dX2_passes_44 (by decide) ?_
          refine lv_goto (tgt := 49) hx hb dX2_passes_45 (by decide) ?_
          have h0 := xw_so hf
          have h1 : w0 = w0 := rfl
          exact xw_zret hB hK hE hS hP hr hlk rfl h0 h1 dX2_passes_49
      · replace hf := xw_in' c4 hf
        refine lv_lookup (off := 49) (tgt := 50) hx hb dX2_passes_1 (by decide) (by show Op.lookupswitch.offset [(60, 27), (62, 38)] 49 _ = _; rw [lv_osw c2 (by decide : (60 : Int32).toInt = 60), lv_osw c4 (by decide : (62 : Int32).toInt = 62)]; rfl) (by decide) ?_
        refine lv_iload_n hx hb dX2_passes_50 rfl (lv_at hl 0 rfl) ?_
        refine lv_iload_n hx hb dX2_passes_51 rfl (lv_at hl 2 rfl) ?_
        refine lv_icmp_ne (tgt := 59) hx hb dX2_passes_52 (by decide) (fun c5 => ?_) (fun c5 => ?_)
        · replace hf := xw_in' c5 hf
          refine lv_iconst (v := 0) hx hb dX2_passes_59 (by decide) ?_
          have h0 := xw_so hf
          have h1 : w0 = w0 := rfl
          exact xw_zret hB hK hE hS hP hr hlk rfl h0 h1 dX2_passes_60
        · replace hf := xw_ip c5 hf
          refine lv_iconst (v := 1) hx hb dX2_passes_55 (by decide) ?_
          refine lv_goto (tgt := 60) hx hb dX2_passes_56 (by decide) ?_
          have h0 := xw_so hf
          have h1 : w0 = w0 := rfl
          exact xw_zret hB hK hE hS hP hr hlk rfl h0 h1 dX2_passes_60
  exact HH s.heap [] hP hS
def fX2_holdsFrom_140 (n : Nat) (b : Nat) (a1 : Int32) (a2 : Int32) (a3 : Nat) (n3 : Nat) (x4 : Int32) (w0 : xw_M) : Option Int32 := if (x4 &&& (1 : Int32)) = 0 then some (0 : Int32) else some (1 : Int32)
def fX2_holdsFrom_134 (n : Nat) (b : Nat) (a1 : Int32) (a2 : Int32) (a3 : Nat) (n3 : Nat) (x4 : Int32) (x5 : Int32) (w0 : xw_M) : Option ((Int32 × Int32) ⊕ (Int32)) := xw_lt (x5 + 1) (fun x5_21 => some (.inl (x4, x5_21)))
def fX2_holdsFrom_131 (n : Nat) (b : Nat) (a1 : Int32) (a2 : Int32) (a3 : Nat) (n3 : Nat) (x5 : Int32) (v0 : Int32) (v1 : Int32) (w0 : xw_M) : Option ((Int32 × Int32) ⊕ (Int32)) := xw_lt (v0 ||| v1) (fun x4_22 => fX2_holdsFrom_134 n b a1 a2 a3 n3 x4_22 x5 w0)
def fX2_holdsFrom_b6 (n : Nat) (b : Nat) (a1 : Int32) (a2 : Int32) (a3 : Nat) (n3 : Nat) (x4 : Int32) (x5 : Int32) (w0 : xw_M) : Option ((Int32 × Int32) ⊕ (Int32)) := if a2 ≤ x5 then some (.inr x4) else xw_lt (x4 >>> ((1 : Int32) &&& 31)) (fun x6_2 => xw_lt (x4 &&& (1 : Int32)) (fun x7_3 => xw_bp (fX7_at (b + 3) 100 x5 w0) (fun r4 => if r4 = (6 : Int32) then xw_lt (x4 ^^^ (1 : Int32)) (fun x4_20 => fX2_holdsFrom_134 n b a1 a2 a3 n3 x4_20 x5 w0) else if r4 = (7 : Int32) then xw_lt (x6_2 &&& (x7_3 ||| (-2 : Int32))) (fun x4_19 => fX2_holdsFrom_134 n b a1 a2 a3 n3 x4_19 x5 w0) else if r4 = (8 : Int32) then xw_lt (x6_2 ||| x7_3) (fun x4_18 => fX2_holdsFrom_134 n b a1 a2 a3 n3 x4_18 x5 w0) else xw_bp (fX7_at a3 n3 r4 w0) (fun r9 => xw_bp (fX7_at (b + 4) 100 x5 w0) (fun r11 => xw_bp (fX7_at (b + 5) 100 x5 w0) (fun r13 => xw_bp (fX2_passes r9 r11 r13) (fun r15 => if r15 = 0 then fX2_holdsFrom_131 n b a1 a2 a3 n3 x5 (x4 <<< ((1 : Int32) &&& 31)) (0 : Int32) w0 else fX2_holdsFrom_131 n b a1 a2 a3 n3 x5 (x4 <<< ((1 : Int32) &&& 31)) (1 : Int32) w0)))))))
def fX2_holdsFrom_6 (n : Nat) (b : Nat) (a1 : Int32) (a2 : Int32) (a3 : Nat) (n3 : Nat) (x4 : Int32) (x5 : Int32) (w0 : xw_M) : Option Int32 := xw_bp (xw_it (fun z => fX2_holdsFrom_b6 n b a1 a2 a3 n3 z.1 z.2 w0) n (x4, x5)) (fun z => (fun (x4 : Int32) => fX2_holdsFrom_140 n b a1 a2 a3 n3 x4 w0) z)
def fX2_holdsFrom (n : Nat) (b : Nat) (a1 : Int32) (a2 : Int32) (a3 : Nat) (n3 : Nat) (w0 : xw_M) : Option Int32 := fX2_holdsFrom_6 n b a1 a2 a3 n3 (0 : Int32) a1 w0
set_option maxHeartbeats 4000000 in
set_option maxRecDepth 100000 in
theorem kX2_holdsFrom (l : Launch) (G : xw_G) (hG : xw_ok G) (n : Nat) (b : Nat) (a1 : Int32) (a2 : Int32) (a3 : Nat) (n3 : Nat) (hb0 : xw_pa b) (ha3 : xw_ia G 0 a3 n3) (w0 : xw_M) (r0 : Int32) (hf : fX2_holdsFrom n b a1 a2 a3 n3 w0 = some r0) : xw_Ti l G yX2_holdsFrom cX2_holdsFrom 10 ((Option.some Jvm.ClassFile.FieldType.boolean)) (1) (22) [.ref (xw_ad G b), .int a1, .int a2, .ref (xw_ad G a3)] w0 r0 w0 := by
  unfold xw_Ti
  refine Met.ofW (cc := cX2_holdsFrom) (maxL := 10) (ret := (Option.some Jvm.ClassFile.FieldType.boolean)) (by decide) rfl ?_
  intro p e s m args below meth c s₁ B hml hv
  obtain ⟨hargs, hP, hK, hE⟩ := hv
  have hx := B.exec
  have hb := B.bytes
  have hr := B.returns
  have hlk := B.notSynchronized
  have hB : CallFix p m c cX2_holdsFrom 10 s args TB RX2 := ⟨hx, hb, hml, findClass_of_methodNamed B.named, fun q h => (atoms_spec (ws := Cond.code yX2_holdsFrom cX2_holdsFrom 10 ((Option.some Jvm.ClassFile.FieldType.boolean)) :: TB) B.pre) q (List.mem_cons_of_mem _ h)⟩
  have hS : va_S (xw_A G) s.heap s.heap [] := va_S.rf
  have hl := lv_entry [.ref (xw_ad G b), .int a1, .int a2, .ref (xw_ad G a3)] (n := 10) (Nat.le_of_ble_eq_true rfl)
  rw [show entryFrame m args 10 = entryFrame m ([.ref (xw_ad G b), .int a1, .int a2, .ref (xw_ad G a3)] : List Value).toArray 10 from by rw [hargs], lg_entry_eq]
  generalize (lg_sl [.ref (xw_ad G b), .int a1, .int a2, .ref (xw_ad G a3)] ++ List.replicate (10 - (lg_sl [.ref (xw_ad G b), .int a1, .int a2, .ref (xw_ad G a3)]).length) Slot.unset).toArray = ls at hl ⊢
  have hP : va_P (xw_D G) xw_cl (xw_W G w0) s.heap := hP
  have hl : lv_has ls 10 [(0, .ref (xw_ad G b)), (1, .int a1), (2, .int a2), (3, .ref (xw_ad G a3))] := hl
  have HH : ∀ (H : Heap) (locs : List Loc) (hP : va_P (xw_D G) xw_cl (xw_W G w0) H) (hS : va_S (xw_A G) s.heap H locs), xw_Wi G p l e (xw_rm (1) (22)) s m args below meth c H locs r0 w0 (F0 m 0 ls []) := by
    intro H locs hP hS
    unfold fX2_holdsFrom at hf
    have J140 : ∀ (x4 : Int32) (hf : fX2_holdsFrom_140 n b a1 a2 a3 n3 x4 w0 = some r0) (H : Heap) (locs : List Loc) (ls : Array Slot) (hP : va_P (xw_D G) xw_cl (xw_W G w0) H) (hS : va_S (xw_A G) s.heap H locs) (hl : lv_has ls 10 [(4, .int x4)]), xw_Wi G p l e (xw_rm (1) (22)) s m args below meth c H locs r0 w0 (F0 m 140 ls []) := by
      intro x4 hf H locs ls hP hS hl
      unfold fX2_holdsFrom_140 at hf
      refine lv_iload hx hb dX2_holdsFrom_140 (lv_at hl 0 rfl) ?_
      refine lv_iconst (v := 1) hx hb dX2_holdsFrom_142 (by decide) ?_
      refine lv_iand hx hb dX2_holdsFrom_143 ?_
      refine lv_if_eq (tgt := 151) hx hb dX2_holdsFrom_144 (by decide) (fun c23 => ?_) (fun c23 => ?_)
      · replace hf := xw_ip c23 hf
        refine lv_iconst (v := 0) hx hb dX2_holdsFrom_151 (by decide) ?_
        have h0 := xw_so hf
        have h1 : w0 = w0 := rfl
        exact xw_zret hB hK hE hS hP hr hlk rfl h0 h1 dX2_holdsFrom_152
      · replace hf := xw_in' c23 hf
        refine lv_iconst (v := 1) hx hb dX2_holdsFrom_147 (by decide) ?_
        refine lv_goto (tgt := 152) hx hb dX2_holdsFrom_148 (by decide) ?_
        have h0 := xw_so hf
        have h1 : w0 = w0 := rfl
        exact xw_zret hB hK hE hS hP hr hlk rfl h0 h1 dX2_holdsFrom_152
    have J6 : ∀ (x4 : Int32) (x5 : Int32) (hf : fX2_holdsFrom_6 n b a1 a2 a3 n3 x4 x5 w0 = some r0) (H : Heap) (locs : List Loc) (ls : Array Slot) (hP : va_P (xw_D G) xw_cl (xw_W G w0) H) (hS : va_S (xw_A G) s.heap H locs) (hl : lv_has ls 10 [(0, .ref (xw_ad G b)), (2, .int a2), (3, .ref (xw_ad G a3)), (4, .int x4), (5, .int x5)]), xw_Wi G p l e (xw_rm (1) (22)) s m args below meth c H locs r0 w0 (F0 m 6 ls []) := by
      intro x4 x5 hf H locs ls hP hS hl
      unfold fX2_holdsFrom_6 at hf
      replace hf := xw_bp_e hf
      obtain ⟨bb6, hit6, hfx6⟩ := hf
      have XX6 : ∀ (x4 : Int32) (hf : fX2_holdsFrom_140 n b a1 a2 a3 n3 x4 w0 = some r0) (H : Heap) (locs : List Loc) (ls : Array Slot) (hP : va_P (xw_D G) xw_cl (xw_W G w0) H) (hS : va_S (xw_A G) s.heap H locs) (hl : lv_has ls 10 [(4, .int x4)]), xw_Wi G p l e (xw_rm (1) (22)) s m args below meth c H locs r0 w0 (F0 m 140 ls []) := by
        intro x4 hf H locs ls hP hS hl
        exact J140 x4 hf H locs ls hP hS (lv_sub hl [0] rfl)
      have LL6 : ∀ (nn : Nat) (x4 : Int32) (x5 : Int32) (hit : xw_it (fun z => fX2_holdsFrom_b6 n b a1 a2 a3 n3 z.1 z.2 w0) nn (x4, x5) = some bb6) (H : Heap) (locs : List Loc) (ls : Array Slot) (hP : va_P (xw_D G) xw_cl (xw_W G w0) H) (hS : va_S (xw_A G) s.heap H locs) (hl : lv_has ls 10 [(0, .ref (xw_ad G b)), (2, .int a2), (3, .ref (xw_ad G a3)), (4, .int x4), (5, .int x5)]), xw_Wi G p l e (xw_rm (1) (22)) s m args below meth c H locs r0 w0 (F0 m 6 ls []) := by
        intro nn
        induction nn with
        | zero => intro x4 x5 hit; exact (xw_it_0 hit).elim
        | succ nn ih6 =>
          intro x4 x5 hit H locs ls hP hS hl
          replace hit := xw_it_e hit
          obtain ⟨wv6, hf, hC6, hX6⟩ := hit
          replace hf : fX2_holdsFrom_b6 n b a1 a2 a3 n3 x4 x5 w0 = some wv6 := hf
          unfold fX2_holdsFrom_b6 at hf
          have J134 : ∀ (x4 : Int32) (x5 : Int32) (hf : fX2_holdsFrom_134 n b a1 a2 a3 n3 x4 x5 w0 = some wv6) (H : Heap) (locs : List Loc) (ls : Array Slot) (hP : va_P (xw_D G) xw_cl (xw_W G w0) H) (hS : va_S (xw_A G) s.heap H locs) (hl : lv_has ls 10 [(0, .ref (xw_ad G b)), (2, .int a2), (3, .ref (xw_ad G a3)), (4, .int x4), (5, .int x5)]), xw_Wi G p l e (xw_rm (1) (22)) s m args below meth c H locs r0 w0 (F0 m 134 ls []) := by
            intro x4 x5 hf H locs ls hP hS hl
            unfold fX2_holdsFrom_134 at hf
            obtain ⟨x5_21, ex5_21⟩ : ∃ y : Int32, y = x5 + 1 := ⟨_, rfl⟩
            replace hf := xw_lt_e ex5_21 hf
            refine lv_iinc (v := x5_21) (lv' := [(5, .int x5_21), (0, .ref (xw_ad G b)), (2, .int a2), (3, .ref (xw_ad G a3)), (4, .int x4)]) hx hb dX2_holdsFrom_134 hl (k := 4) rfl (by rw [ex5_21]; rfl) (by decide) rfl (fun ls hl => ?_)
            refine lv_goto (tgt := 6) hx hb dX2_holdsFrom_137 (by decide) ?_
            have hi := hC6 _ (xw_so hf).symm
            exact ih6 x4 x5_21 hi H locs ls hP hS (lv_sub hl [1, 2, 3, 4, 0] rfl)
          have J131 : ∀ (x5 : Int32) (v0 : Int32) (v1 : Int32) (hf : fX2_holdsFrom_131 n b a1 a2 a3 n3 x5 v0 v1 w0 = some wv6) (H : Heap) (locs : List Loc) (ls : Array Slot) (hP : va_P (xw_D G) xw_cl (xw_W G w0) H) (hS : va_S (xw_A G) s.heap H locs) (hl : lv_has ls 10 [(0, .ref (xw_ad G b)), (2, .int a2), (3, .ref (xw_ad G a3)), (5, .int x5)]), xw_Wi G p l e (xw_rm (1) (22)) s m args below meth c H locs r0 w0 (F0 m 131 ls [.int v1, .int v0]) := by
            intro x5 v0 v1 hf H locs ls hP hS hl
            unfold fX2_holdsFrom_131 at hf
            refine lv_ior hx hb dX2_holdsFrom_131 ?_
            refine lv_topi (fun x4_22 ex4_22 => ?_)
            replace hf := xw_lt_e ex4_22 hf
            refine lv_istore (lv' := [(4, .int x4_22), (0, .ref (xw_ad G b)), (2, .int a2), (3, .ref (xw_ad G a3)), (5, .int x5)]) hx hb dX2_holdsFrom_132 hl (by decide) rfl (fun ls hl => ?_)
            exact J134 x4_22 x5 hf H locs ls hP hS (lv_sub hl [1, 2, 3, 0, 4] rfl)
          refine lv_iload hx hb dX2_holdsFrom_6 (lv_at hl 4 rfl) ?_
          refine lv_iload_n hx hb dX2_holdsFrom_8 rfl (lv_at hl 1 rfl) ?_
          refine lv_icmp_ge (tgt := 140) hx hb dX2_holdsFrom_9 (by decide) (fun c1 => ?_) (fun c1 => ?_)
          · replace hf := xw_ip c1 hf
            have he6 := hX6 _ (xw_so hf).symm
            rw [← he6] at hfx6
            exact XX6 x4 hfx6 H locs ls hP hS (lv_sub hl [3] rfl)
          · replace hf := xw_in' c1 hf
            refine lv_iload hx hb dX2_holdsFrom_12 (lv_at hl 3 rfl) ?_
            refine lv_iconst (v := 1) hx hb dX2_holdsFrom_14 (by decide) ?_
            refine lv_ishr hx hb dX2_holdsFrom_15 ?_
            refine lv_topi (fun x6_2 ex6_2 => ?_)
            replace hf := xw_lt_e ex6_2 hf
            refine lv_istore (lv' := [(6, .int x6_2), (0, .ref (xw_ad G b)), (2, .int a2), (3, .ref (xw_ad G a3)), (4, .int x4), (5, .int x5)]) hx hb dX2_holdsFrom_16 hl (by decide) rfl (fun ls hl => ?_)
            refine lv_iload hx hb dX2_holdsFrom_18 (lv_at hl 4 rfl) ?_
            refine lv_iconst (v := 1) hx hb dX2_holdsFrom_20 (by decide) ?_
            refine lv_iand hx hb dX2_holdsFrom_21 ?_
            refine lv_topi (fun x7_3 ex7_3 => ?_)
            replace hf := xw_lt_e ex7_3 hf
            refine lv_istore (lv' := [(7, .int x7_3), (6, .int x6_2), (0, .ref (xw_ad G b)), (2, .int a2), (3, .ref (xw_ad G a3)), (4, .int x4), (5, .int x5)]) hx hb dX2_holdsFrom_22 hl (by decide) rfl (fun ls hl => ?_)
            refine lv_aload_n hx hb dX2_holdsFrom_24 rfl (lv_at hl 2 rfl) ?_
            refine xw_get hB hK hP (xw_o2 G hb0) (C := RX2) (T := TX2) (N := 8) rfl TBi_X2 5 (by decide) tw_149 rfl rfl dX2_holdsFrom_25 ?_
            refine lv_iload hx hb dX2_holdsFrom_28 (lv_at hl 6 rfl) ?_
            replace hf := xw_bp_e hf
            obtain ⟨r4, he5, hf⟩ := hf
            refine xw_Ni hB hK hE hS hP (As := [.ref (xw_ad G (b + 3)), .int x5]) (rest := []) (kX7_at l G hG (b + 3) 100 x5 (xw_a2_3 G hb0) w0 _ he5) (host := RX7) (by decide +kernel) tw_313 tw_312 tw_1 2 hs_X7_at ⟨Nat.le_of_ble_eq_true rfl, Nat.le_of_ble_eq_true rfl⟩ rfl hl.1 (Nat.le_of_ble_eq_true rfl) rfl dX2_holdsFrom_30 ⟨Nat.zero_le _, Nat.zero_le _⟩ (fun H locs hP hS => ?_)
            refine lv_istore (lv' := [(8, .int r4), (7, .int x7_3), (6, .int x6_2), (0, .ref (xw_ad G b)), (2, .int a2), (3, .ref (xw_ad G a3)), (4, .int x4), (5, .int x5)]) hx hb dX2_holdsFrom_33 hl (by decide) rfl (fun ls hl => ?_)
            refine lv_iload hx hb dX2_holdsFrom_35 (lv_at hl 0 rfl) ?_
            refine lv_bipush (v := 6) hx hb dX2_holdsFrom_37 (by decide) ?_
            refine lv_icmp_ne (tgt := 51) hx hb dX2_holdsFrom_39 (by decide) (fun c6 => ?_) (fun c6 => ?_)
            · replace hf := xw_in' c6 hf
              refine lv_iload hx hb dX2_holdsFrom_51 (lv_at hl 0 rfl) ?_
              refine lv_bipush (v := 7) hx hb dX2_holdsFrom_53 (by decide) ?_
              refine lv_icmp_ne (tgt := 71) hx hb dX2_holdsFrom_55 (by decide) (fun c7 => ?_) (fun c7 => ?_)
              · replace hf := xw_in' c7 hf
                refine lv_iload hx hb dX2_holdsFrom_71 (lv_at hl 0 rfl) ?_
                refine lv_bipush (v := 8) hx hb dX2_holdsFrom_73 (by decide) ?_
                refine lv_icmp_ne (tgt := 88) hx hb dX2_holdsFrom_75 (by decide) (fun c8 => ?_) (fun c8 => ?_)
                · replace hf := xw_in' c8 hf
                  refine lv_aload_n hx hb dX2_holdsFrom_88 rfl (lv_at hl 5 rfl) ?_
                  refine lv_iload hx hb dX2_holdsFrom_89 (lv_at hl 0 rfl) ?_
                  replace hf := xw_bp_e hf
                  obtain ⟨r9, he10, hf⟩ := hf
                  refine xw_Ni hB hK hE hS hP (As := [.ref (xw_ad G a3), .int r4]) (rest := []) (kX7_at l G hG a3 n3 r4 ha3 w0 _ he10) (host := RX7) (by decide +kernel) tw_313 tw_312 tw_1 2 hs_X7_at ⟨Nat.le_of_ble_eq_true rfl, Nat.le_of_ble_eq_true rfl⟩ rfl hl.1 (Nat.le_of_ble_eq_true rfl) rfl dX2_holdsFrom_91 ⟨Nat.zero_le _, Nat.zero_le _⟩ (fun H locs hP hS => ?_)
                  refine lv_aload_n hx hb dX2_holdsFrom_94 rfl (lv_at hl 3 rfl) ?_
                  refine xw_get hB hK hP (xw_o2 G hb0) (C := RX2) (T := TX2) (N := 8) rfl TBi_X2 6 (by decide) tw_150 rfl rfl dX2_holdsFrom_95 ?_
                  refine lv_iload hx hb dX2_holdsFrom_98 (lv_at hl 7 rfl) ?_
                  replace hf := xw_bp_e hf
                  obtain ⟨r11, he12, hf⟩ := hf
                  refine xw_Ni hB hK hE hS hP (As := [.ref (xw_ad G (b + 4)), .int x5]) (rest := [.int r9]) (kX7_at l G hG (b + 4) 100 x5 (xw_a2_4 G hb0) w0 _ he12) (host := RX7) (by decide +kernel) tw_313 tw_312 tw_1 2 hs_X7_at ⟨Nat.le_of_ble_eq_true rfl, Nat.le_of_ble_eq_true rfl⟩ rfl hl.1 (Nat.le_of_ble_eq_true rfl) rfl dX2_holdsFrom_100 ⟨Nat.zero_le _, Nat.zero_le _⟩ (fun H locs hP hS => ?_)
                  refine lv_aload_n hx hb dX2_holdsFrom_103 rfl (lv_at hl 3 rfl) ?_
                  refine xw_get hB hK hP (xw_o2 G hb0) (C := RX2) (T := TX2) (N := 8) rfl TBi_X2 7 (by decide) tw_151 rfl rfl dX2_holdsFrom_104 ?_
                  refine lv_iload hx hb dX2_holdsFrom_107 (lv_at hl 7 rfl) ?_
                  replace hf := xw_bp_e hf
                  obtain ⟨r13, he14, hf⟩ := hf
                  refine xw_Ni hB hK hE hS hP (As := [.ref (xw_ad G (b + 5)), .int x5]) (rest := [.int r11, .int r9]) (kX7_at l G hG (b + 5) 100 x5 (xw_a2_5 G hb0) w0 _ he14) (host := RX7) (by decide +kernel) tw_313 tw_312 tw_1 2 hs_X7_at ⟨Nat.le_of_ble_eq_true rfl, Nat.le_of_ble_eq_true rfl⟩ rfl hl.1 (Nat.le_of_ble_eq_true rfl) rfl dX2_holdsFrom_109 ⟨Nat.zero_le _, Nat.zero_le _⟩ (fun H locs hP hS => ?_)
                  replace hf := xw_bp_e hf
                  obtain ⟨r15, he16, hf⟩ := hf
                  refine xw_Si hB hK hE hS hP (As := [.int r9, .int r11, .int r13]) (rest := []) (kX2_passes l G hG r9 r11 r13 w0 _ he16) tw_345 tw_347 tw_346 tw_6 3 hs_X2_passes ⟨Nat.le_of_ble_eq_true rfl, Nat.le_of_ble_eq_true rfl⟩ rfl hl.1 (Nat.le_of_ble_eq_true rfl) rfl dX2_holdsFrom_112 ⟨Nat.zero_le _, Nat.zero_le _⟩ (fun H locs hP hS => ?_)
                  refine lv_istore (lv' := [(9, .int r15), (8, .int r4), (7, .int x7_3), (6, .int x6_2), (0, .ref (xw_ad G b)), (2, .int a2), (3, .ref (xw_ad G a3)), (4, .int x4), (5, .int x5)]) hx hb dX2_holdsFrom_115 hl (by decide) rfl (fun ls hl => ?_)
                  refine lv_iload hx hb dX2_holdsFrom_117 (lv_at hl 7 rfl) ?_
                  refine lv_iconst (v := 1) hx hb dX2_holdsFrom_119 (by decide) ?_
                  refine lv_ishl hx hb dX2_holdsFrom_120 ?_
                  refine lv_iload hx hb dX2_holdsFrom_121 (lv_at hl 0 rfl) ?_
                  refine lv_if_eq (tgt := 130) hx hb dX2_holdsFrom_123 (by decide) (fun c17 => ?_) (fun c17 => ?_)
                  · replace hf := xw_ip c17 hf
                    refine lv_iconst (v := 0) hx hb dX2_holdsFrom_130 (by decide) ?_
                    exact J131 x5 (x4 <<< ((1 : Int32) &&& 31)) (0 : Int32) hf H locs ls hP hS (lv_sub hl [4, 5, 6, 8] rfl)
                  · replace hf := xw_in' c17 hf
                    refine lv_iconst (v := 1) hx hb dX2_holdsFrom_126 (by decide) ?_
                    refine lv_goto (tgt := 131) hx hb dX2_holdsFrom_127 (by decide) ?_
                    exact J131 x5 (x4 <<< ((1 : Int32) &&& 31)) (1 : Int32) hf H locs ls hP hS (lv_sub hl [4, 5, 6, 8] rfl)
                · replace hf := xw_ip c8 hf
                  refine lv_iload hx hb dX2_holdsFrom_78 (lv_at hl 2 rfl) ?_
                  refine lv_iload hx hb dX2_holdsFrom_80 (lv_at hl 1 rfl) ?_
                  refine lv_ior hx hb dX2_holdsFrom_82 ?_
                  refine lv_topi (fun x4_18 ex4_18 => ?_)
                  replace hf := xw_lt_e ex4_18 hf
                  refine lv_istore (lv' := [(4, .int x4_18), (8, .int r4), (7, .int x7_3), (6, .int x6_2), (0, .ref (xw_ad G b)), (2, .int a2), (3, .ref (xw_ad G a3)), (5, .int x5)]) hx hb dX2_holdsFrom_83 hl (by decide) rfl (fun ls hl => ?_)
                  refine lv_goto (tgt := 134) hx hb dX2_holdsFrom_85 (by decide) ?_
                  exact J134 x4_18 x5 hf H locs ls hP hS (lv_sub hl [4, 5, 6, 0, 7] rfl)
              · replace hf := xw_ip c7 hf
                refine lv_iload hx hb dX2_holdsFrom_58 (lv_at hl 2 rfl) ?_
                refine lv_iload hx hb dX2_holdsFrom_60 (lv_at hl 1 rfl) ?_
                refine lv_bipush (v := (-2)) hx hb dX2_holdsFrom_62 (by decide) ?_
                refine lv_ior hx hb dX2_holdsFrom_64 ?_
                refine lv_iand hx hb dX2_holdsFrom_65 ?_
                refine lv_topi (fun x4_19 ex4_19 => ?_)
                replace hf := xw_lt_e ex4_19 hf
                refine lv_istore (lv' := [(4, .int x4_19), (8, .int r4), (7, .int x7_3), (6, .int x6_2), (0, .ref (xw_ad G b)), (2, .int a2), (3, .ref (xw_ad G a3)), (5, .int x5)]) hx hb dX2_holdsFrom_66 hl (by decide) rfl (fun ls hl => ?_)
                refine lv_goto (tgt := 134) hx hb dX2_holdsFrom_68 (by decide) ?_
                exact J134 x4_19 x5 hf H locs ls hP hS (lv_sub hl [4, 5, 6, 0, 7] rfl)
            · replace hf := xw_ip c6 hf
              refine lv_iload hx hb dX2_holdsFrom_42 (lv_at hl 6 rfl) ?_
              refine lv_iconst (v := 1) hx hb dX2_holdsFrom_44 (by decide) ?_
              refine lv_ixor hx hb dX2_holdsFrom_45 ?_
              refine lv_topi (fun x4_20 ex4_20 => ?_)
              replace hf := xw_lt_e ex4_20 hf
              refine lv_istore (lv' := [(4, .int x4_20), (8, .int r4), (7, .int x7_3), (6, .int x6_2), (0, .ref (xw_ad G b)), (2, .int a2), (3, .ref (xw_ad G a3)), (5, .int x5)]) hx hb dX2_holdsFrom_46 hl (by decide) rfl (fun ls hl => ?_)
              refine lv_goto (tgt := 134) hx hb dX2_holdsFrom_48 (by decide) ?_
              exact J134 x4_20 x5 hf H locs ls hP hS (lv_sub hl [4, 5, 6, 0, 7] rfl)
      exact LL6 n x4 x5 hit6 H locs ls hP hS hl
    refine lv_iconst (v := 0) hx hb dX2_holdsFrom_0 (by decide) ?_
    refine lv_istore (lv' := [(4, .int (0 : Int32)), (0, .ref (xw_ad G b)), (1, .int a1), (2, .int a2), (3, .ref (xw_ad G a3))]) hx hb dX2_holdsFrom_1 hl (by decide) rfl (fun ls hl => ?_)
    refine lv_iload_n hx hb dX2_holdsFrom_3 rfl (lv_at hl 2 rfl) ?_
    refine lv_istore (lv' := [(5, .int a1), (4, .int (0 : Int32)), (0, .ref (xw_ad G b)), (1, .int a1), (2, .int a2), (3, .ref (xw_ad G a3))]) hx hb dX2_holdsFrom_4 hl (by decide) rfl (fun ls hl => ?_)
    exact J6 (0 : Int32) a1 hf H locs ls hP hS (lv_sub hl [2, 4, 5, 1, 0] rfl)
  exact HH s.heap [] hP hS
def fX2_sumOf_71 (n : Nat) (b : Nat) (a1 : Nat) (n1 : Nat) (x2 : Int32) (w0 : xw_M) : Option Int32 := some x2
def fX2_sumOf_62 (n : Nat) (b : Nat) (a1 : Nat) (n1 : Nat) (x2 : Int32) (x4 : Int32) (x5 : Int32) (w0 : xw_M) : Option ((Int32 × Int32 × Int32) ⊕ (Int32)) := xw_lt (x4 + 1) (fun x4_13 => some (.inl (x2, x5, x4_13)))
def fX2_sumOf_b19 (n : Nat) (b : Nat) (a1 : Nat) (n1 : Nat) (x2 : Int32) (x3 : Int32) (x4 : Int32) (w0 : xw_M) : Option ((Int32 × Int32 × Int32) ⊕ (Int32)) := if (w0.1 b 1) ≤ x4 then some (.inr x2) else xw_bp (fX7_at (b + 2) 10 x4 w0) (fun r5 => xw_bp (fX2_holdsFrom n b x3 r5 a1 n1 w0) (fun r7 => if r7 = 0 then fX2_sumOf_62 n b a1 n1 x2 x4 r5 w0 else xw_bp (fX7_at (b + 1) 10 x4 w0) (fun r10 => xw_lt (x2 + r10) (fun x2_12 => fX2_sumOf_62 n b a1 n1 x2_12 x4 r5 w0))))
def fX2_sumOf_19 (n : Nat) (b : Nat) (a1 : Nat) (n1 : Nat) (x2 : Int32) (x3 : Int32) (x4 : Int32) (w0 : xw_M) : Option Int32 := xw_bp (xw_it (fun z => fX2_sumOf_b19 n b a1 n1 z.1 z.2.1 z.2.2 w0) n (x2, x3, x4)) (fun z => (fun (x2 : Int32) => fX2_sumOf_71 n b a1 n1 x2 w0) z)
def fX2_sumOf (n : Nat) (b : Nat) (a1 : Nat) (n1 : Nat) (w0 : xw_M) : Option Int32 := xw_bp (fX7_at a1 n1 (4 : Int32) w0) (fun r1 => xw_lt ((20 : Int32) - ((w0.1 b 0) * r1)) (fun x2_3 => fX2_sumOf_19 n b a1 n1 x2_3 (0 : Int32) (0 : Int32) w0))
set_option maxHeartbeats 4000000 in
set_option maxRecDepth 100000 in
theorem kX2_sumOf (l : Launch) (G : xw_G) (hG : xw_ok G) (n : Nat) (b : Nat) (a1 : Nat) (n1 : Nat) (hb0 : xw_pa b) (ha1 : xw_ia G 0 a1 n1) (w0 : xw_M) (r0 : Int32) (hf : fX2_sumOf n b a1 n1 w0 = some r0) : xw_Ti l G yX2_sumOf cX2_sumOf 6 ((Option.some Jvm.ClassFile.FieldType.int)) (2) (51) [.ref (xw_ad G b), .ref (xw_ad G a1)] w0 r0 w0 := by
  unfold xw_Ti
  refine Met.ofW (cc := cX2_sumOf) (maxL := 6) (ret := (Option.some Jvm.ClassFile.FieldType.int)) (by decide) rfl ?_
  intro p e s m args below meth c s₁ B hml hv
  obtain ⟨hargs, hP, hK, hE⟩ := hv
  have hx := B.exec
  have hb := B.bytes
  have hr := B.returns
  have hlk := B.notSynchronized
  have hB : CallFix p m c cX2_sumOf 6 s args TB RX2 := ⟨hx, hb, hml, findClass_of_methodNamed B.named, fun q h => (atoms_spec (ws := Cond.code yX2_sumOf cX2_sumOf 6 ((Option.some Jvm.ClassFile.FieldType.int)) :: TB) B.pre) q (List.mem_cons_of_mem _ h)⟩
  have hS : va_S (xw_A G) s.heap s.heap [] := va_S.rf
  have hl := lv_entry [.ref (xw_ad G b), .ref (xw_ad G a1)] (n := 6) (Nat.le_of_ble_eq_true rfl)
  rw [show entryFrame m args 6 = entryFrame m ([.ref (xw_ad G b), .ref (xw_ad G a1)] : List Value).toArray 6 from by rw [hargs], lg_entry_eq]
  generalize (lg_sl [.ref (xw_ad G b), .ref (xw_ad G a1)] ++ List.replicate (6 - (lg_sl [.ref (xw_ad G b), .ref (xw_ad G a1)]).length) Slot.unset).toArray = ls at hl ⊢
  have hP : va_P (xw_D G) xw_cl (xw_W G w0) s.heap := hP
  have hl : lv_has ls 6 [(0, .ref (xw_ad G b)), (1, .ref (xw_ad G a1))] := hl
  have HH : ∀ (H : Heap) (locs : List Loc) (hP : va_P (xw_D G) xw_cl (xw_W G w0) H) (hS : va_S (xw_A G) s.heap H locs), xw_Wi G p l e (xw_rm (2) (51)) s m args below meth c H locs r0 w0 (F0 m 0 ls []) := by
    intro H locs hP hS
    unfold fX2_sumOf at hf
    have J71 : ∀ (x2 : Int32) (hf : fX2_sumOf_71 n b a1 n1 x2 w0 = some r0) (H : Heap) (locs : List Loc) (ls : Array Slot) (hP : va_P (xw_D G) xw_cl (xw_W G w0) H) (hS : va_S (xw_A G) s.heap H locs) (hl : lv_has ls 6 [(2, .int x2)]), xw_Wi G p l e (xw_rm (2) (51)) s m args below meth c H locs r0 w0 (F0 m 71 ls []) := by
      intro x2 hf H locs ls hP hS hl
      unfold fX2_sumOf_71 at hf
      refine lv_iload_n hx hb dX2_sumOf_71 rfl (lv_at hl 0 rfl) ?_
      have h0 := xw_so hf
      have h1 : w0 = w0 := rfl
      exact xw_iret hB hK hE hS hP hr hlk h0 h1 dX2_sumOf_72
    have J19 : ∀ (x2 : Int32) (x3 : Int32) (x4 : Int32) (hf : fX2_sumOf_19 n b a1 n1 x2 x3 x4 w0 = some r0) (H : Heap) (locs : List Loc) (ls : Array Slot) (hP : va_P (xw_D G) xw_cl (xw_W G w0) H) (hS : va_S (xw_A G) s.heap H locs) (hl : lv_has ls 6 [(0, .ref (xw_ad G b)), (1, .ref (xw_ad G a1)), (2, .int x2), (3, .int x3), (4, .int x4)]), xw_Wi G p l e (xw_rm (2) (51)) s m args below meth c H locs r0 w0 (F0 m 19 ls []) := by
      intro x2 x3 x4 hf H locs ls hP hS hl
      unfold fX2_sumOf_19 at hf
      replace hf := xw_bp_e hf
      obtain ⟨bb19, hit19, hfx19⟩ := hf
      have XX19 : ∀ (x2 : Int32) (hf : fX2_sumOf_71 n b a1 n1 x2 w0 = some r0) (H : Heap) (locs : List Loc) (ls : Array Slot) (hP : va_P (xw_D G) xw_cl (xw_W G w0) H) (hS : va_S (xw_A G) s.heap H locs) (hl : lv_has ls 6 [(2, .int x2)]), xw_Wi G p l e (xw_rm (2) (51)) s m args below meth c H locs r0 w0 (F0 m 71 ls []) := by
        intro x2 hf H locs ls hP hS hl
        exact J71 x2 hf H locs ls hP hS (lv_sub hl [0] rfl)
      have LL19 : ∀ (nn : Nat) (x2 : Int32) (x3 : Int32) (x4 : Int32) (hit : xw_it (fun z => fX2_sumOf_b19 n b a1 n1 z.1 z.2.1 z.2.2 w0) nn (x2, x3, x4) = some bb19) (H : Heap) (locs : List Loc) (ls : Array Slot) (hP : va_P (xw_D G) xw_cl (xw_W G w0) H) (hS : va_S (xw_A G) s.heap H locs) (hl : lv_has ls 6 [(0, .ref (xw_ad G b)), (1, .ref (xw_ad G a1)), (2, .int x2), (3, .int x3), (4, .int x4)]), xw_Wi G p l e (xw_rm (2) (51)) s m args below meth c H locs r0 w0 (F0 m 19 ls []) := by
        intro nn
        induction nn with
        | zero => intro x2 x3 x4 hit; exact (xw_it_0 hit).elim
        | succ nn ih19 =>
          intro x2 x3 x4 hit H locs ls hP hS hl
          replace hit := xw_it_e hit
          obtain ⟨wv19, hf, hC19, hX19⟩ := hit
          replace hf : fX2_sumOf_b19 n b a1 n1 x2 x3 x4 w0 = some wv19 := hf
          unfold fX2_sumOf_b19 at hf
          have J62 : ∀ (x2 : Int32) (x4 : Int32) (x5 : Int32) (hf : fX2_sumOf_62 n b a1 n1 x2 x4 x5 w0 = some wv19) (H : Heap) (locs : List Loc) (ls : Array Slot) (hP : va_P (xw_D G) xw_cl (xw_W G w0) H) (hS : va_S (xw_A G) s.heap H locs) (hl : lv_has ls 6 [(0, .ref (xw_ad G b)), (1, .ref (xw_ad G a1)), (2, .int x2), (4, .int x4), (5, .int x5)]), xw_Wi G p l e (xw_rm (2) (51)) s m args below meth c H locs r0 w0 (F0 m 62 ls []) := by
            intro x2 x4 x5 hf H locs ls hP hS hl
            unfold fX2_sumOf_62 at hf
            refine lv_iload hx hb dX2_sumOf_62 (lv_at hl 4 rfl) ?_
            refine lv_istore_n (lv' := [(3, .int x5), (0, .ref (xw_ad G b)), (1, .ref (xw_ad G a1)), (2, .int x2), (4, .int x4), (5, .int x5)]) hx hb dX2_sumOf_64 rfl hl (by decide) rfl (fun ls hl => ?_)
            obtain ⟨x4_13, ex4_13⟩ : ∃ y : Int32, y = x4 + 1 := ⟨_, rfl⟩
            replace hf := xw_lt_e ex4_13 hf
            refine lv_iinc (v := x4_13) (lv' := [(4, .int x4_13), (3, .int x5), (0, .ref (xw_ad G b)), (1, .ref (xw_ad G a1)), (2, .int x2), (5, .int x5)]) hx hb dX2_sumOf_65 hl (k := 4) rfl (by rw [ex4_13]; rfl) (by decide) rfl (fun ls hl => ?_)
            refine lv_goto (tgt := 19) hx hb dX2_sumOf_68 (by decide) ?_
            have hi := hC19 _ (xw_so hf).symm
            exact ih19 x2 x5 x4_13 hi H locs ls hP hS (lv_sub hl [2, 3, 4, 1, 0] rfl)
          refine lv_iload hx hb dX2_sumOf_19 (lv_at hl 4 rfl) ?_
          refine lv_aload_n hx hb dX2_sumOf_21 rfl (lv_at hl 0 rfl) ?_
          refine xw_get hB hK hP (xw_o2 G hb0) (C := RX2) (T := TX2) (N := 8) rfl TBi_X2 1 (by decide) tw_145 rfl rfl dX2_sumOf_22 ?_
          refine lv_icmp_ge (tgt := 71) hx hb dX2_sumOf_25 (by decide) (fun c4 => ?_) (fun c4 => ?_)
          · replace hf := xw_ip c4 hf
            have he19 := hX19 _ (xw_so hf).symm
            rw [← he19] at hfx19
            exact XX19 x2 hfx19 H locs ls hP hS (lv_sub hl [2] rfl)
          · replace hf := xw_in' c4 hf
            refine lv_aload_n hx hb dX2_sumOf_28 rfl (lv_at hl 0 rfl) ?_
            refine xw_get hB hK hP (xw_o2 G hb0) (C := RX2) (T := TX2) (N := 8) rfl TBi_X2 3 (by decide) tw_147 rfl rfl dX2_sumOf_29 ?_
            refine lv_iload hx hb dX2_sumOf_32 (lv_at hl 4 rfl) ?_
            replace hf := xw_bp_e hf
            obtain ⟨r5, he6, hf⟩ := hf
            refine xw_Ni hB hK hE hS hP (As := [.ref (xw_ad G (b + 2)), .int x4]) (rest := []) (kX7_at l G hG (b + 2) 10 x4 (xw_a2_2 G hb0) w0 _ he6) (host := RX7) (by decide +kernel) tw_313 tw_312 tw_1 2 hs_X7_at ⟨Nat.le_of_ble_eq_true rfl, Nat.le_of_ble_eq_true rfl⟩ rfl hl.1 (Nat.le_of_ble_eq_true rfl) rfl dX2_sumOf_34 ⟨Nat.zero_le _, Nat.zero_le _⟩ (fun H locs hP hS => ?_)
            refine lv_istore (lv' := [(5, .int r5), (0, .ref (xw_ad G b)), (1, .ref (xw_ad G a1)), (2, .int x2), (3, .int x3), (4, .int x4)]) hx hb dX2_sumOf_37 hl (by decide) rfl (fun ls hl => ?_)
            refine lv_aload_n hx hb dX2_sumOf_39 rfl (lv_at hl 1 rfl) ?_
            refine lv_iload_n hx hb dX2_sumOf_40 rfl (lv_at hl 4 rfl) ?_
            refine lv_iload hx hb dX2_sumOf_41 (lv_at hl 0 rfl) ?_
            refine lv_aload_n hx hb dX2_sumOf_43 rfl (lv_at hl 2 rfl) ?_
            replace hf := xw_bp_e hf
            obtain ⟨r7, he8, hf⟩ := hf
            refine xw_Vi hB hK hE hS hP (As := [.int x3, .int r5, .ref (xw_ad G a1)]) (rest := []) (kX2_holdsFrom l G hG n b x3 r5 a1 n1 hb0 ha1 w0 _ he8) gs_X2_45 (xw_rc hK hP (C := RX2) (T := TX2) (N := 8) (xw_o2 G hb0) rfl) 3 hv_X2_holdsFrom ⟨Nat.le_of_ble_eq_true rfl, Nat.le_of_ble_eq_true rfl⟩ rfl hl.1 (Nat.le_of_ble_eq_true rfl) rfl dX2_sumOf_44 ⟨Nat.zero_le _, Nat.zero_le _⟩ (fun H locs hP hS => ?_)
            refine lv_if_eq (tgt := 62) hx hb dX2_sumOf_47 (by decide) (fun c9 => ?_) (fun c9 => ?_)
            · replace hf := xw_ip c9 hf
              exact J62 x2 x4 r5 hf H locs ls hP hS (lv_sub hl [1, 2, 3, 5, 0] rfl)
            · replace hf := xw_in' c9 hf
              refine lv_iload_n hx hb dX2_sumOf_50 rfl (lv_at hl 3 rfl) ?_
              refine lv_aload_n hx hb dX2_sumOf_51 rfl (lv_at hl 1 rfl) ?_
              refine xw_get hB hK hP (xw_o2 G hb0) (C := RX2) (T := TX2) (N := 8) rfl TBi_X2 2 (by decide) tw_146 rfl rfl dX2_sumOf_52 ?_
              refine lv_iload hx hb dX2_sumOf_55 (lv_at hl 5 rfl) ?_
              replace hf := xw_bp_e hf
              obtain ⟨r10, he11, hf⟩ := hf
              refine xw_Ni hB hK hE hS hP (As := [.ref (xw_ad G (b + 1)), .int x4]) (rest := [.int x2]) (kX7_at l G hG (b + 1) 10 x4 (xw_a2_1 G hb0) w0 _ he11) (host := RX7) (by decide +kernel) tw_313 tw_312 tw_1 2 hs_X7_at ⟨Nat.le_of_ble_eq_true rfl, Nat.le_of_ble_eq_true rfl⟩ rfl hl.1 (Nat.le_of_ble_eq_true rfl) rfl dX2_sumOf_57 ⟨Nat.zero_le _, Nat.zero_le _⟩ (fun H locs hP hS => ?_)
              refine lv_iadd hx hb dX2_sumOf_60 ?_
              refine lv_topi (fun x2_12 ex2_12 => ?_)
              replace hf := xw_lt_e ex2_12 hf
              refine lv_istore_n (lv' := [(2, .int x2_12), (5, .int r5), (0, .ref (xw_ad G b)), (1, .ref (xw_ad G a1)), (3, .int x3), (4, .int x4)]) hx hb dX2_sumOf_61 rfl hl (by decide) rfl (fun ls hl => ?_)
              exact J62 x2_12 x4 r5 hf H locs ls hP hS (lv_sub hl [2, 3, 0, 5, 1] rfl)
      exact LL19 n x2 x3 x4 hit19 H locs ls hP hS hl
    refine lv_bipush (v := 20) hx hb dX2_sumOf_0 (by decide) ?_
    refine lv_aload_n hx hb dX2_sumOf_2 rfl (lv_at hl 0 rfl) ?_
    refine xw_get hB hK hP (xw_o2 G hb0) (C := RX2) (T := TX2) (N := 8) rfl TBi_X2 0 (by decide) tw_142 rfl rfl dX2_sumOf_3 ?_
    refine lv_aload_n hx hb dX2_sumOf_6 rfl (lv_at hl 1 rfl) ?_
    refine lv_iconst (v := 4) hx hb dX2_sumOf_7 (by decide) ?_
    replace hf := xw_bp_e hf
    obtain ⟨r1, he2, hf⟩ := hf
    refine xw_Ni hB hK hE hS hP (As := [.ref (xw_ad G a1), .int (4 : Int32)]) (rest := [.int (w0.1 b 0), .int (20 : Int32)]) (kX7_at l G hG a1 n1 (4 : Int32) ha1 w0 _ he2) (host := RX7) (by decide +kernel) tw_313 tw_312 tw_1 2 hs_X7_at ⟨Nat.le_of_ble_eq_true rfl, Nat.le_of_ble_eq_true rfl⟩ rfl hl.1 (Nat.le_of_ble_eq_true rfl) rfl dX2_sumOf_8 ⟨Nat.zero_le _, Nat.zero_le _⟩ (fun H locs hP hS => ?_)
    refine lv_imul hx hb dX2_sumOf_11 ?_
    refine lv_isub hx hb dX2_sumOf_12 ?_
    refine lv_topi (fun x2_3 ex2_3 => ?_)
    replace hf := xw_lt_e ex2_3 hf
    refine lv_istore_n (lv' := [(2, .int x2_3), (0, .ref (xw_ad G b)), (1, .ref (xw_ad G a1))]) hx hb dX2_sumOf_13 rfl hl (by decide) rfl (fun ls hl => ?_)
    refine lv_iconst (v := 0) hx hb dX2_sumOf_14 (by decide) ?_
    refine lv_istore_n (lv' := [(3, .int (0 : Int32)), (2, .int x2_3), (0, .ref (xw_ad G b)), (1, .ref (xw_ad G a1))]) hx hb dX2_sumOf_15 rfl hl (by decide) rfl (fun ls hl => ?_)
    refine lv_iconst (v := 0) hx hb dX2_sumOf_16 (by decide) ?_
    refine lv_istore (lv' := [(4, .int (0 : Int32)), (3, .int (0 : Int32)), (2, .int x2_3), (0, .ref (xw_ad G b)), (1, .ref (xw_ad G a1))]) hx hb dX2_sumOf_17 hl (by decide) rfl (fun ls hl => ?_)
    exact J19 x2_3 (0 : Int32) (0 : Int32) hf H locs ls hP hS (lv_sub hl [3, 4, 2, 1, 0] rfl)
  exact HH s.heap [] hP hS
def fX4_rateBySum_20 (a0 : Nat) (a1 : Int32) (a2 : Int32) (a3 : Int32) (x4 : Int32) (v0 : Int32) (w0 : xw_M) : Option Int32 := xw_bp (fX7_at (a0 + 1) 6 a1 w0) (fun r4 => if r4 = 1 then some (a3 + x4) else (if r4 = 2 then xw_cc (¬ (2 : Int32) = 0) (some (a3 / (2 : Int32))) else (if r4 = 3 then some v0 else (if r4 = 4 then xw_cc (¬ (7 : Int32) = 0) (if ((w0.1 a0 9) - (w0.1 a0 9) / (7 : Int32) * (7 : Int32)) = 0 then some (0 : Int32) else some (a3 + x4)) else (if r4 = 5 then xw_cc (¬ (2 : Int32) = 0) (some ((a3 / (2 : Int32)) + (5 : Int32))) else (if r4 = 6 then xw_cc (¬ (4 : Int32) = 0) (xw_bp (fX7_at (a0 + 6) 24 ((a1 * (4 : Int32)) + (a2 - a2 / (4 : Int32) * (4 : Int32))) w0) (fun r16 => some (v0 + r16))) else (some a3)))))))
def fX4_rateBySum (a0 : Nat) (a1 : Int32) (a2 : Int32) (a3 : Int32) (w0 : xw_M) : Option Int32 := xw_bp (fX7_at (a0 + 2) 6 a1 w0) (fun r1 => if a2 < (5 : Int32) then fX4_rateBySum_20 a0 a1 a2 a3 r1 a3 w0 else fX4_rateBySum_20 a0 a1 a2 a3 r1 (1 : Int32) w0)
set_option maxHeartbeats 4000000 in
set_option maxRecDepth 100000 in
theorem kX4_rateBySum (l : Launch) (G : xw_G) (hG : xw_ok G) (a0 : Nat) (a1 : Int32) (a2 : Int32) (a3 : Int32) (ha0 : xw_sc a0) (w0 : xw_M) (r0 : Int32) (hf : fX4_rateBySum a0 a1 a2 a3 w0 = some r0) : xw_Ti l G yX4_rateBySum cX4_rateBySum 6 ((Option.some Jvm.ClassFile.FieldType.int)) (1) (21) [.ref (xw_ad G a0), .int a1, .int a2, .int a3] w0 r0 w0 := by
  unfold xw_Ti
  refine Met.ofW (cc := cX4_rateBySum) (maxL := 6) (ret := (Option.some Jvm.ClassFile.FieldType.int)) (by decide) rfl ?_
  intro p e s m args below meth c s₁ B hml hv
  obtain ⟨hargs, hP, hK, hE⟩ := hv
  have hx := B.exec
  have hb := B.bytes
  have hr := B.returns
  have hlk := B.notSynchronized
  have hB : CallFix p m c cX4_rateBySum 6 s args TB RX4 := ⟨hx, hb, hml, findClass_of_methodNamed B.named, fun q h => (atoms_spec (ws := Cond.code yX4_rateBySum cX4_rateBySum 6 ((Option.some Jvm.ClassFile.FieldType.int)) :: TB) B.pre) q (List.mem_cons_of_mem _ h)⟩
  have hS : va_S (xw_A G) s.heap s.heap [] := va_S.rf
  have hl := lv_entry [.ref (xw_ad G a0), .int a1, .int a2, .int a3] (n := 6) (Nat.le_of_ble_eq_true rfl)
  rw [show entryFrame m args 6 = entryFrame m ([.ref (xw_ad G a0), .int a1, .int a2, .int a3] : List Value).toArray 6 from by rw [hargs], lg_entry_eq]
  generalize (lg_sl [.ref (xw_ad G a0), .int a1, .int a2, .int a3] ++ List.replicate (6 - (lg_sl [.ref (xw_ad G a0), .int a1, .int a2, .int a3]).length) Slot.unset).toArray = ls at hl ⊢
  have hP : va_P (xw_D G) xw_cl (xw_W G w0) s.heap := hP
  have hl : lv_has ls 6 [(0, .ref (xw_ad G a0)), (1, .int a1), (2, .int a2), (3, .int a3)] := hl
  have HH : ∀ (H : Heap) (locs : List Loc) (hP : va_P (xw_D G) xw_cl (xw_W G w0) H) (hS : va_S (xw_A G) s.heap H locs), xw_Wi G p l e (xw_rm (1) (21)) s m args below meth c H locs r0 w0 (F0 m 0 ls []) := by
    intro H locs hP hS
    unfold fX4_rateBySum at hf
    have J20 : ∀ (x4 : Int32) (v0 : Int32) (hf : fX4_rateBySum_20 a0 a1 a2 a3 x4 v0 w0 = some r0) (H : Heap) (locs : List Loc) (ls : Array Slot) (hP : va_P (xw_D G) xw_cl (xw_W G w0) H) (hS : va_S (xw_A G) s.heap H locs) (hl : lv_has ls 6 [(0, .ref (xw_ad G a0)), (1, .int a1), (2, .int a2), (3, .int a3), (4, .int x4)]), xw_Wi G p l e (xw_rm (1) (21)) s m args below meth c H locs r0 w0 (F0 m 20 ls [.int v0]) := by
      intro x4 v0 hf H locs ls hP hS hl
      unfold fX4_rateBySum_20 at hf
      refine lv_istore (lv' := [(5, .int v0), (0, .ref (xw_ad G a0)), (1, .int a1), (2, .int a2), (3, .int a3), (4, .int x4)]) hx hb dX4_rateBySum_20 hl (by decide) rfl (fun ls hl => ?_)
      refine lv_aload_n hx hb dX4_rateBySum_22 rfl (lv_at hl 1 rfl) ?_
      refine xw_get hB hK hP (xw_o5 G ha0) (C := RX5) (T := TX5) (N := 14) rfl TBi_X5 1 (by decide) tw_64 rfl rfl dX4_rateBySum_23 ?_
      refine lv_iload_n hx hb dX4_rateBySum_26 rfl (lv_at hl 2 rfl) ?_
      replace hf := xw_bp_e hf
      obtain ⟨r4, he5, hf⟩ := hf
      refine xw_Ni hB hK hE hS hP (As := [.ref (xw_ad G (a0 + 1)), .int a1]) (rest := []) (kX7_at l G hG (a0 + 1) 6 a1 (xw_a5_1 G ha0) w0 _ he5) (host := RX7) (by decide +kernel) tw_313 tw_312 tw_1 2 hs_X7_at ⟨Nat.le_of_ble_eq_true rfl, Nat.le_of_ble_eq_true rfl⟩ rfl hl.1 (Nat.le_of_ble_eq_true rfl) rfl dX4_rateBySum_27 ⟨Nat.zero_le _, Nat.zero_le _⟩ (fun H locs hP hS => ?_)
      by_cases c6 : r4 = 1
      · refine lv_tableIn (off := 38) (tgt := 68) hx hb dX4_rateBySum_30 (by rw [c6]; decide) (by rw [c6]; decide) (by rw [c6]; rfl) (by decide) ?_
        replace hf := xw_ip c6 hf
        refine lv_iload_n hx hb dX4_rateBySum_68 rfl (lv_at hl 4 rfl) ?_
        refine lv_iload hx hb dX4_rateBySum_69 (lv_at hl 5 rfl) ?_
        refine lv_iadd hx hb dX4_rateBySum_71 ?_
        have h0 := xw_so hf
        have h1 : w0 = w0 := rfl
        exact xw_iret hB hK hE hS hP hr hlk h0 h1 dX4_rateBySum_72
      · replace hf := xw_in' c6 hf
        by_cases c8 : r4 = 2
        · refine lv_tableIn (off := 43) (tgt := 73) hx hb dX4_rateBySum_30 (by rw [c8]; decide) (by rw [c8]; decide) (by rw [c8]; rfl) (by decide) ?_
          replace hf := xw_ip c8 hf
          refine lv_iload_n hx hb dX4_rateBySum_73 rfl (lv_at hl 4 rfl) ?_
          refine lv_iconst (v := 2) hx hb dX4_rateBySum_74 (by decide) ?_
          replace hf := xw_cc_e hf
          obtain ⟨hd7, hf⟩ := hf
          refine lv_idiv hx hb dX4_rateBySum_75 hd7 ?_
          have h0 := xw_so hf
          have h1 : w0 = w0 := rfl
          exact xw_iret hB hK hE hS hP hr hlk h0 h1 dX4_rateBySum_76
        · replace hf := xw_in' c8 hf
          by_cases c9 : r4 = 3
          · refine lv_tableIn (off := 47) (tgt := 77) hx hb dX4_rateBySum_30 (by rw [c9]; decide) (by rw [c9]; decide) (by rw [c9]; rfl) (by decide) ?_
            replace hf := xw_ip c9 hf
            refine lv_iload hx hb dX4_rateBySum_77 (lv_at hl 0 rfl) ?_
            have h0 := xw_so hf
            have h1 : w0 = w0 := rfl
            exact xw_iret hB hK hE hS hP hr hlk h0 h1 dX4_rateBySum_79
          · replace hf := xw_in' c9 hf
            by_cases c12 : r4 = 4
            · refine lv_tableIn (off := 50) (tgt := 80) hx hb dX4_rateBySum_30 (by rw [c12]; decide) (by rw [c12]; decide) (by rw [c12]; rfl) (by decide) ?_
              replace hf := xw_ip c12 hf
              refine lv_aload_n hx hb dX4_rateBySum_80 rfl (lv_at hl 1 rfl) ?_
              refine xw_get hB hK hP (xw_o5 G ha0) (C := RX5) (T := TX5) (N := 14) rfl TBi_X5 9 (by decide) tw_89 rfl rfl dX4_rateBySum_81 ?_
              refine lv_bipush (v := 7) hx hb dX4_rateBySum_84 (by decide) ?_
              replace hf := xw_cc_e hf
              obtain ⟨hd10, hf⟩ := hf
              refine lv_irem hx hb dX4_rateBySum_86 hd10 ?_
              refine lv_if_ne (tgt := 94) hx hb dX4_rateBySum_87 (by decide) (fun c11 => ?_) (fun c11 => ?_)
              · replace hf := xw_in' c11 hf
                refine lv_iload_n hx hb dX4_rateBySum_94 rfl (lv_at hl 4 rfl) ?_
                refine lv_iload hx hb dX4_rateBySum_95 (lv_at hl 5 rfl) ?_
                refine lv_iadd hx hb dX4_rateBySum_97 ?_
                have h0 := xw_so hf
                have h1 : w0 = w0 := rfl
                exact xw_iret hB hK hE hS hP hr hlk h0 h1 dX4_rateBySum_98
              · replace hf := xw_ip c11 hf
                refine lv_iconst (v := 0) hx hb dX4_rateBySum_90 (by decide) ?_
                refine lv_goto (tgt := 98) hx hb dX4_rateBySum_91 (by decide) ?_
                have h0 := xw_so hf
                have h1 : w0 = w0 := rfl
                exact xw_iret hB hK hE hS hP hr hlk h0 h1 dX4_rateBySum_98
            · replace hf := xw_in' c12 hf
              by_cases c14 : r4 = 5
              · refine lv_tableIn (off := 69) (tgt := 99) hx hb dX4_rateBySum_30 (by rw [c14]; decide) (by rw [c14]; decide) (by rw [c14]; rfl) (by decide) ?_
                replace hf := xw_ip c14 hf
                refine lv_iload_n hx hb dX4_rateBySum_99 rfl (lv_at hl 4 rfl) ?_
                refine lv_iconst (v := 2) hx hb dX4_rateBySum_100 (by decide) ?_
                replace hf := xw_cc_e hf
                obtain ⟨hd13, hf⟩ := hf
                refine lv_idiv hx hb dX4_rateBySum_101 hd13 ?_
                refine lv_iconst (v := 5) hx hb dX4_rateBySum_102 (by decide) ?_
                refine lv_iadd hx hb dX4_rateBySum_103 ?_
                have h0 := xw_so hf
                have h1 : w0 = w0 := rfl
                exact xw_iret hB hK hE hS hP hr hlk h0 h1 dX4_rateBySum_104
              · replace hf := xw_in' c14 hf
                by_cases c18 : r4 = 6
                · refine lv_tableIn (off := 75) (tgt := 105) hx hb dX4_rateBySum_30 (by rw [c18]; decide) (by rw [c18]; decide) (by rw [c18]; rfl) (by decide) ?_
                  replace hf := xw_ip c18 hf
                  refine lv_iload hx hb dX4_rateBySum_105 (lv_at hl 0 rfl) ?_
                  refine lv_aload_n hx hb dX4_rateBySum_107 rfl (lv_at hl 1 rfl) ?_
                  refine xw_get hB hK hP (xw_o5 G ha0) (C := RX5) (T := TX5) (N := 14) rfl TBi_X5 6 (by decide) tw_81 rfl rfl dX4_rateBySum_108 ?_
                  refine lv_iload_n hx hb dX4_rateBySum_111 rfl (lv_at hl 2 rfl) ?_
                  refine lv_iconst (v := 4) hx hb dX4_rateBySum_112 (by decide) ?_
                  refine lv_imul hx hb dX4_rateBySum_113 ?_
                  refine lv_iload_n hx hb dX4_rateBySum_114 rfl (lv_at hl 3 rfl) ?_
                  refine lv_iconst (v := 4) hx hb dX4_rateBySum_115 (by decide) ?_
                  replace hf := xw_cc_e hf
                  obtain ⟨hd15, hf⟩ := hf
                  refine lv_irem hx hb dX4_rateBySum_116 hd15 ?_
                  refine lv_iadd hx hb dX4_rateBySum_117 ?_
                  replace hf := xw_bp_e hf
                  obtain ⟨r16, he17, hf⟩ := hf
                  refine xw_Ni hB hK hE hS hP (As := [.ref (xw_ad G (a0 + 6)), .int ((a1 * (4 : Int32)) + (a2 - a2 / (4 : Int32) * (4 : Int32)))]) (rest := [.int v0]) (kX7_at l G hG (a0 + 6) 24 ((a1 * (4 : Int32)) + (a2 - a2 / (4 : Int32) * (4 : Int32))) (xw_a5_6 G ha0) w0 _ he17) (host := RX7) (by decide +kernel) tw_313 tw_312 tw_1 2 hs_X7_at ⟨Nat.le_of_ble_eq_true rfl, Nat.le_of_ble_eq_true rfl⟩ rfl hl.1 (Nat.le_of_ble_eq_true rfl) rfl dX4_rateBySum_118 ⟨Nat.zero_le _, Nat.zero_le _⟩ (fun H locs hP hS => ?_)
                  refine lv_iadd hx hb dX4_rateBySum_121 ?_
                  have h0 := xw_so hf
                  have h1 : w0 = w0 := rfl
                  exact xw_iret hB hK hE hS hP hr hlk h0 h1 dX4_rateBySum_122
                · replace hf := xw_in' c18 hf
                  refine lv_tableOut (tgt := 123) hx hb dX4_rateBySum_30 (by have n0 := lv_neT c6 (by decide : (1 : Int32).toInt = 1); have n1 := lv_neT c8 (by decide : (2 : Int32).toInt = 2); have n2 := lv_neT c9 (by decide : (3 : Int32).toInt = 3); have n3 := lv_neT c12 (by decide : (4 : Int32).toInt = 4); have n4 := lv_neT c14 (by decide : (5 : Int32).toInt = 5); have n5 := lv_neT c18 (by decide : (6 : Int32).toInt = 6); omega) (by decide) ?_
                  refine lv_iload_n hx hb dX4_rateBySum_123 rfl (lv_at hl 4 rfl) ?_
                  have h0 := xw_so hf
                  have h1 : w0 = w0 := rfl
                  exact xw_iret hB hK hE hS hP hr hlk h0 h1 dX4_rateBySum_124
    refine lv_aload_n hx hb dX4_rateBySum_0 rfl (lv_at hl 0 rfl) ?_
    refine xw_get hB hK hP (xw_o5 G ha0) (C := RX5) (T := TX5) (N := 14) rfl TBi_X5 2 (by decide) tw_68 rfl rfl dX4_rateBySum_1 ?_
    refine lv_iload_n hx hb dX4_rateBySum_4 rfl (lv_at hl 1 rfl) ?_
    replace hf := xw_bp_e hf
    obtain ⟨r1, he2, hf⟩ := hf
    refine xw_Ni hB hK hE hS hP (As := [.ref (xw_ad G (a0 + 2)), .int a1]) (rest := []) (kX7_at l G hG (a0 + 2) 6 a1 (xw_a5_2 G ha0) w0 _ he2) (host := RX7) (by decide +kernel) tw_313 tw_312 tw_1 2 hs_X7_at ⟨Nat.le_of_ble_eq_true rfl, Nat.le_of_ble_eq_true rfl⟩ rfl hl.1 (Nat.le_of_ble_eq_true rfl) rfl dX4_rateBySum_5 ⟨Nat.zero_le _, Nat.zero_le _⟩ (fun H locs hP hS => ?_)
    refine lv_istore (lv' := [(4, .int r1), (0, .ref (xw_ad G a0)), (1, .int a1), (2, .int a2), (3, .int a3)]) hx hb dX4_rateBySum_8 hl (by decide) rfl (fun ls hl => ?_)
    refine lv_iload_n hx hb dX4_rateBySum_10 rfl (lv_at hl 3 rfl) ?_
    refine lv_iconst (v := 5) hx hb dX4_rateBySum_11 (by decide) ?_
    refine lv_icmp_lt (tgt := 19) hx hb dX4_rateBySum_12 (by decide) (fun c3 => ?_) (fun c3 => ?_)
    · replace hf := xw_ip c3 hf
      refine lv_iload_n hx hb dX4_rateBySum_19 rfl (lv_at hl 4 rfl) ?_
      exact J20 r1 a3 hf H locs ls hP hS (lv_sub hl [1, 2, 3, 4, 0] rfl)
    · replace hf := xw_in' c3 hf
      refine lv_iconst (v := 1) hx hb dX4_rateBySum_15 (by decide) ?_
      refine lv_goto (tgt := 20) hx hb dX4_rateBySum_16 (by decide) ?_
      exact J20 r1 (1 : Int32) hf H locs ls hP hS (lv_sub hl [1, 2, 3, 4, 0] rfl)
  exact HH s.heap [] hP hS
def fX4_look_147 (n : Nat) (a1 : Nat) (a2 : Nat) (w : xw_M) : Option (Unit × xw_M) := some ((), w)
def fX4_look_141 (n : Nat) (a1 : Nat) (a2 : Nat) (x3 : Int32) (w : xw_M) : Option ((Int32 × xw_M) ⊕ (xw_M)) := xw_lt (x3 + 1) (fun x3_36 => some (.inl (x3_36, w)))
def fX4_look_b85 (n : Nat) (a1 : Nat) (a2 : Nat) (x3 : Int32) (x4 : Int32) (w : xw_M) : Option ((Int32 × xw_M) ⊕ (xw_M)) := if (10 : Int32) ≤ x4 then some (.inr w) else xw_b (fX7_put 66 6 (4 : Int32) x4 w) (fun (_ : Unit) w26 => xw_bp (fX2_sumOf n a2 66 6 w26) (fun r28 => xw_bp (fX4_rateBySum a1 x3 x4 r28 w26) (fun r30 => xw_b (fX7_put 65 60 ((x3 * (10 : Int32)) + x4) r30 w26) (fun (_ : Unit) w33 => xw_lt (x4 + 1) (fun x4_35 => some (.inl (x4_35, w33)))))))
def fX4_look_85 (n : Nat) (a1 : Nat) (a2 : Nat) (x3 : Int32) (x4 : Int32) (w : xw_M) : Option ((Int32 × xw_M) ⊕ (xw_M)) := xw_bp (xw_it (fun z => fX4_look_b85 n a1 a2 x3 z.1 z.2) n (x4, w)) (fun z => (fun (w : xw_M) => fX4_look_141 n a1 a2 x3 w) z)
def fX4_look_b17 (n : Nat) (a1 : Nat) (a2 : Nat) (x3 : Int32) (w : xw_M) : Option ((Int32 × xw_M) ⊕ (xw_M)) := if (w.1 a1 0) ≤ x3 then some (.inr w) else xw_b (fX7_put 66 6 (0 : Int32) x3 w) (fun (_ : Unit) w7 => xw_bp (fX7_at (a1 + 1) 6 x3 w7) (fun r9 => xw_b (fX7_put 66 6 (1 : Int32) r9 w7) (fun (_ : Unit) w12 => xw_bp (fX7_at (a1 + 2) 6 x3 w12) (fun r14 => xw_b (fX7_put 66 6 (2 : Int32) r14 w12) (fun (_ : Unit) w17 => xw_bp (fX7_at (a1 + 3) 6 x3 w17) (fun r19 => xw_b (fX7_put 66 6 (3 : Int32) r19 w17) (fun (_ : Unit) w22 => fX4_look_85 n a1 a2 x3 (0 : Int32) w22)))))))
def fX4_look_17 (n : Nat) (a1 : Nat) (a2 : Nat) (x3 : Int32) (w : xw_M) : Option (Unit × xw_M) := xw_bp (xw_it (fun z => fX4_look_b17 n a1 a2 z.1 z.2) n (x3, w)) (fun z => (fun (w : xw_M) => fX4_look_147 n a1 a2 w) z)
def fX4_look (n : Nat) (a1 : Nat) (a2 : Nat) (w0 : xw_M) : Option (Unit × xw_M) := xw_cc (¬ (10 : Int32) = 0) (xw_b (fX7_put 66 6 (5 : Int32) ((w0.1 a1 9) - (w0.1 a1 9) / (10 : Int32) * (10 : Int32)) w0) (fun (_ : Unit) w3 => fX4_look_17 n a1 a2 (0 : Int32) w3))
set_option maxHeartbeats 4000000 in
set_option maxRecDepth 100000 in
theorem kX4_look (l : Launch) (G : xw_G) (hG : xw_ok G) (n : Nat) (a1 : Nat) (a2 : Nat) (ha1 : xw_sc a1) (ha2 : xw_pa a2) (w0 : xw_M) (r0 : Unit) (wz : xw_M) (hf : fX4_look n a1 a2 w0 = some (r0, wz)) : xw_Tv l G yX4_look cX4_look 6 ((Option.none : Option Jvm.ClassFile.FieldType)) (3) (76) [.ref (xw_ad G 64), .ref (xw_ad G a1), .ref (xw_ad G a2)] w0 r0 wz := by
  unfold xw_Tv
  refine Met.ofW (cc := cX4_look) (maxL := 6) (ret := (Option.none : Option Jvm.ClassFile.FieldType)) (by decide) rfl ?_
  intro p e s m args below meth c s₁ B hml hv
  obtain ⟨hargs, hP, hK, hE⟩ := hv
  have hx := B.exec
  have hb := B.bytes
  have hr := B.returns
  have hlk := B.notSynchronized
  have hB : CallFix p m c cX4_look 6 s args TB RX4 := ⟨hx, hb, hml, findClass_of_methodNamed B.named, fun q h => (atoms_spec (ws := Cond.code yX4_look cX4_look 6 ((Option.none : Option Jvm.ClassFile.FieldType)) :: TB) B.pre) q (List.mem_cons_of_mem _ h)⟩
  have hS : va_S (xw_A G) s.heap s.heap [] := va_S.rf
  have hl := lv_entry [.ref (xw_ad G 64), .ref (xw_ad G a1), .ref (xw_ad G a2)] (n := 6) (Nat.le_of_ble_eq_true rfl)
  rw [show entryFrame m args 6 = entryFrame m ([.ref (xw_ad G 64), .ref (xw_ad G a1), .ref (xw_ad G a2)] : List Value).toArray 6 from by rw [hargs], lg_entry_eq]
  generalize (lg_sl [.ref (xw_ad G 64), .ref (xw_ad G a1), .ref (xw_ad G a2)] ++ List.replicate (6 - (lg_sl [.ref (xw_ad G 64), .ref (xw_ad G a1), .ref (xw_ad G a2)]).length) Slot.unset).toArray = ls at hl ⊢
  have hP : va_P (xw_D G) xw_cl (xw_W G w0) s.heap := hP
  have hl : lv_has ls 6 [(0, .ref (xw_ad G 64)), (1, .ref (xw_ad G a1)), (2, .ref (xw_ad G a2))] := hl
  have HH : ∀ (H : Heap) (locs : List Loc) (hP : va_P (xw_D G) xw_cl (xw_W G w0) H) (hS : va_S (xw_A G) s.heap H locs), xw_Wv G p l e (xw_rm (3) (76)) s m args below meth c H locs r0 wz (F0 m 0 ls []) := by
    intro H locs hP hS
    unfold fX4_look at hf
    have J147 : ∀ (w : xw_M) (hf : fX4_look_147 n a1 a2 w = some (r0, wz)) (H : Heap) (locs : List Loc) (ls : Array Slot) (hP : va_P (xw_D G) xw_cl (xw_W G w) H) (hS : va_S (xw_A G) s.heap H locs) (hl : lv_has ls 6 []), xw_Wv G p l e (xw_rm (3) (76)) s m args below meth c H locs r0 wz (F0 m 147 ls []) := by
      intro w hf H locs ls hP hS hl
      unfold fX4_look_147 at hf
      obtain ⟨h0, h1⟩ := xw_s2 hf
      exact xw_vret hB hK hE hS hP hr hlk h1 dX4_look_147
    have J17 : ∀ (x3 : Int32) (w : xw_M) (hf : fX4_look_17 n a1 a2 x3 w = some (r0, wz)) (H : Heap) (locs : List Loc) (ls : Array Slot) (hP : va_P (xw_D G) xw_cl (xw_W G w) H) (hS : va_S (xw_A G) s.heap H locs) (hl : lv_has ls 6 [(0, .ref (xw_ad G 64)), (1, .ref (xw_ad G a1)), (2, .ref (xw_ad G a2)), (3, .int x3)]), xw_Wv G p l e (xw_rm (3) (76)) s m args below meth c H locs r0 wz (F0 m 17 ls []) := by
      intro x3 w hf H locs ls hP hS hl
      unfold fX4_look_17 at hf
      replace hf := xw_bp_e hf
      obtain ⟨bb17, hit17, hfx17⟩ := hf
      have XX17 : ∀ (w : xw_M) (hf : fX4_look_147 n a1 a2 w = some (r0, wz)) (H : Heap) (locs : List Loc) (ls : Array Slot) (hP : va_P (xw_D G) xw_cl (xw_W G w) H) (hS : va_S (xw_A G) s.heap H locs) (hl : lv_has ls 6 []), xw_Wv G p l e (xw_rm (3) (76)) s m args below meth c H locs r0 wz (F0 m 147 ls []) := by
        intro w hf H locs ls hP hS hl
        exact J147 w hf H locs ls hP hS (lv_sub hl [] rfl)
      have LL17 : ∀ (nn : Nat) (x3 : Int32) (w : xw_M) (hit : xw_it (fun z => fX4_look_b17 n a1 a2 z.1 z.2) nn (x3, w) = some bb17) (H : Heap) (locs : List Loc) (ls : Array Slot) (hP : va_P (xw_D G) xw_cl (xw_W G w) H) (hS : va_S (xw_A G) s.heap H locs) (hl : lv_has ls 6 [(0, .ref (xw_ad G 64)), (1, .ref (xw_ad G a1)), (2, .ref (xw_ad G a2)), (3, .int x3)]), xw_Wv G p l e (xw_rm (3) (76)) s m args below meth c H locs r0 wz (F0 m 17 ls []) := by
        intro nn
        induction nn with
        | zero => intro x3 w hit; exact (xw_it_0 hit).elim
        | succ nn ih17 =>
          intro x3 w hit H locs ls hP hS hl
          replace hit := xw_it_e hit
          obtain ⟨wv17, hf, hC17, hX17⟩ := hit
          replace hf : fX4_look_b17 n a1 a2 x3 w = some wv17 := hf
          unfold fX4_look_b17 at hf
          have J141 : ∀ (x3 : Int32) (w : xw_M) (hf : fX4_look_141 n a1 a2 x3 w = some wv17) (H : Heap) (locs : List Loc) (ls : Array Slot) (hP : va_P (xw_D G) xw_cl (xw_W G w) H) (hS : va_S (xw_A G) s.heap H locs) (hl : lv_has ls 6 [(0, .ref (xw_ad G 64)), (1, .ref (xw_ad G a1)), (2, .ref (xw_ad G a2)), (3, .int x3)]), xw_Wv G p l e (xw_rm (3) (76)) s m args below meth c H locs r0 wz (F0 m 141 ls []) := by
            intro x3 w hf H locs ls hP hS hl
            unfold fX4_look_141 at hf
            obtain ⟨x3_36, ex3_36⟩ : ∃ y : Int32, y = x3 + 1 := ⟨_, rfl⟩
            replace hf := xw_lt_e ex3_36 hf
            refine lv_iinc (v := x3_36) (lv' := [(3, .int x3_36), (0, .ref (xw_ad G 64)), (1, .ref (xw_ad G a1)), (2, .ref (xw_ad G a2))]) hx hb dX4_look_141 hl (k := 3) rfl (by rw [ex3_36]; rfl) (by decide) rfl (fun ls hl => ?_)
            refine lv_goto (tgt := 17) hx hb dX4_look_144 (by decide) ?_
            have hi := hC17 _ (xw_so hf).symm
            exact ih17 x3_36 w hi H locs ls hP hS (lv_sub hl [1, 2, 3, 0] rfl)
          have J85 : ∀ (x3 : Int32) (x4 : Int32) (w : xw_M) (hf : fX4_look_85 n a1 a2 x3 x4 w = some wv17) (H : Heap) (locs : List Loc) (ls : Array Slot) (hP : va_P (xw_D G) xw_cl (xw_W G w) H) (hS : va_S (xw_A G) s.heap H locs) (hl : lv_has ls 6 [(0, .ref (xw_ad G 64)), (1, .ref (xw_ad G a1)), (2, .ref (xw_ad G a2)), (3, .int x3), (4, .int x4)]), xw_Wv G p l e (xw_rm (3) (76)) s m args below meth c H locs r0 wz (F0 m 85 ls []) := by
            intro x3 x4 w hf H locs ls hP hS hl
            unfold fX4_look_85 at hf
            replace hf := xw_bp_e hf
            obtain ⟨bb85, hit85, hfx85⟩ := hf
            have XX85 : ∀ (w : xw_M) (hf : fX4_look_141 n a1 a2 x3 w = some wv17) (H : Heap) (locs : List Loc) (ls : Array Slot) (hP : va_P (xw_D G) xw_cl (xw_W G w) H) (hS : va_S (xw_A G) s.heap H locs) (hl : lv_has ls 6 [(0, .ref (xw_ad G 64)), (1, .ref (xw_ad G a1)), (2, .ref (xw_ad G a2)), (3, .int x3)]), xw_Wv G p l e (xw_rm (3) (76)) s m args below meth c H locs r0 wz (F0 m 141 ls []) := by
              intro w hf H locs ls hP hS hl
              exact J141 x3 w hf H locs ls hP hS (lv_sub hl [0, 1, 2, 3] rfl)
            have LL85 : ∀ (nn : Nat) (x4 : Int32) (w : xw_M) (hit : xw_it (fun z => fX4_look_b85 n a1 a2 x3 z.1 z.2) nn (x4, w) = some bb85) (H : Heap) (locs : List Loc) (ls : Array Slot) (hP : va_P (xw_D G) xw_cl (xw_W G w) H) (hS : va_S (xw_A G) s.heap H locs) (hl : lv_has ls 6 [(0, .ref (xw_ad G 64)), (1, .ref (xw_ad G a1)), (2, .ref (xw_ad G a2)), (3, .int x3), (4, .int x4)]), xw_Wv G p l e (xw_rm (3) (76)) s m args below meth c H locs r0 wz (F0 m 85 ls []) := by
              intro nn
              induction nn with
              | zero => intro x4 w hit; exact (xw_it_0 hit).elim
              | succ nn ih85 =>
                intro x4 w hit H locs ls hP hS hl
                replace hit := xw_it_e hit
                obtain ⟨wv85, hf, hC85, hX85⟩ := hit
                replace hf : fX4_look_b85 n a1 a2 x3 x4 w = some wv85 := hf
                unfold fX4_look_b85 at hf
                refine lv_iload hx hb dX4_look_85 (lv_at hl 4 rfl) ?_
                refine lv_bipush (v := 10) hx hb dX4_look_87 (by decide) ?_
                refine lv_icmp_ge (tgt := 141) hx hb dX4_look_89 (by decide) (fun c24 => ?_) (fun c24 => ?_)
                · replace hf := xw_ip c24 hf
                  have he85 := hX85 _ (xw_so hf).symm
                  rw [← he85] at hfx85
                  exact XX85 w hfx85 H locs ls hP hS (lv_sub hl [0, 1, 2, 3] rfl)
                · replace hf := xw_in' c24 hf
                  refine lv_aload_n hx hb dX4_look_92 rfl (lv_at hl 0 rfl) ?_
                  refine xw_get hB hK hP (xw_o4 G) (C := RX4) (T := TX4) (N := 3) rfl TBi_X4 1 (by decide) tw_201 rfl rfl dX4_look_93 ?_
                  refine lv_iconst (v := 4) hx hb dX4_look_96 (by decide) ?_
                  refine lv_iload hx hb dX4_look_97 (lv_at hl 4 rfl) ?_
                  replace hf := xw_b_e hf
                  obtain ⟨r25, w26, he27, hf⟩ := hf
                  refine xw_Nv hB hK hE hS hP (As := [.ref (xw_ad G 66), .int (4 : Int32), .int x4]) (rest := []) (kX7_put l G hG 66 6 (4 : Int32) x4 (xw_k66 G) w _ _ he27) (host := RX7) (by decide +kernel) tw_302 tw_301 tw_1 3 hs_X7_put ⟨Nat.le_of_ble_eq_true rfl, Nat.le_of_ble_eq_true rfl⟩ rfl hl.1 (Nat.le_of_ble_eq_true rfl) rfl dX4_look_99 ⟨Nat.zero_le _, Nat.zero_le _⟩ (fun H locs hP hS => ?_)
                  refine lv_aload_n hx hb dX4_look_102 rfl (lv_at hl 2 rfl) ?_
                  refine lv_aload_n hx hb dX4_look_103 rfl (lv_at hl 0 rfl) ?_
                  refine xw_get hB hK hP (xw_o4 G) (C := RX4) (T := TX4) (N := 3) rfl TBi_X4 1 (by decide) tw_201 rfl rfl dX4_look_104 ?_
                  replace hf := xw_bp_e hf
                  obtain ⟨r28, he29, hf⟩ := hf
                  refine xw_Vi hB hK hE hS hP (As := [.ref (xw_ad G 66)]) (rest := []) (kX2_sumOf l G hG n a2 66 6 ha2 (xw_k66 G) w26 _ he29) gs_X4_49 (xw_rc hK hP (C := RX2) (T := TX2) (N := 8) (xw_o2 G ha2) rfl) 1 hv_X2_sumOf ⟨Nat.le_of_ble_eq_true rfl, Nat.le_of_ble_eq_true rfl⟩ rfl hl.1 (Nat.le_of_ble_eq_true rfl) rfl dX4_look_107 ⟨Nat.zero_le _, Nat.zero_le _⟩ (fun H locs hP hS => ?_)
                  refine lv_istore (lv' := [(5, .int r28), (0, .ref (xw_ad G 64)), (1, .ref (xw_ad G a1)), (2, .ref (xw_ad G a2)), (3, .int x3), (4, .int x4)]) hx hb dX4_look_110 hl (by decide) rfl (fun ls hl => ?_)
                  refine lv_aload_n hx hb dX4_look_112 rfl (lv_at hl 1 rfl) ?_
                  refine xw_get hB hK hP (xw_o4 G) (C := RX4) (T := TX4) (N := 3) rfl TBi_X4 0 (by decide) tw_200 rfl rfl dX4_look_113 ?_
                  refine lv_iload_n hx hb dX4_look_116 rfl (lv_at hl 4 rfl) ?_
                  refine lv_bipush (v := 10) hx hb dX4_look_117 (by decide) ?_
                  refine lv_imul hx hb dX4_look_119 ?_
                  refine lv_iload hx hb dX4_look_120 (lv_at hl 5 rfl) ?_
                  refine lv_iadd hx hb dX4_look_122 ?_
                  refine lv_aload_n hx hb dX4_look_123 rfl (lv_at hl 2 rfl) ?_
                  refine lv_iload_n hx hb dX4_look_124 rfl (lv_at hl 4 rfl) ?_
                  refine lv_iload hx hb dX4_look_125 (lv_at hl 5 rfl) ?_
                  refine lv_iload hx hb dX4_look_127 (lv_at hl 0 rfl) ?_
                  replace hf := xw_bp_e hf
                  obtain ⟨r30, he31, hf⟩ := hf
                  refine xw_Si hB hK hE hS hP (As := [.ref (xw_ad G a1), .int x3, .int x4, .int r28]) (rest := [.int ((x3 * (10 : Int32)) + x4), .ref (xw_ad G 65)]) (kX4_rateBySum l G hG a1 x3 x4 r28 ha1 w26 _ he31) tw_348 tw_350 tw_349 tw_7 4 hs_X4_rateBySum ⟨Nat.le_of_ble_eq_true rfl, Nat.le_of_ble_eq_true rfl⟩ rfl hl.1 (Nat.le_of_ble_eq_true rfl) rfl dX4_look_129 ⟨Nat.zero_le _, Nat.zero_le _⟩ (fun H locs hP hS => ?_)
                  replace hf := xw_b_e hf
                  obtain ⟨r32, w33, he34, hf⟩ := hf
                  refine xw_Nv hB hK hE hS hP (As := [.ref (xw_ad G 65), .int ((x3 * (10 : Int32)) + x4), .int r30]) (rest := []) (kX7_put l G hG 65 60 ((x3 * (10 : Int32)) + x4) r30 (xw_k65 G) w26 _ _ he34) (host := RX7) (by decide +kernel) tw_302 tw_301 tw_1 3 hs_X7_put ⟨Nat.le_of_ble_eq_true rfl, Nat.le_of_ble_eq_true rfl⟩ rfl hl.1 (Nat.le_of_ble_eq_true rfl) rfl dX4_look_132 ⟨Nat.zero_le _, Nat.zero_le _⟩ (fun H locs hP hS => ?_)
                  obtain ⟨x4_35, ex4_35⟩ : ∃ y : Int32, y = x4 + 1 := ⟨_, rfl⟩
                  replace hf := xw_lt_e ex4_35 hf
                  refine lv_iinc (v := x4_35) (lv' := [(4, .int x4_35), (5, .int r28), (0, .ref (xw_ad G 64)), (1, .ref (xw_ad G a1)), (2, .ref (xw_ad G a2)), (3, .int x3)]) hx hb dX4_look_135 hl (k := 5) rfl (by rw [ex4_35]; rfl) (by decide) rfl (fun ls hl => ?_)
                  refine lv_goto (tgt := 85) hx hb dX4_look_138 (by decide) ?_
                  have hi := hC85 _ (xw_so hf).symm
                  exact ih85 x4_35 w33 hi H locs ls hP hS (lv_sub hl [2, 3, 4, 5, 0] rfl)
            exact LL85 n x4 w hit85 H locs ls hP hS hl
          refine lv_iload_n hx hb dX4_look_17 rfl (lv_at hl 3 rfl) ?_
          refine lv_aload_n hx hb dX4_look_18 rfl (lv_at hl 1 rfl) ?_
          refine xw_get hB hK hP (xw_o5 G ha1) (C := RX5) (T := TX5) (N := 14) rfl TBi_X5 0 (by decide) tw_61 rfl rfl dX4_look_19 ?_
          refine lv_icmp_ge (tgt := 147) hx hb dX4_look_22 (by decide) (fun c5 => ?_) (fun c5 => ?_)
          · replace hf := xw_ip c5 hf
            have he17 := hX17 _ (xw_so hf).symm
            rw [← he17] at hfx17
            exact XX17 w hfx17 H locs ls hP hS (lv_sub hl [] rfl)
          · replace hf := xw_in' c5 hf
            refine lv_aload_n hx hb dX4_look_25 rfl (lv_at hl 0 rfl) ?_
            refine xw_get hB hK hP (xw_o4 G) (C := RX4) (T := TX4) (N := 3) rfl TBi_X4 1 (by decide) tw_201 rfl rfl dX4_look_26 ?_
            refine lv_iconst (v := 0) hx hb dX4_look_29 (by decide) ?_
            refine lv_iload_n hx hb dX4_look_30 rfl (lv_at hl 3 rfl) ?_
            replace hf := xw_b_e hf
            obtain ⟨r6, w7, he8, hf⟩ := hf
            refine xw_Nv hB hK hE hS hP (As := [.ref (xw_ad G 66), .int (0 : Int32), .int x3]) (rest := []) (kX7_put l G hG 66 6 (0 : Int32) x3 (xw_k66 G) w _ _ he8) (host := RX7) (by decide +kernel) tw_302 tw_301 tw_1 3 hs_X7_put ⟨Nat.le_of_ble_eq_true rfl, Nat.le_of_ble_eq_true rfl⟩ rfl hl.1 (Nat.le_of_ble_eq_true rfl) rfl dX4_look_31 ⟨Nat.zero_le _, Nat.zero_le _⟩ (fun H locs hP hS => ?_)
            refine lv_aload_n hx hb dX4_look_34 rfl (lv_at hl 0 rfl) ?_
            refine xw_get hB hK hP (xw_o4 G) (C := RX4) (T := TX4) (N := 3) rfl TBi_X4 1 (by decide) tw_201 rfl rfl dX4_look_35 ?_
            refine lv_iconst (v := 1) hx hb dX4_look_38 (by decide) ?_
            refine lv_aload_n hx hb dX4_look_39 rfl (lv_at hl 1 rfl) ?_
            refine xw_get hB hK hP (xw_o5 G ha1) (C := RX5) (T := TX5) (N := 14) rfl TBi_X5 1 (by decide) tw_64 rfl rfl dX4_look_40 ?_
            refine lv_iload_n hx hb dX4_look_43 rfl (lv_at hl 3 rfl) ?_
            replace hf := xw_bp_e hf
            obtain ⟨r9, he10, hf⟩ := hf
            refine xw_Ni hB hK hE hS hP (As := [.ref (xw_ad G (a1 + 1)), .int x3]) (rest := [.int (1 : Int32), .ref (xw_ad G 66)]) (kX7_at l G hG (a1 + 1) 6 x3 (xw_a5_1 G ha1) w7 _ he10) (host := RX7) (by decide +kernel) tw_313 tw_312 tw_1 2 hs_X7_at ⟨Nat.le_of_ble_eq_true rfl, Nat.le_of_ble_eq_true rfl⟩ rfl hl.1 (Nat.le_of_ble_eq_true rfl) rfl dX4_look_44 ⟨Nat.zero_le _, Nat.zero_le _⟩ (fun H locs hP hS => ?_)
            replace hf := xw_b_e hf
            obtain ⟨r11, w12, he13, hf⟩ := hf
            refine xw_Nv hB hK hE hS hP (As := [.ref (xw_ad G 66), .int (1 : Int32), .int r9]) (rest := []) (kX7_put l G hG 66 6 (1 : Int32) r9 (xw_k66 G) w7 _ _ he13) (host := RX7) (by decide +kernel) tw_302 tw_301 tw_1 3 hs_X7_put ⟨Nat.le_of_ble_eq_true rfl, Nat.le_of_ble_eq_true rfl⟩ rfl hl.1 (Nat.le_of_ble_eq_true rfl) rfl dX4_look_47 ⟨Nat.zero_le _, Nat.zero_le _⟩ (fun H locs hP hS => ?_)
            refine lv_aload_n hx hb dX4_look_50 rfl (lv_at hl 0 rfl) ?_
            refine xw_get hB hK hP (xw_o4 G) (C := RX4) (T := TX4) (N := 3) rfl TBi_X4 1 (by decide) tw_201 rfl rfl dX4_look_51 ?_
            refine lv_iconst (v := 2) hx hb dX4_look_54 (by decide) ?_
            refine lv_aload_n hx hb dX4_look_55 rfl (lv_at hl 1 rfl) ?_
            refine xw_get hB hK hP (xw_o5 G ha1) (C := RX5) (T := TX5) (N := 14) rfl TBi_X5 2 (by decide) tw_68 rfl rfl dX4_look_56 ?_
            refine lv_iload_n hx hb dX4_look_59 rfl (lv_at hl 3 rfl) ?_
            replace hf := xw_bp_e hf
            obtain ⟨r14, he15, hf⟩ := hf
            refine xw_Ni hB hK hE hS hP (As := [.ref (xw_ad G (a1 + 2)), .int x3]) (rest := [.int (2 : Int32), .ref (xw_ad G 66)]) (kX7_at l G hG (a1 + 2) 6 x3 (xw_a5_2 G ha1) w12 _ he15) (host := RX7) (by decide +kernel) tw_313 tw_312 tw_1 2 hs_X7_at ⟨Nat.le_of_ble_eq_true rfl, Nat.le_of_ble_eq_true rfl⟩ rfl hl.1 (Nat.le_of_ble_eq_true rfl) rfl dX4_look_60 ⟨Nat.zero_le _, Nat.zero_le _⟩ (fun H locs hP hS => ?_)
            replace hf := xw_b_e hf
            obtain ⟨r16, w17, he18, hf⟩ := hf
            refine xw_Nv hB hK hE hS hP (As := [.ref (xw_ad G 66), .int (2 : Int32), .int r14]) (rest := []) (kX7_put l G hG 66 6 (2 : Int32) r14 (xw_k66 G) w12 _ _ he18) (host := RX7) (by decide +kernel) tw_302 tw_301 tw_1 3 hs_X7_put ⟨Nat.le_of_ble_eq_true rfl, Nat.le_of_ble_eq_true rfl⟩ rfl hl.1 (Nat.le_of_ble_eq_true rfl) rfl dX4_look_63 ⟨Nat.zero_le _, Nat.zero_le _⟩ (fun H locs hP hS => ?_)
            refine lv_aload_n hx hb dX4_look_66 rfl (lv_at hl 0 rfl) ?_
            refine xw_get hB hK hP (xw_o4 G) (C := RX4) (T := TX4) (N := 3) rfl TBi_X4 1 (by decide) tw_201 rfl rfl dX4_look_67 ?_
            refine lv_iconst (v := 3) hx hb dX4_look_70 (by decide) ?_
            refine lv_aload_n hx hb dX4_look_71 rfl (lv_at hl 1 rfl) ?_
            refine xw_get hB hK hP (xw_o5 G ha1) (C := RX5) (T := TX5) (N := 14) rfl TBi_X5 3 (by decide) tw_72 rfl rfl dX4_look_72 ?_
            refine lv_iload_n hx hb dX4_look_75 rfl (lv_at hl 3 rfl) ?_
            replace hf := xw_bp_e hf
            obtain ⟨r19, he20, hf⟩ := hf
            refine xw_Ni hB hK hE hS hP (As := [.ref (xw_ad G (a1 + 3)), .int x3]) (rest := [.int (3 : Int32), .ref (xw_ad G 66)]) (kX7_at l G hG (a1 + 3) 6 x3 (xw_a5_3 G ha1) w17 _ he20) (host := RX7) (by decide +kernel) tw_313 tw_312 tw_1 2 hs_X7_at ⟨Nat.le_of_ble_eq_true rfl, Nat.le_of_ble_eq_true rfl⟩ rfl hl.1 (Nat.le_of_ble_eq_true rfl) rfl dX4_look_76 ⟨Nat.zero_le _, Nat.zero_le _⟩ (fun H locs hP hS => ?_)
            replace hf := xw_b_e hf
            obtain ⟨r21, w22, he23, hf⟩ := hf
            refine xw_Nv hB hK hE hS hP (As := [.ref (xw_ad G 66), .int (3 : Int32), .int r19]) (rest := []) (kX7_put l G hG 66 6 (3 : Int32) r19 (xw_k66 G) w17 _ _ he23) (host := RX7) (by decide +kernel) tw_302 tw_301 tw_1 3 hs_X7_put ⟨Nat.le_of_ble_eq_true rfl, Nat.le_of_ble_eq_true rfl⟩ rfl hl.1 (Nat.le_of_ble_eq_true rfl) rfl dX4_look_79 ⟨Nat.zero_le _, Nat.zero_le _⟩ (fun H locs hP hS => ?_)
            refine lv_iconst (v := 0) hx hb dX4_look_82 (by decide) ?_
            refine lv_istore (lv' := [(4, .int (0 : Int32)), (0, .ref (xw_ad G 64)), (1, .ref (xw_ad G a1)), (2, .ref (xw_ad G a2)), (3, .int x3)]) hx hb dX4_look_83 hl (by decide) rfl (fun ls hl => ?_)
            exact J85 x3 (0 : Int32) w22 hf H locs ls hP hS (lv_sub hl [1, 2, 3, 4, 0] rfl)
      exact LL17 n x3 w hit17 H locs ls hP hS hl
    refine lv_aload_n hx hb dX4_look_0 rfl (lv_at hl 0 rfl) ?_
    refine xw_get hB hK hP (xw_o4 G) (C := RX4) (T := TX4) (N := 3) rfl TBi_X4 1 (by decide) tw_201 rfl rfl dX4_look_1 ?_
    refine lv_iconst (v := 5) hx hb dX4_look_4 (by decide) ?_
    refine lv_aload_n hx hb dX4_look_5 rfl (lv_at hl 1 rfl) ?_
    refine xw_get hB hK hP (xw_o5 G ha1) (C := RX5) (T := TX5) (N := 14) rfl TBi_X5 9 (by decide) tw_89 rfl rfl dX4_look_6 ?_
    refine lv_bipush (v := 10) hx hb dX4_look_9 (by decide) ?_
    replace hf := xw_cc_e hf
    obtain ⟨hd1, hf⟩ := hf
    refine lv_irem hx hb dX4_look_11 hd1 ?_
    replace hf := xw_b_e hf
    obtain ⟨r2, w3, he4, hf⟩ := hf
    refine xw_Nv hB hK hE hS hP (As := [.ref (xw_ad G 66), .int (5 : Int32), .int ((w0.1 a1 9) - (w0.1 a1 9) / (10 : Int32) * (10 : Int32))]) (rest := []) (kX7_put l G hG 66 6 (5 : Int32) ((w0.1 a1 9) - (w0.1 a1 9) / (10 : Int32) * (10 : Int32)) (xw_k66 G) w0 _ _ he4) (host := RX7) (by decide +kernel) tw_302 tw_301 tw_1 3 hs_X7_put ⟨Nat.le_of_ble_eq_true rfl, Nat.le_of_ble_eq_true rfl⟩ rfl hl.1 (Nat.le_of_ble_eq_true rfl) rfl dX4_look_12 ⟨Nat.zero_le _, Nat.zero_le _⟩ (fun H locs hP hS => ?_)
    refine lv_iconst (v := 0) hx hb dX4_look_15 (by decide) ?_
    refine lv_istore_n (lv' := [(3, .int (0 : Int32)), (0, .ref (xw_ad G 64)), (1, .ref (xw_ad G a1)), (2, .ref (xw_ad G a2))]) hx hb dX4_look_16 rfl hl (by decide) rfl (fun ls hl => ?_)
    exact J17 (0 : Int32) w3 hf H locs ls hP hS (lv_sub hl [1, 2, 3, 0] rfl)
  exact HH s.heap [] hP hS
