def fX7_image (w0 : xw_M) : Option (Int32 × xw_M) := xw_b (fX5_takeAfter 33 1 w0) (fun (_ : Unit) w2 => xw_lt (xw_si w2 0 3 (1 : Int32)) (fun w4 => some (w4.1 1 0, w4)))
set_option maxHeartbeats 4000000 in
set_option maxRecDepth 100000 in
theorem kX7_image (l : Launch) (G : xw_G) (hG : xw_ok G) (w0 : xw_M) (r0 : Int32) (wz : xw_M) (hf : fX7_image w0 = some (r0, wz)) : xw_Ti l G yX7_image cX7_image 1 ((Option.some Jvm.ClassFile.FieldType.int)) (4) (123) [.ref (xw_ad G 0)] w0 r0 wz := by
  unfold xw_Ti
  refine Met.ofW (cc := cX7_image) (maxL := 1) (ret := (Option.some Jvm.ClassFile.FieldType.int)) (by decide) rfl ?_
  intro p e s m args below meth c s₁ B hml hv
  obtain ⟨hargs, hP, hK, hE⟩ := hv
  have hx := B.exec
  have hb := B.bytes
  have hr := B.returns
  have hlk := B.notSynchronized
  have hB : CallFix p m c cX7_image 1 s args TB RX7 := ⟨hx, hb, hml, findClass_of_methodNamed B.named, fun q h => (atoms_spec (ws := Cond.code yX7_image cX7_image 1 ((Option.some Jvm.ClassFile.FieldType.int)) :: TB) B.pre) q (List.mem_cons_of_mem _ h)⟩
  have hS : va_S (xw_A G) s.heap s.heap [] := va_S.rf
  have hl := lv_entry [.ref (xw_ad G 0)] (n := 1) (Nat.le_of_ble_eq_true rfl)
  rw [show entryFrame m args 1 = entryFrame m ([.ref (xw_ad G 0)] : List Value).toArray 1 from by rw [hargs], lg_entry_eq]
  generalize (lg_sl [.ref (xw_ad G 0)] ++ List.replicate (1 - (lg_sl [.ref (xw_ad G 0)]).length) Slot.unset).toArray = ls at hl ⊢
  have hP : va_P (xw_D G) xw_cl (xw_W G w0) s.heap := hP
  have hl : lv_has ls 1 [(0, .ref (xw_ad G 0))] := hl
  have HH : ∀ (H : Heap) (locs : List Loc) (hP : va_P (xw_D G) xw_cl (xw_W G w0) H) (hS : va_S (xw_A G) s.heap H locs), xw_Wi G p l e (xw_rm (4) (123)) s m args below meth c H locs r0 wz (F0 m 0 ls []) := by
    intro H locs hP hS
    unfold fX7_image at hf
    refine lv_aload_n hx hb dX7_image_0 rfl (lv_at hl 0 rfl) ?_
    refine xw_get hB hK hP (xw_o7 G) (C := RX7) (T := TX7) (N := 11) rfl TBi_X7 2 (by decide) tw_257 rfl rfl dX7_image_1 ?_
    refine lv_aload_n hx hb dX7_image_4 rfl (lv_at hl 0 rfl) ?_
    refine xw_get hB hK hP (xw_o7 G) (C := RX7) (T := TX7) (N := 11) rfl TBi_X7 0 (by decide) tw_255 rfl rfl dX7_image_5 ?_
    replace hf := xw_b_e hf
    obtain ⟨r1, w2, he3, hf⟩ := hf
    refine xw_Vv hB hK hE hS hP (As := [.ref (xw_ad G 1)]) (rest := []) (kX5_takeAfter l G hG 33 1 (Or.inr (Or.inr rfl)) (Or.inl rfl) w0 _ _ he3) gs_X7_191 (xw_rc hK hP (C := RX5) (T := TX5) (N := 14) (xw_o5 G (Or.inr (Or.inr rfl))) rfl) 1 hv_X5_takeAfter ⟨Nat.le_of_ble_eq_true rfl, Nat.le_of_ble_eq_true rfl⟩ rfl hl.1 (Nat.le_of_ble_eq_true rfl) rfl dX7_image_8 ⟨Nat.zero_le _, Nat.zero_le _⟩ (fun H locs hP hS => ?_)
    refine lv_aload_n hx hb dX7_image_11 rfl (lv_at hl 0 rfl) ?_
    refine lv_iconst (v := 1) hx hb dX7_image_12 (by decide) ?_
    refine xw_put hG hB hK hS hP (x := (1 : Int32)) (xw_o7 G) (C := RX7) (T := TX7) (N := 11) rfl TBi_X7 tyX7 tyX7_ok nmX7 3 (by decide) tw_258 rfl rfl rfl rfl rfl (Nat.le_of_ble_eq_true rfl) rfl dX7_image_13 (fun w4 ew4 H locs hP hS => ?_)
    replace hf := xw_lt_e ew4 hf
    refine lv_aload_n hx hb dX7_image_16 rfl (lv_at hl 0 rfl) ?_
    refine xw_get hB hK hP (xw_o7 G) (C := RX7) (T := TX7) (N := 11) rfl TBi_X7 0 (by decide) tw_255 rfl rfl dX7_image_17 ?_
    refine xw_get hB hK hP (xw_o5 G (Or.inl rfl)) (C := RX5) (T := TX5) (N := 14) rfl TBi_X5 0 (by decide) tw_62 rfl rfl dX7_image_20 ?_
    obtain ⟨h0, h1⟩ := xw_s2 hf
    exact xw_iret hB hK hE hS hP hr hlk h0 h1 dX7_image_23
  exact HH s.heap [] hP hS
def fX7_undo (w0 : xw_M) : Option (Int32 × xw_M) := if (w0.1 0 3) = 0 then some ((-3 : Int32), w0) else xw_b (fX5_takeAfter 1 33 w0) (fun (_ : Unit) w3 => some (w3.1 1 0, w3))
set_option maxHeartbeats 4000000 in
set_option maxRecDepth 100000 in
theorem kX7_undo (l : Launch) (G : xw_G) (hG : xw_ok G) (w0 : xw_M) (r0 : Int32) (wz : xw_M) (hf : fX7_undo w0 = some (r0, wz)) : xw_Ti l G yX7_undo cX7_undo 1 ((Option.some Jvm.ClassFile.FieldType.int)) (4) (123) [.ref (xw_ad G 0)] w0 r0 wz := by
  unfold xw_Ti
  refine Met.ofW (cc := cX7_undo) (maxL := 1) (ret := (Option.some Jvm.ClassFile.FieldType.int)) (by decide) rfl ?_
  intro p e s m args below meth c s₁ B hml hv
  obtain ⟨hargs, hP, hK, hE⟩ := hv
  have hx := B.exec
  have hb := B.bytes
  have hr := B.returns
  have hlk := B.notSynchronized
  have hB : CallFix p m c cX7_undo 1 s args TB RX7 := ⟨hx, hb, hml, findClass_of_methodNamed B.named, fun q h => (atoms_spec (ws := Cond.code yX7_undo cX7_undo 1 ((Option.some Jvm.ClassFile.FieldType.int)) :: TB) B.pre) q (List.mem_cons_of_mem _ h)⟩
  have hS : va_S (xw_A G) s.heap s.heap [] := va_S.rf
  have hl := lv_entry [.ref (xw_ad G 0)] (n := 1) (Nat.le_of_ble_eq_true rfl)
  rw [show entryFrame m args 1 = entryFrame m ([.ref (xw_ad G 0)] : List Value).toArray 1 from by rw [hargs], lg_entry_eq]
  generalize (lg_sl [.ref (xw_ad G 0)] ++ List.replicate (1 - (lg_sl [.ref (xw_ad G 0)]).length) Slot.unset).toArray = ls at hl ⊢
  have hP : va_P (xw_D G) xw_cl (xw_W G w0) s.heap := hP
  have hl : lv_has ls 1 [(0, .ref (xw_ad G 0))] := hl
  have HH : ∀ (H : Heap) (locs : List Loc) (hP : va_P (xw_D G) xw_cl (xw_W G w0) H) (hS : va_S (xw_A G) s.heap H locs), xw_Wi G p l e (xw_rm (4) (123)) s m args below meth c H locs r0 wz (F0 m 0 ls []) := by
    intro H locs hP hS
    unfold fX7_undo at hf
    refine lv_aload_n hx hb dX7_undo_0 rfl (lv_at hl 0 rfl) ?_
    refine xw_get hB hK hP (xw_o7 G) (C := RX7) (T := TX7) (N := 11) rfl TBi_X7 3 (by decide) tw_258 rfl rfl dX7_undo_1 ?_
    refine lv_if_ne (tgt := 10) hx hb dX7_undo_4 (by decide) (fun c1 => ?_) (fun c1 => ?_)
    · replace hf := xw_in' c1 hf
      refine lv_aload_n hx hb dX7_undo_10 rfl (lv_at hl 0 rfl) ?_
      refine xw_get hB hK hP (xw_o7 G) (C := RX7) (T := TX7) (N := 11) rfl TBi_X7 0 (by decide) tw_255 rfl rfl dX7_undo_11 ?_
      refine lv_aload_n hx hb dX7_undo_14 rfl (lv_at hl 0 rfl) ?_
      refine xw_get hB hK hP (xw_o7 G) (C := RX7) (T := TX7) (N := 11) rfl TBi_X7 2 (by decide) tw_257 rfl rfl dX7_undo_15 ?_
      replace hf := xw_b_e hf
      obtain ⟨r2, w3, he4, hf⟩ := hf
      refine xw_Vv hB hK hE hS hP (As := [.ref (xw_ad G 33)]) (rest := []) (kX5_takeAfter l G hG 1 33 (Or.inl rfl) (Or.inr (Or.inr rfl)) w0 _ _ he4) gs_X7_191 (xw_rc hK hP (C := RX5) (T := TX5) (N := 14) (xw_o5 G (Or.inl rfl)) rfl) 1 hv_X5_takeAfter ⟨Nat.le_of_ble_eq_true rfl, Nat.le_of_ble_eq_true rfl⟩ rfl hl.1 (Nat.le_of_ble_eq_true rfl) rfl dX7_undo_18 ⟨Nat.zero_le _, Nat.zero_le _⟩ (fun H locs hP hS => ?_)
      refine lv_aload_n hx hb dX7_undo_21 rfl (lv_at hl 0 rfl) ?_
      refine xw_get hB hK hP (xw_o7 G) (C := RX7) (T := TX7) (N := 11) rfl TBi_X7 0 (by decide) tw_255 rfl rfl dX7_undo_22 ?_
      refine xw_get hB hK hP (xw_o5 G (Or.inl rfl)) (C := RX5) (T := TX5) (N := 14) rfl TBi_X5 0 (by decide) tw_62 rfl rfl dX7_undo_25 ?_
      obtain ⟨h0, h1⟩ := xw_s2 hf
      exact xw_iret hB hK hE hS hP hr hlk h0 h1 dX7_undo_28
    · replace hf := xw_ip c1 hf
      refine lv_bipush (v := (-3)) hx hb dX7_undo_7 (by decide) ?_
      obtain ⟨h0, h1⟩ := xw_s2 hf
      exact xw_iret hB hK hE hS hP hr hlk h0 h1 dX7_undo_9
  exact HH s.heap [] hP hS
def fX0_clear (w0 : xw_M) : Option (Unit × xw_M) := xw_lt (xw_si w0 68 3 (0 : Int32)) (fun w1 => some ((), w1))
set_option maxHeartbeats 4000000 in
set_option maxRecDepth 100000 in
theorem kX0_clear (l : Launch) (G : xw_G) (hG : xw_ok G) (w0 : xw_M) (r0 : Unit) (wz : xw_M) (hf : fX0_clear w0 = some (r0, wz)) : xw_Tv l G yX0_clear cX0_clear 1 ((Option.none : Option Jvm.ClassFile.FieldType)) (0) (0) [.ref (xw_ad G 68)] w0 r0 wz := by
  unfold xw_Tv
  refine Met.ofW (cc := cX0_clear) (maxL := 1) (ret := (Option.none : Option Jvm.ClassFile.FieldType)) (by decide) rfl ?_
  intro p e s m args below meth c s₁ B hml hv
  obtain ⟨hargs, hP, hK, hE⟩ := hv
  have hx := B.exec
  have hb := B.bytes
  have hr := B.returns
  have hlk := B.notSynchronized
  have hB : CallFix p m c cX0_clear 1 s args TB RX0 := ⟨hx, hb, hml, findClass_of_methodNamed B.named, fun q h => (atoms_spec (ws := Cond.code yX0_clear cX0_clear 1 ((Option.none : Option Jvm.ClassFile.FieldType)) :: TB) B.pre) q (List.mem_cons_of_mem _ h)⟩
  have hS : va_S (xw_A G) s.heap s.heap [] := va_S.rf
  have hl := lv_entry [.ref (xw_ad G 68)] (n := 1) (Nat.le_of_ble_eq_true rfl)
  rw [show entryFrame m args 1 = entryFrame m ([.ref (xw_ad G 68)] : List Value).toArray 1 from by rw [hargs], lg_entry_eq]
  generalize (lg_sl [.ref (xw_ad G 68)] ++ List.replicate (1 - (lg_sl [.ref (xw_ad G 68)]).length) Slot.unset).toArray = ls at hl ⊢
  have hP : va_P (xw_D G) xw_cl (xw_W G w0) s.heap := hP
  have hl : lv_has ls 1 [(0, .ref (xw_ad G 68))] := hl
  have HH : ∀ (H : Heap) (locs : List Loc) (hP : va_P (xw_D G) xw_cl (xw_W G w0) H) (hS : va_S (xw_A G) s.heap H locs), xw_Wv G p l e (xw_rm (0) (0)) s m args below meth c H locs r0 wz (F0 m 0 ls []) := by
    intro H locs hP hS
    unfold fX0_clear at hf
    refine lv_aload_n hx hb dX0_clear_0 rfl (lv_at hl 0 rfl) ?_
    refine lv_iconst (v := 0) hx hb dX0_clear_1 (by decide) ?_
    refine xw_put hG hB hK hS hP (x := (0 : Int32)) (xw_o0 G) (C := RX0) (T := TX0) (N := 5) rfl TBi_X0 tyX0 tyX0_ok nmX0 3 (by decide) tw_219 rfl rfl rfl rfl rfl (Nat.le_of_ble_eq_true rfl) rfl dX0_clear_2 (fun w1 ew1 H locs hP hS => ?_)
    replace hf := xw_lt_e ew1 hf
    obtain ⟨h0, h1⟩ := xw_s2 hf
    exact xw_vret hB hK hE hS hP hr hlk h1 dX0_clear_5
  exact HH s.heap [] hP hS
def fX7_atS (n0 : Nat) (g0 : Nat → Int32) (a1 : Int32) : Option Int32 := if a1 < 0 then some (0 : Int32) else if (nI n0) ≤ a1 then some (0 : Int32) else xw_ck a1 n0 (some (g0 a1.toNatClampNeg))
set_option maxHeartbeats 4000000 in
set_option maxRecDepth 100000 in
theorem kX7_atS (l : Launch) (G : xw_G) (hG : xw_ok G) (n0 : Nat) (g0 : Nat → Int32) (a1 : Int32) (t0 : Nat) (ha0 : ∀ (U : State) (H : Heap), xw_Eh G U H → va_T .int t0 n0 (fun j => .int (g0 j)) (xw_A G) U H) (w0 : xw_M) (r0 : Int32) (hf : fX7_atS n0 g0 a1 = some r0) : xw_Ti l G yX7_at cX7_at 2 ((Option.some Jvm.ClassFile.FieldType.int)) (0) (0) [.ref t0, .int a1] w0 r0 w0 := by
  unfold xw_Ti
  refine Met.ofW (cc := cX7_at) (maxL := 2) (ret := (Option.some Jvm.ClassFile.FieldType.int)) (by decide) rfl ?_
  intro p e s m args below meth c s₁ B hml hv
  obtain ⟨hargs, hP, hK, hE⟩ := hv
  have hx := B.exec
  have hb := B.bytes
  have hr := B.returns
  have hlk := B.notSynchronized
  have hB : CallFix p m c cX7_at 2 s args TB RX7 := ⟨hx, hb, hml, findClass_of_methodNamed B.named, fun q h => (atoms_spec (ws := Cond.code yX7_at cX7_at 2 ((Option.some Jvm.ClassFile.FieldType.int)) :: TB) B.pre) q (List.mem_cons_of_mem _ h)⟩
  have hS : va_S (xw_A G) s.heap s.heap [] := va_S.rf
  have hl := lv_entry [.ref t0, .int a1] (n := 2) (Nat.le_of_ble_eq_true rfl)
  rw [show entryFrame m args 2 = entryFrame m ([.ref t0, .int a1] : List Value).toArray 2 from by rw [hargs], lg_entry_eq]
  generalize (lg_sl [.ref t0, .int a1] ++ List.replicate (2 - (lg_sl [.ref t0, .int a1]).length) Slot.unset).toArray = ls at hl ⊢
  have hP : va_P (xw_D G) xw_cl (xw_W G w0) s.heap := hP
  have hl : lv_has ls 2 [(0, .ref t0), (1, .int a1)] := hl
  have HH : ∀ (H : Heap) (locs : List Loc) (hP : va_P (xw_D G) xw_cl (xw_W G w0) H) (hS : va_S (xw_A G) s.heap H locs), xw_Wi G p l e (xw_rm (0) (0)) s m args below meth c H locs r0 w0 (F0 m 0 ls []) := by
    intro H locs hP hS
    unfold fX7_atS at hf
    refine lv_iload_n hx hb dX7_at_0 rfl (lv_at hl 1 rfl) ?_
    refine lv_if_lt (tgt := 16) hx hb dX7_at_1 (by decide) (fun c1 => ?_) (fun c1 => ?_)
    · replace hf := xw_ip c1 hf
      refine lv_iconst (v := 0) hx hb dX7_at_16 (by decide) ?_
      have h0 := xw_so hf
      have h1 : w0 = w0 := rfl
      exact xw_iret hB hK hE hS hP hr hlk h0 h1 dX7_at_17
    · replace hf := xw_in' c1 hf
      refine lv_iload_n hx hb dX7_at_4 rfl (lv_at hl 1 rfl) ?_
      refine lv_aload_n hx hb dX7_at_5 rfl (lv_at hl 0 rfl) ?_
      refine va_tlen hx hb (ha0 s s.heap hE.2.1) hS rfl dX7_at_6 ?_
      refine lv_icmp_ge (tgt := 16) hx hb dX7_at_7 (by decide) (fun c2 => ?_) (fun c2 => ?_)
      · replace hf := xw_ip c2 hf
        refine lv_iconst (v := 0) hx hb dX7_at_16 (by decide) ?_
        have h0 := xw_so hf
        have h1 : w0 = w0 := rfl
        exact xw_iret hB hK hE hS hP hr hlk h0 h1 dX7_at_17
      · replace hf := xw_in' c2 hf
        refine lv_aload_n hx hb dX7_at_10 rfl (lv_at hl 0 rfl) ?_
        refine lv_iload_n hx hb dX7_at_11 rfl (lv_at hl 1 rfl) ?_
        replace hf := xw_ck_e hf
        obtain ⟨hi3, hf⟩ := hf
        refine va_ti hx hb (ha0 s s.heap hE.2.1) hS hi3 rfl dX7_at_12 ?_
        refine lv_goto (tgt := 17) hx hb dX7_at_13 (by decide) ?_
        have h0 := xw_so hf
        have h1 : w0 = w0 := rfl
        exact xw_iret hB hK hE hS hP hr hlk h0 h1 dX7_at_17
  exact HH s.heap [] hP hS
def fX0_ownerOf_49 (n : Nat) (a0 : Int32) (a1 : Int32) : Option Int32 := some (0 : Int32)
def fX0_ownerOf_b4 (n : Nat) (a0 : Int32) (a1 : Int32) (x2 : Int32) (x3 : Int32) : Option ((Int32 × Int32) ⊕ ((Int32) ⊕ (Unit))) := if (nI 7) ≤ x3 then some (.inr (.inr ())) else if x2 ≤ 0 then some (.inr (.inr ())) else xw_bp (fX7_atS 21 xw_body ((a0 * (nI 7)) + x2)) (fun r3 => if r3 = 0 then xw_bp (fX7_atS 7 xw_above x2) (fun r6 => xw_lt (x3 + 1) (fun x3_8 => some (.inl (r6, x3_8)))) else some (.inr (.inl x2)))
def fX0_ownerOf_4 (n : Nat) (a0 : Int32) (a1 : Int32) (x2 : Int32) (x3 : Int32) : Option Int32 := xw_bp (xw_it (fun z => fX0_ownerOf_b4 n a0 a1 z.1 z.2) n (x2, x3)) (fun z => xw_su z (fun r => some r) (fun _ => fX0_ownerOf_49 n a0 a1))
def fX0_ownerOf (n : Nat) (a0 : Int32) (a1 : Int32) : Option Int32 := fX0_ownerOf_4 n a0 a1 a1 (0 : Int32)
set_option maxHeartbeats 4000000 in
set_option maxRecDepth 100000 in
theorem kX0_ownerOf (l : Launch) (G : xw_G) (hG : xw_ok G) (n : Nat) (a0 : Int32) (a1 : Int32) (w0 : xw_M) (r0 : Int32) (hf : fX0_ownerOf n a0 a1 = some r0) : xw_Ti l G yX0_ownerOf cX0_ownerOf 4 ((Option.some Jvm.ClassFile.FieldType.int)) (1) (21) [.int a0, .int a1] w0 r0 w0 := by
  unfold xw_Ti
  refine Met.ofW (cc := cX0_ownerOf) (maxL := 4) (ret := (Option.some Jvm.ClassFile.FieldType.int)) (by decide) rfl ?_
  intro p e s m args below meth c s₁ B hml hv
  obtain ⟨hargs, hP, hK, hE⟩ := hv
  have hx := B.exec
  have hb := B.bytes
  have hr := B.returns
  have hlk := B.notSynchronized
  have hB : CallFix p m c cX0_ownerOf 4 s args TB RX0 := ⟨hx, hb, hml, findClass_of_methodNamed B.named, fun q h => (atoms_spec (ws := Cond.code yX0_ownerOf cX0_ownerOf 4 ((Option.some Jvm.ClassFile.FieldType.int)) :: TB) B.pre) q (List.mem_cons_of_mem _ h)⟩
  have hS : va_S (xw_A G) s.heap s.heap [] := va_S.rf
  have hl := lv_entry [.int a0, .int a1] (n := 4) (Nat.le_of_ble_eq_true rfl)
  rw [show entryFrame m args 4 = entryFrame m ([.int a0, .int a1] : List Value).toArray 4 from by rw [hargs], lg_entry_eq]
  generalize (lg_sl [.int a0, .int a1] ++ List.replicate (4 - (lg_sl [.int a0, .int a1]).length) Slot.unset).toArray = ls at hl ⊢
  have hP : va_P (xw_D G) xw_cl (xw_W G w0) s.heap := hP
  have hl : lv_has ls 4 [(0, .int a0), (1, .int a1)] := hl
  have HH : ∀ (H : Heap) (locs : List Loc) (hP : va_P (xw_D G) xw_cl (xw_W G w0) H) (hS : va_S (xw_A G) s.heap H locs), xw_Wi G p l e (xw_rm (1) (21)) s m args below meth c H locs r0 w0 (F0 m 0 ls []) := by
    intro H locs hP hS
    unfold fX0_ownerOf at hf
    have J49 : ∀ (hf : fX0_ownerOf_49 n a0 a1 = some r0) (H : Heap) (locs : List Loc) (ls : Array Slot) (hP : va_P (xw_D G) xw_cl (xw_W G w0) H) (hS : va_S (xw_A G) s.heap H locs) (hl : lv_has ls 4 []), xw_Wi G p l e (xw_rm (1) (21)) s m args below meth c H locs r0 w0 (F0 m 49 ls []) := by
      intro hf H locs ls hP hS hl
      unfold fX0_ownerOf_49 at hf
      refine lv_iconst (v := 0) hx hb dX0_ownerOf_49 (by decide) ?_
      have h0 := xw_so hf
      have h1 : w0 = w0 := rfl
      exact xw_iret hB hK hE hS hP hr hlk h0 h1 dX0_ownerOf_50
    have J4 : ∀ (x2 : Int32) (x3 : Int32) (hf : fX0_ownerOf_4 n a0 a1 x2 x3 = some r0) (H : Heap) (locs : List Loc) (ls : Array Slot) (hP : va_P (xw_D G) xw_cl (xw_W G w0) H) (hS : va_S (xw_A G) s.heap H locs) (hl : lv_has ls 4 [(0, .int a0), (2, .int x2), (3, .int x3)]), xw_Wi G p l e (xw_rm (1) (21)) s m args below meth c H locs r0 w0 (F0 m 4 ls []) := by
      intro x2 x3 hf H locs ls hP hS hl
      unfold fX0_ownerOf_4 at hf
      replace hf := xw_bp_e hf
      obtain ⟨bb4, hit4, hfx4⟩ := hf
      have XX4 : ∀ (hf : fX0_ownerOf_49 n a0 a1 = some r0) (H : Heap) (locs : List Loc) (ls : Array Slot) (hP : va_P (xw_D G) xw_cl (xw_W G w0) H) (hS : va_S (xw_A G) s.heap H locs) (hl : lv_has ls 4 []), xw_Wi G p l e (xw_rm (1) (21)) s m args below meth c H locs r0 w0 (F0 m 49 ls []) := by
        intro hf H locs ls hP hS hl
        exact J49 hf H locs ls hP hS (lv_sub hl [] rfl)
      have LL4 : ∀ (nn : Nat) (x2 : Int32) (x3 : Int32) (hit : xw_it (fun z => fX0_ownerOf_b4 n a0 a1 z.1 z.2) nn (x2, x3) = some bb4) (H : Heap) (locs : List Loc) (ls : Array Slot) (hP : va_P (xw_D G) xw_cl (xw_W G w0) H) (hS : va_S (xw_A G) s.heap H locs) (hl : lv_has ls 4 [(0, .int a0), (2, .int x2), (3, .int x3)]), xw_Wi G p l e (xw_rm (1) (21)) s m args below meth c H locs r0 w0 (F0 m 4 ls []) := by
        intro nn
        induction nn with
        | zero => intro x2 x3 hit; exact (xw_it_0 hit).elim
        | succ nn ih4 =>
          intro x2 x3 hit H locs ls hP hS hl
          replace hit := xw_it_e hit
          obtain ⟨wv4, hf, hC4, hX4⟩ := hit
          replace hf : fX0_ownerOf_b4 n a0 a1 x2 x3 = some wv4 := hf
          unfold fX0_ownerOf_b4 at hf
          refine lv_iload_n hx hb dX0_ownerOf_4 rfl (lv_at hl 2 rfl) ?_
          refine xw_gsN hB hE hS (host := "FuneralDebts") (C := "FuneralDebts") (n := "ABOVE") (d := "[I") hE.2.1.1 (by decide +kernel) rfl dX0_ownerOf_5 ?_
          refine va_tlen hx hb (xw_sA0 s s.heap hE.2.1) hS rfl dX0_ownerOf_8 ?_
          refine lv_icmp_ge (tgt := 49) hx hb dX0_ownerOf_9 (by decide) (fun c1 => ?_) (fun c1 => ?_)
          · replace hf := xw_ip c1 hf
            have he4 := hX4 _ (xw_so hf).symm
            rw [← he4] at hfx4
            exact XX4  hfx4 H locs ls hP hS (lv_sub hl [] rfl)
          · replace hf := xw_in' c1 hf
            refine lv_iload_n hx hb dX0_ownerOf_12 rfl (lv_at hl 1 rfl) ?_
            refine lv_if_le (tgt := 49) hx hb dX0_ownerOf_13 (by decide) (fun c2 => ?_) (fun c2 => ?_)
            · replace hf := xw_ip c2 hf
              have he4 := hX4 _ (xw_so hf).symm
              rw [← he4] at hfx4
              exact XX4  hfx4 H locs ls hP hS (lv_sub hl [] rfl)
            · replace hf := xw_in' c2 hf
              refine xw_gs hB hS (C := "FuneralDebts$Actor") (n := "BODY") (d := "[I") hE.2.1.2.1 tw_670 rfl dX0_ownerOf_16 ?_
              refine lv_iload_n hx hb dX0_ownerOf_19 rfl (lv_at hl 0 rfl) ?_
              refine xw_gsN hB hE hS (host := "FuneralDebts") (C := "FuneralDebts") (n := "ABOVE") (d := "[I") hE.2.1.1 (by decide +kernel) rfl dX0_ownerOf_20 ?_
              refine va_tlen hx hb (xw_sA0 s s.heap hE.2.1) hS rfl dX0_ownerOf_23 ?_
              refine lv_imul hx hb dX0_ownerOf_24 ?_
              refine lv_iload_n hx hb dX0_ownerOf_25 rfl (lv_at hl 1 rfl) ?_
              refine lv_iadd hx hb dX0_ownerOf_26 ?_
              replace hf := xw_bp_e hf
              obtain ⟨r3, he4, hf⟩ := hf
              refine xw_Ni hB hK hE hS hP (As := [.ref (xw_sa G 1), .int ((a0 * (nI 7)) + x2)]) (rest := []) (kX7_atS l G hG 21 xw_body ((a0 * (nI 7)) + x2) (xw_sa G 1) xw_sA1 w0 _ he4) (host := RX7) (by decide +kernel) tw_313 tw_312 tw_1 2 hs_X7_at ⟨Nat.le_of_ble_eq_true rfl, Nat.le_of_ble_eq_true rfl⟩ rfl hl.1 (Nat.le_of_ble_eq_true rfl) rfl dX0_ownerOf_27 ⟨Nat.zero_le _, Nat.zero_le _⟩ (fun H locs hP hS => ?_)
              refine lv_if_eq (tgt := 35) hx hb dX0_ownerOf_30 (by decide) (fun c5 => ?_) (fun c5 => ?_)
              · replace hf := xw_ip c5 hf
                refine xw_gsN hB hE hS (host := "FuneralDebts") (C := "FuneralDebts") (n := "ABOVE") (d := "[I") hE.2.1.1 (by decide +kernel) rfl dX0_ownerOf_35 ?_
                refine lv_iload_n hx hb dX0_ownerOf_38 rfl (lv_at hl 1 rfl) ?_
                replace hf := xw_bp_e hf
                obtain ⟨r6, he7, hf⟩ := hf
                refine xw_Ni hB hK hE hS hP (As := [.ref (xw_sa G 0), .int x2]) (rest := []) (kX7_atS l G hG 7 xw_above x2 (xw_sa G 0) xw_sA0 w0 _ he7) (host := RX7) (by decide +kernel) tw_313 tw_312 tw_1 2 hs_X7_at ⟨Nat.le_of_ble_eq_true rfl, Nat.le_of_ble_eq_true rfl⟩ rfl hl.1 (Nat.le_of_ble_eq_true rfl) rfl dX0_ownerOf_39 ⟨Nat.zero_le _, Nat.zero_le _⟩ (fun H locs hP hS => ?_)
                refine lv_istore_n (lv' := [(2, .int r6), (0, .int a0), (3, .int x3)]) hx hb dX0_ownerOf_42 rfl hl (by decide) rfl (fun ls hl => ?_)
                obtain ⟨x3_8, ex3_8⟩ : ∃ y : Int32, y = x3 + 1 := ⟨_, rfl⟩
                replace hf := xw_lt_e ex3_8 hf
                refine lv_iinc (v := x3_8) (lv' := [(3, .int x3_8), (2, .int r6), (0, .int a0)]) hx hb dX0_ownerOf_43 hl (k := 2) rfl (by rw [ex3_8]; rfl) (by decide) rfl (fun ls hl => ?_)
                refine lv_goto (tgt := 4) hx hb dX0_ownerOf_46 (by decide) ?_
                have hi := hC4 _ (xw_so hf).symm
                exact ih4 r6 x3_8 hi H locs ls hP hS (lv_sub hl [2, 1, 0] rfl)
              · replace hf := xw_in' c5 hf
                refine lv_iload_n hx hb dX0_ownerOf_33 rfl (lv_at hl 1 rfl) ?_
                have he4 := hX4 _ (xw_so hf).symm
                rw [← he4] at hfx4
                replace hfx4 : some x2 = some r0 := hfx4
                have h0 := xw_so hfx4
                have h1 : w0 = w0 := rfl
                exact xw_iret hB hK hE hS hP hr hlk h0 h1 dX0_ownerOf_34
      exact LL4 n x2 x3 hit4 H locs ls hP hS hl
    refine lv_iload_n hx hb dX0_ownerOf_0 rfl (lv_at hl 1 rfl) ?_
    refine lv_istore_n (lv' := [(2, .int a1), (0, .int a0), (1, .int a1)]) hx hb dX0_ownerOf_1 rfl hl (by decide) rfl (fun ls hl => ?_)
    refine lv_iconst (v := 0) hx hb dX0_ownerOf_2 (by decide) ?_
    refine lv_istore_n (lv' := [(3, .int (0 : Int32)), (2, .int a1), (0, .int a0), (1, .int a1)]) hx hb dX0_ownerOf_3 rfl hl (by decide) rfl (fun ls hl => ?_)
    exact J4 a1 (0 : Int32) hf H locs ls hP hS (lv_sub hl [2, 1, 0] rfl)
  exact HH s.heap [] hP hS
def fX0_run_s (n : Nat) (F : Int32 → Int32 → Int32 → Int32 → xw_M → Option (Int32 × xw_M)) (a1 : Int32) (a2 : Int32) (a3 : Int32) (a4 : Int32) (w0 : xw_M) : Option (Int32 × xw_M) := xw_bp (fX0_ownerOf n a1 a2) (fun r1 => xw_bp (fX7_atS 7 xw_above r1) (fun r3 => xw_bp (fX7_atS 21 xw_body ((a1 * (nI 7)) + r1)) (fun r5 => xw_lt (a4 + (1 : Int32)) (fun x8_7 => if x8_7 ≤ (40 : Int32) then xw_b (fX7_put 69 20 (w0.1 68 3) r5 w0) (fun (_ : Unit) w10 => xw_lt (xw_si w10 68 3 ((w10.1 68 3) + (1 : Int32))) (fun w12 => if r5 = 10 then some (a3 + (w12.1 68 0), w12) else (if r5 = 11 then xw_b (F (0 : Int32) (w12.1 68 2) a3 x8_7 w12) (fun r14 w15 => some (r14 - (w15.1 68 1), w15)) else (if r5 = 12 then xw_b (F (1 : Int32) (w12.1 68 2) a3 x8_7 w12) (fun r18 w19 => some (r18 * (2 : Int32), w19)) else (if r5 = 20 then xw_b (F (1 : Int32) r3 a3 x8_7 w12) (fun r22 w23 => some (r22 ^^^ (6 : Int32), w23)) else (if r5 = 30 then xw_b (F (0 : Int32) r3 (a3 * (3 : Int32)) x8_7 w12) (fun r26 w27 => some (r26, w27)) else (if r5 = 40 then xw_b (F (2 : Int32) r3 a3 x8_7 w12) (fun r30 w31 => xw_b (F (1 : Int32) (w31.1 68 2) (1 : Int32) x8_7 w31) (fun r33 w34 => some (r30 + r33, w34))) else (if r5 = 50 then xw_b (F (0 : Int32) r3 a3 x8_7 w12) (fun r37 w38 => some (-r37, w38)) else (if r5 = 51 then xw_b (F (1 : Int32) r3 (a3 + (1 : Int32)) x8_7 w12) (fun r41 w42 => some (r41, w42)) else (if r5 = 60 then xw_b (F (2 : Int32) r3 (a3 - (w12.1 68 0)) x8_7 w12) (fun r45 w46 => some (r45, w46)) else (if r5 = 70 then xw_b (F (1 : Int32) r3 a3 x8_7 w12) (fun r49 w50 => xw_b (F (0 : Int32) r3 (2 : Int32) x8_7 w50) (fun r52 w53 => some (r49 + r52, w53))) else (if r5 = 71 then xw_b (F (0 : Int32) r3 a3 x8_7 w12) (fun r56 w57 => some (r56 ^^^ (w57.1 68 1), w57)) else (some ((0 : Int32), w12)))))))))))))) else some ((0 : Int32), w0)))))
set_option maxHeartbeats 4000000 in
set_option maxRecDepth 100000 in
theorem kX0_run_s (l : Launch) (G : xw_G) (hG : xw_ok G) (n : Nat) (F : Int32 → Int32 → Int32 → Int32 → xw_M → Option (Int32 × xw_M)) (a1 : Int32) (a2 : Int32) (a3 : Int32) (a4 : Int32) (fr lo : Nat) (hF : ∀ (a1 : Int32) (a2 : Int32) (a3 : Int32) (a4 : Int32) (w : xw_M) (r : Int32) (w' : xw_M), F a1 a2 a3 a4 w = some (r, w') → xw_Ti l G yX0_run cX0_run 9 ((Option.some Jvm.ClassFile.FieldType.int)) fr lo [.ref (xw_ad G 68), .int a1, .int a2, .int a3, .int a4] w r w') (w0 : xw_M) (r0 : Int32) (wz : xw_M) (hf : fX0_run_s n F a1 a2 a3 a4 w0 = some (r0, wz)) : xw_Ti l G yX0_run cX0_run 9 ((Option.some Jvm.ClassFile.FieldType.int)) (fr + 2) (lo + 44) [.ref (xw_ad G 68), .int a1, .int a2, .int a3, .int a4] w0 r0 wz := by
  unfold xw_Ti
  refine Met.ofW (cc := cX0_run) (maxL := 9) (ret := (Option.some Jvm.ClassFile.FieldType.int)) (by decide) rfl ?_
  intro p e s m args below meth c s₁ B hml hv
  obtain ⟨hargs, hP, hK, hE⟩ := hv
  have hx := B.exec
  have hb := B.bytes
  have hr := B.returns
  have hlk := B.notSynchronized
  have hB : CallFix p m c cX0_run 9 s args TB RX0 := ⟨hx, hb, hml, findClass_of_methodNamed B.named, fun q h => (atoms_spec (ws := Cond.code yX0_run cX0_run 9 ((Option.some Jvm.ClassFile.FieldType.int)) :: TB) B.pre) q (List.mem_cons_of_mem _ h)⟩
  have hS : va_S (xw_A G) s.heap s.heap [] := va_S.rf
  have hl := lv_entry [.ref (xw_ad G 68), .int a1, .int a2, .int a3, .int a4] (n := 9) (Nat.le_of_ble_eq_true rfl)
  rw [show entryFrame m args 9 = entryFrame m ([.ref (xw_ad G 68), .int a1, .int a2, .int a3, .int a4] : List Value).toArray 9 from by rw [hargs], lg_entry_eq]
  generalize (lg_sl [.ref (xw_ad G 68), .int a1, .int a2, .int a3, .int a4] ++ List.replicate (9 - (lg_sl [.ref (xw_ad G 68), .int a1, .int a2, .int a3, .int a4]).length) Slot.unset).toArray = ls at hl ⊢
  have hP : va_P (xw_D G) xw_cl (xw_W G w0) s.heap := hP
  have hl : lv_has ls 9 [(0, .ref (xw_ad G 68)), (1, .int a1), (2, .int a2), (3, .int a3), (4, .int a4)] := hl
  have HH : ∀ (H : Heap) (locs : List Loc) (hP : va_P (xw_D G) xw_cl (xw_W G w0) H) (hS : va_S (xw_A G) s.heap H locs), xw_Wi G p l e (xw_rm (fr + 2) (lo + 44)) s m args below meth c H locs r0 wz (F0 m 0 ls []) := by
    intro H locs hP hS
    unfold fX0_run_s at hf
    refine lv_iload_n hx hb dX0_run_0 rfl (lv_at hl 1 rfl) ?_
    refine lv_iload_n hx hb dX0_run_1 rfl (lv_at hl 2 rfl) ?_
    replace hf := xw_bp_e hf
    obtain ⟨r1, he2, hf⟩ := hf
    refine xw_Si hB hK hE hS hP (As := [.int a1, .int a2]) (rest := []) (kX0_ownerOf l G hG n a1 a2 w0 _ he2) tw_665 tw_667 tw_666 tw_8 2 hs_X0_ownerOf ⟨(by show 1 + 1 ≤ fr + 2; omega), (by show 8 + (4 + 11) + (21) ≤ lo + 44; omega)⟩ rfl hl.1 (Nat.le_of_ble_eq_true rfl) rfl dX0_run_2 ⟨Nat.zero_le _, Nat.zero_le _⟩ (fun H locs hP hS => ?_)
    refine lv_istore (lv' := [(5, .int r1), (0, .ref (xw_ad G 68)), (1, .int a1), (2, .int a2), (3, .int a3), (4, .int a4)]) hx hb dX0_run_5 hl (by decide) rfl (fun ls hl => ?_)
    refine xw_gsN hB hE hS (host := "FuneralDebts") (C := "FuneralDebts") (n := "ABOVE") (d := "[I") hE.2.1.1 (by decide +kernel) rfl dX0_run_7 ?_
    refine lv_iload hx hb dX0_run_10 (lv_at hl 0 rfl) ?_
    replace hf := xw_bp_e hf
    obtain ⟨r3, he4, hf⟩ := hf
    refine xw_Ni hB hK hE hS hP (As := [.ref (xw_sa G 0), .int r1]) (rest := []) (kX7_atS l G hG 7 xw_above r1 (xw_sa G 0) xw_sA0 w0 _ he4) (host := RX7) (by decide +kernel) tw_313 tw_312 tw_1 2 hs_X7_at ⟨(by show 0 + 1 ≤ fr + 2; omega), (by show 8 + (2 + 11) + (0) ≤ lo + 44; omega)⟩ rfl hl.1 (Nat.le_of_ble_eq_true rfl) rfl dX0_run_12 ⟨Nat.zero_le _, Nat.zero_le _⟩ (fun H locs hP hS => ?_)
    refine lv_istore (lv' := [(6, .int r3), (5, .int r1), (0, .ref (xw_ad G 68)), (1, .int a1), (2, .int a2), (3, .int a3), (4, .int a4)]) hx hb dX0_run_15 hl (by decide) rfl (fun ls hl => ?_)
    refine xw_gs hB hS (C := "FuneralDebts$Actor") (n := "BODY") (d := "[I") hE.2.1.2.1 tw_670 rfl dX0_run_17 ?_
    refine lv_iload_n hx hb dX0_run_20 rfl (lv_at hl 3 rfl) ?_
    refine xw_gsN hB hE hS (host := "FuneralDebts") (C := "FuneralDebts") (n := "ABOVE") (d := "[I") hE.2.1.1 (by decide +kernel) rfl dX0_run_21 ?_
    refine va_tlen hx hb (xw_sA0 s s.heap hE.2.1) hS rfl dX0_run_24 ?_
    refine lv_imul hx hb dX0_run_25 ?_
    refine lv_iload hx hb dX0_run_26 (lv_at hl 1 rfl) ?_
    refine lv_iadd hx hb dX0_run_28 ?_
    replace hf := xw_bp_e hf
    obtain ⟨r5, he6, hf⟩ := hf
    refine xw_Ni hB hK hE hS hP (As := [.ref (xw_sa G 1), .int ((a1 * (nI 7)) + r1)]) (rest := []) (kX7_atS l G hG 21 xw_body ((a1 * (nI 7)) + r1) (xw_sa G 1) xw_sA1 w0 _ he6) (host := RX7) (by decide +kernel) tw_313 tw_312 tw_1 2 hs_X7_at ⟨(by show 0 + 1 ≤ fr + 2; omega), (by show 8 + (2 + 11) + (0) ≤ lo + 44; omega)⟩ rfl hl.1 (Nat.le_of_ble_eq_true rfl) rfl dX0_run_29 ⟨Nat.zero_le _, Nat.zero_le _⟩ (fun H locs hP hS => ?_)
    refine lv_istore (lv' := [(7, .int r5), (6, .int r3), (5, .int r1), (0, .ref (xw_ad G 68)), (1, .int a1), (2, .int a2), (3, .int a3), (4, .int a4)]) hx hb dX0_run_32 hl (by decide) rfl (fun ls hl => ?_)
    refine lv_iload hx hb dX0_run_34 (lv_at hl 7 rfl) ?_
    refine lv_iconst (v := 1) hx hb dX0_run_36 (by decide) ?_
    refine lv_iadd hx hb dX0_run_37 ?_
    refine lv_topi (fun x8_7 ex8_7 => ?_)
    replace hf := xw_lt_e ex8_7 hf
    refine lv_istore (lv' := [(8, .int x8_7), (7, .int r5), (6, .int r3), (5, .int r1), (0, .ref (xw_ad G 68)), (1, .int a1), (2, .int a2), (3, .int a3), (4, .int a4)]) hx hb dX0_run_38 hl (by decide) rfl (fun ls hl => ?_)
    refine lv_iload hx hb dX0_run_40 (lv_at hl 0 rfl) ?_
    refine lv_bipush (v := 40) hx hb dX0_run_42 (by decide) ?_
    refine lv_icmp_le (tgt := 49) hx hb dX0_run_44 (by decide) (fun c8 => ?_) (fun c8 => ?_)
    · replace hf := xw_ip c8 hf
      refine lv_aload_n hx hb dX0_run_49 rfl (lv_at hl 4 rfl) ?_
      refine xw_get hB hK hP (xw_o0 G) (C := RX0) (T := TX0) (N := 5) rfl TBi_X0 4 (by decide) tw_221 rfl rfl dX0_run_50 ?_
      refine lv_aload_n hx hb dX0_run_53 rfl (lv_at hl 4 rfl) ?_
      refine xw_get hB hK hP (xw_o0 G) (C := RX0) (T := TX0) (N := 5) rfl TBi_X0 3 (by decide) tw_219 rfl rfl dX0_run_54 ?_
      refine lv_iload hx hb dX0_run_57 (lv_at hl 1 rfl) ?_
      replace hf := xw_b_e hf
      obtain ⟨r9, w10, he11, hf⟩ := hf
      refine xw_Nv hB hK hE hS hP (As := [.ref (xw_ad G 69), .int (w0.1 68 3), .int r5]) (rest := []) (kX7_put l G hG 69 20 (w0.1 68 3) r5 (xw_k69 G) w0 _ _ he11) (host := RX7) (by decide +kernel) tw_302 tw_301 tw_1 3 hs_X7_put ⟨(by show 0 + 1 ≤ fr + 2; omega), (by show 8 + (3 + 11) + (0) ≤ lo + 44; omega)⟩ rfl hl.1 (Nat.le_of_ble_eq_true rfl) rfl dX0_run_59 ⟨Nat.zero_le _, Nat.zero_le _⟩ (fun H locs hP hS => ?_)
      refine lv_aload_n hx hb dX0_run_62 rfl (lv_at hl 4 rfl) ?_
      refine lv_dup hx hb dX0_run_63 rfl ?_
      refine xw_get hB hK hP (xw_o0 G) (C := RX0) (T := TX0) (N := 5) rfl TBi_X0 3 (by decide) tw_219 rfl rfl dX0_run_64 ?_
      refine lv_iconst (v := 1) hx hb dX0_run_67 (by decide) ?_
      refine lv_iadd hx hb dX0_run_68 ?_
      refine xw_put hG hB hK hS hP (x := (w10.1 68 3) + (1 : Int32)) (xw_o0 G) (C := RX0) (T := TX0) (N := 5) rfl TBi_X0 tyX0 tyX0_ok nmX0 3 (by decide) tw_219 rfl rfl rfl rfl rfl (Nat.le_of_ble_eq_true rfl) rfl dX0_run_69 (fun w12 ew12 H locs hP hS => ?_)
      replace hf := xw_lt_e ew12 hf
      refine lv_iload hx hb dX0_run_72 (lv_at hl 1 rfl) ?_
      by_cases c13 : r5 = 10
      · refine lv_lookup (off := 98) (tgt := 172) hx hb dX0_run_74 (by decide) (by rw [c13]; rfl) (by decide) ?_
        replace hf := xw_ip c13 hf
        refine lv_iload_n hx hb dX0_run_172 rfl (lv_at hl 7 rfl) ?_
        refine lv_aload_n hx hb dX0_run_173 rfl (lv_at hl 4 rfl) ?_
        refine xw_get hB hK hP (xw_o0 G) (C := RX0) (T := TX0) (N := 5) rfl TBi_X0 0 (by decide) tw_216 rfl rfl dX0_run_174 ?_
        refine lv_iadd hx hb dX0_run_177 ?_
        obtain ⟨h0, h1⟩ := xw_s2 hf
        exact xw_iret hB hK hE hS hP hr hlk h0 h1 dX0_run_178
      · replace hf := xw_in' c13 hf
        by_cases c17 : r5 = 11
        · refine lv_lookup (off := 105) (tgt := 179) hx hb dX0_run_74 (by decide) (by rw [c17]; rfl) (by decide) ?_
          replace hf := xw_ip c17 hf
          refine lv_aload_n hx hb dX0_run_179 rfl (lv_at hl 4 rfl) ?_
          refine lv_iconst (v := 0) hx hb dX0_run_180 (by decide) ?_
          refine lv_aload_n hx hb dX0_run_181 rfl (lv_at hl 4 rfl) ?_
          refine xw_get hB hK hP (xw_o0 G) (C := RX0) (T := TX0) (N := 5) rfl TBi_X0 2 (by decide) tw_218 rfl rfl dX0_run_182 ?_
          refine lv_iload_n hx hb dX0_run_185 rfl (lv_at hl 7 rfl) ?_
          refine lv_iload hx hb dX0_run_186 (lv_at hl 0 rfl) ?_
          replace hf := xw_b_e hf
          obtain ⟨r14, w15, he16, hf⟩ := hf
          refine xw_Vi hB hK hE hS hP (As := [.int (0 : Int32), .int (w12.1 68 2), .int a3, .int x8_7]) (rest := []) (hF (0 : Int32) (w12.1 68 2) a3 x8_7 w12 _ _ he16) gs_X0_40 (xw_rc hK hP (C := RX0) (T := TX0) (N := 5) (xw_o0 G) rfl) 4 hv_X0_run ⟨(by show fr + 1 ≤ fr + 2; omega), (by show 8 + (9 + 11) + (lo) ≤ lo + 44; omega)⟩ rfl hl.1 (Nat.le_of_ble_eq_true rfl) rfl dX0_run_188 ⟨Nat.zero_le _, Nat.zero_le _⟩ (fun H locs hP hS => ?_)
          refine lv_aload_n hx hb dX0_run_191 rfl (lv_at hl 4 rfl) ?_
          refine xw_get hB hK hP (xw_o0 G) (C := RX0) (T := TX0) (N := 5) rfl TBi_X0 1 (by decide) tw_217 rfl rfl dX0_run_192 ?_
          refine lv_isub hx hb dX0_run_195 ?_
          obtain ⟨h0, h1⟩ := xw_s2 hf
          exact xw_iret hB hK hE hS hP hr hlk h0 h1 dX0_run_196
        · replace hf := xw_in' c17 hf
          by_cases c21 : r5 = 12
          · refine lv_lookup (off := 123) (tgt := 197) hx hb dX0_run_74 (by decide) (by rw [c21]; rfl) (by decide) ?_
            replace hf := xw_ip c21 hf
            refine lv_aload_n hx hb dX0_run_197 rfl (lv_at hl 4 rfl) ?_
            refine lv_iconst (v := 1) hx hb dX0_run_198 (by decide) ?_
            refine lv_aload_n hx hb dX0_run_199 rfl (lv_at hl 4 rfl) ?_
            refine xw_get hB hK hP (xw_o0 G) (C := RX0) (T := TX0) (N := 5) rfl TBi_X0 2 (by decide) tw_218 rfl rfl dX0_run_200 ?_
            refine lv_iload_n hx hb dX0_run_203 rfl (lv_at hl 7 rfl) ?_
            refine lv_iload hx hb dX0_run_204 (lv_at hl 0 rfl) ?_
            replace hf := xw_b_e hf
            obtain ⟨r18, w19, he20, hf⟩ := hf
            refine xw_Vi hB hK hE hS hP (As := [.int (1 : Int32), .int (w12.1 68 2), .int a3, .int x8_7]) (rest := []) (hF (1 : Int32) (w12.1 68 2) a3 x8_7 w12 _ _ he20) gs_X0_40 (xw_rc hK hP (C := RX0) (T := TX0) (N := 5) (xw_o0 G) rfl) 4 hv_X0_run ⟨(by show fr + 1 ≤ fr + 2; omega), (by show 8 + (9 + 11) + (lo) ≤ lo + 44; omega)⟩ rfl hl.1 (Nat.le_of_ble_eq_true rfl) rfl dX0_run_206 ⟨Nat.zero_le _, Nat.zero_le _⟩ (fun H locs hP hS => ?_)
            refine lv_iconst (v := 2) hx hb dX0_run_209 (by decide) ?_
            refine lv_imul hx hb dX0_run_210 ?_
            obtain ⟨h0, h1⟩ := xw_s2 hf
            exact xw_iret hB hK hE hS hP hr hlk h0 h1 dX0_run_211
          · replace hf := xw_in' c21 hf
            by_cases c25 : r5 = 20
            · refine lv_lookup (off := 138) (tgt := 212) hx hb dX0_run_74 (by decide) (by rw [c25]; rfl) (by decide) ?_
              replace hf := xw_ip c25 hf
              refine lv_aload_n hx hb dX0_run_212 rfl (lv_at hl 4 rfl) ?_
              refine lv_iconst (v := 1) hx hb dX0_run_213 (by decide) ?_
              refine lv_iload hx hb dX0_run_214 (lv_at hl 2 rfl) ?_
              refine lv_iload_n hx hb dX0_run_216 rfl (lv_at hl 7 rfl) ?_
              refine lv_iload hx hb dX0_run_217 (lv_at hl 0 rfl) ?_
              replace hf := xw_b_e hf
              obtain ⟨r22, w23, he24, hf⟩ := hf
              refine xw_Vi hB hK hE hS hP (As := [.int (1 : Int32), .int r3, .int a3, .int x8_7]) (rest := []) (hF (1 : Int32) r3 a3 x8_7 w12 _ _ he24) gs_X0_40 (xw_rc hK hP (C := RX0) (T := TX0) (N := 5) (xw_o0 G) rfl) 4 hv_X0_run ⟨(by show fr + 1 ≤ fr + 2; omega), (by show 8 + (9 + 11) + (lo) ≤ lo + 44; omega)⟩ rfl hl.1 (Nat.le_of_ble_eq_true rfl) rfl dX0_run_219 ⟨Nat.zero_le _, Nat.zero_le _⟩ (fun H locs hP hS => ?_)
              refine lv_bipush (v := 6) hx hb dX0_run_222 (by decide) ?_
              refine lv_ixor hx hb dX0_run_224 ?_
              obtain ⟨h0, h1⟩ := xw_s2 hf
              exact xw_iret hB hK hE hS hP hr hlk h0 h1 dX0_run_225
            · replace hf := xw_in' c25 hf
              by_cases c29 : r5 = 30
              · refine lv_lookup (off := 152) (tgt := 226) hx hb dX0_run_74 (by decide) (by rw [c29]; rfl) (by decide) ?_
                replace hf := xw_ip c29 hf
                refine lv_aload_n hx hb dX0_run_226 rfl (lv_at hl 4 rfl) ?_
                refine lv_iconst (v := 0) hx hb dX0_run_227 (by decide) ?_
                refine lv_iload hx hb dX0_run_228 (lv_at hl 2 rfl) ?_
                refine lv_iload_n hx hb dX0_run_230 rfl (lv_at hl 7 rfl) ?_
                refine lv_iconst (v := 3) hx hb dX0_run_231 (by decide) ?_
                refine lv_imul hx hb dX0_run_232 ?_
                refine lv_iload hx hb dX0_run_233 (lv_at hl 0 rfl) ?_
                replace hf := xw_b_e hf
                obtain ⟨r26, w27, he28, hf⟩ := hf
                refine xw_Vi hB hK hE hS hP (As := [.int (0 : Int32), .int r3, .int (a3 * (3 : Int32)), .int x8_7]) (rest := []) (hF (0 : Int32) r3 (a3 * (3 : Int32)) x8_7 w12 _ _ he28) gs_X0_40 (xw_rc hK hP (C := RX0) (T := TX0) (N := 5) (xw_o0 G) rfl) 4 hv_X0_run ⟨(by show fr + 1 ≤ fr + 2; omega), (by show 8 + (9 + 11) + (lo) ≤ lo + 44; omega)⟩ rfl hl.1 (Nat.le_of_ble_eq_true rfl) rfl dX0_run_235 ⟨Nat.zero_le _, Nat.zero_le _⟩ (fun H locs hP hS => ?_)
                obtain ⟨h0, h1⟩ := xw_s2 hf
                exact xw_iret hB hK hE hS hP hr hlk h0 h1 dX0_run_238
              · replace hf := xw_in' c29 hf
                by_cases c36 : r5 = 40
                · refine lv_lookup (off := 165) (tgt := 239) hx hb dX0_run_74 (by decide) (by rw [c36]; rfl) (by decide) ?_
                  replace hf := xw_ip c36 hf
                  refine lv_aload_n hx hb dX0_run_239 rfl (lv_at hl 4 rfl) ?_
                  refine lv_iconst (v := 2) hx hb dX0_run_240 (by decide) ?_
                  refine lv_iload hx hb dX0_run_241 (lv_at hl 2 rfl) ?_
                  refine lv_iload_n hx hb dX0_run_243 rfl (lv_at hl 7 rfl) ?_
                  refine lv_iload hx hb dX0_run_244 (lv_at hl 0 rfl) ?_
                  replace hf := xw_b_e hf
                  obtain ⟨r30, w31, he32, hf⟩ := hf
                  refine xw_Vi hB hK hE hS hP (As := [.int (2 : Int32), .int r3, .int a3, .int x8_7]) (rest := []) (hF (2 : Int32) r3 a3 x8_7 w12 _ _ he32) gs_X0_40 (xw_rc hK hP (C := RX0) (T := TX0) (N := 5) (xw_o0 G) rfl) 4 hv_X0_run ⟨(by show fr + 1 ≤ fr + 2; omega), (by show 8 + (9 + 11) + (lo) ≤ lo + 44; omega)⟩ rfl hl.1 (Nat.le_of_ble_eq_true rfl) rfl dX0_run_246 ⟨Nat.zero_le _, Nat.zero_le _⟩ (fun H locs hP hS => ?_)
                  refine lv_aload_n hx hb dX0_run_249 rfl (lv_at hl 4 rfl) ?_
                  refine lv_iconst (v := 1) hx hb dX0_run_250 (by decide) ?_
                  refine lv_aload_n hx hb dX0_run_251 rfl (lv_at hl 4 rfl) ?_
                  refine xw_get hB hK hP (xw_o0 G) (C := RX0) (T := TX0) (N := 5) rfl TBi_X0 2 (by decide) tw_218 rfl rfl dX0_run_252 ?_
                  refine lv_iconst (v := 1) hx hb dX0_run_255 (by decide) ?_
                  refine lv_iload hx hb dX0_run_256 (lv_at hl 0 rfl) ?_
                  replace hf := xw_b_e hf
                  obtain ⟨r33, w34, he35, hf⟩ := hf
                  refine xw_Vi hB hK hE hS hP (As := [.int (1 : Int32), .int (w31.1 68 2), .int (1 : Int32), .int x8_7]) (rest := [.int r30]) (hF (1 : Int32) (w31.1 68 2) (1 : Int32) x8_7 w31 _ _ he35) gs_X0_40 (xw_rc hK hP (C := RX0) (T := TX0) (N := 5) (xw_o0 G) rfl) 4 hv_X0_run ⟨(by show fr + 1 ≤ fr + 2; omega), (by show 8 + (9 + 11) + (lo) ≤ lo + 44; omega)⟩ rfl hl.1 (Nat.le_of_ble_eq_true rfl) rfl dX0_run_258 ⟨Nat.zero_le _, Nat.zero_le _⟩ (fun H locs hP hS => ?_)
                  refine lv_iadd hx hb dX0_run_261 ?_
                  obtain ⟨h0, h1⟩ := xw_s2 hf
                  exact xw_iret hB hK hE hS hP hr hlk h0 h1 dX0_run_262
                · replace hf := xw_in' c36 hf
                  by_cases c40 : r5 = 50
                  · refine lv_lookup (off := 189) (tgt := 263) hx hb dX0_run_74 (by decide) (by rw [c40]; rfl) (by decide) ?_
                    replace hf := xw_ip c40 hf
                    refine lv_aload_n hx hb dX0_run_263 rfl (lv_at hl 4 rfl) ?_
                    refine lv_iconst (v := 0) hx hb dX0_run_264 (by decide) ?_
                    refine lv_iload hx hb dX0_run_265 (lv_at hl 2 rfl) ?_
                    refine lv_iload_n hx hb dX0_run_267 rfl (lv_at hl 7 rfl) ?_
                    refine lv_iload hx hb dX0_run_268 (lv_at hl 0 rfl) ?_
                    replace hf := xw_b_e hf
                    obtain ⟨r37, w38, he39, hf⟩ := hf
                    refine xw_Vi hB hK hE hS hP (As := [.int (0 : Int32), .int r3, .int a3, .int x8_7]) (rest := []) (hF (0 : Int32) r3 a3 x8_7 w12 _ _ he39) gs_X0_40 (xw_rc hK hP (C := RX0) (T := TX0) (N := 5) (xw_o0 G) rfl) 4 hv_X0_run ⟨(by show fr + 1 ≤ fr + 2; omega), (by show 8 + (9 + 11) + (lo) ≤ lo + 44; omega)⟩ rfl hl.1 (Nat.le_of_ble_eq_true rfl) rfl dX0_run_270 ⟨Nat.zero_le _, Nat.zero_le _⟩ (fun H locs hP hS => ?_)
                    refine lv_ineg hx hb dX0_run_273 ?_
                    obtain ⟨h0, h1⟩ := xw_s2 hf
                    exact xw_iret hB hK hE hS hP hr hlk h0 h1 dX0_run_274
                  · replace hf := xw_in' c40 hf
                    by_cases c44 : r5 = 51
                    · refine lv_lookup (off := 201) (tgt := 275) hx hb dX0_run_74 (by decide) (by rw [c44]; rfl) (by decide) ?_
                      replace hf := xw_ip c44 hf
                      refine lv_aload_n hx hb dX0_run_275 rfl (lv_at hl 4 rfl) ?_
                      refine lv_iconst (v := 1) hx hb dX0_run_276 (by decide) ?_
                      refine lv_iload hx hb dX0_run_277 (lv_at hl 2 rfl) ?_
                      refine lv_iload_n hx hb dX0_run_279 rfl (lv_at hl 7 rfl) ?_
                      refine lv_iconst (v := 1) hx hb dX0_run_280 (by decide) ?_
                      refine lv_iadd hx hb dX0_run_281 ?_
                      refine lv_iload hx hb dX0_run_282 (lv_at hl 0 rfl) ?_
                      replace hf := xw_b_e hf
                      obtain ⟨r41, w42, he43, hf⟩ := hf
                      refine xw_Vi hB hK hE hS hP (As := [.int (1 : Int32), .int r3, .int (a3 + (1 : Int32)), .int x8_7]) (rest := []) (hF (1 : Int32) r3 (a3 + (1 : Int32)) x8_7 w12 _ _ he43) gs_X0_40 (xw_rc hK hP (C := RX0) (T := TX0) (N := 5) (xw_o0 G) rfl) 4 hv_X0_run ⟨(by show fr + 1 ≤ fr + 2; omega), (by show 8 + (9 + 11) + (lo) ≤ lo + 44; omega)⟩ rfl hl.1 (Nat.le_of_ble_eq_true rfl) rfl dX0_run_284 ⟨Nat.zero_le _, Nat.zero_le _⟩ (fun H locs hP hS => ?_)
                      obtain ⟨h0, h1⟩ := xw_s2 hf
                      exact xw_iret hB hK hE hS hP hr hlk h0 h1 dX0_run_287
                    · replace hf := xw_in' c44 hf
                      by_cases c48 : r5 = 60
                      · refine lv_lookup (off := 214) (tgt := 288) hx hb dX0_run_74 (by decide) (by rw [c48]; rfl) (by decide) ?_
                        replace hf := xw_ip c48 hf
                        refine lv_aload_n hx hb dX0_run_288 rfl (lv_at hl 4 rfl) ?_
                        refine lv_iconst (v := 2) hx hb dX0_run_289 (by decide) ?_
                        refine lv_iload hx hb dX0_run_290 (lv_at hl 2 rfl) ?_
                        refine lv_iload_n hx hb dX0_run_292 rfl (lv_at hl 7 rfl) ?_
                        refine lv_aload_n hx hb dX0_run_293 rfl (lv_at hl 4 rfl) ?_
                        refine xw_get hB hK hP (xw_o0 G) (C := RX0) (T := TX0) (N := 5) rfl TBi_X0 0 (by decide) tw_216 rfl rfl dX0_run_294 ?_
                        refine lv_isub hx hb dX0_run_297 ?_
                        refine lv_iload hx hb dX0_run_298 (lv_at hl 0 rfl) ?_
                        replace hf := xw_b_e hf
                        obtain ⟨r45, w46, he47, hf⟩ := hf
                        refine xw_Vi hB hK hE hS hP (As := [.int (2 : Int32), .int r3, .int (a3 - (w12.1 68 0)), .int x8_7]) (rest := []) (hF (2 : Int32) r3 (a3 - (w12.1 68 0)) x8_7 w12 _ _ he47) gs_X0_40 (xw_rc hK hP (C := RX0) (T := TX0) (N := 5) (xw_o0 G) rfl) 4 hv_X0_run ⟨(by show fr + 1 ≤ fr + 2; omega), (by show 8 + (9 + 11) + (lo) ≤ lo + 44; omega)⟩ rfl hl.1 (Nat.le_of_ble_eq_true rfl) rfl dX0_run_300 ⟨Nat.zero_le _, Nat.zero_le _⟩ (fun H locs hP hS => ?_)
                        obtain ⟨h0, h1⟩ := xw_s2 hf
                        exact xw_iret hB hK hE hS hP hr hlk h0 h1 dX0_run_303
                      · replace hf := xw_in' c48 hf
                        by_cases c55 : r5 = 70
                        · refine lv_lookup (off := 230) (tgt := 304) hx hb dX0_run_74 (by decide) (by rw [c55]; rfl) (by decide) ?_
                          replace hf := xw_ip c55 hf
                          refine lv_aload_n hx hb dX0_run_304 rfl (lv_at hl 4 rfl) ?_
                          refine lv_iconst (v := 1) hx hb dX0_run_305 (by decide) ?_
                          refine lv_iload hx hb dX0_run_306 (lv_at hl 2 rfl) ?_
                          refine lv_iload_n hx hb dX0_run_308 rfl (lv_at hl 7 rfl) ?_
                          refine lv_iload hx hb dX0_run_309 (lv_at hl 0 rfl) ?_
                          replace hf := xw_b_e hf
                          obtain ⟨r49, w50, he51, hf⟩ := hf
                          refine xw_Vi hB hK hE hS hP (As := [.int (1 : Int32), .int r3, .int a3, .int x8_7]) (rest := []) (hF (1 : Int32) r3 a3 x8_7 w12 _ _ he51) gs_X0_40 (xw_rc hK hP (C := RX0) (T := TX0) (N := 5) (xw_o0 G) rfl) 4 hv_X0_run ⟨(by show fr + 1 ≤ fr + 2; omega), (by show 8 + (9 + 11) + (lo) ≤ lo + 44; omega)⟩ rfl hl.1 (Nat.le_of_ble_eq_true rfl) rfl dX0_run_311 ⟨Nat.zero_le _, Nat.zero_le _⟩ (fun H locs hP hS => ?_)
                          refine lv_aload_n hx hb dX0_run_314 rfl (lv_at hl 4 rfl) ?_
                          refine lv_iconst (v := 0) hx hb dX0_run_315 (by decide) ?_
                          refine lv_iload hx hb dX0_run_316 (lv_at hl 2 rfl) ?_
                          refine lv_iconst (v := 2) hx hb dX0_run_318 (by decide) ?_
                          refine lv_iload hx hb dX0_run_319 (lv_at hl 0 rfl) ?_
                          replace hf := xw_b_e hf
                          obtain ⟨r52, w53, he54, hf⟩ := hf
                          refine xw_Vi hB hK hE hS hP (As := [.int (0 : Int32), .int r3, .int (2 : Int32), .int x8_7]) (rest := [.int r49]) (hF (0 : Int32) r3 (2 : Int32) x8_7 w50 _ _ he54) gs_X0_40 (xw_rc hK hP (C := RX0) (T := TX0) (N := 5) (xw_o0 G) rfl) 4 hv_X0_run ⟨(by show fr + 1 ≤ fr + 2; omega), (by show 8 + (9 + 11) + (lo) ≤ lo + 44; omega)⟩ rfl hl.1 (Nat.le_of_ble_eq_true rfl) rfl dX0_run_321 ⟨Nat.zero_le _, Nat.zero_le _⟩ (fun H locs hP hS => ?_)
                          refine lv_iadd hx hb dX0_run_324 ?_
                          obtain ⟨h0, h1⟩ := xw_s2 hf
                          exact xw_iret hB hK hE hS hP hr hlk h0 h1 dX0_run_325
                        · replace hf := xw_in' c55 hf
                          by_cases c59 : r5 = 71
                          · refine lv_lookup (off := 252) (tgt := 326) hx hb dX0_run_74 (by decide) (by rw [c59]; rfl) (by decide) ?_
                            replace hf := xw_ip c59 hf
                            refine lv_aload_n hx hb dX0_run_326 rfl (lv_at hl 4 rfl) ?_
                            refine lv_iconst (v := 0) hx hb dX0_run_327 (by decide) ?_
                            refine lv_iload hx hb dX0_run_328 (lv_at hl 2 rfl) ?_
                            refine lv_iload_n hx hb dX0_run_330 rfl (lv_at hl 7 rfl) ?_
                            refine lv_iload hx hb dX0_run_331 (lv_at hl 0 rfl) ?_
                            replace hf := xw_b_e hf
                            obtain ⟨r56, w57, he58, hf⟩ := hf
                            refine xw_Vi hB hK hE hS hP (As := [.int (0 : Int32), .int r3, .int a3, .int x8_7]) (rest := []) (hF (0 : Int32) r3 a3 x8_7 w12 _ _ he58) gs_X0_40 (xw_rc hK hP (C := RX0) (T := TX0) (N := 5) (xw_o0 G) rfl) 4 hv_X0_run ⟨(by show fr + 1 ≤ fr + 2; omega), (by show 8 + (9 + 11) + (lo) ≤ lo + 44; omega)⟩ rfl hl.1 (Nat.le_of_ble_eq_true rfl) rfl dX0_run_333 ⟨Nat.zero_le _, Nat.zero_le _⟩ (fun H locs hP hS => ?_)
                            refine lv_aload_n hx hb dX0_run_336 rfl (lv_at hl 4 rfl) ?_
                            refine xw_get hB hK hP (xw_o0 G) (C := RX0) (T := TX0) (N := 5) rfl TBi_X0 1 (by decide) tw_217 rfl rfl dX0_run_337 ?_
                            refine lv_ixor hx hb dX0_run_340 ?_
                            obtain ⟨h0, h1⟩ := xw_s2 hf
                            exact xw_iret hB hK hE hS hP hr hlk h0 h1 dX0_run_341
                          · replace hf := xw_in' c59 hf
                            refine lv_lookup (off := 268) (tgt := 342) hx hb dX0_run_74 (by decide) (by show Op.lookupswitch.offset [(10, 98), (11, 105), (12, 123), (20, 138), (30, 152), (40, 165), (50, 189), (51, 201), (60, 214), (70, 230), (71, 252)] 268 _ = _; rw [lv_osw c13 (by decide : (10 : Int32).toInt = 10), lv_osw c17 (by decide : (11 : Int32).toInt = 11), lv_osw c21 (by decide : (12 : Int32).toInt = 12), lv_osw c25 (by decide : (20 : Int32).toInt = 20), lv_osw c29 (by decide : (30 : Int32).toInt = 30), lv_osw c36 (by decide : (40 : Int32).toInt = 40), lv_osw c40 (by decide : (50 : Int32).toInt = 50), lv_osw c44 (by decide : (51 : Int32).toInt = 51), lv_osw c48 (by decide : (60 : Int32).toInt = 60), lv_osw c55 (by decide : (70 : Int32).toInt = 70), lv_osw c59 (by decide : (71 : Int32).toInt = 71)]; rfl) (by decide) ?_
                            refine lv_iconst (v := 0) hx hb dX0_run_342 (by decide) ?_
                            obtain ⟨h0, h1⟩ := xw_s2 hf
                            exact xw_iret hB hK hE hS hP hr hlk h0 h1 dX0_run_343
    · replace hf := xw_in' c8 hf
      refine lv_iconst (v := 0) hx hb dX0_run_47 (by decide) ?_
      obtain ⟨h0, h1⟩ := xw_s2 hf
      exact xw_iret hB hK hE hS hP hr hlk h0 h1 dX0_run_48
  exact HH s.heap [] hP hS
def fX0_run (n : Nat) : Nat → Int32 → Int32 → Int32 → Int32 → xw_M → Option (Int32 × xw_M)
  | 0 => fun _ _ _ _ _ => none
  | d + 1 => fun a1 a2 a3 a4 w => fX0_run_s n (fX0_run n d) a1 a2 a3 a4 w
theorem kX0_run (l : Launch) (G : xw_G) (hG : xw_ok G) (n : Nat) : ∀ (d : Nat) (a1 : Int32) (a2 : Int32) (a3 : Int32) (a4 : Int32) (w : xw_M) (r : Int32) (w' : xw_M) (hf : fX0_run n d a1 a2 a3 a4 w = some (r, w')), xw_Ti l G yX0_run cX0_run 9 ((Option.some Jvm.ClassFile.FieldType.int)) (2 * d) (44 * d) [.ref (xw_ad G 68), .int a1, .int a2, .int a3, .int a4] w r w' := by
  intro d
  induction d with
  | zero => intro a1 a2 a3 a4 w r w' hf; cases hf
  | succ d ih => intro a1 a2 a3 a4 w r w' hf; exact kX0_run_s l G hG n (fX0_run n d) a1 a2 a3 a4 (2 * d) (44 * d) ih w r w' hf
def fX0_start (n : Nat) (a1 : Nat) (a2 : Int32) (a3 : Int32) (a4 : Int32) (w0 : xw_M) : Option (Int32 × xw_M) := xw_lt (xw_si w0 68 0 a2) (fun w1 => xw_bp (fX7_at (a1 + 2) 6 a2 w1) (fun r2 => xw_lt (xw_si w1 68 1 r2) (fun w4 => xw_bp (fX7_at (a1 + 1) 6 a2 w4) (fun r5 => xw_lt (xw_si w4 68 2 r5) (fun w7 => xw_b (fX0_run n 44 a3 (w7.1 68 2) a4 (0 : Int32) w7) (fun r8 w9 => some (r8, w9)))))))
set_option maxHeartbeats 4000000 in
set_option maxRecDepth 100000 in
theorem kX0_start (l : Launch) (G : xw_G) (hG : xw_ok G) (n : Nat) (a1 : Nat) (a2 : Int32) (a3 : Int32) (a4 : Int32) (ha1 : xw_sc a1) (w0 : xw_M) (r0 : Int32) (wz : xw_M) (hf : fX0_start n a1 a2 a3 a4 w0 = some (r0, wz)) : xw_Ti l G yX0_start cX0_start 5 ((Option.some Jvm.ClassFile.FieldType.int)) (89) (1964) [.ref (xw_ad G 68), .ref (xw_ad G a1), .int a2, .int a3, .int a4] w0 r0 wz := by
  unfold xw_Ti
  refine Met.ofW (cc := cX0_start) (maxL := 5) (ret := (Option.some Jvm.ClassFile.FieldType.int)) (by decide) rfl ?_
  intro p e s m args below meth c s₁ B hml hv
  obtain ⟨hargs, hP, hK, hE⟩ := hv
  have hx := B.exec
  have hb := B.bytes
  have hr := B.returns
  have hlk := B.notSynchronized
  have hB : CallFix p m c cX0_start 5 s args TB RX0 := ⟨hx, hb, hml, findClass_of_methodNamed B.named, fun q h => (atoms_spec (ws := Cond.code yX0_start cX0_start 5 ((Option.some Jvm.ClassFile.FieldType.int)) :: TB) B.pre) q (List.mem_cons_of_mem _ h)⟩
  have hS : va_S (xw_A G) s.heap s.heap [] := va_S.rf
  have hl := lv_entry [.ref (xw_ad G 68), .ref (xw_ad G a1), .int a2, .int a3, .int a4] (n := 5) (Nat.le_of_ble_eq_true rfl)
  rw [show entryFrame m args 5 = entryFrame m ([.ref (xw_ad G 68), .ref (xw_ad G a1), .int a2, .int a3, .int a4] : List Value).toArray 5 from by rw [hargs], lg_entry_eq]
  generalize (lg_sl [.ref (xw_ad G 68), .ref (xw_ad G a1), .int a2, .int a3, .int a4] ++ List.replicate (5 - (lg_sl [.ref (xw_ad G 68), .ref (xw_ad G a1), .int a2, .int a3, .int a4]).length) Slot.unset).toArray = ls at hl ⊢
  have hP : va_P (xw_D G) xw_cl (xw_W G w0) s.heap := hP
  have hl : lv_has ls 5 [(0, .ref (xw_ad G 68)), (1, .ref (xw_ad G a1)), (2, .int a2), (3, .int a3), (4, .int a4)] := hl
  have HH : ∀ (H : Heap) (locs : List Loc) (hP : va_P (xw_D G) xw_cl (xw_W G w0) H) (hS : va_S (xw_A G) s.heap H locs), xw_Wi G p l e (xw_rm (89) (1964)) s m args below meth c H locs r0 wz (F0 m 0 ls []) := by
    intro H locs hP hS
    unfold fX0_start at hf
    refine lv_aload_n hx hb dX0_start_0 rfl (lv_at hl 0 rfl) ?_
    refine lv_iload_n hx hb dX0_start_1 rfl (lv_at hl 2 rfl) ?_
    refine xw_put hG hB hK hS hP (x := a2) (xw_o0 G) (C := RX0) (T := TX0) (N := 5) rfl TBi_X0 tyX0 tyX0_ok nmX0 0 (by decide) tw_216 rfl rfl rfl rfl rfl (Nat.le_of_ble_eq_true rfl) rfl dX0_start_2 (fun w1 ew1 H locs hP hS => ?_)
    replace hf := xw_lt_e ew1 hf
    refine lv_aload_n hx hb dX0_start_5 rfl (lv_at hl 0 rfl) ?_
    refine lv_aload_n hx hb dX0_start_6 rfl (lv_at hl 1 rfl) ?_
    refine xw_get hB hK hP (xw_o5 G ha1) (C := RX5) (T := TX5) (N := 14) rfl TBi_X5 2 (by decide) tw_69 rfl rfl dX0_start_7 ?_
    refine lv_iload_n hx hb dX0_start_10 rfl (lv_at hl 2 rfl) ?_
    replace hf := xw_bp_e hf
    obtain ⟨r2, he3, hf⟩ := hf
    refine xw_Ni hB hK hE hS hP (As := [.ref (xw_ad G (a1 + 2)), .int a2]) (rest := [.ref (xw_ad G 68)]) (kX7_at l G hG (a1 + 2) 6 a2 (xw_a5_2 G ha1) w1 _ he3) (host := RX7) (by decide +kernel) tw_313 tw_312 tw_1 2 hs_X7_at ⟨Nat.le_of_ble_eq_true rfl, Nat.le_of_ble_eq_true rfl⟩ rfl hl.1 (Nat.le_of_ble_eq_true rfl) rfl dX0_start_11 ⟨Nat.zero_le _, Nat.zero_le _⟩ (fun H locs hP hS => ?_)
    refine xw_put hG hB hK hS hP (x := r2) (xw_o0 G) (C := RX0) (T := TX0) (N := 5) rfl TBi_X0 tyX0 tyX0_ok nmX0 1 (by decide) tw_217 rfl rfl rfl rfl rfl (Nat.le_of_ble_eq_true rfl) rfl dX0_start_14 (fun w4 ew4 H locs hP hS => ?_)
    replace hf := xw_lt_e ew4 hf
    refine lv_aload_n hx hb dX0_start_17 rfl (lv_at hl 0 rfl) ?_
    refine lv_aload_n hx hb dX0_start_18 rfl (lv_at hl 1 rfl) ?_
    refine xw_get hB hK hP (xw_o5 G ha1) (C := RX5) (T := TX5) (N := 14) rfl TBi_X5 1 (by decide) tw_65 rfl rfl dX0_start_19 ?_
    refine lv_iload_n hx hb dX0_start_22 rfl (lv_at hl 2 rfl) ?_
    replace hf := xw_bp_e hf
    obtain ⟨r5, he6, hf⟩ := hf
    refine xw_Ni hB hK hE hS hP (As := [.ref (xw_ad G (a1 + 1)), .int a2]) (rest := [.ref (xw_ad G 68)]) (kX7_at l G hG (a1 + 1) 6 a2 (xw_a5_1 G ha1) w4 _ he6) (host := RX7) (by decide +kernel) tw_313 tw_312 tw_1 2 hs_X7_at ⟨Nat.le_of_ble_eq_true rfl, Nat.le_of_ble_eq_true rfl⟩ rfl hl.1 (Nat.le_of_ble_eq_true rfl) rfl dX0_start_23 ⟨Nat.zero_le _, Nat.zero_le _⟩ (fun H locs hP hS => ?_)
    refine xw_put hG hB hK hS hP (x := r5) (xw_o0 G) (C := RX0) (T := TX0) (N := 5) rfl TBi_X0 tyX0 tyX0_ok nmX0 2 (by decide) tw_218 rfl rfl rfl rfl rfl (Nat.le_of_ble_eq_true rfl) rfl dX0_start_26 (fun w7 ew7 H locs hP hS => ?_)
    replace hf := xw_lt_e ew7 hf
    refine lv_aload_n hx hb dX0_start_29 rfl (lv_at hl 0 rfl) ?_
    refine lv_iload_n hx hb dX0_start_30 rfl (lv_at hl 3 rfl) ?_
    refine lv_aload_n hx hb dX0_start_31 rfl (lv_at hl 0 rfl) ?_
    refine xw_get hB hK hP (xw_o0 G) (C := RX0) (T := TX0) (N := 5) rfl TBi_X0 2 (by decide) tw_218 rfl rfl dX0_start_32 ?_
    refine lv_iload hx hb dX0_start_35 (lv_at hl 4 rfl) ?_
    refine lv_iconst (v := 0) hx hb dX0_start_37 (by decide) ?_
    replace hf := xw_b_e hf
    obtain ⟨r8, w9, he10, hf⟩ := hf
    refine xw_Vi hB hK hE hS hP (As := [.int a3, .int (w7.1 68 2), .int a4, .int (0 : Int32)]) (rest := []) (kX0_run l G hG n 44 a3 (w7.1 68 2) a4 (0 : Int32) w7 _ _ he10) gs_X0_40 (xw_rc hK hP (C := RX0) (T := TX0) (N := 5) (xw_o0 G) rfl) 4 hv_X0_run ⟨Nat.le_of_ble_eq_true rfl, Nat.le_of_ble_eq_true rfl⟩ rfl hl.1 (Nat.le_of_ble_eq_true rfl) rfl dX0_start_38 ⟨Nat.zero_le _, Nat.zero_le _⟩ (fun H locs hP hS => ?_)
    obtain ⟨h0, h1⟩ := xw_s2 hf
    exact xw_iret hB hK hE hS hP hr hlk h0 h1 dX0_start_41
  exact HH s.heap [] hP hS
def fX7_act (n : Nat) (a1 : Int32) (a2 : Int32) (a3 : Int32) (w0 : xw_M) : Option (Int32 × xw_M) := xw_b (fX0_clear w0) (fun (_ : Unit) w2 => xw_bp (fX5_has 1 a1 w2) (fun r4 => if r4 = 0 then some ((0 : Int32), w2) else xw_bp (fX7_within a2 (2 : Int32)) (fun r7 => if r7 = 0 then some ((0 : Int32), w2) else xw_b (fX0_start n 1 a1 a2 a3 w2) (fun r10 w11 => some (r10, w11)))))
set_option maxHeartbeats 4000000 in
set_option maxRecDepth 100000 in
theorem kX7_act (l : Launch) (G : xw_G) (hG : xw_ok G) (n : Nat) (a1 : Int32) (a2 : Int32) (a3 : Int32) (w0 : xw_M) (r0 : Int32) (wz : xw_M) (hf : fX7_act n a1 a2 a3 w0 = some (r0, wz)) : xw_Ti l G yX7_act cX7_act 4 ((Option.some Jvm.ClassFile.FieldType.int)) (90) (1988) [.ref (xw_ad G 0), .int a1, .int a2, .int a3] w0 r0 wz := by
  unfold xw_Ti
  refine Met.ofW (cc := cX7_act) (maxL := 4) (ret := (Option.some Jvm.ClassFile.FieldType.int)) (by decide) rfl ?_
  intro p e s m args below meth c s₁ B hml hv
  obtain ⟨hargs, hP, hK, hE⟩ := hv
  have hx := B.exec
  have hb := B.bytes
  have hr := B.returns
  have hlk := B.notSynchronized
  have hB : CallFix p m c cX7_act 4 s args TB RX7 := ⟨hx, hb, hml, findClass_of_methodNamed B.named, fun q h => (atoms_spec (ws := Cond.code yX7_act cX7_act 4 ((Option.some Jvm.ClassFile.FieldType.int)) :: TB) B.pre) q (List.mem_cons_of_mem _ h)⟩
  have hS : va_S (xw_A G) s.heap s.heap [] := va_S.rf
  have hl := lv_entry [.ref (xw_ad G 0), .int a1, .int a2, .int a3] (n := 4) (Nat.le_of_ble_eq_true rfl)
  rw [show entryFrame m args 4 = entryFrame m ([.ref (xw_ad G 0), .int a1, .int a2, .int a3] : List Value).toArray 4 from by rw [hargs], lg_entry_eq]
  generalize (lg_sl [.ref (xw_ad G 0), .int a1, .int a2, .int a3] ++ List.replicate (4 - (lg_sl [.ref (xw_ad G 0), .int a1, .int a2, .int a3]).length) Slot.unset).toArray = ls at hl ⊢
  have hP : va_P (xw_D G) xw_cl (xw_W G w0) s.heap := hP
  have hl : lv_has ls 4 [(0, .ref (xw_ad G 0)), (1, .int a1), (2, .int a2), (3, .int a3)] := hl
  have HH : ∀ (H : Heap) (locs : List Loc) (hP : va_P (xw_D G) xw_cl (xw_W G w0) H) (hS : va_S (xw_A G) s.heap H locs), xw_Wi G p l e (xw_rm (90) (1988)) s m args below meth c H locs r0 wz (F0 m 0 ls []) := by
    intro H locs hP hS
    unfold fX7_act at hf
    refine lv_aload_n hx hb dX7_act_0 rfl (lv_at hl 0 rfl) ?_
    refine xw_get hB hK hP (xw_o7 G) (C := RX7) (T := TX7) (N := 11) rfl TBi_X7 9 (by decide) tw_264 rfl rfl dX7_act_1 ?_
    replace hf := xw_b_e hf
    obtain ⟨r1, w2, he3, hf⟩ := hf
    refine xw_Vv hB hK hE hS hP (As := []) (rest := []) (kX0_clear l G hG w0 _ _ he3) gs_X7_259 (xw_rc hK hP (C := RX0) (T := TX0) (N := 5) (xw_o0 G) rfl) 0 hv_X0_clear ⟨Nat.le_of_ble_eq_true rfl, Nat.le_of_ble_eq_true rfl⟩ rfl hl.1 (Nat.le_of_ble_eq_true rfl) rfl dX7_act_4 ⟨Nat.zero_le _, Nat.zero_le _⟩ (fun H locs hP hS => ?_)
    refine lv_aload_n hx hb dX7_act_7 rfl (lv_at hl 0 rfl) ?_
    refine xw_get hB hK hP (xw_o7 G) (C := RX7) (T := TX7) (N := 11) rfl TBi_X7 0 (by decide) tw_255 rfl rfl dX7_act_8 ?_
    refine lv_iload_n hx hb dX7_act_11 rfl (lv_at hl 1 rfl) ?_
    replace hf := xw_bp_e hf
    obtain ⟨r4, he5, hf⟩ := hf
    refine xw_Vi hB hK hE hS hP (As := [.int a1]) (rest := []) (kX5_has l G hG 1 a1 (Or.inl rfl) w2 _ he5) gs_X7_77 (xw_rc hK hP (C := RX5) (T := TX5) (N := 14) (xw_o5 G (Or.inl rfl)) rfl) 1 hv_X5_has ⟨Nat.le_of_ble_eq_true rfl, Nat.le_of_ble_eq_true rfl⟩ rfl hl.1 (Nat.le_of_ble_eq_true rfl) rfl dX7_act_12 ⟨Nat.zero_le _, Nat.zero_le _⟩ (fun H locs hP hS => ?_)
    refine lv_if_eq (tgt := 26) hx hb dX7_act_15 (by decide) (fun c6 => ?_) (fun c6 => ?_)
    · replace hf := xw_ip c6 hf
      refine lv_iconst (v := 0) hx hb dX7_act_26 (by decide) ?_
      obtain ⟨h0, h1⟩ := xw_s2 hf
      exact xw_iret hB hK hE hS hP hr hlk h0 h1 dX7_act_27
    · replace hf := xw_in' c6 hf
      refine lv_iload_n hx hb dX7_act_18 rfl (lv_at hl 2 rfl) ?_
      refine lv_iconst (v := 2) hx hb dX7_act_19 (by decide) ?_
      replace hf := xw_bp_e hf
      obtain ⟨r7, he8, hf⟩ := hf
      refine xw_Si hB hK hE hS hP (As := [.int a2, .int (2 : Int32)]) (rest := []) (kX7_within l G hG a2 (2 : Int32) w2 _ he8) tw_293 tw_295 tw_294 tw_1 2 hs_X7_within ⟨Nat.le_of_ble_eq_true rfl, Nat.le_of_ble_eq_true rfl⟩ rfl hl.1 (Nat.le_of_ble_eq_true rfl) rfl dX7_act_20 ⟨Nat.zero_le _, Nat.zero_le _⟩ (fun H locs hP hS => ?_)
      refine lv_if_ne (tgt := 28) hx hb dX7_act_23 (by decide) (fun c9 => ?_) (fun c9 => ?_)
      · replace hf := xw_in' c9 hf
        refine lv_aload_n hx hb dX7_act_28 rfl (lv_at hl 0 rfl) ?_
        refine xw_get hB hK hP (xw_o7 G) (C := RX7) (T := TX7) (N := 11) rfl TBi_X7 9 (by decide) tw_264 rfl rfl dX7_act_29 ?_
        refine lv_aload_n hx hb dX7_act_32 rfl (lv_at hl 0 rfl) ?_
        refine xw_get hB hK hP (xw_o7 G) (C := RX7) (T := TX7) (N := 11) rfl TBi_X7 0 (by decide) tw_255 rfl rfl dX7_act_33 ?_
        refine lv_iload_n hx hb dX7_act_36 rfl (lv_at hl 1 rfl) ?_
        refine lv_iload_n hx hb dX7_act_37 rfl (lv_at hl 2 rfl) ?_
        refine lv_iload_n hx hb dX7_act_38 rfl (lv_at hl 3 rfl) ?_
        replace hf := xw_b_e hf
        obtain ⟨r10, w11, he12, hf⟩ := hf
        refine xw_Vi hB hK hE hS hP (As := [.ref (xw_ad G 1), .int a1, .int a2, .int a3]) (rest := []) (kX0_start l G hG n 1 a1 a2 a3 (Or.inl rfl) w2 _ _ he12) gs_X7_262 (xw_rc hK hP (C := RX0) (T := TX0) (N := 5) (xw_o0 G) rfl) 4 hv_X0_start ⟨Nat.le_of_ble_eq_true rfl, Nat.le_of_ble_eq_true rfl⟩ rfl hl.1 (Nat.le_of_ble_eq_true rfl) rfl dX7_act_39 ⟨Nat.zero_le _, Nat.zero_le _⟩ (fun H locs hP hS => ?_)
        obtain ⟨h0, h1⟩ := xw_s2 hf
        exact xw_iret hB hK hE hS hP hr hlk h0 h1 dX7_act_42
      · replace hf := xw_ip c9 hf
        refine lv_iconst (v := 0) hx hb dX7_act_26 (by decide) ?_
        obtain ⟨h0, h1⟩ := xw_s2 hf
        exact xw_iret hB hK hE hS hP hr hlk h0 h1 dX7_act_27
  exact HH s.heap [] hP hS
def fX7_trace (a1 : Int32) (w0 : xw_M) : Option Int32 := if a1 < 0 then some (-1 : Int32) else if (if (nI 20) < (w0.1 68 3) then (nI 20) else (w0.1 68 3)) ≤ a1 then some (-1 : Int32) else xw_bp (fX7_at 69 20 a1 w0) (fun r3 => some r3)
set_option maxHeartbeats 4000000 in
set_option maxRecDepth 100000 in
theorem kX7_trace (l : Launch) (G : xw_G) (hG : xw_ok G) (a1 : Int32) (w0 : xw_M) (r0 : Int32) (hf : fX7_trace a1 w0 = some r0) : xw_Ti l G yX7_trace cX7_trace 2 ((Option.some Jvm.ClassFile.FieldType.int)) (1) (60) [.ref (xw_ad G 0), .int a1] w0 r0 w0 := by
  unfold xw_Ti
  refine Met.ofW (cc := cX7_trace) (maxL := 2) (ret := (Option.some Jvm.ClassFile.FieldType.int)) (by decide) rfl ?_
  intro p e s m args below meth c s₁ B hml hv
  obtain ⟨hargs, hP, hK, hE⟩ := hv
  have hx := B.exec
  have hb := B.bytes
  have hr := B.returns
  have hlk := B.notSynchronized
  have hB : CallFix p m c cX7_trace 2 s args TB RX7 := ⟨hx, hb, hml, findClass_of_methodNamed B.named, fun q h => (atoms_spec (ws := Cond.code yX7_trace cX7_trace 2 ((Option.some Jvm.ClassFile.FieldType.int)) :: TB) B.pre) q (List.mem_cons_of_mem _ h)⟩
  have hS : va_S (xw_A G) s.heap s.heap [] := va_S.rf
  have hl := lv_entry [.ref (xw_ad G 0), .int a1] (n := 2) (Nat.le_of_ble_eq_true rfl)
  rw [show entryFrame m args 2 = entryFrame m ([.ref (xw_ad G 0), .int a1] : List Value).toArray 2 from by rw [hargs], lg_entry_eq]
  generalize (lg_sl [.ref (xw_ad G 0), .int a1] ++ List.replicate (2 - (lg_sl [.ref (xw_ad G 0), .int a1]).length) Slot.unset).toArray = ls at hl ⊢
  have hP : va_P (xw_D G) xw_cl (xw_W G w0) s.heap := hP
  have hl : lv_has ls 2 [(0, .ref (xw_ad G 0)), (1, .int a1)] := hl
  have HH : ∀ (H : Heap) (locs : List Loc) (hP : va_P (xw_D G) xw_cl (xw_W G w0) H) (hS : va_S (xw_A G) s.heap H locs), xw_Wi G p l e (xw_rm (1) (60)) s m args below meth c H locs r0 w0 (F0 m 0 ls []) := by
    intro H locs hP hS
    unfold fX7_trace at hf
    refine lv_iload_n hx hb dX7_trace_0 rfl (lv_at hl 1 rfl) ?_
    refine lv_if_lt (tgt := 40) hx hb dX7_trace_1 (by decide) (fun c1 => ?_) (fun c1 => ?_)
    · replace hf := xw_ip c1 hf
      refine lv_iconst (v := (-1)) hx hb dX7_trace_40 (by decide) ?_
      have h0 := xw_so hf
      have h1 : w0 = w0 := rfl
      exact xw_iret hB hK hE hS hP hr hlk h0 h1 dX7_trace_41
    · replace hf := xw_in' c1 hf
      refine lv_iload_n hx hb dX7_trace_4 rfl (lv_at hl 1 rfl) ?_
      refine lv_aload_n hx hb dX7_trace_5 rfl (lv_at hl 0 rfl) ?_
      refine xw_get hB hK hP (xw_o7 G) (C := RX7) (T := TX7) (N := 11) rfl TBi_X7 9 (by decide) tw_264 rfl rfl dX7_trace_6 ?_
      refine xw_get hB hK hP (xw_o0 G) (C := RX0) (T := TX0) (N := 5) rfl TBi_X0 3 (by decide) tw_220 rfl rfl dX7_trace_9 ?_
      refine lv_aload_n hx hb dX7_trace_12 rfl (lv_at hl 0 rfl) ?_
      refine xw_get hB hK hP (xw_o7 G) (C := RX7) (T := TX7) (N := 11) rfl TBi_X7 9 (by decide) tw_264 rfl rfl dX7_trace_13 ?_
      refine xw_get hB hK hP (xw_o0 G) (C := RX0) (T := TX0) (N := 5) rfl TBi_X0 4 (by decide) tw_222 rfl rfl dX7_trace_16 ?_
      refine xw_ilen hB hK hP (xw_k69 G) rfl dX7_trace_19 ?_
      refine va_mmin hx hb (hB.2.2.1.trans hl.1.symm) hB.2.2.2.1 (hB.2.2.2.2 _ tm_524) (hB.2.2.2.2 _ tm_38) (hB.2.2.2.2 _ tw_4) (hB.2.2.2.2 _ tm_39) (Nat.le_of_ble_eq_true rfl) (Nat.le_of_ble_eq_true rfl) (Nat.zero_le _) (Nat.zero_le _) dX7_trace_20 ?_
      refine lv_icmp_ge (tgt := 40) hx hb dX7_trace_23 (by decide) (fun c2 => ?_) (fun c2 => ?_)
      · replace hf := xw_ip c2 hf
        refine lv_iconst (v := (-1)) hx hb dX7_trace_40 (by decide) ?_
        have h0 := xw_so hf
        have h1 : w0 = w0 := rfl
        exact xw_iret hB hK hE hS hP hr hlk h0 h1 dX7_trace_41
      · replace hf := xw_in' c2 hf
        refine lv_aload_n hx hb dX7_trace_26 rfl (lv_at hl 0 rfl) ?_
        refine xw_get hB hK hP (xw_o7 G) (C := RX7) (T := TX7) (N := 11) rfl TBi_X7 9 (by decide) tw_264 rfl rfl dX7_trace_27 ?_
        refine xw_get hB hK hP (xw_o0 G) (C := RX0) (T := TX0) (N := 5) rfl TBi_X0 4 (by decide) tw_222 rfl rfl dX7_trace_30 ?_
        refine lv_iload_n hx hb dX7_trace_33 rfl (lv_at hl 1 rfl) ?_
        replace hf := xw_bp_e hf
        obtain ⟨r3, he4, hf⟩ := hf
        refine xw_Si hB hK hE hS hP (As := [.ref (xw_ad G 69), .int a1]) (rest := []) (kX7_at l G hG 69 20 a1 (xw_k69 G) w0 _ he4) tw_311 tw_313 tw_312 tw_1 2 hs_X7_at ⟨Nat.le_of_ble_eq_true rfl, Nat.le_of_ble_eq_true rfl⟩ rfl hl.1 (Nat.le_of_ble_eq_true rfl) rfl dX7_trace_34 ⟨Nat.zero_le _, Nat.zero_le _⟩ (fun H locs hP hS => ?_)
        refine lv_goto (tgt := 41) hx hb dX7_trace_37 (by decide) ?_
        have h0 := xw_so hf
        have h1 : w0 = w0 := rfl
        exact xw_iret hB hK hE hS hP hr hlk h0 h1 dX7_trace_41
  exact HH s.heap [] hP hS
def fX7_taken_82 (n : Nat) (a1 : Int32) (a2 : Int32) (w0 : xw_M) : Option Int32 := some (-12 : Int32)
def fX7_taken_b44 (n : Nat) (a1 : Int32) (a2 : Int32) (x3 : Int32) (x4 : Int32) (x5 : Int32) (w0 : xw_M) : Option ((Int32 × Int32) ⊕ ((Int32) ⊕ (Unit))) := if (nI 7) ≤ x5 then some (.inr (.inr ())) else if x4 < 0 then some (.inr (.inr ())) else if x4 = a2 then some (.inr (.inl x3)) else xw_bp (fX7_atS 7 xw_above x4) (fun r12 => xw_lt (x5 + 1) (fun x5_14 => some (.inl (r12, x5_14))))
def fX7_taken_44 (n : Nat) (a1 : Int32) (a2 : Int32) (x3 : Int32) (x4 : Int32) (x5 : Int32) (w0 : xw_M) : Option Int32 := xw_bp (xw_it (fun z => fX7_taken_b44 n a1 a2 x3 z.1 z.2 w0) n (x4, x5)) (fun z => xw_su z (fun r => some r) (fun _ => fX7_taken_82 n a1 a2 w0))
def fX7_taken (n : Nat) (a1 : Int32) (a2 : Int32) (w0 : xw_M) : Option Int32 := xw_bp (fX7_within a2 (6 : Int32)) (fun r1 => if r1 = 0 then some (-2 : Int32) else xw_bp (fX5_has 1 a1 w0) (fun r4 => if r4 = 0 then some (-11 : Int32) else xw_bp (fX7_at (1 + 1) 6 a1 w0) (fun r7 => fX7_taken_44 n a1 a2 r7 r7 (0 : Int32) w0)))
set_option maxHeartbeats 4000000 in
set_option maxRecDepth 100000 in
theorem kX7_taken (l : Launch) (G : xw_G) (hG : xw_ok G) (n : Nat) (a1 : Int32) (a2 : Int32) (w0 : xw_M) (r0 : Int32) (hf : fX7_taken n a1 a2 w0 = some r0) : xw_Ti l G yX7_taken cX7_taken 6 ((Option.some Jvm.ClassFile.FieldType.int)) (1) (21) [.ref (xw_ad G 0), .int a1, .int a2] w0 r0 w0 := by
  unfold xw_Ti
  refine Met.ofW (cc := cX7_taken) (maxL := 6) (ret := (Option.some Jvm.ClassFile.FieldType.int)) (by decide) rfl ?_
  intro p e s m args below meth c s₁ B hml hv
  obtain ⟨hargs, hP, hK, hE⟩ := hv
  have hx := B.exec
  have hb := B.bytes
  have hr := B.returns
  have hlk := B.notSynchronized
  have hB : CallFix p m c cX7_taken 6 s args TB RX7 := ⟨hx, hb, hml, findClass_of_methodNamed B.named, fun q h => (atoms_spec (ws := Cond.code yX7_taken cX7_taken 6 ((Option.some Jvm.ClassFile.FieldType.int)) :: TB) B.pre) q (List.mem_cons_of_mem _ h)⟩
  have hS : va_S (xw_A G) s.heap s.heap [] := va_S.rf
  have hl := lv_entry [.ref (xw_ad G 0), .int a1, .int a2] (n := 6) (Nat.le_of_ble_eq_true rfl)
  rw [show entryFrame m args 6 = entryFrame m ([.ref (xw_ad G 0), .int a1, .int a2] : List Value).toArray 6 from by rw [hargs], lg_entry_eq]
  generalize (lg_sl [.ref (xw_ad G 0), .int a1, .int a2] ++ List.replicate (6 - (lg_sl [.ref (xw_ad G 0), .int a1, .int a2]).length) Slot.unset).toArray = ls at hl ⊢
  have hP : va_P (xw_D G) xw_cl (xw_W G w0) s.heap := hP
  have hl : lv_has ls 6 [(0, .ref (xw_ad G 0)), (1, .int a1), (2, .int a2)] := hl
  have HH : ∀ (H : Heap) (locs : List Loc) (hP : va_P (xw_D G) xw_cl (xw_W G w0) H) (hS : va_S (xw_A G) s.heap H locs), xw_Wi G p l e (xw_rm (1) (21)) s m args below meth c H locs r0 w0 (F0 m 0 ls []) := by
    intro H locs hP hS
    unfold fX7_taken at hf
    have J82 : ∀ (hf : fX7_taken_82 n a1 a2 w0 = some r0) (H : Heap) (locs : List Loc) (ls : Array Slot) (hP : va_P (xw_D G) xw_cl (xw_W G w0) H) (hS : va_S (xw_A G) s.heap H locs) (hl : lv_has ls 6 []), xw_Wi G p l e (xw_rm (1) (21)) s m args below meth c H locs r0 w0 (F0 m 82 ls []) := by
      intro hf H locs ls hP hS hl
      unfold fX7_taken_82 at hf
      refine lv_bipush (v := (-12)) hx hb dX7_taken_82 (by decide) ?_
      have h0 := xw_so hf
      have h1 : w0 = w0 := rfl
      exact xw_iret hB hK hE hS hP hr hlk h0 h1 dX7_taken_84
    have J44 : ∀ (x3 : Int32) (x4 : Int32) (x5 : Int32) (hf : fX7_taken_44 n a1 a2 x3 x4 x5 w0 = some r0) (H : Heap) (locs : List Loc) (ls : Array Slot) (hP : va_P (xw_D G) xw_cl (xw_W G w0) H) (hS : va_S (xw_A G) s.heap H locs) (hl : lv_has ls 6 [(2, .int a2), (3, .int x3), (4, .int x4), (5, .int x5)]), xw_Wi G p l e (xw_rm (1) (21)) s m args below meth c H locs r0 w0 (F0 m 44 ls []) := by
      intro x3 x4 x5 hf H locs ls hP hS hl
      unfold fX7_taken_44 at hf
      replace hf := xw_bp_e hf
      obtain ⟨bb44, hit44, hfx44⟩ := hf
      have XX44 : ∀ (hf : fX7_taken_82 n a1 a2 w0 = some r0) (H : Heap) (locs : List Loc) (ls : Array Slot) (hP : va_P (xw_D G) xw_cl (xw_W G w0) H) (hS : va_S (xw_A G) s.heap H locs) (hl : lv_has ls 6 []), xw_Wi G p l e (xw_rm (1) (21)) s m args below meth c H locs r0 w0 (F0 m 82 ls []) := by
        intro hf H locs ls hP hS hl
        exact J82 hf H locs ls hP hS (lv_sub hl [] rfl)
      have LL44 : ∀ (nn : Nat) (x4 : Int32) (x5 : Int32) (hit : xw_it (fun z => fX7_taken_b44 n a1 a2 x3 z.1 z.2 w0) nn (x4, x5) = some bb44) (H : Heap) (locs : List Loc) (ls : Array Slot) (hP : va_P (xw_D G) xw_cl (xw_W G w0) H) (hS : va_S (xw_A G) s.heap H locs) (hl : lv_has ls 6 [(2, .int a2), (3, .int x3), (4, .int x4), (5, .int x5)]), xw_Wi G p l e (xw_rm (1) (21)) s m args below meth c H locs r0 w0 (F0 m 44 ls []) := by
        intro nn
        induction nn with
        | zero => intro x4 x5 hit; exact (xw_it_0 hit).elim
        | succ nn ih44 =>
          intro x4 x5 hit H locs ls hP hS hl
          replace hit := xw_it_e hit
          obtain ⟨wv44, hf, hC44, hX44⟩ := hit
          replace hf : fX7_taken_b44 n a1 a2 x3 x4 x5 w0 = some wv44 := hf
          unfold fX7_taken_b44 at hf
          refine lv_iload hx hb dX7_taken_44 (lv_at hl 3 rfl) ?_
          refine xw_gs hB hS (C := "FuneralDebts") (n := "ABOVE") (d := "[I") hE.2.1.1 tw_681 rfl dX7_taken_46 ?_
          refine va_tlen hx hb (xw_sA0 s s.heap hE.2.1) hS rfl dX7_taken_49 ?_
          refine lv_icmp_ge (tgt := 82) hx hb dX7_taken_50 (by decide) (fun c9 => ?_) (fun c9 => ?_)
          · replace hf := xw_ip c9 hf
            have he44 := hX44 _ (xw_so hf).symm
            rw [← he44] at hfx44
            exact XX44  hfx44 H locs ls hP hS (lv_sub hl [] rfl)
          · replace hf := xw_in' c9 hf
            refine lv_iload hx hb dX7_taken_53 (lv_at hl 2 rfl) ?_
            refine lv_if_lt (tgt := 82) hx hb dX7_taken_55 (by decide) (fun c10 => ?_) (fun c10 => ?_)
            · replace hf := xw_ip c10 hf
              have he44 := hX44 _ (xw_so hf).symm
              rw [← he44] at hfx44
              exact XX44  hfx44 H locs ls hP hS (lv_sub hl [] rfl)
            · replace hf := xw_in' c10 hf
              refine lv_iload hx hb dX7_taken_58 (lv_at hl 2 rfl) ?_
              refine lv_iload_n hx hb dX7_taken_60 rfl (lv_at hl 0 rfl) ?_
              refine lv_icmp_ne (tgt := 66) hx hb dX7_taken_61 (by decide) (fun c11 => ?_) (fun c11 => ?_)
              · replace hf := xw_in' c11 hf
                refine xw_gs hB hS (C := "FuneralDebts") (n := "ABOVE") (d := "[I") hE.2.1.1 tw_681 rfl dX7_taken_66 ?_
                refine lv_iload hx hb dX7_taken_69 (lv_at hl 2 rfl) ?_
                replace hf := xw_bp_e hf
                obtain ⟨r12, he13, hf⟩ := hf
                refine xw_Si hB hK hE hS hP (As := [.ref (xw_sa G 0), .int x4]) (rest := []) (kX7_atS l G hG 7 xw_above x4 (xw_sa G 0) xw_sA0 w0 _ he13) tw_311 tw_313 tw_312 tw_1 2 hs_X7_at ⟨Nat.le_of_ble_eq_true rfl, Nat.le_of_ble_eq_true rfl⟩ rfl hl.1 (Nat.le_of_ble_eq_true rfl) rfl dX7_taken_71 ⟨Nat.zero_le _, Nat.zero_le _⟩ (fun H locs hP hS => ?_)
                refine lv_istore (lv' := [(4, .int r12), (2, .int a2), (3, .int x3), (5, .int x5)]) hx hb dX7_taken_74 hl (by decide) rfl (fun ls hl => ?_)
                obtain ⟨x5_14, ex5_14⟩ : ∃ y : Int32, y = x5 + 1 := ⟨_, rfl⟩
                replace hf := xw_lt_e ex5_14 hf
                refine lv_iinc (v := x5_14) (lv' := [(5, .int x5_14), (4, .int r12), (2, .int a2), (3, .int x3)]) hx hb dX7_taken_76 hl (k := 3) rfl (by rw [ex5_14]; rfl) (by decide) rfl (fun ls hl => ?_)
                refine lv_goto (tgt := 44) hx hb dX7_taken_79 (by decide) ?_
                have hi := hC44 _ (xw_so hf).symm
                exact ih44 r12 x5_14 hi H locs ls hP hS (lv_sub hl [2, 3, 1, 0] rfl)
              · replace hf := xw_ip c11 hf
                refine lv_iload_n hx hb dX7_taken_64 rfl (lv_at hl 1 rfl) ?_
                have he44 := hX44 _ (xw_so hf).symm
                rw [← he44] at hfx44
                replace hfx44 : some x3 = some r0 := hfx44
                have h0 := xw_so hfx44
                have h1 : w0 = w0 := rfl
                exact xw_iret hB hK hE hS hP hr hlk h0 h1 dX7_taken_65
      exact LL44 n x4 x5 hit44 H locs ls hP hS hl
    refine lv_iload_n hx hb dX7_taken_0 rfl (lv_at hl 2 rfl) ?_
    refine lv_bipush (v := 6) hx hb dX7_taken_1 (by decide) ?_
    replace hf := xw_bp_e hf
    obtain ⟨r1, he2, hf⟩ := hf
    refine xw_Si hB hK hE hS hP (As := [.int a2, .int (6 : Int32)]) (rest := []) (kX7_within l G hG a2 (6 : Int32) w0 _ he2) tw_293 tw_295 tw_294 tw_1 2 hs_X7_within ⟨Nat.le_of_ble_eq_true rfl, Nat.le_of_ble_eq_true rfl⟩ rfl hl.1 (Nat.le_of_ble_eq_true rfl) rfl dX7_taken_3 ⟨Nat.zero_le _, Nat.zero_le _⟩ (fun H locs hP hS => ?_)
    refine lv_if_ne (tgt := 12) hx hb dX7_taken_6 (by decide) (fun c3 => ?_) (fun c3 => ?_)
    · replace hf := xw_in' c3 hf
      refine lv_aload_n hx hb dX7_taken_12 rfl (lv_at hl 0 rfl) ?_
      refine xw_get hB hK hP (xw_o7 G) (C := RX7) (T := TX7) (N := 11) rfl TBi_X7 0 (by decide) tw_255 rfl rfl dX7_taken_13 ?_
      refine lv_iload_n hx hb dX7_taken_16 rfl (lv_at hl 1 rfl) ?_
      replace hf := xw_bp_e hf
      obtain ⟨r4, he5, hf⟩ := hf
      refine xw_Vi hB hK hE hS hP (As := [.int a1]) (rest := []) (kX5_has l G hG 1 a1 (Or.inl rfl) w0 _ he5) gs_X7_77 (xw_rc hK hP (C := RX5) (T := TX5) (N := 14) (xw_o5 G (Or.inl rfl)) rfl) 1 hv_X5_has ⟨Nat.le_of_ble_eq_true rfl, Nat.le_of_ble_eq_true rfl⟩ rfl hl.1 (Nat.le_of_ble_eq_true rfl) rfl dX7_taken_17 ⟨Nat.zero_le _, Nat.zero_le _⟩ (fun H locs hP hS => ?_)
      refine lv_if_ne (tgt := 26) hx hb dX7_taken_20 (by decide) (fun c6 => ?_) (fun c6 => ?_)
      · replace hf := xw_in' c6 hf
        refine lv_aload_n hx hb dX7_taken_26 rfl (lv_at hl 0 rfl) ?_
        refine xw_get hB hK hP (xw_o7 G) (C := RX7) (T := TX7) (N := 11) rfl TBi_X7 0 (by decide) tw_255 rfl rfl dX7_taken_27 ?_
        refine xw_get hB hK hP (xw_o5 G (Or.inl rfl)) (C := RX5) (T := TX5) (N := 14) rfl TBi_X5 1 (by decide) tw_66 rfl rfl dX7_taken_30 ?_
        refine lv_iload_n hx hb dX7_taken_33 rfl (lv_at hl 1 rfl) ?_
        replace hf := xw_bp_e hf
        obtain ⟨r7, he8, hf⟩ := hf
        refine xw_Si hB hK hE hS hP (As := [.ref (xw_ad G (1 + 1)), .int a1]) (rest := []) (kX7_at l G hG (1 + 1) 6 a1 (xw_a5_1 G (Or.inl rfl)) w0 _ he8) tw_311 tw_313 tw_312 tw_1 2 hs_X7_at ⟨Nat.le_of_ble_eq_true rfl, Nat.le_of_ble_eq_true rfl⟩ rfl hl.1 (Nat.le_of_ble_eq_true rfl) rfl dX7_taken_34 ⟨Nat.zero_le _, Nat.zero_le _⟩ (fun H locs hP hS => ?_)
        refine lv_istore_n (lv' := [(3, .int r7), (0, .ref (xw_ad G 0)), (1, .int a1), (2, .int a2)]) hx hb dX7_taken_37 rfl hl (by decide) rfl (fun ls hl => ?_)
        refine lv_iload_n hx hb dX7_taken_38 rfl (lv_at hl 0 rfl) ?_
        refine lv_istore (lv' := [(4, .int r7), (3, .int r7), (0, .ref (xw_ad G 0)), (1, .int a1), (2, .int a2)]) hx hb dX7_taken_39 hl (by decide) rfl (fun ls hl => ?_)
        refine lv_iconst (v := 0) hx hb dX7_taken_41 (by decide) ?_
        refine lv_istore (lv' := [(5, .int (0 : Int32)), (4, .int r7), (3, .int r7), (0, .ref (xw_ad G 0)), (1, .int a1), (2, .int a2)]) hx hb dX7_taken_42 hl (by decide) rfl (fun ls hl => ?_)
        exact J44 r7 r7 (0 : Int32) hf H locs ls hP hS (lv_sub hl [5, 2, 1, 0] rfl)
      · replace hf := xw_ip c6 hf
        refine lv_bipush (v := (-11)) hx hb dX7_taken_23 (by decide) ?_
        have h0 := xw_so hf
        have h1 : w0 = w0 := rfl
        exact xw_iret hB hK hE hS hP hr hlk h0 h1 dX7_taken_25
    · replace hf := xw_ip c3 hf
      refine lv_bipush (v := (-2)) hx hb dX7_taken_9 (by decide) ?_
      have h0 := xw_so hf
      have h1 : w0 = w0 := rfl
      exact xw_iret hB hK hE hS hP hr hlk h0 h1 dX7_taken_11
  exact HH s.heap [] hP hS
def fX7_count (a1 : Int32) (w0 : xw_M) : Option Int32 := if a1 = 0 then some (w0.1 1 0) else (if a1 = 1 then some (w0.1 0 6) else (if a1 = 2 then some (w0.1 (1 + 7) 3) else (if a1 = 3 then some (w0.1 (1 + 10) 3) else (if a1 = 4 then some (w0.1 (1 + 13) 3) else (if a1 = 5 then some (w0.1 49 1) else (if a1 = 6 then some (w0.1 68 3) else (some (-2 : Int32))))))))
set_option maxHeartbeats 4000000 in
set_option maxRecDepth 100000 in
theorem kX7_count (l : Launch) (G : xw_G) (hG : xw_ok G) (a1 : Int32) (w0 : xw_M) (r0 : Int32) (hf : fX7_count a1 w0 = some r0) : xw_Ti l G yX7_count cX7_count 2 ((Option.some Jvm.ClassFile.FieldType.int)) (0) (0) [.ref (xw_ad G 0), .int a1] w0 r0 w0 := by
  unfold xw_Ti
  refine Met.ofW (cc := cX7_count) (maxL := 2) (ret := (Option.some Jvm.ClassFile.FieldType.int)) (by decide) rfl ?_
  intro p e s m args below meth c s₁ B hml hv
  obtain ⟨hargs, hP, hK, hE⟩ := hv
  have hx := B.exec
  have hb := B.bytes
  have hr := B.returns
  have hlk := B.notSynchronized
  have hB : CallFix p m c cX7_count 2 s args TB RX7 := ⟨hx, hb, hml, findClass_of_methodNamed B.named, fun q h => (atoms_spec (ws := Cond.code yX7_count cX7_count 2 ((Option.some Jvm.ClassFile.FieldType.int)) :: TB) B.pre) q (List.mem_cons_of_mem _ h)⟩
  have hS : va_S (xw_A G) s.heap s.heap [] := va_S.rf
  have hl := lv_entry [.ref (xw_ad G 0), .int a1] (n := 2) (Nat.le_of_ble_eq_true rfl)
  rw [show entryFrame m args 2 = entryFrame m ([.ref (xw_ad G 0), .int a1] : List Value).toArray 2 from by rw [hargs], lg_entry_eq]
  generalize (lg_sl [.ref (xw_ad G 0), .int a1] ++ List.replicate (2 - (lg_sl [.ref (xw_ad G 0), .int a1]).length) Slot.unset).toArray = ls at hl ⊢
  have hP : va_P (xw_D G) xw_cl (xw_W G w0) s.heap := hP
  have hl : lv_has ls 2 [(0, .ref (xw_ad G 0)), (1, .int a1)] := hl
  have HH : ∀ (H : Heap) (locs : List Loc) (hP : va_P (xw_D G) xw_cl (xw_W G w0) H) (hS : va_S (xw_A G) s.heap H locs), xw_Wi G p l e (xw_rm (0) (0)) s m args below meth c H locs r0 w0 (F0 m 0 ls []) := by
    intro H locs hP hS
    unfold fX7_count at hf
    refine lv_iload_n hx hb dX7_count_0 rfl (lv_at hl 1 rfl) ?_
    by_cases c1 : a1 = 0
    · refine lv_tableIn (off := 43) (tgt := 44) hx hb dX7_count_1 (by rw [c1]; decide) (by rw [c1]; decide) (by rw [c1]; rfl) (by decide) ?_
      replace hf := xw_ip c1 hf
      refine lv_aload_n hx hb dX7_count_44 rfl (lv_at hl 0 rfl) ?_
      refine xw_get hB hK hP (xw_o7 G) (C := RX7) (T := TX7) (N := 11) rfl TBi_X7 0 (by decide) tw_255 rfl rfl dX7_count_45 ?_
      refine xw_get hB hK hP (xw_o5 G (Or.inl rfl)) (C := RX5) (T := TX5) (N := 14) rfl TBi_X5 0 (by decide) tw_62 rfl rfl dX7_count_48 ?_
      have h0 := xw_so hf
      have h1 : w0 = w0 := rfl
      exact xw_iret hB hK hE hS hP hr hlk h0 h1 dX7_count_51
    · replace hf := xw_in' c1 hf
      by_cases c2 : a1 = 1
      · refine lv_tableIn (off := 51) (tgt := 52) hx hb dX7_count_1 (by rw [c2]; decide) (by rw [c2]; decide) (by rw [c2]; rfl) (by decide) ?_
        replace hf := xw_ip c2 hf
        refine lv_aload_n hx hb dX7_count_52 rfl (lv_at hl 0 rfl) ?_
        refine xw_get hB hK hP (xw_o7 G) (C := RX7) (T := TX7) (N := 11) rfl TBi_X7 6 (by decide) tw_261 rfl rfl dX7_count_53 ?_
        have h0 := xw_so hf
        have h1 : w0 = w0 := rfl
        exact xw_iret hB hK hE hS hP hr hlk h0 h1 dX7_count_56
      · replace hf := xw_in' c2 hf
        by_cases c3 : a1 = 2
        · refine lv_tableIn (off := 56) (tgt := 57) hx hb dX7_count_1 (by rw [c3]; decide) (by rw [c3]; decide) (by rw [c3]; rfl) (by decide) ?_
          replace hf := xw_ip c3 hf
          refine lv_aload_n hx hb dX7_count_57 rfl (lv_at hl 0 rfl) ?_
          refine xw_get hB hK hP (xw_o7 G) (C := RX7) (T := TX7) (N := 11) rfl TBi_X7 0 (by decide) tw_255 rfl rfl dX7_count_58 ?_
          refine xw_get hB hK hP (xw_o5 G (Or.inl rfl)) (C := RX5) (T := TX5) (N := 14) rfl TBi_X5 11 (by decide) tw_96 rfl rfl dX7_count_61 ?_
          refine xw_get hB hK hP (xw_o1 G (xw_sc_7 (Or.inl rfl))) (C := RX1) (T := TX1) (N := 4) rfl TBi_X1 3 (by decide) tw_49 rfl rfl dX7_count_64 ?_
          have h0 := xw_so hf
          have h1 : w0 = w0 := rfl
          exact xw_iret hB hK hE hS hP hr hlk h0 h1 dX7_count_67
        · replace hf := xw_in' c3 hf
          by_cases c4 : a1 = 3
          · refine lv_tableIn (off := 67) (tgt := 68) hx hb dX7_count_1 (by rw [c4]; decide) (by rw [c4]; decide) (by rw [c4]; rfl) (by decide) ?_
            replace hf := xw_ip c4 hf
            refine lv_aload_n hx hb dX7_count_68 rfl (lv_at hl 0 rfl) ?_
            refine xw_get hB hK hP (xw_o7 G) (C := RX7) (T := TX7) (N := 11) rfl TBi_X7 0 (by decide) tw_255 rfl rfl dX7_count_69 ?_
            refine xw_get hB hK hP (xw_o5 G (Or.inl rfl)) (C := RX5) (T := TX5) (N := 14) rfl TBi_X5 12 (by decide) tw_98 rfl rfl dX7_count_72 ?_
            refine xw_get hB hK hP (xw_o1 G (xw_sc_10 (Or.inl rfl))) (C := RX1) (T := TX1) (N := 4) rfl TBi_X1 3 (by decide) tw_49 rfl rfl dX7_count_75 ?_
            have h0 := xw_so hf
            have h1 : w0 = w0 := rfl
            exact xw_iret hB hK hE hS hP hr hlk h0 h1 dX7_count_78
          · replace hf := xw_in' c4 hf
            by_cases c5 : a1 = 4
            · refine lv_tableIn (off := 78) (tgt := 79) hx hb dX7_count_1 (by rw [c5]; decide) (by rw [c5]; decide) (by rw [c5]; rfl) (by decide) ?_
              replace hf := xw_ip c5 hf
              refine lv_aload_n hx hb dX7_count_79 rfl (lv_at hl 0 rfl) ?_
              refine xw_get hB hK hP (xw_o7 G) (C := RX7) (T := TX7) (N := 11) rfl TBi_X7 0 (by decide) tw_255 rfl rfl dX7_count_80 ?_
              refine xw_get hB hK hP (xw_o5 G (Or.inl rfl)) (C := RX5) (T := TX5) (N := 14) rfl TBi_X5 13 (by decide) tw_100 rfl rfl dX7_count_83 ?_
              refine xw_get hB hK hP (xw_o1 G (xw_sc_13 (Or.inl rfl))) (C := RX1) (T := TX1) (N := 4) rfl TBi_X1 3 (by decide) tw_49 rfl rfl dX7_count_86 ?_
              have h0 := xw_so hf
              have h1 : w0 = w0 := rfl
              exact xw_iret hB hK hE hS hP hr hlk h0 h1 dX7_count_89
            · replace hf := xw_in' c5 hf
              by_cases c6 : a1 = 5
              · refine lv_tableIn (off := 89) (tgt := 90) hx hb dX7_count_1 (by rw [c6]; decide) (by rw [c6]; decide) (by rw [c6]; rfl) (by decide) ?_
                replace hf := xw_ip c6 hf
                refine lv_aload_n hx hb dX7_count_90 rfl (lv_at hl 0 rfl) ?_
                refine xw_get hB hK hP (xw_o7 G) (C := RX7) (T := TX7) (N := 11) rfl TBi_X7 4 (by decide) tw_259 rfl rfl dX7_count_91 ?_
                refine xw_get hB hK hP (xw_o3 G) (C := RX3) (T := TX3) (N := 6) rfl TBi_X3 1 (by decide) tw_172 rfl rfl dX7_count_94 ?_
                have h0 := xw_so hf
                have h1 : w0 = w0 := rfl
                exact xw_iret hB hK hE hS hP hr hlk h0 h1 dX7_count_97
              · replace hf := xw_in' c6 hf
                by_cases c7 : a1 = 6
                · refine lv_tableIn (off := 97) (tgt := 98) hx hb dX7_count_1 (by rw [c7]; decide) (by rw [c7]; decide) (by rw [c7]; rfl) (by decide) ?_
                  replace hf := xw_ip c7 hf
                  refine lv_aload_n hx hb dX7_count_98 rfl (lv_at hl 0 rfl) ?_
                  refine xw_get hB hK hP (xw_o7 G) (C := RX7) (T := TX7) (N := 11) rfl TBi_X7 9 (by decide) tw_264 rfl rfl dX7_count_99 ?_
                  refine xw_get hB hK hP (xw_o0 G) (C := RX0) (T := TX0) (N := 5) rfl TBi_X0 3 (by decide) tw_220 rfl rfl dX7_count_102 ?_
                  have h0 := xw_so hf
                  have h1 : w0 = w0 := rfl
                  exact xw_iret hB hK hE hS hP hr hlk h0 h1 dX7_count_105
                · replace hf := xw_in' c7 hf
                  refine lv_tableOut (tgt := 106) hx hb dX7_count_1 (by have n0 := lv_neT c1 (by decide : (0 : Int32).toInt = 0); have n1 := lv_neT c2 (by decide : (1 : Int32).toInt = 1); have n2 := lv_neT c3 (by decide : (2 : Int32).toInt = 2); have n3 := lv_neT c4 (by decide : (3 : Int32).toInt = 3); have n4 := lv_neT c5 (by decide : (4 : Int32).toInt = 4); have n5 := lv_neT c6 (by decide : (5 : Int32).toInt = 5); have n6 := lv_neT c7 (by decide : (6 : Int32).toInt = 6); omega) (by decide) ?_
                  refine lv_bipush (v := (-2)) hx hb dX7_count_106 (by decide) ?_
                  have h0 := xw_so hf
                  have h1 : w0 = w0 := rfl
                  exact xw_iret hB hK hE hS hP hr hlk h0 h1 dX7_count_108
  exact HH s.heap [] hP hS
def fX6_become_42 (n : Nat) (b : Nat) (a1 : Int32) (a2 : Int32) (w : xw_M) : Option (Unit × xw_M) := some ((), w)
def fX6_become_b20 (n : Nat) (b : Nat) (a1 : Int32) (a2 : Int32) (x3 : Int32) (w : xw_M) : Option ((Int32 × xw_M) ⊕ (xw_M)) := if (nI 60) ≤ x3 then some (.inr w) else xw_ck x3 60 (xw_lt (xw_sl w (b + 1) x3.toNatClampNeg (0 : Int64)) (fun w5 => xw_lt (x3 + 1) (fun x3_6 => some (.inl (x3_6, w5)))))
def fX6_become_20 (n : Nat) (b : Nat) (a1 : Int32) (a2 : Int32) (x3 : Int32) (w : xw_M) : Option (Unit × xw_M) := xw_bp (xw_it (fun z => fX6_become_b20 n b a1 a2 z.1 z.2) n (x3, w)) (fun z => (fun (w : xw_M) => fX6_become_42 n b a1 a2 w) z)
def fX6_become (n : Nat) (b : Nat) (a1 : Int32) (a2 : Int32) (w0 : xw_M) : Option (Unit × xw_M) := xw_lt (xw_si w0 b 0 a1) (fun w1 => xw_lt (xw_si w1 b 1 (if (nI 60) < a2 then (nI 60) else a2)) (fun w2 => fX6_become_20 n b a1 a2 (0 : Int32) w2))
set_option maxHeartbeats 4000000 in
set_option maxRecDepth 100000 in
theorem kX6_become (l : Launch) (G : xw_G) (hG : xw_ok G) (n : Nat) (b : Nat) (a1 : Int32) (a2 : Int32) (hb0 : xw_tp b) (w0 : xw_M) (r0 : Unit) (wz : xw_M) (hf : fX6_become n b a1 a2 w0 = some (r0, wz)) : xw_Tv l G yX6_become cX6_become 4 ((Option.none : Option Jvm.ClassFile.FieldType)) (1) (60) [.ref (xw_ad G b), .int a1, .int a2] w0 r0 wz := by
  unfold xw_Tv
  refine Met.ofW (cc := cX6_become) (maxL := 4) (ret := (Option.none : Option Jvm.ClassFile.FieldType)) (by decide) rfl ?_
  intro p e s m args below meth c s₁ B hml hv
  obtain ⟨hargs, hP, hK, hE⟩ := hv
  have hx := B.exec
  have hb := B.bytes
  have hr := B.returns
  have hlk := B.notSynchronized
  have hB : CallFix p m c cX6_become 4 s args TB RX6 := ⟨hx, hb, hml, findClass_of_methodNamed B.named, fun q h => (atoms_spec (ws := Cond.code yX6_become cX6_become 4 ((Option.none : Option Jvm.ClassFile.FieldType)) :: TB) B.pre) q (List.mem_cons_of_mem _ h)⟩
  have hS : va_S (xw_A G) s.heap s.heap [] := va_S.rf
  have hl := lv_entry [.ref (xw_ad G b), .int a1, .int a2] (n := 4) (Nat.le_of_ble_eq_true rfl)
  rw [show entryFrame m args 4 = entryFrame m ([.ref (xw_ad G b), .int a1, .int a2] : List Value).toArray 4 from by rw [hargs], lg_entry_eq]
  generalize (lg_sl [.ref (xw_ad G b), .int a1, .int a2] ++ List.replicate (4 - (lg_sl [.ref (xw_ad G b), .int a1, .int a2]).length) Slot.unset).toArray = ls at hl ⊢
  have hP : va_P (xw_D G) xw_cl (xw_W G w0) s.heap := hP
  have hl : lv_has ls 4 [(0, .ref (xw_ad G b)), (1, .int a1), (2, .int a2)] := hl
  have HH : ∀ (H : Heap) (locs : List Loc) (hP : va_P (xw_D G) xw_cl (xw_W G w0) H) (hS : va_S (xw_A G) s.heap H locs), xw_Wv G p l e (xw_rm (1) (60)) s m args below meth c H locs r0 wz (F0 m 0 ls []) := by
    intro H locs hP hS
    unfold fX6_become at hf
    have J42 : ∀ (w : xw_M) (hf : fX6_become_42 n b a1 a2 w = some (r0, wz)) (H : Heap) (locs : List Loc) (ls : Array Slot) (hP : va_P (xw_D G) xw_cl (xw_W G w) H) (hS : va_S (xw_A G) s.heap H locs) (hl : lv_has ls 4 []), xw_Wv G p l e (xw_rm (1) (60)) s m args below meth c H locs r0 wz (F0 m 42 ls []) := by
      intro w hf H locs ls hP hS hl
      unfold fX6_become_42 at hf
      obtain ⟨h0, h1⟩ := xw_s2 hf
      exact xw_vret hB hK hE hS hP hr hlk h1 dX6_become_42
    have J20 : ∀ (x3 : Int32) (w : xw_M) (hf : fX6_become_20 n b a1 a2 x3 w = some (r0, wz)) (H : Heap) (locs : List Loc) (ls : Array Slot) (hP : va_P (xw_D G) xw_cl (xw_W G w) H) (hS : va_S (xw_A G) s.heap H locs) (hl : lv_has ls 4 [(0, .ref (xw_ad G b)), (3, .int x3)]), xw_Wv G p l e (xw_rm (1) (60)) s m args below meth c H locs r0 wz (F0 m 20 ls []) := by
      intro x3 w hf H locs ls hP hS hl
      unfold fX6_become_20 at hf
      replace hf := xw_bp_e hf
      obtain ⟨bb20, hit20, hfx20⟩ := hf
      have XX20 : ∀ (w : xw_M) (hf : fX6_become_42 n b a1 a2 w = some (r0, wz)) (H : Heap) (locs : List Loc) (ls : Array Slot) (hP : va_P (xw_D G) xw_cl (xw_W G w) H) (hS : va_S (xw_A G) s.heap H locs) (hl : lv_has ls 4 []), xw_Wv G p l e (xw_rm (1) (60)) s m args below meth c H locs r0 wz (F0 m 42 ls []) := by
        intro w hf H locs ls hP hS hl
        exact J42 w hf H locs ls hP hS (lv_sub hl [] rfl)
      have LL20 : ∀ (nn : Nat) (x3 : Int32) (w : xw_M) (hit : xw_it (fun z => fX6_become_b20 n b a1 a2 z.1 z.2) nn (x3, w) = some bb20) (H : Heap) (locs : List Loc) (ls : Array Slot) (hP : va_P (xw_D G) xw_cl (xw_W G w) H) (hS : va_S (xw_A G) s.heap H locs) (hl : lv_has ls 4 [(0, .ref (xw_ad G b)), (3, .int x3)]), xw_Wv G p l e (xw_rm (1) (60)) s m args below meth c H locs r0 wz (F0 m 20 ls []) := by
        intro nn
        induction nn with
        | zero => intro x3 w hit; exact (xw_it_0 hit).elim
        | succ nn ih20 =>
          intro x3 w hit H locs ls hP hS hl
          replace hit := xw_it_e hit
          obtain ⟨wv20, hf, hC20, hX20⟩ := hit
          replace hf : fX6_become_b20 n b a1 a2 x3 w = some wv20 := hf
          unfold fX6_become_b20 at hf
          refine lv_iload_n hx hb dX6_become_20 rfl (lv_at hl 1 rfl) ?_
          refine lv_aload_n hx hb dX6_become_21 rfl (lv_at hl 0 rfl) ?_
          refine xw_get hB hK hP (xw_o6 G hb0) (C := RX6) (T := TX6) (N := 3) rfl TBi_X6 2 (by decide) tw_245 rfl rfl dX6_become_22 ?_
          refine xw_llen hB hK hP (xw_a6_1 G hb0) dX6_become_25 ?_
          refine lv_icmp_ge (tgt := 42) hx hb dX6_become_26 (by decide) (fun c3 => ?_) (fun c3 => ?_)
          · replace hf := xw_ip c3 hf
            have he20 := hX20 _ (xw_so hf).symm
            rw [← he20] at hfx20
            exact XX20 w hfx20 H locs ls hP hS (lv_sub hl [] rfl)
          · replace hf := xw_in' c3 hf
            refine lv_aload_n hx hb dX6_become_29 rfl (lv_at hl 0 rfl) ?_
            refine xw_get hB hK hP (xw_o6 G hb0) (C := RX6) (T := TX6) (N := 3) rfl TBi_X6 2 (by decide) tw_245 rfl rfl dX6_become_30 ?_
            refine lv_iload_n hx hb dX6_become_33 rfl (lv_at hl 1 rfl) ?_
            refine lv_lconst (v := 0) hx hb dX6_become_34 (by decide) ?_
            replace hf := xw_ck_e hf
            obtain ⟨hi4, hf⟩ := hf
            refine xw_lst hG hB hK hS hP (xw_a6_1 G hb0) hi4 dX6_become_35 (fun w5 ew5 H locs hP hS => ?_)
            replace hf := xw_lt_e ew5 hf
            obtain ⟨x3_6, ex3_6⟩ : ∃ y : Int32, y = x3 + 1 := ⟨_, rfl⟩
            replace hf := xw_lt_e ex3_6 hf
            refine lv_iinc (v := x3_6) (lv' := [(3, .int x3_6), (0, .ref (xw_ad G b))]) hx hb dX6_become_36 hl (k := 1) rfl (by rw [ex3_6]; rfl) (by decide) rfl (fun ls hl => ?_)
            refine lv_goto (tgt := 20) hx hb dX6_become_39 (by decide) ?_
            have hi := hC20 _ (xw_so hf).symm
            exact ih20 x3_6 w5 hi H locs ls hP hS (lv_sub hl [1, 0] rfl)
      exact LL20 n x3 w hit20 H locs ls hP hS hl
    refine lv_aload_n hx hb dX6_become_0 rfl (lv_at hl 0 rfl) ?_
    refine lv_iload_n hx hb dX6_become_1 rfl (lv_at hl 1 rfl) ?_
    refine xw_put hG hB hK hS hP (x := a1) (xw_o6 G hb0) (C := RX6) (T := TX6) (N := 3) rfl TBi_X6 tyX6 tyX6_ok nmX6 0 (by decide) tw_241 rfl rfl rfl rfl rfl (Nat.le_of_ble_eq_true rfl) rfl dX6_become_2 (fun w1 ew1 H locs hP hS => ?_)
    replace hf := xw_lt_e ew1 hf
    refine lv_aload_n hx hb dX6_become_5 rfl (lv_at hl 0 rfl) ?_
    refine lv_iload_n hx hb dX6_become_6 rfl (lv_at hl 2 rfl) ?_
    refine lv_aload_n hx hb dX6_become_7 rfl (lv_at hl 0 rfl) ?_
    refine xw_get hB hK hP (xw_o6 G hb0) (C := RX6) (T := TX6) (N := 3) rfl TBi_X6 2 (by decide) tw_245 rfl rfl dX6_become_8 ?_
    refine xw_llen hB hK hP (xw_a6_1 G hb0) dX6_become_11 ?_
    refine va_mmin hx hb (hB.2.2.1.trans hl.1.symm) hB.2.2.2.1 (hB.2.2.2.2 _ tm_694) (hB.2.2.2.2 _ tm_38) (hB.2.2.2.2 _ tw_4) (hB.2.2.2.2 _ tm_39) (Nat.le_of_ble_eq_true rfl) (Nat.le_of_ble_eq_true rfl) (Nat.zero_le _) (Nat.zero_le _) dX6_become_12 ?_
    refine xw_put hG hB hK hS hP (x := if (nI 60) < a2 then (nI 60) else a2) (xw_o6 G hb0) (C := RX6) (T := TX6) (N := 3) rfl TBi_X6 tyX6 tyX6_ok nmX6 1 (by decide) tw_243 rfl rfl rfl rfl rfl (Nat.le_of_ble_eq_true rfl) rfl dX6_become_15 (fun w2 ew2 H locs hP hS => ?_)
    replace hf := xw_lt_e ew2 hf
    refine lv_iconst (v := 0) hx hb dX6_become_18 (by decide) ?_
    refine lv_istore_n (lv' := [(3, .int (0 : Int32)), (0, .ref (xw_ad G b)), (1, .int a1), (2, .int a2)]) hx hb dX6_become_19 rfl hl (by decide) rfl (fun ls hl => ?_)
    exact J20 (0 : Int32) w2 hf H locs ls hP hS (lv_sub hl [1, 0] rfl)
  exact HH s.heap [] hP hS
