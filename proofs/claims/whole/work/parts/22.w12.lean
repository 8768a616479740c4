def fX8_lay_31 (n : Nat) (a1 : Int32) (w : xw_M) : Option (Unit × xw_M) := some ((), w)
def fX8_lay_b2 (n : Nat) (a1 : Int32) (x2 : Int32) (w : xw_M) : Option ((Int32 × xw_M) ⊕ (xw_M)) := if (109 : Int32) ≤ x2 then some (.inr w) else xw_ck (((109 : Int32) * a1) + x2) 218 (xw_ck x2 109 (xw_lt (xw_si w 120 x2.toNatClampNeg (w.1 121 (((109 : Int32) * a1) + x2).toNatClampNeg)) (fun w4 => xw_lt (x2 + 1) (fun x2_5 => some (.inl (x2_5, w4))))))
def fX8_lay_2 (n : Nat) (a1 : Int32) (x2 : Int32) (w : xw_M) : Option (Unit × xw_M) := xw_bp (xw_it (fun z => fX8_lay_b2 n a1 z.1 z.2) n (x2, w)) (fun z => (fun (w : xw_M) => fX8_lay_31 n a1 w) z)
def fX8_lay (n : Nat) (a1 : Int32) (w0 : xw_M) : Option (Unit × xw_M) := fX8_lay_2 n a1 (0 : Int32) w0
set_option maxHeartbeats 4000000 in
set_option maxRecDepth 100000 in
theorem kX8_lay (l : Launch) (G : xw_G) (hG : xw_ok G) (n : Nat) (a1 : Int32) (w0 : xw_M) (r0 : Unit) (wz : xw_M) (hf : fX8_lay n a1 w0 = some (r0, wz)) : xw_Tv l G yX8_lay cX8_lay 3 ((Option.none : Option Jvm.ClassFile.FieldType)) (0) (0) [.ref (xw_ad G 119), .int a1] w0 r0 wz := by
  unfold xw_Tv
  refine Met.ofW (cc := cX8_lay) (maxL := 3) (ret := (Option.none : Option Jvm.ClassFile.FieldType)) (by decide) rfl ?_
  intro p e s m args below meth c s₁ B hml hv
  obtain ⟨hargs, hP, hK, hE⟩ := hv
  have hx := B.exec
  have hb := B.bytes
  have hr := B.returns
  have hlk := B.notSynchronized
  have hB : CallFix p m c cX8_lay 3 s args TB RX8 := ⟨hx, hb, hml, findClass_of_methodNamed B.named, fun q h => (atoms_spec (ws := Cond.code yX8_lay cX8_lay 3 ((Option.none : Option Jvm.ClassFile.FieldType)) :: TB) B.pre) q (List.mem_cons_of_mem _ h)⟩
  have hS : va_S (xw_A G) s.heap s.heap [] := va_S.rf
  have hl := lv_entry [.ref (xw_ad G 119), .int a1] (n := 3) (Nat.le_of_ble_eq_true rfl)
  rw [show entryFrame m args 3 = entryFrame m ([.ref (xw_ad G 119), .int a1] : List Value).toArray 3 from by rw [hargs], lg_entry_eq]
  generalize (lg_sl [.ref (xw_ad G 119), .int a1] ++ List.replicate (3 - (lg_sl [.ref (xw_ad G 119), .int a1]).length) Slot.unset).toArray = ls at hl ⊢
  have hP : va_P (xw_D G) xw_cl (xw_W G w0) s.heap := hP
  have hl : lv_has ls 3 [(0, .ref (xw_ad G 119)), (1, .int a1)] := hl
  have HH : ∀ (H : Heap) (locs : List Loc) (hP : va_P (xw_D G) xw_cl (xw_W G w0) H) (hS : va_S (xw_A G) s.heap H locs), xw_Wv G p l e (xw_rm (0) (0)) s m args below meth c H locs r0 wz (F0 m 0 ls []) := by
    intro H locs hP hS
    unfold fX8_lay at hf
    have J31 : ∀ (w : xw_M) (hf : fX8_lay_31 n a1 w = some (r0, wz)) (H : Heap) (locs : List Loc) (ls : Array Slot) (hP : va_P (xw_D G) xw_cl (xw_W G w) H) (hS : va_S (xw_A G) s.heap H locs) (hl : lv_has ls 3 []), xw_Wv G p l e (xw_rm (0) (0)) s m args below meth c H locs r0 wz (F0 m 31 ls []) := by
      intro w hf H locs ls hP hS hl
      unfold fX8_lay_31 at hf
      obtain ⟨h0, h1⟩ := xw_s2 hf
      exact xw_vret hB hK hE hS hP hr hlk h1 dX8_lay_31
    have J2 : ∀ (x2 : Int32) (w : xw_M) (hf : fX8_lay_2 n a1 x2 w = some (r0, wz)) (H : Heap) (locs : List Loc) (ls : Array Slot) (hP : va_P (xw_D G) xw_cl (xw_W G w) H) (hS : va_S (xw_A G) s.heap H locs) (hl : lv_has ls 3 [(0, .ref (xw_ad G 119)), (1, .int a1), (2, .int x2)]), xw_Wv G p l e (xw_rm (0) (0)) s m args below meth c H locs r0 wz (F0 m 2 ls []) := by
      intro x2 w hf H locs ls hP hS hl
      unfold fX8_lay_2 at hf
      replace hf := xw_bp_e hf
      obtain ⟨bb2, hit2, hfx2⟩ := hf
      have XX2 : ∀ (w : xw_M) (hf : fX8_lay_31 n a1 w = some (r0, wz)) (H : Heap) (locs : List Loc) (ls : Array Slot) (hP : va_P (xw_D G) xw_cl (xw_W G w) H) (hS : va_S (xw_A G) s.heap H locs) (hl : lv_has ls 3 []), xw_Wv G p l e (xw_rm (0) (0)) s m args below meth c H locs r0 wz (F0 m 31 ls []) := by
        intro w hf H locs ls hP hS hl
        exact J31 w hf H locs ls hP hS (lv_sub hl [] rfl)
      have LL2 : ∀ (nn : Nat) (x2 : Int32) (w : xw_M) (hit : xw_it (fun z => fX8_lay_b2 n a1 z.1 z.2) nn (x2, w) = some bb2) (H : Heap) (locs : List Loc) (ls : Array Slot) (hP : va_P (xw_D G) xw_cl (xw_W G w) H) (hS : va_S (xw_A G) s.heap H locs) (hl : lv_has ls 3 [(0, .ref (xw_ad G 119)), (1, .int a1), (2, .int x2)]), xw_Wv G p l e (xw_rm (0) (0)) s m args below meth c H locs r0 wz (F0 m 2 ls []) := by
        intro nn
        induction nn with
        | zero => intro x2 w hit; exact (xw_it_0 hit).elim
        | succ nn ih2 =>
          intro x2 w hit H locs ls hP hS hl
          replace hit := xw_it_e hit
          obtain ⟨wv2, hf, hC2, hX2⟩ := hit
          replace hf : fX8_lay_b2 n a1 x2 w = some wv2 := hf
          unfold fX8_lay_b2 at hf
          refine lv_iload_n hx hb dX8_lay_2 rfl (lv_at hl 2 rfl) ?_
          refine lv_bipush (v := 109) hx hb dX8_lay_3 (by decide) ?_
          refine lv_icmp_ge (tgt := 31) hx hb dX8_lay_5 (by decide) (fun c1 => ?_) (fun c1 => ?_)
          · replace hf := xw_ip c1 hf
            have he2 := hX2 _ (xw_so hf).symm
            rw [← he2] at hfx2
            exact XX2 w hfx2 H locs ls hP hS (lv_sub hl [] rfl)
          · replace hf := xw_in' c1 hf
            refine lv_aload_n hx hb dX8_lay_8 rfl (lv_at hl 0 rfl) ?_
            refine xw_get hB hK hP (xw_o8 G) (C := RX8) (T := TX8) (N := 31) rfl TBi_X8 0 (by decide) tw_728 rfl rfl dX8_lay_9 ?_
            refine lv_iload_n hx hb dX8_lay_12 rfl (lv_at hl 2 rfl) ?_
            refine lv_aload_n hx hb dX8_lay_13 rfl (lv_at hl 0 rfl) ?_
            refine xw_get hB hK hP (xw_o8 G) (C := RX8) (T := TX8) (N := 31) rfl TBi_X8 1 (by decide) tw_729 rfl rfl dX8_lay_14 ?_
            refine lv_bipush (v := 109) hx hb dX8_lay_17 (by decide) ?_
            refine lv_iload_n hx hb dX8_lay_19 rfl (lv_at hl 1 rfl) ?_
            refine lv_imul hx hb dX8_lay_20 ?_
            refine lv_iload_n hx hb dX8_lay_21 rfl (lv_at hl 2 rfl) ?_
            refine lv_iadd hx hb dX8_lay_22 ?_
            replace hf := xw_ck_e hf
            obtain ⟨hi2, hf⟩ := hf
            refine xw_ild hB hK hP (xw_k121 G) hi2 dX8_lay_23 ?_
            replace hf := xw_ck_e hf
            obtain ⟨hi3, hf⟩ := hf
            refine xw_ist hG hB hK hS hP (xw_k120 G) hi3 dX8_lay_24 (fun w4 ew4 H locs hP hS => ?_)
            replace hf := xw_lt_e ew4 hf
            obtain ⟨x2_5, ex2_5⟩ : ∃ y : Int32, y = x2 + 1 := ⟨_, rfl⟩
            replace hf := xw_lt_e ex2_5 hf
            refine lv_iinc (v := x2_5) (lv' := [(2, .int x2_5), (0, .ref (xw_ad G 119)), (1, .int a1)]) hx hb dX8_lay_25 hl (k := 2) rfl (by rw [ex2_5]; rfl) (by decide) rfl (fun ls hl => ?_)
            refine lv_goto (tgt := 2) hx hb dX8_lay_28 (by decide) ?_
            have hi := hC2 _ (xw_so hf).symm
            exact ih2 x2_5 w4 hi H locs ls hP hS (lv_sub hl [1, 2, 0] rfl)
      exact LL2 n x2 w hit2 H locs ls hP hS hl
    refine lv_iconst (v := 0) hx hb dX8_lay_0 (by decide) ?_
    refine lv_istore_n (lv' := [(2, .int (0 : Int32)), (0, .ref (xw_ad G 119)), (1, .int a1)]) hx hb dX8_lay_1 rfl hl (by decide) rfl (fun ls hl => ?_)
    exact J2 (0 : Int32) w0 hf H locs ls hP hS (lv_sub hl [1, 2, 0] rfl)
  exact HH s.heap [] hP hS
def fX8_still_43 (n : Nat) (x1 : Int32) (w : xw_M) : Option (Int32 × xw_M) := xw_b (fX8_lay n (0 : Int32) w) (fun (_ : Unit) w12 => some (x1, w12))
def fX8_still_36 (n : Nat) (x2 : Int32) (v0 : Int32) (w : xw_M) : Option ((Int32 × Int32 × xw_M) ⊕ (Int32 × xw_M)) := xw_lt (x2 + 1) (fun x2_10 => some (.inl (v0, x2_10, w)))
def fX8_still_b10 (n : Nat) (x1 : Int32) (x2 : Int32) (w : xw_M) : Option ((Int32 × Int32 × xw_M) ⊕ (Int32 × xw_M)) := if (20 : Int32) < x2 then some (.inr (x1, w)) else if x1 = (-5 : Int32) then xw_b (fX8_day n (0 : Int32) w) (fun r6 w7 => if r6 = 0 then fX8_still_36 n x2 x2 w7 else fX8_still_36 n x2 (-5 : Int32) w7) else some (.inr (x1, w))
def fX8_still_10 (n : Nat) (x1 : Int32) (x2 : Int32) (w : xw_M) : Option (Int32 × xw_M) := xw_bp (xw_it (fun z => fX8_still_b10 n z.1 z.2.1 z.2.2) n (x1, x2, w)) (fun z => (fun (x1 : Int32) (w : xw_M) => fX8_still_43 n x1 w) z.1 z.2)
def fX8_still (n : Nat) (w0 : xw_M) : Option (Int32 × xw_M) := xw_b (fX8_keep n (0 : Int32) w0) (fun (_ : Unit) w2 => fX8_still_10 n (-5 : Int32) (0 : Int32) w2)
set_option maxHeartbeats 4000000 in
set_option maxRecDepth 100000 in
theorem kX8_still (l : Launch) (G : xw_G) (hG : xw_ok G) (n : Nat) (w0 : xw_M) (r0 : Int32) (wz : xw_M) (hf : fX8_still n w0 = some (r0, wz)) : xw_Ti l G yX8_still cX8_still 3 ((Option.some Jvm.ClassFile.FieldType.int)) (36) (796) [.ref (xw_ad G 119)] w0 r0 wz := by
  unfold xw_Ti
  refine Met.ofW (cc := cX8_still) (maxL := 3) (ret := (Option.some Jvm.ClassFile.FieldType.int)) (by decide) rfl ?_
  intro p e s m args below meth c s₁ B hml hv
  obtain ⟨hargs, hP, hK, hE⟩ := hv
  have hx := B.exec
  have hb := B.bytes
  have hr := B.returns
  have hlk := B.notSynchronized
  have hB : CallFix p m c cX8_still 3 s args TB RX8 := ⟨hx, hb, hml, findClass_of_methodNamed B.named, fun q h => (atoms_spec (ws := Cond.code yX8_still cX8_still 3 ((Option.some Jvm.ClassFile.FieldType.int)) :: TB) B.pre) q (List.mem_cons_of_mem _ h)⟩
  have hS : va_S (xw_A G) s.heap s.heap [] := va_S.rf
  have hl := lv_entry [.ref (xw_ad G 119)] (n := 3) (Nat.le_of_ble_eq_true rfl)
  rw [show entryFrame m args 3 = entryFrame m ([.ref (xw_ad G 119)] : List Value).toArray 3 from by rw [hargs], lg_entry_eq]
  generalize (lg_sl [.ref (xw_ad G 119)] ++ List.replicate (3 - (lg_sl [.ref (xw_ad G 119)]).length) Slot.unset).toArray = ls at hl ⊢
  have hP : va_P (xw_D G) xw_cl (xw_W G w0) s.heap := hP
  have hl : lv_has ls 3 [(0, .ref (xw_ad G 119))] := hl
  have HH : ∀ (H : Heap) (locs : List Loc) (hP : va_P (xw_D G) xw_cl (xw_W G w0) H) (hS : va_S (xw_A G) s.heap H locs), xw_Wi G p l e (xw_rm (36) (796)) s m args below meth c H locs r0 wz (F0 m 0 ls []) := by
    intro H locs hP hS
    unfold fX8_still at hf
    have J43 : ∀ (x1 : Int32) (w : xw_M) (hf : fX8_still_43 n x1 w = some (r0, wz)) (H : Heap) (locs : List Loc) (ls : Array Slot) (hP : va_P (xw_D G) xw_cl (xw_W G w) H) (hS : va_S (xw_A G) s.heap H locs) (hl : lv_has ls 3 [(0, .ref (xw_ad G 119)), (1, .int x1)]), xw_Wi G p l e (xw_rm (36) (796)) s m args below meth c H locs r0 wz (F0 m 43 ls []) := by
      intro x1 w hf H locs ls hP hS hl
      unfold fX8_still_43 at hf
      refine lv_aload_n hx hb dX8_still_43 rfl (lv_at hl 0 rfl) ?_
      refine lv_iconst (v := 0) hx hb dX8_still_44 (by decide) ?_
      replace hf := xw_b_e hf
      obtain ⟨r11, w12, he13, hf⟩ := hf
      refine xw_Vv hB hK hE hS hP (As := [.int (0 : Int32)]) (rest := []) (kX8_lay l G hG n (0 : Int32) w _ _ he13) gs_X8_201 (xw_rc hK hP (C := RX8) (T := TX8) (N := 31) (xw_o8 G) rfl) 1 hv_X8_lay ⟨Nat.le_of_ble_eq_true rfl, Nat.le_of_ble_eq_true rfl⟩ rfl hl.1 (Nat.le_of_ble_eq_true rfl) rfl dX8_still_45 ⟨Nat.zero_le _, Nat.zero_le _⟩ (fun H locs hP hS => ?_)
      refine lv_iload_n hx hb dX8_still_48 rfl (lv_at hl 1 rfl) ?_
      obtain ⟨h0, h1⟩ := xw_s2 hf
      exact xw_iret hB hK hE hS hP hr hlk h0 h1 dX8_still_49
    have J10 : ∀ (x1 : Int32) (x2 : Int32) (w : xw_M) (hf : fX8_still_10 n x1 x2 w = some (r0, wz)) (H : Heap) (locs : List Loc) (ls : Array Slot) (hP : va_P (xw_D G) xw_cl (xw_W G w) H) (hS : va_S (xw_A G) s.heap H locs) (hl : lv_has ls 3 [(0, .ref (xw_ad G 119)), (1, .int x1), (2, .int x2)]), xw_Wi G p l e (xw_rm (36) (796)) s m args below meth c H locs r0 wz (F0 m 10 ls []) := by
      intro x1 x2 w hf H locs ls hP hS hl
      unfold fX8_still_10 at hf
      replace hf := xw_bp_e hf
      obtain ⟨bb10, hit10, hfx10⟩ := hf
      have XX10 : ∀ (x1 : Int32) (w : xw_M) (hf : fX8_still_43 n x1 w = some (r0, wz)) (H : Heap) (locs : List Loc) (ls : Array Slot) (hP : va_P (xw_D G) xw_cl (xw_W G w) H) (hS : va_S (xw_A G) s.heap H locs) (hl : lv_has ls 3 [(0, .ref (xw_ad G 119)), (1, .int x1)]), xw_Wi G p l e (xw_rm (36) (796)) s m args below meth c H locs r0 wz (F0 m 43 ls []) := by
        intro x1 w hf H locs ls hP hS hl
        exact J43 x1 w hf H locs ls hP hS (lv_sub hl [0, 1] rfl)
      have LL10 : ∀ (nn : Nat) (x1 : Int32) (x2 : Int32) (w : xw_M) (hit : xw_it (fun z => fX8_still_b10 n z.1 z.2.1 z.2.2) nn (x1, x2, w) = some bb10) (H : Heap) (locs : List Loc) (ls : Array Slot) (hP : va_P (xw_D G) xw_cl (xw_W G w) H) (hS : va_S (xw_A G) s.heap H locs) (hl : lv_has ls 3 [(0, .ref (xw_ad G 119)), (1, .int x1), (2, .int x2)]), xw_Wi G p l e (xw_rm (36) (796)) s m args below meth c H locs r0 wz (F0 m 10 ls []) := by
        intro nn
        induction nn with
        | zero => intro x1 x2 w hit; exact (xw_it_0 hit).elim
        | succ nn ih10 =>
          intro x1 x2 w hit H locs ls hP hS hl
          replace hit := xw_it_e hit
          obtain ⟨wv10, hf, hC10, hX10⟩ := hit
          replace hf : fX8_still_b10 n x1 x2 w = some wv10 := hf
          unfold fX8_still_b10 at hf
          have J36 : ∀ (x2 : Int32) (v0 : Int32) (w : xw_M) (hf : fX8_still_36 n x2 v0 w = some wv10) (H : Heap) (locs : List Loc) (ls : Array Slot) (hP : va_P (xw_D G) xw_cl (xw_W G w) H) (hS : va_S (xw_A G) s.heap H locs) (hl : lv_has ls 3 [(0, .ref (xw_ad G 119)), (2, .int x2)]), xw_Wi G p l e (xw_rm (36) (796)) s m args below meth c H locs r0 wz (F0 m 36 ls [.int v0]) := by
            intro x2 v0 w hf H locs ls hP hS hl
            unfold fX8_still_36 at hf
            refine lv_istore_n (lv' := [(1, .int v0), (0, .ref (xw_ad G 119)), (2, .int x2)]) hx hb dX8_still_36 rfl hl (by decide) rfl (fun ls hl => ?_)
            obtain ⟨x2_10, ex2_10⟩ : ∃ y : Int32, y = x2 + 1 := ⟨_, rfl⟩
            replace hf := xw_lt_e ex2_10 hf
            refine lv_iinc (v := x2_10) (lv' := [(2, .int x2_10), (1, .int v0), (0, .ref (xw_ad G 119))]) hx hb dX8_still_37 hl (k := 2) rfl (by rw [ex2_10]; rfl) (by decide) rfl (fun ls hl => ?_)
            refine lv_goto (tgt := 10) hx hb dX8_still_40 (by decide) ?_
            have hi := hC10 _ (xw_so hf).symm
            exact ih10 v0 x2_10 w hi H locs ls hP hS (lv_sub hl [2, 1, 0] rfl)
          refine lv_iload_n hx hb dX8_still_10 rfl (lv_at hl 2 rfl) ?_
          refine lv_bipush (v := 20) hx hb dX8_still_11 (by decide) ?_
          refine lv_icmp_gt (tgt := 43) hx hb dX8_still_13 (by decide) (fun c4 => ?_) (fun c4 => ?_)
          · replace hf := xw_ip c4 hf
            have he10 := hX10 _ (xw_so hf).symm
            rw [← he10] at hfx10
            exact XX10 x1 w hfx10 H locs ls hP hS (lv_sub hl [0, 1] rfl)
          · replace hf := xw_in' c4 hf
            refine lv_iload_n hx hb dX8_still_16 rfl (lv_at hl 1 rfl) ?_
            refine lv_bipush (v := (-5)) hx hb dX8_still_17 (by decide) ?_
            refine lv_icmp_ne (tgt := 43) hx hb dX8_still_19 (by decide) (fun c5 => ?_) (fun c5 => ?_)
            · replace hf := xw_in' c5 hf
              have he10 := hX10 _ (xw_so hf).symm
              rw [← he10] at hfx10
              exact XX10 x1 w hfx10 H locs ls hP hS (lv_sub hl [0, 1] rfl)
            · replace hf := xw_ip c5 hf
              refine lv_aload_n hx hb dX8_still_22 rfl (lv_at hl 0 rfl) ?_
              refine lv_iconst (v := 0) hx hb dX8_still_23 (by decide) ?_
              replace hf := xw_b_e hf
              obtain ⟨r6, w7, he8, hf⟩ := hf
              refine xw_Vi hB hK hE hS hP (As := [.int (0 : Int32)]) (rest := []) (kX8_day l G hG n (0 : Int32) w _ _ he8) gs_X8_197 (xw_rc hK hP (C := RX8) (T := TX8) (N := 31) (xw_o8 G) rfl) 1 hv_X8_day ⟨Nat.le_of_ble_eq_true rfl, Nat.le_of_ble_eq_true rfl⟩ rfl hl.1 (Nat.le_of_ble_eq_true rfl) rfl dX8_still_24 ⟨Nat.zero_le _, Nat.zero_le _⟩ (fun H locs hP hS => ?_)
              refine lv_if_ne (tgt := 34) hx hb dX8_still_27 (by decide) (fun c9 => ?_) (fun c9 => ?_)
              · replace hf := xw_in' c9 hf
                refine lv_bipush (v := (-5)) hx hb dX8_still_34 (by decide) ?_
                exact J36 x2 (-5 : Int32) w7 hf H locs ls hP hS (lv_sub hl [0, 2] rfl)
              · replace hf := xw_ip c9 hf
                refine lv_iload_n hx hb dX8_still_30 rfl (lv_at hl 2 rfl) ?_
                refine lv_goto (tgt := 36) hx hb dX8_still_31 (by decide) ?_
                exact J36 x2 x2 w7 hf H locs ls hP hS (lv_sub hl [0, 2] rfl)
      exact LL10 n x1 x2 w hit10 H locs ls hP hS hl
    refine lv_aload_n hx hb dX8_still_0 rfl (lv_at hl 0 rfl) ?_
    refine lv_iconst (v := 0) hx hb dX8_still_1 (by decide) ?_
    replace hf := xw_b_e hf
    obtain ⟨r1, w2, he3, hf⟩ := hf
    refine xw_Vv hB hK hE hS hP (As := [.int (0 : Int32)]) (rest := []) (kX8_keep l G hG n (0 : Int32) w0 _ _ he3) gs_X8_194 (xw_rc hK hP (C := RX8) (T := TX8) (N := 31) (xw_o8 G) rfl) 1 hv_X8_keep ⟨Nat.le_of_ble_eq_true rfl, Nat.le_of_ble_eq_true rfl⟩ rfl hl.1 (Nat.le_of_ble_eq_true rfl) rfl dX8_still_2 ⟨Nat.zero_le _, Nat.zero_le _⟩ (fun H locs hP hS => ?_)
    refine lv_bipush (v := (-5)) hx hb dX8_still_5 (by decide) ?_
    refine lv_istore_n (lv' := [(1, .int (-5 : Int32)), (0, .ref (xw_ad G 119))]) hx hb dX8_still_7 rfl hl (by decide) rfl (fun ls hl => ?_)
    refine lv_iconst (v := 0) hx hb dX8_still_8 (by decide) ?_
    refine lv_istore_n (lv' := [(2, .int (0 : Int32)), (1, .int (-5 : Int32)), (0, .ref (xw_ad G 119))]) hx hb dX8_still_9 rfl hl (by decide) rfl (fun ls hl => ?_)
    exact J10 (-5 : Int32) (0 : Int32) w2 hf H locs ls hP hS (lv_sub hl [2, 1, 0] rfl)
  exact HH s.heap [] hP hS
def fX8_gains_110 (n : Nat) (x1 : Int32) (w : xw_M) : Option (Int32 × xw_M) := some (x1, w)
def fX8_gains_102 (n : Nat) (x2 : Int32) (v0 : Int32) (v1 : Int32) (w : xw_M) : Option ((Int32 × Int32 × xw_M) ⊕ (Int32 × xw_M)) := xw_lt (v0 ||| v1) (fun x1_32 => xw_lt (x2 + 1) (fun x2_33 => some (.inl (x1_32, x2_33, w))))
def fX8_gains_101 (n : Nat) (x2 : Int32) (v0 : Int32) (w : xw_M) : Option ((Int32 × Int32 × xw_M) ⊕ (Int32 × xw_M)) := fX8_gains_102 n x2 v0 (0 : Int32) w
def fX8_gains_b55 (n : Nat) (x1 : Int32) (x2 : Int32) (w : xw_M) : Option ((Int32 × Int32 × xw_M) ⊕ (Int32 × xw_M)) := xw_ck (60 : Int32) 109 (if (w.1 120 (60 : Int32).toNatClampNeg) ≤ x2 then some (.inr (x1, w)) else xw_bp (fX8_isHere x2 w) (fun r22 => if r22 = 0 then fX8_gains_101 n x2 x1 w else xw_ck x2 6 (xw_bp (fX8_one x2 (3 : Int32) w) (fun r26 => xw_b (fX8_worth n x2 r26 w) (fun r28 w29 => if (w.1 133 x2.toNatClampNeg) ≤ r28 then fX8_gains_101 n x2 x1 w29 else fX8_gains_102 n x2 x1 ((1 : Int32) <<< (x2 &&& 31)) w29)))))
def fX8_gains_55 (n : Nat) (x1 : Int32) (x2 : Int32) (w : xw_M) : Option (Int32 × xw_M) := xw_bp (xw_it (fun z => fX8_gains_b55 n z.1 z.2.1 z.2.2) n (x1, x2, w)) (fun z => (fun (x1 : Int32) (w : xw_M) => fX8_gains_110 n x1 w) z.1 z.2)
def fX8_gains_48 (n : Nat) (x1 : Int32) (w : xw_M) : Option (Int32 × xw_M) := xw_b (fX8_lay n (0 : Int32) w) (fun (_ : Unit) w18 => fX8_gains_55 n x1 (0 : Int32) w18)
def fX8_gains_b14 (n : Nat) (x1 : Int32) (x2 : Int32) (w : xw_M) : Option ((Int32 × xw_M) ⊕ (xw_M)) := xw_ck (60 : Int32) 109 (if (w.1 120 (60 : Int32).toNatClampNeg) ≤ x2 then some (.inr w) else xw_bp (fX8_one x2 (3 : Int32) w) (fun r9 => xw_b (fX8_worth n x2 r9 w) (fun r11 w12 => xw_ck x2 6 (xw_lt (xw_si w12 133 x2.toNatClampNeg r11) (fun w15 => xw_lt (x2 + 1) (fun x2_16 => some (.inl (x2_16, w15))))))))
def fX8_gains_14 (n : Nat) (x1 : Int32) (x2 : Int32) (w : xw_M) : Option (Int32 × xw_M) := xw_bp (xw_it (fun z => fX8_gains_b14 n x1 z.1 z.2) n (x2, w)) (fun z => (fun (w : xw_M) => fX8_gains_48 n x1 w) z)
def fX8_gains (n : Nat) (w0 : xw_M) : Option (Int32 × xw_M) := xw_b (fX8_keep n (0 : Int32) w0) (fun (_ : Unit) w2 => xw_b (fX8_moves n w2) (fun r4 w5 => fX8_gains_14 n (0 : Int32) (0 : Int32) w5))
set_option maxHeartbeats 4000000 in
set_option maxRecDepth 100000 in
theorem kX8_gains (l : Launch) (G : xw_G) (hG : xw_ok G) (n : Nat) (w0 : xw_M) (r0 : Int32) (wz : xw_M) (hf : fX8_gains n w0 = some (r0, wz)) : xw_Ti l G yX8_gains cX8_gains 3 ((Option.some Jvm.ClassFile.FieldType.int)) (35) (772) [.ref (xw_ad G 119)] w0 r0 wz := by
  unfold xw_Ti
  refine Met.ofW (cc := cX8_gains) (maxL := 3) (ret := (Option.some Jvm.ClassFile.FieldType.int)) (by decide) rfl ?_
  intro p e s m args below meth c s₁ B hml hv
  obtain ⟨hargs, hP, hK, hE⟩ := hv
  have hx := B.exec
  have hb := B.bytes
  have hr := B.returns
  have hlk := B.notSynchronized
  have hB : CallFix p m c cX8_gains 3 s args TB RX8 := ⟨hx, hb, hml, findClass_of_methodNamed B.named, fun q h => (atoms_spec (ws := Cond.code yX8_gains cX8_gains 3 ((Option.some Jvm.ClassFile.FieldType.int)) :: TB) B.pre) q (List.mem_cons_of_mem _ h)⟩
  have hS : va_S (xw_A G) s.heap s.heap [] := va_S.rf
  have hl := lv_entry [.ref (xw_ad G 119)] (n := 3) (Nat.le_of_ble_eq_true rfl)
  rw [show entryFrame m args 3 = entryFrame m ([.ref (xw_ad G 119)] : List Value).toArray 3 from by rw [hargs], lg_entry_eq]
  generalize (lg_sl [.ref (xw_ad G 119)] ++ List.replicate (3 - (lg_sl [.ref (xw_ad G 119)]).length) Slot.unset).toArray = ls at hl ⊢
  have hP : va_P (xw_D G) xw_cl (xw_W G w0) s.heap := hP
  have hl : lv_has ls 3 [(0, .ref (xw_ad G 119))] := hl
  have HH : ∀ (H : Heap) (locs : List Loc) (hP : va_P (xw_D G) xw_cl (xw_W G w0) H) (hS : va_S (xw_A G) s.heap H locs), xw_Wi G p l e (xw_rm (35) (772)) s m args below meth c H locs r0 wz (F0 m 0 ls []) := by
    intro H locs hP hS
    unfold fX8_gains at hf
    have J110 : ∀ (x1 : Int32) (w : xw_M) (hf : fX8_gains_110 n x1 w = some (r0, wz)) (H : Heap) (locs : List Loc) (ls : Array Slot) (hP : va_P (xw_D G) xw_cl (xw_W G w) H) (hS : va_S (xw_A G) s.heap H locs) (hl : lv_has ls 3 [(1, .int x1)]), xw_Wi G p l e (xw_rm (35) (772)) s m args below meth c H locs r0 wz (F0 m 110 ls []) := by
      intro x1 w hf H locs ls hP hS hl
      unfold fX8_gains_110 at hf
      refine lv_iload_n hx hb dX8_gains_110 rfl (lv_at hl 0 rfl) ?_
      obtain ⟨h0, h1⟩ := xw_s2 hf
      exact xw_iret hB hK hE hS hP hr hlk h0 h1 dX8_gains_111
    have J55 : ∀ (x1 : Int32) (x2 : Int32) (w : xw_M) (hf : fX8_gains_55 n x1 x2 w = some (r0, wz)) (H : Heap) (locs : List Loc) (ls : Array Slot) (hP : va_P (xw_D G) xw_cl (xw_W G w) H) (hS : va_S (xw_A G) s.heap H locs) (hl : lv_has ls 3 [(0, .ref (xw_ad G 119)), (1, .int x1), (2, .int x2)]), xw_Wi G p l e (xw_rm (35) (772)) s m args below meth c H locs r0 wz (F0 m 55 ls []) := by
      intro x1 x2 w hf H locs ls hP hS hl
      unfold fX8_gains_55 at hf
      replace hf := xw_bp_e hf
      obtain ⟨bb55, hit55, hfx55⟩ := hf
      have XX55 : ∀ (x1 : Int32) (w : xw_M) (hf : fX8_gains_110 n x1 w = some (r0, wz)) (H : Heap) (locs : List Loc) (ls : Array Slot) (hP : va_P (xw_D G) xw_cl (xw_W G w) H) (hS : va_S (xw_A G) s.heap H locs) (hl : lv_has ls 3 [(1, .int x1)]), xw_Wi G p l e (xw_rm (35) (772)) s m args below meth c H locs r0 wz (F0 m 110 ls []) := by
        intro x1 w hf H locs ls hP hS hl
        exact J110 x1 w hf H locs ls hP hS (lv_sub hl [0] rfl)
      have LL55 : ∀ (nn : Nat) (x1 : Int32) (x2 : Int32) (w : xw_M) (hit : xw_it (fun z => fX8_gains_b55 n z.1 z.2.1 z.2.2) nn (x1, x2, w) = some bb55) (H : Heap) (locs : List Loc) (ls : Array Slot) (hP : va_P (xw_D G) xw_cl (xw_W G w) H) (hS : va_S (xw_A G) s.heap H locs) (hl : lv_has ls 3 [(0, .ref (xw_ad G 119)), (1, .int x1), (2, .int x2)]), xw_Wi G p l e (xw_rm (35) (772)) s m args below meth c H locs r0 wz (F0 m 55 ls []) := by
        intro nn
        induction nn with
        | zero => intro x1 x2 w hit; exact (xw_it_0 hit).elim
        | succ nn ih55 =>
          intro x1 x2 w hit H locs ls hP hS hl
          replace hit := xw_it_e hit
          obtain ⟨wv55, hf, hC55, hX55⟩ := hit
          replace hf : fX8_gains_b55 n x1 x2 w = some wv55 := hf
          unfold fX8_gains_b55 at hf
          have J102 : ∀ (x2 : Int32) (v0 : Int32) (v1 : Int32) (w : xw_M) (hf : fX8_gains_102 n x2 v0 v1 w = some wv55) (H : Heap) (locs : List Loc) (ls : Array Slot) (hP : va_P (xw_D G) xw_cl (xw_W G w) H) (hS : va_S (xw_A G) s.heap H locs) (hl : lv_has ls 3 [(0, .ref (xw_ad G 119)), (2, .int x2)]), xw_Wi G p l e (xw_rm (35) (772)) s m args below meth c H locs r0 wz (F0 m 102 ls [.int v1, .int v0]) := by
            intro x2 v0 v1 w hf H locs ls hP hS hl
            unfold fX8_gains_102 at hf
            refine lv_ior hx hb dX8_gains_102 ?_
            refine lv_topi (fun x1_32 ex1_32 => ?_)
            replace hf := xw_lt_e ex1_32 hf
            refine lv_istore_n (lv' := [(1, .int x1_32), (0, .ref (xw_ad G 119)), (2, .int x2)]) hx hb dX8_gains_103 rfl hl (by decide) rfl (fun ls hl => ?_)
            obtain ⟨x2_33, ex2_33⟩ : ∃ y : Int32, y = x2 + 1 := ⟨_, rfl⟩
            replace hf := xw_lt_e ex2_33 hf
            refine lv_iinc (v := x2_33) (lv' := [(2, .int x2_33), (1, .int x1_32), (0, .ref (xw_ad G 119))]) hx hb dX8_gains_104 hl (k := 2) rfl (by rw [ex2_33]; rfl) (by decide) rfl (fun ls hl => ?_)
            refine lv_goto (tgt := 55) hx hb dX8_gains_107 (by decide) ?_
            have hi := hC55 _ (xw_so hf).symm
            exact ih55 x1_32 x2_33 w hi H locs ls hP hS (lv_sub hl [2, 1, 0] rfl)
          have J101 : ∀ (x2 : Int32) (v0 : Int32) (w : xw_M) (hf : fX8_gains_101 n x2 v0 w = some wv55) (H : Heap) (locs : List Loc) (ls : Array Slot) (hP : va_P (xw_D G) xw_cl (xw_W G w) H) (hS : va_S (xw_A G) s.heap H locs) (hl : lv_has ls 3 [(0, .ref (xw_ad G 119)), (2, .int x2)]), xw_Wi G p l e (xw_rm (35) (772)) s m args below meth c H locs r0 wz (F0 m 101 ls [.int v0]) := by
            intro x2 v0 w hf H locs ls hP hS hl
            unfold fX8_gains_101 at hf
            refine lv_iconst (v := 0) hx hb dX8_gains_101 (by decide) ?_
            exact J102 x2 v0 (0 : Int32) w hf H locs ls hP hS (lv_sub hl [0, 1] rfl)
          refine lv_iload_n hx hb dX8_gains_55 rfl (lv_at hl 2 rfl) ?_
          refine lv_aload_n hx hb dX8_gains_56 rfl (lv_at hl 0 rfl) ?_
          refine xw_get hB hK hP (xw_o8 G) (C := RX8) (T := TX8) (N := 31) rfl TBi_X8 0 (by decide) tw_728 rfl rfl dX8_gains_57 ?_
          refine lv_bipush (v := 60) hx hb dX8_gains_60 (by decide) ?_
          replace hf := xw_ck_e hf
          obtain ⟨hi20, hf⟩ := hf
          refine xw_ild hB hK hP (xw_k120 G) hi20 dX8_gains_62 ?_
          refine lv_icmp_ge (tgt := 110) hx hb dX8_gains_63 (by decide) (fun c21 => ?_) (fun c21 => ?_)
          · replace hf := xw_ip c21 hf
            have he55 := hX55 _ (xw_so hf).symm
            rw [← he55] at hfx55
            exact XX55 x1 w hfx55 H locs ls hP hS (lv_sub hl [1] rfl)
          · replace hf := xw_in' c21 hf
            refine lv_iload_n hx hb dX8_gains_66 rfl (lv_at hl 1 rfl) ?_
            refine lv_aload_n hx hb dX8_gains_67 rfl (lv_at hl 0 rfl) ?_
            refine lv_iload_n hx hb dX8_gains_68 rfl (lv_at hl 2 rfl) ?_
            replace hf := xw_bp_e hf
            obtain ⟨r22, he23, hf⟩ := hf
            refine xw_Vi hB hK hE hS hP (As := [.int x2]) (rest := [.int x1]) (kX8_isHere l G hG x2 w _ he23) gs_X8_179 (xw_rc hK hP (C := RX8) (T := TX8) (N := 31) (xw_o8 G) rfl) 1 hv_X8_isHere ⟨Nat.le_of_ble_eq_true rfl, Nat.le_of_ble_eq_true rfl⟩ rfl hl.1 (Nat.le_of_ble_eq_true rfl) rfl dX8_gains_69 ⟨Nat.zero_le _, Nat.zero_le _⟩ (fun H locs hP hS => ?_)
            refine lv_if_eq (tgt := 101) hx hb dX8_gains_72 (by decide) (fun c24 => ?_) (fun c24 => ?_)
            · replace hf := xw_ip c24 hf
              exact J101 x2 x1 w hf H locs ls hP hS (lv_sub hl [0, 2] rfl)
            · replace hf := xw_in' c24 hf
              refine lv_aload_n hx hb dX8_gains_75 rfl (lv_at hl 0 rfl) ?_
              refine xw_get hB hK hP (xw_o8 G) (C := RX8) (T := TX8) (N := 31) rfl TBi_X8 22 (by decide) tw_750 rfl rfl dX8_gains_76 ?_
              refine lv_iload_n hx hb dX8_gains_79 rfl (lv_at hl 2 rfl) ?_
              replace hf := xw_ck_e hf
              obtain ⟨hi25, hf⟩ := hf
              refine xw_ild hB hK hP (xw_k133 G) hi25 dX8_gains_80 ?_
              refine lv_aload_n hx hb dX8_gains_81 rfl (lv_at hl 0 rfl) ?_
              refine lv_iload_n hx hb dX8_gains_82 rfl (lv_at hl 2 rfl) ?_
              refine lv_aload_n hx hb dX8_gains_83 rfl (lv_at hl 0 rfl) ?_
              refine lv_iload_n hx hb dX8_gains_84 rfl (lv_at hl 2 rfl) ?_
              refine lv_iconst (v := 3) hx hb dX8_gains_85 (by decide) ?_
              replace hf := xw_bp_e hf
              obtain ⟨r26, he27, hf⟩ := hf
              refine xw_Vi hB hK hE hS hP (As := [.int x2, .int (3 : Int32)]) (rest := [.int x2, .ref (xw_ad G 119), .int (w.1 133 x2.toNatClampNeg), .int x1]) (kX8_one l G hG x2 (3 : Int32) w _ he27) gs_X8_89 (xw_rc hK hP (C := RX8) (T := TX8) (N := 31) (xw_o8 G) rfl) 2 hv_X8_one ⟨Nat.le_of_ble_eq_true rfl, Nat.le_of_ble_eq_true rfl⟩ rfl hl.1 (Nat.le_of_ble_eq_true rfl) rfl dX8_gains_86 ⟨Nat.zero_le _, Nat.zero_le _⟩ (fun H locs hP hS => ?_)
              replace hf := xw_b_e hf
              obtain ⟨r28, w29, he30, hf⟩ := hf
              refine xw_Vi hB hK hE hS hP (As := [.int x2, .int r26]) (rest := [.int (w.1 133 x2.toNatClampNeg), .int x1]) (kX8_worth l G hG n x2 r26 w _ _ he30) gs_X8_114 (xw_rc hK hP (C := RX8) (T := TX8) (N := 31) (xw_o8 G) rfl) 2 hv_X8_worth ⟨Nat.le_of_ble_eq_true rfl, Nat.le_of_ble_eq_true rfl⟩ rfl hl.1 (Nat.le_of_ble_eq_true rfl) rfl dX8_gains_89 ⟨Nat.zero_le _, Nat.zero_le _⟩ (fun H locs hP hS => ?_)
              refine lv_icmp_le (tgt := 101) hx hb dX8_gains_92 (by decide) (fun c31 => ?_) (fun c31 => ?_)
              · replace hf := xw_ip c31 hf
                exact J101 x2 x1 w29 hf H locs ls hP hS (lv_sub hl [0, 2] rfl)
              · replace hf := xw_in' c31 hf
                refine lv_iconst (v := 1) hx hb dX8_gains_95 (by decide) ?_
                refine lv_iload_n hx hb dX8_gains_96 rfl (lv_at hl 2 rfl) ?_
                refine lv_ishl hx hb dX8_gains_97 ?_
                refine lv_goto (tgt := 102) hx hb dX8_gains_98 (by decide) ?_
                exact J102 x2 x1 ((1 : Int32) <<< (x2 &&& 31)) w29 hf H locs ls hP hS (lv_sub hl [0, 2] rfl)
      exact LL55 n x1 x2 w hit55 H locs ls hP hS hl
    have J48 : ∀ (x1 : Int32) (w : xw_M) (hf : fX8_gains_48 n x1 w = some (r0, wz)) (H : Heap) (locs : List Loc) (ls : Array Slot) (hP : va_P (xw_D G) xw_cl (xw_W G w) H) (hS : va_S (xw_A G) s.heap H locs) (hl : lv_has ls 3 [(0, .ref (xw_ad G 119)), (1, .int x1)]), xw_Wi G p l e (xw_rm (35) (772)) s m args below meth c H locs r0 wz (F0 m 48 ls []) := by
      intro x1 w hf H locs ls hP hS hl
      unfold fX8_gains_48 at hf
      refine lv_aload_n hx hb dX8_gains_48 rfl (lv_at hl 0 rfl) ?_
      refine lv_iconst (v := 0) hx hb dX8_gains_49 (by decide) ?_
      replace hf := xw_b_e hf
      obtain ⟨r17, w18, he19, hf⟩ := hf
      refine xw_Vv hB hK hE hS hP (As := [.int (0 : Int32)]) (rest := []) (kX8_lay l G hG n (0 : Int32) w _ _ he19) gs_X8_201 (xw_rc hK hP (C := RX8) (T := TX8) (N := 31) (xw_o8 G) rfl) 1 hv_X8_lay ⟨Nat.le_of_ble_eq_true rfl, Nat.le_of_ble_eq_true rfl⟩ rfl hl.1 (Nat.le_of_ble_eq_true rfl) rfl dX8_gains_50 ⟨Nat.zero_le _, Nat.zero_le _⟩ (fun H locs hP hS => ?_)
      refine lv_iconst (v := 0) hx hb dX8_gains_53 (by decide) ?_
      refine lv_istore_n (lv' := [(2, .int (0 : Int32)), (0, .ref (xw_ad G 119)), (1, .int x1)]) hx hb dX8_gains_54 rfl hl (by decide) rfl (fun ls hl => ?_)
      exact J55 x1 (0 : Int32) w18 hf H locs ls hP hS (lv_sub hl [1, 2, 0] rfl)
    have J14 : ∀ (x1 : Int32) (x2 : Int32) (w : xw_M) (hf : fX8_gains_14 n x1 x2 w = some (r0, wz)) (H : Heap) (locs : List Loc) (ls : Array Slot) (hP : va_P (xw_D G) xw_cl (xw_W G w) H) (hS : va_S (xw_A G) s.heap H locs) (hl : lv_has ls 3 [(0, .ref (xw_ad G 119)), (1, .int x1), (2, .int x2)]), xw_Wi G p l e (xw_rm (35) (772)) s m args below meth c H locs r0 wz (F0 m 14 ls []) := by
      intro x1 x2 w hf H locs ls hP hS hl
      unfold fX8_gains_14 at hf
      replace hf := xw_bp_e hf
      obtain ⟨bb14, hit14, hfx14⟩ := hf
      have XX14 : ∀ (w : xw_M) (hf : fX8_gains_48 n x1 w = some (r0, wz)) (H : Heap) (locs : List Loc) (ls : Array Slot) (hP : va_P (xw_D G) xw_cl (xw_W G w) H) (hS : va_S (xw_A G) s.heap H locs) (hl : lv_has ls 3 [(0, .ref (xw_ad G 119)), (1, .int x1)]), xw_Wi G p l e (xw_rm (35) (772)) s m args below meth c H locs r0 wz (F0 m 48 ls []) := by
        intro w hf H locs ls hP hS hl
        exact J48 x1 w hf H locs ls hP hS (lv_sub hl [0, 1] rfl)
      have LL14 : ∀ (nn : Nat) (x2 : Int32) (w : xw_M) (hit : xw_it (fun z => fX8_gains_b14 n x1 z.1 z.2) nn (x2, w) = some bb14) (H : Heap) (locs : List Loc) (ls : Array Slot) (hP : va_P (xw_D G) xw_cl (xw_W G w) H) (hS : va_S (xw_A G) s.heap H locs) (hl : lv_has ls 3 [(0, .ref (xw_ad G 119)), (1, .int x1), (2, .int x2)]), xw_Wi G p l e (xw_rm (35) (772)) s m args below meth c H locs r0 wz (F0 m 14 ls []) := by
        intro nn
        induction nn with
        | zero => intro x2 w hit; exact (xw_it_0 hit).elim
        | succ nn ih14 =>
          intro x2 w hit H locs ls hP hS hl
          replace hit := xw_it_e hit
          obtain ⟨wv14, hf, hC14, hX14⟩ := hit
          replace hf : fX8_gains_b14 n x1 x2 w = some wv14 := hf
          unfold fX8_gains_b14 at hf
          refine lv_iload_n hx hb dX8_gains_14 rfl (lv_at hl 2 rfl) ?_
          refine lv_aload_n hx hb dX8_gains_15 rfl (lv_at hl 0 rfl) ?_
          refine xw_get hB hK hP (xw_o8 G) (C := RX8) (T := TX8) (N := 31) rfl TBi_X8 0 (by decide) tw_728 rfl rfl dX8_gains_16 ?_
          refine lv_bipush (v := 60) hx hb dX8_gains_19 (by decide) ?_
          replace hf := xw_ck_e hf
          obtain ⟨hi7, hf⟩ := hf
          refine xw_ild hB hK hP (xw_k120 G) hi7 dX8_gains_21 ?_
          refine lv_icmp_ge (tgt := 48) hx hb dX8_gains_22 (by decide) (fun c8 => ?_) (fun c8 => ?_)
          · replace hf := xw_ip c8 hf
            have he14 := hX14 _ (xw_so hf).symm
            rw [← he14] at hfx14
            exact XX14 w hfx14 H locs ls hP hS (lv_sub hl [0, 1] rfl)
          · replace hf := xw_in' c8 hf
            refine lv_aload_n hx hb dX8_gains_25 rfl (lv_at hl 0 rfl) ?_
            refine xw_get hB hK hP (xw_o8 G) (C := RX8) (T := TX8) (N := 31) rfl TBi_X8 22 (by decide) tw_750 rfl rfl dX8_gains_26 ?_
            refine lv_iload_n hx hb dX8_gains_29 rfl (lv_at hl 2 rfl) ?_
            refine lv_aload_n hx hb dX8_gains_30 rfl (lv_at hl 0 rfl) ?_
            refine lv_iload_n hx hb dX8_gains_31 rfl (lv_at hl 2 rfl) ?_
            refine lv_aload_n hx hb dX8_gains_32 rfl (lv_at hl 0 rfl) ?_
            refine lv_iload_n hx hb dX8_gains_33 rfl (lv_at hl 2 rfl) ?_
            refine lv_iconst (v := 3) hx hb dX8_gains_34 (by decide) ?_
            replace hf := xw_bp_e hf
            obtain ⟨r9, he10, hf⟩ := hf
            refine xw_Vi hB hK hE hS hP (As := [.int x2, .int (3 : Int32)]) (rest := [.int x2, .ref (xw_ad G 119), .int x2, .ref (xw_ad G 133)]) (kX8_one l G hG x2 (3 : Int32) w _ he10) gs_X8_89 (xw_rc hK hP (C := RX8) (T := TX8) (N := 31) (xw_o8 G) rfl) 2 hv_X8_one ⟨Nat.le_of_ble_eq_true rfl, Nat.le_of_ble_eq_true rfl⟩ rfl hl.1 (Nat.le_of_ble_eq_true rfl) rfl dX8_gains_35 ⟨Nat.zero_le _, Nat.zero_le _⟩ (fun H locs hP hS => ?_)
            replace hf := xw_b_e hf
            obtain ⟨r11, w12, he13, hf⟩ := hf
            refine xw_Vi hB hK hE hS hP (As := [.int x2, .int r9]) (rest := [.int x2, .ref (xw_ad G 133)]) (kX8_worth l G hG n x2 r9 w _ _ he13) gs_X8_114 (xw_rc hK hP (C := RX8) (T := TX8) (N := 31) (xw_o8 G) rfl) 2 hv_X8_worth ⟨Nat.le_of_ble_eq_true rfl, Nat.le_of_ble_eq_true rfl⟩ rfl hl.1 (Nat.le_of_ble_eq_true rfl) rfl dX8_gains_38 ⟨Nat.zero_le _, Nat.zero_le _⟩ (fun H locs hP hS => ?_)
            replace hf := xw_ck_e hf
            obtain ⟨hi14, hf⟩ := hf
            refine xw_ist hG hB hK hS hP (xw_k133 G) hi14 dX8_gains_41 (fun w15 ew15 H locs hP hS => ?_)
            replace hf := xw_lt_e ew15 hf
            obtain ⟨x2_16, ex2_16⟩ : ∃ y : Int32, y = x2 + 1 := ⟨_, rfl⟩
            replace hf := xw_lt_e ex2_16 hf
            refine lv_iinc (v := x2_16) (lv' := [(2, .int x2_16), (0, .ref (xw_ad G 119)), (1, .int x1)]) hx hb dX8_gains_42 hl (k := 2) rfl (by rw [ex2_16]; rfl) (by decide) rfl (fun ls hl => ?_)
            refine lv_goto (tgt := 14) hx hb dX8_gains_45 (by decide) ?_
            have hi := hC14 _ (xw_so hf).symm
            exact ih14 x2_16 w15 hi H locs ls hP hS (lv_sub hl [1, 2, 0] rfl)
      exact LL14 n x2 w hit14 H locs ls hP hS hl
    refine lv_aload_n hx hb dX8_gains_0 rfl (lv_at hl 0 rfl) ?_
    refine lv_iconst (v := 0) hx hb dX8_gains_1 (by decide) ?_
    replace hf := xw_b_e hf
    obtain ⟨r1, w2, he3, hf⟩ := hf
    refine xw_Vv hB hK hE hS hP (As := [.int (0 : Int32)]) (rest := []) (kX8_keep l G hG n (0 : Int32) w0 _ _ he3) gs_X8_194 (xw_rc hK hP (C := RX8) (T := TX8) (N := 31) (xw_o8 G) rfl) 1 hv_X8_keep ⟨Nat.le_of_ble_eq_true rfl, Nat.le_of_ble_eq_true rfl⟩ rfl hl.1 (Nat.le_of_ble_eq_true rfl) rfl dX8_gains_2 ⟨Nat.zero_le _, Nat.zero_le _⟩ (fun H locs hP hS => ?_)
    refine lv_aload_n hx hb dX8_gains_5 rfl (lv_at hl 0 rfl) ?_
    replace hf := xw_b_e hf
    obtain ⟨r4, w5, he6, hf⟩ := hf
    refine xw_Vi hB hK hE hS hP (As := []) (rest := []) (kX8_moves l G hG n w2 _ _ he6) gs_X8_187 (xw_rc hK hP (C := RX8) (T := TX8) (N := 31) (xw_o8 G) rfl) 0 hv_X8_moves ⟨Nat.le_of_ble_eq_true rfl, Nat.le_of_ble_eq_true rfl⟩ rfl hl.1 (Nat.le_of_ble_eq_true rfl) rfl dX8_gains_6 ⟨Nat.zero_le _, Nat.zero_le _⟩ (fun H locs hP hS => ?_)
    refine lv_pop hx hb dX8_gains_9 rfl ?_
    refine lv_iconst (v := 0) hx hb dX8_gains_10 (by decide) ?_
    refine lv_istore_n (lv' := [(1, .int (0 : Int32)), (0, .ref (xw_ad G 119))]) hx hb dX8_gains_11 rfl hl (by decide) rfl (fun ls hl => ?_)
    refine lv_iconst (v := 0) hx hb dX8_gains_12 (by decide) ?_
    refine lv_istore_n (lv' := [(2, .int (0 : Int32)), (1, .int (0 : Int32)), (0, .ref (xw_ad G 119))]) hx hb dX8_gains_13 rfl hl (by decide) rfl (fun ls hl => ?_)
    exact J14 (0 : Int32) (0 : Int32) w5 hf H locs ls hP hS (lv_sub hl [2, 1, 0] rfl)
  exact HH s.heap [] hP hS
def fX8_isAllSeen_64 (n : Nat) (x1 : Int32) (w : xw_M) : Option (Int32 × xw_M) := xw_cc (x1 = 0 ∨ x1 = 1) (some (x1, w))
def fX8_isAllSeen_57 (n : Nat) (x2 : Int32) (v0 : Int32) (w : xw_M) : Option ((Int32 × Int32) ⊕ (Int32)) := xw_lt (x2 + 1) (fun x2_12 => some (.inl (v0, x2_12)))
def fX8_isAllSeen_56 (n : Nat) (x2 : Int32) (w : xw_M) : Option ((Int32 × Int32) ⊕ (Int32)) := fX8_isAllSeen_57 n x2 (0 : Int32) w
def fX8_isAllSeen_b8 (n : Nat) (x1 : Int32) (x2 : Int32) (w : xw_M) : Option ((Int32 × Int32) ⊕ (Int32)) := xw_ck (64 : Int32) 109 (if (w.1 120 (64 : Int32).toNatClampNeg) ≤ x2 then some (.inr x1) else xw_lt ((65 : Int32) + ((2 : Int32) * x2)) (fun x3_6 => if x1 = 0 then fX8_isAllSeen_56 n x2 w else xw_ck x3_6 109 (xw_ck (w.1 120 x3_6.toNatClampNeg) 6 (xw_ck (x3_6 + (1 : Int32)) 109 (if (w.1 132 (w.1 120 x3_6.toNatClampNeg).toNatClampNeg) = (w.1 120 (x3_6 + (1 : Int32)).toNatClampNeg) then fX8_isAllSeen_57 n x2 (1 : Int32) w else fX8_isAllSeen_56 n x2 w)))))
def fX8_isAllSeen_8 (n : Nat) (x1 : Int32) (x2 : Int32) (w : xw_M) : Option (Int32 × xw_M) := xw_bp (xw_it (fun z => fX8_isAllSeen_b8 n z.1 z.2 w) n (x1, x2)) (fun z => (fun (x1 : Int32) => fX8_isAllSeen_64 n x1 w) z)
def fX8_isAllSeen (n : Nat) (w0 : xw_M) : Option (Int32 × xw_M) := xw_b (fX8_share n w0) (fun (_ : Unit) w2 => fX8_isAllSeen_8 n (1 : Int32) (0 : Int32) w2)
set_option maxHeartbeats 4000000 in
set_option maxRecDepth 100000 in
theorem kX8_isAllSeen (l : Launch) (G : xw_G) (hG : xw_ok G) (n : Nat) (w0 : xw_M) (r0 : Int32) (wz : xw_M) (hf : fX8_isAllSeen n w0 = some (r0, wz)) : xw_Ti l G yX8_isAllSeen cX8_isAllSeen 4 ((Option.some Jvm.ClassFile.FieldType.boolean)) (32) (700) [.ref (xw_ad G 119)] w0 r0 wz := by
  unfold xw_Ti
  refine Met.ofW (cc := cX8_isAllSeen) (maxL := 4) (ret := (Option.some Jvm.ClassFile.FieldType.boolean)) (by decide) rfl ?_
  intro p e s m args below meth c s₁ B hml hv
  obtain ⟨hargs, hP, hK, hE⟩ := hv
  have hx := B.exec
  have hb := B.bytes
  have hr := B.returns
  have hlk := B.notSynchronized
  have hB : CallFix p m c cX8_isAllSeen 4 s args TB RX8 := ⟨hx, hb, hml, findClass_of_methodNamed B.named, fun q h => (atoms_spec (ws := Cond.code yX8_isAllSeen cX8_isAllSeen 4 ((Option.some Jvm.ClassFile.FieldType.boolean)) :: TB) B.pre) q (List.mem_cons_of_mem _ h)⟩
  have hS : va_S (xw_A G) s.heap s.heap [] := va_S.rf
  have hl := lv_entry [.ref (xw_ad G 119)] (n := 4) (Nat.le_of_ble_eq_true rfl)
  rw [show entryFrame m args 4 = entryFrame m ([.ref (xw_ad G 119)] : List Value).toArray 4 from by rw [hargs], lg_entry_eq]
  generalize (lg_sl [.ref (xw_ad G 119)] ++ List.replicate (4 - (lg_sl [.ref (xw_ad G 119)]).length) Slot.unset).toArray = ls at hl ⊢
  have hP : va_P (xw_D G) xw_cl (xw_W G w0) s.heap := hP
  have hl : lv_has ls 4 [(0, .ref (xw_ad G 119))] := hl
  have HH : ∀ (H : Heap) (locs : List Loc) (hP : va_P (xw_D G) xw_cl (xw_W G w0) H) (hS : va_S (xw_A G) s.heap H locs), xw_Wi G p l e (xw_rm (32) (700)) s m args below meth c H locs r0 wz (F0 m 0 ls []) := by
    intro H locs hP hS
    unfold fX8_isAllSeen at hf
    have J64 : ∀ (x1 : Int32) (w : xw_M) (hf : fX8_isAllSeen_64 n x1 w = some (r0, wz)) (H : Heap) (locs : List Loc) (ls : Array Slot) (hP : va_P (xw_D G) xw_cl (xw_W G w) H) (hS : va_S (xw_A G) s.heap H locs) (hl : lv_has ls 4 [(1, .int x1)]), xw_Wi G p l e (xw_rm (32) (700)) s m args below meth c H locs r0 wz (F0 m 64 ls []) := by
      intro x1 w hf H locs ls hP hS hl
      unfold fX8_isAllSeen_64 at hf
      refine lv_iload_n hx hb dX8_isAllSeen_64 rfl (lv_at hl 0 rfl) ?_
      replace hf := xw_cc_e hf
      obtain ⟨hn, hf⟩ := hf
      obtain ⟨h0, h1⟩ := xw_s2 hf
      exact xw_zret hB hK hE hS hP hr hlk (xw_nar hn) h0 h1 dX8_isAllSeen_65
    have J8 : ∀ (x1 : Int32) (x2 : Int32) (w : xw_M) (hf : fX8_isAllSeen_8 n x1 x2 w = some (r0, wz)) (H : Heap) (locs : List Loc) (ls : Array Slot) (hP : va_P (xw_D G) xw_cl (xw_W G w) H) (hS : va_S (xw_A G) s.heap H locs) (hl : lv_has ls 4 [(0, .ref (xw_ad G 119)), (1, .int x1), (2, .int x2)]), xw_Wi G p l e (xw_rm (32) (700)) s m args below meth c H locs r0 wz (F0 m 8 ls []) := by
      intro x1 x2 w hf H locs ls hP hS hl
      unfold fX8_isAllSeen_8 at hf
      replace hf := xw_bp_e hf
      obtain ⟨bb8, hit8, hfx8⟩ := hf
      have XX8 : ∀ (x1 : Int32) (hf : fX8_isAllSeen_64 n x1 w = some (r0, wz)) (H : Heap) (locs : List Loc) (ls : Array Slot) (hP : va_P (xw_D G) xw_cl (xw_W G w) H) (hS : va_S (xw_A G) s.heap H locs) (hl : lv_has ls 4 [(1, .int x1)]), xw_Wi G p l e (xw_rm (32) (700)) s m args below meth c H locs r0 wz (F0 m 64 ls []) := by
        intro x1 hf H locs ls hP hS hl
        exact J64 x1 w hf H locs ls hP hS (lv_sub hl [0] rfl)
      have LL8 : ∀ (nn : Nat) (x1 : Int32) (x2 : Int32) (hit : xw_it (fun z => fX8_isAllSeen_b8 n z.1 z.2 w) nn (x1, x2) = some bb8) (H : Heap) (locs : List Loc) (ls : Array Slot) (hP : va_P (xw_D G) xw_cl (xw_W G w) H) (hS : va_S (xw_A G) s.heap H locs) (hl : lv_has ls 4 [(0, .ref (xw_ad G 119)), (1, .int x1), (2, .int x2)]), xw_Wi G p l e (xw_rm (32) (700)) s m args below meth c H locs r0 wz (F0 m 8 ls []) := by
        intro nn
        induction nn with
        | zero => intro x1 x2 hit; exact (xw_it_0 hit).elim
        | succ nn ih8 =>
          intro x1 x2 hit H locs ls hP hS hl
          replace hit := xw_it_e hit
          obtain ⟨wv8, hf, hC8, hX8⟩ := hit
          replace hf : fX8_isAllSeen_b8 n x1 x2 w = some wv8 := hf
          unfold fX8_isAllSeen_b8 at hf
          have J57 : ∀ (x2 : Int32) (v0 : Int32) (hf : fX8_isAllSeen_57 n x2 v0 w = some wv8) (H : Heap) (locs : List Loc) (ls : Array Slot) (hP : va_P (xw_D G) xw_cl (xw_W G w) H) (hS : va_S (xw_A G) s.heap H locs) (hl : lv_has ls 4 [(0, .ref (xw_ad G 119)), (2, .int x2)]), xw_Wi G p l e (xw_rm (32) (700)) s m args below meth c H locs r0 wz (F0 m 57 ls [.int v0]) := by
            intro x2 v0 hf H locs ls hP hS hl
            unfold fX8_isAllSeen_57 at hf
            refine lv_istore_n (lv' := [(1, .int v0), (0, .ref (xw_ad G 119)), (2, .int x2)]) hx hb dX8_isAllSeen_57 rfl hl (by decide) rfl (fun ls hl => ?_)
            obtain ⟨x2_12, ex2_12⟩ : ∃ y : Int32, y = x2 + 1 := ⟨_, rfl⟩
            replace hf := xw_lt_e ex2_12 hf
            refine lv_iinc (v := x2_12) (lv' := [(2, .int x2_12), (1, .int v0), (0, .ref (xw_ad G 119))]) hx hb dX8_isAllSeen_58 hl (k := 2) rfl (by rw [ex2_12]; rfl) (by decide) rfl (fun ls hl => ?_)
            refine lv_goto (tgt := 8) hx hb dX8_isAllSeen_61 (by decide) ?_
            have hi := hC8 _ (xw_so hf).symm
            exact ih8 v0 x2_12 hi H locs ls hP hS (lv_sub hl [2, 1, 0] rfl)
          have J56 : ∀ (x2 : Int32) (hf : fX8_isAllSeen_56 n x2 w = some wv8) (H : Heap) (locs : List Loc) (ls : Array Slot) (hP : va_P (xw_D G) xw_cl (xw_W G w) H) (hS : va_S (xw_A G) s.heap H locs) (hl : lv_has ls 4 [(0, .ref (xw_ad G 119)), (2, .int x2)]), xw_Wi G p l e (xw_rm (32) (700)) s m args below meth c H locs r0 wz (F0 m 56 ls []) := by
            intro x2 hf H locs ls hP hS hl
            unfold fX8_isAllSeen_56 at hf
            refine lv_iconst (v := 0) hx hb dX8_isAllSeen_56 (by decide) ?_
            exact J57 x2 (0 : Int32) hf H locs ls hP hS (lv_sub hl [0, 1] rfl)
          refine lv_iload_n hx hb dX8_isAllSeen_8 rfl (lv_at hl 2 rfl) ?_
          refine lv_aload_n hx hb dX8_isAllSeen_9 rfl (lv_at hl 0 rfl) ?_
          refine xw_get hB hK hP (xw_o8 G) (C := RX8) (T := TX8) (N := 31) rfl TBi_X8 0 (by decide) tw_728 rfl rfl dX8_isAllSeen_10 ?_
          refine lv_bipush (v := 64) hx hb dX8_isAllSeen_13 (by decide) ?_
          replace hf := xw_ck_e hf
          obtain ⟨hi4, hf⟩ := hf
          refine xw_ild hB hK hP (xw_k120 G) hi4 dX8_isAllSeen_15 ?_
          refine lv_icmp_ge (tgt := 64) hx hb dX8_isAllSeen_16 (by decide) (fun c5 => ?_) (fun c5 => ?_)
          · replace hf := xw_ip c5 hf
            have he8 := hX8 _ (xw_so hf).symm
            rw [← he8] at hfx8
            exact XX8 x1 hfx8 H locs ls hP hS (lv_sub hl [1] rfl)
          · replace hf := xw_in' c5 hf
            refine lv_bipush (v := 65) hx hb dX8_isAllSeen_19 (by decide) ?_
            refine lv_iconst (v := 2) hx hb dX8_isAllSeen_21 (by decide) ?_
            refine lv_iload_n hx hb dX8_isAllSeen_22 rfl (lv_at hl 2 rfl) ?_
            refine lv_imul hx hb dX8_isAllSeen_23 ?_
            refine lv_iadd hx hb dX8_isAllSeen_24 ?_
            refine lv_topi (fun x3_6 ex3_6 => ?_)
            replace hf := xw_lt_e ex3_6 hf
            refine lv_istore_n (lv' := [(3, .int x3_6), (0, .ref (xw_ad G 119)), (1, .int x1), (2, .int x2)]) hx hb dX8_isAllSeen_25 rfl hl (by decide) rfl (fun ls hl => ?_)
            refine lv_iload_n hx hb dX8_isAllSeen_26 rfl (lv_at hl 2 rfl) ?_
            refine lv_if_eq (tgt := 56) hx hb dX8_isAllSeen_27 (by decide) (fun c7 => ?_) (fun c7 => ?_)
            · replace hf := xw_ip c7 hf
              exact J56 x2 hf H locs ls hP hS (lv_sub hl [1, 3] rfl)
            · replace hf := xw_in' c7 hf
              refine lv_aload_n hx hb dX8_isAllSeen_30 rfl (lv_at hl 1 rfl) ?_
              refine xw_get hB hK hP (xw_o8 G) (C := RX8) (T := TX8) (N := 31) rfl TBi_X8 21 (by decide) tw_749 rfl rfl dX8_isAllSeen_31 ?_
              refine lv_aload_n hx hb dX8_isAllSeen_34 rfl (lv_at hl 1 rfl) ?_
              refine xw_get hB hK hP (xw_o8 G) (C := RX8) (T := TX8) (N := 31) rfl TBi_X8 0 (by decide) tw_728 rfl rfl dX8_isAllSeen_35 ?_
              refine lv_iload_n hx hb dX8_isAllSeen_38 rfl (lv_at hl 0 rfl) ?_
              replace hf := xw_ck_e hf
              obtain ⟨hi8, hf⟩ := hf
              refine xw_ild hB hK hP (xw_k120 G) hi8 dX8_isAllSeen_39 ?_
              replace hf := xw_ck_e hf
              obtain ⟨hi9, hf⟩ := hf
              refine xw_ild hB hK hP (xw_k132 G) hi9 dX8_isAllSeen_40 ?_
              refine lv_aload_n hx hb dX8_isAllSeen_41 rfl (lv_at hl 1 rfl) ?_
              refine xw_get hB hK hP (xw_o8 G) (C := RX8) (T := TX8) (N := 31) rfl TBi_X8 0 (by decide) tw_728 rfl rfl dX8_isAllSeen_42 ?_
              refine lv_iload_n hx hb dX8_isAllSeen_45 rfl (lv_at hl 0 rfl) ?_
              refine lv_iconst (v := 1) hx hb dX8_isAllSeen_46 (by decide) ?_
              refine lv_iadd hx hb dX8_isAllSeen_47 ?_
              replace hf := xw_ck_e hf
              obtain ⟨hi10, hf⟩ := hf
              refine xw_ild hB hK hP (xw_k120 G) hi10 dX8_isAllSeen_48 ?_
              refine lv_icmp_ne (tgt := 56) hx hb dX8_isAllSeen_49 (by decide) (fun c11 => ?_) (fun c11 => ?_)
              · replace hf := xw_in' c11 hf
                exact J56 x2 hf H locs ls hP hS (lv_sub hl [1, 3] rfl)
              · replace hf := xw_ip c11 hf
                refine lv_iconst (v := 1) hx hb dX8_isAllSeen_52 (by decide) ?_
                refine lv_goto (tgt := 57) hx hb dX8_isAllSeen_53 (by decide) ?_
                exact J57 x2 (1 : Int32) hf H locs ls hP hS (lv_sub hl [1, 3] rfl)
      exact LL8 n x1 x2 hit8 H locs ls hP hS hl
    refine lv_aload_n hx hb dX8_isAllSeen_0 rfl (lv_at hl 0 rfl) ?_
    replace hf := xw_b_e hf
    obtain ⟨r1, w2, he3, hf⟩ := hf
    refine xw_Vv hB hK hE hS hP (As := []) (rest := []) (kX8_share l G hG n w0 _ _ he3) gs_X8_104 (xw_rc hK hP (C := RX8) (T := TX8) (N := 31) (xw_o8 G) rfl) 0 hv_X8_share ⟨Nat.le_of_ble_eq_true rfl, Nat.le_of_ble_eq_true rfl⟩ rfl hl.1 (Nat.le_of_ble_eq_true rfl) rfl dX8_isAllSeen_1 ⟨Nat.zero_le _, Nat.zero_le _⟩ (fun H locs hP hS => ?_)
    refine lv_iconst (v := 1) hx hb dX8_isAllSeen_4 (by decide) ?_
    refine lv_istore_n (lv' := [(1, .int (1 : Int32)), (0, .ref (xw_ad G 119))]) hx hb dX8_isAllSeen_5 rfl hl (by decide) rfl (fun ls hl => ?_)
    refine lv_iconst (v := 0) hx hb dX8_isAllSeen_6 (by decide) ?_
    refine lv_istore_n (lv' := [(2, .int (0 : Int32)), (1, .int (1 : Int32)), (0, .ref (xw_ad G 119))]) hx hb dX8_isAllSeen_7 rfl hl (by decide) rfl (fun ls hl => ?_)
    exact J8 (1 : Int32) (0 : Int32) w2 hf H locs ls hP hS (lv_sub hl [2, 1, 0] rfl)
  exact HH s.heap [] hP hS
def fX8_owed_72 (n : Nat) (a1 : Int32) (x2 : Int32) (x3 : Int32) (x4 : Int32) (w : xw_M) : Option (Int32 × xw_M) := xw_ck (61 : Int32) 109 (xw_lt (xw_si w 120 (61 : Int32).toNatClampNeg x2) (fun w14 => if a1 = 0 then some (x4, w14) else some (x3, w14)))
def fX8_owed_64 (n : Nat) (a1 : Int32) (x2 : Int32) (x3 : Int32) (x5 : Int32) (v0 : Int32) (w : xw_M) : Option ((Int32 × Int32 × Int32 × xw_M) ⊕ (Int32 × Int32 × xw_M)) := xw_lt (x5 + (-1)) (fun x5_12 => some (.inl (x3, v0, x5_12, w)))
def fX8_owed_50 (n : Nat) (a1 : Int32) (x2 : Int32) (x4 : Int32) (x5 : Int32) (x6 : Int32) (v0 : Int32) (v1 : Int32) (w : xw_M) : Option ((Int32 × Int32 × Int32 × xw_M) ⊕ (Int32 × Int32 × xw_M)) := xw_lt (v0 + v1) (fun x3_10 => if x6 = 0 then fX8_owed_64 n a1 x2 x3_10 x5 x4 w else fX8_owed_64 n a1 x2 x3_10 x5 x5 w)
def fX8_owed_b19 (n : Nat) (a1 : Int32) (x2 : Int32) (x3 : Int32) (x4 : Int32) (x5 : Int32) (w : xw_M) : Option ((Int32 × Int32 × Int32 × xw_M) ⊕ (Int32 × Int32 × xw_M)) := if x5 < 0 then some (.inr (x3, x4, w)) else xw_ck (61 : Int32) 109 (xw_lt (xw_si w 120 (61 : Int32).toNatClampNeg x5) (fun w5 => xw_b (fX8_isAllSeen n w5) (fun r6 w7 => if r6 = 0 then fX8_owed_50 n a1 x2 x4 x5 r6 x3 (0 : Int32) w7 else fX8_owed_50 n a1 x2 x4 x5 r6 x3 (1 : Int32) w7)))
def fX8_owed_19 (n : Nat) (a1 : Int32) (x2 : Int32) (x3 : Int32) (x4 : Int32) (x5 : Int32) (w : xw_M) : Option (Int32 × xw_M) := xw_bp (xw_it (fun z => fX8_owed_b19 n a1 x2 z.1 z.2.1 z.2.2.1 z.2.2.2) n (x3, x4, x5, w)) (fun z => (fun (x3 : Int32) (x4 : Int32) (w : xw_M) => fX8_owed_72 n a1 x2 x3 x4 w) z.1 z.2.1 z.2.2)
def fX8_owed (n : Nat) (a1 : Int32) (w0 : xw_M) : Option (Int32 × xw_M) := xw_ck (61 : Int32) 109 (xw_lt (w0.1 120 (61 : Int32).toNatClampNeg) (fun x2_2 => fX8_owed_19 n a1 x2_2 (0 : Int32) (-5 : Int32) (999 : Int32) w0))
set_option maxHeartbeats 4000000 in
set_option maxRecDepth 100000 in
theorem kX8_owed (l : Launch) (G : xw_G) (hG : xw_ok G) (n : Nat) (a1 : Int32) (w0 : xw_M) (r0 : Int32) (wz : xw_M) (hf : fX8_owed n a1 w0 = some (r0, wz)) : xw_Ti l G yX8_owed cX8_owed 7 ((Option.some Jvm.ClassFile.FieldType.int)) (33) (723) [.ref (xw_ad G 119), .int a1] w0 r0 wz := by
  unfold xw_Ti
  refine Met.ofW (cc := cX8_owed) (maxL := 7) (ret := (Option.some Jvm.ClassFile.FieldType.int)) (by decide) rfl ?_
  intro p e s m args below meth c s₁ B hml hv
  obtain ⟨hargs, hP, hK, hE⟩ := hv
  have hx := B.exec
  have hb := B.bytes
  have hr := B.returns
  have hlk := B.notSynchronized
  have hB : CallFix p m c cX8_owed 7 s args TB RX8 := ⟨hx, hb, hml, findClass_of_methodNamed B.named, fun q h => (atoms_spec (ws := Cond.code yX8_owed cX8_owed 7 ((Option.some Jvm.ClassFile.FieldType.int)) :: TB) B.pre) q (List.mem_cons_of_mem _ h)⟩
  have hS : va_S (xw_A G) s.heap s.heap [] := va_S.rf
  have hl := lv_entry [.ref (xw_ad G 119), .int a1] (n := 7) (Nat.le_of_ble_eq_true rfl)
  rw [show entryFrame m args 7 = entryFrame m ([.ref (xw_ad G 119), .int a1] : List Value).toArray 7 from by rw [hargs], lg_entry_eq]
  generalize (lg_sl [.ref (xw_ad G 119), .int a1] ++ List.replicate (7 - (lg_sl [.ref (xw_ad G 119), .int a1]).length) Slot.unset).toArray = ls at hl ⊢
  have hP : va_P (xw_D G) xw_cl (xw_W G w0) s.heap := hP
  have hl : lv_has ls 7 [(0, .ref (xw_ad G 119)), (1, .int a1)] := hl
  have HH : ∀ (H : Heap) (locs : List Loc) (hP : va_P (xw_D G) xw_cl (xw_W G w0) H) (hS : va_S (xw_A G) s.heap H locs), xw_Wi G p l e (xw_rm (33) (723)) s m args below meth c H locs r0 wz (F0 m 0 ls []) := by
    intro H locs hP hS
    unfold fX8_owed at hf
    have J72 : ∀ (x2 : Int32) (x3 : Int32) (x4 : Int32) (w : xw_M) (hf : fX8_owed_72 n a1 x2 x3 x4 w = some (r0, wz)) (H : Heap) (locs : List Loc) (ls : Array Slot) (hP : va_P (xw_D G) xw_cl (xw_W G w) H) (hS : va_S (xw_A G) s.heap H locs) (hl : lv_has ls 7 [(0, .ref (xw_ad G 119)), (1, .int a1), (2, .int x2), (3, .int x3), (4, .int x4)]), xw_Wi G p l e (xw_rm (33) (723)) s m args below meth c H locs r0 wz (F0 m 72 ls []) := by
      intro x2 x3 x4 w hf H locs ls hP hS hl
      unfold fX8_owed_72 at hf
      refine lv_aload_n hx hb dX8_owed_72 rfl (lv_at hl 0 rfl) ?_
      refine xw_get hB hK hP (xw_o8 G) (C := RX8) (T := TX8) (N := 31) rfl TBi_X8 0 (by decide) tw_728 rfl rfl dX8_owed_73 ?_
      refine lv_bipush (v := 61) hx hb dX8_owed_76 (by decide) ?_
      refine lv_iload_n hx hb dX8_owed_78 rfl (lv_at hl 2 rfl) ?_
      replace hf := xw_ck_e hf
      obtain ⟨hi13, hf⟩ := hf
      refine xw_ist hG hB hK hS hP (xw_k120 G) hi13 dX8_owed_79 (fun w14 ew14 H locs hP hS => ?_)
      replace hf := xw_lt_e ew14 hf
      refine lv_iload_n hx hb dX8_owed_80 rfl (lv_at hl 1 rfl) ?_
      refine lv_if_eq (tgt := 88) hx hb dX8_owed_81 (by decide) (fun c15 => ?_) (fun c15 => ?_)
      · replace hf := xw_ip c15 hf
        refine lv_iload hx hb dX8_owed_88 (lv_at hl 4 rfl) ?_
        obtain ⟨h0, h1⟩ := xw_s2 hf
        exact xw_iret hB hK hE hS hP hr hlk h0 h1 dX8_owed_90
      · replace hf := xw_in' c15 hf
        refine lv_iload_n hx hb dX8_owed_84 rfl (lv_at hl 3 rfl) ?_
        refine lv_goto (tgt := 90) hx hb dX8_owed_85 (by decide) ?_
        obtain ⟨h0, h1⟩ := xw_s2 hf
        exact xw_iret hB hK hE hS hP hr hlk h0 h1 dX8_owed_90
    have J19 : ∀ (x2 : Int32) (x3 : Int32) (x4 : Int32) (x5 : Int32) (w : xw_M) (hf : fX8_owed_19 n a1 x2 x3 x4 x5 w = some (r0, wz)) (H : Heap) (locs : List Loc) (ls : Array Slot) (hP : va_P (xw_D G) xw_cl (xw_W G w) H) (hS : va_S (xw_A G) s.heap H locs) (hl : lv_has ls 7 [(0, .ref (xw_ad G 119)), (1, .int a1), (2, .int x2), (3, .int x3), (4, .int x4), (5, .int x5)]), xw_Wi G p l e (xw_rm (33) (723)) s m args below meth c H locs r0 wz (F0 m 19 ls []) := by
      intro x2 x3 x4 x5 w hf H locs ls hP hS hl
      unfold fX8_owed_19 at hf
      replace hf := xw_bp_e hf
      obtain ⟨bb19, hit19, hfx19⟩ := hf
      have XX19 : ∀ (x3 : Int32) (x4 : Int32) (w : xw_M) (hf : fX8_owed_72 n a1 x2 x3 x4 w = some (r0, wz)) (H : Heap) (locs : List Loc) (ls : Array Slot) (hP : va_P (xw_D G) xw_cl (xw_W G w) H) (hS : va_S (xw_A G) s.heap H locs) (hl : lv_has ls 7 [(0, .ref (xw_ad G 119)), (1, .int a1), (2, .int x2), (3, .int x3), (4, .int x4)]), xw_Wi G p l e (xw_rm (33) (723)) s m args below meth c H locs r0 wz (F0 m 72 ls []) := by
        intro x3 x4 w hf H locs ls hP hS hl
        exact J72 x2 x3 x4 w hf H locs ls hP hS (lv_sub hl [0, 1, 2, 3, 4] rfl)
      have LL19 : ∀ (nn : Nat) (x3 : Int32) (x4 : Int32) (x5 : Int32) (w : xw_M) (hit : xw_it (fun z => fX8_owed_b19 n a1 x2 z.1 z.2.1 z.2.2.1 z.2.2.2) nn (x3, x4, x5, w) = some bb19) (H : Heap) (locs : List Loc) (ls : Array Slot) (hP : va_P (xw_D G) xw_cl (xw_W G w) H) (hS : va_S (xw_A G) s.heap H locs) (hl : lv_has ls 7 [(0, .ref (xw_ad G 119)), (1, .int a1), (2, .int x2), (3, .int x3), (4, .int x4), (5, .int x5)]), xw_Wi G p l e (xw_rm (33) (723)) s m args below meth c H locs r0 wz (F0 m 19 ls []) := by
        intro nn
        induction nn with
        | zero => intro x3 x4 x5 w hit; exact (xw_it_0 hit).elim
        | succ nn ih19 =>
          intro x3 x4 x5 w hit H locs ls hP hS hl
          replace hit := xw_it_e hit
          obtain ⟨wv19, hf, hC19, hX19⟩ := hit
          replace hf : fX8_owed_b19 n a1 x2 x3 x4 x5 w = some wv19 := hf
          unfold fX8_owed_b19 at hf
          have J64 : ∀ (x3 : Int32) (x5 : Int32) (v0 : Int32) (w : xw_M) (hf : fX8_owed_64 n a1 x2 x3 x5 v0 w = some wv19) (H : Heap) (locs : List Loc) (ls : Array Slot) (hP : va_P (xw_D G) xw_cl (xw_W G w) H) (hS : va_S (xw_A G) s.heap H locs) (hl : lv_has ls 7 [(0, .ref (xw_ad G 119)), (1, .int a1), (2, .int x2), (3, .int x3), (5, .int x5)]), xw_Wi G p l e (xw_rm (33) (723)) s m args below meth c H locs r0 wz (F0 m 64 ls [.int v0]) := by
            intro x3 x5 v0 w hf H locs ls hP hS hl
            unfold fX8_owed_64 at hf
            refine lv_istore (lv' := [(4, .int v0), (0, .ref (xw_ad G 119)), (1, .int a1), (2, .int x2), (3, .int x3), (5, .int x5)]) hx hb dX8_owed_64 hl (by decide) rfl (fun ls hl => ?_)
            obtain ⟨x5_12, ex5_12⟩ : ∃ y : Int32, y = x5 + (-1) := ⟨_, rfl⟩
            replace hf := xw_lt_e ex5_12 hf
            refine lv_iinc (v := x5_12) (lv' := [(5, .int x5_12), (4, .int v0), (0, .ref (xw_ad G 119)), (1, .int a1), (2, .int x2), (3, .int x3)]) hx hb dX8_owed_66 hl (k := 5) rfl (by rw [ex5_12]; rfl) (by decide) rfl (fun ls hl => ?_)
            refine lv_goto (tgt := 19) hx hb dX8_owed_69 (by decide) ?_
            have hi := hC19 _ (xw_so hf).symm
            exact ih19 x3 v0 x5_12 w hi H locs ls hP hS (lv_sub hl [2, 3, 4, 5, 1, 0] rfl)
          have J50 : ∀ (x4 : Int32) (x5 : Int32) (x6 : Int32) (v0 : Int32) (v1 : Int32) (w : xw_M) (hf : fX8_owed_50 n a1 x2 x4 x5 x6 v0 v1 w = some wv19) (H : Heap) (locs : List Loc) (ls : Array Slot) (hP : va_P (xw_D G) xw_cl (xw_W G w) H) (hS : va_S (xw_A G) s.heap H locs) (hl : lv_has ls 7 [(0, .ref (xw_ad G 119)), (1, .int a1), (2, .int x2), (4, .int x4), (5, .int x5), (6, .int x6)]), xw_Wi G p l e (xw_rm (33) (723)) s m args below meth c H locs r0 wz (F0 m 50 ls [.int v1, .int v0]) := by
            intro x4 x5 x6 v0 v1 w hf H locs ls hP hS hl
            unfold fX8_owed_50 at hf
            refine lv_iadd hx hb dX8_owed_50 ?_
            refine lv_topi (fun x3_10 ex3_10 => ?_)
            replace hf := xw_lt_e ex3_10 hf
            refine lv_istore_n (lv' := [(3, .int x3_10), (0, .ref (xw_ad G 119)), (1, .int a1), (2, .int x2), (4, .int x4), (5, .int x5), (6, .int x6)]) hx hb dX8_owed_51 rfl hl (by decide) rfl (fun ls hl => ?_)
            refine lv_iload hx hb dX8_owed_52 (lv_at hl 6 rfl) ?_
            refine lv_if_eq (tgt := 62) hx hb dX8_owed_54 (by decide) (fun c11 => ?_) (fun c11 => ?_)
            · replace hf := xw_ip c11 hf
              refine lv_iload hx hb dX8_owed_62 (lv_at hl 4 rfl) ?_
              exact J64 x3_10 x5 x4 w hf H locs ls hP hS (lv_sub hl [1, 2, 3, 0, 5] rfl)
            · replace hf := xw_in' c11 hf
              refine lv_iload hx hb dX8_owed_57 (lv_at hl 5 rfl) ?_
              refine lv_goto (tgt := 64) hx hb dX8_owed_59 (by decide) ?_
              exact J64 x3_10 x5 x5 w hf H locs ls hP hS (lv_sub hl [1, 2, 3, 0, 5] rfl)
          refine lv_iload hx hb dX8_owed_19 (lv_at hl 5 rfl) ?_
          refine lv_if_lt (tgt := 72) hx hb dX8_owed_21 (by decide) (fun c3 => ?_) (fun c3 => ?_)
          · replace hf := xw_ip c3 hf
            have he19 := hX19 _ (xw_so hf).symm
            rw [← he19] at hfx19
            exact XX19 x3 x4 w hfx19 H locs ls hP hS (lv_sub hl [0, 1, 2, 3, 4] rfl)
          · replace hf := xw_in' c3 hf
            refine lv_aload_n hx hb dX8_owed_24 rfl (lv_at hl 0 rfl) ?_
            refine xw_get hB hK hP (xw_o8 G) (C := RX8) (T := TX8) (N := 31) rfl TBi_X8 0 (by decide) tw_728 rfl rfl dX8_owed_25 ?_
            refine lv_bipush (v := 61) hx hb dX8_owed_28 (by decide) ?_
            refine lv_iload hx hb dX8_owed_30 (lv_at hl 5 rfl) ?_
            replace hf := xw_ck_e hf
            obtain ⟨hi4, hf⟩ := hf
            refine xw_ist hG hB hK hS hP (xw_k120 G) hi4 dX8_owed_32 (fun w5 ew5 H locs hP hS => ?_)
            replace hf := xw_lt_e ew5 hf
            refine lv_aload_n hx hb dX8_owed_33 rfl (lv_at hl 0 rfl) ?_
            replace hf := xw_b_e hf
            obtain ⟨r6, w7, he8, hf⟩ := hf
            refine xw_Vi hB hK hE hS hP (As := []) (rest := []) (kX8_isAllSeen l G hG n w5 _ _ he8) gs_X8_219 (xw_rc hK hP (C := RX8) (T := TX8) (N := 31) (xw_o8 G) rfl) 0 hv_X8_isAllSeen ⟨Nat.le_of_ble_eq_true rfl, Nat.le_of_ble_eq_true rfl⟩ rfl hl.1 (Nat.le_of_ble_eq_true rfl) rfl dX8_owed_34 ⟨Nat.zero_le _, Nat.zero_le _⟩ (fun H locs hP hS => ?_)
            refine lv_istore (lv' := [(6, .int r6), (0, .ref (xw_ad G 119)), (1, .int a1), (2, .int x2), (3, .int x3), (4, .int x4), (5, .int x5)]) hx hb dX8_owed_37 hl (by decide) rfl (fun ls hl => ?_)
            refine lv_iload_n hx hb dX8_owed_39 rfl (lv_at hl 4 rfl) ?_
            refine lv_iload hx hb dX8_owed_40 (lv_at hl 0 rfl) ?_
            refine lv_if_eq (tgt := 49) hx hb dX8_owed_42 (by decide) (fun c9 => ?_) (fun c9 => ?_)
            · replace hf := xw_ip c9 hf
              refine lv_iconst (v := 0) hx hb dX8_owed_49 (by decide) ?_
              exact J50 x4 x5 r6 x3 (0 : Int32) w7 hf H locs ls hP hS (lv_sub hl [1, 2, 3, 5, 6, 0] rfl)
            · replace hf := xw_in' c9 hf
              refine lv_iconst (v := 1) hx hb dX8_owed_45 (by decide) ?_
              refine lv_goto (tgt := 50) hx hb dX8_owed_46 (by decide) ?_
              exact J50 x4 x5 r6 x3 (1 : Int32) w7 hf H locs ls hP hS (lv_sub hl [1, 2, 3, 5, 6, 0] rfl)
      exact LL19 n x3 x4 x5 w hit19 H locs ls hP hS hl
    refine lv_aload_n hx hb dX8_owed_0 rfl (lv_at hl 0 rfl) ?_
    refine xw_get hB hK hP (xw_o8 G) (C := RX8) (T := TX8) (N := 31) rfl TBi_X8 0 (by decide) tw_728 rfl rfl dX8_owed_1 ?_
    refine lv_bipush (v := 61) hx hb dX8_owed_4 (by decide) ?_
    replace hf := xw_ck_e hf
    obtain ⟨hi1, hf⟩ := hf
    refine xw_ild hB hK hP (xw_k120 G) hi1 dX8_owed_6 ?_
    refine lv_topi (fun x2_2 ex2_2 => ?_)
    replace hf := xw_lt_e ex2_2 hf
    refine lv_istore_n (lv' := [(2, .int x2_2), (0, .ref (xw_ad G 119)), (1, .int a1)]) hx hb dX8_owed_7 rfl hl (by decide) rfl (fun ls hl => ?_)
    refine lv_iconst (v := 0) hx hb dX8_owed_8 (by decide) ?_
    refine lv_istore_n (lv' := [(3, .int (0 : Int32)), (2, .int x2_2), (0, .ref (xw_ad G 119)), (1, .int a1)]) hx hb dX8_owed_9 rfl hl (by decide) rfl (fun ls hl => ?_)
    refine lv_bipush (v := (-5)) hx hb dX8_owed_10 (by decide) ?_
    refine lv_istore (lv' := [(4, .int (-5 : Int32)), (3, .int (0 : Int32)), (2, .int x2_2), (0, .ref (xw_ad G 119)), (1, .int a1)]) hx hb dX8_owed_12 hl (by decide) rfl (fun ls hl => ?_)
    refine lv_sipush (v := 999) hx hb dX8_owed_14 (by decide) ?_
    refine lv_istore (lv' := [(5, .int (999 : Int32)), (4, .int (-5 : Int32)), (3, .int (0 : Int32)), (2, .int x2_2), (0, .ref (xw_ad G 119)), (1, .int a1)]) hx hb dX8_owed_17 hl (by decide) rfl (fun ls hl => ?_)
    exact J19 x2_2 (0 : Int32) (-5 : Int32) (999 : Int32) w0 hf H locs ls hP hS (lv_sub hl [4, 5, 3, 2, 1, 0] rfl)
  exact HH s.heap [] hP hS
def fX8_told (n : Nat) (a1 : Int32) (w0 : xw_M) : Option (Int32 × xw_M) := if a1 = 0 then xw_ck (62 : Int32) 109 (some (w0.1 120 (62 : Int32).toNatClampNeg, w0)) else (if a1 = 1 then xw_b (fX8_readFor n (0 : Int32) (0 : Int32) w0) (fun (_ : Unit) w4 => some (w4.1 119 15, w4)) else (if a1 = 2 then xw_ck (61 : Int32) 109 (some (w0.1 120 (61 : Int32).toNatClampNeg, w0)) else (if a1 = 3 then xw_bp (fX8_aways n w0) (fun r9 => some (r9, w0)) else (if a1 = 4 then xw_b (fX8_still n w0) (fun r12 w13 => some (r12, w13)) else (if a1 = 5 then xw_b (fX8_gains n w0) (fun r16 w17 => some (r16, w17)) else (if a1 = 6 then xw_b (fX8_owed n (1 : Int32) w0) (fun r20 w21 => some (r20, w21)) else (if a1 = 7 then xw_b (fX8_owed n (0 : Int32) w0) (fun r24 w25 => some (r24, w25)) else (some ((-1 : Int32), w0)))))))))
set_option maxHeartbeats 4000000 in
set_option maxRecDepth 100000 in
theorem kX8_told (l : Launch) (G : xw_G) (hG : xw_ok G) (n : Nat) (a1 : Int32) (w0 : xw_M) (r0 : Int32) (wz : xw_M) (hf : fX8_told n a1 w0 = some (r0, wz)) : xw_Ti l G yX8_told cX8_told 2 ((Option.some Jvm.ClassFile.FieldType.int)) (37) (818) [.ref (xw_ad G 119), .int a1] w0 r0 wz := by
  unfold xw_Ti
  refine Met.ofW (cc := cX8_told) (maxL := 2) (ret := (Option.some Jvm.ClassFile.FieldType.int)) (by decide) rfl ?_
  intro p e s m args below meth c s₁ B hml hv
  obtain ⟨hargs, hP, hK, hE⟩ := hv
  have hx := B.exec
  have hb := B.bytes
  have hr := B.returns
  have hlk := B.notSynchronized
  have hB : CallFix p m c cX8_told 2 s args TB RX8 := ⟨hx, hb, hml, findClass_of_methodNamed B.named, fun q h => (atoms_spec (ws := Cond.code yX8_told cX8_told 2 ((Option.some Jvm.ClassFile.FieldType.int)) :: TB) B.pre) q (List.mem_cons_of_mem _ h)⟩
  have hS : va_S (xw_A G) s.heap s.heap [] := va_S.rf
  have hl := lv_entry [.ref (xw_ad G 119), .int a1] (n := 2) (Nat.le_of_ble_eq_true rfl)
  rw [show entryFrame m args 2 = entryFrame m ([.ref (xw_ad G 119), .int a1] : List Value).toArray 2 from by rw [hargs], lg_entry_eq]
  generalize (lg_sl [.ref (xw_ad G 119), .int a1] ++ List.replicate (2 - (lg_sl [.ref (xw_ad G 119), .int a1]).length) Slot.unset).toArray = ls at hl ⊢
  have hP : va_P (xw_D G) xw_cl (xw_W G w0) s.heap := hP
  have hl : lv_has ls 2 [(0, .ref (xw_ad G 119)), (1, .int a1)] := hl
  have HH : ∀ (H : Heap) (locs : List Loc) (hP : va_P (xw_D G) xw_cl (xw_W G w0) H) (hS : va_S (xw_A G) s.heap H locs), xw_Wi G p l e (xw_rm (37) (818)) s m args below meth c H locs r0 wz (F0 m 0 ls []) := by
    intro H locs hP hS
    unfold fX8_told at hf
    refine lv_iload_n hx hb dX8_told_0 rfl (lv_at hl 1 rfl) ?_
    by_cases c2 : a1 = 0
    · refine lv_tableIn (off := 47) (tgt := 48) hx hb dX8_told_1 (by rw [c2]; decide) (by rw [c2]; decide) (by rw [c2]; rfl) (by decide) ?_
      replace hf := xw_ip c2 hf
      refine lv_aload_n hx hb dX8_told_48 rfl (lv_at hl 0 rfl) ?_
      refine xw_get hB hK hP (xw_o8 G) (C := RX8) (T := TX8) (N := 31) rfl TBi_X8 0 (by decide) tw_728 rfl rfl dX8_told_49 ?_
      refine lv_bipush (v := 62) hx hb dX8_told_52 (by decide) ?_
      replace hf := xw_ck_e hf
      obtain ⟨hi1, hf⟩ := hf
      refine xw_ild hB hK hP (xw_k120 G) hi1 dX8_told_54 ?_
      obtain ⟨h0, h1⟩ := xw_s2 hf
      exact xw_iret hB hK hE hS hP hr hlk h0 h1 dX8_told_55
    · replace hf := xw_in' c2 hf
      by_cases c6 : a1 = 1
      · refine lv_tableIn (off := 55) (tgt := 56) hx hb dX8_told_1 (by rw [c6]; decide) (by rw [c6]; decide) (by rw [c6]; rfl) (by decide) ?_
        replace hf := xw_ip c6 hf
        refine lv_aload_n hx hb dX8_told_56 rfl (lv_at hl 0 rfl) ?_
        refine lv_iconst (v := 0) hx hb dX8_told_57 (by decide) ?_
        refine lv_iconst (v := 0) hx hb dX8_told_58 (by decide) ?_
        replace hf := xw_b_e hf
        obtain ⟨r3, w4, he5, hf⟩ := hf
        refine xw_Vv hB hK hE hS hP (As := [.int (0 : Int32), .int (0 : Int32)]) (rest := []) (kX8_readFor l G hG n (0 : Int32) (0 : Int32) w0 _ _ he5) gs_X8_175 (xw_rc hK hP (C := RX8) (T := TX8) (N := 31) (xw_o8 G) rfl) 2 hv_X8_readFor ⟨Nat.le_of_ble_eq_true rfl, Nat.le_of_ble_eq_true rfl⟩ rfl hl.1 (Nat.le_of_ble_eq_true rfl) rfl dX8_told_59 ⟨Nat.zero_le _, Nat.zero_le _⟩ (fun H locs hP hS => ?_)
        refine lv_aload_n hx hb dX8_told_62 rfl (lv_at hl 0 rfl) ?_
        refine xw_get hB hK hP (xw_o8 G) (C := RX8) (T := TX8) (N := 31) rfl TBi_X8 15 (by decide) tw_743 rfl rfl dX8_told_63 ?_
        obtain ⟨h0, h1⟩ := xw_s2 hf
        exact xw_iret hB hK hE hS hP hr hlk h0 h1 dX8_told_66
      · replace hf := xw_in' c6 hf
        by_cases c8 : a1 = 2
        · refine lv_tableIn (off := 66) (tgt := 67) hx hb dX8_told_1 (by rw [c8]; decide) (by rw [c8]; decide) (by rw [c8]; rfl) (by decide) ?_
          replace hf := xw_ip c8 hf
          refine lv_aload_n hx hb dX8_told_67 rfl (lv_at hl 0 rfl) ?_
          refine xw_get hB hK hP (xw_o8 G) (C := RX8) (T := TX8) (N := 31) rfl TBi_X8 0 (by decide) tw_728 rfl rfl dX8_told_68 ?_
          refine lv_bipush (v := 61) hx hb dX8_told_71 (by decide) ?_
          replace hf := xw_ck_e hf
          obtain ⟨hi7, hf⟩ := hf
          refine xw_ild hB hK hP (xw_k120 G) hi7 dX8_told_73 ?_
          obtain ⟨h0, h1⟩ := xw_s2 hf
          exact xw_iret hB hK hE hS hP hr hlk h0 h1 dX8_told_74
        · replace hf := xw_in' c8 hf
          by_cases c11 : a1 = 3
          · refine lv_tableIn (off := 74) (tgt := 75) hx hb dX8_told_1 (by rw [c11]; decide) (by rw [c11]; decide) (by rw [c11]; rfl) (by decide) ?_
            replace hf := xw_ip c11 hf
            refine lv_aload_n hx hb dX8_told_75 rfl (lv_at hl 0 rfl) ?_
            replace hf := xw_bp_e hf
            obtain ⟨r9, he10, hf⟩ := hf
            refine xw_Vi hB hK hE hS hP (As := []) (rest := []) (kX8_aways l G hG n w0 _ he10) gs_X8_204 (xw_rc hK hP (C := RX8) (T := TX8) (N := 31) (xw_o8 G) rfl) 0 hv_X8_aways ⟨Nat.le_of_ble_eq_true rfl, Nat.le_of_ble_eq_true rfl⟩ rfl hl.1 (Nat.le_of_ble_eq_true rfl) rfl dX8_told_76 ⟨Nat.zero_le _, Nat.zero_le _⟩ (fun H locs hP hS => ?_)
            obtain ⟨h0, h1⟩ := xw_s2 hf
            exact xw_iret hB hK hE hS hP hr hlk h0 h1 dX8_told_79
          · replace hf := xw_in' c11 hf
            by_cases c15 : a1 = 4
            · refine lv_tableIn (off := 79) (tgt := 80) hx hb dX8_told_1 (by rw [c15]; decide) (by rw [c15]; decide) (by rw [c15]; rfl) (by decide) ?_
              replace hf := xw_ip c15 hf
              refine lv_aload_n hx hb dX8_told_80 rfl (lv_at hl 0 rfl) ?_
              replace hf := xw_b_e hf
              obtain ⟨r12, w13, he14, hf⟩ := hf
              refine xw_Vi hB hK hE hS hP (As := []) (rest := []) (kX8_still l G hG n w0 _ _ he14) gs_X8_207 (xw_rc hK hP (C := RX8) (T := TX8) (N := 31) (xw_o8 G) rfl) 0 hv_X8_still ⟨Nat.le_of_ble_eq_true rfl, Nat.le_of_ble_eq_true rfl⟩ rfl hl.1 (Nat.le_of_ble_eq_true rfl) rfl dX8_told_81 ⟨Nat.zero_le _, Nat.zero_le _⟩ (fun H locs hP hS => ?_)
              obtain ⟨h0, h1⟩ := xw_s2 hf
              exact xw_iret hB hK hE hS hP hr hlk h0 h1 dX8_told_84
            · replace hf := xw_in' c15 hf
              by_cases c19 : a1 = 5
              · refine lv_tableIn (off := 84) (tgt := 85) hx hb dX8_told_1 (by rw [c19]; decide) (by rw [c19]; decide) (by rw [c19]; rfl) (by decide) ?_
                replace hf := xw_ip c19 hf
                refine lv_aload_n hx hb dX8_told_85 rfl (lv_at hl 0 rfl) ?_
                replace hf := xw_b_e hf
                obtain ⟨r16, w17, he18, hf⟩ := hf
                refine xw_Vi hB hK hE hS hP (As := []) (rest := []) (kX8_gains l G hG n w0 _ _ he18) gs_X8_210 (xw_rc hK hP (C := RX8) (T := TX8) (N := 31) (xw_o8 G) rfl) 0 hv_X8_gains ⟨Nat.le_of_ble_eq_true rfl, Nat.le_of_ble_eq_true rfl⟩ rfl hl.1 (Nat.le_of_ble_eq_true rfl) rfl dX8_told_86 ⟨Nat.zero_le _, Nat.zero_le _⟩ (fun H locs hP hS => ?_)
                obtain ⟨h0, h1⟩ := xw_s2 hf
                exact xw_iret hB hK hE hS hP hr hlk h0 h1 dX8_told_89
              · replace hf := xw_in' c19 hf
                by_cases c23 : a1 = 6
                · refine lv_tableIn (off := 89) (tgt := 90) hx hb dX8_told_1 (by rw [c23]; decide) (by rw [c23]; decide) (by rw [c23]; rfl) (by decide) ?_
                  replace hf := xw_ip c23 hf
                  refine lv_aload_n hx hb dX8_told_90 rfl (lv_at hl 0 rfl) ?_
                  refine lv_iconst (v := 1) hx hb dX8_told_91 (by decide) ?_
                  replace hf := xw_b_e hf
                  obtain ⟨r20, w21, he22, hf⟩ := hf
                  refine xw_Vi hB hK hE hS hP (As := [.int (1 : Int32)]) (rest := []) (kX8_owed l G hG n (1 : Int32) w0 _ _ he22) gs_X8_213 (xw_rc hK hP (C := RX8) (T := TX8) (N := 31) (xw_o8 G) rfl) 1 hv_X8_owed ⟨Nat.le_of_ble_eq_true rfl, Nat.le_of_ble_eq_true rfl⟩ rfl hl.1 (Nat.le_of_ble_eq_true rfl) rfl dX8_told_92 ⟨Nat.zero_le _, Nat.zero_le _⟩ (fun H locs hP hS => ?_)
                  obtain ⟨h0, h1⟩ := xw_s2 hf
                  exact xw_iret hB hK hE hS hP hr hlk h0 h1 dX8_told_95
                · replace hf := xw_in' c23 hf
                  by_cases c27 : a1 = 7
                  · refine lv_tableIn (off := 95) (tgt := 96) hx hb dX8_told_1 (by rw [c27]; decide) (by rw [c27]; decide) (by rw [c27]; rfl) (by decide) ?_
                    replace hf := xw_ip c27 hf
                    refine lv_aload_n hx hb dX8_told_96 rfl (lv_at hl 0 rfl) ?_
                    refine lv_iconst (v := 0) hx hb dX8_told_97 (by decide) ?_
                    replace hf := xw_b_e hf
                    obtain ⟨r24, w25, he26, hf⟩ := hf
                    refine xw_Vi hB hK hE hS hP (As := [.int (0 : Int32)]) (rest := []) (kX8_owed l G hG n (0 : Int32) w0 _ _ he26) gs_X8_213 (xw_rc hK hP (C := RX8) (T := TX8) (N := 31) (xw_o8 G) rfl) 1 hv_X8_owed ⟨Nat.le_of_ble_eq_true rfl, Nat.le_of_ble_eq_true rfl⟩ rfl hl.1 (Nat.le_of_ble_eq_true rfl) rfl dX8_told_98 ⟨Nat.zero_le _, Nat.zero_le _⟩ (fun H locs hP hS => ?_)
                    obtain ⟨h0, h1⟩ := xw_s2 hf
                    exact xw_iret hB hK hE hS hP hr hlk h0 h1 dX8_told_101
                  · replace hf := xw_in' c27 hf
                    refine lv_tableOut (tgt := 102) hx hb dX8_told_1 (by have n0 := lv_neT c2 (by decide : (0 : Int32).toInt = 0); have n1 := lv_neT c6 (by decide : (1 : Int32).toInt = 1); have n2 := lv_neT c8 (by decide : (2 : Int32).toInt = 2); have n3 := lv_neT c11 (by decide : (3 : Int32).toInt = 3); have n4 := lv_neT c15 (by decide : (4 : Int32).toInt = 4); have n5 := lv_neT c19 (by decide : (5 : Int32).toInt = 5); have n6 := lv_neT c23 (by decide : (6 : Int32).toInt = 6); have n7 := lv_neT c27 (by decide : (7 : Int32).toInt = 7); omega) (by decide) ?_
                    refine lv_iconst (v := (-1)) hx hb dX8_told_102 (by decide) ?_
                    obtain ⟨h0, h1⟩ := xw_s2 hf
                    exact xw_iret hB hK hE hS hP hr hlk h0 h1 dX8_told_103
  exact HH s.heap [] hP hS
def fX8_pass_50 (n : Nat) (a1 : Int32) (w : xw_M) : Option (Int32 × xw_M) := xw_ck (62 : Int32) 109 (some (w.1 120 (62 : Int32).toNatClampNeg, w))
def fX8_pass_b33 (n : Nat) (a1 : Int32) (x2 : Int32) (w : xw_M) : Option ((Int32 × xw_M) ⊕ (xw_M)) := if a1 ≤ x2 then some (.inr w) else xw_b (fX8_day n (1 : Int32) w) (fun r7 w8 => xw_lt (x2 + 1) (fun x2_10 => some (.inl (x2_10, w8))))
def fX8_pass_33 (n : Nat) (a1 : Int32) (x2 : Int32) (w : xw_M) : Option (Int32 × xw_M) := xw_bp (xw_it (fun z => fX8_pass_b33 n a1 z.1 z.2) n (x2, w)) (fun z => (fun (w : xw_M) => fX8_pass_50 n a1 w) z)
def fX8_pass (n : Nat) (a1 : Int32) (w0 : xw_M) : Option (Int32 × xw_M) := xw_bp (fX8_isIn a1 (0 : Int32) (20 : Int32)) (fun r1 => if r1 = 0 then some ((-2 : Int32), w0) else xw_ck (62 : Int32) 109 (if ((w0.1 120 (62 : Int32).toNatClampNeg) + a1) ≤ (9999 : Int32) then fX8_pass_33 n a1 (0 : Int32) w0 else some ((-3 : Int32), w0)))
set_option maxHeartbeats 4000000 in
set_option maxRecDepth 100000 in
theorem kX8_pass (l : Launch) (G : xw_G) (hG : xw_ok G) (n : Nat) (a1 : Int32) (w0 : xw_M) (r0 : Int32) (wz : xw_M) (hf : fX8_pass n a1 w0 = some (r0, wz)) : xw_Ti l G yX8_pass cX8_pass 3 ((Option.some Jvm.ClassFile.FieldType.int)) (36) (796) [.ref (xw_ad G 119), .int a1] w0 r0 wz := by
  unfold xw_Ti
  refine Met.ofW (cc := cX8_pass) (maxL := 3) (ret := (Option.some Jvm.ClassFile.FieldType.int)) (by decide) rfl ?_
  intro p e s m args below meth c s₁ B hml hv
  obtain ⟨hargs, hP, hK, hE⟩ := hv
  have hx := B.exec
  have hb := B.bytes
  have hr := B.returns
  have hlk := B.notSynchronized
  have hB : CallFix p m c cX8_pass 3 s args TB RX8 := ⟨hx, hb, hml, findClass_of_methodNamed B.named, fun q h => (atoms_spec (ws := Cond.code yX8_pass cX8_pass 3 ((Option.some Jvm.ClassFile.FieldType.int)) :: TB) B.pre) q (List.mem_cons_of_mem _ h)⟩
  have hS : va_S (xw_A G) s.heap s.heap [] := va_S.rf
  have hl := lv_entry [.ref (xw_ad G 119), .int a1] (n := 3) (Nat.le_of_ble_eq_true rfl)
  rw [show entryFrame m args 3 = entryFrame m ([.ref (xw_ad G 119), .int a1] : List Value).toArray 3 from by rw [hargs], lg_entry_eq]
  generalize (lg_sl [.ref (xw_ad G 119), .int a1] ++ List.replicate (3 - (lg_sl [.ref (xw_ad G 119), .int a1]).length) Slot.unset).toArray = ls at hl ⊢
  have hP : va_P (xw_D G) xw_cl (xw_W G w0) s.heap := hP
  have hl : lv_has ls 3 [(0, .ref (xw_ad G 119)), (1, .int a1)] := hl
  have HH : ∀ (H : Heap) (locs : List Loc) (hP : va_P (xw_D G) xw_cl (xw_W G w0) H) (hS : va_S (xw_A G) s.heap H locs), xw_Wi G p l e (xw_rm (36) (796)) s m args below meth c H locs r0 wz (F0 m 0 ls []) := by
    intro H locs hP hS
    unfold fX8_pass at hf
    have J50 : ∀ (w : xw_M) (hf : fX8_pass_50 n a1 w = some (r0, wz)) (H : Heap) (locs : List Loc) (ls : Array Slot) (hP : va_P (xw_D G) xw_cl (xw_W G w) H) (hS : va_S (xw_A G) s.heap H locs) (hl : lv_has ls 3 [(0, .ref (xw_ad G 119))]), xw_Wi G p l e (xw_rm (36) (796)) s m args below meth c H locs r0 wz (F0 m 50 ls []) := by
      intro w hf H locs ls hP hS hl
      unfold fX8_pass_50 at hf
      refine lv_aload_n hx hb dX8_pass_50 rfl (lv_at hl 0 rfl) ?_
      refine xw_get hB hK hP (xw_o8 G) (C := RX8) (T := TX8) (N := 31) rfl TBi_X8 0 (by decide) tw_728 rfl rfl dX8_pass_51 ?_
      refine lv_bipush (v := 62) hx hb dX8_pass_54 (by decide) ?_
      replace hf := xw_ck_e hf
      obtain ⟨hi11, hf⟩ := hf
      refine xw_ild hB hK hP (xw_k120 G) hi11 dX8_pass_56 ?_
      obtain ⟨h0, h1⟩ := xw_s2 hf
      exact xw_iret hB hK hE hS hP hr hlk h0 h1 dX8_pass_57
    have J33 : ∀ (x2 : Int32) (w : xw_M) (hf : fX8_pass_33 n a1 x2 w = some (r0, wz)) (H : Heap) (locs : List Loc) (ls : Array Slot) (hP : va_P (xw_D G) xw_cl (xw_W G w) H) (hS : va_S (xw_A G) s.heap H locs) (hl : lv_has ls 3 [(0, .ref (xw_ad G 119)), (1, .int a1), (2, .int x2)]), xw_Wi G p l e (xw_rm (36) (796)) s m args below meth c H locs r0 wz (F0 m 33 ls []) := by
      intro x2 w hf H locs ls hP hS hl
      unfold fX8_pass_33 at hf
      replace hf := xw_bp_e hf
      obtain ⟨bb33, hit33, hfx33⟩ := hf
      have XX33 : ∀ (w : xw_M) (hf : fX8_pass_50 n a1 w = some (r0, wz)) (H : Heap) (locs : List Loc) (ls : Array Slot) (hP : va_P (xw_D G) xw_cl (xw_W G w) H) (hS : va_S (xw_A G) s.heap H locs) (hl : lv_has ls 3 [(0, .ref (xw_ad G 119))]), xw_Wi G p l e (xw_rm (36) (796)) s m args below meth c H locs r0 wz (F0 m 50 ls []) := by
        intro w hf H locs ls hP hS hl
        exact J50 w hf H locs ls hP hS (lv_sub hl [0] rfl)
      have LL33 : ∀ (nn : Nat) (x2 : Int32) (w : xw_M) (hit : xw_it (fun z => fX8_pass_b33 n a1 z.1 z.2) nn (x2, w) = some bb33) (H : Heap) (locs : List Loc) (ls : Array Slot) (hP : va_P (xw_D G) xw_cl (xw_W G w) H) (hS : va_S (xw_A G) s.heap H locs) (hl : lv_has ls 3 [(0, .ref (xw_ad G 119)), (1, .int a1), (2, .int x2)]), xw_Wi G p l e (xw_rm (36) (796)) s m args below meth c H locs r0 wz (F0 m 33 ls []) := by
        intro nn
        induction nn with
        | zero => intro x2 w hit; exact (xw_it_0 hit).elim
        | succ nn ih33 =>
          intro x2 w hit H locs ls hP hS hl
          replace hit := xw_it_e hit
          obtain ⟨wv33, hf, hC33, hX33⟩ := hit
          replace hf : fX8_pass_b33 n a1 x2 w = some wv33 := hf
          unfold fX8_pass_b33 at hf
          refine lv_iload_n hx hb dX8_pass_33 rfl (lv_at hl 2 rfl) ?_
          refine lv_iload_n hx hb dX8_pass_34 rfl (lv_at hl 1 rfl) ?_
          refine lv_icmp_ge (tgt := 50) hx hb dX8_pass_35 (by decide) (fun c6 => ?_) (fun c6 => ?_)
          · replace hf := xw_ip c6 hf
            have he33 := hX33 _ (xw_so hf).symm
            rw [← he33] at hfx33
            exact XX33 w hfx33 H locs ls hP hS (lv_sub hl [0] rfl)
          · replace hf := xw_in' c6 hf
            refine lv_aload_n hx hb dX8_pass_38 rfl (lv_at hl 0 rfl) ?_
            refine lv_iconst (v := 1) hx hb dX8_pass_39 (by decide) ?_
            replace hf := xw_b_e hf
            obtain ⟨r7, w8, he9, hf⟩ := hf
            refine xw_Vi hB hK hE hS hP (As := [.int (1 : Int32)]) (rest := []) (kX8_day l G hG n (1 : Int32) w _ _ he9) gs_X8_197 (xw_rc hK hP (C := RX8) (T := TX8) (N := 31) (xw_o8 G) rfl) 1 hv_X8_day ⟨Nat.le_of_ble_eq_true rfl, Nat.le_of_ble_eq_true rfl⟩ rfl hl.1 (Nat.le_of_ble_eq_true rfl) rfl dX8_pass_40 ⟨Nat.zero_le _, Nat.zero_le _⟩ (fun H locs hP hS => ?_)
            refine lv_pop hx hb dX8_pass_43 rfl ?_
            obtain ⟨x2_10, ex2_10⟩ : ∃ y : Int32, y = x2 + 1 := ⟨_, rfl⟩
            replace hf := xw_lt_e ex2_10 hf
            refine lv_iinc (v := x2_10) (lv' := [(2, .int x2_10), (0, .ref (xw_ad G 119)), (1, .int a1)]) hx hb dX8_pass_44 hl (k := 2) rfl (by rw [ex2_10]; rfl) (by decide) rfl (fun ls hl => ?_)
            refine lv_goto (tgt := 33) hx hb dX8_pass_47 (by decide) ?_
            have hi := hC33 _ (xw_so hf).symm
            exact ih33 x2_10 w8 hi H locs ls hP hS (lv_sub hl [1, 2, 0] rfl)
      exact LL33 n x2 w hit33 H locs ls hP hS hl
    refine lv_iload_n hx hb dX8_pass_0 rfl (lv_at hl 1 rfl) ?_
    refine lv_iconst (v := 0) hx hb dX8_pass_1 (by decide) ?_
    refine lv_bipush (v := 20) hx hb dX8_pass_2 (by decide) ?_
    replace hf := xw_bp_e hf
    obtain ⟨r1, he2, hf⟩ := hf
    refine xw_Si hB hK hE hS hP (As := [.int a1, .int (0 : Int32), .int (20 : Int32)]) (rest := []) (kX8_isIn l G hG a1 (0 : Int32) (20 : Int32) w0 _ he2) tw_835 tw_837 tw_836 tw_10 3 hs_X8_isIn ⟨Nat.le_of_ble_eq_true rfl, Nat.le_of_ble_eq_true rfl⟩ rfl hl.1 (Nat.le_of_ble_eq_true rfl) rfl dX8_pass_4 ⟨Nat.zero_le _, Nat.zero_le _⟩ (fun H locs hP hS => ?_)
    refine lv_if_ne (tgt := 13) hx hb dX8_pass_7 (by decide) (fun c3 => ?_) (fun c3 => ?_)
    · replace hf := xw_in' c3 hf
      refine lv_aload_n hx hb dX8_pass_13 rfl (lv_at hl 0 rfl) ?_
      refine xw_get hB hK hP (xw_o8 G) (C := RX8) (T := TX8) (N := 31) rfl TBi_X8 0 (by decide) tw_728 rfl rfl dX8_pass_14 ?_
      refine lv_bipush (v := 62) hx hb dX8_pass_17 (by decide) ?_
      replace hf := xw_ck_e hf
      obtain ⟨hi4, hf⟩ := hf
      refine xw_ild hB hK hP (xw_k120 G) hi4 dX8_pass_19 ?_
      refine lv_iload_n hx hb dX8_pass_20 rfl (lv_at hl 1 rfl) ?_
      refine lv_iadd hx hb dX8_pass_21 ?_
      refine lv_sipush (v := 9999) hx hb dX8_pass_22 (by decide) ?_
      refine lv_icmp_le (tgt := 31) hx hb dX8_pass_25 (by decide) (fun c5 => ?_) (fun c5 => ?_)
      · replace hf := xw_ip c5 hf
        refine lv_iconst (v := 0) hx hb dX8_pass_31 (by decide) ?_
        refine lv_istore_n (lv' := [(2, .int (0 : Int32)), (0, .ref (xw_ad G 119)), (1, .int a1)]) hx hb dX8_pass_32 rfl hl (by decide) rfl (fun ls hl => ?_)
        exact J33 (0 : Int32) w0 hf H locs ls hP hS (lv_sub hl [1, 2, 0] rfl)
      · replace hf := xw_in' c5 hf
        refine lv_bipush (v := (-3)) hx hb dX8_pass_28 (by decide) ?_
        obtain ⟨h0, h1⟩ := xw_s2 hf
        exact xw_iret hB hK hE hS hP hr hlk h0 h1 dX8_pass_30
    · replace hf := xw_ip c3 hf
      refine lv_bipush (v := (-2)) hx hb dX8_pass_10 (by decide) ?_
      obtain ⟨h0, h1⟩ := xw_s2 hf
      exact xw_iret hB hK hE hS hP hr hlk h0 h1 dX8_pass_12
  exact HH s.heap [] hP hS
def fX8_on_88 (n : Nat) (a1 : Int32) (a2 : Int32) (v0 : Int32) (w : xw_M) : Option (Int32 × xw_M) := xw_b (fX8_lay n (0 : Int32) w) (fun (_ : Unit) w24 => some (v0, w24))
def fX8_on_61 (n : Nat) (a1 : Int32) (a2 : Int32) (w : xw_M) : Option (Int32 × xw_M) := if (20 : Int32) ≤ a2 then xw_bp (fX8_one (a2 - (20 : Int32)) (5 : Int32) w) (fun r19 => fX8_on_88 n a1 a2 r19 w) else xw_bp (fX8_one (a2 - (10 : Int32)) (3 : Int32) w) (fun r21 => fX8_on_88 n a1 a2 r21 w)
def fX8_on_b44 (n : Nat) (a1 : Int32) (a2 : Int32) (x3 : Int32) (w : xw_M) : Option ((Int32 × xw_M) ⊕ (xw_M)) := if a1 ≤ x3 then some (.inr w) else xw_b (fX8_day n (0 : Int32) w) (fun r14 w15 => xw_lt (x3 + 1) (fun x3_17 => some (.inl (x3_17, w15))))
def fX8_on_44 (n : Nat) (a1 : Int32) (a2 : Int32) (x3 : Int32) (w : xw_M) : Option (Int32 × xw_M) := xw_bp (xw_it (fun z => fX8_on_b44 n a1 a2 z.1 z.2) n (x3, w)) (fun z => (fun (w : xw_M) => fX8_on_61 n a1 a2 w) z)
def fX8_on_24 (n : Nat) (a1 : Int32) (a2 : Int32) (w : xw_M) : Option (Int32 × xw_M) := xw_bp (fX8_isIn a1 (0 : Int32) (20 : Int32)) (fun r7 => if r7 = 0 then some ((-2 : Int32), w) else xw_b (fX8_keep n (0 : Int32) w) (fun (_ : Unit) w11 => fX8_on_44 n a1 a2 (0 : Int32) w11))
def fX8_on (n : Nat) (a1 : Int32) (a2 : Int32) (w0 : xw_M) : Option (Int32 × xw_M) := xw_bp (fX8_isOne (a2 - (10 : Int32)) w0) (fun r1 => if r1 = 0 then xw_bp (fX8_isOne (a2 - (20 : Int32)) w0) (fun r4 => if r4 = 0 then some ((-1 : Int32), w0) else fX8_on_24 n a1 a2 w0) else fX8_on_24 n a1 a2 w0)
set_option maxHeartbeats 4000000 in
set_option maxRecDepth 100000 in
theorem kX8_on (l : Launch) (G : xw_G) (hG : xw_ok G) (n : Nat) (a1 : Int32) (a2 : Int32) (w0 : xw_M) (r0 : Int32) (wz : xw_M) (hf : fX8_on n a1 a2 w0 = some (r0, wz)) : xw_Ti l G yX8_on cX8_on 4 ((Option.some Jvm.ClassFile.FieldType.int)) (36) (796) [.ref (xw_ad G 119), .int a1, .int a2] w0 r0 wz := by
  unfold xw_Ti
  refine Met.ofW (cc := cX8_on) (maxL := 4) (ret := (Option.some Jvm.ClassFile.FieldType.int)) (by decide) rfl ?_
  intro p e s m args below meth c s₁ B hml hv
  obtain ⟨hargs, hP, hK, hE⟩ := hv
  have hx := B.exec
  have hb := B.bytes
  have hr := B.returns
  have hlk := B.notSynchronized
  have hB : CallFix p m c cX8_on 4 s args TB RX8 := ⟨hx, hb, hml, findClass_of_methodNamed B.named, fun q h => (atoms_spec (ws := Cond.code yX8_on cX8_on 4 ((Option.some Jvm.ClassFile.FieldType.int)) :: TB) B.pre) q (List.mem_cons_of_mem _ h)⟩
  have hS : va_S (xw_A G) s.heap s.heap [] := va_S.rf
  have hl := lv_entry [.ref (xw_ad G 119), .int a1, .int a2] (n := 4) (Nat.le_of_ble_eq_true rfl)
  rw [show entryFrame m args 4 = entryFrame m ([.ref (xw_ad G 119), .int a1, .int a2] : List Value).toArray 4 from by rw [hargs], lg_entry_eq]
  generalize (lg_sl [.ref (xw_ad G 119), .int a1, .int a2] ++ List.replicate (4 - (lg_sl [.ref (xw_ad G 119), .int a1, .int a2]).length) Slot.unset).toArray = ls at hl ⊢
  have hP : va_P (xw_D G) xw_cl (xw_W G w0) s.heap := hP
  have hl : lv_has ls 4 [(0, .ref (xw_ad G 119)), (1, .int a1), (2, .int a2)] := hl
  have HH : ∀ (H : Heap) (locs : List Loc) (hP : va_P (xw_D G) xw_cl (xw_W G w0) H) (hS : va_S (xw_A G) s.heap H locs), xw_Wi G p l e (xw_rm (36) (796)) s m args below meth c H locs r0 wz (F0 m 0 ls []) := by
    intro H locs hP hS
    unfold fX8_on at hf
    have J88 : ∀ (v0 : Int32) (w : xw_M) (hf : fX8_on_88 n a1 a2 v0 w = some (r0, wz)) (H : Heap) (locs : List Loc) (ls : Array Slot) (hP : va_P (xw_D G) xw_cl (xw_W G w) H) (hS : va_S (xw_A G) s.heap H locs) (hl : lv_has ls 4 [(0, .ref (xw_ad G 119))]), xw_Wi G p l e (xw_rm (36) (796)) s m args below meth c H locs r0 wz (F0 m 88 ls [.int v0]) := by
      intro v0 w hf H locs ls hP hS hl
      unfold fX8_on_88 at hf
      refine lv_istore_n (lv' := [(3, .int v0), (0, .ref (xw_ad G 119))]) hx hb dX8_on_88 rfl hl (by decide) rfl (fun ls hl => ?_)
      refine lv_aload_n hx hb dX8_on_89 rfl (lv_at hl 1 rfl) ?_
      refine lv_iconst (v := 0) hx hb dX8_on_90 (by decide) ?_
      replace hf := xw_b_e hf
      obtain ⟨r23, w24, he25, hf⟩ := hf
      refine xw_Vv hB hK hE hS hP (As := [.int (0 : Int32)]) (rest := []) (kX8_lay l G hG n (0 : Int32) w _ _ he25) gs_X8_201 (xw_rc hK hP (C := RX8) (T := TX8) (N := 31) (xw_o8 G) rfl) 1 hv_X8_lay ⟨Nat.le_of_ble_eq_true rfl, Nat.le_of_ble_eq_true rfl⟩ rfl hl.1 (Nat.le_of_ble_eq_true rfl) rfl dX8_on_91 ⟨Nat.zero_le _, Nat.zero_le _⟩ (fun H locs hP hS => ?_)
      refine lv_iload_n hx hb dX8_on_94 rfl (lv_at hl 0 rfl) ?_
      obtain ⟨h0, h1⟩ := xw_s2 hf
      exact xw_iret hB hK hE hS hP hr hlk h0 h1 dX8_on_95
    have J61 : ∀ (w : xw_M) (hf : fX8_on_61 n a1 a2 w = some (r0, wz)) (H : Heap) (locs : List Loc) (ls : Array Slot) (hP : va_P (xw_D G) xw_cl (xw_W G w) H) (hS : va_S (xw_A G) s.heap H locs) (hl : lv_has ls 4 [(0, .ref (xw_ad G 119)), (2, .int a2)]), xw_Wi G p l e (xw_rm (36) (796)) s m args below meth c H locs r0 wz (F0 m 61 ls []) := by
      intro w hf H locs ls hP hS hl
      unfold fX8_on_61 at hf
      refine lv_iload_n hx hb dX8_on_61 rfl (lv_at hl 1 rfl) ?_
      refine lv_bipush (v := 20) hx hb dX8_on_62 (by decide) ?_
      refine lv_icmp_ge (tgt := 79) hx hb dX8_on_64 (by decide) (fun c18 => ?_) (fun c18 => ?_)
      · replace hf := xw_ip c18 hf
        refine lv_aload_n hx hb dX8_on_79 rfl (lv_at hl 0 rfl) ?_
        refine lv_iload_n hx hb dX8_on_80 rfl (lv_at hl 1 rfl) ?_
        refine lv_bipush (v := 20) hx hb dX8_on_81 (by decide) ?_
        refine lv_isub hx hb dX8_on_83 ?_
        refine lv_iconst (v := 5) hx hb dX8_on_84 (by decide) ?_
        replace hf := xw_bp_e hf
        obtain ⟨r19, he20, hf⟩ := hf
        refine xw_Vi hB hK hE hS hP (As := [.int (a2 - (20 : Int32)), .int (5 : Int32)]) (rest := []) (kX8_one l G hG (a2 - (20 : Int32)) (5 : Int32) w _ he20) gs_X8_89 (xw_rc hK hP (C := RX8) (T := TX8) (N := 31) (xw_o8 G) rfl) 2 hv_X8_one ⟨Nat.le_of_ble_eq_true rfl, Nat.le_of_ble_eq_true rfl⟩ rfl hl.1 (Nat.le_of_ble_eq_true rfl) rfl dX8_on_85 ⟨Nat.zero_le _, Nat.zero_le _⟩ (fun H locs hP hS => ?_)
        exact J88 r19 w hf H locs ls hP hS (lv_sub hl [0] rfl)
      · replace hf := xw_in' c18 hf
        refine lv_aload_n hx hb dX8_on_67 rfl (lv_at hl 0 rfl) ?_
        refine lv_iload_n hx hb dX8_on_68 rfl (lv_at hl 1 rfl) ?_
        refine lv_bipush (v := 10) hx hb dX8_on_69 (by decide) ?_
        refine lv_isub hx hb dX8_on_71 ?_
        refine lv_iconst (v := 3) hx hb dX8_on_72 (by decide) ?_
        replace hf := xw_bp_e hf
        obtain ⟨r21, he22, hf⟩ := hf
        refine xw_Vi hB hK hE hS hP (As := [.int (a2 - (10 : Int32)), .int (3 : Int32)]) (rest := []) (kX8_one l G hG (a2 - (10 : Int32)) (3 : Int32) w _ he22) gs_X8_89 (xw_rc hK hP (C := RX8) (T := TX8) (N := 31) (xw_o8 G) rfl) 2 hv_X8_one ⟨Nat.le_of_ble_eq_true rfl, Nat.le_of_ble_eq_true rfl⟩ rfl hl.1 (Nat.le_of_ble_eq_true rfl) rfl dX8_on_73 ⟨Nat.zero_le _, Nat.zero_le _⟩ (fun H locs hP hS => ?_)
        refine lv_goto (tgt := 88) hx hb dX8_on_76 (by decide) ?_
        exact J88 r21 w hf H locs ls hP hS (lv_sub hl [0] rfl)
    have J44 : ∀ (x3 : Int32) (w : xw_M) (hf : fX8_on_44 n a1 a2 x3 w = some (r0, wz)) (H : Heap) (locs : List Loc) (ls : Array Slot) (hP : va_P (xw_D G) xw_cl (xw_W G w) H) (hS : va_S (xw_A G) s.heap H locs) (hl : lv_has ls 4 [(0, .ref (xw_ad G 119)), (1, .int a1), (2, .int a2), (3, .int x3)]), xw_Wi G p l e (xw_rm (36) (796)) s m args below meth c H locs r0 wz (F0 m 44 ls []) := by
      intro x3 w hf H locs ls hP hS hl
      unfold fX8_on_44 at hf
      replace hf := xw_bp_e hf
      obtain ⟨bb44, hit44, hfx44⟩ := hf
      have XX44 : ∀ (w : xw_M) (hf : fX8_on_61 n a1 a2 w = some (r0, wz)) (H : Heap) (locs : List Loc) (ls : Array Slot) (hP : va_P (xw_D G) xw_cl (xw_W G w) H) (hS : va_S (xw_A G) s.heap H locs) (hl : lv_has ls 4 [(0, .ref (xw_ad G 119)), (2, .int a2)]), xw_Wi G p l e (xw_rm (36) (796)) s m args below meth c H locs r0 wz (F0 m 61 ls []) := by
        intro w hf H locs ls hP hS hl
        exact J61 w hf H locs ls hP hS (lv_sub hl [0, 1] rfl)
      have LL44 : ∀ (nn : Nat) (x3 : Int32) (w : xw_M) (hit : xw_it (fun z => fX8_on_b44 n a1 a2 z.1 z.2) nn (x3, w) = some bb44) (H : Heap) (locs : List Loc) (ls : Array Slot) (hP : va_P (xw_D G) xw_cl (xw_W G w) H) (hS : va_S (xw_A G) s.heap H locs) (hl : lv_has ls 4 [(0, .ref (xw_ad G 119)), (1, .int a1), (2, .int a2), (3, .int x3)]), xw_Wi G p l e (xw_rm (36) (796)) s m args below meth c H locs r0 wz (F0 m 44 ls []) := by
        intro nn
        induction nn with
        | zero => intro x3 w hit; exact (xw_it_0 hit).elim
        | succ nn ih44 =>
          intro x3 w hit H locs ls hP hS hl
          replace hit := xw_it_e hit
          obtain ⟨wv44, hf, hC44, hX44⟩ := hit
          replace hf : fX8_on_b44 n a1 a2 x3 w = some wv44 := hf
          unfold fX8_on_b44 at hf
          refine lv_iload_n hx hb dX8_on_44 rfl (lv_at hl 3 rfl) ?_
          refine lv_iload_n hx hb dX8_on_45 rfl (lv_at hl 1 rfl) ?_
          refine lv_icmp_ge (tgt := 61) hx hb dX8_on_46 (by decide) (fun c13 => ?_) (fun c13 => ?_)
          · replace hf := xw_ip c13 hf
            have he44 := hX44 _ (xw_so hf).symm
            rw [← he44] at hfx44
            exact XX44 w hfx44 H locs ls hP hS (lv_sub hl [0, 2] rfl)
          · replace hf := xw_in' c13 hf
            refine lv_aload_n hx hb dX8_on_49 rfl (lv_at hl 0 rfl) ?_
            refine lv_iconst (v := 0) hx hb dX8_on_50 (by decide) ?_
            replace hf := xw_b_e hf
            obtain ⟨r14, w15, he16, hf⟩ := hf
            refine xw_Vi hB hK hE hS hP (As := [.int (0 : Int32)]) (rest := []) (kX8_day l G hG n (0 : Int32) w _ _ he16) gs_X8_197 (xw_rc hK hP (C := RX8) (T := TX8) (N := 31) (xw_o8 G) rfl) 1 hv_X8_day ⟨Nat.le_of_ble_eq_true rfl, Nat.le_of_ble_eq_true rfl⟩ rfl hl.1 (Nat.le_of_ble_eq_true rfl) rfl dX8_on_51 ⟨Nat.zero_le _, Nat.zero_le _⟩ (fun H locs hP hS => ?_)
            refine lv_pop hx hb dX8_on_54 rfl ?_
            obtain ⟨x3_17, ex3_17⟩ : ∃ y : Int32, y = x3 + 1 := ⟨_, rfl⟩
            replace hf := xw_lt_e ex3_17 hf
            refine lv_iinc (v := x3_17) (lv' := [(3, .int x3_17), (0, .ref (xw_ad G 119)), (1, .int a1), (2, .int a2)]) hx hb dX8_on_55 hl (k := 3) rfl (by rw [ex3_17]; rfl) (by decide) rfl (fun ls hl => ?_)
            refine lv_goto (tgt := 44) hx hb dX8_on_58 (by decide) ?_
            have hi := hC44 _ (xw_so hf).symm
            exact ih44 x3_17 w15 hi H locs ls hP hS (lv_sub hl [1, 2, 3, 0] rfl)
      exact LL44 n x3 w hit44 H locs ls hP hS hl
    have J24 : ∀ (w : xw_M) (hf : fX8_on_24 n a1 a2 w = some (r0, wz)) (H : Heap) (locs : List Loc) (ls : Array Slot) (hP : va_P (xw_D G) xw_cl (xw_W G w) H) (hS : va_S (xw_A G) s.heap H locs) (hl : lv_has ls 4 [(0, .ref (xw_ad G 119)), (1, .int a1), (2, .int a2)]), xw_Wi G p l e (xw_rm (36) (796)) s m args below meth c H locs r0 wz (F0 m 24 ls []) := by
      intro w hf H locs ls hP hS hl
      unfold fX8_on_24 at hf
      refine lv_iload_n hx hb dX8_on_24 rfl (lv_at hl 1 rfl) ?_
      refine lv_iconst (v := 0) hx hb dX8_on_25 (by decide) ?_
      refine lv_bipush (v := 20) hx hb dX8_on_26 (by decide) ?_
      replace hf := xw_bp_e hf
      obtain ⟨r7, he8, hf⟩ := hf
      refine xw_Si hB hK hE hS hP (As := [.int a1, .int (0 : Int32), .int (20 : Int32)]) (rest := []) (kX8_isIn l G hG a1 (0 : Int32) (20 : Int32) w _ he8) tw_835 tw_837 tw_836 tw_10 3 hs_X8_isIn ⟨Nat.le_of_ble_eq_true rfl, Nat.le_of_ble_eq_true rfl⟩ rfl hl.1 (Nat.le_of_ble_eq_true rfl) rfl dX8_on_28 ⟨Nat.zero_le _, Nat.zero_le _⟩ (fun H locs hP hS => ?_)
      refine lv_if_ne (tgt := 37) hx hb dX8_on_31 (by decide) (fun c9 => ?_) (fun c9 => ?_)
      · replace hf := xw_in' c9 hf
        refine lv_aload_n hx hb dX8_on_37 rfl (lv_at hl 0 rfl) ?_
        refine lv_iconst (v := 0) hx hb dX8_on_38 (by decide) ?_
        replace hf := xw_b_e hf
        obtain ⟨r10, w11, he12, hf⟩ := hf
        refine xw_Vv hB hK hE hS hP (As := [.int (0 : Int32)]) (rest := []) (kX8_keep l G hG n (0 : Int32) w _ _ he12) gs_X8_194 (xw_rc hK hP (C := RX8) (T := TX8) (N := 31) (xw_o8 G) rfl) 1 hv_X8_keep ⟨Nat.le_of_ble_eq_true rfl, Nat.le_of_ble_eq_true rfl⟩ rfl hl.1 (Nat.le_of_ble_eq_true rfl) rfl dX8_on_39 ⟨Nat.zero_le _, Nat.zero_le _⟩ (fun H locs hP hS => ?_)
        refine lv_iconst (v := 0) hx hb dX8_on_42 (by decide) ?_
        refine lv_istore_n (lv' := [(3, .int (0 : Int32)), (0, .ref (xw_ad G 119)), (1, .int a1), (2, .int a2)]) hx hb dX8_on_43 rfl hl (by decide) rfl (fun ls hl => ?_)
        exact J44 (0 : Int32) w11 hf H locs ls hP hS (lv_sub hl [1, 2, 3, 0] rfl)
      · replace hf := xw_ip c9 hf
        refine lv_bipush (v := (-2)) hx hb dX8_on_34 (by decide) ?_
        obtain ⟨h0, h1⟩ := xw_s2 hf
        exact xw_iret hB hK hE hS hP hr hlk h0 h1 dX8_on_36
    refine lv_aload_n hx hb dX8_on_0 rfl (lv_at hl 0 rfl) ?_
    refine lv_iload_n hx hb dX8_on_1 rfl (lv_at hl 2 rfl) ?_
    refine lv_bipush (v := 10) hx hb dX8_on_2 (by decide) ?_
    refine lv_isub hx hb dX8_on_4 ?_
    replace hf := xw_bp_e hf
    obtain ⟨r1, he2, hf⟩ := hf
    refine xw_Vi hB hK hE hS hP (As := [.int (a2 - (10 : Int32))]) (rest := []) (kX8_isOne l G hG (a2 - (10 : Int32)) w0 _ he2) gs_X8_101 (xw_rc hK hP (C := RX8) (T := TX8) (N := 31) (xw_o8 G) rfl) 1 hv_X8_isOne ⟨Nat.le_of_ble_eq_true rfl, Nat.le_of_ble_eq_true rfl⟩ rfl hl.1 (Nat.le_of_ble_eq_true rfl) rfl dX8_on_5 ⟨Nat.zero_le _, Nat.zero_le _⟩ (fun H locs hP hS => ?_)
    refine lv_if_ne (tgt := 24) hx hb dX8_on_8 (by decide) (fun c3 => ?_) (fun c3 => ?_)
    · replace hf := xw_in' c3 hf
      exact J24 w0 hf H locs ls hP hS (lv_sub hl [0, 1, 2] rfl)
    · replace hf := xw_ip c3 hf
      refine lv_aload_n hx hb dX8_on_11 rfl (lv_at hl 0 rfl) ?_
      refine lv_iload_n hx hb dX8_on_12 rfl (lv_at hl 2 rfl) ?_
      refine lv_bipush (v := 20) hx hb dX8_on_13 (by decide) ?_
      refine lv_isub hx hb dX8_on_15 ?_
      replace hf := xw_bp_e hf
      obtain ⟨r4, he5, hf⟩ := hf
      refine xw_Vi hB hK hE hS hP (As := [.int (a2 - (20 : Int32))]) (rest := []) (kX8_isOne l G hG (a2 - (20 : Int32)) w0 _ he5) gs_X8_101 (xw_rc hK hP (C := RX8) (T := TX8) (N := 31) (xw_o8 G) rfl) 1 hv_X8_isOne ⟨Nat.le_of_ble_eq_true rfl, Nat.le_of_ble_eq_true rfl⟩ rfl hl.1 (Nat.le_of_ble_eq_true rfl) rfl dX8_on_16 ⟨Nat.zero_le _, Nat.zero_le _⟩ (fun H locs hP hS => ?_)
      refine lv_if_ne (tgt := 24) hx hb dX8_on_19 (by decide) (fun c6 => ?_) (fun c6 => ?_)
      · replace hf := xw_in' c6 hf
        exact J24 w0 hf H locs ls hP hS (lv_sub hl [0, 1, 2] rfl)
      · replace hf := xw_ip c6 hf
        refine lv_iconst (v := (-1)) hx hb dX8_on_22 (by decide) ?_
        obtain ⟨h0, h1⟩ := xw_s2 hf
        exact xw_iret hB hK hE hS hP hr hlk h0 h1 dX8_on_23
  exact HH s.heap [] hP hS
