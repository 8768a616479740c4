def fX7_mean_40 (n : Nat) (a1 : Int32) (x2 : Int32) (w0 : xw_M) : Option Int64 := xw_bp (fX7_within a1 (1 : Int32)) (fun r7 => if r7 = 0 then some (-9223372036854775808 : Int64) else xw_bp (fX7_fraction n (w0.1 1 8) x2 a1) (fun r10 => some r10))
def fX7_mean_32 (n : Nat) (a1 : Int32) (x3 : Int32) (v0 : Int32) (v1 : Int32) (w0 : xw_M) : Option ((Int32 × Int32) ⊕ (Int32)) := xw_lt (v0 + v1) (fun x2_5 => xw_lt (x3 + 1) (fun x3_6 => some (.inl (x2_5, x3_6))))
def fX7_mean_b4 (n : Nat) (a1 : Int32) (x2 : Int32) (x3 : Int32) (w0 : xw_M) : Option ((Int32 × Int32) ⊕ (Int32)) := if (w0.1 1 0) ≤ x3 then some (.inr x2) else xw_bp (fX5_isAway 1 x3 w0) (fun r2 => if r2 = 0 then fX7_mean_32 n a1 x3 x2 (1 : Int32) w0 else fX7_mean_32 n a1 x3 x2 (0 : Int32) w0)
def fX7_mean_4 (n : Nat) (a1 : Int32) (x2 : Int32) (x3 : Int32) (w0 : xw_M) : Option Int64 := xw_bp (xw_it (fun z => fX7_mean_b4 n a1 z.1 z.2 w0) n (x2, x3)) (fun z => (fun (x2 : Int32) => fX7_mean_40 n a1 x2 w0) z)
def fX7_mean (n : Nat) (a1 : Int32) (w0 : xw_M) : Option Int64 := fX7_mean_4 n a1 (0 : Int32) (0 : Int32) w0
set_option maxHeartbeats 4000000 in
set_option maxRecDepth 100000 in
theorem kX7_mean (l : Launch) (G : xw_G) (hG : xw_ok G) (n : Nat) (a1 : Int32) (w0 : xw_M) (r0 : Int64) (hf : fX7_mean n a1 w0 = some r0) : xw_Tl l G yX7_mean cX7_mean 4 ((Option.some Jvm.ClassFile.FieldType.long)) (1) (23) [.ref (xw_ad G 0), .int a1] w0 r0 w0 := by
  unfold xw_Tl
  refine Met.ofW (cc := cX7_mean) (maxL := 4) (ret := (Option.some Jvm.ClassFile.FieldType.long)) (by decide) rfl ?_
  intro p e s m args below meth c s₁ B hml hv
  obtain ⟨hargs, hP, hK, hE⟩ := hv
  have hx := B.exec
  have hb := B.bytes
  have hr := B.returns
  have hlk := B.notSynchronized
  have hB : CallFix p m c cX7_mean 4 s args TB RX7 := ⟨hx, hb, hml, findClass_of_methodNamed B.named, fun q h => (atoms_spec (ws := Cond.code yX7_mean cX7_mean 4 ((Option.some Jvm.ClassFile.FieldType.long)) :: TB) B.pre) q (List.mem_cons_of_mem _ h)⟩
  have hS : va_S (xw_A G) s.heap s.heap [] := va_S.rf
  have hl := lv_entry [.ref (xw_ad G 0), .int a1] (n := 4) (Nat.le_of_ble_eq_true rfl)
  rw [show entryFrame m args 4 = entryFrame m ([.ref (xw_ad G 0), .int a1] : List Value).toArray 4 from by rw [hargs], lg_entry_eq]
  generalize (lg_sl [.ref (xw_ad G 0), .int a1] ++ List.replicate (4 - (lg_sl [.ref (xw_ad G 0), .int a1]).length) Slot.unset).toArray = ls at hl ⊢
  have hP : va_P (xw_D G) xw_cl (xw_W G w0) s.heap := hP
  have hl : lv_has ls 4 [(0, .ref (xw_ad G 0)), (1, .int a1)] := hl
  have HH : ∀ (H : Heap) (locs : List Loc) (hP : va_P (xw_D G) xw_cl (xw_W G w0) H) (hS : va_S (xw_A G) s.heap H locs), xw_Wl G p l e (xw_rm (1) (23)) s m args below meth c H locs r0 w0 (F0 m 0 ls []) := by
    intro H locs hP hS
    unfold fX7_mean at hf
    have J40 : ∀ (x2 : Int32) (hf : fX7_mean_40 n a1 x2 w0 = some r0) (H : Heap) (locs : List Loc) (ls : Array Slot) (hP : va_P (xw_D G) xw_cl (xw_W G w0) H) (hS : va_S (xw_A G) s.heap H locs) (hl : lv_has ls 4 [(0, .ref (xw_ad G 0)), (1, .int a1), (2, .int x2)]), xw_Wl G p l e (xw_rm (1) (23)) s m args below meth c H locs r0 w0 (F0 m 40 ls []) := by
      intro x2 hf H locs ls hP hS hl
      unfold fX7_mean_40 at hf
      refine lv_iload_n hx hb dX7_mean_40 rfl (lv_at hl 1 rfl) ?_
      refine lv_iconst (v := 1) hx hb dX7_mean_41 (by decide) ?_
      replace hf := xw_bp_e hf
      obtain ⟨r7, he8, hf⟩ := hf
      refine xw_Si hB hK hE hS hP (As := [.int a1, .int (1 : Int32)]) (rest := []) (kX7_within l G hG a1 (1 : Int32) w0 _ he8) tw_293 tw_295 tw_294 tw_1 2 hs_X7_within ⟨Nat.le_of_ble_eq_true rfl, Nat.le_of_ble_eq_true rfl⟩ rfl hl.1 (Nat.le_of_ble_eq_true rfl) rfl dX7_mean_42 ⟨Nat.zero_le _, Nat.zero_le _⟩ (fun H locs hP hS => ?_)
      refine lv_if_eq (tgt := 63) hx hb dX7_mean_45 (by decide) (fun c9 => ?_) (fun c9 => ?_)
      · replace hf := xw_ip c9 hf
        refine lv_ldc2 (v := (-9223372036854775808)) hx hb hB.2.2.2.1 (hB.2.2.2.2 _ tw_595) dX7_mean_63 ?_
        have h0 := xw_so hf
        have h1 : w0 = w0 := rfl
        exact xw_lret hB hK hE hS hP hr hlk h0 h1 dX7_mean_66
      · replace hf := xw_in' c9 hf
        refine lv_aload_n hx hb dX7_mean_48 rfl (lv_at hl 0 rfl) ?_
        refine xw_get hB hK hP (xw_o7 G) (C := RX7) (T := TX7) (N := 11) rfl TBi_X7 0 (by decide) tw_255 rfl rfl dX7_mean_49 ?_
        refine xw_get hB hK hP (xw_o5 G (Or.inl rfl)) (C := RX5) (T := TX5) (N := 14) rfl TBi_X5 8 (by decide) tw_87 rfl rfl dX7_mean_52 ?_
        refine lv_iload_n hx hb dX7_mean_55 rfl (lv_at hl 2 rfl) ?_
        refine lv_iload_n hx hb dX7_mean_56 rfl (lv_at hl 1 rfl) ?_
        replace hf := xw_bp_e hf
        obtain ⟨r10, he11, hf⟩ := hf
        refine xw_Sl hB hK hE hS hP (As := [.int (w0.1 1 8), .int x2, .int a1]) (rest := []) (kX7_fraction l G hG n (w0.1 1 8) x2 a1 w0 _ he11) tw_596 tw_598 tw_597 tw_1 3 hs_X7_fraction ⟨Nat.le_of_ble_eq_true rfl, Nat.le_of_ble_eq_true rfl⟩ rfl hl.1 (Nat.le_of_ble_eq_true rfl) rfl dX7_mean_57 ⟨Nat.zero_le _, Nat.zero_le _⟩ (fun H locs hP hS => ?_)
        refine lv_goto (tgt := 66) hx hb dX7_mean_60 (by decide) ?_
        have h0 := xw_so hf
        have h1 : w0 = w0 := rfl
        exact xw_lret hB hK hE hS hP hr hlk h0 h1 dX7_mean_66
    have J4 : ∀ (x2 : Int32) (x3 : Int32) (hf : fX7_mean_4 n a1 x2 x3 w0 = some r0) (H : Heap) (locs : List Loc) (ls : Array Slot) (hP : va_P (xw_D G) xw_cl (xw_W G w0) H) (hS : va_S (xw_A G) s.heap H locs) (hl : lv_has ls 4 [(0, .ref (xw_ad G 0)), (1, .int a1), (2, .int x2), (3, .int x3)]), xw_Wl G p l e (xw_rm (1) (23)) s m args below meth c H locs r0 w0 (F0 m 4 ls []) := by
      intro x2 x3 hf H locs ls hP hS hl
      unfold fX7_mean_4 at hf
      replace hf := xw_bp_e hf
      obtain ⟨bb4, hit4, hfx4⟩ := hf
      have XX4 : ∀ (x2 : Int32) (hf : fX7_mean_40 n a1 x2 w0 = some r0) (H : Heap) (locs : List Loc) (ls : Array Slot) (hP : va_P (xw_D G) xw_cl (xw_W G w0) H) (hS : va_S (xw_A G) s.heap H locs) (hl : lv_has ls 4 [(0, .ref (xw_ad G 0)), (1, .int a1), (2, .int x2)]), xw_Wl G p l e (xw_rm (1) (23)) s m args below meth c H locs r0 w0 (F0 m 40 ls []) := by
        intro x2 hf H locs ls hP hS hl
        exact J40 x2 hf H locs ls hP hS (lv_sub hl [0, 1, 2] rfl)
      have LL4 : ∀ (nn : Nat) (x2 : Int32) (x3 : Int32) (hit : xw_it (fun z => fX7_mean_b4 n a1 z.1 z.2 w0) nn (x2, x3) = some bb4) (H : Heap) (locs : List Loc) (ls : Array Slot) (hP : va_P (xw_D G) xw_cl (xw_W G w0) H) (hS : va_S (xw_A G) s.heap H locs) (hl : lv_has ls 4 [(0, .ref (xw_ad G 0)), (1, .int a1), (2, .int x2), (3, .int x3)]), xw_Wl G p l e (xw_rm (1) (23)) s m args below meth c H locs r0 w0 (F0 m 4 ls []) := by
        intro nn
        induction nn with
        | zero => intro x2 x3 hit; exact (xw_it_0 hit).elim
        | succ nn ih4 =>
          intro x2 x3 hit H locs ls hP hS hl
          replace hit := xw_it_e hit
          obtain ⟨wv4, hf, hC4, hX4⟩ := hit
          replace hf : fX7_mean_b4 n a1 x2 x3 w0 = some wv4 := hf
          unfold fX7_mean_b4 at hf
          have J32 : ∀ (x3 : Int32) (v0 : Int32) (v1 : Int32) (hf : fX7_mean_32 n a1 x3 v0 v1 w0 = some wv4) (H : Heap) (locs : List Loc) (ls : Array Slot) (hP : va_P (xw_D G) xw_cl (xw_W G w0) H) (hS : va_S (xw_A G) s.heap H locs) (hl : lv_has ls 4 [(0, .ref (xw_ad G 0)), (1, .int a1), (3, .int x3)]), xw_Wl G p l e (xw_rm (1) (23)) s m args below meth c H locs r0 w0 (F0 m 32 ls [.int v1, .int v0]) := by
            intro x3 v0 v1 hf H locs ls hP hS hl
            unfold fX7_mean_32 at hf
            refine lv_iadd hx hb dX7_mean_32 ?_
            refine lv_topi (fun x2_5 ex2_5 => ?_)
            replace hf := xw_lt_e ex2_5 hf
            refine lv_istore_n (lv' := [(2, .int x2_5), (0, .ref (xw_ad G 0)), (1, .int a1), (3, .int x3)]) hx hb dX7_mean_33 rfl hl (by decide) rfl (fun ls hl => ?_)
            obtain ⟨x3_6, ex3_6⟩ : ∃ y : Int32, y = x3 + 1 := ⟨_, rfl⟩
            replace hf := xw_lt_e ex3_6 hf
            refine lv_iinc (v := x3_6) (lv' := [(3, .int x3_6), (2, .int x2_5), (0, .ref (xw_ad G 0)), (1, .int a1)]) hx hb dX7_mean_34 hl (k := 3) rfl (by rw [ex3_6]; rfl) (by decide) rfl (fun ls hl => ?_)
            refine lv_goto (tgt := 4) hx hb dX7_mean_37 (by decide) ?_
            have hi := hC4 _ (xw_so hf).symm
            exact ih4 x2_5 x3_6 hi H locs ls hP hS (lv_sub hl [2, 3, 1, 0] rfl)
          refine lv_iload_n hx hb dX7_mean_4 rfl (lv_at hl 3 rfl) ?_
          refine lv_aload_n hx hb dX7_mean_5 rfl (lv_at hl 0 rfl) ?_
          refine xw_get hB hK hP (xw_o7 G) (C := RX7) (T := TX7) (N := 11) rfl TBi_X7 0 (by decide) tw_255 rfl rfl dX7_mean_6 ?_
          refine xw_get hB hK hP (xw_o5 G (Or.inl rfl)) (C := RX5) (T := TX5) (N := 14) rfl TBi_X5 0 (by decide) tw_62 rfl rfl dX7_mean_9 ?_
          refine lv_icmp_ge (tgt := 40) hx hb dX7_mean_12 (by decide) (fun c1 => ?_) (fun c1 => ?_)
          · replace hf := xw_ip c1 hf
            have he4 := hX4 _ (xw_so hf).symm
            rw [← he4] at hfx4
            exact XX4 x2 hfx4 H locs ls hP hS (lv_sub hl [0, 1, 2] rfl)
          · replace hf := xw_in' c1 hf
            refine lv_iload_n hx hb dX7_mean_15 rfl (lv_at hl 2 rfl) ?_
            refine lv_aload_n hx hb dX7_mean_16 rfl (lv_at hl 0 rfl) ?_
            refine xw_get hB hK hP (xw_o7 G) (C := RX7) (T := TX7) (N := 11) rfl TBi_X7 0 (by decide) tw_255 rfl rfl dX7_mean_17 ?_
            refine lv_iload_n hx hb dX7_mean_20 rfl (lv_at hl 3 rfl) ?_
            replace hf := xw_bp_e hf
            obtain ⟨r2, he3, hf⟩ := hf
            refine xw_Vi hB hK hE hS hP (As := [.int x3]) (rest := [.int x2]) (kX5_isAway l G hG 1 x3 (Or.inl rfl) w0 _ he3) gs_X7_98 (xw_rc hK hP (C := RX5) (T := TX5) (N := 14) (xw_o5 G (Or.inl rfl)) rfl) 1 hv_X5_isAway ⟨Nat.le_of_ble_eq_true rfl, Nat.le_of_ble_eq_true rfl⟩ rfl hl.1 (Nat.le_of_ble_eq_true rfl) rfl dX7_mean_21 ⟨Nat.zero_le _, Nat.zero_le _⟩ (fun H locs hP hS => ?_)
            refine lv_if_eq (tgt := 31) hx hb dX7_mean_24 (by decide) (fun c4 => ?_) (fun c4 => ?_)
            · replace hf := xw_ip c4 hf
              refine lv_iconst (v := 1) hx hb dX7_mean_31 (by decide) ?_
              exact J32 x3 x2 (1 : Int32) hf H locs ls hP hS (lv_sub hl [0, 1, 3] rfl)
            · replace hf := xw_in' c4 hf
              refine lv_iconst (v := 0) hx hb dX7_mean_27 (by decide) ?_
              refine lv_goto (tgt := 32) hx hb dX7_mean_28 (by decide) ?_
              exact J32 x3 x2 (0 : Int32) hf H locs ls hP hS (lv_sub hl [0, 1, 3] rfl)
      exact LL4 n x2 x3 hit4 H locs ls hP hS hl
    refine lv_iconst (v := 0) hx hb dX7_mean_0 (by decide) ?_
    refine lv_istore_n (lv' := [(2, .int (0 : Int32)), (0, .ref (xw_ad G 0)), (1, .int a1)]) hx hb dX7_mean_1 rfl hl (by decide) rfl (fun ls hl => ?_)
    refine lv_iconst (v := 0) hx hb dX7_mean_2 (by decide) ?_
    refine lv_istore_n (lv' := [(3, .int (0 : Int32)), (2, .int (0 : Int32)), (0, .ref (xw_ad G 0)), (1, .int a1)]) hx hb dX7_mean_3 rfl hl (by decide) rfl (fun ls hl => ?_)
    exact J4 (0 : Int32) (0 : Int32) hf H locs ls hP hS (lv_sub hl [2, 3, 1, 0] rfl)
  exact HH s.heap [] hP hS
def fX7_plan_41 (a1 : Int32) (a2 : Int32) (w : xw_M) : Option (Int32 × xw_M) := xw_b (fX1_add (1 + 10) a1 a2 w) (fun r12 w13 => some (r12, w13))
def fX7_plan (a1 : Int32) (a2 : Int32) (w0 : xw_M) : Option (Int32 × xw_M) := if a1 = (-1 : Int32) then xw_b (fX1_empty (1 + 10) w0) (fun r9 w10 => some (r9, w10)) else xw_bp (fX7_within a1 (3 : Int32)) (fun r2 => if r2 = 0 then some ((-1 : Int32), w0) else if a1 = 0 then fX7_plan_41 a1 a2 w0 else xw_bp (fX5_has 1 a2 w0) (fun r6 => if r6 = 0 then some ((-1 : Int32), w0) else fX7_plan_41 a1 a2 w0))
set_option maxHeartbeats 4000000 in
set_option maxRecDepth 100000 in
theorem kX7_plan (l : Launch) (G : xw_G) (hG : xw_ok G) (a1 : Int32) (a2 : Int32) (w0 : xw_M) (r0 : Int32) (wz : xw_M) (hf : fX7_plan a1 a2 w0 = some (r0, wz)) : xw_Ti l G yX7_plan cX7_plan 3 ((Option.some Jvm.ClassFile.FieldType.int)) (2) (44) [.ref (xw_ad G 0), .int a1, .int a2] w0 r0 wz := by
  unfold xw_Ti
  refine Met.ofW (cc := cX7_plan) (maxL := 3) (ret := (Option.some Jvm.ClassFile.FieldType.int)) (by decide) rfl ?_
  intro p e s m args below meth c s₁ B hml hv
  obtain ⟨hargs, hP, hK, hE⟩ := hv
  have hx := B.exec
  have hb := B.bytes
  have hr := B.returns
  have hlk := B.notSynchronized
  have hB : CallFix p m c cX7_plan 3 s args TB RX7 := ⟨hx, hb, hml, findClass_of_methodNamed B.named, fun q h => (atoms_spec (ws := Cond.code yX7_plan cX7_plan 3 ((Option.some Jvm.ClassFile.FieldType.int)) :: TB) B.pre) q (List.mem_cons_of_mem _ h)⟩
  have hS : va_S (xw_A G) s.heap s.heap [] := va_S.rf
  have hl := lv_entry [.ref (xw_ad G 0), .int a1, .int a2] (n := 3) (Nat.le_of_ble_eq_true rfl)
  rw [show entryFrame m args 3 = entryFrame m ([.ref (xw_ad G 0), .int a1, .int a2] : List Value).toArray 3 from by rw [hargs], lg_entry_eq]
  generalize (lg_sl [.ref (xw_ad G 0), .int a1, .int a2] ++ List.replicate (3 - (lg_sl [.ref (xw_ad G 0), .int a1, .int a2]).length) Slot.unset).toArray = ls at hl ⊢
  have hP : va_P (xw_D G) xw_cl (xw_W G w0) s.heap := hP
  have hl : lv_has ls 3 [(0, .ref (xw_ad G 0)), (1, .int a1), (2, .int a2)] := hl
  have HH : ∀ (H : Heap) (locs : List Loc) (hP : va_P (xw_D G) xw_cl (xw_W G w0) H) (hS : va_S (xw_A G) s.heap H locs), xw_Wi G p l e (xw_rm (2) (44)) s m args below meth c H locs r0 wz (F0 m 0 ls []) := by
    intro H locs hP hS
    unfold fX7_plan at hf
    have J41 : ∀ (w : xw_M) (hf : fX7_plan_41 a1 a2 w = some (r0, wz)) (H : Heap) (locs : List Loc) (ls : Array Slot) (hP : va_P (xw_D G) xw_cl (xw_W G w) H) (hS : va_S (xw_A G) s.heap H locs) (hl : lv_has ls 3 [(0, .ref (xw_ad G 0)), (1, .int a1), (2, .int a2)]), xw_Wi G p l e (xw_rm (2) (44)) s m args below meth c H locs r0 wz (F0 m 41 ls []) := by
      intro w hf H locs ls hP hS hl
      unfold fX7_plan_41 at hf
      refine lv_aload_n hx hb dX7_plan_41 rfl (lv_at hl 0 rfl) ?_
      refine xw_get hB hK hP (xw_o7 G) (C := RX7) (T := TX7) (N := 11) rfl TBi_X7 0 (by decide) tw_255 rfl rfl dX7_plan_42 ?_
      refine xw_get hB hK hP (xw_o5 G (Or.inl rfl)) (C := RX5) (T := TX5) (N := 14) rfl TBi_X5 12 (by decide) tw_98 rfl rfl dX7_plan_45 ?_
      refine lv_iload_n hx hb dX7_plan_48 rfl (lv_at hl 1 rfl) ?_
      refine lv_iload_n hx hb dX7_plan_49 rfl (lv_at hl 2 rfl) ?_
      replace hf := xw_b_e hf
      obtain ⟨r12, w13, he14, hf⟩ := hf
      refine xw_Vi hB hK hE hS hP (As := [.int a1, .int a2]) (rest := []) (kX1_add l G hG (1 + 10) a1 a2 (xw_sc_10 (Or.inl rfl)) w _ _ he14) gs_X7_208 (xw_rc hK hP (C := RX1) (T := TX1) (N := 4) (xw_o1 G (xw_sc_10 (Or.inl rfl))) rfl) 2 hv_X1_add ⟨Nat.le_of_ble_eq_true rfl, Nat.le_of_ble_eq_true rfl⟩ rfl hl.1 (Nat.le_of_ble_eq_true rfl) rfl dX7_plan_50 ⟨Nat.zero_le _, Nat.zero_le _⟩ (fun H locs hP hS => ?_)
      obtain ⟨h0, h1⟩ := xw_s2 hf
      exact xw_iret hB hK hE hS hP hr hlk h0 h1 dX7_plan_53
    refine lv_iload_n hx hb dX7_plan_0 rfl (lv_at hl 1 rfl) ?_
    refine lv_iconst (v := (-1)) hx hb dX7_plan_1 (by decide) ?_
    refine lv_icmp_ne (tgt := 16) hx hb dX7_plan_2 (by decide) (fun c1 => ?_) (fun c1 => ?_)
    · replace hf := xw_in' c1 hf
      refine lv_iload_n hx hb dX7_plan_16 rfl (lv_at hl 1 rfl) ?_
      refine lv_iconst (v := 3) hx hb dX7_plan_17 (by decide) ?_
      replace hf := xw_bp_e hf
      obtain ⟨r2, he3, hf⟩ := hf
      refine xw_Si hB hK hE hS hP (As := [.int a1, .int (3 : Int32)]) (rest := []) (kX7_within l G hG a1 (3 : Int32) w0 _ he3) tw_293 tw_295 tw_294 tw_1 2 hs_X7_within ⟨Nat.le_of_ble_eq_true rfl, Nat.le_of_ble_eq_true rfl⟩ rfl hl.1 (Nat.le_of_ble_eq_true rfl) rfl dX7_plan_18 ⟨Nat.zero_le _, Nat.zero_le _⟩ (fun H locs hP hS => ?_)
      refine lv_if_eq (tgt := 39) hx hb dX7_plan_21 (by decide) (fun c4 => ?_) (fun c4 => ?_)
      · replace hf := xw_ip c4 hf
        refine lv_iconst (v := (-1)) hx hb dX7_plan_39 (by decide) ?_
        obtain ⟨h0, h1⟩ := xw_s2 hf
        exact xw_iret hB hK hE hS hP hr hlk h0 h1 dX7_plan_40
      · replace hf := xw_in' c4 hf
        refine lv_iload_n hx hb dX7_plan_24 rfl (lv_at hl 1 rfl) ?_
        refine lv_if_eq (tgt := 41) hx hb dX7_plan_25 (by decide) (fun c5 => ?_) (fun c5 => ?_)
        · replace hf := xw_ip c5 hf
          exact J41 w0 hf H locs ls hP hS (lv_sub hl [0, 1, 2] rfl)
        · replace hf := xw_in' c5 hf
          refine lv_aload_n hx hb dX7_plan_28 rfl (lv_at hl 0 rfl) ?_
          refine xw_get hB hK hP (xw_o7 G) (C := RX7) (T := TX7) (N := 11) rfl TBi_X7 0 (by decide) tw_255 rfl rfl dX7_plan_29 ?_
          refine lv_iload_n hx hb dX7_plan_32 rfl (lv_at hl 2 rfl) ?_
          replace hf := xw_bp_e hf
          obtain ⟨r6, he7, hf⟩ := hf
          refine xw_Vi hB hK hE hS hP (As := [.int a2]) (rest := []) (kX5_has l G hG 1 a2 (Or.inl rfl) w0 _ he7) gs_X7_77 (xw_rc hK hP (C := RX5) (T := TX5) (N := 14) (xw_o5 G (Or.inl rfl)) rfl) 1 hv_X5_has ⟨Nat.le_of_ble_eq_true rfl, Nat.le_of_ble_eq_true rfl⟩ rfl hl.1 (Nat.le_of_ble_eq_true rfl) rfl dX7_plan_33 ⟨Nat.zero_le _, Nat.zero_le _⟩ (fun H locs hP hS => ?_)
          refine lv_if_ne (tgt := 41) hx hb dX7_plan_36 (by decide) (fun c8 => ?_) (fun c8 => ?_)
          · replace hf := xw_in' c8 hf
            exact J41 w0 hf H locs ls hP hS (lv_sub hl [0, 1, 2] rfl)
          · replace hf := xw_ip c8 hf
            refine lv_iconst (v := (-1)) hx hb dX7_plan_39 (by decide) ?_
            obtain ⟨h0, h1⟩ := xw_s2 hf
            exact xw_iret hB hK hE hS hP hr hlk h0 h1 dX7_plan_40
    · replace hf := xw_ip c1 hf
      refine lv_aload_n hx hb dX7_plan_5 rfl (lv_at hl 0 rfl) ?_
      refine xw_get hB hK hP (xw_o7 G) (C := RX7) (T := TX7) (N := 11) rfl TBi_X7 0 (by decide) tw_255 rfl rfl dX7_plan_6 ?_
      refine xw_get hB hK hP (xw_o5 G (Or.inl rfl)) (C := RX5) (T := TX5) (N := 14) rfl TBi_X5 12 (by decide) tw_98 rfl rfl dX7_plan_9 ?_
      replace hf := xw_b_e hf
      obtain ⟨r9, w10, he11, hf⟩ := hf
      refine xw_Vi hB hK hE hS hP (As := []) (rest := []) (kX1_empty l G hG (1 + 10) (xw_sc_10 (Or.inl rfl)) w0 _ _ he11) gs_X7_203 (xw_rc hK hP (C := RX1) (T := TX1) (N := 4) (xw_o1 G (xw_sc_10 (Or.inl rfl))) rfl) 0 hv_X1_empty ⟨Nat.le_of_ble_eq_true rfl, Nat.le_of_ble_eq_true rfl⟩ rfl hl.1 (Nat.le_of_ble_eq_true rfl) rfl dX7_plan_12 ⟨Nat.zero_le _, Nat.zero_le _⟩ (fun H locs hP hS => ?_)
      obtain ⟨h0, h1⟩ := xw_s2 hf
      exact xw_iret hB hK hE hS hP hr hlk h0 h1 dX7_plan_15
  exact HH s.heap [] hP hS
def fX7_goStep (n : Nat) (a1 : Int32) (a2 : Int32) (w0 : xw_M) : Option (Unit × xw_M) := if a1 = 1 then xw_b (fX5_send 17 a2 (1 : Int32) w0) (fun (_ : Unit) w2 => some ((), w2)) else (if a1 = 2 then xw_b (fX5_send 17 a2 (0 : Int32) w0) (fun (_ : Unit) w6 => some ((), w6)) else (if a1 = 3 then xw_b (fX7_put (17 + 4) 6 a2 (0 : Int32) w0) (fun (_ : Unit) w10 => some ((), w10)) else (xw_bp (fX7_held w0) (fun r13 => xw_om r13 (none) (fun t15 => xw_cc (xw_pa t15) (xw_b (fX4_goDay n 17 t15 (2147483647 : Int32) w0) (fun r17 w18 => some ((), w18))))))))
set_option maxHeartbeats 4000000 in
set_option maxRecDepth 100000 in
theorem kX7_goStep (l : Launch) (G : xw_G) (hG : xw_ok G) (n : Nat) (a1 : Int32) (a2 : Int32) (w0 : xw_M) (r0 : Unit) (wz : xw_M) (hf : fX7_goStep n a1 a2 w0 = some (r0, wz)) : xw_Tv l G yX7_goStep cX7_goStep 3 ((Option.none : Option Jvm.ClassFile.FieldType)) (5) (169) [.ref (xw_ad G 0), .int a1, .int a2] w0 r0 wz := by
  unfold xw_Tv
  refine Met.ofW (cc := cX7_goStep) (maxL := 3) (ret := (Option.none : Option Jvm.ClassFile.FieldType)) (by decide) rfl ?_
  intro p e s m args below meth c s₁ B hml hv
  obtain ⟨hargs, hP, hK, hE⟩ := hv
  have hx := B.exec
  have hb := B.bytes
  have hr := B.returns
  have hlk := B.notSynchronized
  have hB : CallFix p m c cX7_goStep 3 s args TB RX7 := ⟨hx, hb, hml, findClass_of_methodNamed B.named, fun q h => (atoms_spec (ws := Cond.code yX7_goStep cX7_goStep 3 ((Option.none : Option Jvm.ClassFile.FieldType)) :: TB) B.pre) q (List.mem_cons_of_mem _ h)⟩
  have hS : va_S (xw_A G) s.heap s.heap [] := va_S.rf
  have hl := lv_entry [.ref (xw_ad G 0), .int a1, .int a2] (n := 3) (Nat.le_of_ble_eq_true rfl)
  rw [show entryFrame m args 3 = entryFrame m ([.ref (xw_ad G 0), .int a1, .int a2] : List Value).toArray 3 from by rw [hargs], lg_entry_eq]
  generalize (lg_sl [.ref (xw_ad G 0), .int a1, .int a2] ++ List.replicate (3 - (lg_sl [.ref (xw_ad G 0), .int a1, .int a2]).length) Slot.unset).toArray = ls at hl ⊢
  have hP : va_P (xw_D G) xw_cl (xw_W G w0) s.heap := hP
  have hl : lv_has ls 3 [(0, .ref (xw_ad G 0)), (1, .int a1), (2, .int a2)] := hl
  have HH : ∀ (H : Heap) (locs : List Loc) (hP : va_P (xw_D G) xw_cl (xw_W G w0) H) (hS : va_S (xw_A G) s.heap H locs), xw_Wv G p l e (xw_rm (5) (169)) s m args below meth c H locs r0 wz (F0 m 0 ls []) := by
    intro H locs hP hS
    unfold fX7_goStep at hf
    refine lv_iload_n hx hb dX7_goStep_0 rfl (lv_at hl 1 rfl) ?_
    by_cases c4 : a1 = 1
    · refine lv_tableIn (off := 27) (tgt := 28) hx hb dX7_goStep_1 (by rw [c4]; decide) (by rw [c4]; decide) (by rw [c4]; rfl) (by decide) ?_
      replace hf := xw_ip c4 hf
      refine lv_aload_n hx hb dX7_goStep_28 rfl (lv_at hl 0 rfl) ?_
      refine xw_get hB hK hP (xw_o7 G) (C := RX7) (T := TX7) (N := 11) rfl TBi_X7 1 (by decide) tw_256 rfl rfl dX7_goStep_29 ?_
      refine lv_iload_n hx hb dX7_goStep_32 rfl (lv_at hl 2 rfl) ?_
      refine lv_iconst (v := 1) hx hb dX7_goStep_33 (by decide) ?_
      replace hf := xw_b_e hf
      obtain ⟨r1, w2, he3, hf⟩ := hf
      refine xw_Vv hB hK hE hS hP (As := [.int a2, .int (1 : Int32)]) (rest := []) (kX5_send l G hG 17 a2 (1 : Int32) (Or.inr (Or.inl rfl)) w0 _ _ he3) gs_X7_141 (xw_rc hK hP (C := RX5) (T := TX5) (N := 14) (xw_o5 G (Or.inr (Or.inl rfl))) rfl) 2 hv_X5_send ⟨Nat.le_of_ble_eq_true rfl, Nat.le_of_ble_eq_true rfl⟩ rfl hl.1 (Nat.le_of_ble_eq_true rfl) rfl dX7_goStep_34 ⟨Nat.zero_le _, Nat.zero_le _⟩ (fun H locs hP hS => ?_)
      refine lv_goto (tgt := 85) hx hb dX7_goStep_37 (by decide) ?_
      obtain ⟨h0, h1⟩ := xw_s2 hf
      exact xw_vret hB hK hE hS hP hr hlk h1 dX7_goStep_85
    · replace hf := xw_in' c4 hf
      by_cases c8 : a1 = 2
      · refine lv_tableIn (off := 39) (tgt := 40) hx hb dX7_goStep_1 (by rw [c8]; decide) (by rw [c8]; decide) (by rw [c8]; rfl) (by decide) ?_
        replace hf := xw_ip c8 hf
        refine lv_aload_n hx hb dX7_goStep_40 rfl (lv_at hl 0 rfl) ?_
        refine xw_get hB hK hP (xw_o7 G) (C := RX7) (T := TX7) (N := 11) rfl TBi_X7 1 (by decide) tw_256 rfl rfl dX7_goStep_41 ?_
        refine lv_iload_n hx hb dX7_goStep_44 rfl (lv_at hl 2 rfl) ?_
        refine lv_iconst (v := 0) hx hb dX7_goStep_45 (by decide) ?_
        replace hf := xw_b_e hf
        obtain ⟨r5, w6, he7, hf⟩ := hf
        refine xw_Vv hB hK hE hS hP (As := [.int a2, .int (0 : Int32)]) (rest := []) (kX5_send l G hG 17 a2 (0 : Int32) (Or.inr (Or.inl rfl)) w0 _ _ he7) gs_X7_141 (xw_rc hK hP (C := RX5) (T := TX5) (N := 14) (xw_o5 G (Or.inr (Or.inl rfl))) rfl) 2 hv_X5_send ⟨Nat.le_of_ble_eq_true rfl, Nat.le_of_ble_eq_true rfl⟩ rfl hl.1 (Nat.le_of_ble_eq_true rfl) rfl dX7_goStep_46 ⟨Nat.zero_le _, Nat.zero_le _⟩ (fun H locs hP hS => ?_)
        refine lv_goto (tgt := 85) hx hb dX7_goStep_49 (by decide) ?_
        obtain ⟨h0, h1⟩ := xw_s2 hf
        exact xw_vret hB hK hE hS hP hr hlk h1 dX7_goStep_85
      · replace hf := xw_in' c8 hf
        by_cases c12 : a1 = 3
        · refine lv_tableIn (off := 51) (tgt := 52) hx hb dX7_goStep_1 (by rw [c12]; decide) (by rw [c12]; decide) (by rw [c12]; rfl) (by decide) ?_
          replace hf := xw_ip c12 hf
          refine lv_aload_n hx hb dX7_goStep_52 rfl (lv_at hl 0 rfl) ?_
          refine xw_get hB hK hP (xw_o7 G) (C := RX7) (T := TX7) (N := 11) rfl TBi_X7 1 (by decide) tw_256 rfl rfl dX7_goStep_53 ?_
          refine xw_get hB hK hP (xw_o5 G (Or.inr (Or.inl rfl))) (C := RX5) (T := TX5) (N := 14) rfl TBi_X5 4 (by decide) tw_75 rfl rfl dX7_goStep_56 ?_
          refine lv_iload_n hx hb dX7_goStep_59 rfl (lv_at hl 2 rfl) ?_
          refine lv_iconst (v := 0) hx hb dX7_goStep_60 (by decide) ?_
          replace hf := xw_b_e hf
          obtain ⟨r9, w10, he11, hf⟩ := hf
          refine xw_Sv hB hK hE hS hP (As := [.ref (xw_ad G (17 + 4)), .int a2, .int (0 : Int32)]) (rest := []) (kX7_put l G hG (17 + 4) 6 a2 (0 : Int32) (xw_a5_4 G (Or.inr (Or.inl rfl))) w0 _ _ he11) tw_379 tw_302 tw_301 tw_1 3 hs_X7_put ⟨Nat.le_of_ble_eq_true rfl, Nat.le_of_ble_eq_true rfl⟩ rfl hl.1 (Nat.le_of_ble_eq_true rfl) rfl dX7_goStep_61 ⟨Nat.zero_le _, Nat.zero_le _⟩ (fun H locs hP hS => ?_)
          refine lv_goto (tgt := 85) hx hb dX7_goStep_64 (by decide) ?_
          obtain ⟨h0, h1⟩ := xw_s2 hf
          exact xw_vret hB hK hE hS hP hr hlk h1 dX7_goStep_85
        · replace hf := xw_in' c12 hf
          refine lv_tableOut (tgt := 67) hx hb dX7_goStep_1 (by have n0 := lv_neT c4 (by decide : (1 : Int32).toInt = 1); have n1 := lv_neT c8 (by decide : (2 : Int32).toInt = 2); have n2 := lv_neT c12 (by decide : (3 : Int32).toInt = 3); omega) (by decide) ?_
          refine lv_aload_n hx hb dX7_goStep_67 rfl (lv_at hl 0 rfl) ?_
          refine xw_get hB hK hP (xw_o7 G) (C := RX7) (T := TX7) (N := 11) rfl TBi_X7 8 (by decide) tw_263 rfl rfl dX7_goStep_68 ?_
          refine lv_aload_n hx hb dX7_goStep_71 rfl (lv_at hl 0 rfl) ?_
          refine xw_get hB hK hP (xw_o7 G) (C := RX7) (T := TX7) (N := 11) rfl TBi_X7 1 (by decide) tw_256 rfl rfl dX7_goStep_72 ?_
          refine lv_aload_n hx hb dX7_goStep_75 rfl (lv_at hl 0 rfl) ?_
          replace hf := xw_bp_e hf
          obtain ⟨r13, he14, hf⟩ := hf
          refine xw_Vq hB hK hE hS hP (As := []) (rest := [.ref (xw_ad G 17), .ref (xw_ad G 64)]) (kX7_held l G hG w0 _ he14) gs_X7_108 (xw_rc hK hP (C := RX7) (T := TX7) (N := 11) (xw_o7 G) rfl) 0 hv_X7_held ⟨Nat.le_of_ble_eq_true rfl, Nat.le_of_ble_eq_true rfl⟩ rfl hl.1 (Nat.le_of_ble_eq_true rfl) rfl dX7_goStep_76 ⟨Nat.zero_le _, Nat.zero_le _⟩ (fun H locs hP hS => ?_)
          cases r13 with
          | none =>
            replace hf := xw_om_n hf
            refine lv_ldc (v := (2147483647)) hx hb hB.2.2.2.1 (hB.2.2.2.2 _ tw_533) dX7_goStep_79 ?_
            cases hf
          | some t15 =>
            replace hf := xw_om_s hf
            replace hf := xw_cc_e hf
            obtain ⟨ht16, hf⟩ := hf
            refine lv_ldc (v := (2147483647)) hx hb hB.2.2.2.1 (hB.2.2.2.2 _ tw_533) dX7_goStep_79 ?_
            replace hf := xw_b_e hf
            obtain ⟨r17, w18, he19, hf⟩ := hf
            refine xw_Vi hB hK hE hS hP (As := [.ref (xw_ad G 17), .ref (xw_ad G t15), .int (2147483647 : Int32)]) (rest := []) (kX4_goDay l G hG n 17 t15 (2147483647 : Int32) (Or.inr (Or.inl rfl)) ht16 w0 _ _ he19) gs_X7_187 (xw_rc hK hP (C := RX4) (T := TX4) (N := 3) (xw_o4 G) rfl) 3 hv_X4_goDay ⟨Nat.le_of_ble_eq_true rfl, Nat.le_of_ble_eq_true rfl⟩ rfl hl.1 (Nat.le_of_ble_eq_true rfl) rfl dX7_goStep_81 ⟨Nat.zero_le _, Nat.zero_le _⟩ (fun H locs hP hS => ?_)
            refine lv_pop hx hb dX7_goStep_84 rfl ?_
            obtain ⟨h0, h1⟩ := xw_s2 hf
            exact xw_vret hB hK hE hS hP hr hlk h1 dX7_goStep_85
  exact HH s.heap [] hP hS
def fX7_ends_124 (n : Nat) (a1 : Int32) (x2 : Int32) (w : xw_M) : Option (Int32 × xw_M) := some (x2, w)
def fX7_ends_112 (n : Nat) (a1 : Int32) (x3 : Int32) (v0 : Int32) (v1 : Nat) (w : xw_M) : Option ((Int32 × Int32) ⊕ (Int32)) := xw_bp (fX7_at v1 6 x3 w) (fun r18 => xw_lt (v0 + r18) (fun x2_20 => xw_lt (x3 + 1) (fun x3_21 => some (.inl (x2_20, x3_21)))))
def fX7_ends_b79 (n : Nat) (a1 : Int32) (x2 : Int32) (x3 : Int32) (w : xw_M) : Option ((Int32 × Int32) ⊕ (Int32)) := if (w.1 17 0) ≤ x3 then some (.inr x2) else if a1 = 0 then fX7_ends_112 n a1 x3 x2 (17 + 5) w else fX7_ends_112 n a1 x3 x2 (17 + 4) w
def fX7_ends_79 (n : Nat) (a1 : Int32) (x2 : Int32) (x3 : Int32) (w : xw_M) : Option (Int32 × xw_M) := xw_bp (xw_it (fun z => fX7_ends_b79 n a1 z.1 z.2 w) n (x2, x3)) (fun z => (fun (x2 : Int32) => fX7_ends_124 n a1 x2 w) z)
def fX7_ends_75 (n : Nat) (a1 : Int32) (w : xw_M) : Option (Int32 × xw_M) := fX7_ends_79 n a1 (0 : Int32) (0 : Int32) w
def fX7_ends_b23 (n : Nat) (a1 : Int32) (x2 : Int32) (w : xw_M) : Option ((Int32 × xw_M) ⊕ (xw_M)) := if (w.1 (1 + 10) 3) ≤ x2 then some (.inr w) else xw_bp (fX7_at ((1 + 10) + 1) 8 x2 w) (fun r8 => xw_bp (fX7_at ((1 + 10) + 2) 8 x2 w) (fun r10 => xw_b (fX7_goStep n r8 r10 w) (fun (_ : Unit) w13 => xw_lt (x2 + 1) (fun x2_15 => some (.inl (x2_15, w13))))))
def fX7_ends_23 (n : Nat) (a1 : Int32) (x2 : Int32) (w : xw_M) : Option (Int32 × xw_M) := xw_bp (xw_it (fun z => fX7_ends_b23 n a1 z.1 z.2) n (x2, w)) (fun z => (fun (w : xw_M) => fX7_ends_75 n a1 w) z)
def fX7_ends (n : Nat) (a1 : Int32) (w0 : xw_M) : Option (Int32 × xw_M) := xw_bp (fX7_within a1 (1 : Int32)) (fun r1 => if r1 = 0 then some ((-1 : Int32), w0) else xw_b (fX5_takeAfter 17 1 w0) (fun (_ : Unit) w5 => fX7_ends_23 n a1 (0 : Int32) w5))
set_option maxHeartbeats 4000000 in
set_option maxRecDepth 100000 in
theorem kX7_ends (l : Launch) (G : xw_G) (hG : xw_ok G) (n : Nat) (a1 : Int32) (w0 : xw_M) (r0 : Int32) (wz : xw_M) (hf : fX7_ends n a1 w0 = some (r0, wz)) : xw_Ti l G yX7_ends cX7_ends 4 ((Option.some Jvm.ClassFile.FieldType.int)) (6) (191) [.ref (xw_ad G 0), .int a1] w0 r0 wz := by
  unfold xw_Ti
  refine Met.ofW (cc := cX7_ends) (maxL := 4) (ret := (Option.some Jvm.ClassFile.FieldType.int)) (by decide) rfl ?_
  intro p e s m args below meth c s₁ B hml hv
  obtain ⟨hargs, hP, hK, hE⟩ := hv
  have hx := B.exec
  have hb := B.bytes
  have hr := B.returns
  have hlk := B.notSynchronized
  have hB : CallFix p m c cX7_ends 4 s args TB RX7 := ⟨hx, hb, hml, findClass_of_methodNamed B.named, fun q h => (atoms_spec (ws := Cond.code yX7_ends cX7_ends 4 ((Option.some Jvm.ClassFile.FieldType.int)) :: TB) B.pre) q (List.mem_cons_of_mem _ h)⟩
  have hS : va_S (xw_A G) s.heap s.heap [] := va_S.rf
  have hl := lv_entry [.ref (xw_ad G 0), .int a1] (n := 4) (Nat.le_of_ble_eq_true rfl)
  rw [show entryFrame m args 4 = entryFrame m ([.ref (xw_ad G 0), .int a1] : List Value).toArray 4 from by rw [hargs], lg_entry_eq]
  generalize (lg_sl [.ref (xw_ad G 0), .int a1] ++ List.replicate (4 - (lg_sl [.ref (xw_ad G 0), .int a1]).length) Slot.unset).toArray = ls at hl ⊢
  have hP : va_P (xw_D G) xw_cl (xw_W G w0) s.heap := hP
  have hl : lv_has ls 4 [(0, .ref (xw_ad G 0)), (1, .int a1)] := hl
  have HH : ∀ (H : Heap) (locs : List Loc) (hP : va_P (xw_D G) xw_cl (xw_W G w0) H) (hS : va_S (xw_A G) s.heap H locs), xw_Wi G p l e (xw_rm (6) (191)) s m args below meth c H locs r0 wz (F0 m 0 ls []) := by
    intro H locs hP hS
    unfold fX7_ends at hf
    have J124 : ∀ (x2 : Int32) (w : xw_M) (hf : fX7_ends_124 n a1 x2 w = some (r0, wz)) (H : Heap) (locs : List Loc) (ls : Array Slot) (hP : va_P (xw_D G) xw_cl (xw_W G w) H) (hS : va_S (xw_A G) s.heap H locs) (hl : lv_has ls 4 [(2, .int x2)]), xw_Wi G p l e (xw_rm (6) (191)) s m args below meth c H locs r0 wz (F0 m 124 ls []) := by
      intro x2 w hf H locs ls hP hS hl
      unfold fX7_ends_124 at hf
      refine lv_iload_n hx hb dX7_ends_124 rfl (lv_at hl 0 rfl) ?_
      obtain ⟨h0, h1⟩ := xw_s2 hf
      exact xw_iret hB hK hE hS hP hr hlk h0 h1 dX7_ends_125
    have J79 : ∀ (x2 : Int32) (x3 : Int32) (w : xw_M) (hf : fX7_ends_79 n a1 x2 x3 w = some (r0, wz)) (H : Heap) (locs : List Loc) (ls : Array Slot) (hP : va_P (xw_D G) xw_cl (xw_W G w) H) (hS : va_S (xw_A G) s.heap H locs) (hl : lv_has ls 4 [(0, .ref (xw_ad G 0)), (1, .int a1), (2, .int x2), (3, .int x3)]), xw_Wi G p l e (xw_rm (6) (191)) s m args below meth c H locs r0 wz (F0 m 79 ls []) := by
      intro x2 x3 w hf H locs ls hP hS hl
      unfold fX7_ends_79 at hf
      replace hf := xw_bp_e hf
      obtain ⟨bb79, hit79, hfx79⟩ := hf
      have XX79 : ∀ (x2 : Int32) (hf : fX7_ends_124 n a1 x2 w = some (r0, wz)) (H : Heap) (locs : List Loc) (ls : Array Slot) (hP : va_P (xw_D G) xw_cl (xw_W G w) H) (hS : va_S (xw_A G) s.heap H locs) (hl : lv_has ls 4 [(2, .int x2)]), xw_Wi G p l e (xw_rm (6) (191)) s m args below meth c H locs r0 wz (F0 m 124 ls []) := by
        intro x2 hf H locs ls hP hS hl
        exact J124 x2 w hf H locs ls hP hS (lv_sub hl [0] rfl)
      have LL79 : ∀ (nn : Nat) (x2 : Int32) (x3 : Int32) (hit : xw_it (fun z => fX7_ends_b79 n a1 z.1 z.2 w) nn (x2, x3) = some bb79) (H : Heap) (locs : List Loc) (ls : Array Slot) (hP : va_P (xw_D G) xw_cl (xw_W G w) H) (hS : va_S (xw_A G) s.heap H locs) (hl : lv_has ls 4 [(0, .ref (xw_ad G 0)), (1, .int a1), (2, .int x2), (3, .int x3)]), xw_Wi G p l e (xw_rm (6) (191)) s m args below meth c H locs r0 wz (F0 m 79 ls []) := by
        intro nn
        induction nn with
        | zero => intro x2 x3 hit; exact (xw_it_0 hit).elim
        | succ nn ih79 =>
          intro x2 x3 hit H locs ls hP hS hl
          replace hit := xw_it_e hit
          obtain ⟨wv79, hf, hC79, hX79⟩ := hit
          replace hf : fX7_ends_b79 n a1 x2 x3 w = some wv79 := hf
          unfold fX7_ends_b79 at hf
          have J112 : ∀ (x3 : Int32) (v0 : Int32) (v1 : Nat) (hv1 : xw_ia G 0 v1 6) (hf : fX7_ends_112 n a1 x3 v0 v1 w = some wv79) (H : Heap) (locs : List Loc) (ls : Array Slot) (hP : va_P (xw_D G) xw_cl (xw_W G w) H) (hS : va_S (xw_A G) s.heap H locs) (hl : lv_has ls 4 [(0, .ref (xw_ad G 0)), (1, .int a1), (3, .int x3)]), xw_Wi G p l e (xw_rm (6) (191)) s m args below meth c H locs r0 wz (F0 m 112 ls [.ref (xw_ad G v1), .int v0]) := by
            intro x3 v0 v1 hv1 hf H locs ls hP hS hl
            unfold fX7_ends_112 at hf
            refine lv_iload_n hx hb dX7_ends_112 rfl (lv_at hl 2 rfl) ?_
            replace hf := xw_bp_e hf
            obtain ⟨r18, he19, hf⟩ := hf
            refine xw_Si hB hK hE hS hP (As := [.ref (xw_ad G v1), .int x3]) (rest := [.int v0]) (kX7_at l G hG v1 6 x3 hv1 w _ he19) tw_311 tw_313 tw_312 tw_1 2 hs_X7_at ⟨Nat.le_of_ble_eq_true rfl, Nat.le_of_ble_eq_true rfl⟩ rfl hl.1 (Nat.le_of_ble_eq_true rfl) rfl dX7_ends_113 ⟨Nat.zero_le _, Nat.zero_le _⟩ (fun H locs hP hS => ?_)
            refine lv_iadd hx hb dX7_ends_116 ?_
            refine lv_topi (fun x2_20 ex2_20 => ?_)
            replace hf := xw_lt_e ex2_20 hf
            refine lv_istore_n (lv' := [(2, .int x2_20), (0, .ref (xw_ad G 0)), (1, .int a1), (3, .int x3)]) hx hb dX7_ends_117 rfl hl (by decide) rfl (fun ls hl => ?_)
            obtain ⟨x3_21, ex3_21⟩ : ∃ y : Int32, y = x3 + 1 := ⟨_, rfl⟩
            replace hf := xw_lt_e ex3_21 hf
            refine lv_iinc (v := x3_21) (lv' := [(3, .int x3_21), (2, .int x2_20), (0, .ref (xw_ad G 0)), (1, .int a1)]) hx hb dX7_ends_118 hl (k := 3) rfl (by rw [ex3_21]; rfl) (by decide) rfl (fun ls hl => ?_)
            refine lv_goto (tgt := 79) hx hb dX7_ends_121 (by decide) ?_
            have hi := hC79 _ (xw_so hf).symm
            exact ih79 x2_20 x3_21 hi H locs ls hP hS (lv_sub hl [2, 3, 1, 0] rfl)
          refine lv_iload_n hx hb dX7_ends_79 rfl (lv_at hl 3 rfl) ?_
          refine lv_aload_n hx hb dX7_ends_80 rfl (lv_at hl 0 rfl) ?_
          refine xw_get hB hK hP (xw_o7 G) (C := RX7) (T := TX7) (N := 11) rfl TBi_X7 1 (by decide) tw_256 rfl rfl dX7_ends_81 ?_
          refine xw_get hB hK hP (xw_o5 G (Or.inr (Or.inl rfl))) (C := RX5) (T := TX5) (N := 14) rfl TBi_X5 0 (by decide) tw_62 rfl rfl dX7_ends_84 ?_
          refine lv_icmp_ge (tgt := 124) hx hb dX7_ends_87 (by decide) (fun c16 => ?_) (fun c16 => ?_)
          · replace hf := xw_ip c16 hf
            have he79 := hX79 _ (xw_so hf).symm
            rw [← he79] at hfx79
            exact XX79 x2 hfx79 H locs ls hP hS (lv_sub hl [2] rfl)
          · replace hf := xw_in' c16 hf
            refine lv_iload_n hx hb dX7_ends_90 rfl (lv_at hl 2 rfl) ?_
            refine lv_iload_n hx hb dX7_ends_91 rfl (lv_at hl 1 rfl) ?_
            refine lv_if_ne (tgt := 105) hx hb dX7_ends_92 (by decide) (fun c17 => ?_) (fun c17 => ?_)
            · replace hf := xw_in' c17 hf
              refine lv_aload_n hx hb dX7_ends_105 rfl (lv_at hl 0 rfl) ?_
              refine xw_get hB hK hP (xw_o7 G) (C := RX7) (T := TX7) (N := 11) rfl TBi_X7 1 (by decide) tw_256 rfl rfl dX7_ends_106 ?_
              refine xw_get hB hK hP (xw_o5 G (Or.inr (Or.inl rfl))) (C := RX5) (T := TX5) (N := 14) rfl TBi_X5 4 (by decide) tw_75 rfl rfl dX7_ends_109 ?_
              exact J112 x3 x2 (17 + 4) (xw_a5_4 G (Or.inr (Or.inl rfl))) hf H locs ls hP hS (lv_sub hl [0, 1, 3] rfl)
            · replace hf := xw_ip c17 hf
              refine lv_aload_n hx hb dX7_ends_95 rfl (lv_at hl 0 rfl) ?_
              refine xw_get hB hK hP (xw_o7 G) (C := RX7) (T := TX7) (N := 11) rfl TBi_X7 1 (by decide) tw_256 rfl rfl dX7_ends_96 ?_
              refine xw_get hB hK hP (xw_o5 G (Or.inr (Or.inl rfl))) (C := RX5) (T := TX5) (N := 14) rfl TBi_X5 5 (by decide) tw_78 rfl rfl dX7_ends_99 ?_
              refine lv_goto (tgt := 112) hx hb dX7_ends_102 (by decide) ?_
              exact J112 x3 x2 (17 + 5) (xw_a5_5 G (Or.inr (Or.inl rfl))) hf H locs ls hP hS (lv_sub hl [0, 1, 3] rfl)
      exact LL79 n x2 x3 hit79 H locs ls hP hS hl
    have J75 : ∀ (w : xw_M) (hf : fX7_ends_75 n a1 w = some (r0, wz)) (H : Heap) (locs : List Loc) (ls : Array Slot) (hP : va_P (xw_D G) xw_cl (xw_W G w) H) (hS : va_S (xw_A G) s.heap H locs) (hl : lv_has ls 4 [(0, .ref (xw_ad G 0)), (1, .int a1)]), xw_Wi G p l e (xw_rm (6) (191)) s m args below meth c H locs r0 wz (F0 m 75 ls []) := by
      intro w hf H locs ls hP hS hl
      unfold fX7_ends_75 at hf
      refine lv_iconst (v := 0) hx hb dX7_ends_75 (by decide) ?_
      refine lv_istore_n (lv' := [(2, .int (0 : Int32)), (0, .ref (xw_ad G 0)), (1, .int a1)]) hx hb dX7_ends_76 rfl hl (by decide) rfl (fun ls hl => ?_)
      refine lv_iconst (v := 0) hx hb dX7_ends_77 (by decide) ?_
      refine lv_istore_n (lv' := [(3, .int (0 : Int32)), (2, .int (0 : Int32)), (0, .ref (xw_ad G 0)), (1, .int a1)]) hx hb dX7_ends_78 rfl hl (by decide) rfl (fun ls hl => ?_)
      exact J79 (0 : Int32) (0 : Int32) w hf H locs ls hP hS (lv_sub hl [2, 3, 1, 0] rfl)
    have J23 : ∀ (x2 : Int32) (w : xw_M) (hf : fX7_ends_23 n a1 x2 w = some (r0, wz)) (H : Heap) (locs : List Loc) (ls : Array Slot) (hP : va_P (xw_D G) xw_cl (xw_W G w) H) (hS : va_S (xw_A G) s.heap H locs) (hl : lv_has ls 4 [(0, .ref (xw_ad G 0)), (1, .int a1), (2, .int x2)]), xw_Wi G p l e (xw_rm (6) (191)) s m args below meth c H locs r0 wz (F0 m 23 ls []) := by
      intro x2 w hf H locs ls hP hS hl
      unfold fX7_ends_23 at hf
      replace hf := xw_bp_e hf
      obtain ⟨bb23, hit23, hfx23⟩ := hf
      have XX23 : ∀ (w : xw_M) (hf : fX7_ends_75 n a1 w = some (r0, wz)) (H : Heap) (locs : List Loc) (ls : Array Slot) (hP : va_P (xw_D G) xw_cl (xw_W G w) H) (hS : va_S (xw_A G) s.heap H locs) (hl : lv_has ls 4 [(0, .ref (xw_ad G 0)), (1, .int a1)]), xw_Wi G p l e (xw_rm (6) (191)) s m args below meth c H locs r0 wz (F0 m 75 ls []) := by
        intro w hf H locs ls hP hS hl
        exact J75 w hf H locs ls hP hS (lv_sub hl [0, 1] rfl)
      have LL23 : ∀ (nn : Nat) (x2 : Int32) (w : xw_M) (hit : xw_it (fun z => fX7_ends_b23 n a1 z.1 z.2) nn (x2, w) = some bb23) (H : Heap) (locs : List Loc) (ls : Array Slot) (hP : va_P (xw_D G) xw_cl (xw_W G w) H) (hS : va_S (xw_A G) s.heap H locs) (hl : lv_has ls 4 [(0, .ref (xw_ad G 0)), (1, .int a1), (2, .int x2)]), xw_Wi G p l e (xw_rm (6) (191)) s m args below meth c H locs r0 wz (F0 m 23 ls []) := by
        intro nn
        induction nn with
        | zero => intro x2 w hit; exact (xw_it_0 hit).elim
        | succ nn ih23 =>
          intro x2 w hit H locs ls hP hS hl
          replace hit := xw_it_e hit
          obtain ⟨wv23, hf, hC23, hX23⟩ := hit
          replace hf : fX7_ends_b23 n a1 x2 w = some wv23 := hf
          unfold fX7_ends_b23 at hf
          refine lv_iload_n hx hb dX7_ends_23 rfl (lv_at hl 2 rfl) ?_
          refine lv_aload_n hx hb dX7_ends_24 rfl (lv_at hl 0 rfl) ?_
          refine xw_get hB hK hP (xw_o7 G) (C := RX7) (T := TX7) (N := 11) rfl TBi_X7 0 (by decide) tw_255 rfl rfl dX7_ends_25 ?_
          refine xw_get hB hK hP (xw_o5 G (Or.inl rfl)) (C := RX5) (T := TX5) (N := 14) rfl TBi_X5 12 (by decide) tw_98 rfl rfl dX7_ends_28 ?_
          refine xw_get hB hK hP (xw_o1 G (xw_sc_10 (Or.inl rfl))) (C := RX1) (T := TX1) (N := 4) rfl TBi_X1 3 (by decide) tw_49 rfl rfl dX7_ends_31 ?_
          refine lv_icmp_ge (tgt := 75) hx hb dX7_ends_34 (by decide) (fun c7 => ?_) (fun c7 => ?_)
          · replace hf := xw_ip c7 hf
            have he23 := hX23 _ (xw_so hf).symm
            rw [← he23] at hfx23
            exact XX23 w hfx23 H locs ls hP hS (lv_sub hl [0, 1] rfl)
          · replace hf := xw_in' c7 hf
            refine lv_aload_n hx hb dX7_ends_37 rfl (lv_at hl 0 rfl) ?_
            refine lv_aload_n hx hb dX7_ends_38 rfl (lv_at hl 0 rfl) ?_
            refine xw_get hB hK hP (xw_o7 G) (C := RX7) (T := TX7) (N := 11) rfl TBi_X7 0 (by decide) tw_255 rfl rfl dX7_ends_39 ?_
            refine xw_get hB hK hP (xw_o5 G (Or.inl rfl)) (C := RX5) (T := TX5) (N := 14) rfl TBi_X5 12 (by decide) tw_98 rfl rfl dX7_ends_42 ?_
            refine xw_get hB hK hP (xw_o1 G (xw_sc_10 (Or.inl rfl))) (C := RX1) (T := TX1) (N := 4) rfl TBi_X1 1 (by decide) tw_43 rfl rfl dX7_ends_45 ?_
            refine lv_iload_n hx hb dX7_ends_48 rfl (lv_at hl 2 rfl) ?_
            replace hf := xw_bp_e hf
            obtain ⟨r8, he9, hf⟩ := hf
            refine xw_Si hB hK hE hS hP (As := [.ref (xw_ad G ((1 + 10) + 1)), .int x2]) (rest := [.ref (xw_ad G 0)]) (kX7_at l G hG ((1 + 10) + 1) 8 x2 (xw_a1_1 G (xw_sc_10 (Or.inl rfl))) w _ he9) tw_311 tw_313 tw_312 tw_1 2 hs_X7_at ⟨Nat.le_of_ble_eq_true rfl, Nat.le_of_ble_eq_true rfl⟩ rfl hl.1 (Nat.le_of_ble_eq_true rfl) rfl dX7_ends_49 ⟨Nat.zero_le _, Nat.zero_le _⟩ (fun H locs hP hS => ?_)
            refine lv_aload_n hx hb dX7_ends_52 rfl (lv_at hl 0 rfl) ?_
            refine xw_get hB hK hP (xw_o7 G) (C := RX7) (T := TX7) (N := 11) rfl TBi_X7 0 (by decide) tw_255 rfl rfl dX7_ends_53 ?_
            refine xw_get hB hK hP (xw_o5 G (Or.inl rfl)) (C := RX5) (T := TX5) (N := 14) rfl TBi_X5 12 (by decide) tw_98 rfl rfl dX7_ends_56 ?_
            refine xw_get hB hK hP (xw_o1 G (xw_sc_10 (Or.inl rfl))) (C := RX1) (T := TX1) (N := 4) rfl TBi_X1 2 (by decide) tw_46 rfl rfl dX7_ends_59 ?_
            refine lv_iload_n hx hb dX7_ends_62 rfl (lv_at hl 2 rfl) ?_
            replace hf := xw_bp_e hf
            obtain ⟨r10, he11, hf⟩ := hf
            refine xw_Si hB hK hE hS hP (As := [.ref (xw_ad G ((1 + 10) + 2)), .int x2]) (rest := [.int r8, .ref (xw_ad G 0)]) (kX7_at l G hG ((1 + 10) + 2) 8 x2 (xw_a1_2 G (xw_sc_10 (Or.inl rfl))) w _ he11) tw_311 tw_313 tw_312 tw_1 2 hs_X7_at ⟨Nat.le_of_ble_eq_true rfl, Nat.le_of_ble_eq_true rfl⟩ rfl hl.1 (Nat.le_of_ble_eq_true rfl) rfl dX7_ends_63 ⟨Nat.zero_le _, Nat.zero_le _⟩ (fun H locs hP hS => ?_)
            replace hf := xw_b_e hf
            obtain ⟨r12, w13, he14, hf⟩ := hf
            refine xw_Vv hB hK hE hS hP (As := [.int r8, .int r10]) (rest := []) (kX7_goStep l G hG n r8 r10 w _ _ he14) gs_X7_230 (xw_rc hK hP (C := RX7) (T := TX7) (N := 11) (xw_o7 G) rfl) 2 hv_X7_goStep ⟨Nat.le_of_ble_eq_true rfl, Nat.le_of_ble_eq_true rfl⟩ rfl hl.1 (Nat.le_of_ble_eq_true rfl) rfl dX7_ends_66 ⟨Nat.zero_le _, Nat.zero_le _⟩ (fun H locs hP hS => ?_)
            obtain ⟨x2_15, ex2_15⟩ : ∃ y : Int32, y = x2 + 1 := ⟨_, rfl⟩
            replace hf := xw_lt_e ex2_15 hf
            refine lv_iinc (v := x2_15) (lv' := [(2, .int x2_15), (0, .ref (xw_ad G 0)), (1, .int a1)]) hx hb dX7_ends_69 hl (k := 2) rfl (by rw [ex2_15]; rfl) (by decide) rfl (fun ls hl => ?_)
            refine lv_goto (tgt := 23) hx hb dX7_ends_72 (by decide) ?_
            have hi := hC23 _ (xw_so hf).symm
            exact ih23 x2_15 w13 hi H locs ls hP hS (lv_sub hl [1, 2, 0] rfl)
      exact LL23 n x2 w hit23 H locs ls hP hS hl
    refine lv_iload_n hx hb dX7_ends_0 rfl (lv_at hl 1 rfl) ?_
    refine lv_iconst (v := 1) hx hb dX7_ends_1 (by decide) ?_
    replace hf := xw_bp_e hf
    obtain ⟨r1, he2, hf⟩ := hf
    refine xw_Si hB hK hE hS hP (As := [.int a1, .int (1 : Int32)]) (rest := []) (kX7_within l G hG a1 (1 : Int32) w0 _ he2) tw_293 tw_295 tw_294 tw_1 2 hs_X7_within ⟨Nat.le_of_ble_eq_true rfl, Nat.le_of_ble_eq_true rfl⟩ rfl hl.1 (Nat.le_of_ble_eq_true rfl) rfl dX7_ends_2 ⟨Nat.zero_le _, Nat.zero_le _⟩ (fun H locs hP hS => ?_)
    refine lv_if_ne (tgt := 10) hx hb dX7_ends_5 (by decide) (fun c3 => ?_) (fun c3 => ?_)
    · replace hf := xw_in' c3 hf
      refine lv_aload_n hx hb dX7_ends_10 rfl (lv_at hl 0 rfl) ?_
      refine xw_get hB hK hP (xw_o7 G) (C := RX7) (T := TX7) (N := 11) rfl TBi_X7 1 (by decide) tw_256 rfl rfl dX7_ends_11 ?_
      refine lv_aload_n hx hb dX7_ends_14 rfl (lv_at hl 0 rfl) ?_
      refine xw_get hB hK hP (xw_o7 G) (C := RX7) (T := TX7) (N := 11) rfl TBi_X7 0 (by decide) tw_255 rfl rfl dX7_ends_15 ?_
      replace hf := xw_b_e hf
      obtain ⟨r4, w5, he6, hf⟩ := hf
      refine xw_Vv hB hK hE hS hP (As := [.ref (xw_ad G 1)]) (rest := []) (kX5_takeAfter l G hG 17 1 (Or.inr (Or.inl rfl)) (Or.inl rfl) w0 _ _ he6) gs_X7_191 (xw_rc hK hP (C := RX5) (T := TX5) (N := 14) (xw_o5 G (Or.inr (Or.inl rfl))) rfl) 1 hv_X5_takeAfter ⟨Nat.le_of_ble_eq_true rfl, Nat.le_of_ble_eq_true rfl⟩ rfl hl.1 (Nat.le_of_ble_eq_true rfl) rfl dX7_ends_18 ⟨Nat.zero_le _, Nat.zero_le _⟩ (fun H locs hP hS => ?_)
      refine lv_iconst (v := 0) hx hb dX7_ends_21 (by decide) ?_
      refine lv_istore_n (lv' := [(2, .int (0 : Int32)), (0, .ref (xw_ad G 0)), (1, .int a1)]) hx hb dX7_ends_22 rfl hl (by decide) rfl (fun ls hl => ?_)
      exact J23 (0 : Int32) w5 hf H locs ls hP hS (lv_sub hl [1, 2, 0] rfl)
    · replace hf := xw_ip c3 hf
      refine lv_iconst (v := (-1)) hx hb dX7_ends_8 (by decide) ?_
      obtain ⟨h0, h1⟩ := xw_s2 hf
      exact xw_iret hB hK hE hS hP hr hlk h0 h1 dX7_ends_9
  exact HH s.heap [] hP hS
def fX7_book (a1 : Int32) (a2 : Int32) (w0 : xw_M) : Option (Int32 × xw_M) := if a1 = (-1 : Int32) then xw_b (fX1_empty (1 + 13) w0) (fun r11 w12 => some (r11, w12)) else xw_bp (fX5_has 1 a1 w0) (fun r2 => if r2 = 0 then some ((-1 : Int32), w0) else xw_bp (fX7_within a2 (9 : Int32)) (fun r5 => if r5 = 0 then some ((-1 : Int32), w0) else xw_b (fX1_add (1 + 13) a1 a2 w0) (fun r8 w9 => some (r8, w9))))
set_option maxHeartbeats 4000000 in
set_option maxRecDepth 100000 in
theorem kX7_book (l : Launch) (G : xw_G) (hG : xw_ok G) (a1 : Int32) (a2 : Int32) (w0 : xw_M) (r0 : Int32) (wz : xw_M) (hf : fX7_book a1 a2 w0 = some (r0, wz)) : xw_Ti l G yX7_book cX7_book 3 ((Option.some Jvm.ClassFile.FieldType.int)) (2) (44) [.ref (xw_ad G 0), .int a1, .int a2] w0 r0 wz := by
  unfold xw_Ti
  refine Met.ofW (cc := cX7_book) (maxL := 3) (ret := (Option.some Jvm.ClassFile.FieldType.int)) (by decide) rfl ?_
  intro p e s m args below meth c s₁ B hml hv
  obtain ⟨hargs, hP, hK, hE⟩ := hv
  have hx := B.exec
  have hb := B.bytes
  have hr := B.returns
  have hlk := B.notSynchronized
  have hB : CallFix p m c cX7_book 3 s args TB RX7 := ⟨hx, hb, hml, findClass_of_methodNamed B.named, fun q h => (atoms_spec (ws := Cond.code yX7_book cX7_book 3 ((Option.some Jvm.ClassFile.FieldType.int)) :: TB) B.pre) q (List.mem_cons_of_mem _ h)⟩
  have hS : va_S (xw_A G) s.heap s.heap [] := va_S.rf
  have hl := lv_entry [.ref (xw_ad G 0), .int a1, .int a2] (n := 3) (Nat.le_of_ble_eq_true rfl)
  rw [show entryFrame m args 3 = entryFrame m ([.ref (xw_ad G 0), .int a1, .int a2] : List Value).toArray 3 from by rw [hargs], lg_entry_eq]
  generalize (lg_sl [.ref (xw_ad G 0), .int a1, .int a2] ++ List.replicate (3 - (lg_sl [.ref (xw_ad G 0), .int a1, .int a2]).length) Slot.unset).toArray = ls at hl ⊢
  have hP : va_P (xw_D G) xw_cl (xw_W G w0) s.heap := hP
  have hl : lv_has ls 3 [(0, .ref (xw_ad G 0)), (1, .int a1), (2, .int a2)] := hl
  have HH : ∀ (H : Heap) (locs : List Loc) (hP : va_P (xw_D G) xw_cl (xw_W G w0) H) (hS : va_S (xw_A G) s.heap H locs), xw_Wi G p l e (xw_rm (2) (44)) s m args below meth c H locs r0 wz (F0 m 0 ls []) := by
    intro H locs hP hS
    unfold fX7_book at hf
    refine lv_iload_n hx hb dX7_book_0 rfl (lv_at hl 1 rfl) ?_
    refine lv_iconst (v := (-1)) hx hb dX7_book_1 (by decide) ?_
    refine lv_icmp_ne (tgt := 16) hx hb dX7_book_2 (by decide) (fun c1 => ?_) (fun c1 => ?_)
    · replace hf := xw_in' c1 hf
      refine lv_aload_n hx hb dX7_book_16 rfl (lv_at hl 0 rfl) ?_
      refine xw_get hB hK hP (xw_o7 G) (C := RX7) (T := TX7) (N := 11) rfl TBi_X7 0 (by decide) tw_255 rfl rfl dX7_book_17 ?_
      refine lv_iload_n hx hb dX7_book_20 rfl (lv_at hl 1 rfl) ?_
      replace hf := xw_bp_e hf
      obtain ⟨r2, he3, hf⟩ := hf
      refine xw_Vi hB hK hE hS hP (As := [.int a1]) (rest := []) (kX5_has l G hG 1 a1 (Or.inl rfl) w0 _ he3) gs_X7_77 (xw_rc hK hP (C := RX5) (T := TX5) (N := 14) (xw_o5 G (Or.inl rfl)) rfl) 1 hv_X5_has ⟨Nat.le_of_ble_eq_true rfl, Nat.le_of_ble_eq_true rfl⟩ rfl hl.1 (Nat.le_of_ble_eq_true rfl) rfl dX7_book_21 ⟨Nat.zero_le _, Nat.zero_le _⟩ (fun H locs hP hS => ?_)
      refine lv_if_eq (tgt := 36) hx hb dX7_book_24 (by decide) (fun c4 => ?_) (fun c4 => ?_)
      · replace hf := xw_ip c4 hf
        refine lv_iconst (v := (-1)) hx hb dX7_book_36 (by decide) ?_
        obtain ⟨h0, h1⟩ := xw_s2 hf
        exact xw_iret hB hK hE hS hP hr hlk h0 h1 dX7_book_37
      · replace hf := xw_in' c4 hf
        refine lv_iload_n hx hb dX7_book_27 rfl (lv_at hl 2 rfl) ?_
        refine lv_bipush (v := 9) hx hb dX7_book_28 (by decide) ?_
        replace hf := xw_bp_e hf
        obtain ⟨r5, he6, hf⟩ := hf
        refine xw_Si hB hK hE hS hP (As := [.int a2, .int (9 : Int32)]) (rest := []) (kX7_within l G hG a2 (9 : Int32) w0 _ he6) tw_293 tw_295 tw_294 tw_1 2 hs_X7_within ⟨Nat.le_of_ble_eq_true rfl, Nat.le_of_ble_eq_true rfl⟩ rfl hl.1 (Nat.le_of_ble_eq_true rfl) rfl dX7_book_30 ⟨Nat.zero_le _, Nat.zero_le _⟩ (fun H locs hP hS => ?_)
        refine lv_if_ne (tgt := 38) hx hb dX7_book_33 (by decide) (fun c7 => ?_) (fun c7 => ?_)
        · replace hf := xw_in' c7 hf
          refine lv_aload_n hx hb dX7_book_38 rfl (lv_at hl 0 rfl) ?_
          refine xw_get hB hK hP (xw_o7 G) (C := RX7) (T := TX7) (N := 11) rfl TBi_X7 0 (by decide) tw_255 rfl rfl dX7_book_39 ?_
          refine xw_get hB hK hP (xw_o5 G (Or.inl rfl)) (C := RX5) (T := TX5) (N := 14) rfl TBi_X5 13 (by decide) tw_100 rfl rfl dX7_book_42 ?_
          refine lv_iload_n hx hb dX7_book_45 rfl (lv_at hl 1 rfl) ?_
          refine lv_iload_n hx hb dX7_book_46 rfl (lv_at hl 2 rfl) ?_
          replace hf := xw_b_e hf
          obtain ⟨r8, w9, he10, hf⟩ := hf
          refine xw_Vi hB hK hE hS hP (As := [.int a1, .int a2]) (rest := []) (kX1_add l G hG (1 + 13) a1 a2 (xw_sc_13 (Or.inl rfl)) w0 _ _ he10) gs_X7_208 (xw_rc hK hP (C := RX1) (T := TX1) (N := 4) (xw_o1 G (xw_sc_13 (Or.inl rfl))) rfl) 2 hv_X1_add ⟨Nat.le_of_ble_eq_true rfl, Nat.le_of_ble_eq_true rfl⟩ rfl hl.1 (Nat.le_of_ble_eq_true rfl) rfl dX7_book_47 ⟨Nat.zero_le _, Nat.zero_le _⟩ (fun H locs hP hS => ?_)
          obtain ⟨h0, h1⟩ := xw_s2 hf
          exact xw_iret hB hK hE hS hP hr hlk h0 h1 dX7_book_50
        · replace hf := xw_ip c7 hf
          refine lv_iconst (v := (-1)) hx hb dX7_book_36 (by decide) ?_
          obtain ⟨h0, h1⟩ := xw_s2 hf
          exact xw_iret hB hK hE hS hP hr hlk h0 h1 dX7_book_37
    · replace hf := xw_ip c1 hf
      refine lv_aload_n hx hb dX7_book_5 rfl (lv_at hl 0 rfl) ?_
      refine xw_get hB hK hP (xw_o7 G) (C := RX7) (T := TX7) (N := 11) rfl TBi_X7 0 (by decide) tw_255 rfl rfl dX7_book_6 ?_
      refine xw_get hB hK hP (xw_o5 G (Or.inl rfl)) (C := RX5) (T := TX5) (N := 14) rfl TBi_X5 13 (by decide) tw_100 rfl rfl dX7_book_9 ?_
      replace hf := xw_b_e hf
      obtain ⟨r11, w12, he13, hf⟩ := hf
      refine xw_Vi hB hK hE hS hP (As := []) (rest := []) (kX1_empty l G hG (1 + 13) (xw_sc_13 (Or.inl rfl)) w0 _ _ he13) gs_X7_203 (xw_rc hK hP (C := RX1) (T := TX1) (N := 4) (xw_o1 G (xw_sc_13 (Or.inl rfl))) rfl) 0 hv_X1_empty ⟨Nat.le_of_ble_eq_true rfl, Nat.le_of_ble_eq_true rfl⟩ rfl hl.1 (Nat.le_of_ble_eq_true rfl) rfl dX7_book_12 ⟨Nat.zero_le _, Nat.zero_le _⟩ (fun H locs hP hS => ?_)
      obtain ⟨h0, h1⟩ := xw_s2 hf
      exact xw_iret hB hK hE hS hP hr hlk h0 h1 dX7_book_15
  exact HH s.heap [] hP hS
def fX7_looked_65 (n : Nat) (w0 : xw_M) : Option Int32 := some (-5 : Int32)
def fX7_looked_b2 (n : Nat) (x1 : Int32) (w0 : xw_M) : Option ((Int32) ⊕ ((Int32) ⊕ (Unit))) := if (w0.1 (1 + 13) 3) ≤ x1 then some (.inr (.inr ())) else xw_bp (fX7_at ((1 + 13) + 1) 8 x1 w0) (fun r2 => xw_bp (fX7_at (1 + 4) 6 r2 w0) (fun r4 => xw_bp (fX7_at ((1 + 13) + 2) 8 x1 w0) (fun r6 => if r4 = r6 then xw_lt (x1 + 1) (fun x1_9 => some (.inl x1_9)) else some (.inr (.inl x1)))))
def fX7_looked_2 (n : Nat) (x1 : Int32) (w0 : xw_M) : Option Int32 := xw_bp (xw_it (fun z => fX7_looked_b2 n z w0) n x1) (fun z => xw_su z (fun r => some r) (fun _ => fX7_looked_65 n w0))
def fX7_looked (n : Nat) (w0 : xw_M) : Option Int32 := fX7_looked_2 n (0 : Int32) w0
set_option maxHeartbeats 4000000 in
set_option maxRecDepth 100000 in
theorem kX7_looked (l : Launch) (G : xw_G) (hG : xw_ok G) (n : Nat) (w0 : xw_M) (r0 : Int32) (hf : fX7_looked n w0 = some r0) : xw_Ti l G yX7_looked cX7_looked 2 ((Option.some Jvm.ClassFile.FieldType.int)) (1) (21) [.ref (xw_ad G 0)] w0 r0 w0 := by
  unfold xw_Ti
  refine Met.ofW (cc := cX7_looked) (maxL := 2) (ret := (Option.some Jvm.ClassFile.FieldType.int)) (by decide) rfl ?_
  intro p e s m args below meth c s₁ B hml hv
  obtain ⟨hargs, hP, hK, hE⟩ := hv
  have hx := B.exec
  have hb := B.bytes
  have hr := B.returns
  have hlk := B.notSynchronized
  have hB : CallFix p m c cX7_looked 2 s args TB RX7 := ⟨hx, hb, hml, findClass_of_methodNamed B.named, fun q h => (atoms_spec (ws := Cond.code yX7_looked cX7_looked 2 ((Option.some Jvm.ClassFile.FieldType.int)) :: TB) B.pre) q (List.mem_cons_of_mem _ h)⟩
  have hS : va_S (xw_A G) s.heap s.heap [] := va_S.rf
  have hl := lv_entry [.ref (xw_ad G 0)] (n := 2) (Nat.le_of_ble_eq_true rfl)
  rw [show entryFrame m args 2 = entryFrame m ([.ref (xw_ad G 0)] : List Value).toArray 2 from by rw [hargs], lg_entry_eq]
  generalize (lg_sl [.ref (xw_ad G 0)] ++ List.replicate (2 - (lg_sl [.ref (xw_ad G 0)]).length) Slot.unset).toArray = ls at hl ⊢
  have hP : va_P (xw_D G) xw_cl (xw_W G w0) s.heap := hP
  have hl : lv_has ls 2 [(0, .ref (xw_ad G 0))] := hl
  have HH : ∀ (H : Heap) (locs : List Loc) (hP : va_P (xw_D G) xw_cl (xw_W G w0) H) (hS : va_S (xw_A G) s.heap H locs), xw_Wi G p l e (xw_rm (1) (21)) s m args below meth c H locs r0 w0 (F0 m 0 ls []) := by
    intro H locs hP hS
    unfold fX7_looked at hf
    have J65 : ∀ (hf : fX7_looked_65 n w0 = some r0) (H : Heap) (locs : List Loc) (ls : Array Slot) (hP : va_P (xw_D G) xw_cl (xw_W G w0) H) (hS : va_S (xw_A G) s.heap H locs) (hl : lv_has ls 2 []), xw_Wi G p l e (xw_rm (1) (21)) s m args below meth c H locs r0 w0 (F0 m 65 ls []) := by
      intro hf H locs ls hP hS hl
      unfold fX7_looked_65 at hf
      refine lv_bipush (v := (-5)) hx hb dX7_looked_65 (by decide) ?_
      have h0 := xw_so hf
      have h1 : w0 = w0 := rfl
      exact xw_iret hB hK hE hS hP hr hlk h0 h1 dX7_looked_67
    have J2 : ∀ (x1 : Int32) (hf : fX7_looked_2 n x1 w0 = some r0) (H : Heap) (locs : List Loc) (ls : Array Slot) (hP : va_P (xw_D G) xw_cl (xw_W G w0) H) (hS : va_S (xw_A G) s.heap H locs) (hl : lv_has ls 2 [(0, .ref (xw_ad G 0)), (1, .int x1)]), xw_Wi G p l e (xw_rm (1) (21)) s m args below meth c H locs r0 w0 (F0 m 2 ls []) := by
      intro x1 hf H locs ls hP hS hl
      unfold fX7_looked_2 at hf
      replace hf := xw_bp_e hf
      obtain ⟨bb2, hit2, hfx2⟩ := hf
      have XX2 : ∀ (hf : fX7_looked_65 n w0 = some r0) (H : Heap) (locs : List Loc) (ls : Array Slot) (hP : va_P (xw_D G) xw_cl (xw_W G w0) H) (hS : va_S (xw_A G) s.heap H locs) (hl : lv_has ls 2 []), xw_Wi G p l e (xw_rm (1) (21)) s m args below meth c H locs r0 w0 (F0 m 65 ls []) := by
        intro hf H locs ls hP hS hl
        exact J65 hf H locs ls hP hS (lv_sub hl [] rfl)
      have LL2 : ∀ (nn : Nat) (x1 : Int32) (hit : xw_it (fun z => fX7_looked_b2 n z w0) nn x1 = some bb2) (H : Heap) (locs : List Loc) (ls : Array Slot) (hP : va_P (xw_D G) xw_cl (xw_W G w0) H) (hS : va_S (xw_A G) s.heap H locs) (hl : lv_has ls 2 [(0, .ref (xw_ad G 0)), (1, .int x1)]), xw_Wi G p l e (xw_rm (1) (21)) s m args below meth c H locs r0 w0 (F0 m 2 ls []) := by
        intro nn
        induction nn with
        | zero => intro x1 hit; exact (xw_it_0 hit).elim
        | succ nn ih2 =>
          intro x1 hit H locs ls hP hS hl
          replace hit := xw_it_e hit
          obtain ⟨wv2, hf, hC2, hX2⟩ := hit
          replace hf : fX7_looked_b2 n x1 w0 = some wv2 := hf
          unfold fX7_looked_b2 at hf
          refine lv_iload_n hx hb dX7_looked_2 rfl (lv_at hl 1 rfl) ?_
          refine lv_aload_n hx hb dX7_looked_3 rfl (lv_at hl 0 rfl) ?_
          refine xw_get hB hK hP (xw_o7 G) (C := RX7) (T := TX7) (N := 11) rfl TBi_X7 0 (by decide) tw_255 rfl rfl dX7_looked_4 ?_
          refine xw_get hB hK hP (xw_o5 G (Or.inl rfl)) (C := RX5) (T := TX5) (N := 14) rfl TBi_X5 13 (by decide) tw_100 rfl rfl dX7_looked_7 ?_
          refine xw_get hB hK hP (xw_o1 G (xw_sc_13 (Or.inl rfl))) (C := RX1) (T := TX1) (N := 4) rfl TBi_X1 3 (by decide) tw_49 rfl rfl dX7_looked_10 ?_
          refine lv_icmp_ge (tgt := 65) hx hb dX7_looked_13 (by decide) (fun c1 => ?_) (fun c1 => ?_)
          · replace hf := xw_ip c1 hf
            have he2 := hX2 _ (xw_so hf).symm
            rw [← he2] at hfx2
            exact XX2  hfx2 H locs ls hP hS (lv_sub hl [] rfl)
          · replace hf := xw_in' c1 hf
            refine lv_aload_n hx hb dX7_looked_16 rfl (lv_at hl 0 rfl) ?_
            refine xw_get hB hK hP (xw_o7 G) (C := RX7) (T := TX7) (N := 11) rfl TBi_X7 0 (by decide) tw_255 rfl rfl dX7_looked_17 ?_
            refine xw_get hB hK hP (xw_o5 G (Or.inl rfl)) (C := RX5) (T := TX5) (N := 14) rfl TBi_X5 4 (by decide) tw_75 rfl rfl dX7_looked_20 ?_
            refine lv_aload_n hx hb dX7_looked_23 rfl (lv_at hl 0 rfl) ?_
            refine xw_get hB hK hP (xw_o7 G) (C := RX7) (T := TX7) (N := 11) rfl TBi_X7 0 (by decide) tw_255 rfl rfl dX7_looked_24 ?_
            refine xw_get hB hK hP (xw_o5 G (Or.inl rfl)) (C := RX5) (T := TX5) (N := 14) rfl TBi_X5 13 (by decide) tw_100 rfl rfl dX7_looked_27 ?_
            refine xw_get hB hK hP (xw_o1 G (xw_sc_13 (Or.inl rfl))) (C := RX1) (T := TX1) (N := 4) rfl TBi_X1 1 (by decide) tw_43 rfl rfl dX7_looked_30 ?_
            refine lv_iload_n hx hb dX7_looked_33 rfl (lv_at hl 1 rfl) ?_
            replace hf := xw_bp_e hf
            obtain ⟨r2, he3, hf⟩ := hf
            refine xw_Si hB hK hE hS hP (As := [.ref (xw_ad G ((1 + 13) + 1)), .int x1]) (rest := [.ref (xw_ad G (1 + 4))]) (kX7_at l G hG ((1 + 13) + 1) 8 x1 (xw_a1_1 G (xw_sc_13 (Or.inl rfl))) w0 _ he3) tw_311 tw_313 tw_312 tw_1 2 hs_X7_at ⟨Nat.le_of_ble_eq_true rfl, Nat.le_of_ble_eq_true rfl⟩ rfl hl.1 (Nat.le_of_ble_eq_true rfl) rfl dX7_looked_34 ⟨Nat.zero_le _, Nat.zero_le _⟩ (fun H locs hP hS => ?_)
            replace hf := xw_bp_e hf
            obtain ⟨r4, he5, hf⟩ := hf
            refine xw_Si hB hK hE hS hP (As := [.ref (xw_ad G (1 + 4)), .int r2]) (rest := []) (kX7_at l G hG (1 + 4) 6 r2 (xw_a5_4 G (Or.inl rfl)) w0 _ he5) tw_311 tw_313 tw_312 tw_1 2 hs_X7_at ⟨Nat.le_of_ble_eq_true rfl, Nat.le_of_ble_eq_true rfl⟩ rfl hl.1 (Nat.le_of_ble_eq_true rfl) rfl dX7_looked_37 ⟨Nat.zero_le _, Nat.zero_le _⟩ (fun H locs hP hS => ?_)
            refine lv_aload_n hx hb dX7_looked_40 rfl (lv_at hl 0 rfl) ?_
            refine xw_get hB hK hP (xw_o7 G) (C := RX7) (T := TX7) (N := 11) rfl TBi_X7 0 (by decide) tw_255 rfl rfl dX7_looked_41 ?_
            refine xw_get hB hK hP (xw_o5 G (Or.inl rfl)) (C := RX5) (T := TX5) (N := 14) rfl TBi_X5 13 (by decide) tw_100 rfl rfl dX7_looked_44 ?_
            refine xw_get hB hK hP (xw_o1 G (xw_sc_13 (Or.inl rfl))) (C := RX1) (T := TX1) (N := 4) rfl TBi_X1 2 (by decide) tw_46 rfl rfl dX7_looked_47 ?_
            refine lv_iload_n hx hb dX7_looked_50 rfl (lv_at hl 1 rfl) ?_
            replace hf := xw_bp_e hf
            obtain ⟨r6, he7, hf⟩ := hf
            refine xw_Si hB hK hE hS hP (As := [.ref (xw_ad G ((1 + 13) + 2)), .int x1]) (rest := [.int r4]) (kX7_at l G hG ((1 + 13) + 2) 8 x1 (xw_a1_2 G (xw_sc_13 (Or.inl rfl))) w0 _ he7) tw_311 tw_313 tw_312 tw_1 2 hs_X7_at ⟨Nat.le_of_ble_eq_true rfl, Nat.le_of_ble_eq_true rfl⟩ rfl hl.1 (Nat.le_of_ble_eq_true rfl) rfl dX7_looked_51 ⟨Nat.zero_le _, Nat.zero_le _⟩ (fun H locs hP hS => ?_)
            refine lv_icmp_eq (tgt := 59) hx hb dX7_looked_54 (by decide) (fun c8 => ?_) (fun c8 => ?_)
            · replace hf := xw_ip c8 hf
              obtain ⟨x1_9, ex1_9⟩ : ∃ y : Int32, y = x1 + 1 := ⟨_, rfl⟩
              replace hf := xw_lt_e ex1_9 hf
              refine lv_iinc (v := x1_9) (lv' := [(1, .int x1_9), (0, .ref (xw_ad G 0))]) hx hb dX7_looked_59 hl (k := 1) rfl (by rw [ex1_9]; rfl) (by decide) rfl (fun ls hl => ?_)
              refine lv_goto (tgt := 2) hx hb dX7_looked_62 (by decide) ?_
              have hi := hC2 _ (xw_so hf).symm
              exact ih2 x1_9 hi H locs ls hP hS (lv_sub hl [1, 0] rfl)
            · replace hf := xw_in' c8 hf
              refine lv_iload_n hx hb dX7_looked_57 rfl (lv_at hl 1 rfl) ?_
              have he2 := hX2 _ (xw_so hf).symm
              rw [← he2] at hfx2
              replace hfx2 : some x1 = some r0 := hfx2
              have h0 := xw_so hfx2
              have h1 : w0 = w0 := rfl
              exact xw_iret hB hK hE hS hP hr hlk h0 h1 dX7_looked_58
      exact LL2 n x1 hit2 H locs ls hP hS hl
    refine lv_iconst (v := 0) hx hb dX7_looked_0 (by decide) ?_
    refine lv_istore_n (lv' := [(1, .int (0 : Int32)), (0, .ref (xw_ad G 0))]) hx hb dX7_looked_1 rfl hl (by decide) rfl (fun ls hl => ?_)
    exact J2 (0 : Int32) hf H locs ls hP hS (lv_sub hl [1, 0] rfl)
  exact HH s.heap [] hP hS
def fX7_tapeAt (a1 : Int32) (w0 : xw_M) : Option (Option Nat) := if a1 < 0 then some none else if (nI 6) ≤ a1 then some none else xw_ck a1 6 (xw_cc (xw_tp (107 + 2 * a1.toNatClampNeg)) (some (some (107 + 2 * a1.toNatClampNeg))))
set_option maxHeartbeats 4000000 in
set_option maxRecDepth 100000 in
theorem kX7_tapeAt (l : Launch) (G : xw_G) (hG : xw_ok G) (a1 : Int32) (w0 : xw_M) (r0 : Option Nat) (hf : fX7_tapeAt a1 w0 = some r0) : xw_Tq l G yX7_tapeAt cX7_tapeAt 2 ((Option.some (Jvm.ClassFile.FieldType.object "FuneralDebts$Tape"))) (0) (0) [.ref (xw_ad G 0), .int a1] w0 r0 w0 := by
  unfold xw_Tq
  refine Met.ofW (cc := cX7_tapeAt) (maxL := 2) (ret := (Option.some (Jvm.ClassFile.FieldType.object "FuneralDebts$Tape"))) (by decide) rfl ?_
  intro p e s m args below meth c s₁ B hml hv
  obtain ⟨hargs, hP, hK, hE⟩ := hv
  have hx := B.exec
  have hb := B.bytes
  have hr := B.returns
  have hlk := B.notSynchronized
  have hB : CallFix p m c cX7_tapeAt 2 s args TB RX7 := ⟨hx, hb, hml, findClass_of_methodNamed B.named, fun q h => (atoms_spec (ws := Cond.code yX7_tapeAt cX7_tapeAt 2 ((Option.some (Jvm.ClassFile.FieldType.object "FuneralDebts$Tape"))) :: TB) B.pre) q (List.mem_cons_of_mem _ h)⟩
  have hS : va_S (xw_A G) s.heap s.heap [] := va_S.rf
  have hl := lv_entry [.ref (xw_ad G 0), .int a1] (n := 2) (Nat.le_of_ble_eq_true rfl)
  rw [show entryFrame m args 2 = entryFrame m ([.ref (xw_ad G 0), .int a1] : List Value).toArray 2 from by rw [hargs], lg_entry_eq]
  generalize (lg_sl [.ref (xw_ad G 0), .int a1] ++ List.replicate (2 - (lg_sl [.ref (xw_ad G 0), .int a1]).length) Slot.unset).toArray = ls at hl ⊢
  have hP : va_P (xw_D G) xw_cl (xw_W G w0) s.heap := hP
  have hl : lv_has ls 2 [(0, .ref (xw_ad G 0)), (1, .int a1)] := hl
  have HH : ∀ (H : Heap) (locs : List Loc) (hP : va_P (xw_D G) xw_cl (xw_W G w0) H) (hS : va_S (xw_A G) s.heap H locs), xw_Wq G p l e (xw_rm (0) (0)) s m args below meth c H locs r0 w0 (F0 m 0 ls []) := by
    intro H locs hP hS
    unfold fX7_tapeAt at hf
    refine lv_iload_n hx hb dX7_tapeAt_0 rfl (lv_at hl 1 rfl) ?_
    refine lv_if_lt (tgt := 22) hx hb dX7_tapeAt_1 (by decide) (fun c1 => ?_) (fun c1 => ?_)
    · replace hf := xw_ip c1 hf
      refine lv_null hx hb dX7_tapeAt_22 ?_
      have h0 := xw_so hf
      have h1 : w0 = w0 := rfl
      exact xw_aret (v := none) (C := "FuneralDebts$Tape") hB hK hE hS hP hr hlk h0 h1 dX7_tapeAt_23
    · replace hf := xw_in' c1 hf
      refine lv_iload_n hx hb dX7_tapeAt_4 rfl (lv_at hl 1 rfl) ?_
      refine lv_aload_n hx hb dX7_tapeAt_5 rfl (lv_at hl 0 rfl) ?_
      refine xw_get hB hK hP (xw_o7 G) (C := RX7) (T := TX7) (N := 11) rfl TBi_X7 10 (by decide) tw_265 rfl rfl dX7_tapeAt_6 ?_
      refine xw_rlen hB hK hP (xw_k70 G) rfl dX7_tapeAt_9 ?_
      refine lv_icmp_ge (tgt := 22) hx hb dX7_tapeAt_10 (by decide) (fun c2 => ?_) (fun c2 => ?_)
      · replace hf := xw_ip c2 hf
        refine lv_null hx hb dX7_tapeAt_22 ?_
        have h0 := xw_so hf
        have h1 : w0 = w0 := rfl
        exact xw_aret (v := none) (C := "FuneralDebts$Tape") hB hK hE hS hP hr hlk h0 h1 dX7_tapeAt_23
      · replace hf := xw_in' c2 hf
        refine lv_aload_n hx hb dX7_tapeAt_13 rfl (lv_at hl 0 rfl) ?_
        refine xw_get hB hK hP (xw_o7 G) (C := RX7) (T := TX7) (N := 11) rfl TBi_X7 10 (by decide) tw_265 rfl rfl dX7_tapeAt_14 ?_
        refine lv_iload_n hx hb dX7_tapeAt_17 rfl (lv_at hl 1 rfl) ?_
        replace hf := xw_ck_e hf
        obtain ⟨hi3, hf⟩ := hf
        refine xw_rldT hB hK hP hi3 dX7_tapeAt_18 ?_
        replace hf := xw_cc_e hf
        obtain ⟨hp4, hf⟩ := hf
        refine lv_goto (tgt := 23) hx hb dX7_tapeAt_19 (by decide) ?_
        have h0 := xw_so hf
        have h1 : w0 = w0 := rfl
        exact xw_aret (v := (some (107 + 2 * a1.toNatClampNeg))) (C := "FuneralDebts$Tape") hB hK hE hS hP hr hlk h0 h1 dX7_tapeAt_23
  exact HH s.heap [] hP hS
def fX6_holdsRow (b : Nat) (w0 : xw_M) : Option Int32 := if (w0.1 b 0) = (-1 : Int32) then some (0 : Int32) else some (1 : Int32)
set_option maxHeartbeats 4000000 in
set_option maxRecDepth 100000 in
theorem kX6_holdsRow (l : Launch) (G : xw_G) (hG : xw_ok G) (b : Nat) (hb0 : xw_tp b) (w0 : xw_M) (r0 : Int32) (hf : fX6_holdsRow b w0 = some r0) : xw_Ti l G yX6_holdsRow cX6_holdsRow 1 ((Option.some Jvm.ClassFile.FieldType.boolean)) (0) (0) [.ref (xw_ad G b)] w0 r0 w0 := by
  unfold xw_Ti
  refine Met.ofW (cc := cX6_holdsRow) (maxL := 1) (ret := (Option.some Jvm.ClassFile.FieldType.boolean)) (by decide) rfl ?_
  intro p e s m args below meth c s₁ B hml hv
  obtain ⟨hargs, hP, hK, hE⟩ := hv
  have hx := B.exec
  have hb := B.bytes
  have hr := B.returns
  have hlk := B.notSynchronized
  have hB : CallFix p m c cX6_holdsRow 1 s args TB RX6 := ⟨hx, hb, hml, findClass_of_methodNamed B.named, fun q h => (atoms_spec (ws := Cond.code yX6_holdsRow cX6_holdsRow 1 ((Option.some Jvm.ClassFile.FieldType.boolean)) :: TB) B.pre) q (List.mem_cons_of_mem _ h)⟩
  have hS : va_S (xw_A G) s.heap s.heap [] := va_S.rf
  have hl := lv_entry [.ref (xw_ad G b)] (n := 1) (Nat.le_of_ble_eq_true rfl)
  rw [show entryFrame m args 1 = entryFrame m ([.ref (xw_ad G b)] : List Value).toArray 1 from by rw [hargs], lg_entry_eq]
  generalize (lg_sl [.ref (xw_ad G b)] ++ List.replicate (1 - (lg_sl [.ref (xw_ad G b)]).length) Slot.unset).toArray = ls at hl ⊢
  have hP : va_P (xw_D G) xw_cl (xw_W G w0) s.heap := hP
  have hl : lv_has ls 1 [(0, .ref (xw_ad G b))] := hl
  have HH : ∀ (H : Heap) (locs : List Loc) (hP : va_P (xw_D G) xw_cl (xw_W G w0) H) (hS : va_S (xw_A G) s.heap H locs), xw_Wi G p l e (xw_rm (0) (0)) s m args below meth c H locs r0 w0 (F0 m 0 ls []) := by
    intro H locs hP hS
    unfold fX6_holdsRow at hf
    refine lv_aload_n hx hb dX6_holdsRow_0 rfl (lv_at hl 0 rfl) ?_
    refine xw_get hB hK hP (xw_o6 G hb0) (C := RX6) (T := TX6) (N := 3) rfl TBi_X6 0 (by decide) tw_241 rfl rfl dX6_holdsRow_1 ?_
    refine lv_iconst (v := (-1)) hx hb dX6_holdsRow_4 (by decide) ?_
    refine lv_icmp_eq (tgt := 12) hx hb dX6_holdsRow_5 (by decide) (fun c1 => ?_) (fun c1 => ?_)
    · replace hf := xw_ip c1 hf
      refine lv_iconst (v := 0) hx hb dX6_holdsRow_12 (by decide) ?_
      have h0 := xw_so hf
      have h1 : w0 = w0 := rfl
      exact xw_zret hB hK hE hS hP hr hlk rfl h0 h1 dX6_holdsRow_13
    · replace hf := xw_in' c1 hf
      refine lv_iconst (v := 1) hx hb dX6_holdsRow_8 (by decide) ?_
      refine lv_goto (tgt := 13) hx hb dX6_holdsRow_9 (by decide) ?_
      have h0 := xw_so hf
      have h1 : w0 = w0 := rfl
      exact xw_zret hB hK hE hS hP hr hlk rfl h0 h1 dX6_holdsRow_13
  exact HH s.heap [] hP hS
def fX6_itemAt (b : Nat) (a1 : Int32) (w0 : xw_M) : Option Int64 := if a1 < 0 then some (-9223372036854775808 : Int64) else if (w0.1 b 1) ≤ a1 then some (-9223372036854775808 : Int64) else if (nI 60) ≤ a1 then some (-9223372036854775808 : Int64) else xw_ck a1 60 (some (w0.2 (b + 1) a1.toNatClampNeg))
set_option maxHeartbeats 4000000 in
set_option maxRecDepth 100000 in
theorem kX6_itemAt (l : Launch) (G : xw_G) (hG : xw_ok G) (b : Nat) (a1 : Int32) (hb0 : xw_tp b) (w0 : xw_M) (r0 : Int64) (hf : fX6_itemAt b a1 w0 = some r0) : xw_Tl l G yX6_itemAt cX6_itemAt 2 ((Option.some Jvm.ClassFile.FieldType.long)) (0) (0) [.ref (xw_ad G b), .int a1] w0 r0 w0 := by
  unfold xw_Tl
  refine Met.ofW (cc := cX6_itemAt) (maxL := 2) (ret := (Option.some Jvm.ClassFile.FieldType.long)) (by decide) rfl ?_
  intro p e s m args below meth c s₁ B hml hv
  obtain ⟨hargs, hP, hK, hE⟩ := hv
  have hx := B.exec
  have hb := B.bytes
  have hr := B.returns
  have hlk := B.notSynchronized
  have hB : CallFix p m c cX6_itemAt 2 s args TB RX6 := ⟨hx, hb, hml, findClass_of_methodNamed B.named, fun q h => (atoms_spec (ws := Cond.code yX6_itemAt cX6_itemAt 2 ((Option.some Jvm.ClassFile.FieldType.long)) :: TB) B.pre) q (List.mem_cons_of_mem _ h)⟩
  have hS : va_S (xw_A G) s.heap s.heap [] := va_S.rf
  have hl := lv_entry [.ref (xw_ad G b), .int a1] (n := 2) (Nat.le_of_ble_eq_true rfl)
  rw [show entryFrame m args 2 = entryFrame m ([.ref (xw_ad G b), .int a1] : List Value).toArray 2 from by rw [hargs], lg_entry_eq]
  generalize (lg_sl [.ref (xw_ad G b), .int a1] ++ List.replicate (2 - (lg_sl [.ref (xw_ad G b), .int a1]).length) Slot.unset).toArray = ls at hl ⊢
  have hP : va_P (xw_D G) xw_cl (xw_W G w0) s.heap := hP
  have hl : lv_has ls 2 [(0, .ref (xw_ad G b)), (1, .int a1)] := hl
  have HH : ∀ (H : Heap) (locs : List Loc) (hP : va_P (xw_D G) xw_cl (xw_W G w0) H) (hS : va_S (xw_A G) s.heap H locs), xw_Wl G p l e (xw_rm (0) (0)) s m args below meth c H locs r0 w0 (F0 m 0 ls []) := by
    intro H locs hP hS
    unfold fX6_itemAt at hf
    refine lv_iload_n hx hb dX6_itemAt_0 rfl (lv_at hl 1 rfl) ?_
    refine lv_if_lt (tgt := 30) hx hb dX6_itemAt_1 (by decide) (fun c1 => ?_) (fun c1 => ?_)
    · replace hf := xw_ip c1 hf
      refine lv_ldc2 (v := (-9223372036854775808)) hx hb hB.2.2.2.1 (hB.2.2.2.2 _ tw_639) dX6_itemAt_30 ?_
      have h0 := xw_so hf
      have h1 : w0 = w0 := rfl
      exact xw_lret hB hK hE hS hP hr hlk h0 h1 dX6_itemAt_33
    · replace hf := xw_in' c1 hf
      refine lv_iload_n hx hb dX6_itemAt_4 rfl (lv_at hl 1 rfl) ?_
      refine lv_aload_n hx hb dX6_itemAt_5 rfl (lv_at hl 0 rfl) ?_
      refine xw_get hB hK hP (xw_o6 G hb0) (C := RX6) (T := TX6) (N := 3) rfl TBi_X6 1 (by decide) tw_243 rfl rfl dX6_itemAt_6 ?_
      refine lv_icmp_ge (tgt := 30) hx hb dX6_itemAt_9 (by decide) (fun c2 => ?_) (fun c2 => ?_)
      · replace hf := xw_ip c2 hf
        refine lv_ldc2 (v := (-9223372036854775808)) hx hb hB.2.2.2.1 (hB.2.2.2.2 _ tw_639) dX6_itemAt_30 ?_
        have h0 := xw_so hf
        have h1 : w0 = w0 := rfl
        exact xw_lret hB hK hE hS hP hr hlk h0 h1 dX6_itemAt_33
      · replace hf := xw_in' c2 hf
        refine lv_iload_n hx hb dX6_itemAt_12 rfl (lv_at hl 1 rfl) ?_
        refine lv_aload_n hx hb dX6_itemAt_13 rfl (lv_at hl 0 rfl) ?_
        refine xw_get hB hK hP (xw_o6 G hb0) (C := RX6) (T := TX6) (N := 3) rfl TBi_X6 2 (by decide) tw_245 rfl rfl dX6_itemAt_14 ?_
        refine xw_llen hB hK hP (xw_a6_1 G hb0) dX6_itemAt_17 ?_
        refine lv_icmp_ge (tgt := 30) hx hb dX6_itemAt_18 (by decide) (fun c3 => ?_) (fun c3 => ?_)
        · replace hf := xw_ip c3 hf
          refine lv_ldc2 (v := (-9223372036854775808)) hx hb hB.2.2.2.1 (hB.2.2.2.2 _ tw_639) dX6_itemAt_30 ?_
          have h0 := xw_so hf
          have h1 : w0 = w0 := rfl
          exact xw_lret hB hK hE hS hP hr hlk h0 h1 dX6_itemAt_33
        · replace hf := xw_in' c3 hf
          refine lv_aload_n hx hb dX6_itemAt_21 rfl (lv_at hl 0 rfl) ?_
          refine xw_get hB hK hP (xw_o6 G hb0) (C := RX6) (T := TX6) (N := 3) rfl TBi_X6 2 (by decide) tw_245 rfl rfl dX6_itemAt_22 ?_
          refine lv_iload_n hx hb dX6_itemAt_25 rfl (lv_at hl 1 rfl) ?_
          replace hf := xw_ck_e hf
          obtain ⟨hi4, hf⟩ := hf
          refine xw_lld hB hK hP (xw_a6_1 G hb0) hi4 dX6_itemAt_26 ?_
          refine lv_goto (tgt := 33) hx hb dX6_itemAt_27 (by decide) ?_
          have h0 := xw_so hf
          have h1 : w0 = w0 := rfl
          exact xw_lret hB hK hE hS hP hr hlk h0 h1 dX6_itemAt_33
  exact HH s.heap [] hP hS
def fX7_judge_143 (n : Nat) (a1 : Int32) (a2 : Int32) (w : xw_M) : Option (Int32 × xw_M) := some ((-5 : Int32), w)
def fX7_judge_b61 (n : Nat) (a1 : Int32) (a2 : Int32) (x3 : Nat) (x4 : Int32) (w : xw_M) : Option ((Int32 × xw_M) ⊕ ((Int32 × xw_M) ⊕ (xw_M))) := if (w.1 1 0) ≤ x4 then some (.inr (.inr w)) else if a2 < 0 then some (.inr (.inl ((100 : Int32) + x4, w))) else if a2 < ((w.1 x3 1) - x4) then xw_bp (fX6_itemAt x3 (a2 + x4) w) (fun r20 => xw_b (fX4_share n 1 x4 (w.1 1 8) (w.1 1 7) w) (fun r22 w23 => if (lg_cmp r20 r22.toInt64) = 0 then xw_lt (x4 + 1) (fun x4_26 => some (.inl (x4_26, w23))) else some (.inr (.inl (x4, w23))))) else some (.inr (.inl ((100 : Int32) + x4, w)))
def fX7_judge_61 (n : Nat) (a1 : Int32) (a2 : Int32) (x3 : Nat) (x4 : Int32) (w : xw_M) : Option (Int32 × xw_M) := xw_bp (xw_it (fun z => fX7_judge_b61 n a1 a2 x3 z.1 z.2) n (x4, w)) (fun z => xw_su z (fun r => some r) (fun z => (fun (w : xw_M) => fX7_judge_143 n a1 a2 w) z))
def fX7_judge_30 (n : Nat) (a1 : Int32) (a2 : Int32) (x3 : Nat) (w : xw_M) : Option (Int32 × xw_M) := if (w.1 1 0) = 0 then some ((-5 : Int32), w) else xw_bp (fX7_held w) (fun r10 => xw_om r10 (none) (fun t12 => xw_cc (xw_pa t12) (xw_b (fX4_look n 1 t12 w) (fun (_ : Unit) w15 => fX7_judge_61 n a1 a2 x3 (0 : Int32) w15))))
def fX7_judge (n : Nat) (a1 : Int32) (a2 : Int32) (w0 : xw_M) : Option (Int32 × xw_M) := xw_bp (fX7_tapeAt a1 w0) (fun r1 => xw_om r1 (some ((-1 : Int32), w0)) (fun t3 => xw_cc (xw_tp t3) (xw_bp (fX6_holdsRow t3 w0) (fun r5 => if r5 = 0 then fX7_judge_30 n a1 a2 t3 w0 else if (w0.1 t3 0) = (1 : Int32) then fX7_judge_30 n a1 a2 t3 w0 else some ((-12 : Int32), w0)))))
set_option maxHeartbeats 4000000 in
set_option maxRecDepth 100000 in
theorem kX7_judge (l : Launch) (G : xw_G) (hG : xw_ok G) (n : Nat) (a1 : Int32) (a2 : Int32) (w0 : xw_M) (r0 : Int32) (wz : xw_M) (hf : fX7_judge n a1 a2 w0 = some (r0, wz)) : xw_Ti l G yX7_judge cX7_judge 5 ((Option.some Jvm.ClassFile.FieldType.int)) (4) (115) [.ref (xw_ad G 0), .int a1, .int a2] w0 r0 wz := by
  unfold xw_Ti
  refine Met.ofW (cc := cX7_judge) (maxL := 5) (ret := (Option.some Jvm.ClassFile.FieldType.int)) (by decide) rfl ?_
  intro p e s m args below meth c s₁ B hml hv
  obtain ⟨hargs, hP, hK, hE⟩ := hv
  have hx := B.exec
  have hb := B.bytes
  have hr := B.returns
  have hlk := B.notSynchronized
  have hB : CallFix p m c cX7_judge 5 s args TB RX7 := ⟨hx, hb, hml, findClass_of_methodNamed B.named, fun q h => (atoms_spec (ws := Cond.code yX7_judge cX7_judge 5 ((Option.some Jvm.ClassFile.FieldType.int)) :: TB) B.pre) q (List.mem_cons_of_mem _ h)⟩
  have hS : va_S (xw_A G) s.heap s.heap [] := va_S.rf
  have hl := lv_entry [.ref (xw_ad G 0), .int a1, .int a2] (n := 5) (Nat.le_of_ble_eq_true rfl)
  rw [show entryFrame m args 5 = entryFrame m ([.ref (xw_ad G 0), .int a1, .int a2] : List Value).toArray 5 from by rw [hargs], lg_entry_eq]
  generalize (lg_sl [.ref (xw_ad G 0), .int a1, .int a2] ++ List.replicate (5 - (lg_sl [.ref (xw_ad G 0), .int a1, .int a2]).length) Slot.unset).toArray = ls at hl ⊢
  have hP : va_P (xw_D G) xw_cl (xw_W G w0) s.heap := hP
  have hl : lv_has ls 5 [(0, .ref (xw_ad G 0)), (1, .int a1), (2, .int a2)] := hl
  have HH : ∀ (H : Heap) (locs : List Loc) (hP : va_P (xw_D G) xw_cl (xw_W G w0) H) (hS : va_S (xw_A G) s.heap H locs), xw_Wi G p l e (xw_rm (4) (115)) s m args below meth c H locs r0 wz (F0 m 0 ls []) := by
    intro H locs hP hS
    unfold fX7_judge at hf
    have J143 : ∀ (w : xw_M) (hf : fX7_judge_143 n a1 a2 w = some (r0, wz)) (H : Heap) (locs : List Loc) (ls : Array Slot) (hP : va_P (xw_D G) xw_cl (xw_W G w) H) (hS : va_S (xw_A G) s.heap H locs) (hl : lv_has ls 5 []), xw_Wi G p l e (xw_rm (4) (115)) s m args below meth c H locs r0 wz (F0 m 143 ls []) := by
      intro w hf H locs ls hP hS hl
      unfold fX7_judge_143 at hf
      refine lv_bipush (v := (-5)) hx hb dX7_judge_143 (by decide) ?_
      obtain ⟨h0, h1⟩ := xw_s2 hf
      exact xw_iret hB hK hE hS hP hr hlk h0 h1 dX7_judge_145
    have J61 : ∀ (x3 : Nat) (x4 : Int32) (hx3 : xw_tp x3) (w : xw_M) (hf : fX7_judge_61 n a1 a2 x3 x4 w = some (r0, wz)) (H : Heap) (locs : List Loc) (ls : Array Slot) (hP : va_P (xw_D G) xw_cl (xw_W G w) H) (hS : va_S (xw_A G) s.heap H locs) (hl : lv_has ls 5 [(0, .ref (xw_ad G 0)), (2, .int a2), (3, .ref (xw_ad G x3)), (4, .int x4)]), xw_Wi G p l e (xw_rm (4) (115)) s m args below meth c H locs r0 wz (F0 m 61 ls []) := by
      intro x3 x4 hx3 w hf H locs ls hP hS hl
      unfold fX7_judge_61 at hf
      replace hf := xw_bp_e hf
      obtain ⟨bb61, hit61, hfx61⟩ := hf
      have XX61 : ∀ (w : xw_M) (hf : fX7_judge_143 n a1 a2 w = some (r0, wz)) (H : Heap) (locs : List Loc) (ls : Array Slot) (hP : va_P (xw_D G) xw_cl (xw_W G w) H) (hS : va_S (xw_A G) s.heap H locs) (hl : lv_has ls 5 []), xw_Wi G p l e (xw_rm (4) (115)) s m args below meth c H locs r0 wz (F0 m 143 ls []) := by
        intro w hf H locs ls hP hS hl
        exact J143 w hf H locs ls hP hS (lv_sub hl [] rfl)
      have LL61 : ∀ (nn : Nat) (x4 : Int32) (w : xw_M) (hit : xw_it (fun z => fX7_judge_b61 n a1 a2 x3 z.1 z.2) nn (x4, w) = some bb61) (H : Heap) (locs : List Loc) (ls : Array Slot) (hP : va_P (xw_D G) xw_cl (xw_W G w) H) (hS : va_S (xw_A G) s.heap H locs) (hl : lv_has ls 5 [(0, .ref (xw_ad G 0)), (2, .int a2), (3, .ref (xw_ad G x3)), (4, .int x4)]), xw_Wi G p l e (xw_rm (4) (115)) s m args below meth c H locs r0 wz (F0 m 61 ls []) := by
        intro nn
        induction nn with
        | zero => intro x4 w hit; exact (xw_it_0 hit).elim
        | succ nn ih61 =>
          intro x4 w hit H locs ls hP hS hl
          replace hit := xw_it_e hit
          obtain ⟨wv61, hf, hC61, hX61⟩ := hit
          replace hf : fX7_judge_b61 n a1 a2 x3 x4 w = some wv61 := hf
          unfold fX7_judge_b61 at hf
          refine lv_iload hx hb dX7_judge_61 (lv_at hl 3 rfl) ?_
          refine lv_aload_n hx hb dX7_judge_63 rfl (lv_at hl 0 rfl) ?_
          refine xw_get hB hK hP (xw_o7 G) (C := RX7) (T := TX7) (N := 11) rfl TBi_X7 0 (by decide) tw_255 rfl rfl dX7_judge_64 ?_
          refine xw_get hB hK hP (xw_o5 G (Or.inl rfl)) (C := RX5) (T := TX5) (N := 14) rfl TBi_X5 0 (by decide) tw_62 rfl rfl dX7_judge_67 ?_
          refine lv_icmp_ge (tgt := 143) hx hb dX7_judge_70 (by decide) (fun c17 => ?_) (fun c17 => ?_)
          · replace hf := xw_ip c17 hf
            have he61 := hX61 _ (xw_so hf).symm
            rw [← he61] at hfx61
            exact XX61 w hfx61 H locs ls hP hS (lv_sub hl [] rfl)
          · replace hf := xw_in' c17 hf
            refine lv_iload_n hx hb dX7_judge_73 rfl (lv_at hl 1 rfl) ?_
            refine lv_if_lt (tgt := 88) hx hb dX7_judge_74 (by decide) (fun c18 => ?_) (fun c18 => ?_)
            · replace hf := xw_ip c18 hf
              refine lv_bipush (v := 100) hx hb dX7_judge_88 (by decide) ?_
              refine lv_iload hx hb dX7_judge_90 (lv_at hl 3 rfl) ?_
              refine lv_iadd hx hb dX7_judge_92 ?_
              have he61 := hX61 _ (xw_so hf).symm
              rw [← he61] at hfx61
              replace hfx61 : some ((100 : Int32) + x4, w) = some (r0, wz) := hfx61
              obtain ⟨h0, h1⟩ := xw_s2 hfx61
              exact xw_iret hB hK hE hS hP hr hlk h0 h1 dX7_judge_93
            · replace hf := xw_in' c18 hf
              refine lv_iload_n hx hb dX7_judge_77 rfl (lv_at hl 1 rfl) ?_
              refine lv_aload_n hx hb dX7_judge_78 rfl (lv_at hl 2 rfl) ?_
              refine xw_get hB hK hP (xw_o6 G hx3) (C := RX6) (T := TX6) (N := 3) rfl TBi_X6 1 (by decide) tw_244 rfl rfl dX7_judge_79 ?_
              refine lv_iload hx hb dX7_judge_82 (lv_at hl 3 rfl) ?_
              refine lv_isub hx hb dX7_judge_84 ?_
              refine lv_icmp_lt (tgt := 94) hx hb dX7_judge_85 (by decide) (fun c19 => ?_) (fun c19 => ?_)
              · replace hf := xw_ip c19 hf
                refine lv_aload_n hx hb dX7_judge_94 rfl (lv_at hl 2 rfl) ?_
                refine lv_iload_n hx hb dX7_judge_95 rfl (lv_at hl 1 rfl) ?_
                refine lv_iload hx hb dX7_judge_96 (lv_at hl 3 rfl) ?_
                refine lv_iadd hx hb dX7_judge_98 ?_
                replace hf := xw_bp_e hf
                obtain ⟨r20, he21, hf⟩ := hf
                refine xw_Vl hB hK hE hS hP (As := [.int (a2 + x4)]) (rest := []) (kX6_itemAt l G hG x3 (a2 + x4) hx3 w _ he21) gs_X7_251 (xw_rc hK hP (C := RX6) (T := TX6) (N := 3) (xw_o6 G hx3) rfl) 1 hv_X6_itemAt ⟨Nat.le_of_ble_eq_true rfl, Nat.le_of_ble_eq_true rfl⟩ rfl hl.1 (Nat.le_of_ble_eq_true rfl) rfl dX7_judge_99 ⟨Nat.zero_le _, Nat.zero_le _⟩ (fun H locs hP hS => ?_)
                refine lv_aload_n hx hb dX7_judge_102 rfl (lv_at hl 0 rfl) ?_
                refine xw_get hB hK hP (xw_o7 G) (C := RX7) (T := TX7) (N := 11) rfl TBi_X7 8 (by decide) tw_263 rfl rfl dX7_judge_103 ?_
                refine lv_aload_n hx hb dX7_judge_106 rfl (lv_at hl 0 rfl) ?_
                refine xw_get hB hK hP (xw_o7 G) (C := RX7) (T := TX7) (N := 11) rfl TBi_X7 0 (by decide) tw_255 rfl rfl dX7_judge_107 ?_
                refine lv_iload hx hb dX7_judge_110 (lv_at hl 3 rfl) ?_
                refine lv_aload_n hx hb dX7_judge_112 rfl (lv_at hl 0 rfl) ?_
                refine xw_get hB hK hP (xw_o7 G) (C := RX7) (T := TX7) (N := 11) rfl TBi_X7 0 (by decide) tw_255 rfl rfl dX7_judge_113 ?_
                refine xw_get hB hK hP (xw_o5 G (Or.inl rfl)) (C := RX5) (T := TX5) (N := 14) rfl TBi_X5 8 (by decide) tw_87 rfl rfl dX7_judge_116 ?_
                refine lv_aload_n hx hb dX7_judge_119 rfl (lv_at hl 0 rfl) ?_
                refine xw_get hB hK hP (xw_o7 G) (C := RX7) (T := TX7) (N := 11) rfl TBi_X7 0 (by decide) tw_255 rfl rfl dX7_judge_120 ?_
                refine xw_get hB hK hP (xw_o5 G (Or.inl rfl)) (C := RX5) (T := TX5) (N := 14) rfl TBi_X5 7 (by decide) tw_84 rfl rfl dX7_judge_123 ?_
                replace hf := xw_b_e hf
                obtain ⟨r22, w23, he24, hf⟩ := hf
                refine xw_Vi hB hK hE hS hP (As := [.ref (xw_ad G 1), .int x4, .int (w.1 1 8), .int (w.1 1 7)]) (rest := [.long r20]) (kX4_share l G hG n 1 x4 (w.1 1 8) (w.1 1 7) (Or.inl rfl) w _ _ he24) gs_X7_122 (xw_rc hK hP (C := RX4) (T := TX4) (N := 3) (xw_o4 G) rfl) 4 hv_X4_share ⟨Nat.le_of_ble_eq_true rfl, Nat.le_of_ble_eq_true rfl⟩ rfl hl.1 (Nat.le_of_ble_eq_true rfl) rfl dX7_judge_126 ⟨Nat.zero_le _, Nat.zero_le _⟩ (fun H locs hP hS => ?_)
                refine lv_i2l hx hb dX7_judge_129 rfl ?_
                refine W.lcmp hx hb dX7_judge_130 ?_
                refine lv_if_eq (tgt := 137) hx hb dX7_judge_131 (by decide) (fun c25 => ?_) (fun c25 => ?_)
                · replace hf := xw_ip c25 hf
                  obtain ⟨x4_26, ex4_26⟩ : ∃ y : Int32, y = x4 + 1 := ⟨_, rfl⟩
                  replace hf := xw_lt_e ex4_26 hf
                  refine lv_iinc (v := x4_26) (lv' := [(4, .int x4_26), (0, .ref (xw_ad G 0)), (2, .int a2), (3, .ref (xw_ad G x3))]) hx hb dX7_judge_137 hl (k := 3) rfl (by rw [ex4_26]; rfl) (by decide) rfl (fun ls hl => ?_)
                  refine lv_goto (tgt := 61) hx hb dX7_judge_140 (by decide) ?_
                  have hi := hC61 _ (xw_so hf).symm
                  exact ih61 x4_26 w23 hi H locs ls hP hS (lv_sub hl [1, 2, 3, 0] rfl)
                · replace hf := xw_in' c25 hf
                  refine lv_iload hx hb dX7_judge_134 (lv_at hl 3 rfl) ?_
                  have he61 := hX61 _ (xw_so hf).symm
                  rw [← he61] at hfx61
                  replace hfx61 : some (x4, w23) = some (r0, wz) := hfx61
                  obtain ⟨h0, h1⟩ := xw_s2 hfx61
                  exact xw_iret hB hK hE hS hP hr hlk h0 h1 dX7_judge_136
              · replace hf := xw_in' c19 hf
                refine lv_bipush (v := 100) hx hb dX7_judge_88 (by decide) ?_
                refine lv_iload hx hb dX7_judge_90 (lv_at hl 3 rfl) ?_
                refine lv_iadd hx hb dX7_judge_92 ?_
                have he61 := hX61 _ (xw_so hf).symm
                rw [← he61] at hfx61
                replace hfx61 : some ((100 : Int32) + x4, w) = some (r0, wz) := hfx61
                obtain ⟨h0, h1⟩ := xw_s2 hfx61
                exact xw_iret hB hK hE hS hP hr hlk h0 h1 dX7_judge_93
      exact LL61 n x4 w hit61 H locs ls hP hS hl
    have J30 : ∀ (x3 : Nat) (hx3 : xw_tp x3) (w : xw_M) (hf : fX7_judge_30 n a1 a2 x3 w = some (r0, wz)) (H : Heap) (locs : List Loc) (ls : Array Slot) (hP : va_P (xw_D G) xw_cl (xw_W G w) H) (hS : va_S (xw_A G) s.heap H locs) (hl : lv_has ls 5 [(0, .ref (xw_ad G 0)), (2, .int a2), (3, .ref (xw_ad G x3))]), xw_Wi G p l e (xw_rm (4) (115)) s m args below meth c H locs r0 wz (F0 m 30 ls []) := by
      intro x3 hx3 w hf H locs ls hP hS hl
      unfold fX7_judge_30 at hf
      refine lv_aload_n hx hb dX7_judge_30 rfl (lv_at hl 0 rfl) ?_
      refine xw_get hB hK hP (xw_o7 G) (C := RX7) (T := TX7) (N := 11) rfl TBi_X7 0 (by decide) tw_255 rfl rfl dX7_judge_31 ?_
      refine xw_get hB hK hP (xw_o5 G (Or.inl rfl)) (C := RX5) (T := TX5) (N := 14) rfl TBi_X5 0 (by decide) tw_62 rfl rfl dX7_judge_34 ?_
      refine lv_if_ne (tgt := 43) hx hb dX7_judge_37 (by decide) (fun c9 => ?_) (fun c9 => ?_)
      · replace hf := xw_in' c9 hf
        refine lv_aload_n hx hb dX7_judge_43 rfl (lv_at hl 0 rfl) ?_
        refine xw_get hB hK hP (xw_o7 G) (C := RX7) (T := TX7) (N := 11) rfl TBi_X7 8 (by decide) tw_263 rfl rfl dX7_judge_44 ?_
        refine lv_aload_n hx hb dX7_judge_47 rfl (lv_at hl 0 rfl) ?_
        refine xw_get hB hK hP (xw_o7 G) (C := RX7) (T := TX7) (N := 11) rfl TBi_X7 0 (by decide) tw_255 rfl rfl dX7_judge_48 ?_
        refine lv_aload_n hx hb dX7_judge_51 rfl (lv_at hl 0 rfl) ?_
        replace hf := xw_bp_e hf
        obtain ⟨r10, he11, hf⟩ := hf
        refine xw_Vq hB hK hE hS hP (As := []) (rest := [.ref (xw_ad G 1), .ref (xw_ad G 64)]) (kX7_held l G hG w _ he11) gs_X7_108 (xw_rc hK hP (C := RX7) (T := TX7) (N := 11) (xw_o7 G) rfl) 0 hv_X7_held ⟨Nat.le_of_ble_eq_true rfl, Nat.le_of_ble_eq_true rfl⟩ rfl hl.1 (Nat.le_of_ble_eq_true rfl) rfl dX7_judge_52 ⟨Nat.zero_le _, Nat.zero_le _⟩ (fun H locs hP hS => ?_)
        cases r10 with
        | none =>
          replace hf := xw_om_n hf
          cases hf
        | some t12 =>
          replace hf := xw_om_s hf
          replace hf := xw_cc_e hf
          obtain ⟨ht13, hf⟩ := hf
          replace hf := xw_b_e hf
          obtain ⟨r14, w15, he16, hf⟩ := hf
          refine xw_Vv hB hK hE hS hP (As := [.ref (xw_ad G 1), .ref (xw_ad G t12)]) (rest := []) (kX4_look l G hG n 1 t12 (Or.inl rfl) ht13 w _ _ he16) gs_X7_112 (xw_rc hK hP (C := RX4) (T := TX4) (N := 3) (xw_o4 G) rfl) 2 hv_X4_look ⟨Nat.le_of_ble_eq_true rfl, Nat.le_of_ble_eq_true rfl⟩ rfl hl.1 (Nat.le_of_ble_eq_true rfl) rfl dX7_judge_55 ⟨Nat.zero_le _, Nat.zero_le _⟩ (fun H locs hP hS => ?_)
          refine lv_iconst (v := 0) hx hb dX7_judge_58 (by decide) ?_
          refine lv_istore (lv' := [(4, .int (0 : Int32)), (0, .ref (xw_ad G 0)), (2, .int a2), (3, .ref (xw_ad G x3))]) hx hb dX7_judge_59 hl (by decide) rfl (fun ls hl => ?_)
          exact J61 x3 (0 : Int32) hx3 w15 hf H locs ls hP hS (lv_sub hl [1, 2, 3, 0] rfl)
      · replace hf := xw_ip c9 hf
        refine lv_bipush (v := (-5)) hx hb dX7_judge_40 (by decide) ?_
        obtain ⟨h0, h1⟩ := xw_s2 hf
        exact xw_iret hB hK hE hS hP hr hlk h0 h1 dX7_judge_42
    refine lv_aload_n hx hb dX7_judge_0 rfl (lv_at hl 0 rfl) ?_
    refine lv_iload_n hx hb dX7_judge_1 rfl (lv_at hl 1 rfl) ?_
    replace hf := xw_bp_e hf
    obtain ⟨r1, he2, hf⟩ := hf
    refine xw_Vq hB hK hE hS hP (As := [.int a1]) (rest := []) (kX7_tapeAt l G hG a1 w0 _ he2) gs_X7_237 (xw_rc hK hP (C := RX7) (T := TX7) (N := 11) (xw_o7 G) rfl) 1 hv_X7_tapeAt ⟨Nat.le_of_ble_eq_true rfl, Nat.le_of_ble_eq_true rfl⟩ rfl hl.1 (Nat.le_of_ble_eq_true rfl) rfl dX7_judge_2 ⟨Nat.zero_le _, Nat.zero_le _⟩ (fun H locs hP hS => ?_)
    cases r1 with
    | none =>
      replace hf := xw_om_n hf
      refine lv_astore_nN (lv' := [(3, .null), (0, .ref (xw_ad G 0)), (1, .int a1), (2, .int a2)]) hx hb dX7_judge_5 rfl hl (by decide) rfl (fun ls hl => ?_)
      refine lv_aload_nN hx hb dX7_judge_6 rfl (lv_at hl 0 rfl) ?_
      refine lv_ifnonnullN hx hb dX7_judge_7 ?_
      refine lv_iconst (v := (-1)) hx hb dX7_judge_10 (by decide) ?_
      obtain ⟨h0, h1⟩ := xw_s2 hf
      exact xw_iret hB hK hE hS hP hr hlk h0 h1 dX7_judge_11
    | some t3 =>
      replace hf := xw_om_s hf
      replace hf := xw_cc_e hf
      obtain ⟨ht4, hf⟩ := hf
      refine lv_astore_n (lv' := [(3, .ref (xw_ad G t3)), (0, .ref (xw_ad G 0)), (1, .int a1), (2, .int a2)]) hx hb dX7_judge_5 rfl hl (by decide) rfl (fun ls hl => ?_)
      refine lv_aload_n hx hb dX7_judge_6 rfl (lv_at hl 0 rfl) ?_
      refine lv_ifnonnull (tgt := 12) hx hb dX7_judge_7 (by decide) ?_
      refine lv_aload_n hx hb dX7_judge_12 rfl (lv_at hl 0 rfl) ?_
      replace hf := xw_bp_e hf
      obtain ⟨r5, he6, hf⟩ := hf
      refine xw_Vi hB hK hE hS hP (As := []) (rest := []) (kX6_holdsRow l G hG t3 ht4 w0 _ he6) gs_X7_241 (xw_rc hK hP (C := RX6) (T := TX6) (N := 3) (xw_o6 G ht4) rfl) 0 hv_X6_holdsRow ⟨Nat.le_of_ble_eq_true rfl, Nat.le_of_ble_eq_true rfl⟩ rfl hl.1 (Nat.le_of_ble_eq_true rfl) rfl dX7_judge_13 ⟨Nat.zero_le _, Nat.zero_le _⟩ (fun H locs hP hS => ?_)
      refine lv_if_eq (tgt := 30) hx hb dX7_judge_16 (by decide) (fun c7 => ?_) (fun c7 => ?_)
      · replace hf := xw_ip c7 hf
        exact J30 t3 ht4 w0 hf H locs ls hP hS (lv_sub hl [1, 3, 0] rfl)
      · replace hf := xw_in' c7 hf
        refine lv_aload_n hx hb dX7_judge_19 rfl (lv_at hl 0 rfl) ?_
        refine xw_get hB hK hP (xw_o6 G ht4) (C := RX6) (T := TX6) (N := 3) rfl TBi_X6 0 (by decide) tw_242 rfl rfl dX7_judge_20 ?_
        refine lv_iconst (v := 1) hx hb dX7_judge_23 (by decide) ?_
        refine lv_icmp_eq (tgt := 30) hx hb dX7_judge_24 (by decide) (fun c8 => ?_) (fun c8 => ?_)
        · replace hf := xw_ip c8 hf
          exact J30 t3 ht4 w0 hf H locs ls hP hS (lv_sub hl [1, 3, 0] rfl)
        · replace hf := xw_in' c8 hf
          refine lv_bipush (v := (-12)) hx hb dX7_judge_27 (by decide) ?_
          obtain ⟨h0, h1⟩ := xw_s2 hf
          exact xw_iret hB hK hE hS hP hr hlk h0 h1 dX7_judge_29
  exact HH s.heap [] hP hS
