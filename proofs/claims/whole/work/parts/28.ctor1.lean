set_option maxHeartbeats 8000000 in
set_option maxRecDepth 100000 in
theorem iX1_8 (l : Launch) (G : xw_G) (P : Nat → Nat × va_E) (a : Nat) (hP0 : P 8 = (a, .inr (1, [.int 0, .null, .null, .int 0]))) : xn_T l G yX1_init cX1_init 2 1 40 2 16 [.ref a, .int (5)] 9 P 11 (fun u => ∃ q : Nat → Nat, (∀ k, k < 8 → u k = P k ∧ q k = (P k).1) ∧ q 8 = a ∧ ∀ k, 8 ≤ k → k < 11 → u k = (q k, xw_cell (xn_G G q) k (xn_m0.1 k) (xn_m0.2 k))) := by
  unfold xn_T
  refine Met.ofW (cc := cX1_init) (maxL := 2) (ret := none) (by decide) rfl ?_
  intro p e s m args below meth c s₁ B hml hv
  obtain ⟨hargs, hP, hK, hD, hE, hO, h0⟩ := hv
  have hx := B.exec
  have hb := B.bytes
  have hr := B.returns
  have hlk := B.notSynchronized
  have hin : meth.name = "<init>" := (name_of_methodNamed B.named B.method).1
  have hB : CallFix p m c cX1_init 2 s args TB RX1 := ⟨hx, hb, hml, findClass_of_methodNamed B.named, fun q h => (atoms_spec (ws := Cond.code yX1_init cX1_init 2 none :: TB) B.pre) q (List.mem_cons_of_mem _ h)⟩
  have hS : va_S (xw_A G) s.heap s.heap [] := va_S.rf
  have hl := lv_entry [.ref a, .int (5)] (n := 2) (Nat.le_of_ble_eq_true rfl)
  rw [show entryFrame m args 2 = entryFrame m ([.ref a, .int (5)] : List Value).toArray 2 from by rw [hargs], lg_entry_eq]
  generalize (lg_sl [.ref a, .int (5)] ++ List.replicate (2 - (lg_sl [.ref a, .int (5)]).length) Slot.unset).toArray = ls at hl ⊢
  have hl : lv_has ls 2 [(0, .ref a), (1, .int (5))] := hl
  skip
  refine lv_aload_n hx hb dX1_init_0 rfl (lv_at hl 0 rfl) ?_
  refine xn_obj hB tn_X1_obj tn_objI tn_objC hl.1 dX1_init_1 (Nat.le_of_ble_eq_true rfl) (Nat.le_of_ble_eq_true rfl) ?_
  refine lv_aload_n hx hb dX1_init_4 rfl (lv_at hl 0 rfl) ?_
  refine lv_bipush (v := (8)) hx hb dX1_init_5 (by decide) ?_
  refine xn_newaI hB hK h0 hS hP hD (n := 8) tw_59 (by decide) (by decide) (by decide) (Nat.le_of_ble_eq_true rfl) (Nat.le_of_ble_eq_true rfl) dX1_init_7 (fun q1 P2 eP2 H hP hD hS => ?_)
  have f3 : P2 8 = (a, .inr (1, [.int 0, .null, .null, .int 0])) := by rw [eP2, va_up_ne _ _ (by decide)]; exact hP0
  have f4 : P2 9 = (q1, .inl (xw_q G 0, 8, .inl (fun _ => 0))) := by rw [eP2, va_up_self]
  refine xn_putF hB hK h0 hS hP hD (ci := 1) (k := 8) (C := RX1) (T := TX1) (Nf := 4) (fs' := [.int 0, .ref q1, .null, .int 0]) (by decide) f3 rfl TBi_X1 tyX1 tyX1_ok nmX1 1 (by decide) tw_41 rfl rfl hin rfl rfl rfl rfl (Nat.le_of_ble_eq_true rfl) rfl dX1_init_9 (fun P5 eP5 H locs hP hD hS => ?_)
  have f6 : P5 8 = (a, .inr (1, [.int 0, .ref q1, .null, .int 0])) := by rw [eP5, va_up_self]
  refine lv_aload_n hx hb dX1_init_12 rfl (lv_at hl 0 rfl) ?_
  refine lv_bipush (v := (8)) hx hb dX1_init_13 (by decide) ?_
  refine xn_newaI hB hK h0 hS hP hD (n := 8) tw_59 (by decide) (by decide) (by decide) (Nat.le_of_ble_eq_true rfl) (Nat.le_of_ble_eq_true rfl) dX1_init_15 (fun q7 P8 eP8 H hP hD hS => ?_)
  have f9 : P8 8 = (a, .inr (1, [.int 0, .ref q1, .null, .int 0])) := by rw [eP8, va_up_ne _ _ (by decide)]; exact f6
  have f10 : P8 10 = (q7, .inl (xw_q G 0, 8, .inl (fun _ => 0))) := by rw [eP8, va_up_self]
  refine xn_putF hB hK h0 hS hP hD (ci := 1) (k := 8) (C := RX1) (T := TX1) (Nf := 4) (fs' := [.int 0, .ref q1, .ref q7, .int 0]) (by decide) f9 rfl TBi_X1 tyX1 tyX1_ok nmX1 2 (by decide) tw_44 rfl rfl hin rfl rfl rfl rfl (Nat.le_of_ble_eq_true rfl) rfl dX1_init_17 (fun P11 eP11 H locs hP hD hS => ?_)
  have f12 : P11 8 = (a, .inr (1, [.int 0, .ref q1, .ref q7, .int 0])) := by rw [eP11, va_up_self]
  refine lv_aload_n hx hb dX1_init_20 rfl (lv_at hl 0 rfl) ?_
  refine lv_iload_n hx hb dX1_init_21 rfl (lv_at hl 1 rfl) ?_
  refine lv_bipush (v := (8)) hx hb dX1_init_22 (by decide) ?_
  refine va_mmin hx hb (hB.2.2.1.trans hl.1.symm) hB.2.2.2.1 (hB.2.2.2.2 _ tn_min) (hB.2.2.2.2 _ tm_38) (hB.2.2.2.2 _ tw_4) (hB.2.2.2.2 _ tm_39) (Nat.le_of_ble_eq_true rfl) (Nat.le_of_ble_eq_true rfl) (Nat.le_of_ble_eq_true rfl) (Nat.le_of_ble_eq_true rfl) dX1_init_24 ?_
  rw [show (if (8 : Int32) < 5 then (8 : Int32) else 5) = 5 from by decide]
  refine xn_putF hB hK h0 hS hP hD (ci := 1) (k := 8) (C := RX1) (T := TX1) (Nf := 4) (fs' := [.int (5), .ref q1, .ref q7, .int 0]) (by decide) f12 rfl TBi_X1 tyX1 tyX1_ok nmX1 0 (by decide) tw_40 rfl rfl hin rfl rfl rfl rfl (Nat.le_of_ble_eq_true rfl) rfl dX1_init_27 (fun P13 eP13 H locs hP hD hS => ?_)
  have f14 : P13 8 = (a, .inr (1, [.int (5), .ref q1, .ref q7, .int 0])) := by rw [eP13, va_up_self]
  have z15 : P13 9 = (q1, .inl (xw_q G 0, 8, .inl (fun _ => 0))) := by rw [eP13, va_up_ne _ _ (by decide), eP11, va_up_ne _ _ (by decide), eP8, va_up_ne _ _ (by decide), eP5, va_up_ne _ _ (by decide)]; exact f4
  have z16 : P13 10 = (q7, .inl (xw_q G 0, 8, .inl (fun _ => 0))) := by rw [eP13, va_up_ne _ _ (by decide), eP11, va_up_ne _ _ (by decide)]; exact f10
  obtain ⟨qq, hqq⟩ : ∃ z : Nat → Nat, z = fun k => if k < 8 then (P k).1 else if k < 9 then a else if k < 10 then q1 else q7 := ⟨_, rfl⟩
  refine xn_ret hB hK h0 hS hP hD hE hO hr hlk ⟨qq, fun k hk => ⟨?_, ?_⟩, by rw [hqq]; rfl, fun k hk1 hk2 => ?_⟩ (Nat.le_of_ble_eq_true rfl) (Nat.le_of_ble_eq_true rfl) dX1_init_30
  · rw [eP13, va_up_ne _ _ (by omega), eP11, va_up_ne _ _ (by omega), eP8, va_up_ne _ _ (by omega), eP5, va_up_ne _ _ (by omega), eP2, va_up_ne _ _ (by omega)]
  · rw [hqq]; exact if_pos hk
  · rcases (show k = 8 ∨ k = 9 ∨ k = 10 by omega) with rfl | rfl | rfl
    · rw [f14, hqq]; rfl
    · rw [z15, hqq]; rfl
    · rw [z16, hqq]; rfl
set_option maxHeartbeats 8000000 in
set_option maxRecDepth 100000 in
theorem iX1_11 (l : Launch) (G : xw_G) (P : Nat → Nat × va_E) (a : Nat) (hP0 : P 11 = (a, .inr (1, [.int 0, .null, .null, .int 0]))) : xn_T l G yX1_init cX1_init 2 1 40 2 16 [.ref a, .int (8)] 12 P 14 (fun u => ∃ q : Nat → Nat, (∀ k, k < 11 → u k = P k ∧ q k = (P k).1) ∧ q 11 = a ∧ ∀ k, 11 ≤ k → k < 14 → u k = (q k, xw_cell (xn_G G q) k (xn_m0.1 k) (xn_m0.2 k))) := by
  unfold xn_T
  refine Met.ofW (cc := cX1_init) (maxL := 2) (ret := none) (by decide) rfl ?_
  intro p e s m args below meth c s₁ B hml hv
  obtain ⟨hargs, hP, hK, hD, hE, hO, h0⟩ := hv
  have hx := B.exec
  have hb := B.bytes
  have hr := B.returns
  have hlk := B.notSynchronized
  have hin : meth.name = "<init>" := (name_of_methodNamed B.named B.method).1
  have hB : CallFix p m c cX1_init 2 s args TB RX1 := ⟨hx, hb, hml, findClass_of_methodNamed B.named, fun q h => (atoms_spec (ws := Cond.code yX1_init cX1_init 2 none :: TB) B.pre) q (List.mem_cons_of_mem _ h)⟩
  have hS : va_S (xw_A G) s.heap s.heap [] := va_S.rf
  have hl := lv_entry [.ref a, .int (8)] (n := 2) (Nat.le_of_ble_eq_true rfl)
  rw [show entryFrame m args 2 = entryFrame m ([.ref a, .int (8)] : List Value).toArray 2 from by rw [hargs], lg_entry_eq]
  generalize (lg_sl [.ref a, .int (8)] ++ List.replicate (2 - (lg_sl [.ref a, .int (8)]).length) Slot.unset).toArray = ls at hl ⊢
  have hl : lv_has ls 2 [(0, .ref a), (1, .int (8))] := hl
  skip
  refine lv_aload_n hx hb dX1_init_0 rfl (lv_at hl 0 rfl) ?_
  refine xn_obj hB tn_X1_obj tn_objI tn_objC hl.1 dX1_init_1 (Nat.le_of_ble_eq_true rfl) (Nat.le_of_ble_eq_true rfl) ?_
  refine lv_aload_n hx hb dX1_init_4 rfl (lv_at hl 0 rfl) ?_
  refine lv_bipush (v := (8)) hx hb dX1_init_5 (by decide) ?_
  refine xn_newaI hB hK h0 hS hP hD (n := 8) tw_59 (by decide) (by decide) (by decide) (Nat.le_of_ble_eq_true rfl) (Nat.le_of_ble_eq_true rfl) dX1_init_7 (fun q1 P2 eP2 H hP hD hS => ?_)
  have f3 : P2 11 = (a, .inr (1, [.int 0, .null, .null, .int 0])) := by rw [eP2, va_up_ne _ _ (by decide)]; exact hP0
  have f4 : P2 12 = (q1, .inl (xw_q G 0, 8, .inl (fun _ => 0))) := by rw [eP2, va_up_self]
  refine xn_putF hB hK h0 hS hP hD (ci := 1) (k := 11) (C := RX1) (T := TX1) (Nf := 4) (fs' := [.int 0, .ref q1, .null, .int 0]) (by decide) f3 rfl TBi_X1 tyX1 tyX1_ok nmX1 1 (by decide) tw_41 rfl rfl hin rfl rfl rfl rfl (Nat.le_of_ble_eq_true rfl) rfl dX1_init_9 (fun P5 eP5 H locs hP hD hS => ?_)
  have f6 : P5 11 = (a, .inr (1, [.int 0, .ref q1, .null, .int 0])) := by rw [eP5, va_up_self]
  refine lv_aload_n hx hb dX1_init_12 rfl (lv_at hl 0 rfl) ?_
  refine lv_bipush (v := (8)) hx hb dX1_init_13 (by decide) ?_
  refine xn_newaI hB hK h0 hS hP hD (n := 8) tw_59 (by decide) (by decide) (by decide) (Nat.le_of_ble_eq_true rfl) (Nat.le_of_ble_eq_true rfl) dX1_init_15 (fun q7 P8 eP8 H hP hD hS => ?_)
  have f9 : P8 11 = (a, .inr (1, [.int 0, .ref q1, .null, .int 0])) := by rw [eP8, va_up_ne _ _ (by decide)]; exact f6
  have f10 : P8 13 = (q7, .inl (xw_q G 0, 8, .inl (fun _ => 0))) := by rw [eP8, va_up_self]
  refine xn_putF hB hK h0 hS hP hD (ci := 1) (k := 11) (C := RX1) (T := TX1) (Nf := 4) (fs' := [.int 0, .ref q1, .ref q7, .int 0]) (by decide) f9 rfl TBi_X1 tyX1 tyX1_ok nmX1 2 (by decide) tw_44 rfl rfl hin rfl rfl rfl rfl (Nat.le_of_ble_eq_true rfl) rfl dX1_init_17 (fun P11 eP11 H locs hP hD hS => ?_)
  have f12 : P11 11 = (a, .inr (1, [.int 0, .ref q1, .ref q7, .int 0])) := by rw [eP11, va_up_self]
  refine lv_aload_n hx hb dX1_init_20 rfl (lv_at hl 0 rfl) ?_
  refine lv_iload_n hx hb dX1_init_21 rfl (lv_at hl 1 rfl) ?_
  refine lv_bipush (v := (8)) hx hb dX1_init_22 (by decide) ?_
  refine va_mmin hx hb (hB.2.2.1.trans hl.1.symm) hB.2.2.2.1 (hB.2.2.2.2 _ tn_min) (hB.2.2.2.2 _ tm_38) (hB.2.2.2.2 _ tw_4) (hB.2.2.2.2 _ tm_39) (Nat.le_of_ble_eq_true rfl) (Nat.le_of_ble_eq_true rfl) (Nat.le_of_ble_eq_true rfl) (Nat.le_of_ble_eq_true rfl) dX1_init_24 ?_
  rw [show (if (8 : Int32) < 8 then (8 : Int32) else 8) = 8 from by decide]
  refine xn_putF hB hK h0 hS hP hD (ci := 1) (k := 11) (C := RX1) (T := TX1) (Nf := 4) (fs' := [.int (8), .ref q1, .ref q7, .int 0]) (by decide) f12 rfl TBi_X1 tyX1 tyX1_ok nmX1 0 (by decide) tw_40 rfl rfl hin rfl rfl rfl rfl (Nat.le_of_ble_eq_true rfl) rfl dX1_init_27 (fun P13 eP13 H locs hP hD hS => ?_)
  have f14 : P13 11 = (a, .inr (1, [.int (8), .ref q1, .ref q7, .int 0])) := by rw [eP13, va_up_self]
  have z15 : P13 12 = (q1, .inl (xw_q G 0, 8, .inl (fun _ => 0))) := by rw [eP13, va_up_ne _ _ (by decide), eP11, va_up_ne _ _ (by decide), eP8, va_up_ne _ _ (by decide), eP5, va_up_ne _ _ (by decide)]; exact f4
  have z16 : P13 13 = (q7, .inl (xw_q G 0, 8, .inl (fun _ => 0))) := by rw [eP13, va_up_ne _ _ (by decide), eP11, va_up_ne _ _ (by decide)]; exact f10
  obtain ⟨qq, hqq⟩ : ∃ z : Nat → Nat, z = fun k => if k < 11 then (P k).1 else if k < 12 then a else if k < 13 then q1 else q7 := ⟨_, rfl⟩
  refine xn_ret hB hK h0 hS hP hD hE hO hr hlk ⟨qq, fun k hk => ⟨?_, ?_⟩, by rw [hqq]; rfl, fun k hk1 hk2 => ?_⟩ (Nat.le_of_ble_eq_true rfl) (Nat.le_of_ble_eq_true rfl) dX1_init_30
  · rw [eP13, va_up_ne _ _ (by omega), eP11, va_up_ne _ _ (by omega), eP8, va_up_ne _ _ (by omega), eP5, va_up_ne _ _ (by omega), eP2, va_up_ne _ _ (by omega)]
  · rw [hqq]; exact if_pos hk
  · rcases (show k = 11 ∨ k = 12 ∨ k = 13 by omega) with rfl | rfl | rfl
    · rw [f14, hqq]; rfl
    · rw [z15, hqq]; rfl
    · rw [z16, hqq]; rfl
set_option maxHeartbeats 8000000 in
set_option maxRecDepth 100000 in
theorem iX1_14 (l : Launch) (G : xw_G) (P : Nat → Nat × va_E) (a : Nat) (hP0 : P 14 = (a, .inr (1, [.int 0, .null, .null, .int 0]))) : xn_T l G yX1_init cX1_init 2 1 40 2 16 [.ref a, .int (8)] 15 P 17 (fun u => ∃ q : Nat → Nat, (∀ k, k < 14 → u k = P k ∧ q k = (P k).1) ∧ q 14 = a ∧ ∀ k, 14 ≤ k → k < 17 → u k = (q k, xw_cell (xn_G G q) k (xn_m0.1 k) (xn_m0.2 k))) := by
  unfold xn_T
  refine Met.ofW (cc := cX1_init) (maxL := 2) (ret := none) (by decide) rfl ?_
  intro p e s m args below meth c s₁ B hml hv
  obtain ⟨hargs, hP, hK, hD, hE, hO, h0⟩ := hv
  have hx := B.exec
  have hb := B.bytes
  have hr := B.returns
  have hlk := B.notSynchronized
  have hin : meth.name = "<init>" := (name_of_methodNamed B.named B.method).1
  have hB : CallFix p m c cX1_init 2 s args TB RX1 := ⟨hx, hb, hml, findClass_of_methodNamed B.named, fun q h => (atoms_spec (ws := Cond.code yX1_init cX1_init 2 none :: TB) B.pre) q (List.mem_cons_of_mem _ h)⟩
  have hS : va_S (xw_A G) s.heap s.heap [] := va_S.rf
  have hl := lv_entry [.ref a, .int (8)] (n := 2) (Nat.le_of_ble_eq_true rfl)
  rw [show entryFrame m args 2 = entryFrame m ([.ref a, .int (8)] : List Value).toArray 2 from by rw [hargs], lg_entry_eq]
  generalize (lg_sl [.ref a, .int (8)] ++ List.replicate (2 - (lg_sl [.ref a, .int (8)]).length) Slot.unset).toArray = ls at hl ⊢
  have hl : lv_has ls 2 [(0, .ref a), (1, .int (8))] := hl
  skip
  refine lv_aload_n hx hb dX1_init_0 rfl (lv_at hl 0 rfl) ?_
  refine xn_obj hB tn_X1_obj tn_objI tn_objC hl.1 dX1_init_1 (Nat.le_of_ble_eq_true rfl) (Nat.le_of_ble_eq_true rfl) ?_
  refine lv_aload_n hx hb dX1_init_4 rfl (lv_at hl 0 rfl) ?_
  refine lv_bipush (v := (8)) hx hb dX1_init_5 (by decide) ?_
  refine xn_newaI hB hK h0 hS hP hD (n := 8) tw_59 (by decide) (by decide) (by decide) (Nat.le_of_ble_eq_true rfl) (Nat.le_of_ble_eq_true rfl) dX1_init_7 (fun q1 P2 eP2 H hP hD hS => ?_)
  have f3 : P2 14 = (a, .inr (1, [.int 0, .null, .null, .int 0])) := by rw [eP2, va_up_ne _ _ (by decide)]; exact hP0
  have f4 : P2 15 = (q1, .inl (xw_q G 0, 8, .inl (fun _ => 0))) := by rw [eP2, va_up_self]
  refine xn_putF hB hK h0 hS hP hD (ci := 1) (k := 14) (C := RX1) (T := TX1) (Nf := 4) (fs' := [.int 0, .ref q1, .null, .int 0]) (by decide) f3 rfl TBi_X1 tyX1 tyX1_ok nmX1 1 (by decide) tw_41 rfl rfl hin rfl rfl rfl rfl (Nat.le_of_ble_eq_true rfl) rfl dX1_init_9 (fun P5 eP5 H locs hP hD hS => ?_)
  have f6 : P5 14 = (a, .inr (1, [.int 0, .ref q1, .null, .int 0])) := by rw [eP5, va_up_self]
  refine lv_aload_n hx hb dX1_init_12 rfl (lv_at hl 0 rfl) ?_
  refine lv_bipush (v := (8)) hx hb dX1_init_13 (by decide) ?_
  refine xn_newaI hB hK h0 hS hP hD (n := 8) tw_59 (by decide) (by decide) (by decide) (Nat.le_of_ble_eq_true rfl) (Nat.le_of_ble_eq_true rfl) dX1_init_15 (fun q7 P8 eP8 H hP hD hS => ?_)
  have f9 : P8 14 = (a, .inr (1, [.int 0, .ref q1, .null, .int 0])) := by rw [eP8, va_up_ne _ _ (by decide)]; exact f6
  have f10 : P8 16 = (q7, .inl (xw_q G 0, 8, .inl (fun _ => 0))) := by rw [eP8, va_up_self]
  refine xn_putF hB hK h0 hS hP hD (ci := 1) (k := 14) (C := RX1) (T := TX1) (Nf := 4) (fs' := [.int 0, .ref q1, .ref q7, .int 0]) (by decide) f9 rfl TBi_X1 tyX1 tyX1_ok nmX1 2 (by decide) tw_44 rfl rfl hin rfl rfl rfl rfl (Nat.le_of_ble_eq_true rfl) rfl dX1_init_17 (fun P11 eP11 H locs hP hD hS => ?_)
  have f12 : P11 14 = (a, .inr (1, [.int 0, .ref q1, .ref q7, .int 0])) := by rw [eP11, va_up_self]
  refine lv_aload_n hx hb dX1_init_20 rfl (lv_at hl 0 rfl) ?_
  refine lv_iload_n hx hb dX1_init_21 rfl (lv_at hl 1 rfl) ?_
  refine lv_bipush (v := (8)) hx hb dX1_init_22 (by decide) ?_
  refine va_mmin hx hb (hB.2.2.1.trans hl.1.symm) hB.2.2.2.1 (hB.2.2.2.2 _ tn_min) (hB.2.2.2.2 _ tm_38) (hB.2.2.2.2 _ tw_4) (hB.2.2.2.2 _ tm_39) (Nat.le_of_ble_eq_true rfl) (Nat.le_of_ble_eq_true rfl) (Nat.le_of_ble_eq_true rfl) (Nat.le_of_ble_eq_true rfl) dX1_init_24 ?_
  rw [show (if (8 : Int32) < 8 then (8 : Int32) else 8) = 8 from by decide]
  refine xn_putF hB hK h0 hS hP hD (ci := 1) (k := 14) (C := RX1) (T := TX1) (Nf := 4) (fs' := [.int (8), .ref q1, .ref q7, .int 0]) (by decide) f12 rfl TBi_X1 tyX1 tyX1_ok nmX1 0 (by decide) tw_40 rfl rfl hin rfl rfl rfl rfl (Nat.le_of_ble_eq_true rfl) rfl dX1_init_27 (fun P13 eP13 H locs hP hD hS => ?_)
  have f14 : P13 14 = (a, .inr (1, [.int (8), .ref q1, .ref q7, .int 0])) := by rw [eP13, va_up_self]
  have z15 : P13 15 = (q1, .inl (xw_q G 0, 8, .inl (fun _ => 0))) := by rw [eP13, va_up_ne _ _ (by decide), eP11, va_up_ne _ _ (by decide), eP8, va_up_ne _ _ (by decide), eP5, va_up_ne _ _ (by decide)]; exact f4
  have z16 : P13 16 = (q7, .inl (xw_q G 0, 8, .inl (fun _ => 0))) := by rw [eP13, va_up_ne _ _ (by decide), eP11, va_up_ne _ _ (by decide)]; exact f10
  obtain ⟨qq, hqq⟩ : ∃ z : Nat → Nat, z = fun k => if k < 14 then (P k).1 else if k < 15 then a else if k < 16 then q1 else q7 := ⟨_, rfl⟩
  refine xn_ret hB hK h0 hS hP hD hE hO hr hlk ⟨qq, fun k hk => ⟨?_, ?_⟩, by rw [hqq]; rfl, fun k hk1 hk2 => ?_⟩ (Nat.le_of_ble_eq_true rfl) (Nat.le_of_ble_eq_true rfl) dX1_init_30
  · rw [eP13, va_up_ne _ _ (by omega), eP11, va_up_ne _ _ (by omega), eP8, va_up_ne _ _ (by omega), eP5, va_up_ne _ _ (by omega), eP2, va_up_ne _ _ (by omega)]
  · rw [hqq]; exact if_pos hk
  · rcases (show k = 14 ∨ k = 15 ∨ k = 16 by omega) with rfl | rfl | rfl
    · rw [f14, hqq]; rfl
    · rw [z15, hqq]; rfl
    · rw [z16, hqq]; rfl
set_option maxHeartbeats 8000000 in
set_option maxRecDepth 100000 in
theorem iX5_1 (l : Launch) (G : xw_G) (P : Nat → Nat × va_E) (a : Nat) (hP0 : P 1 = (a, .inr (5, [.int 0, .null, .null, .null, .null, .null, .null, .int 0, .int 0, .int 0, .int 0, .null, .null, .null]))) : xn_T l G yX5_init cX5_init 1 2 61 15 114 [.ref a] 2 P 17 (fun u => ∃ q : Nat → Nat, (∀ k, k < 1 → u k = P k ∧ q k = (P k).1) ∧ q 1 = a ∧ ∀ k, 1 ≤ k → k < 17 → u k = (q k, xw_cell (xn_G G q) k (xn_m0.1 k) (xn_m0.2 k))) := by
  unfold xn_T
  refine Met.ofW (cc := cX5_init) (maxL := 1) (ret := none) (by decide) rfl ?_
  intro p e s m args below meth c s₁ B hml hv
  obtain ⟨hargs, hP, hK, hD, hE, hO, h0⟩ := hv
  have hx := B.exec
  have hb := B.bytes
  have hr := B.returns
  have hlk := B.notSynchronized
  have hin : meth.name = "<init>" := (name_of_methodNamed B.named B.method).1
  have hB : CallFix p m c cX5_init 1 s args TB RX5 := ⟨hx, hb, hml, findClass_of_methodNamed B.named, fun q h => (atoms_spec (ws := Cond.code yX5_init cX5_init 1 none :: TB) B.pre) q (List.mem_cons_of_mem _ h)⟩
  have hS : va_S (xw_A G) s.heap s.heap [] := va_S.rf
  have hl := lv_entry [.ref a] (n := 1) (Nat.le_of_ble_eq_true rfl)
  rw [show entryFrame m args 1 = entryFrame m ([.ref a] : List Value).toArray 1 from by rw [hargs], lg_entry_eq]
  generalize (lg_sl [.ref a] ++ List.replicate (1 - (lg_sl [.ref a]).length) Slot.unset).toArray = ls at hl ⊢
  have hl : lv_has ls 1 [(0, .ref a)] := hl
  skip
  refine lv_aload_n hx hb dX5_init_0 rfl (lv_at hl 0 rfl) ?_
  refine xn_obj hB tn_X5_obj tn_objI tn_objC hl.1 dX5_init_1 (Nat.le_of_ble_eq_true rfl) (Nat.le_of_ble_eq_true rfl) ?_
  refine lv_aload_n hx hb dX5_init_4 rfl (lv_at hl 0 rfl) ?_
  refine lv_bipush (v := (6)) hx hb dX5_init_5 (by decide) ?_
  refine xn_newaI hB hK h0 hS hP hD (n := 6) tw_59 (by decide) (by decide) (by decide) (Nat.le_of_ble_eq_true rfl) (Nat.le_of_ble_eq_true rfl) dX5_init_7 (fun q1 P2 eP2 H hP hD hS => ?_)
  have f3 : P2 1 = (a, .inr (5, [.int 0, .null, .null, .null, .null, .null, .null, .int 0, .int 0, .int 0, .int 0, .null, .null, .null])) := by rw [eP2, va_up_ne _ _ (by decide)]; exact hP0
  have f4 : P2 2 = (q1, .inl (xw_q G 0, 6, .inl (fun _ => 0))) := by rw [eP2, va_up_self]
  refine xn_putF hB hK h0 hS hP hD (ci := 5) (k := 1) (C := RX5) (T := TX5) (Nf := 14) (fs' := [.int 0, .ref q1, .null, .null, .null, .null, .null, .int 0, .int 0, .int 0, .int 0, .null, .null, .null]) (by decide) f3 rfl TBi_X5 tyX5 tyX5_ok nmX5 1 (by decide) tw_63 rfl rfl hin rfl rfl rfl rfl (Nat.le_of_ble_eq_true rfl) rfl dX5_init_9 (fun P5 eP5 H locs hP hD hS => ?_)
  have f6 : P5 1 = (a, .inr (5, [.int 0, .ref q1, .null, .null, .null, .null, .null, .int 0, .int 0, .int 0, .int 0, .null, .null, .null])) := by rw [eP5, va_up_self]
  refine lv_aload_n hx hb dX5_init_12 rfl (lv_at hl 0 rfl) ?_
  refine lv_bipush (v := (6)) hx hb dX5_init_13 (by decide) ?_
  refine xn_newaI hB hK h0 hS hP hD (n := 6) tw_59 (by decide) (by decide) (by decide) (Nat.le_of_ble_eq_true rfl) (Nat.le_of_ble_eq_true rfl) dX5_init_15 (fun q7 P8 eP8 H hP hD hS => ?_)
  have f9 : P8 1 = (a, .inr (5, [.int 0, .ref q1, .null, .null, .null, .null, .null, .int 0, .int 0, .int 0, .int 0, .null, .null, .null])) := by rw [eP8, va_up_ne _ _ (by decide)]; exact f6
  have f10 : P8 3 = (q7, .inl (xw_q G 0, 6, .inl (fun _ => 0))) := by rw [eP8, va_up_self]
  refine xn_putF hB hK h0 hS hP hD (ci := 5) (k := 1) (C := RX5) (T := TX5) (Nf := 14) (fs' := [.int 0, .ref q1, .ref q7, .null, .null, .null, .null, .int 0, .int 0, .int 0, .int 0, .null, .null, .null]) (by decide) f9 rfl TBi_X5 tyX5 tyX5_ok nmX5 2 (by decide) tw_67 rfl rfl hin rfl rfl rfl rfl (Nat.le_of_ble_eq_true rfl) rfl dX5_init_17 (fun P11 eP11 H locs hP hD hS => ?_)
  have f12 : P11 1 = (a, .inr (5, [.int 0, .ref q1, .ref q7, .null, .null, .null, .null, .int 0, .int 0, .int 0, .int 0, .null, .null, .null])) := by rw [eP11, va_up_self]
  refine lv_aload_n hx hb dX5_init_20 rfl (lv_at hl 0 rfl) ?_
  refine lv_bipush (v := (6)) hx hb dX5_init_21 (by decide) ?_
  refine xn_newaI hB hK h0 hS hP hD (n := 6) tw_59 (by decide) (by decide) (by decide) (Nat.le_of_ble_eq_true rfl) (Nat.le_of_ble_eq_true rfl) dX5_init_23 (fun q13 P14 eP14 H hP hD hS => ?_)
  have f15 : P14 1 = (a, .inr (5, [.int 0, .ref q1, .ref q7, .null, .null, .null, .null, .int 0, .int 0, .int 0, .int 0, .null, .null, .null])) := by rw [eP14, va_up_ne _ _ (by decide)]; exact f12
  have f16 : P14 4 = (q13, .inl (xw_q G 0, 6, .inl (fun _ => 0))) := by rw [eP14, va_up_self]
  refine xn_putF hB hK h0 hS hP hD (ci := 5) (k := 1) (C := RX5) (T := TX5) (Nf := 14) (fs' := [.int 0, .ref q1, .ref q7, .ref q13, .null, .null, .null, .int 0, .int 0, .int 0, .int 0, .null, .null, .null]) (by decide) f15 rfl TBi_X5 tyX5 tyX5_ok nmX5 3 (by decide) tw_71 rfl rfl hin rfl rfl rfl rfl (Nat.le_of_ble_eq_true rfl) rfl dX5_init_25 (fun P17 eP17 H locs hP hD hS => ?_)
  have f18 : P17 1 = (a, .inr (5, [.int 0, .ref q1, .ref q7, .ref q13, .null, .null, .null, .int 0, .int 0, .int 0, .int 0, .null, .null, .null])) := by rw [eP17, va_up_self]
  refine lv_aload_n hx hb dX5_init_28 rfl (lv_at hl 0 rfl) ?_
  refine lv_bipush (v := (6)) hx hb dX5_init_29 (by decide) ?_
  refine xn_newaI hB hK h0 hS hP hD (n := 6) tw_59 (by decide) (by decide) (by decide) (Nat.le_of_ble_eq_true rfl) (Nat.le_of_ble_eq_true rfl) dX5_init_31 (fun q19 P20 eP20 H hP hD hS => ?_)
  have f21 : P20 1 = (a, .inr (5, [.int 0, .ref q1, .ref q7, .ref q13, .null, .null, .null, .int 0, .int 0, .int 0, .int 0, .null, .null, .null])) := by rw [eP20, va_up_ne _ _ (by decide)]; exact f18
  have f22 : P20 5 = (q19, .inl (xw_q G 0, 6, .inl (fun _ => 0))) := by rw [eP20, va_up_self]
  refine xn_putF hB hK h0 hS hP hD (ci := 5) (k := 1) (C := RX5) (T := TX5) (Nf := 14) (fs' := [.int 0, .ref q1, .ref q7, .ref q13, .ref q19, .null, .null, .int 0, .int 0, .int 0, .int 0, .null, .null, .null]) (by decide) f21 rfl TBi_X5 tyX5 tyX5_ok nmX5 4 (by decide) tw_74 rfl rfl hin rfl rfl rfl rfl (Nat.le_of_ble_eq_true rfl) rfl dX5_init_33 (fun P23 eP23 H locs hP hD hS => ?_)
  have f24 : P23 1 = (a, .inr (5, [.int 0, .ref q1, .ref q7, .ref q13, .ref q19, .null, .null, .int 0, .int 0, .int 0, .int 0, .null, .null, .null])) := by rw [eP23, va_up_self]
  refine lv_aload_n hx hb dX5_init_36 rfl (lv_at hl 0 rfl) ?_
  refine lv_bipush (v := (6)) hx hb dX5_init_37 (by decide) ?_
  refine xn_newaI hB hK h0 hS hP hD (n := 6) tw_59 (by decide) (by decide) (by decide) (Nat.le_of_ble_eq_true rfl) (Nat.le_of_ble_eq_true rfl) dX5_init_39 (fun q25 P26 eP26 H hP hD hS => ?_)
  have f27 : P26 1 = (a, .inr (5, [.int 0, .ref q1, .ref q7, .ref q13, .ref q19, .null, .null, .int 0, .int 0, .int 0, .int 0, .null, .null, .null])) := by rw [eP26, va_up_ne _ _ (by decide)]; exact f24
  have f28 : P26 6 = (q25, .inl (xw_q G 0, 6, .inl (fun _ => 0))) := by rw [eP26, va_up_self]
  refine xn_putF hB hK h0 hS hP hD (ci := 5) (k := 1) (C := RX5) (T := TX5) (Nf := 14) (fs' := [.int 0, .ref q1, .ref q7, .ref q13, .ref q19, .ref q25, .null, .int 0, .int 0, .int 0, .int 0, .null, .null, .null]) (by decide) f27 rfl TBi_X5 tyX5 tyX5_ok nmX5 5 (by decide) tw_77 rfl rfl hin rfl rfl rfl rfl (Nat.le_of_ble_eq_true rfl) rfl dX5_init_41 (fun P29 eP29 H locs hP hD hS => ?_)
  have f30 : P29 1 = (a, .inr (5, [.int 0, .ref q1, .ref q7, .ref q13, .ref q19, .ref q25, .null, .int 0, .int 0, .int 0, .int 0, .null, .null, .null])) := by rw [eP29, va_up_self]
  refine lv_aload_n hx hb dX5_init_44 rfl (lv_at hl 0 rfl) ?_
  refine lv_bipush (v := (24)) hx hb dX5_init_45 (by decide) ?_
  refine xn_newaI hB hK h0 hS hP hD (n := 24) tw_59 (by decide) (by decide) (by decide) (Nat.le_of_ble_eq_true rfl) (Nat.le_of_ble_eq_true rfl) dX5_init_47 (fun q31 P32 eP32 H hP hD hS => ?_)
  have f33 : P32 1 = (a, .inr (5, [.int 0, .ref q1, .ref q7, .ref q13, .ref q19, .ref q25, .null, .int 0, .int 0, .int 0, .int 0, .null, .null, .null])) := by rw [eP32, va_up_ne _ _ (by decide)]; exact f30
  have f34 : P32 7 = (q31, .inl (xw_q G 0, 24, .inl (fun _ => 0))) := by rw [eP32, va_up_self]
  refine xn_putF hB hK h0 hS hP hD (ci := 5) (k := 1) (C := RX5) (T := TX5) (Nf := 14) (fs' := [.int 0, .ref q1, .ref q7, .ref q13, .ref q19, .ref q25, .ref q31, .int 0, .int 0, .int 0, .int 0, .null, .null, .null]) (by decide) f33 rfl TBi_X5 tyX5 tyX5_ok nmX5 6 (by decide) tw_80 rfl rfl hin rfl rfl rfl rfl (Nat.le_of_ble_eq_true rfl) rfl dX5_init_49 (fun P35 eP35 H locs hP hD hS => ?_)
  have f36 : P35 1 = (a, .inr (5, [.int 0, .ref q1, .ref q7, .ref q13, .ref q19, .ref q25, .ref q31, .int 0, .int 0, .int 0, .int 0, .null, .null, .null])) := by rw [eP35, va_up_self]
  refine lv_aload_n hx hb dX5_init_52 rfl (lv_at hl 0 rfl) ?_
  refine lv_bipush (v := (100)) hx hb dX5_init_53 (by decide) ?_
  refine xn_put hB hK h0 hS hP hD (ci := 5) (k := 1) (C := RX5) (T := TX5) (Nf := 14) (fs' := [.int 0, .ref q1, .ref q7, .ref q13, .ref q19, .ref q25, .ref q31, .int 0, .int (100), .int 0, .int 0, .null, .null, .null]) (by decide) f36 rfl TBi_X5 tyX5 tyX5_ok nmX5 8 (by decide) tw_86 rfl rfl rfl rfl rfl (Nat.le_of_ble_eq_true rfl) rfl dX5_init_55 (fun P37 eP37 H locs hP hD hS => ?_)
  have f38 : P37 1 = (a, .inr (5, [.int 0, .ref q1, .ref q7, .ref q13, .ref q19, .ref q25, .ref q31, .int 0, .int (100), .int 0, .int 0, .null, .null, .null])) := by rw [eP37, va_up_self]
  refine lv_aload_n hx hb dX5_init_58 rfl (lv_at hl 0 rfl) ?_
  refine lv_iconst (v := (-1)) hx hb dX5_init_59 (by decide) ?_
  refine xn_put hB hK h0 hS hP hD (ci := 5) (k := 1) (C := RX5) (T := TX5) (Nf := 14) (fs' := [.int 0, .ref q1, .ref q7, .ref q13, .ref q19, .ref q25, .ref q31, .int 0, .int (100), .int 0, .int (-1), .null, .null, .null]) (by decide) f38 rfl TBi_X5 tyX5 tyX5_ok nmX5 10 (by decide) tw_92 rfl rfl rfl rfl rfl (Nat.le_of_ble_eq_true rfl) rfl dX5_init_60 (fun P39 eP39 H locs hP hD hS => ?_)
  have f40 : P39 1 = (a, .inr (5, [.int 0, .ref q1, .ref q7, .ref q13, .ref q19, .ref q25, .ref q31, .int 0, .int (100), .int 0, .int (-1), .null, .null, .null])) := by rw [eP39, va_up_self]
  refine lv_aload_n hx hb dX5_init_63 rfl (lv_at hl 0 rfl) ?_
  refine xn_new hB hK h0 hS hP hD (ci := 1) (C := RX1) (T := TX1) (Nf := 4) (fs := [.int 0, .null, .null, .int 0]) rfl TBi_X1 tyX1 tyX1_ok tw_31 tw_32 tw_3 (fun j hj => by rcases (show j = 0 ∨ j = 1 ∨ j = 2 ∨ j = 3 by omega) with rfl | rfl | rfl | rfl <;> rfl) (Nat.le_of_ble_eq_true rfl) (Nat.le_of_ble_eq_true rfl) dX5_init_64 (fun q41 P42 eP42 H hP hD hS => ?_)
  have f43 : P42 1 = (a, .inr (5, [.int 0, .ref q1, .ref q7, .ref q13, .ref q19, .ref q25, .ref q31, .int 0, .int (100), .int 0, .int (-1), .null, .null, .null])) := by rw [eP42, va_up_ne _ _ (by decide)]; exact f40
  have f44 : P42 8 = (q41, .inr (1, [.int 0, .null, .null, .int 0])) := by rw [eP42, va_up_self]
  refine lv_dup hx hb dX5_init_67 rfl ?_
  refine lv_iconst (v := (5)) hx hb dX5_init_68 (by decide) ?_
  refine xn_cI hB hK h0 hS hP hD hE hO (As := [.int (5)]) (rest := [.ref q41, .ref a]) (iX1_8 l G P42 q41 f44) tw_33 tw_35 tw_34 tw_3 rfl 1 hi_X1_init ⟨(Nat.le_of_ble_eq_true rfl), (Nat.le_of_ble_eq_true rfl)⟩ rfl hl.1 (Nat.le_of_ble_eq_true rfl) rfl dX5_init_69 ⟨(Nat.le_of_ble_eq_true rfl), (Nat.le_of_ble_eq_true rfl)⟩ (fun P45 hp46 H locs hP hD hS => ?_)
  obtain ⟨qf47, hp46l, hp46a, hp46c⟩ := hp46
  subst hp46a
  have f48 : P45 1 = (a, .inr (5, [.int 0, .ref q1, .ref q7, .ref q13, .ref q19, .ref q25, .ref q31, .int 0, .int (100), .int 0, .int (-1), .null, .null, .null])) := (hp46l 1 (by decide)).1.trans f43
  refine xn_putF hB hK h0 hS hP hD (ci := 5) (k := 1) (C := RX5) (T := TX5) (Nf := 14) (fs' := [.int 0, .ref q1, .ref q7, .ref q13, .ref q19, .ref q25, .ref q31, .int 0, .int (100), .int 0, .int (-1), .ref (qf47 8), .null, .null]) (by decide) f48 rfl TBi_X5 tyX5 tyX5_ok nmX5 11 (by decide) tw_94 rfl rfl hin rfl rfl rfl rfl (Nat.le_of_ble_eq_true rfl) rfl dX5_init_72 (fun P49 eP49 H locs hP hD hS => ?_)
  have f50 : P49 1 = (a, .inr (5, [.int 0, .ref q1, .ref q7, .ref q13, .ref q19, .ref q25, .ref q31, .int 0, .int (100), .int 0, .int (-1), .ref (qf47 8), .null, .null])) := by rw [eP49, va_up_self]
  refine lv_aload_n hx hb dX5_init_75 rfl (lv_at hl 0 rfl) ?_
  refine xn_new hB hK h0 hS hP hD (ci := 1) (C := RX1) (T := TX1) (Nf := 4) (fs := [.int 0, .null, .null, .int 0]) rfl TBi_X1 tyX1 tyX1_ok tw_31 tw_32 tw_3 (fun j hj => by rcases (show j = 0 ∨ j = 1 ∨ j = 2 ∨ j = 3 by omega) with rfl | rfl | rfl | rfl <;> rfl) (Nat.le_of_ble_eq_true rfl) (Nat.le_of_ble_eq_true rfl) dX5_init_76 (fun q51 P52 eP52 H hP hD hS => ?_)
  have f53 : P52 1 = (a, .inr (5, [.int 0, .ref q1, .ref q7, .ref q13, .ref q19, .ref q25, .ref q31, .int 0, .int (100), .int 0, .int (-1), .ref (qf47 8), .null, .null])) := by rw [eP52, va_up_ne _ _ (by decide)]; exact f50
  have f54 : P52 11 = (q51, .inr (1, [.int 0, .null, .null, .int 0])) := by rw [eP52, va_up_self]
  refine lv_dup hx hb dX5_init_79 rfl ?_
  refine lv_bipush (v := (8)) hx hb dX5_init_80 (by decide) ?_
  refine xn_cI hB hK h0 hS hP hD hE hO (As := [.int (8)]) (rest := [.ref q51, .ref a]) (iX1_11 l G P52 q51 f54) tw_33 tw_35 tw_34 tw_3 rfl 1 hi_X1_init ⟨(Nat.le_of_ble_eq_true rfl), (Nat.le_of_ble_eq_true rfl)⟩ rfl hl.1 (Nat.le_of_ble_eq_true rfl) rfl dX5_init_82 ⟨(Nat.le_of_ble_eq_true rfl), (Nat.le_of_ble_eq_true rfl)⟩ (fun P55 hp56 H locs hP hD hS => ?_)
  obtain ⟨qf57, hp56l, hp56a, hp56c⟩ := hp56
  subst hp56a
  have f58 : P55 1 = (a, .inr (5, [.int 0, .ref q1, .ref q7, .ref q13, .ref q19, .ref q25, .ref q31, .int 0, .int (100), .int 0, .int (-1), .ref (qf47 8), .null, .null])) := (hp56l 1 (by decide)).1.trans f53
  refine xn_putF hB hK h0 hS hP hD (ci := 5) (k := 1) (C := RX5) (T := TX5) (Nf := 14) (fs' := [.int 0, .ref q1, .ref q7, .ref q13, .ref q19, .ref q25, .ref q31, .int 0, .int (100), .int 0, .int (-1), .ref (qf47 8), .ref (qf57 11), .null]) (by decide) f58 rfl TBi_X5 tyX5 tyX5_ok nmX5 12 (by decide) tw_97 rfl rfl hin rfl rfl rfl rfl (Nat.le_of_ble_eq_true rfl) rfl dX5_init_85 (fun P59 eP59 H locs hP hD hS => ?_)
  have f60 : P59 1 = (a, .inr (5, [.int 0, .ref q1, .ref q7, .ref q13, .ref q19, .ref q25, .ref q31, .int 0, .int (100), .int 0, .int (-1), .ref (qf47 8), .ref (qf57 11), .null])) := by rw [eP59, va_up_self]
  refine lv_aload_n hx hb dX5_init_88 rfl (lv_at hl 0 rfl) ?_
  refine xn_new hB hK h0 hS hP hD (ci := 1) (C := RX1) (T := TX1) (Nf := 4) (fs := [.int 0, .null, .null, .int 0]) rfl TBi_X1 tyX1 tyX1_ok tw_31 tw_32 tw_3 (fun j hj => by rcases (show j = 0 ∨ j = 1 ∨ j = 2 ∨ j = 3 by omega) with rfl | rfl | rfl | rfl <;> rfl) (Nat.le_of_ble_eq_true rfl) (Nat.le_of_ble_eq_true rfl) dX5_init_89 (fun q61 P62 eP62 H hP hD hS => ?_)
  have f63 : P62 1 = (a, .inr (5, [.int 0, .ref q1, .ref q7, .ref q13, .ref q19, .ref q25, .ref q31, .int 0, .int (100), .int 0, .int (-1), .ref (qf47 8), .ref (qf57 11), .null])) := by rw [eP62, va_up_ne _ _ (by decide)]; exact f60
  have f64 : P62 14 = (q61, .inr (1, [.int 0, .null, .null, .int 0])) := by rw [eP62, va_up_self]
  refine lv_dup hx hb dX5_init_92 rfl ?_
  refine lv_bipush (v := (8)) hx hb dX5_init_93 (by decide) ?_
  refine xn_cI hB hK h0 hS hP hD hE hO (As := [.int (8)]) (rest := [.ref q61, .ref a]) (iX1_14 l G P62 q61 f64) tw_33 tw_35 tw_34 tw_3 rfl 1 hi_X1_init ⟨(Nat.le_of_ble_eq_true rfl), (Nat.le_of_ble_eq_true rfl)⟩ rfl hl.1 (Nat.le_of_ble_eq_true rfl) rfl dX5_init_95 ⟨(Nat.le_of_ble_eq_true rfl), (Nat.le_of_ble_eq_true rfl)⟩ (fun P65 hp66 H locs hP hD hS => ?_)
  obtain ⟨qf67, hp66l, hp66a, hp66c⟩ := hp66
  subst hp66a
  have f68 : P65 1 = (a, .inr (5, [.int 0, .ref q1, .ref q7, .ref q13, .ref q19, .ref q25, .ref q31, .int 0, .int (100), .int 0, .int (-1), .ref (qf47 8), .ref (qf57 11), .null])) := (hp66l 1 (by decide)).1.trans f63
  refine xn_putF hB hK h0 hS hP hD (ci := 5) (k := 1) (C := RX5) (T := TX5) (Nf := 14) (fs' := [.int 0, .ref q1, .ref q7, .ref q13, .ref q19, .ref q25, .ref q31, .int 0, .int (100), .int 0, .int (-1), .ref (qf47 8), .ref (qf57 11), .ref (qf67 14)]) (by decide) f68 rfl TBi_X5 tyX5 tyX5_ok nmX5 13 (by decide) tw_99 rfl rfl hin rfl rfl rfl rfl (Nat.le_of_ble_eq_true rfl) rfl dX5_init_98 (fun P69 eP69 H locs hP hD hS => ?_)
  have f70 : P69 1 = (a, .inr (5, [.int 0, .ref q1, .ref q7, .ref q13, .ref q19, .ref q25, .ref q31, .int 0, .int (100), .int 0, .int (-1), .ref (qf47 8), .ref (qf57 11), .ref (qf67 14)])) := by rw [eP69, va_up_self]
  have z71 : P69 2 = (q1, .inl (xw_q G 0, 6, .inl (fun _ => 0))) := by rw [eP69, va_up_ne _ _ (by decide), (hp66l 2 (by decide)).1, eP62, va_up_ne _ _ (by decide), eP59, va_up_ne _ _ (by decide), (hp56l 2 (by decide)).1, eP52, va_up_ne _ _ (by decide), eP49, va_up_ne _ _ (by decide), (hp46l 2 (by decide)).1, eP42, va_up_ne _ _ (by decide), eP39, va_up_ne _ _ (by decide), eP37, va_up_ne _ _ (by decide), eP35, va_up_ne _ _ (by decide), eP32, va_up_ne _ _ (by decide), eP29, va_up_ne _ _ (by decide), eP26, va_up_ne _ _ (by decide), eP23, va_up_ne _ _ (by decide), eP20, va_up_ne _ _ (by decide), eP17, va_up_ne _ _ (by decide), eP14, va_up_ne _ _ (by decide), eP11, va_up_ne _ _ (by decide), eP8, va_up_ne _ _ (by decide), eP5, va_up_ne _ _ (by decide)]; exact f4
  have z72 : P69 3 = (q7, .inl (xw_q G 0, 6, .inl (fun _ => 0))) := by rw [eP69, va_up_ne _ _ (by decide), (hp66l 3 (by decide)).1, eP62, va_up_ne _ _ (by decide), eP59, va_up_ne _ _ (by decide), (hp56l 3 (by decide)).1, eP52, va_up_ne _ _ (by decide), eP49, va_up_ne _ _ (by decide), (hp46l 3 (by decide)).1, eP42, va_up_ne _ _ (by decide), eP39, va_up_ne _ _ (by decide), eP37, va_up_ne _ _ (by decide), eP35, va_up_ne _ _ (by decide), eP32, va_up_ne _ _ (by decide), eP29, va_up_ne _ _ (by decide), eP26, va_up_ne _ _ (by decide), eP23, va_up_ne _ _ (by decide), eP20, va_up_ne _ _ (by decide), eP17, va_up_ne _ _ (by decide), eP14, va_up_ne _ _ (by decide), eP11, va_up_ne _ _ (by decide)]; exact f10
  have z73 : P69 4 = (q13, .inl (xw_q G 0, 6, .inl (fun _ => 0))) := by rw [eP69, va_up_ne _ _ (by decide), (hp66l 4 (by decide)).1, eP62, va_up_ne _ _ (by decide), eP59, va_up_ne _ _ (by decide), (hp56l 4 (by decide)).1, eP52, va_up_ne _ _ (by decide), eP49, va_up_ne _ _ (by decide), (hp46l 4 (by decide)).1, eP42, va_up_ne _ _ (by decide), eP39, va_up_ne _ _ (by decide), eP37, va_up_ne _ _ (by decide), eP35, va_up_ne _ _ (by decide), eP32, va_up_ne _ _ (by decide), eP29, va_up_ne _ _ (by decide), eP26, va_up_ne _ _ (by decide), eP23, va_up_ne _ _ (by decide), eP20, va_up_ne _ _ (by decide), eP17, va_up_ne _ _ (by decide)]; exact f16
  have z74 : P69 5 = (q19, .inl (xw_q G 0, 6, .inl (fun _ => 0))) := by rw [eP69, va_up_ne _ _ (by decide), (hp66l 5 (by decide)).1, eP62, va_up_ne _ _ (by decide), eP59, va_up_ne _ _ (by decide), (hp56l 5 (by decide)).1, eP52, va_up_ne _ _ (by decide), eP49, va_up_ne _ _ (by decide), (hp46l 5 (by decide)).1, eP42, va_up_ne _ _ (by decide), eP39, va_up_ne _ _ (by decide), eP37, va_up_ne _ _ (by decide), eP35, va_up_ne _ _ (by decide), eP32, va_up_ne _ _ (by decide), eP29, va_up_ne _ _ (by decide), eP26, va_up_ne _ _ (by decide), eP23, va_up_ne _ _ (by decide)]; exact f22
  have z75 : P69 6 = (q25, .inl (xw_q G 0, 6, .inl (fun _ => 0))) := by rw [eP69, va_up_ne _ _ (by decide), (hp66l 6 (by decide)).1, eP62, va_up_ne _ _ (by decide), eP59, va_up_ne _ _ (by decide), (hp56l 6 (by decide)).1, eP52, va_up_ne _ _ (by decide), eP49, va_up_ne _ _ (by decide), (hp46l 6 (by decide)).1, eP42, va_up_ne _ _ (by decide), eP39, va_up_ne _ _ (by decide), eP37, va_up_ne _ _ (by decide), eP35, va_up_ne _ _ (by decide), eP32, va_up_ne _ _ (by decide), eP29, va_up_ne _ _ (by decide)]; exact f28
  have z76 : P69 7 = (q31, .inl (xw_q G 0, 24, .inl (fun _ => 0))) := by rw [eP69, va_up_ne _ _ (by decide), (hp66l 7 (by decide)).1, eP62, va_up_ne _ _ (by decide), eP59, va_up_ne _ _ (by decide), (hp56l 7 (by decide)).1, eP52, va_up_ne _ _ (by decide), eP49, va_up_ne _ _ (by decide), (hp46l 7 (by decide)).1, eP42, va_up_ne _ _ (by decide), eP39, va_up_ne _ _ (by decide), eP37, va_up_ne _ _ (by decide), eP35, va_up_ne _ _ (by decide)]; exact f34
  obtain ⟨qq, hqq⟩ : ∃ z : Nat → Nat, z = fun k => if k < 1 then (P k).1 else if k < 2 then a else if k < 3 then q1 else if k < 4 then q7 else if k < 5 then q13 else if k < 6 then q19 else if k < 7 then q25 else if k < 8 then q31 else if k < 11 then qf47 k else if k < 14 then qf57 k else qf67 k := ⟨_, rfl⟩
  refine xn_ret hB hK h0 hS hP hD hE hO hr hlk ⟨qq, fun k hk => ⟨?_, ?_⟩, by rw [hqq]; rfl, fun k hk1 hk2 => ?_⟩ (Nat.le_of_ble_eq_true rfl) (Nat.le_of_ble_eq_true rfl) dX5_init_101
  · rw [eP69, va_up_ne _ _ (by omega), (hp66l k (by omega)).1, eP62, va_up_ne _ _ (by omega), eP59, va_up_ne _ _ (by omega), (hp56l k (by omega)).1, eP52, va_up_ne _ _ (by omega), eP49, va_up_ne _ _ (by omega), (hp46l k (by omega)).1, eP42, va_up_ne _ _ (by omega), eP39, va_up_ne _ _ (by omega), eP37, va_up_ne _ _ (by omega), eP35, va_up_ne _ _ (by omega), eP32, va_up_ne _ _ (by omega), eP29, va_up_ne _ _ (by omega), eP26, va_up_ne _ _ (by omega), eP23, va_up_ne _ _ (by omega), eP20, va_up_ne _ _ (by omega), eP17, va_up_ne _ _ (by omega), eP14, va_up_ne _ _ (by omega), eP11, va_up_ne _ _ (by omega), eP8, va_up_ne _ _ (by omega), eP5, va_up_ne _ _ (by omega), eP2, va_up_ne _ _ (by omega)]
  · rw [hqq]; exact if_pos hk
  · rcases (show k = 1 ∨ k = 2 ∨ k = 3 ∨ k = 4 ∨ k = 5 ∨ k = 6 ∨ k = 7 ∨ k = 8 ∨ k = 9 ∨ k = 10 ∨ k = 11 ∨ k = 12 ∨ k = 13 ∨ k = 14 ∨ k = 15 ∨ k = 16 by omega) with rfl | rfl | rfl | rfl | rfl | rfl | rfl | rfl | rfl | rfl | rfl | rfl | rfl | rfl | rfl | rfl
    · rw [f70, hqq]; rfl
    · rw [z71, hqq]; rfl
    · rw [z72, hqq]; rfl
    · rw [z73, hqq]; rfl
    · rw [z74, hqq]; rfl
    · rw [z75, hqq]; rfl
    · rw [z76, hqq]; rfl
    · rw [eP69, va_up_ne _ _ (by decide), (hp66l 8 (by decide)).1, eP62, va_up_ne _ _ (by decide), eP59, va_up_ne _ _ (by decide), (hp56l 8 (by decide)).1, eP52, va_up_ne _ _ (by decide), eP49, va_up_ne _ _ (by decide)]; rw [hqq]; exact hp46c 8 (by decide) (by decide)
    · rw [eP69, va_up_ne _ _ (by decide), (hp66l 9 (by decide)).1, eP62, va_up_ne _ _ (by decide), eP59, va_up_ne _ _ (by decide), (hp56l 9 (by decide)).1, eP52, va_up_ne _ _ (by decide), eP49, va_up_ne _ _ (by decide)]; rw [hqq]; exact hp46c 9 (by decide) (by decide)
    · rw [eP69, va_up_ne _ _ (by decide), (hp66l 10 (by decide)).1, eP62, va_up_ne _ _ (by decide), eP59, va_up_ne _ _ (by decide), (hp56l 10 (by decide)).1, eP52, va_up_ne _ _ (by decide), eP49, va_up_ne _ _ (by decide)]; rw [hqq]; exact hp46c 10 (by decide) (by decide)
    · rw [eP69, va_up_ne _ _ (by decide), (hp66l 11 (by decide)).1, eP62, va_up_ne _ _ (by decide), eP59, va_up_ne _ _ (by decide)]; rw [hqq]; exact hp56c 11 (by decide) (by decide)
    · rw [eP69, va_up_ne _ _ (by decide), (hp66l 12 (by decide)).1, eP62, va_up_ne _ _ (by decide), eP59, va_up_ne _ _ (by decide)]; rw [hqq]; exact hp56c 12 (by decide) (by decide)
    · rw [eP69, va_up_ne _ _ (by decide), (hp66l 13 (by decide)).1, eP62, va_up_ne _ _ (by decide), eP59, va_up_ne _ _ (by decide)]; rw [hqq]; exact hp56c 13 (by decide) (by decide)
    · rw [eP69, va_up_ne _ _ (by decide)]; rw [hqq]; exact hp66c 14 (by decide) (by decide)
    · rw [eP69, va_up_ne _ _ (by decide)]; rw [hqq]; exact hp66c 15 (by decide) (by decide)
    · rw [eP69, va_up_ne _ _ (by decide)]; rw [hqq]; exact hp66c 16 (by decide) (by decide)
