set_option maxHeartbeats 8000000 in
set_option maxRecDepth 100000 in
theorem iX1_24 (l : Launch) (G : xw_G) (P : Nat → Nat × va_E) (a : Nat) (hP0 : P 24 = (a, .inr (1, [.int 0, .null, .null, .int 0]))) : xn_T l G yX1_init cX1_init 2 1 40 2 16 [.ref a, .int (5)] 25 P 27 (fun u => ∃ q : Nat → Nat, (∀ k, k < 24 → u k = P k ∧ q k = (P k).1) ∧ q 24 = a ∧ ∀ k, 24 ≤ k → k < 27 → u k = (q k, xw_cell (xn_G G q) k (xn_m0.1 k) (xn_m0.2 k))) := by
  unfold xn_T
  refine Met.ofW (cc := cX1_init) (maxL := 2) (ret := none) (by decide) rfl ?_
  intro p e s m args below meth c s₁ B hml hv
  obtain ⟨hargs, hP, hK, hD, hE, hO, h0⟩ := hv
  have hx := B.exec
  have hb := B.bytes
  have hr := B.returns
  have hlk := B.notSynchronized
  have hin : meth.name = "<init>" := (name_of_methodNamed B.named B.method).1
  have hB : CallFix p m c cX1_init 2 s args TB RX1 := ⟨hx, hb, hml, findClass_of_methodNamed B.named, fun q h => (atoms_spec (ws := Cond.code yX1_init cX1_init 2 none :: TB) B.pre) q (List.mem_cons_of_mem _ h)⟩
  have hS : va_S (xw_A G) s.heap s.heap [] := va_S.rf
  have hl := lv_entry [.ref a, .int (5)] (n := 2) (Nat.le_of_ble_eq_true rfl)
  rw [show entryFrame m args 2 = entryFrame m ([.ref a, .int (5)] : List Value).toArray 2 from by rw [hargs], lg_entry_eq]
  generalize (lg_sl [.ref a, .int (5)] ++ List.replicate (2 - (lg_sl [.ref a, .int (5)]).length) Slot.unset).toArray = ls at hl ⊢
  have hl : lv_has ls 2 [(0, .ref a), (1, .int (5))] := hl
  skip
  refine lv_aload_n hx hb dX1_init_0 rfl (lv_at hl 0 rfl) ?_
  refine xn_obj hB tn_X1_obj tn_objI tn_objC hl.1 dX1_init_1 (Nat.le_of_ble_eq_true rfl) (Nat.le_of_ble_eq_true rfl) ?_
  refine lv_aload_n hx hb dX1_init_4 rfl (lv_at hl 0 rfl) ?_
  refine lv_bipush (v := (8)) hx hb dX1_init_5 (by decide) ?_
  refine xn_newaI hB hK h0 hS hP hD (n := 8) tw_59 (by decide) (by decide) (by decide) (Nat.le_of_ble_eq_true rfl) (Nat.le_of_ble_eq_true rfl) dX1_init_7 (fun q1 P2 eP2 H hP hD hS => ?_)
  have f3 : P2 24 = (a, .inr (1, [.int 0, .null, .null, .int 0])) := by rw [eP2, va_up_ne _ _ (by decide)]; exact hP0
  have f4 : P2 25 = (q1, .inl (xw_q G 0, 8, .inl (fun _ => 0))) := by rw [eP2, va_up_self]
  refine xn_putF hB hK h0 hS hP hD (ci := 1) (k := 24) (C := RX1) (T := TX1) (Nf := 4) (fs' := [.int 0, .ref q1, .null, .int 0]) (by decide) f3 rfl TBi_X1 tyX1 tyX1_ok nmX1 1 (by decide) tw_41 rfl rfl hin rfl rfl rfl rfl (Nat.le_of_ble_eq_true rfl) rfl dX1_init_9 (fun P5 eP5 H locs hP hD hS => ?_)
  have f6 : P5 24 = (a, .inr (1, [.int 0, .ref q1, .null, .int 0])) := by rw [eP5, va_up_self]
  refine lv_aload_n hx hb dX1_init_12 rfl (lv_at hl 0 rfl) ?_
  refine lv_bipush (v := (8)) hx hb dX1_init_13 (by decide) ?_
  refine xn_newaI hB hK h0 hS hP hD (n := 8) tw_59 (by decide) (by decide) (by decide) (Nat.le_of_ble_eq_true rfl) (Nat.le_of_ble_eq_true rfl) dX1_init_15 (fun q7 P8 eP8 H hP hD hS => ?_)
  have f9 : P8 24 = (a, .inr (1, [.int 0, .ref q1, .null, .int 0])) := by rw [eP8, va_up_ne _ _ (by decide)]; exact f6
  have f10 : P8 26 = (q7, .inl (xw_q G 0, 8, .inl (fun _ => 0))) := by rw [eP8, va_up_self]
  refine xn_putF hB hK h0 hS hP hD (ci := 1) (k := 24) (C := RX1) (T := TX1) (Nf := 4) (fs' := [.int 0, .ref q1, .ref q7, .int 0]) (by decide) f9 rfl TBi_X1 tyX1 tyX1_ok nmX1 2 (by decide) tw_44 rfl rfl hin rfl rfl rfl rfl (Nat.le_of_ble_eq_true rfl) rfl dX1_init_17 (fun P11 eP11 H locs hP hD hS => ?_)
  have f12 : P11 24 = (a, .inr (1, [.int 0, .ref q1, .ref q7, .int 0])) := by rw [eP11, va_up_self]
  refine lv_aload_n hx hb dX1_init_20 rfl (lv_at hl 0 rfl) ?_
  refine lv_iload_n hx hb dX1_init_21 rfl (lv_at hl 1 rfl) ?_
  refine lv_bipush (v := (8)) hx hb dX1_init_22 (by decide) ?_
  refine va_mmin hx hb (hB.2.2.1.trans hl.1.symm) hB.2.2.2.1 (hB.2.2.2.2 _ tn_min) (hB.2.2.2.2 _ tm_38) (hB.2.2.2.2 _ tw_4) (hB.2.2.2.2 _ tm_39) (Nat.le_of_ble_eq_true rfl) (Nat.le_of_ble_eq_true rfl) (Nat.le_of_ble_eq_true rfl) (Nat.le_of_ble_eq_true rfl) dX1_init_24 ?_
  rw [show (if (8 : Int32) < 5 then (8 : Int32) else 5) = 5 from by decide]
  refine xn_putF hB hK h0 hS hP hD (ci := 1) (k := 24) (C := RX1) (T := TX1) (Nf := 4) (fs' := [.int (5), .ref q1, .ref q7, .int 0]) (by decide) f12 rfl TBi_X1 tyX1 tyX1_ok nmX1 0 (by decide) tw_40 rfl rfl hin rfl rfl rfl rfl (Nat.le_of_ble_eq_true rfl) rfl dX1_init_27 (fun P13 eP13 H locs hP hD hS => ?_)
  have f14 : P13 24 = (a, .inr (1, [.int (5), .ref q1, .ref q7, .int 0])) := by rw [eP13, va_up_self]
  have z15 : P13 25 = (q1, .inl (xw_q G 0, 8, .inl (fun _ => 0))) := by rw [eP13, va_up_ne _ _ (by decide), eP11, va_up_ne _ _ (by decide), eP8, va_up_ne _ _ (by decide), eP5, va_up_ne _ _ (by decide)]; exact f4
  have z16 : P13 26 = (q7, .inl (xw_q G 0, 8, .inl (fun _ => 0))) := by rw [eP13, va_up_ne _ _ (by decide), eP11, va_up_ne _ _ (by decide)]; exact f10
  obtain ⟨qq, hqq⟩ : ∃ z : Nat → Nat, z = fun k => if k < 24 then (P k).1 else if k < 25 then a else if k < 26 then q1 else q7 := ⟨_, rfl⟩
  refine xn_ret hB hK h0 hS hP hD hE hO hr hlk ⟨qq, fun k hk => ⟨?_, ?_⟩, by rw [hqq]; rfl, fun k hk1 hk2 => ?_⟩ (Nat.le_of_ble_eq_true rfl) (Nat.le_of_ble_eq_true rfl) dX1_init_30
  · rw [eP13, va_up_ne _ _ (by omega), eP11, va_up_ne _ _ (by omega), eP8, va_up_ne _ _ (by omega), eP5, va_up_ne _ _ (by omega), eP2, va_up_ne _ _ (by omega)]
  · rw [hqq]; exact if_pos hk
  · rcases (show k = 24 ∨ k = 25 ∨ k = 26 by omega) with rfl | rfl | rfl
    · rw [f14, hqq]; rfl
    · rw [z15, hqq]; rfl
    · rw [z16, hqq]; rfl
set_option maxHeartbeats 8000000 in
set_option maxRecDepth 100000 in
theorem iX1_27 (l : Launch) (G : xw_G) (P : Nat → Nat × va_E) (a : Nat) (hP0 : P 27 = (a, .inr (1, [.int 0, .null, .null, .int 0]))) : xn_T l G yX1_init cX1_init 2 1 40 2 16 [.ref a, .int (8)] 28 P 30 (fun u => ∃ q : Nat → Nat, (∀ k, k < 27 → u k = P k ∧ q k = (P k).1) ∧ q 27 = a ∧ ∀ k, 27 ≤ k → k < 30 → u k = (q k, xw_cell (xn_G G q) k (xn_m0.1 k) (xn_m0.2 k))) := by
  unfold xn_T
  refine Met.ofW (cc := cX1_init) (maxL := 2) (ret := none) (by decide) rfl ?_
  intro p e s m args below meth c s₁ B hml hv
  obtain ⟨hargs, hP, hK, hD, hE, hO, h0⟩ := hv
  have hx := B.exec
  have hb := B.bytes
  have hr := B.returns
  have hlk := B.notSynchronized
  have hin : meth.name = "<init>" := (name_of_methodNamed B.named B.method).1
  have hB : CallFix p m c cX1_init 2 s args TB RX1 := ⟨hx, hb, hml, findClass_of_methodNamed B.named, fun q h => (atoms_spec (ws := Cond.code yX1_init cX1_init 2 none :: TB) B.pre) q (List.mem_cons_of_mem _ h)⟩
  have hS : va_S (xw_A G) s.heap s.heap [] := va_S.rf
  have hl := lv_entry [.ref a, .int (8)] (n := 2) (Nat.le_of_ble_eq_true rfl)
  rw [show entryFrame m args 2 = entryFrame m ([.ref a, .int (8)] : List Value).toArray 2 from by rw [hargs], lg_entry_eq]
  generalize (lg_sl [.ref a, .int (8)] ++ List.replicate (2 - (lg_sl [.ref a, .int (8)]).length) Slot.unset).toArray = ls at hl ⊢
  have hl : lv_has ls 2 [(0, .ref a), (1, .int (8))] := hl
  skip
  refine lv_aload_n hx hb dX1_init_0 rfl (lv_at hl 0 rfl) ?_
  refine xn_obj hB tn_X1_obj tn_objI tn_objC hl.1 dX1_init_1 (Nat.le_of_ble_eq_true rfl) (Nat.le_of_ble_eq_true rfl) ?_
  refine lv_aload_n hx hb dX1_init_4 rfl (lv_at hl 0 rfl) ?_
  refine lv_bipush (v := (8)) hx hb dX1_init_5 (by decide) ?_
  refine xn_newaI hB hK h0 hS hP hD (n := 8) tw_59 (by decide) (by decide) (by decide) (Nat.le_of_ble_eq_true rfl) (Nat.le_of_ble_eq_true rfl) dX1_init_7 (fun q1 P2 eP2 H hP hD hS => ?_)
  have f3 : P2 27 = (a, .inr (1, [.int 0, .null, .null, .int 0])) := by rw [eP2, va_up_ne _ _ (by decide)]; exact hP0
  have f4 : P2 28 = (q1, .inl (xw_q G 0, 8, .inl (fun _ => 0))) := by rw [eP2, va_up_self]
  refine xn_putF hB hK h0 hS hP hD (ci := 1) (k := 27) (C := RX1) (T := TX1) (Nf := 4) (fs' := [.int 0, .ref q1, .null, .int 0]) (by decide) f3 rfl TBi_X1 tyX1 tyX1_ok nmX1 1 (by decide) tw_41 rfl rfl hin rfl rfl rfl rfl (Nat.le_of_ble_eq_true rfl) rfl dX1_init_9 (fun P5 eP5 H locs hP hD hS => ?_)
  have f6 : P5 27 = (a, .inr (1, [.int 0, .ref q1, .null, .int 0])) := by rw [eP5, va_up_self]
  refine lv_aload_n hx hb dX1_init_12 rfl (lv_at hl 0 rfl) ?_
  refine lv_bipush (v := (8)) hx hb dX1_init_13 (by decide) ?_
  refine xn_newaI hB hK h0 hS hP hD (n := 8) tw_59 (by decide) (by decide) (by decide) (Nat.le_of_ble_eq_true rfl) (Nat.le_of_ble_eq_true rfl) dX1_init_15 (fun q7 P8 eP8 H hP hD hS => ?_)
  have f9 : P8 27 = (a, .inr (1, [.int 0, .ref q1, .null, .int 0])) := by rw [eP8, va_up_ne _ _ (by decide)]; exact f6
  have f10 : P8 29 = (q7, .inl (xw_q G 0, 8, .inl (fun _ => 0))) := by rw [eP8, va_up_self]
  refine xn_putF hB hK h0 hS hP hD (ci := 1) (k := 27) (C := RX1) (T := TX1) (Nf := 4) (fs' := [.int 0, .ref q1, .ref q7, .int 0]) (by decide) f9 rfl TBi_X1 tyX1 tyX1_ok nmX1 2 (by decide) tw_44 rfl rfl hin rfl rfl rfl rfl (Nat.le_of_ble_eq_true rfl) rfl dX1_init_17 (fun P11 eP11 H locs hP hD hS => ?_)
  have f12 : P11 27 = (a, .inr (1, [.int 0, .ref q1, .ref q7, .int 0])) := by rw [eP11, va_up_self]
  refine lv_aload_n hx hb dX1_init_20 rfl (lv_at hl 0 rfl) ?_
  refine lv_iload_n hx hb dX1_init_21 rfl (lv_at hl 1 rfl) ?_
  refine lv_bipush (v := (8)) hx hb dX1_init_22 (by decide) ?_
  refine va_mmin hx hb (hB.2.2.1.trans hl.1.symm) hB.2.2.2.1 (hB.2.2.2.2 _ tn_min) (hB.2.2.2.2 _ tm_38) (hB.2.2.2.2 _ tw_4) (hB.2.2.2.2 _ tm_39) (Nat.le_of_ble_eq_true rfl) (Nat.le_of_ble_eq_true rfl) (Nat.le_of_ble_eq_true rfl) (Nat.le_of_ble_eq_true rfl) dX1_init_24 ?_
  rw [show (if (8 : Int32) < 8 then (8 : Int32) else 8) = 8 from by decide]
  refine xn_putF hB hK h0 hS hP hD (ci := 1) (k := 27) (C := RX1) (T := TX1) (Nf := 4) (fs' := [.int (8), .ref q1, .ref q7, .int 0]) (by decide) f12 rfl TBi_X1 tyX1 tyX1_ok nmX1 0 (by decide) tw_40 rfl rfl hin rfl rfl rfl rfl (Nat.le_of_ble_eq_true rfl) rfl dX1_init_27 (fun P13 eP13 H locs hP hD hS => ?_)
  have f14 : P13 27 = (a, .inr (1, [.int (8), .ref q1, .ref q7, .int 0])) := by rw [eP13, va_up_self]
  have z15 : P13 28 = (q1, .inl (xw_q G 0, 8, .inl (fun _ => 0))) := by rw [eP13, va_up_ne _ _ (by decide), eP11, va_up_ne _ _ (by decide), eP8, va_up_ne _ _ (by decide), eP5, va_up_ne _ _ (by decide)]; exact f4
  have z16 : P13 29 = (q7, .inl (xw_q G 0, 8, .inl (fun _ => 0))) := by rw [eP13, va_up_ne _ _ (by decide), eP11, va_up_ne _ _ (by decide)]; exact f10
  obtain ⟨qq, hqq⟩ : ∃ z : Nat → Nat, z = fun k => if k < 27 then (P k).1 else if k < 28 then a else if k < 29 then q1 else q7 := ⟨_, rfl⟩
  refine xn_ret hB hK h0 hS hP hD hE hO hr hlk ⟨qq, fun k hk => ⟨?_, ?_⟩, by rw [hqq]; rfl, fun k hk1 hk2 => ?_⟩ (Nat.le_of_ble_eq_true rfl) (Nat.le_of_ble_eq_true rfl) dX1_init_30
  · rw [eP13, va_up_ne _ _ (by omega), eP11, va_up_ne _ _ (by omega), eP8, va_up_ne _ _ (by omega), eP5, va_up_ne _ _ (by omega), eP2, va_up_ne _ _ (by omega)]
  · rw [hqq]; exact if_pos hk
  · rcases (show k = 27 ∨ k = 28 ∨ k = 29 by omega) with rfl | rfl | rfl
    · rw [f14, hqq]; rfl
    · rw [z15, hqq]; rfl
    · rw [z16, hqq]; rfl
set_option maxHeartbeats 8000000 in
set_option maxRecDepth 100000 in
theorem iX1_30 (l : Launch) (G : xw_G) (P : Nat → Nat × va_E) (a : Nat) (hP0 : P 30 = (a, .inr (1, [.int 0, .null, .null, .int 0]))) : xn_T l G yX1_init cX1_init 2 1 40 2 16 [.ref a, .int (8)] 31 P 33 (fun u => ∃ q : Nat → Nat, (∀ k, k < 30 → u k = P k ∧ q k = (P k).1) ∧ q 30 = a ∧ ∀ k, 30 ≤ k → k < 33 → u k = (q k, xw_cell (xn_G G q) k (xn_m0.1 k) (xn_m0.2 k))) := by
  unfold xn_T
  refine Met.ofW (cc := cX1_init) (maxL := 2) (ret := none) (by decide) rfl ?_
  intro p e s m args below meth c s₁ B hml hv
  obtain ⟨hargs, hP, hK, hD, hE, hO, h0⟩ := hv
  have hx := B.exec
  have hb := B.bytes
  have hr := B.returns
  have hlk := B.notSynchronized
  have hin : meth.name = "<init>" := (name_of_methodNamed B.named B.method).1
  have hB : CallFix p m c cX1_init 2 s args TB RX1 := ⟨hx, hb, hml, findClass_of_methodNamed B.named, fun q h => (atoms_spec (ws := Cond.code yX1_init cX1_init 2 none :: TB) B.pre) q (List.mem_cons_of_mem _ h)⟩
  have hS : va_S (xw_A G) s.heap s.heap [] := va_S.rf
  have hl := lv_entry [.ref a, .int (8)] (n := 2) (Nat.le_of_ble_eq_true rfl)
  rw [show entryFrame m args 2 = entryFrame m ([.ref a, .int (8)] : List Value).toArray 2 from by rw [hargs], lg_entry_eq]
  generalize (lg_sl [.ref a, .int (8)] ++ List.replicate (2 - (lg_sl [.ref a, .int (8)]).length) Slot.unset).toArray = ls at hl ⊢
  have hl : lv_has ls 2 [(0, .ref a), (1, .int (8))] := hl
  skip
  refine lv_aload_n hx hb dX1_init_0 rfl (lv_at hl 0 rfl) ?_
  refine xn_obj hB tn_X1_obj tn_objI tn_objC hl.1 dX1_init_1 (Nat.le_of_ble_eq_true rfl) (Nat.le_of_ble_eq_true rfl) ?_
  refine lv_aload_n hx hb dX1_init_4 rfl (lv_at hl 0 rfl) ?_
  refine lv_bipush (v := (8)) hx hb dX1_init_5 (by decide) ?_
  refine xn_newaI hB hK h0 hS hP hD (n := 8) tw_59 (by decide) (by decide) (by decide) (Nat.le_of_ble_eq_true rfl) (Nat.le_of_ble_eq_true rfl) dX1_init_7 (fun q1 P2 eP2 H hP hD hS => ?_)
  have f3 : P2 30 = (a, .inr (1, [.int 0, .null, .null, .int 0])) := by rw [eP2, va_up_ne _ _ (by decide)]; exact hP0
  have f4 : P2 31 = (q1, .inl (xw_q G 0, 8, .inl (fun _ => 0))) := by rw [eP2, va_up_self]
  refine xn_putF hB hK h0 hS hP hD (ci := 1) (k := 30) (C := RX1) (T := TX1) (Nf := 4) (fs' := [.int 0, .ref q1, .null, .int 0]) (by decide) f3 rfl TBi_X1 tyX1 tyX1_ok nmX1 1 (by decide) tw_41 rfl rfl hin rfl rfl rfl rfl (Nat.le_of_ble_eq_true rfl) rfl dX1_init_9 (fun P5 eP5 H locs hP hD hS => ?_)
  have f6 : P5 30 = (a, .inr (1, [.int 0, .ref q1, .null, .int 0])) := by rw [eP5, va_up_self]
  refine lv_aload_n hx hb dX1_init_12 rfl (lv_at hl 0 rfl) ?_
  refine lv_bipush (v := (8)) hx hb dX1_init_13 (by decide) ?_
  refine xn_newaI hB hK h0 hS hP hD (n := 8) tw_59 (by decide) (by decide) (by decide) (Nat.le_of_ble_eq_true rfl) (Nat.le_of_ble_eq_true rfl) dX1_init_15 (fun q7 P8 eP8 H hP hD hS => ?_)
  have f9 : P8 30 = (a, .inr (1, [.int 0, .ref q1, .null, .int 0])) := by rw [eP8, va_up_ne _ _ (by decide)]; exact f6
  have f10 : P8 32 = (q7, .inl (xw_q G 0, 8, .inl (fun _ => 0))) := by rw [eP8, va_up_self]
  refine xn_putF hB hK h0 hS hP hD (ci := 1) (k := 30) (C := RX1) (T := TX1) (Nf := 4) (fs' := [.int 0, .ref q1, .ref q7, .int 0]) (by decide) f9 rfl TBi_X1 tyX1 tyX1_ok nmX1 2 (by decide) tw_44 rfl rfl hin rfl rfl rfl rfl (Nat.le_of_ble_eq_true rfl) rfl dX1_init_17 (fun P11 eP11 H locs hP hD hS => ?_)
  have f12 : P11 30 = (a, .inr (1, [.int 0, .ref q1, .ref q7, .int 0])) := by rw [eP11, va_up_self]
  refine lv_aload_n hx hb dX1_init_20 rfl (lv_at hl 0 rfl) ?_
  refine lv_iload_n hx hb dX1_init_21 rfl (lv_at hl 1 rfl) ?_
  refine lv_bipush (v := (8)) hx hb dX1_init_22 (by decide) ?_
  refine va_mmin hx hb (hB.2.2.1.trans hl.1.symm) hB.2.2.2.1 (hB.2.2.2.2 _ tn_min) (hB.2.2.2.2 _ tm_38) (hB.2.2.2.2 _ tw_4) (hB.2.2.2.2 _ tm_39) (Nat.le_of_ble_eq_true rfl) (Nat.le_of_ble_eq_true rfl) (Nat.le_of_ble_eq_true rfl) (Nat.le_of_ble_eq_true rfl) dX1_init_24 ?_
  rw [show (if (8 : Int32) < 8 then (8 : Int32) else 8) = 8 from by decide]
  refine xn_putF hB hK h0 hS hP hD (ci := 1) (k := 30) (C := RX1) (T := TX1) (Nf := 4) (fs' := [.int (8), .ref q1, .ref q7, .int 0]) (by decide) f12 rfl TBi_X1 tyX1 tyX1_ok nmX1 0 (by decide) tw_40 rfl rfl hin rfl rfl rfl rfl (Nat.le_of_ble_eq_true rfl) rfl dX1_init_27 (fun P13 eP13 H locs hP hD hS => ?_)
  have f14 : P13 30 = (a, .inr (1, [.int (8), .ref q1, .ref q7, .int 0])) := by rw [eP13, va_up_self]
  have z15 : P13 31 = (q1, .inl (xw_q G 0, 8, .inl (fun _ => 0))) := by rw [eP13, va_up_ne _ _ (by decide), eP11, va_up_ne _ _ (by decide), eP8, va_up_ne _ _ (by decide), eP5, va_up_ne _ _ (by decide)]; exact f4
  have z16 : P13 32 = (q7, .inl (xw_q G 0, 8, .inl (fun _ => 0))) := by rw [eP13, va_up_ne _ _ (by decide), eP11, va_up_ne _ _ (by decide)]; exact f10
  obtain ⟨qq, hqq⟩ : ∃ z : Nat → Nat, z = fun k => if k < 30 then (P k).1 else if k < 31 then a else if k < 32 then q1 else q7 := ⟨_, rfl⟩
  refine xn_ret hB hK h0 hS hP hD hE hO hr hlk ⟨qq, fun k hk => ⟨?_, ?_⟩, by rw [hqq]; rfl, fun k hk1 hk2 => ?_⟩ (Nat.le_of_ble_eq_true rfl) (Nat.le_of_ble_eq_true rfl) dX1_init_30
  · rw [eP13, va_up_ne _ _ (by omega), eP11, va_up_ne _ _ (by omega), eP8, va_up_ne _ _ (by omega), eP5, va_up_ne _ _ (by omega), eP2, va_up_ne _ _ (by omega)]
  · rw [hqq]; exact if_pos hk
  · rcases (show k = 30 ∨ k = 31 ∨ k = 32 by omega) with rfl | rfl | rfl
    · rw [f14, hqq]; rfl
    · rw [z15, hqq]; rfl
    · rw [z16, hqq]; rfl
set_option maxHeartbeats 8000000 in
set_option maxRecDepth 100000 in
theorem iX5_17 (l : Launch) (G : xw_G) (P : Nat → Nat × va_E) (a : Nat) (hP0 : P 17 = (a, .inr (5, [.int 0, .null, .null, .null, .null, .null, .null, .int 0, .int 0, .int 0, .int 0, .null, .null, .null]))) : xn_T l G yX5_init cX5_init 1 2 61 15 114 [.ref a] 18 P 33 (fun u => ∃ q : Nat → Nat, (∀ k, k < 17 → u k = P k ∧ q k = (P k).1) ∧ q 17 = a ∧ ∀ k, 17 ≤ k → k < 33 → u k = (q k, xw_cell (xn_G G q) k (xn_m0.1 k) (xn_m0.2 k))) := by
  unfold xn_T
  refine Met.ofW (cc := cX5_init) (maxL := 1) (ret := none) (by decide) rfl ?_
  intro p e s m args below meth c s₁ B hml hv
  obtain ⟨hargs, hP, hK, hD, hE, hO, h0⟩ := hv
  have hx := B.exec
  have hb := B.bytes
  have hr := B.returns
  have hlk := B.notSynchronized
  have hin : meth.name = "<init>" := (name_of_methodNamed B.named B.method).1
  have hB : CallFix p m c cX5_init 1 s args TB RX5 := ⟨hx, hb, hml, findClass_of_methodNamed B.named, fun q h => (atoms_spec (ws := Cond.code yX5_init cX5_init 1 none :: TB) B.pre) q (List.mem_cons_of_mem _ h)⟩
  have hS : va_S (xw_A G) s.heap s.heap [] := va_S.rf
  have hl := lv_entry [.ref a] (n := 1) (Nat.le_of_ble_eq_true rfl)
  rw [show entryFrame m args 1 = entryFrame m ([.ref a] : List Value).toArray 1 from by rw [hargs], lg_entry_eq]
  generalize (lg_sl [.ref a] ++ List.replicate (1 - (lg_sl [.ref a]).length) Slot.unset).toArray = ls at hl ⊢
  have hl : lv_has ls 1 [(0, .ref a)] := hl
  skip
  refine lv_aload_n hx hb dX5_init_0 rfl (lv_at hl 0 rfl) ?_
  refine xn_obj hB tn_X5_obj tn_objI tn_objC hl.1 dX5_init_1 (Nat.le_of_ble_eq_true rfl) (Nat.le_of_ble_eq_true rfl) ?_
  refine lv_aload_n hx hb dX5_init_4 rfl (lv_at hl 0 rfl) ?_
  refine lv_bipush (v := (6)) hx hb dX5_init_5 (by decide) ?_
  refine xn_newaI hB hK h0 hS hP hD (n := 6) tw_59 (by decide) (by decide) (by decide) (Nat.le_of_ble_eq_true rfl) (Nat.le_of_ble_eq_true rfl) dX5_init_7 (fun q1 P2 eP2 H hP hD hS => ?_)
  have f3 : P2 17 = (a, .inr (5, [.int 0, .null, .null, .null, .null, .null, .null, .int 0, .int 0, .int 0, .int 0, .null, .null, .null])) := by rw [eP2, va_up_ne _ _ (by decide)]; exact hP0
  have f4 : P2 18 = (q1, .inl (xw_q G 0, 6, .inl (fun _ => 0))) := by rw [eP2, va_up_self]
  refine xn_putF hB hK h0 hS hP hD (ci := 5) (k := 17) (C := RX5) (T := TX5) (Nf := 14) (fs' := [.int 0, .ref q1, .null, .null, .null, .null, .null, .int 0, .int 0, .int 0, .int 0, .null, .null, .null]) (by decide) f3 rfl TBi_X5 tyX5 tyX5_ok nmX5 1 (by decide) tw_63 rfl rfl hin rfl rfl rfl rfl (Nat.le_of_ble_eq_true rfl) rfl dX5_init_9 (fun P5 eP5 H locs hP hD hS => ?_)
  have f6 : P5 17 = (a, .inr (5, [.int 0, .ref q1, .null, .null, .null, .null, .null, .int 0, .int 0, .int 0, .int 0, .null, .null, .null])) := by rw [eP5, va_up_self]
  refine lv_aload_n hx hb dX5_init_12 rfl (lv_at hl 0 rfl) ?_
  refine lv_bipush (v := (6)) hx hb dX5_init_13 (by decide) ?_
  refine xn_newaI hB hK h0 hS hP hD (n := 6) tw_59 (by decide) (by decide) (by decide) (Nat.le_of_ble_eq_true rfl) (Nat.le_of_ble_eq_true rfl) dX5_init_15 (fun q7 P8 eP8 H hP hD hS => ?_)
  have f9 : P8 17 = (a, .inr (5, [.int 0, .ref q1, .null, .null, .null, .null, .null, .int 0, .int 0, .int 0, .int 0, .null, .null, .null])) := by rw [eP8, va_up_ne _ _ (by decide)]; exact f6
  have f10 : P8 19 = (q7, .inl (xw_q G 0, 6, .inl (fun _ => 0))) := by rw [eP8, va_up_self]
  refine xn_putF hB hK h0 hS hP hD (ci := 5) (k := 17) (C := RX5) (T := TX5) (Nf := 14) (fs' := [.int 0, .ref q1, .ref q7, .null, .null, .null, .null, .int 0, .int 0, .int 0, .int 0, .null, .null, .null]) (by decide) f9 rfl TBi_X5 tyX5 tyX5_ok nmX5 2 (by decide) tw_67 rfl rfl hin rfl rfl rfl rfl (Nat.le_of_ble_eq_true rfl) rfl dX5_init_17 (fun P11 eP11 H locs hP hD hS => ?_)
  have f12 : P11 17 = (a, .inr (5, [.int 0, .ref q1, .ref q7, .null, .null, .null, .null, .int 0, .int 0, .int 0, .int 0, .null, .null, .null])) := by rw [eP11, va_up_self]
  refine lv_aload_n hx hb dX5_init_20 rfl (lv_at hl 0 rfl) ?_
  refine lv_bipush (v := (6)) hx hb dX5_init_21 (by decide) ?_
  refine xn_newaI hB hK h0 hS hP hD (n := 6) tw_59 (by decide) (by decide) (by decide) (Nat.le_of_ble_eq_true rfl) (Nat.le_of_ble_eq_true rfl) dX5_init_23 (fun q13 P14 eP14 H hP hD hS => ?_)
  have f15 : P14 17 = (a, .inr (5, [.int 0, .ref q1, .ref q7, .null, .null, .null, .null, .int 0, .int 0, .int 0, .int 0, .null, .null, .null])) := by rw [eP14, va_up_ne _ _ (by decide)]; exact f12
  have f16 : P14 20 = (q13, .inl (xw_q G 0, 6, .inl (fun _ => 0))) := by rw [eP14, va_up_self]
  refine xn_putF hB hK h0 hS hP hD (ci := 5) (k := 17) (C := RX5) (T := TX5) (Nf := 14) (fs' := [.int 0, .ref q1, .ref q7, .ref q13, .null, .null, .null, .int 0, .int 0, .int 0, .int 0, .null, .null, .null]) (by decide) f15 rfl TBi_X5 tyX5 tyX5_ok nmX5 3 (by decide) tw_71 rfl rfl hin rfl rfl rfl rfl (Nat.le_of_ble_eq_true rfl) rfl dX5_init_25 (fun P17 eP17 H locs hP hD hS => ?_)
  have f18 : P17 17 = (a, .inr (5, [.int 0, .ref q1, .ref q7, .ref q13, .null, .null, .null, .int 0, .int 0, .int 0, .int 0, .null, .null, .null])) := by rw [eP17, va_up_self]
  refine lv_aload_n hx hb dX5_init_28 rfl (lv_at hl 0 rfl) ?_
  refine lv_bipush (v := (6)) hx hb dX5_init_29 (by decide) ?_
  refine xn_newaI hB hK h0 hS hP hD (n := 6) tw_59 (by decide) (by decide) (by decide) (Nat.le_of_ble_eq_true rfl) (Nat.le_of_ble_eq_true rfl) dX5_init_31 (fun q19 P20 eP20 H hP hD hS => ?_)
  have f21 : P20 17 = (a, .inr (5, [.int 0, .ref q1, .ref q7, .ref q13, .null, .null, .null, .int 0, .int 0, .int 0, .int 0, .null, .null, .null])) := by rw [eP20, va_up_ne _ _ (by decide)]; exact f18
  have f22 : P20 21 = (q19, .inl (xw_q G 0, 6, .inl (fun _ => 0))) := by rw [eP20, va_up_self]
  refine xn_putF hB hK h0 hS hP hD (ci := 5) (k := 17) (C := RX5) (T := TX5) (Nf := 14) (fs' := [.int 0, .ref q1, .ref q7, .ref q13, .ref q19, .null, .null, .int 0, .int 0, .int 0, .int 0, .null, .null, .null]) (by decide) f21 rfl TBi_X5 tyX5 tyX5_ok nmX5 4 (by decide) tw_74 rfl rfl hin rfl rfl rfl rfl (Nat.le_of_ble_eq_true rfl) rfl dX5_init_33 (fun P23 eP23 H locs hP hD hS => ?_)
  have f24 : P23 17 = (a, .inr (5, [.int 0, .ref q1, .ref q7, .ref q13, .ref q19, .null, .null, .int 0, .int 0, .int 0, .int 0, .null, .null, .null])) := by rw [eP23, va_up_self]
  refine lv_aload_n hx hb dX5_init_36 rfl (lv_at hl 0 rfl) ?_
  refine lv_bipush (v := (6)) hx hb dX5_init_37 (by decide) ?_
  refine xn_newaI hB hK h0 hS hP hD (n := 6) tw_59 (by decide) (by decide) (by decide) (Nat.le_of_ble_eq_true rfl) (Nat.le_of_ble_eq_true rfl) dX5_init_39 (fun q25 P26 eP26 H hP hD hS => ?_)
  have f27 : P26 17 = (a, .inr (5, [.int 0, .ref q1, .ref q7, .ref q13, .ref q19, .null, .null, .int 0, .int 0, .int 0, .int 0, .null, .null, .null])) := by rw [eP26, va_up_ne _ _ (by decide)]; exact f24
  have f28 : P26 22 = (q25, .inl (xw_q G 0, 6, .inl (fun _ => 0))) := by rw [eP26, va_up_self]
  refine xn_putF hB hK h0 hS hP hD (ci := 5) (k := 17) (C := RX5) (T := TX5) (Nf := 14) (fs' := [.int 0, .ref q1, .ref q7, .ref q13, .ref q19, .ref q25, .null, .int 0, .int 0, .int 0, .int 0, .null, .null, .null]) (by decide) f27 rfl TBi_X5 tyX5 tyX5_ok nmX5 5 (by decide) tw_77 rfl rfl hin rfl rfl rfl rfl (Nat.le_of_ble_eq_true rfl) rfl dX5_init_41 (fun P29 eP29 H locs hP hD hS => ?_)
  have f30 : P29 17 = (a, .inr (5, [.int 0, .ref q1, .ref q7, .ref q13, .ref q19, .ref q25, .null, .int 0, .int 0, .int 0, .int 0, .null, .null, .null])) := by rw [eP29, va_up_self]
  refine lv_aload_n hx hb dX5_init_44 rfl (lv_at hl 0 rfl) ?_
  refine lv_bipush (v := (24)) hx hb dX5_init_45 (by decide) ?_
  refine xn_newaI hB hK h0 hS hP hD (n := 24) tw_59 (by decide) (by decide) (by decide) (Nat.le_of_ble_eq_true rfl) (Nat.le_of_ble_eq_true rfl) dX5_init_47 (fun q31 P32 eP32 H hP hD hS => ?_)
  have f33 : P32 17 = (a, .inr (5, [.int 0, .ref q1, .ref q7, .ref q13, .ref q19, .ref q25, .null, .int 0, .int 0, .int 0, .int 0, .null, .null, .null])) := by rw [eP32, va_up_ne _ _ (by decide)]; exact f30
  have f34 : P32 23 = (q31, .inl (xw_q G 0, 24, .inl (fun _ => 0))) := by rw [eP32, va_up_self]
  refine xn_putF hB hK h0 hS hP hD (ci := 5) (k := 17) (C := RX5) (T := TX5) (Nf := 14) (fs' := [.int 0, .ref q1, .ref q7, .ref q13, .ref q19, .ref q25, .ref q31, .int 0, .int 0, .int 0, .int 0, .null, .null, .null]) (by decide) f33 rfl TBi_X5 tyX5 tyX5_ok nmX5 6 (by decide) tw_80 rfl rfl hin rfl rfl rfl rfl (Nat.le_of_ble_eq_true rfl) rfl dX5_init_49 (fun P35 eP35 H locs hP hD hS => ?_)
  have f36 : P35 17 = (a, .inr (5, [.int 0, .ref q1, .ref q7, .ref q13, .ref q19, .ref q25, .ref q31, .int 0, .int 0, .int 0, .int 0, .null, .null, .null])) := by rw [eP35, va_up_self]
  refine lv_aload_n hx hb dX5_init_52 rfl (lv_at hl 0 rfl) ?_
  refine lv_bipush (v := (100)) hx hb dX5_init_53 (by decide) ?_
  refine xn_put hB hK h0 hS hP hD (ci := 5) (k := 17) (C := RX5) (T := TX5) (Nf := 14) (fs' := [.int 0, .ref q1, .ref q7, .ref q13, .ref q19, .ref q25, .ref q31, .int 0, .int (100), .int 0, .int 0, .null, .null, .null]) (by decide) f36 rfl TBi_X5 tyX5 tyX5_ok nmX5 8 (by decide) tw_86 rfl rfl rfl rfl rfl (Nat.le_of_ble_eq_true rfl) rfl dX5_init_55 (fun P37 eP37 H locs hP hD hS => ?_)
  have f38 : P37 17 = (a, .inr (5, [.int 0, .ref q1, .ref q7, .ref q13, .ref q19, .ref q25, .ref q31, .int 0, .int (100), .int 0, .int 0, .null, .null, .null])) := by rw [eP37, va_up_self]
  refine lv_aload_n hx hb dX5_init_58 rfl (lv_at hl 0 rfl) ?_
  refine lv_iconst (v := (-1)) hx hb dX5_init_59 (by decide) ?_
  refine xn_put hB hK h0 hS hP hD (ci := 5) (k := 17) (C := RX5) (T := TX5) (Nf := 14) (fs' := [.int 0, .ref q1, .ref q7, .ref q13, .ref q19, .ref q25, .ref q31, .int 0, .int (100), .int 0, .int (-1), .null, .null, .null]) (by decide) f38 rfl TBi_X5 tyX5 tyX5_ok nmX5 10 (by decide) tw_92 rfl rfl rfl rfl rfl (Nat.le_of_ble_eq_true rfl) rfl dX5_init_60 (fun P39 eP39 H locs hP hD hS => ?_)
  have f40 : P39 17 = (a, .inr (5, [.int 0, .ref q1, .ref q7, .ref q13, .ref q19, .ref q25, .ref q31, .int 0, .int (100), .int 0, .int (-1), .null, .null, .null])) := by rw [eP39, va_up_self]
  refine lv_aload_n hx hb dX5_init_63 rfl (lv_at hl 0 rfl) ?_
  refine xn_new hB hK h0 hS hP hD (ci := 1) (C := RX1) (T := TX1) (Nf := 4) (fs := [.int 0, .null, .null, .int 0]) rfl TBi_X1 tyX1 tyX1_ok tw_31 tw_32 tw_3 (fun j hj => by rcases (show j = 0 ∨ j = 1 ∨ j = 2 ∨ j = 3 by omega) with rfl | rfl | rfl | rfl <;> rfl) (Nat.le_of_ble_eq_true rfl) (Nat.le_of_ble_eq_true rfl) dX5_init_64 (fun q41 P42 eP42 H hP hD hS => ?_)
  have f43 : P42 17 = (a, .inr (5, [.int 0, .ref q1, .ref q7, .ref q13, .ref q19, .ref q25, .ref q31, .int 0, .int (100), .int 0, .int (-1), .null, .null, .null])) := by rw [eP42, va_up_ne _ _ (by decide)]; exact f40
  have f44 : P42 24 = (q41, .inr (1, [.int 0, .null, .null, .int 0])) := by rw [eP42, va_up_self]
  refine lv_dup hx hb dX5_init_67 rfl ?_
  refine lv_iconst (v := (5)) hx hb dX5_init_68 (by decide) ?_
  refine xn_cI hB hK h0 hS hP hD hE hO (As := [.int (5)]) (rest := [.ref q41, .ref a]) (iX1_24 l G P42 q41 f44) tw_33 tw_35 tw_34 tw_3 rfl 1 hi_X1_init ⟨(Nat.le_of_ble_eq_true rfl), (Nat.le_of_ble_eq_true rfl)⟩ rfl hl.1 (Nat.le_of_ble_eq_true rfl) rfl dX5_init_69 ⟨(Nat.le_of_ble_eq_true rfl), (Nat.le_of_ble_eq_true rfl)⟩ (fun P45 hp46 H locs hP hD hS => ?_)
  obtain ⟨qf47, hp46l, hp46a, hp46c⟩ := hp46
  subst hp46a
  have f48 : P45 17 = (a, .inr (5, [.int 0, .ref q1, .ref q7, .ref q13, .ref q19, .ref q25, .ref q31, .int 0, .int (100), .int 0, .int (-1), .null, .null, .null])) := (hp46l 17 (by decide)).1.trans f43
  refine xn_putF hB hK h0 hS hP hD (ci := 5) (k := 17) (C := RX5) (T := TX5) (Nf := 14) (fs' := [.int 0, .ref q1, .ref q7, .ref q13, .ref q19, .ref q25, .ref q31, .int 0, .int (100), .int 0, .int (-1), .ref (qf47 24), .null, .null]) (by decide) f48 rfl TBi_X5 tyX5 tyX5_ok nmX5 11 (by decide) tw_94 rfl rfl hin rfl rfl rfl rfl (Nat.le_of_ble_eq_true rfl) rfl dX5_init_72 (fun P49 eP49 H locs hP hD hS => ?_)
  have f50 : P49 17 = (a, .inr (5, [.int 0, .ref q1, .ref q7, .ref q13, .ref q19, .ref q25, .ref q31, .int 0, .int (100), .int 0, .int (-1), .ref (qf47 24), .null, .null])) := by rw [eP49, va_up_self]
  refine lv_aload_n hx hb dX5_init_75 rfl (lv_at hl 0 rfl) ?_
  refine xn_new hB hK h0 hS hP hD (ci := 1) (C := RX1) (T := TX1) (Nf := 4) (fs := [.int 0, .null, .null, .int 0]) rfl TBi_X1 tyX1 tyX1_ok tw_31 tw_32 tw_3 (fun j hj => by rcases (show j = 0 ∨ j = 1 ∨ j = 2 ∨ j = 3 by omega) with rfl | rfl | rfl | rfl <;> rfl) (Nat.le_of_ble_eq_true rfl) (Nat.le_of_ble_eq_true rfl) dX5_init_76 (fun q51 P52 eP52 H hP hD hS => ?_)
  have f53 : P52 17 = (a, .inr (5, [.int 0, .ref q1, .ref q7, .ref q13, .ref q19, .ref q25, .ref q31, .int 0, .int (100), .int 0, .int (-1), .ref (qf47 24), .null, .null])) := by rw [eP52, va_up_ne _ _ (by decide)]; exact f50
  have f54 : P52 27 = (q51, .inr (1, [.int 0, .null, .null, .int 0])) := by rw [eP52, va_up_self]
  refine lv_dup hx hb dX5_init_79 rfl ?_
  refine lv_bipush (v := (8)) hx hb dX5_init_80 (by decide) ?_
  refine xn_cI hB hK h0 hS hP hD hE hO (As := [.int (8)]) (rest := [.ref q51, .ref a]) (iX1_27 l G P52 q51 f54) tw_33 tw_35 tw_34 tw_3 rfl 1 hi_X1_init ⟨(Nat.le_of_ble_eq_true rfl), (Nat.le_of_ble_eq_true rfl)⟩ rfl hl.1 (Nat.le_of_ble_eq_true rfl) rfl dX5_init_82 ⟨(Nat.le_of_ble_eq_true rfl), (Nat.le_of_ble_eq_true rfl)⟩ (fun P55 hp56 H locs hP hD hS => ?_)
  obtain ⟨qf57, hp56l, hp56a, hp56c⟩ := hp56
  subst hp56a
  have f58 : P55 17 = (a, .inr (5, [.int 0, .ref q1, .ref q7, .ref q13, .ref q19, .ref q25, .ref q31, .int 0, .int (100), .int 0, .int (-1), .ref (qf47 24), .null, .null])) := (hp56l 17 (by decide)).1.trans f53
  refine xn_putF hB hK h0 hS hP hD (ci := 5) (k := 17) (C := RX5) (T := TX5) (Nf := 14) (fs' := [.int 0, .ref q1, .ref q7, .ref q13, .ref q19, .ref q25, .ref q31, .int 0, .int (100), .int 0, .int (-1), .ref (qf47 24), .ref (qf57 27), .null]) (by decide) f58 rfl TBi_X5 tyX5 tyX5_ok nmX5 12 (by decide) tw_97 rfl rfl hin rfl rfl rfl rfl (Nat.le_of_ble_eq_true rfl) rfl dX5_init_85 (fun P59 eP59 H locs hP hD hS => ?_)
  have f60 : P59 17 = (a, .inr (5, [.int 0, .ref q1, .ref q7, .ref q13, .ref q19, .ref q25, .ref q31, .int 0, .int (100), .int 0, .int (-1), .ref (qf47 24), .ref (qf57 27), .null])) := by rw [eP59, va_up_self]
  refine lv_aload_n hx hb dX5_init_88 rfl (lv_at hl 0 rfl) ?_
  refine xn_new hB hK h0 hS hP hD (ci := 1) (C := RX1) (T := TX1) (Nf := 4) (fs := [.int 0, .null, .null, .int 0]) rfl TBi_X1 tyX1 tyX1_ok tw_31 tw_32 tw_3 (fun j hj => by rcases (show j = 0 ∨ j = 1 ∨ j = 2 ∨ j = 3 by omega) with rfl | rfl | rfl | rfl <;> rfl) (Nat.le_of_ble_eq_true rfl) (Nat.le_of_ble_eq_true rfl) dX5_init_89 (fun q61 P62 eP62 H hP hD hS => ?_)
  have f63 : P62 17 = (a, .inr (5, [.int 0, .ref q1, .ref q7, .ref q13, .ref q19, .ref q25, .ref q31, .int 0, .int (100), .int 0, .int (-1), .ref (qf47 24), .ref (qf57 27), .null])) := by rw [eP62, va_up_ne _ _ (by decide)]; exact f60
  have f64 : P62 30 = (q61, .inr (1, [.int 0, .null, .null, .int 0])) := by rw [eP62, va_up_self]
  refine lv_dup hx hb dX5_init_92 rfl ?_
  refine lv_bipush (v := (8)) hx hb dX5_init_93 (by decide) ?_
  refine xn_cI hB hK h0 hS hP hD hE hO (As := [.int (8)]) (rest := [.ref q61, .ref a]) (iX1_30 l G P62 q61 f64) tw_33 tw_35 tw_34 tw_3 rfl 1 hi_X1_init ⟨(Nat.le_of_ble_eq_true rfl), (Nat.le_of_ble_eq_true rfl)⟩ rfl hl.1 (Nat.le_of_ble_eq_true rfl) rfl dX5_init_95 ⟨(Nat.le_of_ble_eq_true rfl), (Nat.le_of_ble_eq_true rfl)⟩ (fun P65 hp66 H locs hP hD hS => ?_)
  obtain ⟨qf67, hp66l, hp66a, hp66c⟩ := hp66
  subst hp66a
  have f68 : P65 17 = (a, .inr (5, [.int 0, .ref q1, .ref q7, .ref q13, .ref q19, .ref q25, .ref q31, .int 0, .int (100), .int 0, .int (-1), .ref (qf47 24), .ref (qf57 27), .null])) := (hp66l 17 (by decide)).1.trans f63
  refine xn_putF hB hK h0 hS hP hD (ci := 5) (k := 17) (C := RX5) (T := TX5) (Nf := 14) (fs' := [.int 0, .ref q1, .ref q7, .ref q13, .ref q19, .ref q25, .ref q31, .int 0, .int (100), .int 0, .int (-1), .ref (qf47 24), .ref (qf57 27), .ref (qf67 30)]) (by decide) f68 rfl TBi_X5 tyX5 tyX5_ok nmX5 13 (by decide) tw_99 rfl rfl hin rfl rfl rfl rfl (Nat.le_of_ble_eq_true rfl) rfl dX5_init_98 (fun P69 eP69 H locs hP hD hS => ?_)
  have f70 : P69 17 = (a, .inr (5, [.int 0, .ref q1, .ref q7, .ref q13, .ref q19, .ref q25, .ref q31, .int 0, .int (100), .int 0, .int (-1), .ref (qf47 24), .ref (qf57 27), .ref (qf67 30)])) := by rw [eP69, va_up_self]
  have z71 : P69 18 = (q1, .inl (xw_q G 0, 6, .inl (fun _ => 0))) := by rw [eP69, va_up_ne _ _ (by decide), (hp66l 18 (by decide)).1, eP62, va_up_ne _ _ (by decide), eP59, va_up_ne _ _ (by decide), (hp56l 18 (by decide)).1, eP52, va_up_ne _ _ (by decide), eP49, va_up_ne _ _ (by decide), (hp46l 18 (by decide)).1, eP42, va_up_ne _ _ (by decide), eP39, va_up_ne _ _ (by decide), eP37, va_up_ne _ _ (by decide), eP35, va_up_ne _ _ (by decide), eP32, va_up_ne _ _ (by decide), eP29, va_up_ne _ _ (by decide), eP26, va_up_ne _ _ (by decide), eP23, va_up_ne _ _ (by decide), eP20, va_up_ne _ _ (by decide), eP17, va_up_ne _ _ (by decide), eP14, va_up_ne _ _ (by decide), eP11, va_up_ne _ _ (by decide), eP8, va_up_ne _ _ (by decide), eP5, va_up_ne _ _ (by decide)]; exact f4
  have z72 : P69 19 = (q7, .inl (xw_q G 0, 6, .inl (fun _ => 0))) := by rw [eP69, va_up_ne _ _ (by decide), (hp66l 19 (by decide)).1, eP62, va_up_ne _ _ (by decide), eP59, va_up_ne _ _ (by decide), (hp56l 19 (by decide)).1, eP52, va_up_ne _ _ (by decide), eP49, va_up_ne _ _ (by decide), (hp46l 19 (by decide)).1, eP42, va_up_ne _ _ (by decide), eP39, va_up_ne _ _ (by decide), eP37, va_up_ne _ _ (by decide), eP35, va_up_ne _ _ (by decide), eP32, va_up_ne _ _ (by decide), eP29, va_up_ne _ _ (by decide), eP26, va_up_ne _ _ (by decide), eP23, va_up_ne _ _ (by decide), eP20, va_up_ne _ _ (by decide), eP17, va_up_ne _ _ (by decide), eP14, va_up_ne _ _ (by decide), eP11, va_up_ne _ _ (by decide)]; exact f10
  have z73 : P69 20 = (q13, .inl (xw_q G 0, 6, .inl (fun _ => 0))) := by rw [eP69, va_up_ne _ _ (by decide), (hp66l 20 (by decide)).1, eP62, va_up_ne _ _ (by decide), eP59, va_up_ne _ _ (by decide), (hp56l 20 (by decide)).1, eP52, va_up_ne _ _ (by decide), eP49, va_up_ne _ _ (by decide), (hp46l 20 (by decide)).1, eP42, va_up_ne _ _ (by decide), eP39, va_up_ne _ _ (by decide), eP37, va_up_ne _ _ (by decide), eP35, va_up_ne _ _ (by decide), eP32, va_up_ne _ _ (by decide), eP29, va_up_ne _ _ (by decide), eP26, va_up_ne _ _ (by decide), eP23, va_up_ne _ _ (by decide), eP20, va_up_ne _ _ (by decide), eP17, va_up_ne _ _ (by decide)]; exact f16
  have z74 : P69 21 = (q19, .inl (xw_q G 0, 6, .inl (fun _ => 0))) := by rw [eP69, va_up_ne _ _ (by decide), (hp66l 21 (by decide)).1, eP62, va_up_ne _ _ (by decide), eP59, va_up_ne _ _ (by decide), (hp56l 21 (by decide)).1, eP52, va_up_ne _ _ (by decide), eP49, va_up_ne _ _ (by decide), (hp46l 21 (by decide)).1, eP42, va_up_ne _ _ (by decide), eP39, va_up_ne _ _ (by decide), eP37, va_up_ne _ _ (by decide), eP35, va_up_ne _ _ (by decide), eP32, va_up_ne _ _ (by decide), eP29, va_up_ne _ _ (by decide), eP26, va_up_ne _ _ (by decide), eP23, va_up_ne _ _ (by decide)]; exact f22
  have z75 : P69 22 = (q25, .inl (xw_q G 0, 6, .inl (fun _ => 0))) := by rw [eP69, va_up_ne _ _ (by decide), (hp66l 22 (by decide)).1, eP62, va_up_ne _ _ (by decide), eP59, va_up_ne _ _ (by decide), (hp56l 22 (by decide)).1, eP52, va_up_ne _ _ (by decide), eP49, va_up_ne _ _ (by decide), (hp46l 22 (by decide)).1, eP42, va_up_ne _ _ (by decide), eP39, va_up_ne _ _ (by decide), eP37, va_up_ne _ _ (by decide), eP35, va_up_ne _ _ (by decide), eP32, va_up_ne _ _ (by decide), eP29, va_up_ne _ _ (by decide)]; exact f28
  have z76 : P69 23 = (q31, .inl (xw_q G 0, 24, .inl (fun _ => 0))) := by rw [eP69, va_up_ne _ _ (by decide), (hp66l 23 (by decide)).1, eP62, va_up_ne _ _ (by decide), eP59, va_up_ne _ _ (by decide), (hp56l 23 (by decide)).1, eP52, va_up_ne _ _ (by decide), eP49, va_up_ne _ _ (by decide), (hp46l 23 (by decide)).1, eP42, va_up_ne _ _ (by decide), eP39, va_up_ne _ _ (by decide), eP37, va_up_ne _ _ (by decide), eP35, va_up_ne _ _ (by decide)]; exact f34
  obtain ⟨qq, hqq⟩ : ∃ z : Nat → Nat, z = fun k => if k < 17 then (P k).1 else if k < 18 then a else if k < 19 then q1 else if k < 20 then q7 else if k < 21 then q13 else if k < 22 then q19 else if k < 23 then q25 else if k < 24 then q31 else if k < 27 then qf47 k else if k < 30 then qf57 k else qf67 k := ⟨_, rfl⟩
  refine xn_ret hB hK h0 hS hP hD hE hO hr hlk ⟨qq, fun k hk => ⟨?_, ?_⟩, by rw [hqq]; rfl, fun k hk1 hk2 => ?_⟩ (Nat.le_of_ble_eq_true rfl) (Nat.le_of_ble_eq_true rfl) dX5_init_101
  · rw [eP69, va_up_ne _ _ (by omega), (hp66l k (by omega)).1, eP62, va_up_ne _ _ (by omega), eP59, va_up_ne _ _ (by omega), (hp56l k (by omega)).1, eP52, va_up_ne _ _ (by omega), eP49, va_up_ne _ _ (by omega), (hp46l k (by omega)).1, eP42, va_up_ne _ _ (by omega), eP39, va_up_ne _ _ (by omega), eP37, va_up_ne _ _ (by omega), eP35, va_up_ne _ _ (by omega), eP32, va_up_ne _ _ (by omega), eP29, va_up_ne _ _ (by omega), eP26, va_up_ne _ _ (by omega), eP23, va_up_ne _ _ (by omega), eP20, va_up_ne _ _ (by omega), eP17, va_up_ne _ _ (by omega), eP14, va_up_ne _ _ (by omega), eP11, va_up_ne _ _ (by omega), eP8, va_up_ne _ _ (by omega), eP5, va_up_ne _ _ (by omega), eP2, va_up_ne _ _ (by omega)]
  · rw [hqq]; exact if_pos hk
  · rcases (show k = 17 ∨ k = 18 ∨ k = 19 ∨ k = 20 ∨ k = 21 ∨ k = 22 ∨ k = 23 ∨ k = 24 ∨ k = 25 ∨ k = 26 ∨ k = 27 ∨ k = 28 ∨ k = 29 ∨ k = 30 ∨ k = 31 ∨ k = 32 by omega) with rfl | rfl | rfl | rfl | rfl | rfl | rfl | rfl | rfl | rfl | rfl | rfl | rfl | rfl | rfl | rfl
    · rw [f70, hqq]; rfl
    · rw [z71, hqq]; rfl
    · rw [z72, hqq]; rfl
    · rw [z73, hqq]; rfl
    · rw [z74, hqq]; rfl
    · rw [z75, hqq]; rfl
    · rw [z76, hqq]; rfl
    · rw [eP69, va_up_ne _ _ (by decide), (hp66l 24 (by decide)).1, eP62, va_up_ne _ _ (by decide), eP59, va_up_ne _ _ (by decide), (hp56l 24 (by decide)).1, eP52, va_up_ne _ _ (by decide), eP49, va_up_ne _ _ (by decide)]; rw [hqq]; exact hp46c 24 (by decide) (by decide)
    · rw [eP69, va_up_ne _ _ (by decide), (hp66l 25 (by decide)).1, eP62, va_up_ne _ _ (by decide), eP59, va_up_ne _ _ (by decide), (hp56l 25 (by decide)).1, eP52, va_up_ne _ _ (by decide), eP49, va_up_ne _ _ (by decide)]; rw [hqq]; exact hp46c 25 (by decide) (by decide)
    · rw [eP69, va_up_ne _ _ (by decide), (hp66l 26 (by decide)).1, eP62, va_up_ne _ _ (by decide), eP59, va_up_ne _ _ (by decide), (hp56l 26 (by decide)).1, eP52, va_up_ne _ _ (by decide), eP49, va_up_ne _ _ (by decide)]; rw [hqq]; exact hp46c 26 (by decide) (by decide)
    · rw [eP69, va_up_ne _ _ (by decide), (hp66l 27 (by decide)).1, eP62, va_up_ne _ _ (by decide), eP59, va_up_ne _ _ (by decide)]; rw [hqq]; exact hp56c 27 (by decide) (by decide)
    · rw [eP69, va_up_ne _ _ (by decide), (hp66l 28 (by decide)).1, eP62, va_up_ne _ _ (by decide), eP59, va_up_ne _ _ (by decide)]; rw [hqq]; exact hp56c 28 (by decide) (by decide)
    · rw [eP69, va_up_ne _ _ (by decide), (hp66l 29 (by decide)).1, eP62, va_up_ne _ _ (by decide), eP59, va_up_ne _ _ (by decide)]; rw [hqq]; exact hp56c 29 (by decide) (by decide)
    · rw [eP69, va_up_ne _ _ (by decide)]; rw [hqq]; exact hp66c 30 (by decide) (by decide)
    · rw [eP69, va_up_ne _ _ (by decide)]; rw [hqq]; exact hp66c 31 (by decide) (by decide)
    · rw [eP69, va_up_ne _ _ (by decide)]; rw [hqq]; exact hp66c 32 (by decide) (by decide)
set_option maxHeartbeats 8000000 in
set_option maxRecDepth 100000 in
theorem iX1_40 (l : Launch) (G : xw_G) (P : Nat → Nat × va_E) (a : Nat) (hP0 : P 40 = (a, .inr (1, [.int 0, .null, .null, .int 0]))) : xn_T l G yX1_init cX1_init 2 1 40 2 16 [.ref a, .int (5)] 41 P 43 (fun u => ∃ q : Nat → Nat, (∀ k, k < 40 → u k = P k ∧ q k = (P k).1) ∧ q 40 = a ∧ ∀ k, 40 ≤ k → k < 43 → u k = (q k, xw_cell (xn_G G q) k (xn_m0.1 k) (xn_m0.2 k))) := by
  unfold xn_T
  refine Met.ofW (cc := cX1_init) (maxL := 2) (ret := none) (by decide) rfl ?_
  intro p e s m args below meth c s₁ B hml hv
  obtain ⟨hargs, hP, hK, hD, hE, hO, h0⟩ := hv
  have hx := B.exec
  have hb := B.bytes
  have hr := B.returns
  have hlk := B.notSynchronized
  have hin : meth.name = "<init>" := (name_of_methodNamed B.named B.method).1
  have hB : CallFix p m c cX1_init 2 s args TB RX1 := ⟨hx, hb, hml, findClass_of_methodNamed B.named, fun q h => (atoms_spec (ws := Cond.code yX1_init cX1_init 2 none :: TB) B.pre) q (List.mem_cons_of_mem _ h)⟩
  have hS : va_S (xw_A G) s.heap s.heap [] := va_S.rf
  have hl := lv_entry [.ref a, .int (5)] (n := 2) (Nat.le_of_ble_eq_true rfl)
  rw [show entryFrame m args 2 = entryFrame m ([.ref a, .int (5)] : List Value).toArray 2 from by rw [hargs], lg_entry_eq]
  generalize (lg_sl [.ref a, .int (5)] ++ List.replicate (2 - (lg_sl [.ref a, .int (5)]).length) Slot.unset).toArray = ls at hl ⊢
  have hl : lv_has ls 2 [(0, .ref a), (1, .int (5))] := hl
  skip
  refine lv_aload_n hx hb dX1_init_0 rfl (lv_at hl 0 rfl) ?_
  refine xn_obj hB tn_X1_obj tn_objI tn_objC hl.1 dX1_init_1 (Nat.le_of_ble_eq_true rfl) (Nat.le_of_ble_eq_true rfl) ?_
  refine lv_aload_n hx hb dX1_init_4 rfl (lv_at hl 0 rfl) ?_
  refine lv_bipush (v := (8)) hx hb dX1_init_5 (by decide) ?_
  refine xn_newaI hB hK h0 hS hP hD (n := 8) tw_59 (by decide) (by decide) (by decide) (Nat.le_of_ble_eq_true rfl) (Nat.le_of_ble_eq_true rfl) dX1_init_7 (fun q1 P2 eP2 H hP hD hS => ?_)
  have f3 : P2 40 = (a, .inr (1, [.int 0, .null, .null, .int 0])) := by rw [eP2, va_up_ne _ _ (by decide)]; exact hP0
  have f4 : P2 41 = (q1, .inl (xw_q G 0, 8, .inl (fun _ => 0))) := by rw [eP2, va_up_self]
  refine xn_putF hB hK h0 hS hP hD (ci := 1) (k := 40) (C := RX1) (T := TX1) (Nf := 4) (fs' := [.int 0, .ref q1, .null, .int 0]) (by decide) f3 rfl TBi_X1 tyX1 tyX1_ok nmX1 1 (by decide) tw_41 rfl rfl hin rfl rfl rfl rfl (Nat.le_of_ble_eq_true rfl) rfl dX1_init_9 (fun P5 eP5 H locs hP hD hS => ?_)
  have f6 : P5 40 = (a, .inr (1, [.int 0, .ref q1, .null, .int 0])) := by rw [eP5, va_up_self]
  refine lv_aload_n hx hb dX1_init_12 rfl (lv_at hl 0 rfl) ?_
  refine lv_bipush (v := (8)) hx hb dX1_init_13 (by decide) ?_
  refine xn_newaI hB hK h0 hS hP hD (n := 8) tw_59 (by decide) (by decide) (by decide) (Nat.le_of_ble_eq_true rfl) (Nat.le_of_ble_eq_true rfl) dX1_init_15 (fun q7 P8 eP8 H hP hD hS => ?_)
  have f9 : P8 40 = (a, .inr (1, [.int 0, .ref q1, .null, .int 0])) := by rw [eP8, va_up_ne _ _ (by decide)]; exact f6
  have f10 : P8 42 = (q7, .inl (xw_q G 0, 8, .inl (fun _ => 0))) := by rw [eP8, va_up_self]
  refine xn_putF hB hK h0 hS hP hD (ci := 1) (k := 40) (C := RX1) (T := TX1) (Nf := 4) (fs' := [.int 0, .ref q1, .ref q7, .int 0]) (by decide) f9 rfl TBi_X1 tyX1 tyX1_ok nmX1 2 (by decide) tw_44 rfl rfl hin rfl rfl rfl rfl (Nat.le_of_ble_eq_true rfl) rfl dX1_init_17 (fun P11 eP11 H locs hP hD hS => ?_)
  have f12 : P11 40 = (a, .inr (1, [.int 0, .ref q1, .ref q7, .int 0])) := by rw [eP11, va_up_self]
  refine lv_aload_n hx hb dX1_init_20 rfl (lv_at hl 0 rfl) ?_
  refine lv_iload_n hx hb dX1_init_21 rfl (lv_at hl 1 rfl) ?_
  refine lv_bipush (v := (8)) hx hb dX1_init_22 (by decide) ?_
  refine va_mmin hx hb (hB.2.2.1.trans hl.1.symm) hB.2.2.2.1 (hB.2.2.2.2 _ tn_min) (hB.2.2.2.2 _ tm_38) (hB.2.2.2.2 _ tw_4) (hB.2.2.2.2 _ tm_39) (Nat.le_of_ble_eq_true rfl) (Nat.le_of_ble_eq_true rfl) (Nat.le_of_ble_eq_true rfl) (Nat.le_of_ble_eq_true rfl) dX1_init_24 ?_
  rw [show (if (8 : Int32) < 5 then (8 : Int32) else 5) = 5 from by decide]
  refine xn_putF hB hK h0 hS hP hD (ci := 1) (k := 40) (C := RX1) (T := TX1) (Nf := 4) (fs' := [.int (5), .ref q1, .ref q7, .int 0]) (by decide) f12 rfl TBi_X1 tyX1 tyX1_ok nmX1 0 (by decide) tw_40 rfl rfl hin rfl rfl rfl rfl (Nat.le_of_ble_eq_true rfl) rfl dX1_init_27 (fun P13 eP13 H locs hP hD hS => ?_)
  have f14 : P13 40 = (a, .inr (1, [.int (5), .ref q1, .ref q7, .int 0])) := by rw [eP13, va_up_self]
  have z15 : P13 41 = (q1, .inl (xw_q G 0, 8, .inl (fun _ => 0))) := by rw [eP13, va_up_ne _ _ (by decide), eP11, va_up_ne _ _ (by decide), eP8, va_up_ne _ _ (by decide), eP5, va_up_ne _ _ (by decide)]; exact f4
  have z16 : P13 42 = (q7, .inl (xw_q G 0, 8, .inl (fun _ => 0))) := by rw [eP13, va_up_ne _ _ (by decide), eP11, va_up_ne _ _ (by decide)]; exact f10
  obtain ⟨qq, hqq⟩ : ∃ z : Nat → Nat, z = fun k => if k < 40 then (P k).1 else if k < 41 then a else if k < 42 then q1 else q7 := ⟨_, rfl⟩
  refine xn_ret hB hK h0 hS hP hD hE hO hr hlk ⟨qq, fun k hk => ⟨?_, ?_⟩, by rw [hqq]; rfl, fun k hk1 hk2 => ?_⟩ (Nat.le_of_ble_eq_true rfl) (Nat.le_of_ble_eq_true rfl) dX1_init_30
  · rw [eP13, va_up_ne _ _ (by omega), eP11, va_up_ne _ _ (by omega), eP8, va_up_ne _ _ (by omega), eP5, va_up_ne _ _ (by omega), eP2, va_up_ne _ _ (by omega)]
  · rw [hqq]; exact if_pos hk
  · rcases (show k = 40 ∨ k = 41 ∨ k = 42 by omega) with rfl | rfl | rfl
    · rw [f14, hqq]; rfl
    · rw [z15, hqq]; rfl
    · rw [z16, hqq]; rfl
set_option maxHeartbeats 8000000 in
set_option maxRecDepth 100000 in
theorem iX1_43 (l : Launch) (G : xw_G) (P : Nat → Nat × va_E) (a : Nat) (hP0 : P 43 = (a, .inr (1, [.int 0, .null, .null, .int 0]))) : xn_T l G yX1_init cX1_init 2 1 40 2 16 [.ref a, .int (8)] 44 P 46 (fun u => ∃ q : Nat → Nat, (∀ k, k < 43 → u k = P k ∧ q k = (P k).1) ∧ q 43 = a ∧ ∀ k, 43 ≤ k → k < 46 → u k = (q k, xw_cell (xn_G G q) k (xn_m0.1 k) (xn_m0.2 k))) := by
  unfold xn_T
  refine Met.ofW (cc := cX1_init) (maxL := 2) (ret := none) (by decide) rfl ?_
  intro p e s m args below meth c s₁ B hml hv
  obtain ⟨hargs, hP, hK, hD, hE, hO, h0⟩ := hv
  have hx := B.exec
  have hb := B.bytes
  have hr := B.returns
  have hlk := B.notSynchronized
  have hin : meth.name = "<init>" := (name_of_methodNamed B.named B.method).1
  have hB : CallFix p m c cX1_init 2 s args TB RX1 := ⟨hx, hb, hml, findClass_of_methodNamed B.named, fun q h => (atoms_spec (ws := Cond.code yX1_init cX1_init 2 none :: TB) B.pre) q (List.mem_cons_of_mem _ h)⟩
  have hS : va_S (xw_A G) s.heap s.heap [] := va_S.rf
  have hl := lv_entry [.ref a, .int (8)] (n := 2) (Nat.le_of_ble_eq_true rfl)
  rw [show entryFrame m args 2 = entryFrame m ([.ref a, .int (8)] : List Value).toArray 2 from by rw [hargs], lg_entry_eq]
  generalize (lg_sl [.ref a, .int (8)] ++ List.replicate (2 - (lg_sl [.ref a, .int (8)]).length) Slot.unset).toArray = ls at hl ⊢
  have hl : lv_has ls 2 [(0, .ref a), (1, .int (8))] := hl
  skip
  refine lv_aload_n hx hb dX1_init_0 rfl (lv_at hl 0 rfl) ?_
  refine xn_obj hB tn_X1_obj tn_objI tn_objC hl.1 dX1_init_1 (Nat.le_of_ble_eq_true rfl) (Nat.le_of_ble_eq_true rfl) ?_
  refine lv_aload_n hx hb dX1_init_4 rfl (lv_at hl 0 rfl) ?_
  refine lv_bipush (v := (8)) hx hb dX1_init_5 (by decide) ?_
  refine xn_newaI hB hK h0 hS hP hD (n := 8) tw_59 (by decide) (by decide) (by decide) (Nat.le_of_ble_eq_true rfl) (Nat.le_of_ble_eq_true rfl) dX1_init_7 (fun q1 P2 eP2 H hP hD hS => ?_)
  have f3 : P2 43 = (a, .inr (1, [.int 0, .null, .null, .int 0])) := by rw [eP2, va_up_ne _ _ (by decide)]; exact hP0
  have f4 : P2 44 = (q1, .inl (xw_q G 0, 8, .inl (fun _ => 0))) := by rw [eP2, va_up_self]
  refine xn_putF hB hK h0 hS hP hD (ci := 1) (k := 43) (C := RX1) (T := TX1) (Nf := 4) (fs' := [.int 0, .ref q1, .null, .int 0]) (by decide) f3 rfl TBi_X1 tyX1 tyX1_ok nmX1 1 (by decide) tw_41 rfl rfl hin rfl rfl rfl rfl (Nat.le_of_ble_eq_true rfl) rfl dX1_init_9 (fun P5 eP5 H locs hP hD hS => ?_)
  have f6 : P5 43 = (a, .inr (1, [.int 0, .ref q1, .null, .int 0])) := by rw [eP5, va_up_self]
  refine lv_aload_n hx hb dX1_init_12 rfl (lv_at hl 0 rfl) ?_
  refine lv_bipush (v := (8)) hx hb dX1_init_13 (by decide) ?_
  refine xn_newaI hB hK h0 hS hP hD (n := 8) tw_59 (by decide) (by decide) (by decide) (Nat.le_of_ble_eq_true rfl) (Nat.le_of_ble_eq_true rfl) dX1_init_15 (fun q7 P8 eP8 H hP hD hS => ?_)
  have f9 : P8 43 = (a, .inr (1, [.int 0, .ref q1, .null, .int 0])) := by rw [eP8, va_up_ne _ _ (by decide)]; exact f6
  have f10 : P8 45 = (q7, .inl (xw_q G 0, 8, .inl (fun _ => 0))) := by rw [eP8, va_up_self]
  refine xn_putF hB hK h0 hS hP hD (ci := 1) (k := 43) (C := RX1) (T := TX1) (Nf := 4) (fs' := [.int 0, .ref q1, .ref q7, .int 0]) (by decide) f9 rfl TBi_X1 tyX1 tyX1_ok nmX1 2 (by decide) tw_44 rfl rfl hin rfl rfl rfl rfl (Nat.le_of_ble_eq_true rfl) rfl dX1_init_17 (fun P11 eP11 H locs hP hD hS => ?_)
  have f12 : P11 43 = (a, .inr (1, [.int 0, .ref q1, .ref q7, .int 0])) := by rw [eP11, va_up_self]
  refine lv_aload_n hx hb dX1_init_20 rfl (lv_at hl 0 rfl) ?_
  refine lv_iload_n hx hb dX1_init_21 rfl (lv_at hl 1 rfl) ?_
  refine lv_bipush (v := (8)) hx hb dX1_init_22 (by decide) ?_
  refine va_mmin hx hb (hB.2.2.1.trans hl.1.symm) hB.2.2.2.1 (hB.2.2.2.2 _ tn_min) (hB.2.2.2.2 _ tm_38) (hB.2.2.2.2 _ tw_4) (hB.2.2.2.2 _ tm_39) (Nat.le_of_ble_eq_true rfl) (Nat.le_of_ble_eq_true rfl) (Nat.le_of_ble_eq_true rfl) (Nat.le_of_ble_eq_true rfl) dX1_init_24 ?_
  rw [show (if (8 : Int32) < 8 then (8 : Int32) else 8) = 8 from by decide]
  refine xn_putF hB hK h0 hS hP hD (ci := 1) (k := 43) (C := RX1) (T := TX1) (Nf := 4) (fs' := [.int (8), .ref q1, .ref q7, .int 0]) (by decide) f12 rfl TBi_X1 tyX1 tyX1_ok nmX1 0 (by decide) tw_40 rfl rfl hin rfl rfl rfl rfl (Nat.le_of_ble_eq_true rfl) rfl dX1_init_27 (fun P13 eP13 H locs hP hD hS => ?_)
  have f14 : P13 43 = (a, .inr (1, [.int (8), .ref q1, .ref q7, .int 0])) := by rw [eP13, va_up_self]
  have z15 : P13 44 = (q1, .inl (xw_q G 0, 8, .inl (fun _ => 0))) := by rw [eP13, va_up_ne _ _ (by decide), eP11, va_up_ne _ _ (by decide), eP8, va_up_ne _ _ (by decide), eP5, va_up_ne _ _ (by decide)]; exact f4
  have z16 : P13 45 = (q7, .inl (xw_q G 0, 8, .inl (fun _ => 0))) := by rw [eP13, va_up_ne _ _ (by decide), eP11, va_up_ne _ _ (by decide)]; exact f10
  obtain ⟨qq, hqq⟩ : ∃ z : Nat → Nat, z = fun k => if k < 43 then (P k).1 else if k < 44 then a else if k < 45 then q1 else q7 := ⟨_, rfl⟩
  refine xn_ret hB hK h0 hS hP hD hE hO hr hlk ⟨qq, fun k hk => ⟨?_, ?_⟩, by rw [hqq]; rfl, fun k hk1 hk2 => ?_⟩ (Nat.le_of_ble_eq_true rfl) (Nat.le_of_ble_eq_true rfl) dX1_init_30
  · rw [eP13, va_up_ne _ _ (by omega), eP11, va_up_ne _ _ (by omega), eP8, va_up_ne _ _ (by omega), eP5, va_up_ne _ _ (by omega), eP2, va_up_ne _ _ (by omega)]
  · rw [hqq]; exact if_pos hk
  · rcases (show k = 43 ∨ k = 44 ∨ k = 45 by omega) with rfl | rfl | rfl
    · rw [f14, hqq]; rfl
    · rw [z15, hqq]; rfl
    · rw [z16, hqq]; rfl
set_option maxHeartbeats 8000000 in
set_option maxRecDepth 100000 in
theorem iX1_46 (l : Launch) (G : xw_G) (P : Nat → Nat × va_E) (a : Nat) (hP0 : P 46 = (a, .inr (1, [.int 0, .null, .null, .int 0]))) : xn_T l G yX1_init cX1_init 2 1 40 2 16 [.ref a, .int (8)] 47 P 49 (fun u => ∃ q : Nat → Nat, (∀ k, k < 46 → u k = P k ∧ q k = (P k).1) ∧ q 46 = a ∧ ∀ k, 46 ≤ k → k < 49 → u k = (q k, xw_cell (xn_G G q) k (xn_m0.1 k) (xn_m0.2 k))) := by
  unfold xn_T
  refine Met.ofW (cc := cX1_init) (maxL := 2) (ret := none) (by decide) rfl ?_
  intro p e s m args below meth c s₁ B hml hv
  obtain ⟨hargs, hP, hK, hD, hE, hO, h0⟩ := hv
  have hx := B.exec
  have hb := B.bytes
  have hr := B.returns
  have hlk := B.notSynchronized
  have hin : meth.name = "<init>" := (name_of_methodNamed B.named B.method).1
  have hB : CallFix p m c cX1_init 2 s args TB RX1 := ⟨hx, hb, hml, findClass_of_methodNamed B.named, fun q h => (atoms_spec (ws := Cond.code yX1_init cX1_init 2 none :: TB) B.pre) q (List.mem_cons_of_mem _ h)⟩
  have hS : va_S (xw_A G) s.heap s.heap [] := va_S.rf
  have hl := lv_entry [.ref a, .int (8)] (n := 2) (Nat.le_of_ble_eq_true rfl)
  rw [show entryFrame m args 2 = entryFrame m ([.ref a, .int (8)] : List Value).toArray 2 from by rw [hargs], lg_entry_eq]
  generalize (lg_sl [.ref a, .int (8)] ++ List.replicate (2 - (lg_sl [.ref a, .int (8)]).length) Slot.unset).toArray = ls at hl ⊢
  have hl : lv_has ls 2 [(0, .ref a), (1, .int (8))] := hl
  skip
  refine lv_aload_n hx hb dX1_init_0 rfl (lv_at hl 0 rfl) ?_
  refine xn_obj hB tn_X1_obj tn_objI tn_objC hl.1 dX1_init_1 (Nat.le_of_ble_eq_true rfl) (Nat.le_of_ble_eq_true rfl) ?_
  refine lv_aload_n hx hb dX1_init_4 rfl (lv_at hl 0 rfl) ?_
  refine lv_bipush (v := (8)) hx hb dX1_init_5 (by decide) ?_
  refine xn_newaI hB hK h0 hS hP hD (n := 8) tw_59 (by decide) (by decide) (by decide) (Nat.le_of_ble_eq_true rfl) (Nat.le_of_ble_eq_true rfl) dX1_init_7 (fun q1 P2 eP2 H hP hD hS => ?_)
  have f3 : P2 46 = (a, .inr (1, [.int 0, .null, .null, .int 0])) := by rw [eP2, va_up_ne _ _ (by decide)]; exact hP0
  have f4 : P2 47 = (q1, .inl (xw_q G 0, 8, .inl (fun _ => 0))) := by rw [eP2, va_up_self]
  refine xn_putF hB hK h0 hS hP hD (ci := 1) (k := 46) (C := RX1) (T := TX1) (Nf := 4) (fs' := [.int 0, .ref q1, .null, .int 0]) (by decide) f3 rfl TBi_X1 tyX1 tyX1_ok nmX1 1 (by decide) tw_41 rfl rfl hin rfl rfl rfl rfl (Nat.le_of_ble_eq_true rfl) rfl dX1_init_9 (fun P5 eP5 H locs hP hD hS => ?_)
  have f6 : P5 46 = (a, .inr (1, [.int 0, .ref q1, .null, .int 0])) := by rw [eP5, va_up_self]
  refine lv_aload_n hx hb dX1_init_12 rfl (lv_at hl 0 rfl) ?_
  refine lv_bipush (v := (8)) hx hb dX1_init_13 (by decide) ?_
  refine xn_newaI hB hK h0 hS hP hD (n := 8) tw_59 (by decide) (by decide) (by decide) (Nat.le_of_ble_eq_true rfl) (Nat.le_of_ble_eq_true rfl) dX1_init_15 (fun q7 P8 eP8 H hP hD hS => ?_)
  have f9 : P8 46 = (a, .inr (1, [.int 0, .ref q1, .null, .int 0])) := by rw [eP8, va_up_ne _ _ (by decide)]; exact f6
  have f10 : P8 48 = (q7, .inl (xw_q G 0, 8, .inl (fun _ => 0))) := by rw [eP8, va_up_self]
  refine xn_putF hB hK h0 hS hP hD (ci := 1) (k := 46) (C := RX1) (T := TX1) (Nf := 4) (fs' := [.int 0, .ref q1, .ref q7, .int 0]) (by decide) f9 rfl TBi_X1 tyX1 tyX1_ok nmX1 2 (by decide) tw_44 rfl rfl hin rfl rfl rfl rfl (Nat.le_of_ble_eq_true rfl) rfl dX1_init_17 (fun P11 eP11 H locs hP hD hS => ?_)
  have f12 : P11 46 = (a, .inr (1, [.int 0, .ref q1, .ref q7, .int 0])) := by rw [eP11, va_up_self]
  refine lv_aload_n hx hb dX1_init_20 rfl (lv_at hl 0 rfl) ?_
  refine lv_iload_n hx hb dX1_init_21 rfl (lv_at hl 1 rfl) ?_
  refine lv_bipush (v := (8)) hx hb dX1_init_22 (by decide) ?_
  refine va_mmin hx hb (hB.2.2.1.trans hl.1.symm) hB.2.2.2.1 (hB.2.2.2.2 _ tn_min) (hB.2.2.2.2 _ tm_38) (hB.2.2.2.2 _ tw_4) (hB.2.2.2.2 _ tm_39) (Nat.le_of_ble_eq_true rfl) (Nat.le_of_ble_eq_true rfl) (Nat.le_of_ble_eq_true rfl) (Nat.le_of_ble_eq_true rfl) dX1_init_24 ?_
  rw [show (if (8 : Int32) < 8 then (8 : Int32) else 8) = 8 from by decide]
  refine xn_putF hB hK h0 hS hP hD (ci := 1) (k := 46) (C := RX1) (T := TX1) (Nf := 4) (fs' := [.int (8), .ref q1, .ref q7, .int 0]) (by decide) f12 rfl TBi_X1 tyX1 tyX1_ok nmX1 0 (by decide) tw_40 rfl rfl hin rfl rfl rfl rfl (Nat.le_of_ble_eq_true rfl) rfl dX1_init_27 (fun P13 eP13 H locs hP hD hS => ?_)
  have f14 : P13 46 = (a, .inr (1, [.int (8), .ref q1, .ref q7, .int 0])) := by rw [eP13, va_up_self]
  have z15 : P13 47 = (q1, .inl (xw_q G 0, 8, .inl (fun _ => 0))) := by rw [eP13, va_up_ne _ _ (by decide), eP11, va_up_ne _ _ (by decide), eP8, va_up_ne _ _ (by decide), eP5, va_up_ne _ _ (by decide)]; exact f4
  have z16 : P13 48 = (q7, .inl (xw_q G 0, 8, .inl (fun _ => 0))) := by rw [eP13, va_up_ne _ _ (by decide), eP11, va_up_ne _ _ (by decide)]; exact f10
  obtain ⟨qq, hqq⟩ : ∃ z : Nat → Nat, z = fun k => if k < 46 then (P k).1 else if k < 47 then a else if k < 48 then q1 else q7 := ⟨_, rfl⟩
  refine xn_ret hB hK h0 hS hP hD hE hO hr hlk ⟨qq, fun k hk => ⟨?_, ?_⟩, by rw [hqq]; rfl, fun k hk1 hk2 => ?_⟩ (Nat.le_of_ble_eq_true rfl) (Nat.le_of_ble_eq_true rfl) dX1_init_30
  · rw [eP13, va_up_ne _ _ (by omega), eP11, va_up_ne _ _ (by omega), eP8, va_up_ne _ _ (by omega), eP5, va_up_ne _ _ (by omega), eP2, va_up_ne _ _ (by omega)]
  · rw [hqq]; exact if_pos hk
  · rcases (show k = 46 ∨ k = 47 ∨ k = 48 by omega) with rfl | rfl | rfl
    · rw [f14, hqq]; rfl
    · rw [z15, hqq]; rfl
    · rw [z16, hqq]; rfl
set_option maxHeartbeats 8000000 in
set_option maxRecDepth 100000 in
theorem iX5_33 (l : Launch) (G : xw_G) (P : Nat → Nat × va_E) (a : Nat) (hP0 : P 33 = (a, .inr (5, [.int 0, .null, .null, .null, .null, .null, .null, .int 0, .int 0, .int 0, .int 0, .null, .null, .null]))) : xn_T l G yX5_init cX5_init 1 2 61 15 114 [.ref a] 34 P 49 (fun u => ∃ q : Nat → Nat, (∀ k, k < 33 → u k = P k ∧ q k = (P k).1) ∧ q 33 = a ∧ ∀ k, 33 ≤ k → k < 49 → u k = (q k, xw_cell (xn_G G q) k (xn_m0.1 k) (xn_m0.2 k))) := by
  unfold xn_T
  refine Met.ofW (cc := cX5_init) (maxL := 1) (ret := none) (by decide) rfl ?_
  intro p e s m args below meth c s₁ B hml hv
  obtain ⟨hargs, hP, hK, hD, hE, hO, h0⟩ := hv
  have hx := B.exec
  have hb := B.bytes
  have hr := B.returns
  have hlk := B.notSynchronized
  have hin : meth.name = "<init>" := (name_of_methodNamed B.named B.method).1
  have hB : CallFix p m c cX5_init 1 s args TB RX5 := ⟨hx, hb, hml, findClass_of_methodNamed B.named, fun q h => (atoms_spec (ws := Cond.code yX5_init cX5_init 1 none :: TB) B.pre) q (List.mem_cons_of_mem _ h)⟩
  have hS : va_S (xw_A G) s.heap s.heap [] := va_S.rf
  have hl := lv_entry [.ref a] (n := 1) (Nat.le_of_ble_eq_true rfl)
  rw [show entryFrame m args 1 = entryFrame m ([.ref a] : List Value).toArray 1 from by rw [hargs], lg_entry_eq]
  generalize (lg_sl [.ref a] ++ List.replicate (1 - (lg_sl [.ref a]).length) Slot.unset).toArray = ls at hl ⊢
  have hl : lv_has ls 1 [(0, .ref a)] := hl
  skip
  refine lv_aload_n hx hb dX5_init_0 rfl (lv_at hl 0 rfl) ?_
  refine xn_obj hB tn_X5_obj tn_objI tn_objC hl.1 dX5_init_1 (Nat.le_of_ble_eq_true rfl) (Nat.le_of_ble_eq_true rfl) ?_
  refine lv_aload_n hx hb dX5_init_4 rfl (lv_at hl 0 rfl) ?_
  refine lv_bipush (v := (6)) hx hb dX5_init_5 (by decide) ?_
  refine xn_newaI hB hK h0 hS hP hD (n := 6) tw_59 (by decide) (by decide) (by decide) (Nat.le_of_ble_eq_true rfl) (Nat.le_of_ble_eq_true rfl) dX5_init_7 (fun q1 P2 eP2 H hP hD hS => ?_)
  have f3 : P2 33 = (a, .inr (5, [.int 0, .null, .null, .null, .null, .null, .null, .int 0, .int 0, .int 0, .int 0, .null, .null, .null])) := by rw [eP2, va_up_ne _ _ (by decide)]; exact hP0
  have f4 : P2 34 = (q1, .inl (xw_q G 0, 6, .inl (fun _ => 0))) := by rw [eP2, va_up_self]
  refine xn_putF hB hK h0 hS hP hD (ci := 5) (k := 33) (C := RX5) (T := TX5) (Nf := 14) (fs' := [.int 0, .ref q1, .null, .null, .null, .null, .null, .int 0, .int 0, .int 0, .int 0, .null, .null, .null]) (by decide) f3 rfl TBi_X5 tyX5 tyX5_ok nmX5 1 (by decide) tw_63 rfl rfl hin rfl rfl rfl rfl (Nat.le_of_ble_eq_true rfl) rfl dX5_init_9 (fun P5 eP5 H locs hP hD hS => ?_)
  have f6 : P5 33 = (a, .inr (5, [.int 0, .ref q1, .null, .null, .null, .null, .null, .int 0, .int 0, .int 0, .int 0, .null, .null, .null])) := by rw [eP5, va_up_self]
  refine lv_aload_n hx hb dX5_init_12 rfl (lv_at hl 0 rfl) ?_
  refine lv_bipush (v := (6)) hx hb dX5_init_13 (by decide) ?_
  refine xn_newaI hB hK h0 hS hP hD (n := 6) tw_59 (by decide) (by decide) (by decide) (Nat.le_of_ble_eq_true rfl) (Nat.le_of_ble_eq_true rfl) dX5_init_15 (fun q7 P8 eP8 H hP hD hS => ?_)
  have f9 : P8 33 = (a, .inr (5, [.int 0, .ref q1, .null, .null, .null, .null, .null, .int 0, .int 0, .int 0, .int 0, .null, .null, .null])) := by rw [eP8, va_up_ne _ _ (by decide)]; exact f6
  have f10 : P8 35 = (q7, .inl (xw_q G 0, 6, .inl (fun _ => 0))) := by rw [eP8, va_up_self]
  refine xn_putF hB hK h0 hS hP hD (ci := 5) (k := 33) (C := RX5) (T := TX5) (Nf := 14) (fs' := [.int 0, .ref q1, .ref q7, .null, .null, .null, .null, .int 0, .int 0, .int 0, .int 0, .null, .null, .null]) (by decide) f9 rfl TBi_X5 tyX5 tyX5_ok nmX5 2 (by decide) tw_67 rfl rfl hin rfl rfl rfl rfl (Nat.le_of_ble_eq_true rfl) rfl dX5_init_17 (fun P11 eP11 H locs hP hD hS => ?_)
  have f12 : P11 33 = (a, .inr (5, [.int 0, .ref q1, .ref q7, .null, .null, .null, .null, .int 0, .int 0, .int 0, .int 0, .null, .null, .null])) := by rw [eP11, va_up_self]
  refine lv_aload_n hx hb dX5_init_20 rfl (lv_at hl 0 rfl) ?_
  refine lv_bipush (v := (6)) hx hb dX5_init_21 (by decide) ?_
  refine xn_newaI hB hK h0 hS hP hD (n := 6) tw_59 (by decide) (by decide) (by decide) (Nat.le_of_ble_eq_true rfl) (Nat.le_of_ble_eq_true rfl) dX5_init_23 (fun q13 P14 eP14 H hP hD hS => ?_)
  have f15 : P14 33 = (a, .inr (5, [.int 0, .ref q1, .ref q7, .null, .null, .null, .null, .int 0, .int 0, .int 0, .int 0, .null, .null, .null])) := by rw [eP14, va_up_ne _ _ (by decide)]; exact f12
  have f16 : P14 36 = (q13, .inl (xw_q G 0, 6, .inl (fun _ => 0))) := by rw [eP14, va_up_self]
  refine xn_putF hB hK h0 hS hP hD (ci := 5) (k := 33) (C := RX5) (T := TX5) (Nf := 14) (fs' := [.int 0, .ref q1, .ref q7, .ref q13, .null, .null, .null, .int 0, .int 0, .int 0, .int 0, .null, .null, .null]) (by decide) f15 rfl TBi_X5 tyX5 tyX5_ok nmX5 3 (by decide) tw_71 rfl rfl hin rfl rfl rfl rfl (Nat.le_of_ble_eq_true rfl) rfl dX5_init_25 (fun P17 eP17 H locs hP hD hS => ?_)
  have f18 : P17 33 = (a, .inr (5, [.int 0, .ref q1, .ref q7, .ref q13, .null, .null, .null, .int 0, .int 0, .int 0, .int 0, .null, .null, .null])) := by rw [eP17, va_up_self]
  refine lv_aload_n hx hb dX5_init_28 rfl (lv_at hl 0 rfl) ?_
  refine lv_bipush (v := (6)) hx hb dX5_init_29 (by decide) ?_
  refine xn_newaI hB hK h0 hS hP hD (n := 6) tw_59 (by decide) (by decide) (by decide) (Nat.le_of_ble_eq_true rfl) (Nat.le_of_ble_eq_true rfl) dX5_init_31 (fun q19 P20 eP20 H hP hD hS => ?_)
  have f21 : P20 33 = (a, .inr (5, [.int 0, .ref q1, .ref q7, .ref q13, .null, .null, .null, .int 0, .int 0, .int 0, .int 0, .null, .null, .null])) := by rw [eP20, va_up_ne _ _ (by decide)]; exact f18
  have f22 : P20 37 = (q19, .inl (xw_q G 0, 6, .inl (fun _ => 0))) := by rw [eP20, va_up_self]
  refine xn_putF hB hK h0 hS hP hD (ci := 5) (k := 33) (C := RX5) (T := TX5) (Nf := 14) (fs' := [.int 0, .ref q1, .ref q7, .ref q13, .ref q19, .null, .null, .int 0, .int 0, .int 0, .int 0, .null, .null, .null]) (by decide) f21 rfl TBi_X5 tyX5 tyX5_ok nmX5 4 (by decide) tw_74 rfl rfl hin rfl rfl rfl rfl (Nat.le_of_ble_eq_true rfl) rfl dX5_init_33 (fun P23 eP23 H locs hP hD hS => ?_)
  have f24 : P23 33 = (a, .inr (5, [.int 0, .ref q1, .ref q7, .ref q13, .ref q19, .null, .null, .int 0, .int 0, .int 0, .int 0, .null, .null, .null])) := by rw [eP23, va_up_self]
  refine lv_aload_n hx hb dX5_init_36 rfl (lv_at hl 0 rfl) ?_
  refine lv_bipush (v := (6)) hx hb dX5_init_37 (by decide) ?_
  refine xn_newaI hB hK h0 hS hP hD (n := 6) tw_59 (by decide) (by decide) (by decide) (Nat.le_of_ble_eq_true rfl) (Nat.le_of_ble_eq_true rfl) dX5_init_39 (fun q25 P26 eP26 H hP hD hS => ?_)
  have f27 : P26 33 = (a, .inr (5, [.int 0, .ref q1, .ref q7, .ref q13, .ref q19, .null, .null, .int 0, .int 0, .int 0, .int 0, .null, .null, .null])) := by rw [eP26, va_up_ne _ _ (by decide)]; exact f24
  have f28 : P26 38 = (q25, .inl (xw_q G 0, 6, .inl (fun _ => 0))) := by rw [eP26, va_up_self]
  refine xn_putF hB hK h0 hS hP hD (ci := 5) (k := 33) (C := RX5) (T := TX5) (Nf := 14) (fs' := [.int 0, .ref q1, .ref q7, .ref q13, .ref q19, .ref q25, .null, .int 0, .int 0, .int 0, .int 0, .null, .null, .null]) (by decide) f27 rfl TBi_X5 tyX5 tyX5_ok nmX5 5 (by decide) tw_77 rfl rfl hin rfl rfl rfl rfl (Nat.le_of_ble_eq_true rfl) rfl dX5_init_41 (fun P29 eP29 H locs hP hD hS => ?_)
  have f30 : P29 33 = (a, .inr (5, [.int 0, .ref q1, .ref q7, .ref q13, .ref q19, .ref q25, .null, .int 0, .int 0, .int 0, .int 0, .null, .null, .null])) := by rw [eP29, va_up_self]
  refine lv_aload_n hx hb dX5_init_44 rfl (lv_at hl 0 rfl) ?_
  refine lv_bipush (v := (24)) hx hb dX5_init_45 (by decide) ?_
  refine xn_newaI hB hK h0 hS hP hD (n := 24) tw_59 (by decide) (by decide) (by decide) (Nat.le_of_ble_eq_true rfl) (Nat.le_of_ble_eq_true rfl) dX5_init_47 (fun q31 P32 eP32 H hP hD hS => ?_)
  have f33 : P32 33 = (a, .inr (5, [.int 0, .ref q1, .ref q7, .ref q13, .ref q19, .ref q25, .null, .int 0, .int 0, .int 0, .int 0, .null, .null, .null])) := by rw [eP32, va_up_ne _ _ (by decide)]; exact f30
  have f34 : P32 39 = (q31, .inl (xw_q G 0, 24, .inl (fun _ => 0))) := by rw [eP32, va_up_self]
  refine xn_putF hB hK h0 hS hP hD (ci := 5) (k := 33) (C := RX5) (T := TX5) (Nf := 14) (fs' := [.int 0, .ref q1, .ref q7, .ref q13, .ref q19, .ref q25, .ref q31, .int 0, .int 0, .int 0, .int 0, .null, .null, .null]) (by decide) f33 rfl TBi_X5 tyX5 tyX5_ok nmX5 6 (by decide) tw_80 rfl rfl hin rfl rfl rfl rfl (Nat.le_of_ble_eq_true rfl) rfl dX5_init_49 (fun P35 eP35 H locs hP hD hS => ?_)
  have f36 : P35 33 = (a, .inr (5, [.int 0, .ref q1, .ref q7, .ref q13, .ref q19, .ref q25, .ref q31, .int 0, .int 0, .int 0, .int 0, .null, .null, .null])) := by rw [eP35, va_up_self]
  refine lv_aload_n hx hb dX5_init_52 rfl (lv_at hl 0 rfl) ?_
  refine lv_bipush (v := (100)) hx hb dX5_init_53 (by decide) ?_
  refine xn_put hB hK h0 hS hP hD (ci := 5) (k := 33) (C := RX5) (T := TX5) (Nf := 14) (fs' := [.int 0, .ref q1, .ref q7, .ref q13, .ref q19, .ref q25, .ref q31, .int 0, .int (100), .int 0, .int 0, .null, .null, .null]) (by decide) f36 rfl TBi_X5 tyX5 tyX5_ok nmX5 8 (by decide) tw_86 rfl rfl rfl rfl rfl (Nat.le_of_ble_eq_true rfl) rfl dX5_init_55 (fun P37 eP37 H locs hP hD hS => ?_)
  have f38 : P37 33 = (a, .inr (5, [.int 0, .ref q1, .ref q7, .ref q13, .ref q19, .ref q25, .ref q31, .int 0, .int (100), .int 0, .int 0, .null, .null, .null])) := by rw [eP37, va_up_self]
  refine lv_aload_n hx hb dX5_init_58 rfl (lv_at hl 0 rfl) ?_
  refine lv_iconst (v := (-1)) hx hb dX5_init_59 (by decide) ?_
  refine xn_put hB hK h0 hS hP hD (ci := 5) (k := 33) (C := RX5) (T := TX5) (Nf := 14) (fs' := [.int 0, .ref q1, .ref q7, .ref q13, .ref q19, .ref q25, .ref q31, .int 0, .int (100), .int 0, .int (-1), .null, .null, .null]) (by decide) f38 rfl TBi_X5 tyX5 tyX5_ok nmX5 10 (by decide) tw_92 rfl rfl rfl rfl rfl (Nat.le_of_ble_eq_true rfl) rfl dX5_init_60 (fun P39 eP39 H locs hP hD hS => ?_)
  have f40 : P39 33 = (a, .inr (5, [.int 0, .ref q1, .ref q7, .ref q13, .ref q19, .ref q25, .ref q31, .int 0, .int (100), .int 0, .int (-1), .null, .null, .null])) := by rw [eP39, va_up_self]
  refine lv_aload_n hx hb dX5_init_63 rfl (lv_at hl 0 rfl) ?_
  refine xn_new hB hK h0 hS hP hD (ci := 1) (C := RX1) (T := TX1) (Nf := 4) (fs := [.int 0, .null, .null, .int 0]) rfl TBi_X1 tyX1 tyX1_ok tw_31 tw_32 tw_3 (fun j hj => by rcases (show j = 0 ∨ j = 1 ∨ j = 2 ∨ j = 3 by omega) with rfl | rfl | rfl | rfl <;> rfl) (Nat.le_of_ble_eq_true rfl) (Nat.le_of_ble_eq_true rfl) dX5_init_64 (fun q41 P42 eP42 H hP hD hS => ?_)
  have f43 : P42 33 = (a, .inr (5, [.int 0, .ref q1, .ref q7, .ref q13, .ref q19, .ref q25, .ref q31, .int 0, .int (100), .int 0, .int (-1), .null, .null, .null])) := by rw [eP42, va_up_ne _ _ (by decide)]; exact f40
  have f44 : P42 40 = (q41, .inr (1, [.int 0, .null, .null, .int 0])) := by rw [eP42, va_up_self]
  refine lv_dup hx hb dX5_init_67 rfl ?_
  refine lv_iconst (v := (5)) hx hb dX5_init_68 (by decide) ?_
  refine xn_cI hB hK h0 hS hP hD hE hO (As := [.int (5)]) (rest := [.ref q41, .ref a]) (iX1_40 l G P42 q41 f44) tw_33 tw_35 tw_34 tw_3 rfl 1 hi_X1_init ⟨(Nat.le_of_ble_eq_true rfl), (Nat.le_of_ble_eq_true rfl)⟩ rfl hl.1 (Nat.le_of_ble_eq_true rfl) rfl dX5_init_69 ⟨(Nat.le_of_ble_eq_true rfl), (Nat.le_of_ble_eq_true rfl)⟩ (fun P45 hp46 H locs hP hD hS => ?_)
  obtain ⟨qf47, hp46l, hp46a, hp46c⟩ := hp46
  subst hp46a
  have f48 : P45 33 = (a, .inr (5, [.int 0, .ref q1, .ref q7, .ref q13, .ref q19, .ref q25, .ref q31, .int 0, .int (100), .int 0, .int (-1), .null, .null, .null])) := (hp46l 33 (by decide)).1.trans f43
  refine xn_putF hB hK h0 hS hP hD (ci := 5) (k := 33) (C := RX5) (T := TX5) (Nf := 14) (fs' := [.int 0, .ref q1, .ref q7, .ref q13, .ref q19, .ref q25, .ref q31, .int 0, .int (100), .int 0, .int (-1), .ref (qf47 40), .null, .null]) (by decide) f48 rfl TBi_X5 tyX5 tyX5_ok nmX5 11 (by decide) tw_94 rfl rfl hin rfl rfl rfl rfl (Nat.le_of_ble_eq_true rfl) rfl dX5_init_72 (fun P49 eP49 H locs hP hD hS => ?_)
  have f50 : P49 33 = (a, .inr (5, [.int 0, .ref q1, .ref q7, .ref q13, .ref q19, .ref q25, .ref q31, .int 0, .int (100), .int 0, .int (-1), .ref (qf47 40), .null, .null])) := by rw [eP49, va_up_self]
  refine lv_aload_n hx hb dX5_init_75 rfl (lv_at hl 0 rfl) ?_
  refine xn_new hB hK h0 hS hP hD (ci := 1) (C := RX1) (T := TX1) (Nf := 4) (fs := [.int 0, .null, .null, .int 0]) rfl TBi_X1 tyX1 tyX1_ok tw_31 tw_32 tw_3 (fun j hj => by rcases (show j = 0 ∨ j = 1 ∨ j = 2 ∨ j = 3 by omega) with rfl | rfl | rfl | rfl <;> rfl) (Nat.le_of_ble_eq_true rfl) (Nat.le_of_ble_eq_true rfl) dX5_init_76 (fun q51 P52 eP52 H hP hD hS => ?_)
  have f53 : P52 33 = (a, .inr (5, [.int 0, .ref q1, .ref q7, .ref q13, .ref q19, .ref q25, .ref q31, .int 0, .int (100), .int 0, .int (-1), .ref (qf47 40), .null, .null])) := by rw [eP52, va_up_ne _ _ (by decide)]; exact f50
  have f54 : P52 43 = (q51, .inr (1, [.int 0, .null, .null, .int 0])) := by rw [eP52, va_up_self]
  refine lv_dup hx hb dX5_init_79 rfl ?_
  refine lv_bipush (v := (8)) hx hb dX5_init_80 (by decide) ?_
  refine xn_cI hB hK h0 hS hP hD hE hO (As := [.int (8)]) (rest := [.ref q51, .ref a]) (iX1_43 l G P52 q51 f54) tw_33 tw_35 tw_34 tw_3 rfl 1 hi_X1_init ⟨(Nat.le_of_ble_eq_true rfl), (Nat.le_of_ble_eq_true rfl)⟩ rfl hl.1 (Nat.le_of_ble_eq_true rfl) rfl dX5_init_82 ⟨(Nat.le_of_ble_eq_true rfl), (Nat.le_of_ble_eq_true rfl)⟩ (fun P55 hp56 H locs hP hD hS => ?_)
  obtain ⟨qf57, hp56l, hp56a, hp56c⟩ := hp56
  subst hp56a
  have f58 : P55 33 = (a, .inr (5, [.int 0, .ref q1, .ref q7, .ref q13, .ref q19, .ref q25, .ref q31, .int 0, .int (100), .int 0, .int (-1), .ref (qf47 40), .null, .null])) := (hp56l 33 (by decide)).1.trans f53
  refine xn_putF hB hK h0 hS hP hD (ci := 5) (k := 33) (C := RX5) (T := TX5) (Nf := 14) (fs' := [.int 0, .ref q1, .ref q7, .ref q13, .ref q19, .ref q25, .ref q31, .int 0, .int (100), .int 0, .int (-1), .ref (qf47 40), .ref (qf57 43), .null]) (by decide) f58 rfl TBi_X5 tyX5 tyX5_ok nmX5 12 (by decide) tw_97 rfl rfl hin rfl rfl rfl rfl (Nat.le_of_ble_eq_true rfl) rfl dX5_init_85 (fun P59 eP59 H locs hP hD hS => ?_)
  have f60 : P59 33 = (a, .inr (5, [.int 0, .ref q1, .ref q7, .ref q13, .ref q19, .ref q25, .ref q31, .int 0, .int (100), .int 0, .int (-1), .ref (qf47 40), .ref (qf57 43), .null])) := by rw [eP59, va_up_self]
  refine lv_aload_n hx hb dX5_init_88 rfl (lv_at hl 0 rfl) ?_
  refine xn_new hB hK h0 hS hP hD (ci := 1) (C := RX1) (T := TX1) (Nf := 4) (fs := [.int 0, .null, .null, .int 0]) rfl TBi_X1 tyX1 tyX1_ok tw_31 tw_32 tw_3 (fun j hj => by rcases (show j = 0 ∨ j = 1 ∨ j = 2 ∨ j = 3 by omega) with rfl | rfl | rfl | rfl <;> rfl) (Nat.le_of_ble_eq_true rfl) (Nat.le_of_ble_eq_true rfl) dX5_init_89 (fun q61 P62 eP62 H hP hD hS => ?_)
  have f63 : P62 33 = (a, .inr (5, [.int 0, .ref q1, .ref q7, .ref q13, .ref q19, .ref q25, .ref q31, .int 0, .int (100), .int 0, .int (-1), .ref (qf47 40), .ref (qf57 43), .null])) := by rw [eP62, va_up_ne _ _ (by decide)]; exact f60
  have f64 : P62 46 = (q61, .inr (1, [.int 0, .null, .null, .int 0])) := by rw [eP62, va_up_self]
  refine lv_dup hx hb dX5_init_92 rfl ?_
  refine lv_bipush (v := (8)) hx hb dX5_init_93 (by decide) ?_
  refine xn_cI hB hK h0 hS hP hD hE hO (As := [.int (8)]) (rest := [.ref q61, .ref a]) (iX1_46 l G P62 q61 f64) tw_33 tw_35 tw_34 tw_3 rfl 1 hi_X1_init ⟨(Nat.le_of_ble_eq_true rfl), (Nat.le_of_ble_eq_true rfl)⟩ rfl hl.1 (Nat.le_of_ble_eq_true rfl) rfl dX5_init_95 ⟨(Nat.le_of_ble_eq_true rfl), (Nat.le_of_ble_eq_true rfl)⟩ (fun P65 hp66 H locs hP hD hS => ?_)
  obtain ⟨qf67, hp66l, hp66a, hp66c⟩ := hp66
  subst hp66a
  have f68 : P65 33 = (a, .inr (5, [.int 0, .ref q1, .ref q7, .ref q13, .ref q19, .ref q25, .ref q31, .int 0, .int (100), .int 0, .int (-1), .ref (qf47 40), .ref (qf57 43), .null])) := (hp66l 33 (by decide)).1.trans f63
  refine xn_putF hB hK h0 hS hP hD (ci := 5) (k := 33) (C := RX5) (T := TX5) (Nf := 14) (fs' := [.int 0, .ref q1, .ref q7, .ref q13, .ref q19, .ref q25, .ref q31, .int 0, .int (100), .int 0, .int (-1), .ref (qf47 40), .ref (qf57 43), .ref (qf67 46)]) (by decide) f68 rfl TBi_X5 tyX5 tyX5_ok nmX5 13 (by decide) tw_99 rfl rfl hin rfl rfl rfl rfl (Nat.le_of_ble_eq_true rfl) rfl dX5_init_98 (fun P69 eP69 H locs hP hD hS => ?_)
  have f70 : P69 33 = (a, .inr (5, [.int 0, .ref q1, .ref q7, .ref q13, .ref q19, .ref q25, .ref q31, .int 0, .int (100), .int 0, .int (-1), .ref (qf47 40), .ref (qf57 43), .ref (qf67 46)])) := by rw [eP69, va_up_self]
  have z71 : P69 34 = (q1, .inl (xw_q G 0, 6, .inl (fun _ => 0))) := by rw [eP69, va_up_ne _ _ (by decide), (hp66l 34 (by decide)).1, eP62, va_up_ne _ _ (by decide), eP59, va_up_ne _ _ (by decide), (hp56l 34 (by decide)).1, eP52, va_up_ne _ _ (by decide), eP49, va_up_ne _ _ (by decide), (hp46l 34 (by decide)).1, eP42, va_up_ne _ _ (by decide), eP39, va_up_ne _ _ (by decide), eP37, va_up_ne _ _ (by decide), eP35, va_up_ne _ _ (by decide), eP32, va_up_ne _ _ (by decide), eP29, va_up_ne _ _ (by decide), eP26, va_up_ne _ _ (by decide), eP23, va_up_ne _ _ (by decide), eP20, va_up_ne _ _ (by decide), eP17, va_up_ne _ _ (by decide), eP14, va_up_ne _ _ (by decide), eP11, va_up_ne _ _ (by decide), eP8, va_up_ne _ _ (by decide), eP5, va_up_ne _ _ (by decide)]; exact f4
  have z72 : P69 35 = (q7, .inl (xw_q G 0, 6, .inl (fun _ => 0))) := by rw [eP69, va_up_ne _ _ (by decide), (hp66l 35 (by decide)).1, eP62, va_up_ne _ _ (by decide), eP59, va_up_ne _ _ (by decide), (hp56l 35 (by decide)).1, eP52, va_up_ne _ _ (by decide), eP49, va_up_ne _ _ (by decide), (hp46l 35 (by decide)).1, eP42, va_up_ne _ _ (by decide), eP39, va_up_ne _ _ (by decide), eP37, va_up_ne _ _ (by decide), eP35, va_up_ne _ _ (by decide), eP32, va_up_ne _ _ (by decide), eP29, va_up_ne _ _ (by decide), eP26, va_up_ne _ _ (by decide), eP23, va_up_ne _ _ (by decide), eP20, va_up_ne _ _ (by decide), eP17, va_up_ne _ _ (by decide), eP14, va_up_ne _ _ (by decide), eP11, va_up_ne _ _ (by decide)]; exact f10
  have z73 : P69 36 = (q13, .inl (xw_q G 0, 6, .inl (fun _ => 0))) := by rw [eP69, va_up_ne _ _ (by decide), (hp66l 36 (by decide)).1, eP62, va_up_ne _ _ (by decide), eP59, va_up_ne _ _ (by decide), (hp56l 36 (by decide)).1, eP52, va_up_ne _ _ (by decide), eP49, va_up_ne _ _ (by decide), (hp46l 36 (by decide)).1, eP42, va_up_ne _ _ (by decide), eP39, va_up_ne _ _ (by decide), eP37, va_up_ne _ _ (by decide), eP35, va_up_ne _ _ (by decide), eP32, va_up_ne _ _ (by decide), eP29, va_up_ne _ _ (by decide), eP26, va_up_ne _ _ (by decide), eP23, va_up_ne _ _ (by decide), eP20, va_up_ne _ _ (by decide), eP17, va_up_ne _ _ (by decide)]; exact f16
  have z74 : P69 37 = (q19, .inl (xw_q G 0, 6, .inl (fun _ => 0))) := by rw [eP69, va_up_ne _ _ (by decide), (hp66l 37 (by decide)).1, eP62, va_up_ne _ _ (by decide), eP59, va_up_ne _ _ (by decide), (hp56l 37 (by decide)).1, eP52, va_up_ne _ _ (by decide), eP49, va_up_ne _ _ (by decide), (hp46l 37 (by decide)).1, eP42, va_up_ne _ _ (by decide), eP39, va_up_ne _ _ (by decide), eP37, va_up_ne _ _ (by decide), eP35, va_up_ne _ _ (by decide), eP32, va_up_ne _ _ (by decide), eP29, va_up_ne _ _ (by decide), eP26, va_up_ne _ _ (by decide), eP23, va_up_ne _ _ (by decide)]; exact f22
  have z75 : P69 38 = (q25, .inl (xw_q G 0, 6, .inl (fun _ => 0))) := by rw [eP69, va_up_ne _ _ (by decide), (hp66l 38 (by decide)).1, eP62, va_up_ne _ _ (by decide), eP59, va_up_ne _ _ (by decide), (hp56l 38 (by decide)).1, eP52, va_up_ne _ _ (by decide), eP49, va_up_ne _ _ (by decide), (hp46l 38 (by decide)).1, eP42, va_up_ne _ _ (by decide), eP39, va_up_ne _ _ (by decide), eP37, va_up_ne _ _ (by decide), eP35, va_up_ne _ _ (by decide), eP32, va_up_ne _ _ (by decide), eP29, va_up_ne _ _ (by decide)]; exact f28
  have z76 : P69 39 = (q31, .inl (xw_q G 0, 24, .inl (fun _ => 0))) := by rw [eP69, va_up_ne _ _ (by decide), (hp66l 39 (by decide)).1, eP62, va_up_ne _ _ (by decide), eP59, va_up_ne _ _ (by decide), (hp56l 39 (by decide)).1, eP52, va_up_ne _ _ (by decide), eP49, va_up_ne _ _ (by decide), (hp46l 39 (by decide)).1, eP42, va_up_ne _ _ (by decide), eP39, va_up_ne _ _ (by decide), eP37, va_up_ne _ _ (by decide), eP35, va_up_ne _ _ (by decide)]; exact f34
  obtain ⟨qq, hqq⟩ : ∃ z : Nat → Nat, z = fun k => if k < 33 then (P k).1 else if k < 34 then a else if k < 35 then q1 else if k < 36 then q7 else if k < 37 then q13 else if k < 38 then q19 else if k < 39 then q25 else if k < 40 then q31 else if k < 43 then qf47 k else if k < 46 then qf57 k else qf67 k := ⟨_, rfl⟩
  refine xn_ret hB hK h0 hS hP hD hE hO hr hlk ⟨qq, fun k hk => ⟨?_, ?_⟩, by rw [hqq]; rfl, fun k hk1 hk2 => ?_⟩ (Nat.le_of_ble_eq_true rfl) (Nat.le_of_ble_eq_true rfl) dX5_init_101
  · rw [eP69, va_up_ne _ _ (by omega), (hp66l k (by omega)).1, eP62, va_up_ne _ _ (by omega), eP59, va_up_ne _ _ (by omega), (hp56l k (by omega)).1, eP52, va_up_ne _ _ (by omega), eP49, va_up_ne _ _ (by omega), (hp46l k (by omega)).1, eP42, va_up_ne _ _ (by omega), eP39, va_up_ne _ _ (by omega), eP37, va_up_ne _ _ (by omega), eP35, va_up_ne _ _ (by omega), eP32, va_up_ne _ _ (by omega), eP29, va_up_ne _ _ (by omega), eP26, va_up_ne _ _ (by omega), eP23, va_up_ne _ _ (by omega), eP20, va_up_ne _ _ (by omega), eP17, va_up_ne _ _ (by omega), eP14, va_up_ne _ _ (by omega), eP11, va_up_ne _ _ (by omega), eP8, va_up_ne _ _ (by omega), eP5, va_up_ne _ _ (by omega), eP2, va_up_ne _ _ (by omega)]
  · rw [hqq]; exact if_pos hk
  · rcases (show k = 33 ∨ k = 34 ∨ k = 35 ∨ k = 36 ∨ k = 37 ∨ k = 38 ∨ k = 39 ∨ k = 40 ∨ k = 41 ∨ k = 42 ∨ k = 43 ∨ k = 44 ∨ k = 45 ∨ k = 46 ∨ k = 47 ∨ k = 48 by omega) with rfl | rfl | rfl | rfl | rfl | rfl | rfl | rfl | rfl | rfl | rfl | rfl | rfl | rfl | rfl | rfl
    · rw [f70, hqq]; rfl
    · rw [z71, hqq]; rfl
    · rw [z72, hqq]; rfl
    · rw [z73, hqq]; rfl
    · rw [z74, hqq]; rfl
    · rw [z75, hqq]; rfl
    · rw [z76, hqq]; rfl
    · rw [eP69, va_up_ne _ _ (by decide), (hp66l 40 (by decide)).1, eP62, va_up_ne _ _ (by decide), eP59, va_up_ne _ _ (by decide), (hp56l 40 (by decide)).1, eP52, va_up_ne _ _ (by decide), eP49, va_up_ne _ _ (by decide)]; rw [hqq]; exact hp46c 40 (by decide) (by decide)
    · rw [eP69, va_up_ne _ _ (by decide), (hp66l 41 (by decide)).1, eP62, va_up_ne _ _ (by decide), eP59, va_up_ne _ _ (by decide), (hp56l 41 (by decide)).1, eP52, va_up_ne _ _ (by decide), eP49, va_up_ne _ _ (by decide)]; rw [hqq]; exact hp46c 41 (by decide) (by decide)
    · rw [eP69, va_up_ne _ _ (by decide), (hp66l 42 (by decide)).1, eP62, va_up_ne _ _ (by decide), eP59, va_up_ne _ _ (by decide), (hp56l 42 (by decide)).1, eP52, va_up_ne _ _ (by decide), eP49, va_up_ne _ _ (by decide)]; rw [hqq]; exact hp46c 42 (by decide) (by decide)
    · rw [eP69, va_up_ne _ _ (by decide), (hp66l 43 (by decide)).1, eP62, va_up_ne _ _ (by decide), eP59, va_up_ne _ _ (by decide)]; rw [hqq]; exact hp56c 43 (by decide) (by decide)
    · rw [eP69, va_up_ne _ _ (by decide), (hp66l 44 (by decide)).1, eP62, va_up_ne _ _ (by decide), eP59, va_up_ne _ _ (by decide)]; rw [hqq]; exact hp56c 44 (by decide) (by decide)
    · rw [eP69, va_up_ne _ _ (by decide), (hp66l 45 (by decide)).1, eP62, va_up_ne _ _ (by decide), eP59, va_up_ne _ _ (by decide)]; rw [hqq]; exact hp56c 45 (by decide) (by decide)
    · rw [eP69, va_up_ne _ _ (by decide)]; rw [hqq]; exact hp66c 46 (by decide) (by decide)
    · rw [eP69, va_up_ne _ _ (by decide)]; rw [hqq]; exact hp66c 47 (by decide) (by decide)
    · rw [eP69, va_up_ne _ _ (by decide)]; rw [hqq]; exact hp66c 48 (by decide) (by decide)
set_option maxHeartbeats 8000000 in
set_option maxRecDepth 100000 in
theorem iX2_51 (l : Launch) (G : xw_G) (P : Nat → Nat × va_E) (a : Nat) (hP0 : P 51 = (a, .inr (2, [.int 0, .int 0, .null, .null, .int 0, .null, .null, .null]))) : xn_T l G yX2_init cX2_init 1 1 12 5 320 [.ref a] 52 P 57 (fun u => ∃ q : Nat → Nat, (∀ k, k < 51 → u k = P k ∧ q k = (P k).1) ∧ q 51 = a ∧ ∀ k, 51 ≤ k → k < 57 → u k = (q k, xw_cell (xn_G G q) k (xn_m0.1 k) (xn_m0.2 k))) := by
  unfold xn_T
  refine Met.ofW (cc := cX2_init) (maxL := 1) (ret := none) (by decide) rfl ?_
  intro p e s m args below meth c s₁ B hml hv
  obtain ⟨hargs, hP, hK, hD, hE, hO, h0⟩ := hv
  have hx := B.exec
  have hb := B.bytes
  have hr := B.returns
  have hlk := B.notSynchronized
  have hin : meth.name = "<init>" := (name_of_methodNamed B.named B.method).1
  have hB : CallFix p m c cX2_init 1 s args TB RX2 := ⟨hx, hb, hml, findClass_of_methodNamed B.named, fun q h => (atoms_spec (ws := Cond.code yX2_init cX2_init 1 none :: TB) B.pre) q (List.mem_cons_of_mem _ h)⟩
  have hS : va_S (xw_A G) s.heap s.heap [] := va_S.rf
  have hl := lv_entry [.ref a] (n := 1) (Nat.le_of_ble_eq_true rfl)
  rw [show entryFrame m args 1 = entryFrame m ([.ref a] : List Value).toArray 1 from by rw [hargs], lg_entry_eq]
  generalize (lg_sl [.ref a] ++ List.replicate (1 - (lg_sl [.ref a]).length) Slot.unset).toArray = ls at hl ⊢
  have hl : lv_has ls 1 [(0, .ref a)] := hl
  skip
  refine lv_aload_n hx hb dX2_init_0 rfl (lv_at hl 0 rfl) ?_
  refine xn_obj hB tn_X2_obj tn_objI tn_objC hl.1 dX2_init_1 (Nat.le_of_ble_eq_true rfl) (Nat.le_of_ble_eq_true rfl) ?_
  refine lv_aload_n hx hb dX2_init_4 rfl (lv_at hl 0 rfl) ?_
  refine lv_iconst (v := (2)) hx hb dX2_init_5 (by decide) ?_
  refine xn_put hB hK h0 hS hP hD (ci := 2) (k := 51) (C := RX2) (T := TX2) (Nf := 8) (fs' := [.int (2), .int 0, .null, .null, .int 0, .null, .null, .null]) (by decide) hP0 rfl TBi_X2 tyX2 tyX2_ok nmX2 0 (by decide) tw_142 rfl rfl rfl rfl rfl (Nat.le_of_ble_eq_true rfl) rfl dX2_init_6 (fun P1 eP1 H locs hP hD hS => ?_)
  have f2 : P1 51 = (a, .inr (2, [.int (2), .int 0, .null, .null, .int 0, .null, .null, .null])) := by rw [eP1, va_up_self]
  refine lv_aload_n hx hb dX2_init_9 rfl (lv_at hl 0 rfl) ?_
  refine lv_bipush (v := (10)) hx hb dX2_init_10 (by decide) ?_
  refine xn_newaI hB hK h0 hS hP hD (n := 10) tw_59 (by decide) (by decide) (by decide) (Nat.le_of_ble_eq_true rfl) (Nat.le_of_ble_eq_true rfl) dX2_init_12 (fun q3 P4 eP4 H hP hD hS => ?_)
  have f5 : P4 51 = (a, .inr (2, [.int (2), .int 0, .null, .null, .int 0, .null, .null, .null])) := by rw [eP4, va_up_ne _ _ (by decide)]; exact f2
  have f6 : P4 52 = (q3, .inl (xw_q G 0, 10, .inl (fun _ => 0))) := by rw [eP4, va_up_self]
  refine xn_putF hB hK h0 hS hP hD (ci := 2) (k := 51) (C := RX2) (T := TX2) (Nf := 8) (fs' := [.int (2), .int 0, .ref q3, .null, .int 0, .null, .null, .null]) (by decide) f5 rfl TBi_X2 tyX2 tyX2_ok nmX2 2 (by decide) tw_146 rfl rfl hin rfl rfl rfl rfl (Nat.le_of_ble_eq_true rfl) rfl dX2_init_14 (fun P7 eP7 H locs hP hD hS => ?_)
  have f8 : P7 51 = (a, .inr (2, [.int (2), .int 0, .ref q3, .null, .int 0, .null, .null, .null])) := by rw [eP7, va_up_self]
  refine lv_aload_n hx hb dX2_init_17 rfl (lv_at hl 0 rfl) ?_
  refine lv_bipush (v := (10)) hx hb dX2_init_18 (by decide) ?_
  refine xn_newaI hB hK h0 hS hP hD (n := 10) tw_59 (by decide) (by decide) (by decide) (Nat.le_of_ble_eq_true rfl) (Nat.le_of_ble_eq_true rfl) dX2_init_20 (fun q9 P10 eP10 H hP hD hS => ?_)
  have f11 : P10 51 = (a, .inr (2, [.int (2), .int 0, .ref q3, .null, .int 0, .null, .null, .null])) := by rw [eP10, va_up_ne _ _ (by decide)]; exact f8
  have f12 : P10 53 = (q9, .inl (xw_q G 0, 10, .inl (fun _ => 0))) := by rw [eP10, va_up_self]
  refine xn_putF hB hK h0 hS hP hD (ci := 2) (k := 51) (C := RX2) (T := TX2) (Nf := 8) (fs' := [.int (2), .int 0, .ref q3, .ref q9, .int 0, .null, .null, .null]) (by decide) f11 rfl TBi_X2 tyX2 tyX2_ok nmX2 3 (by decide) tw_147 rfl rfl hin rfl rfl rfl rfl (Nat.le_of_ble_eq_true rfl) rfl dX2_init_22 (fun P13 eP13 H locs hP hD hS => ?_)
  have f14 : P13 51 = (a, .inr (2, [.int (2), .int 0, .ref q3, .ref q9, .int 0, .null, .null, .null])) := by rw [eP13, va_up_self]
  refine lv_aload_n hx hb dX2_init_25 rfl (lv_at hl 0 rfl) ?_
  refine lv_bipush (v := (100)) hx hb dX2_init_26 (by decide) ?_
  refine xn_newaI hB hK h0 hS hP hD (n := 100) tw_59 (by decide) (by decide) (by decide) (Nat.le_of_ble_eq_true rfl) (Nat.le_of_ble_eq_true rfl) dX2_init_28 (fun q15 P16 eP16 H hP hD hS => ?_)
  have f17 : P16 51 = (a, .inr (2, [.int (2), .int 0, .ref q3, .ref q9, .int 0, .null, .null, .null])) := by rw [eP16, va_up_ne _ _ (by decide)]; exact f14
  have f18 : P16 54 = (q15, .inl (xw_q G 0, 100, .inl (fun _ => 0))) := by rw [eP16, va_up_self]
  refine xn_putF hB hK h0 hS hP hD (ci := 2) (k := 51) (C := RX2) (T := TX2) (Nf := 8) (fs' := [.int (2), .int 0, .ref q3, .ref q9, .int 0, .ref q15, .null, .null]) (by decide) f17 rfl TBi_X2 tyX2 tyX2_ok nmX2 5 (by decide) tw_149 rfl rfl hin rfl rfl rfl rfl (Nat.le_of_ble_eq_true rfl) rfl dX2_init_30 (fun P19 eP19 H locs hP hD hS => ?_)
  have f20 : P19 51 = (a, .inr (2, [.int (2), .int 0, .ref q3, .ref q9, .int 0, .ref q15, .null, .null])) := by rw [eP19, va_up_self]
  refine lv_aload_n hx hb dX2_init_33 rfl (lv_at hl 0 rfl) ?_
  refine lv_bipush (v := (100)) hx hb dX2_init_34 (by decide) ?_
  refine xn_newaI hB hK h0 hS hP hD (n := 100) tw_59 (by decide) (by decide) (by decide) (Nat.le_of_ble_eq_true rfl) (Nat.le_of_ble_eq_true rfl) dX2_init_36 (fun q21 P22 eP22 H hP hD hS => ?_)
  have f23 : P22 51 = (a, .inr (2, [.int (2), .int 0, .ref q3, .ref q9, .int 0, .ref q15, .null, .null])) := by rw [eP22, va_up_ne _ _ (by decide)]; exact f20
  have f24 : P22 55 = (q21, .inl (xw_q G 0, 100, .inl (fun _ => 0))) := by rw [eP22, va_up_self]
  refine xn_putF hB hK h0 hS hP hD (ci := 2) (k := 51) (C := RX2) (T := TX2) (Nf := 8) (fs' := [.int (2), .int 0, .ref q3, .ref q9, .int 0, .ref q15, .ref q21, .null]) (by decide) f23 rfl TBi_X2 tyX2 tyX2_ok nmX2 6 (by decide) tw_150 rfl rfl hin rfl rfl rfl rfl (Nat.le_of_ble_eq_true rfl) rfl dX2_init_38 (fun P25 eP25 H locs hP hD hS => ?_)
  have f26 : P25 51 = (a, .inr (2, [.int (2), .int 0, .ref q3, .ref q9, .int 0, .ref q15, .ref q21, .null])) := by rw [eP25, va_up_self]
  refine lv_aload_n hx hb dX2_init_41 rfl (lv_at hl 0 rfl) ?_
  refine lv_bipush (v := (100)) hx hb dX2_init_42 (by decide) ?_
  refine xn_newaI hB hK h0 hS hP hD (n := 100) tw_59 (by decide) (by decide) (by decide) (Nat.le_of_ble_eq_true rfl) (Nat.le_of_ble_eq_true rfl) dX2_init_44 (fun q27 P28 eP28 H hP hD hS => ?_)
  have f29 : P28 51 = (a, .inr (2, [.int (2), .int 0, .ref q3, .ref q9, .int 0, .ref q15, .ref q21, .null])) := by rw [eP28, va_up_ne _ _ (by decide)]; exact f26
  have f30 : P28 56 = (q27, .inl (xw_q G 0, 100, .inl (fun _ => 0))) := by rw [eP28, va_up_self]
  refine xn_putF hB hK h0 hS hP hD (ci := 2) (k := 51) (C := RX2) (T := TX2) (Nf := 8) (fs' := [.int (2), .int 0, .ref q3, .ref q9, .int 0, .ref q15, .ref q21, .ref q27]) (by decide) f29 rfl TBi_X2 tyX2 tyX2_ok nmX2 7 (by decide) tw_151 rfl rfl hin rfl rfl rfl rfl (Nat.le_of_ble_eq_true rfl) rfl dX2_init_46 (fun P31 eP31 H locs hP hD hS => ?_)
  have f32 : P31 51 = (a, .inr (2, [.int (2), .int 0, .ref q3, .ref q9, .int 0, .ref q15, .ref q21, .ref q27])) := by rw [eP31, va_up_self]
  have z33 : P31 52 = (q3, .inl (xw_q G 0, 10, .inl (fun _ => 0))) := by rw [eP31, va_up_ne _ _ (by decide), eP28, va_up_ne _ _ (by decide), eP25, va_up_ne _ _ (by decide), eP22, va_up_ne _ _ (by decide), eP19, va_up_ne _ _ (by decide), eP16, va_up_ne _ _ (by decide), eP13, va_up_ne _ _ (by decide), eP10, va_up_ne _ _ (by decide), eP7, va_up_ne _ _ (by decide)]; exact f6
  have z34 : P31 53 = (q9, .inl (xw_q G 0, 10, .inl (fun _ => 0))) := by rw [eP31, va_up_ne _ _ (by decide), eP28, va_up_ne _ _ (by decide), eP25, va_up_ne _ _ (by decide), eP22, va_up_ne _ _ (by decide), eP19, va_up_ne _ _ (by decide), eP16, va_up_ne _ _ (by decide), eP13, va_up_ne _ _ (by decide)]; exact f12
  have z35 : P31 54 = (q15, .inl (xw_q G 0, 100, .inl (fun _ => 0))) := by rw [eP31, va_up_ne _ _ (by decide), eP28, va_up_ne _ _ (by decide), eP25, va_up_ne _ _ (by decide), eP22, va_up_ne _ _ (by decide), eP19, va_up_ne _ _ (by decide)]; exact f18
  have z36 : P31 55 = (q21, .inl (xw_q G 0, 100, .inl (fun _ => 0))) := by rw [eP31, va_up_ne _ _ (by decide), eP28, va_up_ne _ _ (by decide), eP25, va_up_ne _ _ (by decide)]; exact f24
  have z37 : P31 56 = (q27, .inl (xw_q G 0, 100, .inl (fun _ => 0))) := by rw [eP31, va_up_ne _ _ (by decide)]; exact f30
  obtain ⟨qq, hqq⟩ : ∃ z : Nat → Nat, z = fun k => if k < 51 then (P k).1 else if k < 52 then a else if k < 53 then q3 else if k < 54 then q9 else if k < 55 then q15 else if k < 56 then q21 else q27 := ⟨_, rfl⟩
  refine xn_ret hB hK h0 hS hP hD hE hO hr hlk ⟨qq, fun k hk => ⟨?_, ?_⟩, by rw [hqq]; rfl, fun k hk1 hk2 => ?_⟩ (Nat.le_of_ble_eq_true rfl) (Nat.le_of_ble_eq_true rfl) dX2_init_49
  · rw [eP31, va_up_ne _ _ (by omega), eP28, va_up_ne _ _ (by omega), eP25, va_up_ne _ _ (by omega), eP22, va_up_ne _ _ (by omega), eP19, va_up_ne _ _ (by omega), eP16, va_up_ne _ _ (by omega), eP13, va_up_ne _ _ (by omega), eP10, va_up_ne _ _ (by omega), eP7, va_up_ne _ _ (by omega), eP4, va_up_ne _ _ (by omega), eP1, va_up_ne _ _ (by omega)]
  · rw [hqq]; exact if_pos hk
  · rcases (show k = 51 ∨ k = 52 ∨ k = 53 ∨ k = 54 ∨ k = 55 ∨ k = 56 by omega) with rfl | rfl | rfl | rfl | rfl | rfl
    · rw [f32, hqq]; rfl
    · rw [z33, hqq]; rfl
    · rw [z34, hqq]; rfl
    · rw [z35, hqq]; rfl
    · rw [z36, hqq]; rfl
    · rw [z37, hqq]; rfl
set_option maxHeartbeats 8000000 in
set_option maxRecDepth 100000 in
theorem iX3_49 (l : Launch) (G : xw_G) (P : Nat → Nat × va_E) (a : Nat) (hP0 : P 49 = (a, .inr (3, [.null, .int 0, .int 0, .int 0, .int 0, .null]))) : xn_T l G yX3_init cX3_init 1 2 32 7 428 [.ref a] 50 P 57 (fun u => ∃ q : Nat → Nat, (∀ k, k < 49 → u k = P k ∧ q k = (P k).1) ∧ q 49 = a ∧ ∀ k, 49 ≤ k → k < 57 → u k = (q k, xw_cell (xn_G G q) k (xn_m0.1 k) (xn_m0.2 k))) := by
  unfold xn_T
  refine Met.ofW (cc := cX3_init) (maxL := 1) (ret := none) (by decide) rfl ?_
  intro p e s m args below meth c s₁ B hml hv
  obtain ⟨hargs, hP, hK, hD, hE, hO, h0⟩ := hv
  have hx := B.exec
  have hb := B.bytes
  have hr := B.returns
  have hlk := B.notSynchronized
  have hin : meth.name = "<init>" := (name_of_methodNamed B.named B.method).1
  have hB : CallFix p m c cX3_init 1 s args TB RX3 := ⟨hx, hb, hml, findClass_of_methodNamed B.named, fun q h => (atoms_spec (ws := Cond.code yX3_init cX3_init 1 none :: TB) B.pre) q (List.mem_cons_of_mem _ h)⟩
  have hS : va_S (xw_A G) s.heap s.heap [] := va_S.rf
  have hl := lv_entry [.ref a] (n := 1) (Nat.le_of_ble_eq_true rfl)
  rw [show entryFrame m args 1 = entryFrame m ([.ref a] : List Value).toArray 1 from by rw [hargs], lg_entry_eq]
  generalize (lg_sl [.ref a] ++ List.replicate (1 - (lg_sl [.ref a]).length) Slot.unset).toArray = ls at hl ⊢
  have hl : lv_has ls 1 [(0, .ref a)] := hl
  skip
  refine lv_aload_n hx hb dX3_init_0 rfl (lv_at hl 0 rfl) ?_
  refine xn_obj hB tn_X3_obj tn_objI tn_objC hl.1 dX3_init_1 (Nat.le_of_ble_eq_true rfl) (Nat.le_of_ble_eq_true rfl) ?_
  refine lv_aload_n hx hb dX3_init_4 rfl (lv_at hl 0 rfl) ?_
  refine lv_bipush (v := (100)) hx hb dX3_init_5 (by decide) ?_
  refine xn_newaB hB hK h0 hS hP hD (n := 100) tw_169 (by decide) (by decide) (by decide) (Nat.le_of_ble_eq_true rfl) (Nat.le_of_ble_eq_true rfl) dX3_init_7 (fun q1 P2 eP2 H hP hD hS => ?_)
  have f3 : P2 49 = (a, .inr (3, [.null, .int 0, .int 0, .int 0, .int 0, .null])) := by rw [eP2, va_up_ne _ _ (by decide)]; exact hP0
  have f4 : P2 50 = (q1, .inl (xw_q G 1, 100, .inl (fun _ => 0))) := by rw [eP2, va_up_self]
  refine xn_putF hB hK h0 hS hP hD (ci := 3) (k := 49) (C := RX3) (T := TX3) (Nf := 6) (fs' := [.ref q1, .int 0, .int 0, .int 0, .int 0, .null]) (by decide) f3 rfl TBi_X3 tyX3 tyX3_ok nmX3 0 (by decide) tw_170 rfl rfl hin rfl rfl rfl rfl (Nat.le_of_ble_eq_true rfl) rfl dX3_init_9 (fun P5 eP5 H locs hP hD hS => ?_)
  have f6 : P5 49 = (a, .inr (3, [.ref q1, .int 0, .int 0, .int 0, .int 0, .null])) := by rw [eP5, va_up_self]
  refine lv_aload_n hx hb dX3_init_12 rfl (lv_at hl 0 rfl) ?_
  refine lv_iconst (v := (-1)) hx hb dX3_init_13 (by decide) ?_
  refine xn_put hB hK h0 hS hP hD (ci := 3) (k := 49) (C := RX3) (T := TX3) (Nf := 6) (fs' := [.ref q1, .int 0, .int 0, .int (-1), .int 0, .null]) (by decide) f6 rfl TBi_X3 tyX3 tyX3_ok nmX3 3 (by decide) tw_175 rfl rfl rfl rfl rfl (Nat.le_of_ble_eq_true rfl) rfl dX3_init_14 (fun P7 eP7 H locs hP hD hS => ?_)
  have f8 : P7 49 = (a, .inr (3, [.ref q1, .int 0, .int 0, .int (-1), .int 0, .null])) := by rw [eP7, va_up_self]
  refine lv_aload_n hx hb dX3_init_17 rfl (lv_at hl 0 rfl) ?_
  refine xn_new hB hK h0 hS hP hD (ci := 2) (C := RX2) (T := TX2) (Nf := 8) (fs := [.int 0, .int 0, .null, .null, .int 0, .null, .null, .null]) rfl TBi_X2 tyX2 tyX2_ok tw_136 tw_137 tw_6 (fun j hj => by rcases (show j = 0 ∨ j = 1 ∨ j = 2 ∨ j = 3 ∨ j = 4 ∨ j = 5 ∨ j = 6 ∨ j = 7 by omega) with rfl | rfl | rfl | rfl | rfl | rfl | rfl | rfl <;> rfl) (Nat.le_of_ble_eq_true rfl) (Nat.le_of_ble_eq_true rfl) dX3_init_18 (fun q9 P10 eP10 H hP hD hS => ?_)
  have f11 : P10 49 = (a, .inr (3, [.ref q1, .int 0, .int 0, .int (-1), .int 0, .null])) := by rw [eP10, va_up_ne _ _ (by decide)]; exact f8
  have f12 : P10 51 = (q9, .inr (2, [.int 0, .int 0, .null, .null, .int 0, .null, .null, .null])) := by rw [eP10, va_up_self]
  refine lv_dup hx hb dX3_init_21 rfl ?_
  refine xn_cN hB hK h0 hS hP hD hE hO (As := []) (rest := [.ref q9, .ref a]) (iX2_51 l G P10 q9 f12) (host := RX7) (by decide +kernel) tw_140 tw_139 tw_6 rfl 0 hi_X2_init ⟨(Nat.le_of_ble_eq_true rfl), (Nat.le_of_ble_eq_true rfl)⟩ rfl hl.1 (Nat.le_of_ble_eq_true rfl) rfl dX3_init_22 ⟨(Nat.le_of_ble_eq_true rfl), (Nat.le_of_ble_eq_true rfl)⟩ (fun P13 hp14 H locs hP hD hS => ?_)
  obtain ⟨qf15, hp14l, hp14a, hp14c⟩ := hp14
  subst hp14a
  have f16 : P13 49 = (a, .inr (3, [.ref q1, .int 0, .int 0, .int (-1), .int 0, .null])) := (hp14l 49 (by decide)).1.trans f11
  refine xn_put hB hK h0 hS hP hD (ci := 3) (k := 49) (C := RX3) (T := TX3) (Nf := 6) (fs' := [.ref q1, .int 0, .int 0, .int (-1), .int 0, .ref (qf15 51)]) (by decide) f16 rfl TBi_X3 tyX3 tyX3_ok nmX3 5 (by decide) tw_177 rfl rfl rfl rfl rfl (Nat.le_of_ble_eq_true rfl) rfl dX3_init_25 (fun P17 eP17 H locs hP hD hS => ?_)
  have f18 : P17 49 = (a, .inr (3, [.ref q1, .int 0, .int 0, .int (-1), .int 0, .ref (qf15 51)])) := by rw [eP17, va_up_self]
  have z19 : P17 50 = (q1, .inl (xw_q G 1, 100, .inl (fun _ => 0))) := by rw [eP17, va_up_ne _ _ (by decide), (hp14l 50 (by decide)).1, eP10, va_up_ne _ _ (by decide), eP7, va_up_ne _ _ (by decide), eP5, va_up_ne _ _ (by decide)]; exact f4
  obtain ⟨qq, hqq⟩ : ∃ z : Nat → Nat, z = fun k => if k < 49 then (P k).1 else if k < 50 then a else if k < 51 then q1 else qf15 k := ⟨_, rfl⟩
  refine xn_ret hB hK h0 hS hP hD hE hO hr hlk ⟨qq, fun k hk => ⟨?_, ?_⟩, by rw [hqq]; rfl, fun k hk1 hk2 => ?_⟩ (Nat.le_of_ble_eq_true rfl) (Nat.le_of_ble_eq_true rfl) dX3_init_28
  · rw [eP17, va_up_ne _ _ (by omega), (hp14l k (by omega)).1, eP10, va_up_ne _ _ (by omega), eP7, va_up_ne _ _ (by omega), eP5, va_up_ne _ _ (by omega), eP2, va_up_ne _ _ (by omega)]
  · rw [hqq]; exact if_pos hk
  · rcases (show k = 49 ∨ k = 50 ∨ k = 51 ∨ k = 52 ∨ k = 53 ∨ k = 54 ∨ k = 55 ∨ k = 56 by omega) with rfl | rfl | rfl | rfl | rfl | rfl | rfl | rfl
    · rw [f18, hqq]; rfl
    · rw [z19, hqq]; rfl
    · rw [eP17, va_up_ne _ _ (by decide)]; rw [hqq]; exact hp14c 51 (by decide) (by decide)
    · rw [eP17, va_up_ne _ _ (by decide)]; rw [hqq]; exact hp14c 52 (by decide) (by decide)
    · rw [eP17, va_up_ne _ _ (by decide)]; rw [hqq]; exact hp14c 53 (by decide) (by decide)
    · rw [eP17, va_up_ne _ _ (by decide)]; rw [hqq]; exact hp14c 54 (by decide) (by decide)
    · rw [eP17, va_up_ne _ _ (by decide)]; rw [hqq]; exact hp14c 55 (by decide) (by decide)
    · rw [eP17, va_up_ne _ _ (by decide)]; rw [hqq]; exact hp14c 56 (by decide) (by decide)
set_option maxHeartbeats 8000000 in
set_option maxRecDepth 100000 in
theorem iX2_58 (l : Launch) (G : xw_G) (P : Nat → Nat × va_E) (a : Nat) (hP0 : P 58 = (a, .inr (2, [.int 0, .int 0, .null, .null, .int 0, .null, .null, .null]))) : xn_T l G yX2_init cX2_init 1 1 12 5 320 [.ref a] 59 P 64 (fun u => ∃ q : Nat → Nat, (∀ k, k < 58 → u k = P k ∧ q k = (P k).1) ∧ q 58 = a ∧ ∀ k, 58 ≤ k → k < 64 → u k = (q k, xw_cell (xn_G G q) k (xn_m0.1 k) (xn_m0.2 k))) := by
  unfold xn_T
  refine Met.ofW (cc := cX2_init) (maxL := 1) (ret := none) (by decide) rfl ?_
  intro p e s m args below meth c s₁ B hml hv
  obtain ⟨hargs, hP, hK, hD, hE, hO, h0⟩ := hv
  have hx := B.exec
  have hb := B.bytes
  have hr := B.returns
  have hlk := B.notSynchronized
  have hin : meth.name = "<init>" := (name_of_methodNamed B.named B.method).1
  have hB : CallFix p m c cX2_init 1 s args TB RX2 := ⟨hx, hb, hml, findClass_of_methodNamed B.named, fun q h => (atoms_spec (ws := Cond.code yX2_init cX2_init 1 none :: TB) B.pre) q (List.mem_cons_of_mem _ h)⟩
  have hS : va_S (xw_A G) s.heap s.heap [] := va_S.rf
  have hl := lv_entry [.ref a] (n := 1) (Nat.le_of_ble_eq_true rfl)
  rw [show entryFrame m args 1 = entryFrame m ([.ref a] : List Value).toArray 1 from by rw [hargs], lg_entry_eq]
  generalize (lg_sl [.ref a] ++ List.replicate (1 - (lg_sl [.ref a]).length) Slot.unset).toArray = ls at hl ⊢
  have hl : lv_has ls 1 [(0, .ref a)] := hl
  skip
  refine lv_aload_n hx hb dX2_init_0 rfl (lv_at hl 0 rfl) ?_
  refine xn_obj hB tn_X2_obj tn_objI tn_objC hl.1 dX2_init_1 (Nat.le_of_ble_eq_true rfl) (Nat.le_of_ble_eq_true rfl) ?_
  refine lv_aload_n hx hb dX2_init_4 rfl (lv_at hl 0 rfl) ?_
  refine lv_iconst (v := (2)) hx hb dX2_init_5 (by decide) ?_
  refine xn_put hB hK h0 hS hP hD (ci := 2) (k := 58) (C := RX2) (T := TX2) (Nf := 8) (fs' := [.int (2), .int 0, .null, .null, .int 0, .null, .null, .null]) (by decide) hP0 rfl TBi_X2 tyX2 tyX2_ok nmX2 0 (by decide) tw_142 rfl rfl rfl rfl rfl (Nat.le_of_ble_eq_true rfl) rfl dX2_init_6 (fun P1 eP1 H locs hP hD hS => ?_)
  have f2 : P1 58 = (a, .inr (2, [.int (2), .int 0, .null, .null, .int 0, .null, .null, .null])) := by rw [eP1, va_up_self]
  refine lv_aload_n hx hb dX2_init_9 rfl (lv_at hl 0 rfl) ?_
  refine lv_bipush (v := (10)) hx hb dX2_init_10 (by decide) ?_
  refine xn_newaI hB hK h0 hS hP hD (n := 10) tw_59 (by decide) (by decide) (by decide) (Nat.le_of_ble_eq_true rfl) (Nat.le_of_ble_eq_true rfl) dX2_init_12 (fun q3 P4 eP4 H hP hD hS => ?_)
  have f5 : P4 58 = (a, .inr (2, [.int (2), .int 0, .null, .null, .int 0, .null, .null, .null])) := by rw [eP4, va_up_ne _ _ (by decide)]; exact f2
  have f6 : P4 59 = (q3, .inl (xw_q G 0, 10, .inl (fun _ => 0))) := by rw [eP4, va_up_self]
  refine xn_putF hB hK h0 hS hP hD (ci := 2) (k := 58) (C := RX2) (T := TX2) (Nf := 8) (fs' := [.int (2), .int 0, .ref q3, .null, .int 0, .null, .null, .null]) (by decide) f5 rfl TBi_X2 tyX2 tyX2_ok nmX2 2 (by decide) tw_146 rfl rfl hin rfl rfl rfl rfl (Nat.le_of_ble_eq_true rfl) rfl dX2_init_14 (fun P7 eP7 H locs hP hD hS => ?_)
  have f8 : P7 58 = (a, .inr (2, [.int (2), .int 0, .ref q3, .null, .int 0, .null, .null, .null])) := by rw [eP7, va_up_self]
  refine lv_aload_n hx hb dX2_init_17 rfl (lv_at hl 0 rfl) ?_
  refine lv_bipush (v := (10)) hx hb dX2_init_18 (by decide) ?_
  refine xn_newaI hB hK h0 hS hP hD (n := 10) tw_59 (by decide) (by decide) (by decide) (Nat.le_of_ble_eq_true rfl) (Nat.le_of_ble_eq_true rfl) dX2_init_20 (fun q9 P10 eP10 H hP hD hS => ?_)
  have f11 : P10 58 = (a, .inr (2, [.int (2), .int 0, .ref q3, .null, .int 0, .null, .null, .null])) := by rw [eP10, va_up_ne _ _ (by decide)]; exact f8
  have f12 : P10 60 = (q9, .inl (xw_q G 0, 10, .inl (fun _ => 0))) := by rw [eP10, va_up_self]
  refine xn_putF hB hK h0 hS hP hD (ci := 2) (k := 58) (C := RX2) (T := TX2) (Nf := 8) (fs' := [.int (2), .int 0, .ref q3, .ref q9, .int 0, .null, .null, .null]) (by decide) f11 rfl TBi_X2 tyX2 tyX2_ok nmX2 3 (by decide) tw_147 rfl rfl hin rfl rfl rfl rfl (Nat.le_of_ble_eq_true rfl) rfl dX2_init_22 (fun P13 eP13 H locs hP hD hS => ?_)
  have f14 : P13 58 = (a, .inr (2, [.int (2), .int 0, .ref q3, .ref q9, .int 0, .null, .null, .null])) := by rw [eP13, va_up_self]
  refine lv_aload_n hx hb dX2_init_25 rfl (lv_at hl 0 rfl) ?_
  refine lv_bipush (v := (100)) hx hb dX2_init_26 (by decide) ?_
  refine xn_newaI hB hK h0 hS hP hD (n := 100) tw_59 (by decide) (by decide) (by decide) (Nat.le_of_ble_eq_true rfl) (Nat.le_of_ble_eq_true rfl) dX2_init_28 (fun q15 P16 eP16 H hP hD hS => ?_)
  have f17 : P16 58 = (a, .inr (2, [.int (2), .int 0, .ref q3, .ref q9, .int 0, .null, .null, .null])) := by rw [eP16, va_up_ne _ _ (by decide)]; exact f14
  have f18 : P16 61 = (q15, .inl (xw_q G 0, 100, .inl (fun _ => 0))) := by rw [eP16, va_up_self]
  refine xn_putF hB hK h0 hS hP hD (ci := 2) (k := 58) (C := RX2) (T := TX2) (Nf := 8) (fs' := [.int (2), .int 0, .ref q3, .ref q9, .int 0, .ref q15, .null, .null]) (by decide) f17 rfl TBi_X2 tyX2 tyX2_ok nmX2 5 (by decide) tw_149 rfl rfl hin rfl rfl rfl rfl (Nat.le_of_ble_eq_true rfl) rfl dX2_init_30 (fun P19 eP19 H locs hP hD hS => ?_)
  have f20 : P19 58 = (a, .inr (2, [.int (2), .int 0, .ref q3, .ref q9, .int 0, .ref q15, .null, .null])) := by rw [eP19, va_up_self]
  refine lv_aload_n hx hb dX2_init_33 rfl (lv_at hl 0 rfl) ?_
  refine lv_bipush (v := (100)) hx hb dX2_init_34 (by decide) ?_
  refine xn_newaI hB hK h0 hS hP hD (n := 100) tw_59 (by decide) (by decide) (by decide) (Nat.le_of_ble_eq_true rfl) (Nat.le_of_ble_eq_true rfl) dX2_init_36 (fun q21 P22 eP22 H hP hD hS => ?_)
  have f23 : P22 58 = (a, .inr (2, [.int (2), .int 0, .ref q3, .ref q9, .int 0, .ref q15, .null, .null])) := by rw [eP22, va_up_ne _ _ (by decide)]; exact f20
  have f24 : P22 62 = (q21, .inl (xw_q G 0, 100, .inl (fun _ => 0))) := by rw [eP22, va_up_self]
  refine xn_putF hB hK h0 hS hP hD (ci := 2) (k := 58) (C := RX2) (T := TX2) (Nf := 8) (fs' := [.int (2), .int 0, .ref q3, .ref q9, .int 0, .ref q15, .ref q21, .null]) (by decide) f23 rfl TBi_X2 tyX2 tyX2_ok nmX2 6 (by decide) tw_150 rfl rfl hin rfl rfl rfl rfl (Nat.le_of_ble_eq_true rfl) rfl dX2_init_38 (fun P25 eP25 H locs hP hD hS => ?_)
  have f26 : P25 58 = (a, .inr (2, [.int (2), .int 0, .ref q3, .ref q9, .int 0, .ref q15, .ref q21, .null])) := by rw [eP25, va_up_self]
  refine lv_aload_n hx hb dX2_init_41 rfl (lv_at hl 0 rfl) ?_
  refine lv_bipush (v := (100)) hx hb dX2_init_42 (by decide) ?_
  refine xn_newaI hB hK h0 hS hP hD (n := 100) tw_59 (by decide) (by decide) (by decide) (Nat.le_of_ble_eq_true rfl) (Nat.le_of_ble_eq_true rfl) dX2_init_44 (fun q27 P28 eP28 H hP hD hS => ?_)
  have f29 : P28 58 = (a, .inr (2, [.int (2), .int 0, .ref q3, .ref q9, .int 0, .ref q15, .ref q21, .null])) := by rw [eP28, va_up_ne _ _ (by decide)]; exact f26
  have f30 : P28 63 = (q27, .inl (xw_q G 0, 100, .inl (fun _ => 0))) := by rw [eP28, va_up_self]
  refine xn_putF hB hK h0 hS hP hD (ci := 2) (k := 58) (C := RX2) (T := TX2) (Nf := 8) (fs' := [.int (2), .int 0, .ref q3, .ref q9, .int 0, .ref q15, .ref q21, .ref q27]) (by decide) f29 rfl TBi_X2 tyX2 tyX2_ok nmX2 7 (by decide) tw_151 rfl rfl hin rfl rfl rfl rfl (Nat.le_of_ble_eq_true rfl) rfl dX2_init_46 (fun P31 eP31 H locs hP hD hS => ?_)
  have f32 : P31 58 = (a, .inr (2, [.int (2), .int 0, .ref q3, .ref q9, .int 0, .ref q15, .ref q21, .ref q27])) := by rw [eP31, va_up_self]
  have z33 : P31 59 = (q3, .inl (xw_q G 0, 10, .inl (fun _ => 0))) := by rw [eP31, va_up_ne _ _ (by decide), eP28, va_up_ne _ _ (by decide), eP25, va_up_ne _ _ (by decide), eP22, va_up_ne _ _ (by decide), eP19, va_up_ne _ _ (by decide), eP16, va_up_ne _ _ (by decide), eP13, va_up_ne _ _ (by decide), eP10, va_up_ne _ _ (by decide), eP7, va_up_ne _ _ (by decide)]; exact f6
  have z34 : P31 60 = (q9, .inl (xw_q G 0, 10, .inl (fun _ => 0))) := by rw [eP31, va_up_ne _ _ (by decide), eP28, va_up_ne _ _ (by decide), eP25, va_up_ne _ _ (by decide), eP22, va_up_ne _ _ (by decide), eP19, va_up_ne _ _ (by decide), eP16, va_up_ne _ _ (by decide), eP13, va_up_ne _ _ (by decide)]; exact f12
  have z35 : P31 61 = (q15, .inl (xw_q G 0, 100, .inl (fun _ => 0))) := by rw [eP31, va_up_ne _ _ (by decide), eP28, va_up_ne _ _ (by decide), eP25, va_up_ne _ _ (by decide), eP22, va_up_ne _ _ (by decide), eP19, va_up_ne _ _ (by decide)]; exact f18
  have z36 : P31 62 = (q21, .inl (xw_q G 0, 100, .inl (fun _ => 0))) := by rw [eP31, va_up_ne _ _ (by decide), eP28, va_up_ne _ _ (by decide), eP25, va_up_ne _ _ (by decide)]; exact f24
  have z37 : P31 63 = (q27, .inl (xw_q G 0, 100, .inl (fun _ => 0))) := by rw [eP31, va_up_ne _ _ (by decide)]; exact f30
  obtain ⟨qq, hqq⟩ : ∃ z : Nat → Nat, z = fun k => if k < 58 then (P k).1 else if k < 59 then a else if k < 60 then q3 else if k < 61 then q9 else if k < 62 then q15 else if k < 63 then q21 else q27 := ⟨_, rfl⟩
  refine xn_ret hB hK h0 hS hP hD hE hO hr hlk ⟨qq, fun k hk => ⟨?_, ?_⟩, by rw [hqq]; rfl, fun k hk1 hk2 => ?_⟩ (Nat.le_of_ble_eq_true rfl) (Nat.le_of_ble_eq_true rfl) dX2_init_49
  · rw [eP31, va_up_ne _ _ (by omega), eP28, va_up_ne _ _ (by omega), eP25, va_up_ne _ _ (by omega), eP22, va_up_ne _ _ (by omega), eP19, va_up_ne _ _ (by omega), eP16, va_up_ne _ _ (by omega), eP13, va_up_ne _ _ (by omega), eP10, va_up_ne _ _ (by omega), eP7, va_up_ne _ _ (by omega), eP4, va_up_ne _ _ (by omega), eP1, va_up_ne _ _ (by omega)]
  · rw [hqq]; exact if_pos hk
  · rcases (show k = 58 ∨ k = 59 ∨ k = 60 ∨ k = 61 ∨ k = 62 ∨ k = 63 by omega) with rfl | rfl | rfl | rfl | rfl | rfl
    · rw [f32, hqq]; rfl
    · rw [z33, hqq]; rfl
    · rw [z34, hqq]; rfl
    · rw [z35, hqq]; rfl
    · rw [z36, hqq]; rfl
    · rw [z37, hqq]; rfl
set_option maxHeartbeats 8000000 in
set_option maxRecDepth 100000 in
theorem iX4_64 (l : Launch) (G : xw_G) (P : Nat → Nat × va_E) (a : Nat) (hP0 : P 64 = (a, .inr (4, [.null, .null, .null]))) : xn_T l G yX4_init cX4_init 1 1 12 3 72 [.ref a] 65 P 68 (fun u => ∃ q : Nat → Nat, (∀ k, k < 64 → u k = P k ∧ q k = (P k).1) ∧ q 64 = a ∧ ∀ k, 64 ≤ k → k < 68 → u k = (q k, xw_cell (xn_G G q) k (xn_m0.1 k) (xn_m0.2 k))) := by
  unfold xn_T
  refine Met.ofW (cc := cX4_init) (maxL := 1) (ret := none) (by decide) rfl ?_
  intro p e s m args below meth c s₁ B hml hv
  obtain ⟨hargs, hP, hK, hD, hE, hO, h0⟩ := hv
  have hx := B.exec
  have hb := B.bytes
  have hr := B.returns
  have hlk := B.notSynchronized
  have hin : meth.name = "<init>" := (name_of_methodNamed B.named B.method).1
  have hB : CallFix p m c cX4_init 1 s args TB RX4 := ⟨hx, hb, hml, findClass_of_methodNamed B.named, fun q h => (atoms_spec (ws := Cond.code yX4_init cX4_init 1 none :: TB) B.pre) q (List.mem_cons_of_mem _ h)⟩
  have hS : va_S (xw_A G) s.heap s.heap [] := va_S.rf
  have hl := lv_entry [.ref a] (n := 1) (Nat.le_of_ble_eq_true rfl)
  rw [show entryFrame m args 1 = entryFrame m ([.ref a] : List Value).toArray 1 from by rw [hargs], lg_entry_eq]
  generalize (lg_sl [.ref a] ++ List.replicate (1 - (lg_sl [.ref a]).length) Slot.unset).toArray = ls at hl ⊢
  have hl : lv_has ls 1 [(0, .ref a)] := hl
  skip
  refine lv_aload_n hx hb dX4_init_0 rfl (lv_at hl 0 rfl) ?_
  refine xn_obj hB tn_X4_obj tn_objI tn_objC hl.1 dX4_init_1 (Nat.le_of_ble_eq_true rfl) (Nat.le_of_ble_eq_true rfl) ?_
  refine lv_aload_n hx hb dX4_init_4 rfl (lv_at hl 0 rfl) ?_
  refine lv_bipush (v := (60)) hx hb dX4_init_5 (by decide) ?_
  refine xn_newaI hB hK h0 hS hP hD (n := 60) tw_59 (by decide) (by decide) (by decide) (Nat.le_of_ble_eq_true rfl) (Nat.le_of_ble_eq_true rfl) dX4_init_7 (fun q1 P2 eP2 H hP hD hS => ?_)
  have f3 : P2 64 = (a, .inr (4, [.null, .null, .null])) := by rw [eP2, va_up_ne _ _ (by decide)]; exact hP0
  have f4 : P2 65 = (q1, .inl (xw_q G 0, 60, .inl (fun _ => 0))) := by rw [eP2, va_up_self]
  refine xn_putF hB hK h0 hS hP hD (ci := 4) (k := 64) (C := RX4) (T := TX4) (Nf := 3) (fs' := [.ref q1, .null, .null]) (by decide) f3 rfl TBi_X4 tyX4 tyX4_ok nmX4 0 (by decide) tw_200 rfl rfl hin rfl rfl rfl rfl (Nat.le_of_ble_eq_true rfl) rfl dX4_init_9 (fun P5 eP5 H locs hP hD hS => ?_)
  have f6 : P5 64 = (a, .inr (4, [.ref q1, .null, .null])) := by rw [eP5, va_up_self]
  refine lv_aload_n hx hb dX4_init_12 rfl (lv_at hl 0 rfl) ?_
  refine lv_bipush (v := (6)) hx hb dX4_init_13 (by decide) ?_
  refine xn_newaI hB hK h0 hS hP hD (n := 6) tw_59 (by decide) (by decide) (by decide) (Nat.le_of_ble_eq_true rfl) (Nat.le_of_ble_eq_true rfl) dX4_init_15 (fun q7 P8 eP8 H hP hD hS => ?_)
  have f9 : P8 64 = (a, .inr (4, [.ref q1, .null, .null])) := by rw [eP8, va_up_ne _ _ (by decide)]; exact f6
  have f10 : P8 66 = (q7, .inl (xw_q G 0, 6, .inl (fun _ => 0))) := by rw [eP8, va_up_self]
  refine xn_putF hB hK h0 hS hP hD (ci := 4) (k := 64) (C := RX4) (T := TX4) (Nf := 3) (fs' := [.ref q1, .ref q7, .null]) (by decide) f9 rfl TBi_X4 tyX4 tyX4_ok nmX4 1 (by decide) tw_201 rfl rfl hin rfl rfl rfl rfl (Nat.le_of_ble_eq_true rfl) rfl dX4_init_17 (fun P11 eP11 H locs hP hD hS => ?_)
  have f12 : P11 64 = (a, .inr (4, [.ref q1, .ref q7, .null])) := by rw [eP11, va_up_self]
  refine lv_aload_n hx hb dX4_init_20 rfl (lv_at hl 0 rfl) ?_
  refine lv_bipush (v := (6)) hx hb dX4_init_21 (by decide) ?_
  refine xn_newaI hB hK h0 hS hP hD (n := 6) tw_59 (by decide) (by decide) (by decide) (Nat.le_of_ble_eq_true rfl) (Nat.le_of_ble_eq_true rfl) dX4_init_23 (fun q13 P14 eP14 H hP hD hS => ?_)
  have f15 : P14 64 = (a, .inr (4, [.ref q1, .ref q7, .null])) := by rw [eP14, va_up_ne _ _ (by decide)]; exact f12
  have f16 : P14 67 = (q13, .inl (xw_q G 0, 6, .inl (fun _ => 0))) := by rw [eP14, va_up_self]
  refine xn_putF hB hK h0 hS hP hD (ci := 4) (k := 64) (C := RX4) (T := TX4) (Nf := 3) (fs' := [.ref q1, .ref q7, .ref q13]) (by decide) f15 rfl TBi_X4 tyX4 tyX4_ok nmX4 2 (by decide) tw_202 rfl rfl hin rfl rfl rfl rfl (Nat.le_of_ble_eq_true rfl) rfl dX4_init_25 (fun P17 eP17 H locs hP hD hS => ?_)
  have f18 : P17 64 = (a, .inr (4, [.ref q1, .ref q7, .ref q13])) := by rw [eP17, va_up_self]
  have z19 : P17 65 = (q1, .inl (xw_q G 0, 60, .inl (fun _ => 0))) := by rw [eP17, va_up_ne _ _ (by decide), eP14, va_up_ne _ _ (by decide), eP11, va_up_ne _ _ (by decide), eP8, va_up_ne _ _ (by decide), eP5, va_up_ne _ _ (by decide)]; exact f4
  have z20 : P17 66 = (q7, .inl (xw_q G 0, 6, .inl (fun _ => 0))) := by rw [eP17, va_up_ne _ _ (by decide), eP14, va_up_ne _ _ (by decide), eP11, va_up_ne _ _ (by decide)]; exact f10
  have z21 : P17 67 = (q13, .inl (xw_q G 0, 6, .inl (fun _ => 0))) := by rw [eP17, va_up_ne _ _ (by decide)]; exact f16
  obtain ⟨qq, hqq⟩ : ∃ z : Nat → Nat, z = fun k => if k < 64 then (P k).1 else if k < 65 then a else if k < 66 then q1 else if k < 67 then q7 else q13 := ⟨_, rfl⟩
  refine xn_ret hB hK h0 hS hP hD hE hO hr hlk ⟨qq, fun k hk => ⟨?_, ?_⟩, by rw [hqq]; rfl, fun k hk1 hk2 => ?_⟩ (Nat.le_of_ble_eq_true rfl) (Nat.le_of_ble_eq_true rfl) dX4_init_28
  · rw [eP17, va_up_ne _ _ (by omega), eP14, va_up_ne _ _ (by omega), eP11, va_up_ne _ _ (by omega), eP8, va_up_ne _ _ (by omega), eP5, va_up_ne _ _ (by omega), eP2, va_up_ne _ _ (by omega)]
  · rw [hqq]; exact if_pos hk
  · rcases (show k = 64 ∨ k = 65 ∨ k = 66 ∨ k = 67 by omega) with rfl | rfl | rfl | rfl
    · rw [f18, hqq]; rfl
    · rw [z19, hqq]; rfl
    · rw [z20, hqq]; rfl
    · rw [z21, hqq]; rfl
set_option maxHeartbeats 8000000 in
set_option maxRecDepth 100000 in
theorem iX0_68 (l : Launch) (G : xw_G) (P : Nat → Nat × va_E) (a : Nat) (hP0 : P 68 = (a, .inr (0, [.int 0, .int 0, .int 0, .int 0, .null]))) : xn_T l G yX0_init cX0_init 1 1 12 1 20 [.ref a] 69 P 70 (fun u => ∃ q : Nat → Nat, (∀ k, k < 68 → u k = P k ∧ q k = (P k).1) ∧ q 68 = a ∧ ∀ k, 68 ≤ k → k < 70 → u k = (q k, xw_cell (xn_G G q) k (xn_m0.1 k) (xn_m0.2 k))) := by
  unfold xn_T
  refine Met.ofW (cc := cX0_init) (maxL := 1) (ret := none) (by decide) rfl ?_
  intro p e s m args below meth c s₁ B hml hv
  obtain ⟨hargs, hP, hK, hD, hE, hO, h0⟩ := hv
  have hx := B.exec
  have hb := B.bytes
  have hr := B.returns
  have hlk := B.notSynchronized
  have hin : meth.name = "<init>" := (name_of_methodNamed B.named B.method).1
  have hB : CallFix p m c cX0_init 1 s args TB RX0 := ⟨hx, hb, hml, findClass_of_methodNamed B.named, fun q h => (atoms_spec (ws := Cond.code yX0_init cX0_init 1 none :: TB) B.pre) q (List.mem_cons_of_mem _ h)⟩
  have hS : va_S (xw_A G) s.heap s.heap [] := va_S.rf
  have hl := lv_entry [.ref a] (n := 1) (Nat.le_of_ble_eq_true rfl)
  rw [show entryFrame m args 1 = entryFrame m ([.ref a] : List Value).toArray 1 from by rw [hargs], lg_entry_eq]
  generalize (lg_sl [.ref a] ++ List.replicate (1 - (lg_sl [.ref a]).length) Slot.unset).toArray = ls at hl ⊢
  have hl : lv_has ls 1 [(0, .ref a)] := hl
  skip
  refine lv_aload_n hx hb dX0_init_0 rfl (lv_at hl 0 rfl) ?_
  refine xn_obj hB tn_X0_obj tn_objI tn_objC hl.1 dX0_init_1 (Nat.le_of_ble_eq_true rfl) (Nat.le_of_ble_eq_true rfl) ?_
  refine lv_aload_n hx hb dX0_init_4 rfl (lv_at hl 0 rfl) ?_
  refine lv_bipush (v := (20)) hx hb dX0_init_5 (by decide) ?_
  refine xn_newaI hB hK h0 hS hP hD (n := 20) tw_59 (by decide) (by decide) (by decide) (Nat.le_of_ble_eq_true rfl) (Nat.le_of_ble_eq_true rfl) dX0_init_7 (fun q1 P2 eP2 H hP hD hS => ?_)
  have f3 : P2 68 = (a, .inr (0, [.int 0, .int 0, .int 0, .int 0, .null])) := by rw [eP2, va_up_ne _ _ (by decide)]; exact hP0
  have f4 : P2 69 = (q1, .inl (xw_q G 0, 20, .inl (fun _ => 0))) := by rw [eP2, va_up_self]
  refine xn_putF hB hK h0 hS hP hD (ci := 0) (k := 68) (C := RX0) (T := TX0) (Nf := 5) (fs' := [.int 0, .int 0, .int 0, .int 0, .ref q1]) (by decide) f3 rfl TBi_X0 tyX0 tyX0_ok nmX0 4 (by decide) tw_221 rfl rfl hin rfl rfl rfl rfl (Nat.le_of_ble_eq_true rfl) rfl dX0_init_9 (fun P5 eP5 H locs hP hD hS => ?_)
  have f6 : P5 68 = (a, .inr (0, [.int 0, .int 0, .int 0, .int 0, .ref q1])) := by rw [eP5, va_up_self]
  have z7 : P5 69 = (q1, .inl (xw_q G 0, 20, .inl (fun _ => 0))) := by rw [eP5, va_up_ne _ _ (by decide)]; exact f4
  obtain ⟨qq, hqq⟩ : ∃ z : Nat → Nat, z = fun k => if k < 68 then (P k).1 else if k < 69 then a else q1 := ⟨_, rfl⟩
  refine xn_ret hB hK h0 hS hP hD hE hO hr hlk ⟨qq, fun k hk => ⟨?_, ?_⟩, by rw [hqq]; rfl, fun k hk1 hk2 => ?_⟩ (Nat.le_of_ble_eq_true rfl) (Nat.le_of_ble_eq_true rfl) dX0_init_12
  · rw [eP5, va_up_ne _ _ (by omega), eP2, va_up_ne _ _ (by omega)]
  · rw [hqq]; exact if_pos hk
  · rcases (show k = 68 ∨ k = 69 by omega) with rfl | rfl
    · rw [f6, hqq]; rfl
    · rw [z7, hqq]; rfl
set_option maxHeartbeats 8000000 in
set_option maxRecDepth 100000 in
theorem iX2_71 (l : Launch) (G : xw_G) (P : Nat → Nat × va_E) (a : Nat) (hP0 : P 71 = (a, .inr (2, [.int 0, .int 0, .null, .null, .int 0, .null, .null, .null]))) : xn_T l G yX2_init cX2_init 1 1 12 5 320 [.ref a] 72 P 77 (fun u => ∃ q : Nat → Nat, (∀ k, k < 71 → u k = P k ∧ q k = (P k).1) ∧ q 71 = a ∧ ∀ k, 71 ≤ k → k < 77 → u k = (q k, xw_cell (xn_G G q) k (xn_m0.1 k) (xn_m0.2 k))) := by
  unfold xn_T
  refine Met.ofW (cc := cX2_init) (maxL := 1) (ret := none) (by decide) rfl ?_
  intro p e s m args below meth c s₁ B hml hv
  obtain ⟨hargs, hP, hK, hD, hE, hO, h0⟩ := hv
  have hx := B.exec
  have hb := B.bytes
  have hr := B.returns
  have hlk := B.notSynchronized
  have hin : meth.name = "<init>" := (name_of_methodNamed B.named B.method).1
  have hB : CallFix p m c cX2_init 1 s args TB RX2 := ⟨hx, hb, hml, findClass_of_methodNamed B.named, fun q h => (atoms_spec (ws := Cond.code yX2_init cX2_init 1 none :: TB) B.pre) q (List.mem_cons_of_mem _ h)⟩
  have hS : va_S (xw_A G) s.heap s.heap [] := va_S.rf
  have hl := lv_entry [.ref a] (n := 1) (Nat.le_of_ble_eq_true rfl)
  rw [show entryFrame m args 1 = entryFrame m ([.ref a] : List Value).toArray 1 from by rw [hargs], lg_entry_eq]
  generalize (lg_sl [.ref a] ++ List.replicate (1 - (lg_sl [.ref a]).length) Slot.unset).toArray = ls at hl ⊢
  have hl : lv_has ls 1 [(0, .ref a)] := hl
  skip
  refine lv_aload_n hx hb dX2_init_0 rfl (lv_at hl 0 rfl) ?_
  refine xn_obj hB tn_X2_obj tn_objI tn_objC hl.1 dX2_init_1 (Nat.le_of_ble_eq_true rfl) (Nat.le_of_ble_eq_true rfl) ?_
  refine lv_aload_n hx hb dX2_init_4 rfl (lv_at hl 0 rfl) ?_
  refine lv_iconst (v := (2)) hx hb dX2_init_5 (by decide) ?_
  refine xn_put hB hK h0 hS hP hD (ci := 2) (k := 71) (C := RX2) (T := TX2) (Nf := 8) (fs' := [.int (2), .int 0, .null, .null, .int 0, .null, .null, .null]) (by decide) hP0 rfl TBi_X2 tyX2 tyX2_ok nmX2 0 (by decide) tw_142 rfl rfl rfl rfl rfl (Nat.le_of_ble_eq_true rfl) rfl dX2_init_6 (fun P1 eP1 H locs hP hD hS => ?_)
  have f2 : P1 71 = (a, .inr (2, [.int (2), .int 0, .null, .null, .int 0, .null, .null, .null])) := by rw [eP1, va_up_self]
  refine lv_aload_n hx hb dX2_init_9 rfl (lv_at hl 0 rfl) ?_
  refine lv_bipush (v := (10)) hx hb dX2_init_10 (by decide) ?_
  refine xn_newaI hB hK h0 hS hP hD (n := 10) tw_59 (by decide) (by decide) (by decide) (Nat.le_of_ble_eq_true rfl) (Nat.le_of_ble_eq_true rfl) dX2_init_12 (fun q3 P4 eP4 H hP hD hS => ?_)
  have f5 : P4 71 = (a, .inr (2, [.int (2), .int 0, .null, .null, .int 0, .null, .null, .null])) := by rw [eP4, va_up_ne _ _ (by decide)]; exact f2
  have f6 : P4 72 = (q3, .inl (xw_q G 0, 10, .inl (fun _ => 0))) := by rw [eP4, va_up_self]
  refine xn_putF hB hK h0 hS hP hD (ci := 2) (k := 71) (C := RX2) (T := TX2) (Nf := 8) (fs' := [.int (2), .int 0, .ref q3, .null, .int 0, .null, .null, .null]) (by decide) f5 rfl TBi_X2 tyX2 tyX2_ok nmX2 2 (by decide) tw_146 rfl rfl hin rfl rfl rfl rfl (Nat.le_of_ble_eq_true rfl) rfl dX2_init_14 (fun P7 eP7 H locs hP hD hS => ?_)
  have f8 : P7 71 = (a, .inr (2, [.int (2), .int 0, .ref q3, .null, .int 0, .null, .null, .null])) := by rw [eP7, va_up_self]
  refine lv_aload_n hx hb dX2_init_17 rfl (lv_at hl 0 rfl) ?_
  refine lv_bipush (v := (10)) hx hb dX2_init_18 (by decide) ?_
  refine xn_newaI hB hK h0 hS hP hD (n := 10) tw_59 (by decide) (by decide) (by decide) (Nat.le_of_ble_eq_true rfl) (Nat.le_of_ble_eq_true rfl) dX2_init_20 (fun q9 P10 eP10 H hP hD hS => ?_)
  have f11 : P10 71 = (a, .inr (2, [.int (2), .int 0, .ref q3, .null, .int 0, .null, .null, .null])) := by rw [eP10, va_up_ne _ _ (by decide)]; exact f8
  have f12 : P10 73 = (q9, .inl (xw_q G 0, 10, .inl (fun _ => 0))) := by rw [eP10, va_up_self]
  refine xn_putF hB hK h0 hS hP hD (ci := 2) (k := 71) (C := RX2) (T := TX2) (Nf := 8) (fs' := [.int (2), .int 0, .ref q3, .ref q9, .int 0, .null, .null, .null]) (by decide) f11 rfl TBi_X2 tyX2 tyX2_ok nmX2 3 (by decide) tw_147 rfl rfl hin rfl rfl rfl rfl (Nat.le_of_ble_eq_true rfl) rfl dX2_init_22 (fun P13 eP13 H locs hP hD hS => ?_)
  have f14 : P13 71 = (a, .inr (2, [.int (2), .int 0, .ref q3, .ref q9, .int 0, .null, .null, .null])) := by rw [eP13, va_up_self]
  refine lv_aload_n hx hb dX2_init_25 rfl (lv_at hl 0 rfl) ?_
  refine lv_bipush (v := (100)) hx hb dX2_init_26 (by decide) ?_
  refine xn_newaI hB hK h0 hS hP hD (n := 100) tw_59 (by decide) (by decide) (by decide) (Nat.le_of_ble_eq_true rfl) (Nat.le_of_ble_eq_true rfl) dX2_init_28 (fun q15 P16 eP16 H hP hD hS => ?_)
  have f17 : P16 71 = (a, .inr (2, [.int (2), .int 0, .ref q3, .ref q9, .int 0, .null, .null, .null])) := by rw [eP16, va_up_ne _ _ (by decide)]; exact f14
  have f18 : P16 74 = (q15, .inl (xw_q G 0, 100, .inl (fun _ => 0))) := by rw [eP16, va_up_self]
  refine xn_putF hB hK h0 hS hP hD (ci := 2) (k := 71) (C := RX2) (T := TX2) (Nf := 8) (fs' := [.int (2), .int 0, .ref q3, .ref q9, .int 0, .ref q15, .null, .null]) (by decide) f17 rfl TBi_X2 tyX2 tyX2_ok nmX2 5 (by decide) tw_149 rfl rfl hin rfl rfl rfl rfl (Nat.le_of_ble_eq_true rfl) rfl dX2_init_30 (fun P19 eP19 H locs hP hD hS => ?_)
  have f20 : P19 71 = (a, .inr (2, [.int (2), .int 0, .ref q3, .ref q9, .int 0, .ref q15, .null, .null])) := by rw [eP19, va_up_self]
  refine lv_aload_n hx hb dX2_init_33 rfl (lv_at hl 0 rfl) ?_
  refine lv_bipush (v := (100)) hx hb dX2_init_34 (by decide) ?_
  refine xn_newaI hB hK h0 hS hP hD (n := 100) tw_59 (by decide) (by decide) (by decide) (Nat.le_of_ble_eq_true rfl) (Nat.le_of_ble_eq_true rfl) dX2_init_36 (fun q21 P22 eP22 H hP hD hS => ?_)
  have f23 : P22 71 = (a, .inr (2, [.int (2), .int 0, .ref q3, .ref q9, .int 0, .ref q15, .null, .null])) := by rw [eP22, va_up_ne _ _ (by decide)]; exact f20
  have f24 : P22 75 = (q21, .inl (xw_q G 0, 100, .inl (fun _ => 0))) := by rw [eP22, va_up_self]
  refine xn_putF hB hK h0 hS hP hD (ci := 2) (k := 71) (C := RX2) (T := TX2) (Nf := 8) (fs' := [.int (2), .int 0, .ref q3, .ref q9, .int 0, .ref q15, .ref q21, .null]) (by decide) f23 rfl TBi_X2 tyX2 tyX2_ok nmX2 6 (by decide) tw_150 rfl rfl hin rfl rfl rfl rfl (Nat.le_of_ble_eq_true rfl) rfl dX2_init_38 (fun P25 eP25 H locs hP hD hS => ?_)
  have f26 : P25 71 = (a, .inr (2, [.int (2), .int 0, .ref q3, .ref q9, .int 0, .ref q15, .ref q21, .null])) := by rw [eP25, va_up_self]
  refine lv_aload_n hx hb dX2_init_41 rfl (lv_at hl 0 rfl) ?_
  refine lv_bipush (v := (100)) hx hb dX2_init_42 (by decide) ?_
  refine xn_newaI hB hK h0 hS hP hD (n := 100) tw_59 (by decide) (by decide) (by decide) (Nat.le_of_ble_eq_true rfl) (Nat.le_of_ble_eq_true rfl) dX2_init_44 (fun q27 P28 eP28 H hP hD hS => ?_)
  have f29 : P28 71 = (a, .inr (2, [.int (2), .int 0, .ref q3, .ref q9, .int 0, .ref q15, .ref q21, .null])) := by rw [eP28, va_up_ne _ _ (by decide)]; exact f26
  have f30 : P28 76 = (q27, .inl (xw_q G 0, 100, .inl (fun _ => 0))) := by rw [eP28, va_up_self]
  refine xn_putF hB hK h0 hS hP hD (ci := 2) (k := 71) (C := RX2) (T := TX2) (Nf := 8) (fs' := [.int (2), .int 0, .ref q3, .ref q9, .int 0, .ref q15, .ref q21, .ref q27]) (by decide) f29 rfl TBi_X2 tyX2 tyX2_ok nmX2 7 (by decide) tw_151 rfl rfl hin rfl rfl rfl rfl (Nat.le_of_ble_eq_true rfl) rfl dX2_init_46 (fun P31 eP31 H locs hP hD hS => ?_)
  have f32 : P31 71 = (a, .inr (2, [.int (2), .int 0, .ref q3, .ref q9, .int 0, .ref q15, .ref q21, .ref q27])) := by rw [eP31, va_up_self]
  have z33 : P31 72 = (q3, .inl (xw_q G 0, 10, .inl (fun _ => 0))) := by rw [eP31, va_up_ne _ _ (by decide), eP28, va_up_ne _ _ (by decide), eP25, va_up_ne _ _ (by decide), eP22, va_up_ne _ _ (by decide), eP19, va_up_ne _ _ (by decide), eP16, va_up_ne _ _ (by decide), eP13, va_up_ne _ _ (by decide), eP10, va_up_ne _ _ (by decide), eP7, va_up_ne _ _ (by decide)]; exact f6
  have z34 : P31 73 = (q9, .inl (xw_q G 0, 10, .inl (fun _ => 0))) := by rw [eP31, va_up_ne _ _ (by decide), eP28, va_up_ne _ _ (by decide), eP25, va_up_ne _ _ (by decide), eP22, va_up_ne _ _ (by decide), eP19, va_up_ne _ _ (by decide), eP16, va_up_ne _ _ (by decide), eP13, va_up_ne _ _ (by decide)]; exact f12
  have z35 : P31 74 = (q15, .inl (xw_q G 0, 100, .inl (fun _ => 0))) := by rw [eP31, va_up_ne _ _ (by decide), eP28, va_up_ne _ _ (by decide), eP25, va_up_ne _ _ (by decide), eP22, va_up_ne _ _ (by decide), eP19, va_up_ne _ _ (by decide)]; exact f18
  have z36 : P31 75 = (q21, .inl (xw_q G 0, 100, .inl (fun _ => 0))) := by rw [eP31, va_up_ne _ _ (by decide), eP28, va_up_ne _ _ (by decide), eP25, va_up_ne _ _ (by decide)]; exact f24
  have z37 : P31 76 = (q27, .inl (xw_q G 0, 100, .inl (fun _ => 0))) := by rw [eP31, va_up_ne _ _ (by decide)]; exact f30
  obtain ⟨qq, hqq⟩ : ∃ z : Nat → Nat, z = fun k => if k < 71 then (P k).1 else if k < 72 then a else if k < 73 then q3 else if k < 74 then q9 else if k < 75 then q15 else if k < 76 then q21 else q27 := ⟨_, rfl⟩
  refine xn_ret hB hK h0 hS hP hD hE hO hr hlk ⟨qq, fun k hk => ⟨?_, ?_⟩, by rw [hqq]; rfl, fun k hk1 hk2 => ?_⟩ (Nat.le_of_ble_eq_true rfl) (Nat.le_of_ble_eq_true rfl) dX2_init_49
  · rw [eP31, va_up_ne _ _ (by omega), eP28, va_up_ne _ _ (by omega), eP25, va_up_ne _ _ (by omega), eP22, va_up_ne _ _ (by omega), eP19, va_up_ne _ _ (by omega), eP16, va_up_ne _ _ (by omega), eP13, va_up_ne _ _ (by omega), eP10, va_up_ne _ _ (by omega), eP7, va_up_ne _ _ (by omega), eP4, va_up_ne _ _ (by omega), eP1, va_up_ne _ _ (by omega)]
  · rw [hqq]; exact if_pos hk
  · rcases (show k = 71 ∨ k = 72 ∨ k = 73 ∨ k = 74 ∨ k = 75 ∨ k = 76 by omega) with rfl | rfl | rfl | rfl | rfl | rfl
    · rw [f32, hqq]; rfl
    · rw [z33, hqq]; rfl
    · rw [z34, hqq]; rfl
    · rw [z35, hqq]; rfl
    · rw [z36, hqq]; rfl
    · rw [z37, hqq]; rfl
set_option maxHeartbeats 8000000 in
set_option maxRecDepth 100000 in
theorem iX2_77 (l : Launch) (G : xw_G) (P : Nat → Nat × va_E) (a : Nat) (hP0 : P 77 = (a, .inr (2, [.int 0, .int 0, .null, .null, .int 0, .null, .null, .null]))) : xn_T l G yX2_init cX2_init 1 1 12 5 320 [.ref a] 78 P 83 (fun u => ∃ q : Nat → Nat, (∀ k, k < 77 → u k = P k ∧ q k = (P k).1) ∧ q 77 = a ∧ ∀ k, 77 ≤ k → k < 83 → u k = (q k, xw_cell (xn_G G q) k (xn_m0.1 k) (xn_m0.2 k))) := by
  unfold xn_T
  refine Met.ofW (cc := cX2_init) (maxL := 1) (ret := none) (by decide) rfl ?_
  intro p e s m args below meth c s₁ B hml hv
  obtain ⟨hargs, hP, hK, hD, hE, hO, h0⟩ := hv
  have hx := B.exec
  have hb := B.bytes
  have hr := B.returns
  have hlk := B.notSynchronized
  have hin : meth.name = "<init>" := (name_of_methodNamed B.named B.method).1
  have hB : CallFix p m c cX2_init 1 s args TB RX2 := ⟨hx, hb, hml, findClass_of_methodNamed B.named, fun q h => (atoms_spec (ws := Cond.code yX2_init cX2_init 1 none :: TB) B.pre) q (List.mem_cons_of_mem _ h)⟩
  have hS : va_S (xw_A G) s.heap s.heap [] := va_S.rf
  have hl := lv_entry [.ref a] (n := 1) (Nat.le_of_ble_eq_true rfl)
  rw [show entryFrame m args 1 = entryFrame m ([.ref a] : List Value).toArray 1 from by rw [hargs], lg_entry_eq]
  generalize (lg_sl [.ref a] ++ List.replicate (1 - (lg_sl [.ref a]).length) Slot.unset).toArray = ls at hl ⊢
  have hl : lv_has ls 1 [(0, .ref a)] := hl
  skip
  refine lv_aload_n hx hb dX2_init_0 rfl (lv_at hl 0 rfl) ?_
  refine xn_obj hB tn_X2_obj tn_objI tn_objC hl.1 dX2_init_1 (Nat.le_of_ble_eq_true rfl) (Nat.le_of_ble_eq_true rfl) ?_
  refine lv_aload_n hx hb dX2_init_4 rfl (lv_at hl 0 rfl) ?_
  refine lv_iconst (v := (2)) hx hb dX2_init_5 (by decide) ?_
  refine xn_put hB hK h0 hS hP hD (ci := 2) (k := 77) (C := RX2) (T := TX2) (Nf := 8) (fs' := [.int (2), .int 0, .null, .null, .int 0, .null, .null, .null]) (by decide) hP0 rfl TBi_X2 tyX2 tyX2_ok nmX2 0 (by decide) tw_142 rfl rfl rfl rfl rfl (Nat.le_of_ble_eq_true rfl) rfl dX2_init_6 (fun P1 eP1 H locs hP hD hS => ?_)
  have f2 : P1 77 = (a, .inr (2, [.int (2), .int 0, .null, .null, .int 0, .null, .null, .null])) := by rw [eP1, va_up_self]
  refine lv_aload_n hx hb dX2_init_9 rfl (lv_at hl 0 rfl) ?_
  refine lv_bipush (v := (10)) hx hb dX2_init_10 (by decide) ?_
  refine xn_newaI hB hK h0 hS hP hD (n := 10) tw_59 (by decide) (by decide) (by decide) (Nat.le_of_ble_eq_true rfl) (Nat.le_of_ble_eq_true rfl) dX2_init_12 (fun q3 P4 eP4 H hP hD hS => ?_)
  have f5 : P4 77 = (a, .inr (2, [.int (2), .int 0, .null, .null, .int 0, .null, .null, .null])) := by rw [eP4, va_up_ne _ _ (by decide)]; exact f2
  have f6 : P4 78 = (q3, .inl (xw_q G 0, 10, .inl (fun _ => 0))) := by rw [eP4, va_up_self]
  refine xn_putF hB hK h0 hS hP hD (ci := 2) (k := 77) (C := RX2) (T := TX2) (Nf := 8) (fs' := [.int (2), .int 0, .ref q3, .null, .int 0, .null, .null, .null]) (by decide) f5 rfl TBi_X2 tyX2 tyX2_ok nmX2 2 (by decide) tw_146 rfl rfl hin rfl rfl rfl rfl (Nat.le_of_ble_eq_true rfl) rfl dX2_init_14 (fun P7 eP7 H locs hP hD hS => ?_)
  have f8 : P7 77 = (a, .inr (2, [.int (2), .int 0, .ref q3, .null, .int 0, .null, .null, .null])) := by rw [eP7, va_up_self]
  refine lv_aload_n hx hb dX2_init_17 rfl (lv_at hl 0 rfl) ?_
  refine lv_bipush (v := (10)) hx hb dX2_init_18 (by decide) ?_
  refine xn_newaI hB hK h0 hS hP hD (n := 10) tw_59 (by decide) (by decide) (by decide) (Nat.le_of_ble_eq_true rfl) (Nat.le_of_ble_eq_true rfl) dX2_init_20 (fun q9 P10 eP10 H hP hD hS => ?_)
  have f11 : P10 77 = (a, .inr (2, [.int (2), .int 0, .ref q3, .null, .int 0, .null, .null, .null])) := by rw [eP10, va_up_ne _ _ (by decide)]; exact f8
  have f12 : P10 79 = (q9, .inl (xw_q G 0, 10, .inl (fun _ => 0))) := by rw [eP10, va_up_self]
  refine xn_putF hB hK h0 hS hP hD (ci := 2) (k := 77) (C := RX2) (T := TX2) (Nf := 8) (fs' := [.int (2), .int 0, .ref q3, .ref q9, .int 0, .null, .null, .null]) (by decide) f11 rfl TBi_X2 tyX2 tyX2_ok nmX2 3 (by decide) tw_147 rfl rfl hin rfl rfl rfl rfl (Nat.le_of_ble_eq_true rfl) rfl dX2_init_22 (fun P13 eP13 H locs hP hD hS => ?_)
  have f14 : P13 77 = (a, .inr (2, [.int (2), .int 0, .ref q3, .ref q9, .int 0, .null, .null, .null])) := by rw [eP13, va_up_self]
  refine lv_aload_n hx hb dX2_init_25 rfl (lv_at hl 0 rfl) ?_
  refine lv_bipush (v := (100)) hx hb dX2_init_26 (by decide) ?_
  refine xn_newaI hB hK h0 hS hP hD (n := 100) tw_59 (by decide) (by decide) (by decide) (Nat.le_of_ble_eq_true rfl) (Nat.le_of_ble_eq_true rfl) dX2_init_28 (fun q15 P16 eP16 H hP hD hS => ?_)
  have f17 : P16 77 = (a, .inr (2, [.int (2), .int 0, .ref q3, .ref q9, .int 0, .null, .null, .null])) := by rw [eP16, va_up_ne _ _ (by decide)]; exact f14
  have f18 : P16 80 = (q15, .inl (xw_q G 0, 100, .inl (fun _ => 0))) := by rw [eP16, va_up_self]
  refine xn_putF hB hK h0 hS hP hD (ci := 2) (k := 77) (C := RX2) (T := TX2) (Nf := 8) (fs' := [.int (2), .int 0, .ref q3, .ref q9, .int 0, .ref q15, .null, .null]) (by decide) f17 rfl TBi_X2 tyX2 tyX2_ok nmX2 5 (by decide) tw_149 rfl rfl hin rfl rfl rfl rfl (Nat.le_of_ble_eq_true rfl) rfl dX2_init_30 (fun P19 eP19 H locs hP hD hS => ?_)
  have f20 : P19 77 = (a, .inr (2, [.int (2), .int 0, .ref q3, .ref q9, .int 0, .ref q15, .null, .null])) := by rw [eP19, va_up_self]
  refine lv_aload_n hx hb dX2_init_33 rfl (lv_at hl 0 rfl) ?_
  refine lv_bipush (v := (100)) hx hb dX2_init_34 (by decide) ?_
  refine xn_newaI hB hK h0 hS hP hD (n := 100) tw_59 (by decide) (by decide) (by decide) (Nat.le_of_ble_eq_true rfl) (Nat.le_of_ble_eq_true rfl) dX2_init_36 (fun q21 P22 eP22 H hP hD hS => ?_)
  have f23 : P22 77 = (a, .inr (2, [.int (2), .int 0, .ref q3, .ref q9, .int 0, .ref q15, .null, .null])) := by rw [eP22, va_up_ne _ _ (by decide)]; exact f20
  have f24 : P22 81 = (q21, .inl (xw_q G 0, 100, .inl (fun _ => 0))) := by rw [eP22, va_up_self]
  refine xn_putF hB hK h0 hS hP hD (ci := 2) (k := 77) (C := RX2) (T := TX2) (Nf := 8) (fs' := [.int (2), .int 0, .ref q3, .ref q9, .int 0, .ref q15, .ref q21, .null]) (by decide) f23 rfl TBi_X2 tyX2 tyX2_ok nmX2 6 (by decide) tw_150 rfl rfl hin rfl rfl rfl rfl (Nat.le_of_ble_eq_true rfl) rfl dX2_init_38 (fun P25 eP25 H locs hP hD hS => ?_)
  have f26 : P25 77 = (a, .inr (2, [.int (2), .int 0, .ref q3, .ref q9, .int 0, .ref q15, .ref q21, .null])) := by rw [eP25, va_up_self]
  refine lv_aload_n hx hb dX2_init_41 rfl (lv_at hl 0 rfl) ?_
  refine lv_bipush (v := (100)) hx hb dX2_init_42 (by decide) ?_
  refine xn_newaI hB hK h0 hS hP hD (n := 100) tw_59 (by decide) (by decide) (by decide) (Nat.le_of_ble_eq_true rfl) (Nat.le_of_ble_eq_true rfl) dX2_init_44 (fun q27 P28 eP28 H hP hD hS => ?_)
  have f29 : P28 77 = (a, .inr (2, [.int (2), .int 0, .ref q3, .ref q9, .int 0, .ref q15, .ref q21, .null])) := by rw [eP28, va_up_ne _ _ (by decide)]; exact f26
  have f30 : P28 82 = (q27, .inl (xw_q G 0, 100, .inl (fun _ => 0))) := by rw [eP28, va_up_self]
  refine xn_putF hB hK h0 hS hP hD (ci := 2) (k := 77) (C := RX2) (T := TX2) (Nf := 8) (fs' := [.int (2), .int 0, .ref q3, .ref q9, .int 0, .ref q15, .ref q21, .ref q27]) (by decide) f29 rfl TBi_X2 tyX2 tyX2_ok nmX2 7 (by decide) tw_151 rfl rfl hin rfl rfl rfl rfl (Nat.le_of_ble_eq_true rfl) rfl dX2_init_46 (fun P31 eP31 H locs hP hD hS => ?_)
  have f32 : P31 77 = (a, .inr (2, [.int (2), .int 0, .ref q3, .ref q9, .int 0, .ref q15, .ref q21, .ref q27])) := by rw [eP31, va_up_self]
  have z33 : P31 78 = (q3, .inl (xw_q G 0, 10, .inl (fun _ => 0))) := by rw [eP31, va_up_ne _ _ (by decide), eP28, va_up_ne _ _ (by decide), eP25, va_up_ne _ _ (by decide), eP22, va_up_ne _ _ (by decide), eP19, va_up_ne _ _ (by decide), eP16, va_up_ne _ _ (by decide), eP13, va_up_ne _ _ (by decide), eP10, va_up_ne _ _ (by decide), eP7, va_up_ne _ _ (by decide)]; exact f6
  have z34 : P31 79 = (q9, .inl (xw_q G 0, 10, .inl (fun _ => 0))) := by rw [eP31, va_up_ne _ _ (by decide), eP28, va_up_ne _ _ (by decide), eP25, va_up_ne _ _ (by decide), eP22, va_up_ne _ _ (by decide), eP19, va_up_ne _ _ (by decide), eP16, va_up_ne _ _ (by decide), eP13, va_up_ne _ _ (by decide)]; exact f12
  have z35 : P31 80 = (q15, .inl (xw_q G 0, 100, .inl (fun _ => 0))) := by rw [eP31, va_up_ne _ _ (by decide), eP28, va_up_ne _ _ (by decide), eP25, va_up_ne _ _ (by decide), eP22, va_up_ne _ _ (by decide), eP19, va_up_ne _ _ (by decide)]; exact f18
  have z36 : P31 81 = (q21, .inl (xw_q G 0, 100, .inl (fun _ => 0))) := by rw [eP31, va_up_ne _ _ (by decide), eP28, va_up_ne _ _ (by decide), eP25, va_up_ne _ _ (by decide)]; exact f24
  have z37 : P31 82 = (q27, .inl (xw_q G 0, 100, .inl (fun _ => 0))) := by rw [eP31, va_up_ne _ _ (by decide)]; exact f30
  obtain ⟨qq, hqq⟩ : ∃ z : Nat → Nat, z = fun k => if k < 77 then (P k).1 else if k < 78 then a else if k < 79 then q3 else if k < 80 then q9 else if k < 81 then q15 else if k < 82 then q21 else q27 := ⟨_, rfl⟩
  refine xn_ret hB hK h0 hS hP hD hE hO hr hlk ⟨qq, fun k hk => ⟨?_, ?_⟩, by rw [hqq]; rfl, fun k hk1 hk2 => ?_⟩ (Nat.le_of_ble_eq_true rfl) (Nat.le_of_ble_eq_true rfl) dX2_init_49
  · rw [eP31, va_up_ne _ _ (by omega), eP28, va_up_ne _ _ (by omega), eP25, va_up_ne _ _ (by omega), eP22, va_up_ne _ _ (by omega), eP19, va_up_ne _ _ (by omega), eP16, va_up_ne _ _ (by omega), eP13, va_up_ne _ _ (by omega), eP10, va_up_ne _ _ (by omega), eP7, va_up_ne _ _ (by omega), eP4, va_up_ne _ _ (by omega), eP1, va_up_ne _ _ (by omega)]
  · rw [hqq]; exact if_pos hk
  · rcases (show k = 77 ∨ k = 78 ∨ k = 79 ∨ k = 80 ∨ k = 81 ∨ k = 82 by omega) with rfl | rfl | rfl | rfl | rfl | rfl
    · rw [f32, hqq]; rfl
    · rw [z33, hqq]; rfl
    · rw [z34, hqq]; rfl
    · rw [z35, hqq]; rfl
    · rw [z36, hqq]; rfl
    · rw [z37, hqq]; rfl
set_option maxHeartbeats 8000000 in
set_option maxRecDepth 100000 in
theorem iX2_83 (l : Launch) (G : xw_G) (P : Nat → Nat × va_E) (a : Nat) (hP0 : P 83 = (a, .inr (2, [.int 0, .int 0, .null, .null, .int 0, .null, .null, .null]))) : xn_T l G yX2_init cX2_init 1 1 12 5 320 [.ref a] 84 P 89 (fun u => ∃ q : Nat → Nat, (∀ k, k < 83 → u k = P k ∧ q k = (P k).1) ∧ q 83 = a ∧ ∀ k, 83 ≤ k → k < 89 → u k = (q k, xw_cell (xn_G G q) k (xn_m0.1 k) (xn_m0.2 k))) := by
  unfold xn_T
  refine Met.ofW (cc := cX2_init) (maxL := 1) (ret := none) (by decide) rfl ?_
  intro p e s m args below meth c s₁ B hml hv
  obtain ⟨hargs, hP, hK, hD, hE, hO, h0⟩ := hv
  have hx := B.exec
  have hb := B.bytes
  have hr := B.returns
  have hlk := B.notSynchronized
  have hin : meth.name = "<init>" := (name_of_methodNamed B.named B.method).1
  have hB : CallFix p m c cX2_init 1 s args TB RX2 := ⟨hx, hb, hml, findClass_of_methodNamed B.named, fun q h => (atoms_spec (ws := Cond.code yX2_init cX2_init 1 none :: TB) B.pre) q (List.mem_cons_of_mem _ h)⟩
  have hS : va_S (xw_A G) s.heap s.heap [] := va_S.rf
  have hl := lv_entry [.ref a] (n := 1) (Nat.le_of_ble_eq_true rfl)
  rw [show entryFrame m args 1 = entryFrame m ([.ref a] : List Value).toArray 1 from by rw [hargs], lg_entry_eq]
  generalize (lg_sl [.ref a] ++ List.replicate (1 - (lg_sl [.ref a]).length) Slot.unset).toArray = ls at hl ⊢
  have hl : lv_has ls 1 [(0, .ref a)] := hl
  skip
  refine lv_aload_n hx hb dX2_init_0 rfl (lv_at hl 0 rfl) ?_
  refine xn_obj hB tn_X2_obj tn_objI tn_objC hl.1 dX2_init_1 (Nat.le_of_ble_eq_true rfl) (Nat.le_of_ble_eq_true rfl) ?_
  refine lv_aload_n hx hb dX2_init_4 rfl (lv_at hl 0 rfl) ?_
  refine lv_iconst (v := (2)) hx hb dX2_init_5 (by decide) ?_
  refine xn_put hB hK h0 hS hP hD (ci := 2) (k := 83) (C := RX2) (T := TX2) (Nf := 8) (fs' := [.int (2), .int 0, .null, .null, .int 0, .null, .null, .null]) (by decide) hP0 rfl TBi_X2 tyX2 tyX2_ok nmX2 0 (by decide) tw_142 rfl rfl rfl rfl rfl (Nat.le_of_ble_eq_true rfl) rfl dX2_init_6 (fun P1 eP1 H locs hP hD hS => ?_)
  have f2 : P1 83 = (a, .inr (2, [.int (2), .int 0, .null, .null, .int 0, .null, .null, .null])) := by rw [eP1, va_up_self]
  refine lv_aload_n hx hb dX2_init_9 rfl (lv_at hl 0 rfl) ?_
  refine lv_bipush (v := (10)) hx hb dX2_init_10 (by decide) ?_
  refine xn_newaI hB hK h0 hS hP hD (n := 10) tw_59 (by decide) (by decide) (by decide) (Nat.le_of_ble_eq_true rfl) (Nat.le_of_ble_eq_true rfl) dX2_init_12 (fun q3 P4 eP4 H hP hD hS => ?_)
  have f5 : P4 83 = (a, .inr (2, [.int (2), .int 0, .null, .null, .int 0, .null, .null, .null])) := by rw [eP4, va_up_ne _ _ (by decide)]; exact f2
  have f6 : P4 84 = (q3, .inl (xw_q G 0, 10, .inl (fun _ => 0))) := by rw [eP4, va_up_self]
  refine xn_putF hB hK h0 hS hP hD (ci := 2) (k := 83) (C := RX2) (T := TX2) (Nf := 8) (fs' := [.int (2), .int 0, .ref q3, .null, .int 0, .null, .null, .null]) (by decide) f5 rfl TBi_X2 tyX2 tyX2_ok nmX2 2 (by decide) tw_146 rfl rfl hin rfl rfl rfl rfl (Nat.le_of_ble_eq_true rfl) rfl dX2_init_14 (fun P7 eP7 H locs hP hD hS => ?_)
  have f8 : P7 83 = (a, .inr (2, [.int (2), .int 0, .ref q3, .null, .int 0, .null, .null, .null])) := by rw [eP7, va_up_self]
  refine lv_aload_n hx hb dX2_init_17 rfl (lv_at hl 0 rfl) ?_
  refine lv_bipush (v := (10)) hx hb dX2_init_18 (by decide) ?_
  refine xn_newaI hB hK h0 hS hP hD (n := 10) tw_59 (by decide) (by decide) (by decide) (Nat.le_of_ble_eq_true rfl) (Nat.le_of_ble_eq_true rfl) dX2_init_20 (fun q9 P10 eP10 H hP hD hS => ?_)
  have f11 : P10 83 = (a, .inr (2, [.int (2), .int 0, .ref q3, .null, .int 0, .null, .null, .null])) := by rw [eP10, va_up_ne _ _ (by decide)]; exact f8
  have f12 : P10 85 = (q9, .inl (xw_q G 0, 10, .inl (fun _ => 0))) := by rw [eP10, va_up_self]
  refine xn_putF hB hK h0 hS hP hD (ci := 2) (k := 83) (C := RX2) (T := TX2) (Nf := 8) (fs' := [.int (2), .int 0, .ref q3, .ref q9, .int 0, .null, .null, .null]) (by decide) f11 rfl TBi_X2 tyX2 tyX2_ok nmX2 3 (by decide) tw_147 rfl rfl hin rfl rfl rfl rfl (Nat.le_of_ble_eq_true rfl) rfl dX2_init_22 (fun P13 eP13 H locs hP hD hS => ?_)
  have f14 : P13 83 = (a, .inr (2, [.int (2), .int 0, .ref q3, .ref q9, .int 0, .null, .null, .null])) := by rw [eP13, va_up_self]
  refine lv_aload_n hx hb dX2_init_25 rfl (lv_at hl 0 rfl) ?_
  refine lv_bipush (v := (100)) hx hb dX2_init_26 (by decide) ?_
  refine xn_newaI hB hK h0 hS hP hD (n := 100) tw_59 (by decide) (by decide) (by decide) (Nat.le_of_ble_eq_true rfl) (Nat.le_of_ble_eq_true rfl) dX2_init_28 (fun q15 P16 eP16 H hP hD hS => ?_)
  have f17 : P16 83 = (a, .inr (2, [.int (2), .int 0, .ref q3, .ref q9, .int 0, .null, .null, .null])) := by rw [eP16, va_up_ne _ _ (by decide)]; exact f14
  have f18 : P16 86 = (q15, .inl (xw_q G 0, 100, .inl (fun _ => 0))) := by rw [eP16, va_up_self]
  refine xn_putF hB hK h0 hS hP hD (ci := 2) (k := 83) (C := RX2) (T := TX2) (Nf := 8) (fs' := [.int (2), .int 0, .ref q3, .ref q9, .int 0, .ref q15, .null, .null]) (by decide) f17 rfl TBi_X2 tyX2 tyX2_ok nmX2 5 (by decide) tw_149 rfl rfl hin rfl rfl rfl rfl (Nat.le_of_ble_eq_true rfl) rfl dX2_init_30 (fun P19 eP19 H locs hP hD hS => ?_)
  have f20 : P19 83 = (a, .inr (2, [.int (2), .int 0, .ref q3, .ref q9, .int 0, .ref q15, .null, .null])) := by rw [eP19, va_up_self]
  refine lv_aload_n hx hb dX2_init_33 rfl (lv_at hl 0 rfl) ?_
  refine lv_bipush (v := (100)) hx hb dX2_init_34 (by decide) ?_
  refine xn_newaI hB hK h0 hS hP hD (n := 100) tw_59 (by decide) (by decide) (by decide) (Nat.le_of_ble_eq_true rfl) (Nat.le_of_ble_eq_true rfl) dX2_init_36 (fun q21 P22 eP22 H hP hD hS => ?_)
  have f23 : P22 83 = (a, .inr (2, [.int (2), .int 0, .ref q3, .ref q9, .int 0, .ref q15, .null, .null])) := by rw [eP22, va_up_ne _ _ (by decide)]; exact f20
  have f24 : P22 87 = (q21, .inl (xw_q G 0, 100, .inl (fun _ => 0))) := by rw [eP22, va_up_self]
  refine xn_putF hB hK h0 hS hP hD (ci := 2) (k := 83) (C := RX2) (T := TX2) (Nf := 8) (fs' := [.int (2), .int 0, .ref q3, .ref q9, .int 0, .ref q15, .ref q21, .null]) (by decide) f23 rfl TBi_X2 tyX2 tyX2_ok nmX2 6 (by decide) tw_150 rfl rfl hin rfl rfl rfl rfl (Nat.le_of_ble_eq_true rfl) rfl dX2_init_38 (fun P25 eP25 H locs hP hD hS => ?_)
  have f26 : P25 83 = (a, .inr (2, [.int (2), .int 0, .ref q3, .ref q9, .int 0, .ref q15, .ref q21, .null])) := by rw [eP25, va_up_self]
  refine lv_aload_n hx hb dX2_init_41 rfl (lv_at hl 0 rfl) ?_
  refine lv_bipush (v := (100)) hx hb dX2_init_42 (by decide) ?_
  refine xn_newaI hB hK h0 hS hP hD (n := 100) tw_59 (by decide) (by decide) (by decide) (Nat.le_of_ble_eq_true rfl) (Nat.le_of_ble_eq_true rfl) dX2_init_44 (fun q27 P28 eP28 H hP hD hS => ?_)
  have f29 : P28 83 = (a, .inr (2, [.int (2), .int 0, .ref q3, .ref q9, .int 0, .ref q15, .ref q21, .null])) := by rw [eP28, va_up_ne _ _ (by decide)]; exact f26
  have f30 : P28 88 = (q27, .inl (xw_q G 0, 100, .inl (fun _ => 0))) := by rw [eP28, va_up_self]
  refine xn_putF hB hK h0 hS hP hD (ci := 2) (k := 83) (C := RX2) (T := TX2) (Nf := 8) (fs' := [.int (2), .int 0, .ref q3, .ref q9, .int 0, .ref q15, .ref q21, .ref q27]) (by decide) f29 rfl TBi_X2 tyX2 tyX2_ok nmX2 7 (by decide) tw_151 rfl rfl hin rfl rfl rfl rfl (Nat.le_of_ble_eq_true rfl) rfl dX2_init_46 (fun P31 eP31 H locs hP hD hS => ?_)
  have f32 : P31 83 = (a, .inr (2, [.int (2), .int 0, .ref q3, .ref q9, .int 0, .ref q15, .ref q21, .ref q27])) := by rw [eP31, va_up_self]
  have z33 : P31 84 = (q3, .inl (xw_q G 0, 10, .inl (fun _ => 0))) := by rw [eP31, va_up_ne _ _ (by decide), eP28, va_up_ne _ _ (by decide), eP25, va_up_ne _ _ (by decide), eP22, va_up_ne _ _ (by decide), eP19, va_up_ne _ _ (by decide), eP16, va_up_ne _ _ (by decide), eP13, va_up_ne _ _ (by decide), eP10, va_up_ne _ _ (by decide), eP7, va_up_ne _ _ (by decide)]; exact f6
  have z34 : P31 85 = (q9, .inl (xw_q G 0, 10, .inl (fun _ => 0))) := by rw [eP31, va_up_ne _ _ (by decide), eP28, va_up_ne _ _ (by decide), eP25, va_up_ne _ _ (by decide), eP22, va_up_ne _ _ (by decide), eP19, va_up_ne _ _ (by decide), eP16, va_up_ne _ _ (by decide), eP13, va_up_ne _ _ (by decide)]; exact f12
  have z35 : P31 86 = (q15, .inl (xw_q G 0, 100, .inl (fun _ => 0))) := by rw [eP31, va_up_ne _ _ (by decide), eP28, va_up_ne _ _ (by decide), eP25, va_up_ne _ _ (by decide), eP22, va_up_ne _ _ (by decide), eP19, va_up_ne _ _ (by decide)]; exact f18
  have z36 : P31 87 = (q21, .inl (xw_q G 0, 100, .inl (fun _ => 0))) := by rw [eP31, va_up_ne _ _ (by decide), eP28, va_up_ne _ _ (by decide), eP25, va_up_ne _ _ (by decide)]; exact f24
  have z37 : P31 88 = (q27, .inl (xw_q G 0, 100, .inl (fun _ => 0))) := by rw [eP31, va_up_ne _ _ (by decide)]; exact f30
  obtain ⟨qq, hqq⟩ : ∃ z : Nat → Nat, z = fun k => if k < 83 then (P k).1 else if k < 84 then a else if k < 85 then q3 else if k < 86 then q9 else if k < 87 then q15 else if k < 88 then q21 else q27 := ⟨_, rfl⟩
  refine xn_ret hB hK h0 hS hP hD hE hO hr hlk ⟨qq, fun k hk => ⟨?_, ?_⟩, by rw [hqq]; rfl, fun k hk1 hk2 => ?_⟩ (Nat.le_of_ble_eq_true rfl) (Nat.le_of_ble_eq_true rfl) dX2_init_49
  · rw [eP31, va_up_ne _ _ (by omega), eP28, va_up_ne _ _ (by omega), eP25, va_up_ne _ _ (by omega), eP22, va_up_ne _ _ (by omega), eP19, va_up_ne _ _ (by omega), eP16, va_up_ne _ _ (by omega), eP13, va_up_ne _ _ (by omega), eP10, va_up_ne _ _ (by omega), eP7, va_up_ne _ _ (by omega), eP4, va_up_ne _ _ (by omega), eP1, va_up_ne _ _ (by omega)]
  · rw [hqq]; exact if_pos hk
  · rcases (show k = 83 ∨ k = 84 ∨ k = 85 ∨ k = 86 ∨ k = 87 ∨ k = 88 by omega) with rfl | rfl | rfl | rfl | rfl | rfl
    · rw [f32, hqq]; rfl
    · rw [z33, hqq]; rfl
    · rw [z34, hqq]; rfl
    · rw [z35, hqq]; rfl
    · rw [z36, hqq]; rfl
    · rw [z37, hqq]; rfl
set_option maxHeartbeats 8000000 in
set_option maxRecDepth 100000 in
theorem iX2_89 (l : Launch) (G : xw_G) (P : Nat → Nat × va_E) (a : Nat) (hP0 : P 89 = (a, .inr (2, [.int 0, .int 0, .null, .null, .int 0, .null, .null, .null]))) : xn_T l G yX2_init cX2_init 1 1 12 5 320 [.ref a] 90 P 95 (fun u => ∃ q : Nat → Nat, (∀ k, k < 89 → u k = P k ∧ q k = (P k).1) ∧ q 89 = a ∧ ∀ k, 89 ≤ k → k < 95 → u k = (q k, xw_cell (xn_G G q) k (xn_m0.1 k) (xn_m0.2 k))) := by
  unfold xn_T
  refine Met.ofW (cc := cX2_init) (maxL := 1) (ret := none) (by decide) rfl ?_
  intro p e s m args below meth c s₁ B hml hv
  obtain ⟨hargs, hP, hK, hD, hE, hO, h0⟩ := hv
  have hx := B.exec
  have hb := B.bytes
  have hr := B.returns
  have hlk := B.notSynchronized
  have hin : meth.name = "<init>" := (name_of_methodNamed B.named B.method).1
  have hB : CallFix p m c cX2_init 1 s args TB RX2 := ⟨hx, hb, hml, findClass_of_methodNamed B.named, fun q h => (atoms_spec (ws := Cond.code yX2_init cX2_init 1 none :: TB) B.pre) q (List.mem_cons_of_mem _ h)⟩
  have hS : va_S (xw_A G) s.heap s.heap [] := va_S.rf
  have hl := lv_entry [.ref a] (n := 1) (Nat.le_of_ble_eq_true rfl)
  rw [show entryFrame m args 1 = entryFrame m ([.ref a] : List Value).toArray 1 from by rw [hargs], lg_entry_eq]
  generalize (lg_sl [.ref a] ++ List.replicate (1 - (lg_sl [.ref a]).length) Slot.unset).toArray = ls at hl ⊢
  have hl : lv_has ls 1 [(0, .ref a)] := hl
  skip
  refine lv_aload_n hx hb dX2_init_0 rfl (lv_at hl 0 rfl) ?_
  refine xn_obj hB tn_X2_obj tn_objI tn_objC hl.1 dX2_init_1 (Nat.le_of_ble_eq_true rfl) (Nat.le_of_ble_eq_true rfl) ?_
  refine lv_aload_n hx hb dX2_init_4 rfl (lv_at hl 0 rfl) ?_
  refine lv_iconst (v := (2)) hx hb dX2_init_5 (by decide) ?_
  refine xn_put hB hK h0 hS hP hD (ci := 2) (k := 89) (C := RX2) (T := TX2) (Nf := 8) (fs' := [.int (2), .int 0, .null, .null, .int 0, .null, .null, .null]) (by decide) hP0 rfl TBi_X2 tyX2 tyX2_ok nmX2 0 (by decide) tw_142 rfl rfl rfl rfl rfl (Nat.le_of_ble_eq_true rfl) rfl dX2_init_6 (fun P1 eP1 H locs hP hD hS => ?_)
  have f2 : P1 89 = (a, .inr (2, [.int (2), .int 0, .null, .null, .int 0, .null, .null, .null])) := by rw [eP1, va_up_self]
  refine lv_aload_n hx hb dX2_init_9 rfl (lv_at hl 0 rfl) ?_
  refine lv_bipush (v := (10)) hx hb dX2_init_10 (by decide) ?_
  refine xn_newaI hB hK h0 hS hP hD (n := 10) tw_59 (by decide) (by decide) (by decide) (Nat.le_of_ble_eq_true rfl) (Nat.le_of_ble_eq_true rfl) dX2_init_12 (fun q3 P4 eP4 H hP hD hS => ?_)
  have f5 : P4 89 = (a, .inr (2, [.int (2), .int 0, .null, .null, .int 0, .null, .null, .null])) := by rw [eP4, va_up_ne _ _ (by decide)]; exact f2
  have f6 : P4 90 = (q3, .inl (xw_q G 0, 10, .inl (fun _ => 0))) := by rw [eP4, va_up_self]
  refine xn_putF hB hK h0 hS hP hD (ci := 2) (k := 89) (C := RX2) (T := TX2) (Nf := 8) (fs' := [.int (2), .int 0, .ref q3, .null, .int 0, .null, .null, .null]) (by decide) f5 rfl TBi_X2 tyX2 tyX2_ok nmX2 2 (by decide) tw_146 rfl rfl hin rfl rfl rfl rfl (Nat.le_of_ble_eq_true rfl) rfl dX2_init_14 (fun P7 eP7 H locs hP hD hS => ?_)
  have f8 : P7 89 = (a, .inr (2, [.int (2), .int 0, .ref q3, .null, .int 0, .null, .null, .null])) := by rw [eP7, va_up_self]
  refine lv_aload_n hx hb dX2_init_17 rfl (lv_at hl 0 rfl) ?_
  refine lv_bipush (v := (10)) hx hb dX2_init_18 (by decide) ?_
  refine xn_newaI hB hK h0 hS hP hD (n := 10) tw_59 (by decide) (by decide) (by decide) (Nat.le_of_ble_eq_true rfl) (Nat.le_of_ble_eq_true rfl) dX2_init_20 (fun q9 P10 eP10 H hP hD hS => ?_)
  have f11 : P10 89 = (a, .inr (2, [.int (2), .int 0, .ref q3, .null, .int 0, .null, .null, .null])) := by rw [eP10, va_up_ne _ _ (by decide)]; exact f8
  have f12 : P10 91 = (q9, .inl (xw_q G 0, 10, .inl (fun _ => 0))) := by rw [eP10, va_up_self]
  refine xn_putF hB hK h0 hS hP hD (ci := 2) (k := 89) (C := RX2) (T := TX2) (Nf := 8) (fs' := [.int (2), .int 0, .ref q3, .ref q9, .int 0, .null, .null, .null]) (by decide) f11 rfl TBi_X2 tyX2 tyX2_ok nmX2 3 (by decide) tw_147 rfl rfl hin rfl rfl rfl rfl (Nat.le_of_ble_eq_true rfl) rfl dX2_init_22 (fun P13 eP13 H locs hP hD hS => ?_)
  have f14 : P13 89 = (a, .inr (2, [.int (2), .int 0, .ref q3, .ref q9, .int 0, .null, .null, .null])) := by rw [eP13, va_up_self]
  refine lv_aload_n hx hb dX2_init_25 rfl (lv_at hl 0 rfl) ?_
  refine lv_bipush (v := (100)) hx hb dX2_init_26 (by decide) ?_
  refine xn_newaI hB hK h0 hS hP hD (n := 100) tw_59 (by decide) (by decide) (by decide) (Nat.le_of_ble_eq_true rfl) (Nat.le_of_ble_eq_true rfl) dX2_init_28 (fun q15 P16 eP16 H hP hD hS => ?_)
  have f17 : P16 89 = (a, .inr (2, [.int (2), .int 0, .ref q3, .ref q9, .int 0, .null, .null, .null])) := by rw [eP16, va_up_ne _ _ (by decide)]; exact f14
  have f18 : P16 92 = (q15, .inl (xw_q G 0, 100, .inl (fun _ => 0))) := by rw [eP16, va_up_self]
  refine xn_putF hB hK h0 hS hP hD (ci := 2) (k := 89) (C := RX2) (T := TX2) (Nf := 8) (fs' := [.int (2), .int 0, .ref q3, .ref q9, .int 0, .ref q15, .null, .null]) (by decide) f17 rfl TBi_X2 tyX2 tyX2_ok nmX2 5 (by decide) tw_149 rfl rfl hin rfl rfl rfl rfl (Nat.le_of_ble_eq_true rfl) rfl dX2_init_30 (fun P19 eP19 H locs hP hD hS => ?_)
  have f20 : P19 89 = (a, .inr (2, [.int (2), .int 0, .ref q3, .ref q9, .int 0, .ref q15, .null, .null])) := by rw [eP19, va_up_self]
  refine lv_aload_n hx hb dX2_init_33 rfl (lv_at hl 0 rfl) ?_
  refine lv_bipush (v := (100)) hx hb dX2_init_34 (by decide) ?_
  refine xn_newaI hB hK h0 hS hP hD (n := 100) tw_59 (by decide) (by decide) (by decide) (Nat.le_of_ble_eq_true rfl) (Nat.le_of_ble_eq_true rfl) dX2_init_36 (fun q21 P22 eP22 H hP hD hS => ?_)
  have f23 : P22 89 = (a, .inr (2, [.int (2), .int 0, .ref q3, .ref q9, .int 0, .ref q15, .null, .null])) := by rw [eP22, va_up_ne _ _ (by decide)]; exact f20
  have f24 : P22 93 = (q21, .inl (xw_q G 0, 100, .inl (fun _ => 0))) := by rw [eP22, va_up_self]
  refine xn_putF hB hK h0 hS hP hD (ci := 2) (k := 89) (C := RX2) (T := TX2) (Nf := 8) (fs' := [.int (2), .int 0, .ref q3, .ref q9, .int 0, .ref q15, .ref q21, .null]) (by decide) f23 rfl TBi_X2 tyX2 tyX2_ok nmX2 6 (by decide) tw_150 rfl rfl hin rfl rfl rfl rfl (Nat.le_of_ble_eq_true rfl) rfl dX2_init_38 (fun P25 eP25 H locs hP hD hS => ?_)
  have f26 : P25 89 = (a, .inr (2, [.int (2), .int 0, .ref q3, .ref q9, .int 0, .ref q15, .ref q21, .null])) := by rw [eP25, va_up_self]
  refine lv_aload_n hx hb dX2_init_41 rfl (lv_at hl 0 rfl) ?_
  refine lv_bipush (v := (100)) hx hb dX2_init_42 (by decide) ?_
  refine xn_newaI hB hK h0 hS hP hD (n := 100) tw_59 (by decide) (by decide) (by decide) (Nat.le_of_ble_eq_true rfl) (Nat.le_of_ble_eq_true rfl) dX2_init_44 (fun q27 P28 eP28 H hP hD hS => ?_)
  have f29 : P28 89 = (a, .inr (2, [.int (2), .int 0, .ref q3, .ref q9, .int 0, .ref q15, .ref q21, .null])) := by rw [eP28, va_up_ne _ _ (by decide)]; exact f26
  have f30 : P28 94 = (q27, .inl (xw_q G 0, 100, .inl (fun _ => 0))) := by rw [eP28, va_up_self]
  refine xn_putF hB hK h0 hS hP hD (ci := 2) (k := 89) (C := RX2) (T := TX2) (Nf := 8) (fs' := [.int (2), .int 0, .ref q3, .ref q9, .int 0, .ref q15, .ref q21, .ref q27]) (by decide) f29 rfl TBi_X2 tyX2 tyX2_ok nmX2 7 (by decide) tw_151 rfl rfl hin rfl rfl rfl rfl (Nat.le_of_ble_eq_true rfl) rfl dX2_init_46 (fun P31 eP31 H locs hP hD hS => ?_)
  have f32 : P31 89 = (a, .inr (2, [.int (2), .int 0, .ref q3, .ref q9, .int 0, .ref q15, .ref q21, .ref q27])) := by rw [eP31, va_up_self]
  have z33 : P31 90 = (q3, .inl (xw_q G 0, 10, .inl (fun _ => 0))) := by rw [eP31, va_up_ne _ _ (by decide), eP28, va_up_ne _ _ (by decide), eP25, va_up_ne _ _ (by decide), eP22, va_up_ne _ _ (by decide), eP19, va_up_ne _ _ (by decide), eP16, va_up_ne _ _ (by decide), eP13, va_up_ne _ _ (by decide), eP10, va_up_ne _ _ (by decide), eP7, va_up_ne _ _ (by decide)]; exact f6
  have z34 : P31 91 = (q9, .inl (xw_q G 0, 10, .inl (fun _ => 0))) := by rw [eP31, va_up_ne _ _ (by decide), eP28, va_up_ne _ _ (by decide), eP25, va_up_ne _ _ (by decide), eP22, va_up_ne _ _ (by decide), eP19, va_up_ne _ _ (by decide), eP16, va_up_ne _ _ (by decide), eP13, va_up_ne _ _ (by decide)]; exact f12
  have z35 : P31 92 = (q15, .inl (xw_q G 0, 100, .inl (fun _ => 0))) := by rw [eP31, va_up_ne _ _ (by decide), eP28, va_up_ne _ _ (by decide), eP25, va_up_ne _ _ (by decide), eP22, va_up_ne _ _ (by decide), eP19, va_up_ne _ _ (by decide)]; exact f18
  have z36 : P31 93 = (q21, .inl (xw_q G 0, 100, .inl (fun _ => 0))) := by rw [eP31, va_up_ne _ _ (by decide), eP28, va_up_ne _ _ (by decide), eP25, va_up_ne _ _ (by decide)]; exact f24
  have z37 : P31 94 = (q27, .inl (xw_q G 0, 100, .inl (fun _ => 0))) := by rw [eP31, va_up_ne _ _ (by decide)]; exact f30
  obtain ⟨qq, hqq⟩ : ∃ z : Nat → Nat, z = fun k => if k < 89 then (P k).1 else if k < 90 then a else if k < 91 then q3 else if k < 92 then q9 else if k < 93 then q15 else if k < 94 then q21 else q27 := ⟨_, rfl⟩
  refine xn_ret hB hK h0 hS hP hD hE hO hr hlk ⟨qq, fun k hk => ⟨?_, ?_⟩, by rw [hqq]; rfl, fun k hk1 hk2 => ?_⟩ (Nat.le_of_ble_eq_true rfl) (Nat.le_of_ble_eq_true rfl) dX2_init_49
  · rw [eP31, va_up_ne _ _ (by omega), eP28, va_up_ne _ _ (by omega), eP25, va_up_ne _ _ (by omega), eP22, va_up_ne _ _ (by omega), eP19, va_up_ne _ _ (by omega), eP16, va_up_ne _ _ (by omega), eP13, va_up_ne _ _ (by omega), eP10, va_up_ne _ _ (by omega), eP7, va_up_ne _ _ (by omega), eP4, va_up_ne _ _ (by omega), eP1, va_up_ne _ _ (by omega)]
  · rw [hqq]; exact if_pos hk
  · rcases (show k = 89 ∨ k = 90 ∨ k = 91 ∨ k = 92 ∨ k = 93 ∨ k = 94 by omega) with rfl | rfl | rfl | rfl | rfl | rfl
    · rw [f32, hqq]; rfl
    · rw [z33, hqq]; rfl
    · rw [z34, hqq]; rfl
    · rw [z35, hqq]; rfl
    · rw [z36, hqq]; rfl
    · rw [z37, hqq]; rfl
set_option maxHeartbeats 8000000 in
set_option maxRecDepth 100000 in
theorem iX2_95 (l : Launch) (G : xw_G) (P : Nat → Nat × va_E) (a : Nat) (hP0 : P 95 = (a, .inr (2, [.int 0, .int 0, .null, .null, .int 0, .null, .null, .null]))) : xn_T l G yX2_init cX2_init 1 1 12 5 320 [.ref a] 96 P 101 (fun u => ∃ q : Nat → Nat, (∀ k, k < 95 → u k = P k ∧ q k = (P k).1) ∧ q 95 = a ∧ ∀ k, 95 ≤ k → k < 101 → u k = (q k, xw_cell (xn_G G q) k (xn_m0.1 k) (xn_m0.2 k))) := by
  unfold xn_T
  refine Met.ofW (cc := cX2_init) (maxL := 1) (ret := none) (by decide) rfl ?_
  intro p e s m args below meth c s₁ B hml hv
  obtain ⟨hargs, hP, hK, hD, hE, hO, h0⟩ := hv
  have hx := B.exec
  have hb := B.bytes
  have hr := B.returns
  have hlk := B.notSynchronized
  have hin : meth.name = "<init>" := (name_of_methodNamed B.named B.method).1
  have hB : CallFix p m c cX2_init 1 s args TB RX2 := ⟨hx, hb, hml, findClass_of_methodNamed B.named, fun q h => (atoms_spec (ws := Cond.code yX2_init cX2_init 1 none :: TB) B.pre) q (List.mem_cons_of_mem _ h)⟩
  have hS : va_S (xw_A G) s.heap s.heap [] := va_S.rf
  have hl := lv_entry [.ref a] (n := 1) (Nat.le_of_ble_eq_true rfl)
  rw [show entryFrame m args 1 = entryFrame m ([.ref a] : List Value).toArray 1 from by rw [hargs], lg_entry_eq]
  generalize (lg_sl [.ref a] ++ List.replicate (1 - (lg_sl [.ref a]).length) Slot.unset).toArray = ls at hl ⊢
  have hl : lv_has ls 1 [(0, .ref a)] := hl
  skip
  refine lv_aload_n hx hb dX2_init_0 rfl (lv_at hl 0 rfl) ?_
  refine xn_obj hB tn_X2_obj tn_objI tn_objC hl.1 dX2_init_1 (Nat.le_of_ble_eq_true rfl) (Nat.le_of_ble_eq_true rfl) ?_
  refine lv_aload_n hx hb dX2_init_4 rfl (lv_at hl 0 rfl) ?_
  refine lv_iconst (v := (2)) hx hb dX2_init_5 (by decide) ?_
  refine xn_put hB hK h0 hS hP hD (ci := 2) (k := 95) (C := RX2) (T := TX2) (Nf := 8) (fs' := [.int (2), .int 0, .null, .null, .int 0, .null, .null, .null]) (by decide) hP0 rfl TBi_X2 tyX2 tyX2_ok nmX2 0 (by decide) tw_142 rfl rfl rfl rfl rfl (Nat.le_of_ble_eq_true rfl) rfl dX2_init_6 (fun P1 eP1 H locs hP hD hS => ?_)
  have f2 : P1 95 = (a, .inr (2, [.int (2), .int 0, .null, .null, .int 0, .null, .null, .null])) := by rw [eP1, va_up_self]
  refine lv_aload_n hx hb dX2_init_9 rfl (lv_at hl 0 rfl) ?_
  refine lv_bipush (v := (10)) hx hb dX2_init_10 (by decide) ?_
  refine xn_newaI hB hK h0 hS hP hD (n := 10) tw_59 (by decide) (by decide) (by decide) (Nat.le_of_ble_eq_true rfl) (Nat.le_of_ble_eq_true rfl) dX2_init_12 (fun q3 P4 eP4 H hP hD hS => ?_)
  have f5 : P4 95 = (a, .inr (2, [.int (2), .int 0, .null, .null, .int 0, .null, .null, .null])) := by rw [eP4, va_up_ne _ _ (by decide)]; exact f2
  have f6 : P4 96 = (q3, .inl (xw_q G 0, 10, .inl (fun _ => 0))) := by rw [eP4, va_up_self]
  refine xn_putF hB hK h0 hS hP hD (ci := 2) (k := 95) (C := RX2) (T := TX2) (Nf := 8) (fs' := [.int (2), .int 0, .ref q3, .null, .int 0, .null, .null, .null]) (by decide) f5 rfl TBi_X2 tyX2 tyX2_ok nmX2 2 (by decide) tw_146 rfl rfl hin rfl rfl rfl rfl (Nat.le_of_ble_eq_true rfl) rfl dX2_init_14 (fun P7 eP7 H locs hP hD hS => ?_)
  have f8 : P7 95 = (a, .inr (2, [.int (2), .int 0, .ref q3, .null, .int 0, .null, .null, .null])) := by rw [eP7, va_up_self]
  refine lv_aload_n hx hb dX2_init_17 rfl (lv_at hl 0 rfl) ?_
  refine lv_bipush (v := (10)) hx hb dX2_init_18 (by decide) ?_
  refine xn_newaI hB hK h0 hS hP hD (n := 10) tw_59 (by decide) (by decide) (by decide) (Nat.le_of_ble_eq_true rfl) (Nat.le_of_ble_eq_true rfl) dX2_init_20 (fun q9 P10 eP10 H hP hD hS => ?_)
  have f11 : P10 95 = (a, .inr (2, [.int (2), .int 0, .ref q3, .null, .int 0, .null, .null, .null])) := by rw [eP10, va_up_ne _ _ (by decide)]; exact f8
  have f12 : P10 97 = (q9, .inl (xw_q G 0, 10, .inl (fun _ => 0))) := by rw [eP10, va_up_self]
  refine xn_putF hB hK h0 hS hP hD (ci := 2) (k := 95) (C := RX2) (T := TX2) (Nf := 8) (fs' := [.int (2), .int 0, .ref q3, .ref q9, .int 0, .null, .null, .null]) (by decide) f11 rfl TBi_X2 tyX2 tyX2_ok nmX2 3 (by decide) tw_147 rfl rfl hin rfl rfl rfl rfl (Nat.le_of_ble_eq_true rfl) rfl dX2_init_22 (fun P13 eP13 H locs hP hD hS => ?_)
  have f14 : P13 95 = (a, .inr (2, [.int (2), .int 0, .ref q3, .ref q9, .int 0, .null, .null, .null])) := by rw [eP13, va_up_self]
  refine lv_aload_n hx hb dX2_init_25 rfl (lv_at hl 0 rfl) ?_
  refine lv_bipush (v := (100)) hx hb dX2_init_26 (by decide) ?_
  refine xn_newaI hB hK h0 hS hP hD (n := 100) tw_59 (by decide) (by decide) (by decide) (Nat.le_of_ble_eq_true rfl) (Nat.le_of_ble_eq_true rfl) dX2_init_28 (fun q15 P16 eP16 H hP hD hS => ?_)
  have f17 : P16 95 = (a, .inr (2, [.int (2), .int 0, .ref q3, .ref q9, .int 0, .null, .null, .null])) := by rw [eP16, va_up_ne _ _ (by decide)]; exact f14
  have f18 : P16 98 = (q15, .inl (xw_q G 0, 100, .inl (fun _ => 0))) := by rw [eP16, va_up_self]
  refine xn_putF hB hK h0 hS hP hD (ci := 2) (k := 95) (C := RX2) (T := TX2) (Nf := 8) (fs' := [.int (2), .int 0, .ref q3, .ref q9, .int 0, .ref q15, .null, .null]) (by decide) f17 rfl TBi_X2 tyX2 tyX2_ok nmX2 5 (by decide) tw_149 rfl rfl hin rfl rfl rfl rfl (Nat.le_of_ble_eq_true rfl) rfl dX2_init_30 (fun P19 eP19 H locs hP hD hS => ?_)
  have f20 : P19 95 = (a, .inr (2, [.int (2), .int 0, .ref q3, .ref q9, .int 0, .ref q15, .null, .null])) := by rw [eP19, va_up_self]
  refine lv_aload_n hx hb dX2_init_33 rfl (lv_at hl 0 rfl) ?_
  refine lv_bipush (v := (100)) hx hb dX2_init_34 (by decide) ?_
  refine xn_newaI hB hK h0 hS hP hD (n := 100) tw_59 (by decide) (by decide) (by decide) (Nat.le_of_ble_eq_true rfl) (Nat.le_of_ble_eq_true rfl) dX2_init_36 (fun q21 P22 eP22 H hP hD hS => ?_)
  have f23 : P22 95 = (a, .inr (2, [.int (2), .int 0, .ref q3, .ref q9, .int 0, .ref q15, .null, .null])) := by rw [eP22, va_up_ne _ _ (by decide)]; exact f20
  have f24 : P22 99 = (q21, .inl (xw_q G 0, 100, .inl (fun _ => 0))) := by rw [eP22, va_up_self]
  refine xn_putF hB hK h0 hS hP hD (ci := 2) (k := 95) (C := RX2) (T := TX2) (Nf := 8) (fs' := [.int (2), .int 0, .ref q3, .ref q9, .int 0, .ref q15, .ref q21, .null]) (by decide) f23 rfl TBi_X2 tyX2 tyX2_ok nmX2 6 (by decide) tw_150 rfl rfl hin rfl rfl rfl rfl (Nat.le_of_ble_eq_true rfl) rfl dX2_init_38 (fun P25 eP25 H locs hP hD hS => ?_)
  have f26 : P25 95 = (a, .inr (2, [.int (2), .int 0, .ref q3, .ref q9, .int 0, .ref q15, .ref q21, .null])) := by rw [eP25, va_up_self]
  refine lv_aload_n hx hb dX2_init_41 rfl (lv_at hl 0 rfl) ?_
  refine lv_bipush (v := (100)) hx hb dX2_init_42 (by decide) ?_
  refine xn_newaI hB hK h0 hS hP hD (n := 100) tw_59 (by decide) (by decide) (by decide) (Nat.le_of_ble_eq_true rfl) (Nat.le_of_ble_eq_true rfl) dX2_init_44 (fun q27 P28 eP28 H hP hD hS => ?_)
  have f29 : P28 95 = (a, .inr (2, [.int (2), .int 0, .ref q3, .ref q9, .int 0, .ref q15, .ref q21, .null])) := by rw [eP28, va_up_ne _ _ (by decide)]; exact f26
  have f30 : P28 100 = (q27, .inl (xw_q G 0, 100, .inl (fun _ => 0))) := by rw [eP28, va_up_self]
  refine xn_putF hB hK h0 hS hP hD (ci := 2) (k := 95) (C := RX2) (T := TX2) (Nf := 8) (fs' := [.int (2), .int 0, .ref q3, .ref q9, .int 0, .ref q15, .ref q21, .ref q27]) (by decide) f29 rfl TBi_X2 tyX2 tyX2_ok nmX2 7 (by decide) tw_151 rfl rfl hin rfl rfl rfl rfl (Nat.le_of_ble_eq_true rfl) rfl dX2_init_46 (fun P31 eP31 H locs hP hD hS => ?_)
  have f32 : P31 95 = (a, .inr (2, [.int (2), .int 0, .ref q3, .ref q9, .int 0, .ref q15, .ref q21, .ref q27])) := by rw [eP31, va_up_self]
  have z33 : P31 96 = (q3, .inl (xw_q G 0, 10, .inl (fun _ => 0))) := by rw [eP31, va_up_ne _ _ (by decide), eP28, va_up_ne _ _ (by decide), eP25, va_up_ne _ _ (by decide), eP22, va_up_ne _ _ (by decide), eP19, va_up_ne _ _ (by decide), eP16, va_up_ne _ _ (by decide), eP13, va_up_ne _ _ (by decide), eP10, va_up_ne _ _ (by decide), eP7, va_up_ne _ _ (by decide)]; exact f6
  have z34 : P31 97 = (q9, .inl (xw_q G 0, 10, .inl (fun _ => 0))) := by rw [eP31, va_up_ne _ _ (by decide), eP28, va_up_ne _ _ (by decide), eP25, va_up_ne _ _ (by decide), eP22, va_up_ne _ _ (by decide), eP19, va_up_ne _ _ (by decide), eP16, va_up_ne _ _ (by decide), eP13, va_up_ne _ _ (by decide)]; exact f12
  have z35 : P31 98 = (q15, .inl (xw_q G 0, 100, .inl (fun _ => 0))) := by rw [eP31, va_up_ne _ _ (by decide), eP28, va_up_ne _ _ (by decide), eP25, va_up_ne _ _ (by decide), eP22, va_up_ne _ _ (by decide), eP19, va_up_ne _ _ (by decide)]; exact f18
  have z36 : P31 99 = (q21, .inl (xw_q G 0, 100, .inl (fun _ => 0))) := by rw [eP31, va_up_ne _ _ (by decide), eP28, va_up_ne _ _ (by decide), eP25, va_up_ne _ _ (by decide)]; exact f24
  have z37 : P31 100 = (q27, .inl (xw_q G 0, 100, .inl (fun _ => 0))) := by rw [eP31, va_up_ne _ _ (by decide)]; exact f30
  obtain ⟨qq, hqq⟩ : ∃ z : Nat → Nat, z = fun k => if k < 95 then (P k).1 else if k < 96 then a else if k < 97 then q3 else if k < 98 then q9 else if k < 99 then q15 else if k < 100 then q21 else q27 := ⟨_, rfl⟩
  refine xn_ret hB hK h0 hS hP hD hE hO hr hlk ⟨qq, fun k hk => ⟨?_, ?_⟩, by rw [hqq]; rfl, fun k hk1 hk2 => ?_⟩ (Nat.le_of_ble_eq_true rfl) (Nat.le_of_ble_eq_true rfl) dX2_init_49
  · rw [eP31, va_up_ne _ _ (by omega), eP28, va_up_ne _ _ (by omega), eP25, va_up_ne _ _ (by omega), eP22, va_up_ne _ _ (by omega), eP19, va_up_ne _ _ (by omega), eP16, va_up_ne _ _ (by omega), eP13, va_up_ne _ _ (by omega), eP10, va_up_ne _ _ (by omega), eP7, va_up_ne _ _ (by omega), eP4, va_up_ne _ _ (by omega), eP1, va_up_ne _ _ (by omega)]
  · rw [hqq]; exact if_pos hk
  · rcases (show k = 95 ∨ k = 96 ∨ k = 97 ∨ k = 98 ∨ k = 99 ∨ k = 100 by omega) with rfl | rfl | rfl | rfl | rfl | rfl
    · rw [f32, hqq]; rfl
    · rw [z33, hqq]; rfl
    · rw [z34, hqq]; rfl
    · rw [z35, hqq]; rfl
    · rw [z36, hqq]; rfl
    · rw [z37, hqq]; rfl
set_option maxHeartbeats 8000000 in
set_option maxRecDepth 100000 in
theorem iX2_101 (l : Launch) (G : xw_G) (P : Nat → Nat × va_E) (a : Nat) (hP0 : P 101 = (a, .inr (2, [.int 0, .int 0, .null, .null, .int 0, .null, .null, .null]))) : xn_T l G yX2_init cX2_init 1 1 12 5 320 [.ref a] 102 P 107 (fun u => ∃ q : Nat → Nat, (∀ k, k < 101 → u k = P k ∧ q k = (P k).1) ∧ q 101 = a ∧ ∀ k, 101 ≤ k → k < 107 → u k = (q k, xw_cell (xn_G G q) k (xn_m0.1 k) (xn_m0.2 k))) := by
  unfold xn_T
  refine Met.ofW (cc := cX2_init) (maxL := 1) (ret := none) (by decide) rfl ?_
  intro p e s m args below meth c s₁ B hml hv
  obtain ⟨hargs, hP, hK, hD, hE, hO, h0⟩ := hv
  have hx := B.exec
  have hb := B.bytes
  have hr := B.returns
  have hlk := B.notSynchronized
  have hin : meth.name = "<init>" := (name_of_methodNamed B.named B.method).1
  have hB : CallFix p m c cX2_init 1 s args TB RX2 := ⟨hx, hb, hml, findClass_of_methodNamed B.named, fun q h => (atoms_spec (ws := Cond.code yX2_init cX2_init 1 none :: TB) B.pre) q (List.mem_cons_of_mem _ h)⟩
  have hS : va_S (xw_A G) s.heap s.heap [] := va_S.rf
  have hl := lv_entry [.ref a] (n := 1) (Nat.le_of_ble_eq_true rfl)
  rw [show entryFrame m args 1 = entryFrame m ([.ref a] : List Value).toArray 1 from by rw [hargs], lg_entry_eq]
  generalize (lg_sl [.ref a] ++ List.replicate (1 - (lg_sl [.ref a]).length) Slot.unset).toArray = ls at hl ⊢
  have hl : lv_has ls 1 [(0, .ref a)] := hl
  skip
  refine lv_aload_n hx hb dX2_init_0 rfl (lv_at hl 0 rfl) ?_
  refine xn_obj hB tn_X2_obj tn_objI tn_objC hl.1 dX2_init_1 (Nat.le_of_ble_eq_true rfl) (Nat.le_of_ble_eq_true rfl) ?_
  refine lv_aload_n hx hb dX2_init_4 rfl (lv_at hl 0 rfl) ?_
  refine lv_iconst (v := (2)) hx hb dX2_init_5 (by decide) ?_
  refine xn_put hB hK h0 hS hP hD (ci := 2) (k := 101) (C := RX2) (T := TX2) (Nf := 8) (fs' := [.int (2), .int 0, .null, .null, .int 0, .null, .null, .null]) (by decide) hP0 rfl TBi_X2 tyX2 tyX2_ok nmX2 0 (by decide) tw_142 rfl rfl rfl rfl rfl (Nat.le_of_ble_eq_true rfl) rfl dX2_init_6 (fun P1 eP1 H locs hP hD hS => ?_)
  have f2 : P1 101 = (a, .inr (2, [.int (2), .int 0, .null, .null, .int 0, .null, .null, .null])) := by rw [eP1, va_up_self]
  refine lv_aload_n hx hb dX2_init_9 rfl (lv_at hl 0 rfl) ?_
  refine lv_bipush (v := (10)) hx hb dX2_init_10 (by decide) ?_
  refine xn_newaI hB hK h0 hS hP hD (n := 10) tw_59 (by decide) (by decide) (by decide) (Nat.le_of_ble_eq_true rfl) (Nat.le_of_ble_eq_true rfl) dX2_init_12 (fun q3 P4 eP4 H hP hD hS => ?_)
  have f5 : P4 101 = (a, .inr (2, [.int (2), .int 0, .null, .null, .int 0, .null, .null, .null])) := by rw [eP4, va_up_ne _ _ (by decide)]; exact f2
  have f6 : P4 102 = (q3, .inl (xw_q G 0, 10, .inl (fun _ => 0))) := by rw [eP4, va_up_self]
  refine xn_putF hB hK h0 hS hP hD (ci := 2) (k := 101) (C := RX2) (T := TX2) (Nf := 8) (fs' := [.int (2), .int 0, .ref q3, .null, .int 0, .null, .null, .null]) (by decide) f5 rfl TBi_X2 tyX2 tyX2_ok nmX2 2 (by decide) tw_146 rfl rfl hin rfl rfl rfl rfl (Nat.le_of_ble_eq_true rfl) rfl dX2_init_14 (fun P7 eP7 H locs hP hD hS => ?_)
  have f8 : P7 101 = (a, .inr (2, [.int (2), .int 0, .ref q3, .null, .int 0, .null, .null, .null])) := by rw [eP7, va_up_self]
  refine lv_aload_n hx hb dX2_init_17 rfl (lv_at hl 0 rfl) ?_
  refine lv_bipush (v := (10)) hx hb dX2_init_18 (by decide) ?_
  refine xn_newaI hB hK h0 hS hP hD (n := 10) tw_59 (by decide) (by decide) (by decide) (Nat.le_of_ble_eq_true rfl) (Nat.le_of_ble_eq_true rfl) dX2_init_20 (fun q9 P10 eP10 H hP hD hS => ?_)
  have f11 : P10 101 = (a, .inr (2, [.int (2), .int 0, .ref q3, .null, .int 0, .null, .null, .null])) := by rw [eP10, va_up_ne _ _ (by decide)]; exact f8
  have f12 : P10 103 = (q9, .inl (xw_q G 0, 10, .inl (fun _ => 0))) := by rw [eP10, va_up_self]
  refine xn_putF hB hK h0 hS hP hD (ci := 2) (k := 101) (C := RX2) (T := TX2) (Nf := 8) (fs' := [.int (2), .int 0, .ref q3, .ref q9, .int 0, .null, .null, .null]) (by decide) f11 rfl TBi_X2 tyX2 tyX2_ok nmX2 3 (by decide) tw_147 rfl rfl hin rfl rfl rfl rfl (Nat.le_of_ble_eq_true rfl) rfl dX2_init_22 (fun P13 eP13 H locs hP hD hS => ?_)
  have f14 : P13 101 = (a, .inr (2, [.int (2), .int 0, .ref q3, .ref q9, .int 0, .null, .null, .null])) := by rw [eP13, va_up_self]
  refine lv_aload_n hx hb dX2_init_25 rfl (lv_at hl 0 rfl) ?_
  refine lv_bipush (v := (100)) hx hb dX2_init_26 (by decide) ?_
  refine xn_newaI hB hK h0 hS hP hD (n := 100) tw_59 (by decide) (by decide) (by decide) (Nat.le_of_ble_eq_true rfl) (Nat.le_of_ble_eq_true rfl) dX2_init_28 (fun q15 P16 eP16 H hP hD hS => ?_)
  have f17 : P16 101 = (a, .inr (2, [.int (2), .int 0, .ref q3, .ref q9, .int 0, .null, .null, .null])) := by rw [eP16, va_up_ne _ _ (by decide)]; exact f14
  have f18 : P16 104 = (q15, .inl (xw_q G 0, 100, .inl (fun _ => 0))) := by rw [eP16, va_up_self]
  refine xn_putF hB hK h0 hS hP hD (ci := 2) (k := 101) (C := RX2) (T := TX2) (Nf := 8) (fs' := [.int (2), .int 0, .ref q3, .ref q9, .int 0, .ref q15, .null, .null]) (by decide) f17 rfl TBi_X2 tyX2 tyX2_ok nmX2 5 (by decide) tw_149 rfl rfl hin rfl rfl rfl rfl (Nat.le_of_ble_eq_true rfl) rfl dX2_init_30 (fun P19 eP19 H locs hP hD hS => ?_)
  have f20 : P19 101 = (a, .inr (2, [.int (2), .int 0, .ref q3, .ref q9, .int 0, .ref q15, .null, .null])) := by rw [eP19, va_up_self]
  refine lv_aload_n hx hb dX2_init_33 rfl (lv_at hl 0 rfl) ?_
  refine lv_bipush (v := (100)) hx hb dX2_init_34 (by decide) ?_
  refine xn_newaI hB hK h0 hS hP hD (n := 100) tw_59 (by decide) (by decide) (by decide) (Nat.le_of_ble_eq_true rfl) (Nat.le_of_ble_eq_true rfl) dX2_init_36 (fun q21 P22 eP22 H hP hD hS => ?_)
  have f23 : P22 101 = (a, .inr (2, [.int (2), .int 0, .ref q3, .ref q9, .int 0, .ref q15, .null, .null])) := by rw [eP22, va_up_ne _ _ (by decide)]; exact f20
  have f24 : P22 105 = (q21, .inl (xw_q G 0, 100, .inl (fun _ => 0))) := by rw [eP22, va_up_self]
  refine xn_putF hB hK h0 hS hP hD (ci := 2) (k := 101) (C := RX2) (T := TX2) (Nf := 8) (fs' := [.int (2), .int 0, .ref q3, .ref q9, .int 0, .ref q15, .ref q21, .null]) (by decide) f23 rfl TBi_X2 tyX2 tyX2_ok nmX2 6 (by decide) tw_150 rfl rfl hin rfl rfl rfl rfl (Nat.le_of_ble_eq_true rfl) rfl dX2_init_38 (fun P25 eP25 H locs hP hD hS => ?_)
  have f26 : P25 101 = (a, .inr (2, [.int (2), .int 0, .ref q3, .ref q9, .int 0, .ref q15, .ref q21, .null])) := by rw [eP25, va_up_self]
  refine lv_aload_n hx hb dX2_init_41 rfl (lv_at hl 0 rfl) ?_
  refine lv_bipush (v := (100)) hx hb dX2_init_42 (by decide) ?_
  refine xn_newaI hB hK h0 hS hP hD (n := 100) tw_59 (by decide) (by decide) (by decide) (Nat.le_of_ble_eq_true rfl) (Nat.le_of_ble_eq_true rfl) dX2_init_44 (fun q27 P28 eP28 H hP hD hS => ?_)
  have f29 : P28 101 = (a, .inr (2, [.int (2), .int 0, .ref q3, .ref q9, .int 0, .ref q15, .ref q21, .null])) := by rw [eP28, va_up_ne _ _ (by decide)]; exact f26
  have f30 : P28 106 = (q27, .inl (xw_q G 0, 100, .inl (fun _ => 0))) := by rw [eP28, va_up_self]
  refine xn_putF hB hK h0 hS hP hD (ci := 2) (k := 101) (C := RX2) (T := TX2) (Nf := 8) (fs' := [.int (2), .int 0, .ref q3, .ref q9, .int 0, .ref q15, .ref q21, .ref q27]) (by decide) f29 rfl TBi_X2 tyX2 tyX2_ok nmX2 7 (by decide) tw_151 rfl rfl hin rfl rfl rfl rfl (Nat.le_of_ble_eq_true rfl) rfl dX2_init_46 (fun P31 eP31 H locs hP hD hS => ?_)
  have f32 : P31 101 = (a, .inr (2, [.int (2), .int 0, .ref q3, .ref q9, .int 0, .ref q15, .ref q21, .ref q27])) := by rw [eP31, va_up_self]
  have z33 : P31 102 = (q3, .inl (xw_q G 0, 10, .inl (fun _ => 0))) := by rw [eP31, va_up_ne _ _ (by decide), eP28, va_up_ne _ _ (by decide), eP25, va_up_ne _ _ (by decide), eP22, va_up_ne _ _ (by decide), eP19, va_up_ne _ _ (by decide), eP16, va_up_ne _ _ (by decide), eP13, va_up_ne _ _ (by decide), eP10, va_up_ne _ _ (by decide), eP7, va_up_ne _ _ (by decide)]; exact f6
  have z34 : P31 103 = (q9, .inl (xw_q G 0, 10, .inl (fun _ => 0))) := by rw [eP31, va_up_ne _ _ (by decide), eP28, va_up_ne _ _ (by decide), eP25, va_up_ne _ _ (by decide), eP22, va_up_ne _ _ (by decide), eP19, va_up_ne _ _ (by decide), eP16, va_up_ne _ _ (by decide), eP13, va_up_ne _ _ (by decide)]; exact f12
  have z35 : P31 104 = (q15, .inl (xw_q G 0, 100, .inl (fun _ => 0))) := by rw [eP31, va_up_ne _ _ (by decide), eP28, va_up_ne _ _ (by decide), eP25, va_up_ne _ _ (by decide), eP22, va_up_ne _ _ (by decide), eP19, va_up_ne _ _ (by decide)]; exact f18
  have z36 : P31 105 = (q21, .inl (xw_q G 0, 100, .inl (fun _ => 0))) := by rw [eP31, va_up_ne _ _ (by decide), eP28, va_up_ne _ _ (by decide), eP25, va_up_ne _ _ (by decide)]; exact f24
  have z37 : P31 106 = (q27, .inl (xw_q G 0, 100, .inl (fun _ => 0))) := by rw [eP31, va_up_ne _ _ (by decide)]; exact f30
  obtain ⟨qq, hqq⟩ : ∃ z : Nat → Nat, z = fun k => if k < 101 then (P k).1 else if k < 102 then a else if k < 103 then q3 else if k < 104 then q9 else if k < 105 then q15 else if k < 106 then q21 else q27 := ⟨_, rfl⟩
  refine xn_ret hB hK h0 hS hP hD hE hO hr hlk ⟨qq, fun k hk => ⟨?_, ?_⟩, by rw [hqq]; rfl, fun k hk1 hk2 => ?_⟩ (Nat.le_of_ble_eq_true rfl) (Nat.le_of_ble_eq_true rfl) dX2_init_49
  · rw [eP31, va_up_ne _ _ (by omega), eP28, va_up_ne _ _ (by omega), eP25, va_up_ne _ _ (by omega), eP22, va_up_ne _ _ (by omega), eP19, va_up_ne _ _ (by omega), eP16, va_up_ne _ _ (by omega), eP13, va_up_ne _ _ (by omega), eP10, va_up_ne _ _ (by omega), eP7, va_up_ne _ _ (by omega), eP4, va_up_ne _ _ (by omega), eP1, va_up_ne _ _ (by omega)]
  · rw [hqq]; exact if_pos hk
  · rcases (show k = 101 ∨ k = 102 ∨ k = 103 ∨ k = 104 ∨ k = 105 ∨ k = 106 by omega) with rfl | rfl | rfl | rfl | rfl | rfl
    · rw [f32, hqq]; rfl
    · rw [z33, hqq]; rfl
    · rw [z34, hqq]; rfl
    · rw [z35, hqq]; rfl
    · rw [z36, hqq]; rfl
    · rw [z37, hqq]; rfl
set_option maxHeartbeats 8000000 in
set_option maxRecDepth 100000 in
theorem iX6_107 (l : Launch) (G : xw_G) (P : Nat → Nat × va_E) (a : Nat) (hP0 : P 107 = (a, .inr (6, [.int 0, .int 0, .null]))) : xn_T l G yX6_init cX6_init 1 1 12 1 60 [.ref a] 108 P 109 (fun u => ∃ q : Nat → Nat, (∀ k, k < 107 → u k = P k ∧ q k = (P k).1) ∧ q 107 = a ∧ ∀ k, 107 ≤ k → k < 109 → u k = (q k, xw_cell (xn_G G q) k (xn_m0.1 k) (xn_m0.2 k))) := by
  unfold xn_T
  refine Met.ofW (cc := cX6_init) (maxL := 1) (ret := none) (by decide) rfl ?_
  intro p e s m args below meth c s₁ B hml hv
  obtain ⟨hargs, hP, hK, hD, hE, hO, h0⟩ := hv
  have hx := B.exec
  have hb := B.bytes
  have hr := B.returns
  have hlk := B.notSynchronized
  have hin : meth.name = "<init>" := (name_of_methodNamed B.named B.method).1
  have hB : CallFix p m c cX6_init 1 s args TB RX6 := ⟨hx, hb, hml, findClass_of_methodNamed B.named, fun q h => (atoms_spec (ws := Cond.code yX6_init cX6_init 1 none :: TB) B.pre) q (List.mem_cons_of_mem _ h)⟩
  have hS : va_S (xw_A G) s.heap s.heap [] := va_S.rf
  have hl := lv_entry [.ref a] (n := 1) (Nat.le_of_ble_eq_true rfl)
  rw [show entryFrame m args 1 = entryFrame m ([.ref a] : List Value).toArray 1 from by rw [hargs], lg_entry_eq]
  generalize (lg_sl [.ref a] ++ List.replicate (1 - (lg_sl [.ref a]).length) Slot.unset).toArray = ls at hl ⊢
  have hl : lv_has ls 1 [(0, .ref a)] := hl
  skip
  refine lv_aload_n hx hb dX6_init_0 rfl (lv_at hl 0 rfl) ?_
  refine xn_obj hB tn_X6_obj tn_objI tn_objC hl.1 dX6_init_1 (Nat.le_of_ble_eq_true rfl) (Nat.le_of_ble_eq_true rfl) ?_
  refine lv_aload_n hx hb dX6_init_4 rfl (lv_at hl 0 rfl) ?_
  refine lv_iconst (v := (-1)) hx hb dX6_init_5 (by decide) ?_
  refine xn_put hB hK h0 hS hP hD (ci := 6) (k := 107) (C := RX6) (T := TX6) (Nf := 3) (fs' := [.int (-1), .int 0, .null]) (by decide) hP0 rfl TBi_X6 tyX6 tyX6_ok nmX6 0 (by decide) tw_241 rfl rfl rfl rfl rfl (Nat.le_of_ble_eq_true rfl) rfl dX6_init_6 (fun P1 eP1 H locs hP hD hS => ?_)
  have f2 : P1 107 = (a, .inr (6, [.int (-1), .int 0, .null])) := by rw [eP1, va_up_self]
  refine lv_aload_n hx hb dX6_init_9 rfl (lv_at hl 0 rfl) ?_
  refine lv_bipush (v := (60)) hx hb dX6_init_10 (by decide) ?_
  refine xn_newaJ hB hK h0 hS hP hD (n := 60) tw_254 (by decide) (by decide) (by decide) (Nat.le_of_ble_eq_true rfl) (Nat.le_of_ble_eq_true rfl) dX6_init_12 (fun q3 P4 eP4 H hP hD hS => ?_)
  have f5 : P4 107 = (a, .inr (6, [.int (-1), .int 0, .null])) := by rw [eP4, va_up_ne _ _ (by decide)]; exact f2
  have f6 : P4 108 = (q3, .inl (xw_q G 3, 60, .inr (.inl (fun _ => 0)))) := by rw [eP4, va_up_self]
  refine xn_putF hB hK h0 hS hP hD (ci := 6) (k := 107) (C := RX6) (T := TX6) (Nf := 3) (fs' := [.int (-1), .int 0, .ref q3]) (by decide) f5 rfl TBi_X6 tyX6 tyX6_ok nmX6 2 (by decide) tw_245 rfl rfl hin rfl rfl rfl rfl (Nat.le_of_ble_eq_true rfl) rfl dX6_init_14 (fun P7 eP7 H locs hP hD hS => ?_)
  have f8 : P7 107 = (a, .inr (6, [.int (-1), .int 0, .ref q3])) := by rw [eP7, va_up_self]
  have z9 : P7 108 = (q3, .inl (xw_q G 3, 60, .inr (.inl (fun _ => 0)))) := by rw [eP7, va_up_ne _ _ (by decide)]; exact f6
  obtain ⟨qq, hqq⟩ : ∃ z : Nat → Nat, z = fun k => if k < 107 then (P k).1 else if k < 108 then a else q3 := ⟨_, rfl⟩
  refine xn_ret hB hK h0 hS hP hD hE hO hr hlk ⟨qq, fun k hk => ⟨?_, ?_⟩, by rw [hqq]; rfl, fun k hk1 hk2 => ?_⟩ (Nat.le_of_ble_eq_true rfl) (Nat.le_of_ble_eq_true rfl) dX6_init_17
  · rw [eP7, va_up_ne _ _ (by omega), eP4, va_up_ne _ _ (by omega), eP1, va_up_ne _ _ (by omega)]
  · rw [hqq]; exact if_pos hk
  · rcases (show k = 107 ∨ k = 108 by omega) with rfl | rfl
    · rw [f8, hqq]; rfl
    · rw [z9, hqq]; rfl
set_option maxHeartbeats 8000000 in
set_option maxRecDepth 100000 in
theorem iX6_109 (l : Launch) (G : xw_G) (P : Nat → Nat × va_E) (a : Nat) (hP0 : P 109 = (a, .inr (6, [.int 0, .int 0, .null]))) : xn_T l G yX6_init cX6_init 1 1 12 1 60 [.ref a] 110 P 111 (fun u => ∃ q : Nat → Nat, (∀ k, k < 109 → u k = P k ∧ q k = (P k).1) ∧ q 109 = a ∧ ∀ k, 109 ≤ k → k < 111 → u k = (q k, xw_cell (xn_G G q) k (xn_m0.1 k) (xn_m0.2 k))) := by
  unfold xn_T
  refine Met.ofW (cc := cX6_init) (maxL := 1) (ret := none) (by decide) rfl ?_
  intro p e s m args below meth c s₁ B hml hv
  obtain ⟨hargs, hP, hK, hD, hE, hO, h0⟩ := hv
  have hx := B.exec
  have hb := B.bytes
  have hr := B.returns
  have hlk := B.notSynchronized
  have hin : meth.name = "<init>" := (name_of_methodNamed B.named B.method).1
  have hB : CallFix p m c cX6_init 1 s args TB RX6 := ⟨hx, hb, hml, findClass_of_methodNamed B.named, fun q h => (atoms_spec (ws := Cond.code yX6_init cX6_init 1 none :: TB) B.pre) q (List.mem_cons_of_mem _ h)⟩
  have hS : va_S (xw_A G) s.heap s.heap [] := va_S.rf
  have hl := lv_entry [.ref a] (n := 1) (Nat.le_of_ble_eq_true rfl)
  rw [show entryFrame m args 1 = entryFrame m ([.ref a] : List Value).toArray 1 from by rw [hargs], lg_entry_eq]
  generalize (lg_sl [.ref a] ++ List.replicate (1 - (lg_sl [.ref a]).length) Slot.unset).toArray = ls at hl ⊢
  have hl : lv_has ls 1 [(0, .ref a)] := hl
  skip
  refine lv_aload_n hx hb dX6_init_0 rfl (lv_at hl 0 rfl) ?_
  refine xn_obj hB tn_X6_obj tn_objI tn_objC hl.1 dX6_init_1 (Nat.le_of_ble_eq_true rfl) (Nat.le_of_ble_eq_true rfl) ?_
  refine lv_aload_n hx hb dX6_init_4 rfl (lv_at hl 0 rfl) ?_
  refine lv_iconst (v := (-1)) hx hb dX6_init_5 (by decide) ?_
  refine xn_put hB hK h0 hS hP hD (ci := 6) (k := 109) (C := RX6) (T := TX6) (Nf := 3) (fs' := [.int (-1), .int 0, .null]) (by decide) hP0 rfl TBi_X6 tyX6 tyX6_ok nmX6 0 (by decide) tw_241 rfl rfl rfl rfl rfl (Nat.le_of_ble_eq_true rfl) rfl dX6_init_6 (fun P1 eP1 H locs hP hD hS => ?_)
  have f2 : P1 109 = (a, .inr (6, [.int (-1), .int 0, .null])) := by rw [eP1, va_up_self]
  refine lv_aload_n hx hb dX6_init_9 rfl (lv_at hl 0 rfl) ?_
  refine lv_bipush (v := (60)) hx hb dX6_init_10 (by decide) ?_
  refine xn_newaJ hB hK h0 hS hP hD (n := 60) tw_254 (by decide) (by decide) (by decide) (Nat.le_of_ble_eq_true rfl) (Nat.le_of_ble_eq_true rfl) dX6_init_12 (fun q3 P4 eP4 H hP hD hS => ?_)
  have f5 : P4 109 = (a, .inr (6, [.int (-1), .int 0, .null])) := by rw [eP4, va_up_ne _ _ (by decide)]; exact f2
  have f6 : P4 110 = (q3, .inl (xw_q G 3, 60, .inr (.inl (fun _ => 0)))) := by rw [eP4, va_up_self]
  refine xn_putF hB hK h0 hS hP hD (ci := 6) (k := 109) (C := RX6) (T := TX6) (Nf := 3) (fs' := [.int (-1), .int 0, .ref q3]) (by decide) f5 rfl TBi_X6 tyX6 tyX6_ok nmX6 2 (by decide) tw_245 rfl rfl hin rfl rfl rfl rfl (Nat.le_of_ble_eq_true rfl) rfl dX6_init_14 (fun P7 eP7 H locs hP hD hS => ?_)
  have f8 : P7 109 = (a, .inr (6, [.int (-1), .int 0, .ref q3])) := by rw [eP7, va_up_self]
  have z9 : P7 110 = (q3, .inl (xw_q G 3, 60, .inr (.inl (fun _ => 0)))) := by rw [eP7, va_up_ne _ _ (by decide)]; exact f6
  obtain ⟨qq, hqq⟩ : ∃ z : Nat → Nat, z = fun k => if k < 109 then (P k).1 else if k < 110 then a else q3 := ⟨_, rfl⟩
  refine xn_ret hB hK h0 hS hP hD hE hO hr hlk ⟨qq, fun k hk => ⟨?_, ?_⟩, by rw [hqq]; rfl, fun k hk1 hk2 => ?_⟩ (Nat.le_of_ble_eq_true rfl) (Nat.le_of_ble_eq_true rfl) dX6_init_17
  · rw [eP7, va_up_ne _ _ (by omega), eP4, va_up_ne _ _ (by omega), eP1, va_up_ne _ _ (by omega)]
  · rw [hqq]; exact if_pos hk
  · rcases (show k = 109 ∨ k = 110 by omega) with rfl | rfl
    · rw [f8, hqq]; rfl
    · rw [z9, hqq]; rfl
set_option maxHeartbeats 8000000 in
set_option maxRecDepth 100000 in
theorem iX6_111 (l : Launch) (G : xw_G) (P : Nat → Nat × va_E) (a : Nat) (hP0 : P 111 = (a, .inr (6, [.int 0, .int 0, .null]))) : xn_T l G yX6_init cX6_init 1 1 12 1 60 [.ref a] 112 P 113 (fun u => ∃ q : Nat → Nat, (∀ k, k < 111 → u k = P k ∧ q k = (P k).1) ∧ q 111 = a ∧ ∀ k, 111 ≤ k → k < 113 → u k = (q k, xw_cell (xn_G G q) k (xn_m0.1 k) (xn_m0.2 k))) := by
  unfold xn_T
  refine Met.ofW (cc := cX6_init) (maxL := 1) (ret := none) (by decide) rfl ?_
  intro p e s m args below meth c s₁ B hml hv
  obtain ⟨hargs, hP, hK, hD, hE, hO, h0⟩ := hv
  have hx := B.exec
  have hb := B.bytes
  have hr := B.returns
  have hlk := B.notSynchronized
  have hin : meth.name = "<init>" := (name_of_methodNamed B.named B.method).1
  have hB : CallFix p m c cX6_init 1 s args TB RX6 := ⟨hx, hb, hml, findClass_of_methodNamed B.named, fun q h => (atoms_spec (ws := Cond.code yX6_init cX6_init 1 none :: TB) B.pre) q (List.mem_cons_of_mem _ h)⟩
  have hS : va_S (xw_A G) s.heap s.heap [] := va_S.rf
  have hl := lv_entry [.ref a] (n := 1) (Nat.le_of_ble_eq_true rfl)
  rw [show entryFrame m args 1 = entryFrame m ([.ref a] : List Value).toArray 1 from by rw [hargs], lg_entry_eq]
  generalize (lg_sl [.ref a] ++ List.replicate (1 - (lg_sl [.ref a]).length) Slot.unset).toArray = ls at hl ⊢
  have hl : lv_has ls 1 [(0, .ref a)] := hl
  skip
  refine lv_aload_n hx hb dX6_init_0 rfl (lv_at hl 0 rfl) ?_
  refine xn_obj hB tn_X6_obj tn_objI tn_objC hl.1 dX6_init_1 (Nat.le_of_ble_eq_true rfl) (Nat.le_of_ble_eq_true rfl) ?_
  refine lv_aload_n hx hb dX6_init_4 rfl (lv_at hl 0 rfl) ?_
  refine lv_iconst (v := (-1)) hx hb dX6_init_5 (by decide) ?_
  refine xn_put hB hK h0 hS hP hD (ci := 6) (k := 111) (C := RX6) (T := TX6) (Nf := 3) (fs' := [.int (-1), .int 0, .null]) (by decide) hP0 rfl TBi_X6 tyX6 tyX6_ok nmX6 0 (by decide) tw_241 rfl rfl rfl rfl rfl (Nat.le_of_ble_eq_true rfl) rfl dX6_init_6 (fun P1 eP1 H locs hP hD hS => ?_)
  have f2 : P1 111 = (a, .inr (6, [.int (-1), .int 0, .null])) := by rw [eP1, va_up_self]
  refine lv_aload_n hx hb dX6_init_9 rfl (lv_at hl 0 rfl) ?_
  refine lv_bipush (v := (60)) hx hb dX6_init_10 (by decide) ?_
  refine xn_newaJ hB hK h0 hS hP hD (n := 60) tw_254 (by decide) (by decide) (by decide) (Nat.le_of_ble_eq_true rfl) (Nat.le_of_ble_eq_true rfl) dX6_init_12 (fun q3 P4 eP4 H hP hD hS => ?_)
  have f5 : P4 111 = (a, .inr (6, [.int (-1), .int 0, .null])) := by rw [eP4, va_up_ne _ _ (by decide)]; exact f2
  have f6 : P4 112 = (q3, .inl (xw_q G 3, 60, .inr (.inl (fun _ => 0)))) := by rw [eP4, va_up_self]
  refine xn_putF hB hK h0 hS hP hD (ci := 6) (k := 111) (C := RX6) (T := TX6) (Nf := 3) (fs' := [.int (-1), .int 0, .ref q3]) (by decide) f5 rfl TBi_X6 tyX6 tyX6_ok nmX6 2 (by decide) tw_245 rfl rfl hin rfl rfl rfl rfl (Nat.le_of_ble_eq_true rfl) rfl dX6_init_14 (fun P7 eP7 H locs hP hD hS => ?_)
  have f8 : P7 111 = (a, .inr (6, [.int (-1), .int 0, .ref q3])) := by rw [eP7, va_up_self]
  have z9 : P7 112 = (q3, .inl (xw_q G 3, 60, .inr (.inl (fun _ => 0)))) := by rw [eP7, va_up_ne _ _ (by decide)]; exact f6
  obtain ⟨qq, hqq⟩ : ∃ z : Nat → Nat, z = fun k => if k < 111 then (P k).1 else if k < 112 then a else q3 := ⟨_, rfl⟩
  refine xn_ret hB hK h0 hS hP hD hE hO hr hlk ⟨qq, fun k hk => ⟨?_, ?_⟩, by rw [hqq]; rfl, fun k hk1 hk2 => ?_⟩ (Nat.le_of_ble_eq_true rfl) (Nat.le_of_ble_eq_true rfl) dX6_init_17
  · rw [eP7, va_up_ne _ _ (by omega), eP4, va_up_ne _ _ (by omega), eP1, va_up_ne _ _ (by omega)]
  · rw [hqq]; exact if_pos hk
  · rcases (show k = 111 ∨ k = 112 by omega) with rfl | rfl
    · rw [f8, hqq]; rfl
    · rw [z9, hqq]; rfl
set_option maxHeartbeats 8000000 in
set_option maxRecDepth 100000 in
theorem iX6_113 (l : Launch) (G : xw_G) (P : Nat → Nat × va_E) (a : Nat) (hP0 : P 113 = (a, .inr (6, [.int 0, .int 0, .null]))) : xn_T l G yX6_init cX6_init 1 1 12 1 60 [.ref a] 114 P 115 (fun u => ∃ q : Nat → Nat, (∀ k, k < 113 → u k = P k ∧ q k = (P k).1) ∧ q 113 = a ∧ ∀ k, 113 ≤ k → k < 115 → u k = (q k, xw_cell (xn_G G q) k (xn_m0.1 k) (xn_m0.2 k))) := by
  unfold xn_T
  refine Met.ofW (cc := cX6_init) (maxL := 1) (ret := none) (by decide) rfl ?_
  intro p e s m args below meth c s₁ B hml hv
  obtain ⟨hargs, hP, hK, hD, hE, hO, h0⟩ := hv
  have hx := B.exec
  have hb := B.bytes
  have hr := B.returns
  have hlk := B.notSynchronized
  have hin : meth.name = "<init>" := (name_of_methodNamed B.named B.method).1
  have hB : CallFix p m c cX6_init 1 s args TB RX6 := ⟨hx, hb, hml, findClass_of_methodNamed B.named, fun q h => (atoms_spec (ws := Cond.code yX6_init cX6_init 1 none :: TB) B.pre) q (List.mem_cons_of_mem _ h)⟩
  have hS : va_S (xw_A G) s.heap s.heap [] := va_S.rf
  have hl := lv_entry [.ref a] (n := 1) (Nat.le_of_ble_eq_true rfl)
  rw [show entryFrame m args 1 = entryFrame m ([.ref a] : List Value).toArray 1 from by rw [hargs], lg_entry_eq]
  generalize (lg_sl [.ref a] ++ List.replicate (1 - (lg_sl [.ref a]).length) Slot.unset).toArray = ls at hl ⊢
  have hl : lv_has ls 1 [(0, .ref a)] := hl
  skip
  refine lv_aload_n hx hb dX6_init_0 rfl (lv_at hl 0 rfl) ?_
  refine xn_obj hB tn_X6_obj tn_objI tn_objC hl.1 dX6_init_1 (Nat.le_of_ble_eq_true rfl) (Nat.le_of_ble_eq_true rfl) ?_
  refine lv_aload_n hx hb dX6_init_4 rfl (lv_at hl 0 rfl) ?_
  refine lv_iconst (v := (-1)) hx hb dX6_init_5 (by decide) ?_
  refine xn_put hB hK h0 hS hP hD (ci := 6) (k := 113) (C := RX6) (T := TX6) (Nf := 3) (fs' := [.int (-1), .int 0, .null]) (by decide) hP0 rfl TBi_X6 tyX6 tyX6_ok nmX6 0 (by decide) tw_241 rfl rfl rfl rfl rfl (Nat.le_of_ble_eq_true rfl) rfl dX6_init_6 (fun P1 eP1 H locs hP hD hS => ?_)
  have f2 : P1 113 = (a, .inr (6, [.int (-1), .int 0, .null])) := by rw [eP1, va_up_self]
  refine lv_aload_n hx hb dX6_init_9 rfl (lv_at hl 0 rfl) ?_
  refine lv_bipush (v := (60)) hx hb dX6_init_10 (by decide) ?_
  refine xn_newaJ hB hK h0 hS hP hD (n := 60) tw_254 (by decide) (by decide) (by decide) (Nat.le_of_ble_eq_true rfl) (Nat.le_of_ble_eq_true rfl) dX6_init_12 (fun q3 P4 eP4 H hP hD hS => ?_)
  have f5 : P4 113 = (a, .inr (6, [.int (-1), .int 0, .null])) := by rw [eP4, va_up_ne _ _ (by decide)]; exact f2
  have f6 : P4 114 = (q3, .inl (xw_q G 3, 60, .inr (.inl (fun _ => 0)))) := by rw [eP4, va_up_self]
  refine xn_putF hB hK h0 hS hP hD (ci := 6) (k := 113) (C := RX6) (T := TX6) (Nf := 3) (fs' := [.int (-1), .int 0, .ref q3]) (by decide) f5 rfl TBi_X6 tyX6 tyX6_ok nmX6 2 (by decide) tw_245 rfl rfl hin rfl rfl rfl rfl (Nat.le_of_ble_eq_true rfl) rfl dX6_init_14 (fun P7 eP7 H locs hP hD hS => ?_)
  have f8 : P7 113 = (a, .inr (6, [.int (-1), .int 0, .ref q3])) := by rw [eP7, va_up_self]
  have z9 : P7 114 = (q3, .inl (xw_q G 3, 60, .inr (.inl (fun _ => 0)))) := by rw [eP7, va_up_ne _ _ (by decide)]; exact f6
  obtain ⟨qq, hqq⟩ : ∃ z : Nat → Nat, z = fun k => if k < 113 then (P k).1 else if k < 114 then a else q3 := ⟨_, rfl⟩
  refine xn_ret hB hK h0 hS hP hD hE hO hr hlk ⟨qq, fun k hk => ⟨?_, ?_⟩, by rw [hqq]; rfl, fun k hk1 hk2 => ?_⟩ (Nat.le_of_ble_eq_true rfl) (Nat.le_of_ble_eq_true rfl) dX6_init_17
  · rw [eP7, va_up_ne _ _ (by omega), eP4, va_up_ne _ _ (by omega), eP1, va_up_ne _ _ (by omega)]
  · rw [hqq]; exact if_pos hk
  · rcases (show k = 113 ∨ k = 114 by omega) with rfl | rfl
    · rw [f8, hqq]; rfl
    · rw [z9, hqq]; rfl
set_option maxHeartbeats 8000000 in
set_option maxRecDepth 100000 in
theorem iX6_115 (l : Launch) (G : xw_G) (P : Nat → Nat × va_E) (a : Nat) (hP0 : P 115 = (a, .inr (6, [.int 0, .int 0, .null]))) : xn_T l G yX6_init cX6_init 1 1 12 1 60 [.ref a] 116 P 117 (fun u => ∃ q : Nat → Nat, (∀ k, k < 115 → u k = P k ∧ q k = (P k).1) ∧ q 115 = a ∧ ∀ k, 115 ≤ k → k < 117 → u k = (q k, xw_cell (xn_G G q) k (xn_m0.1 k) (xn_m0.2 k))) := by
  unfold xn_T
  refine Met.ofW (cc := cX6_init) (maxL := 1) (ret := none) (by decide) rfl ?_
  intro p e s m args below meth c s₁ B hml hv
  obtain ⟨hargs, hP, hK, hD, hE, hO, h0⟩ := hv
  have hx := B.exec
  have hb := B.bytes
  have hr := B.returns
  have hlk := B.notSynchronized
  have hin : meth.name = "<init>" := (name_of_methodNamed B.named B.method).1
  have hB : CallFix p m c cX6_init 1 s args TB RX6 := ⟨hx, hb, hml, findClass_of_methodNamed B.named, fun q h => (atoms_spec (ws := Cond.code yX6_init cX6_init 1 none :: TB) B.pre) q (List.mem_cons_of_mem _ h)⟩
  have hS : va_S (xw_A G) s.heap s.heap [] := va_S.rf
  have hl := lv_entry [.ref a] (n := 1) (Nat.le_of_ble_eq_true rfl)
  rw [show entryFrame m args 1 = entryFrame m ([.ref a] : List Value).toArray 1 from by rw [hargs], lg_entry_eq]
  generalize (lg_sl [.ref a] ++ List.replicate (1 - (lg_sl [.ref a]).length) Slot.unset).toArray = ls at hl ⊢
  have hl : lv_has ls 1 [(0, .ref a)] := hl
  skip
  refine lv_aload_n hx hb dX6_init_0 rfl (lv_at hl 0 rfl) ?_
  refine xn_obj hB tn_X6_obj tn_objI tn_objC hl.1 dX6_init_1 (Nat.le_of_ble_eq_true rfl) (Nat.le_of_ble_eq_true rfl) ?_
  refine lv_aload_n hx hb dX6_init_4 rfl (lv_at hl 0 rfl) ?_
  refine lv_iconst (v := (-1)) hx hb dX6_init_5 (by decide) ?_
  refine xn_put hB hK h0 hS hP hD (ci := 6) (k := 115) (C := RX6) (T := TX6) (Nf := 3) (fs' := [.int (-1), .int 0, .null]) (by decide) hP0 rfl TBi_X6 tyX6 tyX6_ok nmX6 0 (by decide) tw_241 rfl rfl rfl rfl rfl (Nat.le_of_ble_eq_true rfl) rfl dX6_init_6 (fun P1 eP1 H locs hP hD hS => ?_)
  have f2 : P1 115 = (a, .inr (6, [.int (-1), .int 0, .null])) := by rw [eP1, va_up_self]
  refine lv_aload_n hx hb dX6_init_9 rfl (lv_at hl 0 rfl) ?_
  refine lv_bipush (v := (60)) hx hb dX6_init_10 (by decide) ?_
  refine xn_newaJ hB hK h0 hS hP hD (n := 60) tw_254 (by decide) (by decide) (by decide) (Nat.le_of_ble_eq_true rfl) (Nat.le_of_ble_eq_true rfl) dX6_init_12 (fun q3 P4 eP4 H hP hD hS => ?_)
  have f5 : P4 115 = (a, .inr (6, [.int (-1), .int 0, .null])) := by rw [eP4, va_up_ne _ _ (by decide)]; exact f2
  have f6 : P4 116 = (q3, .inl (xw_q G 3, 60, .inr (.inl (fun _ => 0)))) := by rw [eP4, va_up_self]
  refine xn_putF hB hK h0 hS hP hD (ci := 6) (k := 115) (C := RX6) (T := TX6) (Nf := 3) (fs' := [.int (-1), .int 0, .ref q3]) (by decide) f5 rfl TBi_X6 tyX6 tyX6_ok nmX6 2 (by decide) tw_245 rfl rfl hin rfl rfl rfl rfl (Nat.le_of_ble_eq_true rfl) rfl dX6_init_14 (fun P7 eP7 H locs hP hD hS => ?_)
  have f8 : P7 115 = (a, .inr (6, [.int (-1), .int 0, .ref q3])) := by rw [eP7, va_up_self]
  have z9 : P7 116 = (q3, .inl (xw_q G 3, 60, .inr (.inl (fun _ => 0)))) := by rw [eP7, va_up_ne _ _ (by decide)]; exact f6
  obtain ⟨qq, hqq⟩ : ∃ z : Nat → Nat, z = fun k => if k < 115 then (P k).1 else if k < 116 then a else q3 := ⟨_, rfl⟩
  refine xn_ret hB hK h0 hS hP hD hE hO hr hlk ⟨qq, fun k hk => ⟨?_, ?_⟩, by rw [hqq]; rfl, fun k hk1 hk2 => ?_⟩ (Nat.le_of_ble_eq_true rfl) (Nat.le_of_ble_eq_true rfl) dX6_init_17
  · rw [eP7, va_up_ne _ _ (by omega), eP4, va_up_ne _ _ (by omega), eP1, va_up_ne _ _ (by omega)]
  · rw [hqq]; exact if_pos hk
  · rcases (show k = 115 ∨ k = 116 by omega) with rfl | rfl
    · rw [f8, hqq]; rfl
    · rw [z9, hqq]; rfl
set_option maxHeartbeats 8000000 in
set_option maxRecDepth 100000 in
theorem iX6_117 (l : Launch) (G : xw_G) (P : Nat → Nat × va_E) (a : Nat) (hP0 : P 117 = (a, .inr (6, [.int 0, .int 0, .null]))) : xn_T l G yX6_init cX6_init 1 1 12 1 60 [.ref a] 118 P 119 (fun u => ∃ q : Nat → Nat, (∀ k, k < 117 → u k = P k ∧ q k = (P k).1) ∧ q 117 = a ∧ ∀ k, 117 ≤ k → k < 119 → u k = (q k, xw_cell (xn_G G q) k (xn_m0.1 k) (xn_m0.2 k))) := by
  unfold xn_T
  refine Met.ofW (cc := cX6_init) (maxL := 1) (ret := none) (by decide) rfl ?_
  intro p e s m args below meth c s₁ B hml hv
  obtain ⟨hargs, hP, hK, hD, hE, hO, h0⟩ := hv
  have hx := B.exec
  have hb := B.bytes
  have hr := B.returns
  have hlk := B.notSynchronized
  have hin : meth.name = "<init>" := (name_of_methodNamed B.named B.method).1
  have hB : CallFix p m c cX6_init 1 s args TB RX6 := ⟨hx, hb, hml, findClass_of_methodNamed B.named, fun q h => (atoms_spec (ws := Cond.code yX6_init cX6_init 1 none :: TB) B.pre) q (List.mem_cons_of_mem _ h)⟩
  have hS : va_S (xw_A G) s.heap s.heap [] := va_S.rf
  have hl := lv_entry [.ref a] (n := 1) (Nat.le_of_ble_eq_true rfl)
  rw [show entryFrame m args 1 = entryFrame m ([.ref a] : List Value).toArray 1 from by rw [hargs], lg_entry_eq]
  generalize (lg_sl [.ref a] ++ List.replicate (1 - (lg_sl [.ref a]).length) Slot.unset).toArray = ls at hl ⊢
  have hl : lv_has ls 1 [(0, .ref a)] := hl
  skip
  refine lv_aload_n hx hb dX6_init_0 rfl (lv_at hl 0 rfl) ?_
  refine xn_obj hB tn_X6_obj tn_objI tn_objC hl.1 dX6_init_1 (Nat.le_of_ble_eq_true rfl) (Nat.le_of_ble_eq_true rfl) ?_
  refine lv_aload_n hx hb dX6_init_4 rfl (lv_at hl 0 rfl) ?_
  refine lv_iconst (v := (-1)) hx hb dX6_init_5 (by decide) ?_
  refine xn_put hB hK h0 hS hP hD (ci := 6) (k := 117) (C := RX6) (T := TX6) (Nf := 3) (fs' := [.int (-1), .int 0, .null]) (by decide) hP0 rfl TBi_X6 tyX6 tyX6_ok nmX6 0 (by decide) tw_241 rfl rfl rfl rfl rfl (Nat.le_of_ble_eq_true rfl) rfl dX6_init_6 (fun P1 eP1 H locs hP hD hS => ?_)
  have f2 : P1 117 = (a, .inr (6, [.int (-1), .int 0, .null])) := by rw [eP1, va_up_self]
  refine lv_aload_n hx hb dX6_init_9 rfl (lv_at hl 0 rfl) ?_
  refine lv_bipush (v := (60)) hx hb dX6_init_10 (by decide) ?_
  refine xn_newaJ hB hK h0 hS hP hD (n := 60) tw_254 (by decide) (by decide) (by decide) (Nat.le_of_ble_eq_true rfl) (Nat.le_of_ble_eq_true rfl) dX6_init_12 (fun q3 P4 eP4 H hP hD hS => ?_)
  have f5 : P4 117 = (a, .inr (6, [.int (-1), .int 0, .null])) := by rw [eP4, va_up_ne _ _ (by decide)]; exact f2
  have f6 : P4 118 = (q3, .inl (xw_q G 3, 60, .inr (.inl (fun _ => 0)))) := by rw [eP4, va_up_self]
  refine xn_putF hB hK h0 hS hP hD (ci := 6) (k := 117) (C := RX6) (T := TX6) (Nf := 3) (fs' := [.int (-1), .int 0, .ref q3]) (by decide) f5 rfl TBi_X6 tyX6 tyX6_ok nmX6 2 (by decide) tw_245 rfl rfl hin rfl rfl rfl rfl (Nat.le_of_ble_eq_true rfl) rfl dX6_init_14 (fun P7 eP7 H locs hP hD hS => ?_)
  have f8 : P7 117 = (a, .inr (6, [.int (-1), .int 0, .ref q3])) := by rw [eP7, va_up_self]
  have z9 : P7 118 = (q3, .inl (xw_q G 3, 60, .inr (.inl (fun _ => 0)))) := by rw [eP7, va_up_ne _ _ (by decide)]; exact f6
  obtain ⟨qq, hqq⟩ : ∃ z : Nat → Nat, z = fun k => if k < 117 then (P k).1 else if k < 118 then a else q3 := ⟨_, rfl⟩
  refine xn_ret hB hK h0 hS hP hD hE hO hr hlk ⟨qq, fun k hk => ⟨?_, ?_⟩, by rw [hqq]; rfl, fun k hk1 hk2 => ?_⟩ (Nat.le_of_ble_eq_true rfl) (Nat.le_of_ble_eq_true rfl) dX6_init_17
  · rw [eP7, va_up_ne _ _ (by omega), eP4, va_up_ne _ _ (by omega), eP1, va_up_ne _ _ (by omega)]
  · rw [hqq]; exact if_pos hk
  · rcases (show k = 117 ∨ k = 118 by omega) with rfl | rfl
    · rw [f8, hqq]; rfl
    · rw [z9, hqq]; rfl
