def fX7_on_92 (n : Nat) (a1 : Int32) (a2 : Int32) (x3 : Int32) (w : xw_M) : Option (Int32 × xw_M) := if x3 = 0 then xw_bp (fX7_at (17 + 5) 6 (a2 - (20 : Int32)) w) (fun r23 => some (r23, w)) else xw_bp (fX7_at (17 + 4) 6 (a2 - (10 : Int32)) w) (fun r25 => some (r25, w))
def fX7_on_b62 (n : Nat) (a1 : Int32) (a2 : Int32) (x3 : Int32) (x5 : Int32) (w : xw_M) : Option ((Int32 × xw_M) ⊕ (xw_M)) := if a1 ≤ x5 then some (.inr w) else xw_bp (fX7_held w) (fun r14 => xw_om r14 (none) (fun t16 => xw_cc (xw_pa t16) (xw_b (fX4_goDay n 17 t16 (2147483647 : Int32) w) (fun r18 w19 => xw_lt (x5 + 1) (fun x5_21 => some (.inl (x5_21, w19)))))))
def fX7_on_62 (n : Nat) (a1 : Int32) (a2 : Int32) (x3 : Int32) (x5 : Int32) (w : xw_M) : Option (Int32 × xw_M) := xw_bp (xw_it (fun z => fX7_on_b62 n a1 a2 x3 z.1 z.2) n (x5, w)) (fun z => (fun (w : xw_M) => fX7_on_92 n a1 a2 x3 w) z)
def fX7_on_36 (n : Nat) (a1 : Int32) (a2 : Int32) (x3 : Int32) (w : xw_M) : Option (Int32 × xw_M) := xw_bp (fX7_within a1 (20 : Int32)) (fun r7 => if r7 = 0 then some ((-2 : Int32), w) else xw_b (fX5_takeAfter 17 1 w) (fun (_ : Unit) w11 => fX7_on_62 n a1 a2 x3 (0 : Int32) w11))
def fX7_on (n : Nat) (a1 : Int32) (a2 : Int32) (w0 : xw_M) : Option (Int32 × xw_M) := xw_bp (fX5_has 1 (a2 - (10 : Int32)) w0) (fun r1 => xw_bp (fX5_has 1 (a2 - (20 : Int32)) w0) (fun r3 => if r1 = 0 then if r3 = 0 then some ((-1 : Int32), w0) else fX7_on_36 n a1 a2 r1 w0 else fX7_on_36 n a1 a2 r1 w0))
set_option maxHeartbeats 4000000 in
set_option maxRecDepth 100000 in
theorem kX7_on (l : Launch) (G : xw_G) (hG : xw_ok G) (n : Nat) (a1 : Int32) (a2 : Int32) (w0 : xw_M) (r0 : Int32) (wz : xw_M) (hf : fX7_on n a1 a2 w0 = some (r0, wz)) : xw_Ti l G yX7_on cX7_on 6 ((Option.some Jvm.ClassFile.FieldType.int)) (5) (169) [.ref (xw_ad G 0), .int a1, .int a2] w0 r0 wz := by
  unfold xw_Ti
  refine Met.ofW (cc := cX7_on) (maxL := 6) (ret := (Option.some Jvm.ClassFile.FieldType.int)) (by decide) rfl ?_
  intro p e s m args below meth c s₁ B hml hv
  obtain ⟨hargs, hP, hK, hE⟩ := hv
  have hx := B.exec
  have hb := B.bytes
  have hr := B.returns
  have hlk := B.notSynchronized
  have hB : CallFix p m c cX7_on 6 s args TB RX7 := ⟨hx, hb, hml, findClass_of_methodNamed B.named, fun q h => (atoms_spec (ws := Cond.code yX7_on cX7_on 6 ((Option.some Jvm.ClassFile.FieldType.int)) :: TB) B.pre) q (List.mem_cons_of_mem _ h)⟩
  have hS : va_S (xw_A G) s.heap s.heap [] := va_S.rf
  have hl := lv_entry [.ref (xw_ad G 0), .int a1, .int a2] (n := 6) (Nat.le_of_ble_eq_true rfl)
  rw [show entryFrame m args 6 = entryFrame m ([.ref (xw_ad G 0), .int a1, .int a2] : List Value).toArray 6 from by rw [hargs], lg_entry_eq]
  generalize (lg_sl [.ref (xw_ad G 0), .int a1, .int a2] ++ List.replicate (6 - (lg_sl [.ref (xw_ad G 0), .int a1, .int a2]).length) Slot.unset).toArray = ls at hl ⊢
  have hP : va_P (xw_D G) xw_cl (xw_W G w0) s.heap := hP
  have hl : lv_has ls 6 [(0, .ref (xw_ad G 0)), (1, .int a1), (2, .int a2)] := hl
  have HH : ∀ (H : Heap) (locs : List Loc) (hP : va_P (xw_D G) xw_cl (xw_W G w0) H) (hS : va_S (xw_A G) s.heap H locs), xw_Wi G p l e (xw_rm (5) (169)) s m args below meth c H locs r0 wz (F0 m 0 ls []) := by
    intro H locs hP hS
    unfold fX7_on at hf
    have J92 : ∀ (x3 : Int32) (w : xw_M) (hf : fX7_on_92 n a1 a2 x3 w = some (r0, wz)) (H : Heap) (locs : List Loc) (ls : Array Slot) (hP : va_P (xw_D G) xw_cl (xw_W G w) H) (hS : va_S (xw_A G) s.heap H locs) (hl : lv_has ls 6 [(0, .ref (xw_ad G 0)), (2, .int a2), (3, .int x3)]), xw_Wi G p l e (xw_rm (5) (169)) s m args below meth c H locs r0 wz (F0 m 92 ls []) := by
      intro x3 w hf H locs ls hP hS hl
      unfold fX7_on_92 at hf
      refine lv_iload_n hx hb dX7_on_92 rfl (lv_at hl 2 rfl) ?_
      refine lv_if_eq (tgt := 113) hx hb dX7_on_93 (by decide) (fun c22 => ?_) (fun c22 => ?_)
      · replace hf := xw_ip c22 hf
        refine lv_aload_n hx hb dX7_on_113 rfl (lv_at hl 0 rfl) ?_
        refine xw_get hB hK hP (xw_o7 G) (C := RX7) (T := TX7) (N := 11) rfl TBi_X7 1 (by decide) tw_256 rfl rfl dX7_on_114 ?_
        refine xw_get hB hK hP (xw_o5 G (Or.inr (Or.inl rfl))) (C := RX5) (T := TX5) (N := 14) rfl TBi_X5 5 (by decide) tw_78 rfl rfl dX7_on_117 ?_
        refine lv_iload_n hx hb dX7_on_120 rfl (lv_at hl 1 rfl) ?_
        refine lv_bipush (v := 20) hx hb dX7_on_121 (by decide) ?_
        refine lv_isub hx hb dX7_on_123 ?_
        replace hf := xw_bp_e hf
        obtain ⟨r23, he24, hf⟩ := hf
        refine xw_Si hB hK hE hS hP (As := [.ref (xw_ad G (17 + 5)), .int (a2 - (20 : Int32))]) (rest := []) (kX7_at l G hG (17 + 5) 6 (a2 - (20 : Int32)) (xw_a5_5 G (Or.inr (Or.inl rfl))) w _ he24) tw_311 tw_313 tw_312 tw_1 2 hs_X7_at ⟨Nat.le_of_ble_eq_true rfl, Nat.le_of_ble_eq_true rfl⟩ rfl hl.1 (Nat.le_of_ble_eq_true rfl) rfl dX7_on_124 ⟨Nat.zero_le _, Nat.zero_le _⟩ (fun H locs hP hS => ?_)
        obtain ⟨h0, h1⟩ := xw_s2 hf
        exact xw_iret hB hK hE hS hP hr hlk h0 h1 dX7_on_127
      · replace hf := xw_in' c22 hf
        refine lv_aload_n hx hb dX7_on_96 rfl (lv_at hl 0 rfl) ?_
        refine xw_get hB hK hP (xw_o7 G) (C := RX7) (T := TX7) (N := 11) rfl TBi_X7 1 (by decide) tw_256 rfl rfl dX7_on_97 ?_
        refine xw_get hB hK hP (xw_o5 G (Or.inr (Or.inl rfl))) (C := RX5) (T := TX5) (N := 14) rfl TBi_X5 4 (by decide) tw_75 rfl rfl dX7_on_100 ?_
        refine lv_iload_n hx hb dX7_on_103 rfl (lv_at hl 1 rfl) ?_
        refine lv_bipush (v := 10) hx hb dX7_on_104 (by decide) ?_
        refine lv_isub hx hb dX7_on_106 ?_
        replace hf := xw_bp_e hf
        obtain ⟨r25, he26, hf⟩ := hf
        refine xw_Si hB hK hE hS hP (As := [.ref (xw_ad G (17 + 4)), .int (a2 - (10 : Int32))]) (rest := []) (kX7_at l G hG (17 + 4) 6 (a2 - (10 : Int32)) (xw_a5_4 G (Or.inr (Or.inl rfl))) w _ he26) tw_311 tw_313 tw_312 tw_1 2 hs_X7_at ⟨Nat.le_of_ble_eq_true rfl, Nat.le_of_ble_eq_true rfl⟩ rfl hl.1 (Nat.le_of_ble_eq_true rfl) rfl dX7_on_107 ⟨Nat.zero_le _, Nat.zero_le _⟩ (fun H locs hP hS => ?_)
        refine lv_goto (tgt := 127) hx hb dX7_on_110 (by decide) ?_
        obtain ⟨h0, h1⟩ := xw_s2 hf
        exact xw_iret hB hK hE hS hP hr hlk h0 h1 dX7_on_127
    have J62 : ∀ (x3 : Int32) (x5 : Int32) (w : xw_M) (hf : fX7_on_62 n a1 a2 x3 x5 w = some (r0, wz)) (H : Heap) (locs : List Loc) (ls : Array Slot) (hP : va_P (xw_D G) xw_cl (xw_W G w) H) (hS : va_S (xw_A G) s.heap H locs) (hl : lv_has ls 6 [(0, .ref (xw_ad G 0)), (1, .int a1), (2, .int a2), (3, .int x3), (5, .int x5)]), xw_Wi G p l e (xw_rm (5) (169)) s m args below meth c H locs r0 wz (F0 m 62 ls []) := by
      intro x3 x5 w hf H locs ls hP hS hl
      unfold fX7_on_62 at hf
      replace hf := xw_bp_e hf
      obtain ⟨bb62, hit62, hfx62⟩ := hf
      have XX62 : ∀ (w : xw_M) (hf : fX7_on_92 n a1 a2 x3 w = some (r0, wz)) (H : Heap) (locs : List Loc) (ls : Array Slot) (hP : va_P (xw_D G) xw_cl (xw_W G w) H) (hS : va_S (xw_A G) s.heap H locs) (hl : lv_has ls 6 [(0, .ref (xw_ad G 0)), (2, .int a2), (3, .int x3)]), xw_Wi G p l e (xw_rm (5) (169)) s m args below meth c H locs r0 wz (F0 m 92 ls []) := by
        intro w hf H locs ls hP hS hl
        exact J92 x3 w hf H locs ls hP hS (lv_sub hl [0, 1, 2] rfl)
      have LL62 : ∀ (nn : Nat) (x5 : Int32) (w : xw_M) (hit : xw_it (fun z => fX7_on_b62 n a1 a2 x3 z.1 z.2) nn (x5, w) = some bb62) (H : Heap) (locs : List Loc) (ls : Array Slot) (hP : va_P (xw_D G) xw_cl (xw_W G w) H) (hS : va_S (xw_A G) s.heap H locs) (hl : lv_has ls 6 [(0, .ref (xw_ad G 0)), (1, .int a1), (2, .int a2), (3, .int x3), (5, .int x5)]), xw_Wi G p l e (xw_rm (5) (169)) s m args below meth c H locs r0 wz (F0 m 62 ls []) := by
        intro nn
        induction nn with
        | zero => intro x5 w hit; exact (xw_it_0 hit).elim
        | succ nn ih62 =>
          intro x5 w hit H locs ls hP hS hl
          replace hit := xw_it_e hit
          obtain ⟨wv62, hf, hC62, hX62⟩ := hit
          replace hf : fX7_on_b62 n a1 a2 x3 x5 w = some wv62 := hf
          unfold fX7_on_b62 at hf
          refine lv_iload hx hb dX7_on_62 (lv_at hl 4 rfl) ?_
          refine lv_iload_n hx hb dX7_on_64 rfl (lv_at hl 1 rfl) ?_
          refine lv_icmp_ge (tgt := 92) hx hb dX7_on_65 (by decide) (fun c13 => ?_) (fun c13 => ?_)
          · replace hf := xw_ip c13 hf
            have he62 := hX62 _ (xw_so hf).symm
            rw [← he62] at hfx62
            exact XX62 w hfx62 H locs ls hP hS (lv_sub hl [0, 2, 3] rfl)
          · replace hf := xw_in' c13 hf
            refine lv_aload_n hx hb dX7_on_68 rfl (lv_at hl 0 rfl) ?_
            refine xw_get hB hK hP (xw_o7 G) (C := RX7) (T := TX7) (N := 11) rfl TBi_X7 8 (by decide) tw_263 rfl rfl dX7_on_69 ?_
            refine lv_aload_n hx hb dX7_on_72 rfl (lv_at hl 0 rfl) ?_
            refine xw_get hB hK hP (xw_o7 G) (C := RX7) (T := TX7) (N := 11) rfl TBi_X7 1 (by decide) tw_256 rfl rfl dX7_on_73 ?_
            refine lv_aload_n hx hb dX7_on_76 rfl (lv_at hl 0 rfl) ?_
            replace hf := xw_bp_e hf
            obtain ⟨r14, he15, hf⟩ := hf
            refine xw_Vq hB hK hE hS hP (As := []) (rest := [.ref (xw_ad G 17), .ref (xw_ad G 64)]) (kX7_held l G hG w _ he15) gs_X7_108 (xw_rc hK hP (C := RX7) (T := TX7) (N := 11) (xw_o7 G) rfl) 0 hv_X7_held ⟨Nat.le_of_ble_eq_true rfl, Nat.le_of_ble_eq_true rfl⟩ rfl hl.1 (Nat.le_of_ble_eq_true rfl) rfl dX7_on_77 ⟨Nat.zero_le _, Nat.zero_le _⟩ (fun H locs hP hS => ?_)
            cases r14 with
            | none =>
              replace hf := xw_om_n hf
              refine lv_ldc (v := (2147483647)) hx hb hB.2.2.2.1 (hB.2.2.2.2 _ tw_533) dX7_on_80 ?_
              cases hf
            | some t16 =>
              replace hf := xw_om_s hf
              replace hf := xw_cc_e hf
              obtain ⟨ht17, hf⟩ := hf
              refine lv_ldc (v := (2147483647)) hx hb hB.2.2.2.1 (hB.2.2.2.2 _ tw_533) dX7_on_80 ?_
              replace hf := xw_b_e hf
              obtain ⟨r18, w19, he20, hf⟩ := hf
              refine xw_Vi hB hK hE hS hP (As := [.ref (xw_ad G 17), .ref (xw_ad G t16), .int (2147483647 : Int32)]) (rest := []) (kX4_goDay l G hG n 17 t16 (2147483647 : Int32) (Or.inr (Or.inl rfl)) ht17 w _ _ he20) gs_X7_187 (xw_rc hK hP (C := RX4) (T := TX4) (N := 3) (xw_o4 G) rfl) 3 hv_X4_goDay ⟨Nat.le_of_ble_eq_true rfl, Nat.le_of_ble_eq_true rfl⟩ rfl hl.1 (Nat.le_of_ble_eq_true rfl) rfl dX7_on_82 ⟨Nat.zero_le _, Nat.zero_le _⟩ (fun H locs hP hS => ?_)
              refine lv_pop hx hb dX7_on_85 rfl ?_
              obtain ⟨x5_21, ex5_21⟩ : ∃ y : Int32, y = x5 + 1 := ⟨_, rfl⟩
              replace hf := xw_lt_e ex5_21 hf
              refine lv_iinc (v := x5_21) (lv' := [(5, .int x5_21), (0, .ref (xw_ad G 0)), (1, .int a1), (2, .int a2), (3, .int x3)]) hx hb dX7_on_86 hl (k := 4) rfl (by rw [ex5_21]; rfl) (by decide) rfl (fun ls hl => ?_)
              refine lv_goto (tgt := 62) hx hb dX7_on_89 (by decide) ?_
              have hi := hC62 _ (xw_so hf).symm
              exact ih62 x5_21 w19 hi H locs ls hP hS (lv_sub hl [1, 2, 3, 4, 0] rfl)
      exact LL62 n x5 w hit62 H locs ls hP hS hl
    have J36 : ∀ (x3 : Int32) (w : xw_M) (hf : fX7_on_36 n a1 a2 x3 w = some (r0, wz)) (H : Heap) (locs : List Loc) (ls : Array Slot) (hP : va_P (xw_D G) xw_cl (xw_W G w) H) (hS : va_S (xw_A G) s.heap H locs) (hl : lv_has ls 6 [(0, .ref (xw_ad G 0)), (1, .int a1), (2, .int a2), (3, .int x3)]), xw_Wi G p l e (xw_rm (5) (169)) s m args below meth c H locs r0 wz (F0 m 36 ls []) := by
      intro x3 w hf H locs ls hP hS hl
      unfold fX7_on_36 at hf
      refine lv_iload_n hx hb dX7_on_36 rfl (lv_at hl 1 rfl) ?_
      refine lv_bipush (v := 20) hx hb dX7_on_37 (by decide) ?_
      replace hf := xw_bp_e hf
      obtain ⟨r7, he8, hf⟩ := hf
      refine xw_Si hB hK hE hS hP (As := [.int a1, .int (20 : Int32)]) (rest := []) (kX7_within l G hG a1 (20 : Int32) w _ he8) tw_293 tw_295 tw_294 tw_1 2 hs_X7_within ⟨Nat.le_of_ble_eq_true rfl, Nat.le_of_ble_eq_true rfl⟩ rfl hl.1 (Nat.le_of_ble_eq_true rfl) rfl dX7_on_39 ⟨Nat.zero_le _, Nat.zero_le _⟩ (fun H locs hP hS => ?_)
      refine lv_if_ne (tgt := 48) hx hb dX7_on_42 (by decide) (fun c9 => ?_) (fun c9 => ?_)
      · replace hf := xw_in' c9 hf
        refine lv_aload_n hx hb dX7_on_48 rfl (lv_at hl 0 rfl) ?_
        refine xw_get hB hK hP (xw_o7 G) (C := RX7) (T := TX7) (N := 11) rfl TBi_X7 1 (by decide) tw_256 rfl rfl dX7_on_49 ?_
        refine lv_aload_n hx hb dX7_on_52 rfl (lv_at hl 0 rfl) ?_
        refine xw_get hB hK hP (xw_o7 G) (C := RX7) (T := TX7) (N := 11) rfl TBi_X7 0 (by decide) tw_255 rfl rfl dX7_on_53 ?_
        replace hf := xw_b_e hf
        obtain ⟨r10, w11, he12, hf⟩ := hf
        refine xw_Vv hB hK hE hS hP (As := [.ref (xw_ad G 1)]) (rest := []) (kX5_takeAfter l G hG 17 1 (Or.inr (Or.inl rfl)) (Or.inl rfl) w _ _ he12) gs_X7_191 (xw_rc hK hP (C := RX5) (T := TX5) (N := 14) (xw_o5 G (Or.inr (Or.inl rfl))) rfl) 1 hv_X5_takeAfter ⟨Nat.le_of_ble_eq_true rfl, Nat.le_of_ble_eq_true rfl⟩ rfl hl.1 (Nat.le_of_ble_eq_true rfl) rfl dX7_on_56 ⟨Nat.zero_le _, Nat.zero_le _⟩ (fun H locs hP hS => ?_)
        refine lv_iconst (v := 0) hx hb dX7_on_59 (by decide) ?_
        refine lv_istore (lv' := [(5, .int (0 : Int32)), (0, .ref (xw_ad G 0)), (1, .int a1), (2, .int a2), (3, .int x3)]) hx hb dX7_on_60 hl (by decide) rfl (fun ls hl => ?_)
        exact J62 x3 (0 : Int32) w11 hf H locs ls hP hS (lv_sub hl [1, 2, 3, 4, 0] rfl)
      · replace hf := xw_ip c9 hf
        refine lv_bipush (v := (-2)) hx hb dX7_on_45 (by decide) ?_
        obtain ⟨h0, h1⟩ := xw_s2 hf
        exact xw_iret hB hK hE hS hP hr hlk h0 h1 dX7_on_47
    refine lv_aload_n hx hb dX7_on_0 rfl (lv_at hl 0 rfl) ?_
    refine xw_get hB hK hP (xw_o7 G) (C := RX7) (T := TX7) (N := 11) rfl TBi_X7 0 (by decide) tw_255 rfl rfl dX7_on_1 ?_
    refine lv_iload_n hx hb dX7_on_4 rfl (lv_at hl 2 rfl) ?_
    refine lv_bipush (v := 10) hx hb dX7_on_5 (by decide) ?_
    refine lv_isub hx hb dX7_on_7 ?_
    replace hf := xw_bp_e hf
    obtain ⟨r1, he2, hf⟩ := hf
    refine xw_Vi hB hK hE hS hP (As := [.int (a2 - (10 : Int32))]) (rest := []) (kX5_has l G hG 1 (a2 - (10 : Int32)) (Or.inl rfl) w0 _ he2) gs_X7_77 (xw_rc hK hP (C := RX5) (T := TX5) (N := 14) (xw_o5 G (Or.inl rfl)) rfl) 1 hv_X5_has ⟨Nat.le_of_ble_eq_true rfl, Nat.le_of_ble_eq_true rfl⟩ rfl hl.1 (Nat.le_of_ble_eq_true rfl) rfl dX7_on_8 ⟨Nat.zero_le _, Nat.zero_le _⟩ (fun H locs hP hS => ?_)
    refine lv_istore_n (lv' := [(3, .int r1), (0, .ref (xw_ad G 0)), (1, .int a1), (2, .int a2)]) hx hb dX7_on_11 rfl hl (by decide) rfl (fun ls hl => ?_)
    refine lv_aload_n hx hb dX7_on_12 rfl (lv_at hl 1 rfl) ?_
    refine xw_get hB hK hP (xw_o7 G) (C := RX7) (T := TX7) (N := 11) rfl TBi_X7 0 (by decide) tw_255 rfl rfl dX7_on_13 ?_
    refine lv_iload_n hx hb dX7_on_16 rfl (lv_at hl 3 rfl) ?_
    refine lv_bipush (v := 20) hx hb dX7_on_17 (by decide) ?_
    refine lv_isub hx hb dX7_on_19 ?_
    replace hf := xw_bp_e hf
    obtain ⟨r3, he4, hf⟩ := hf
    refine xw_Vi hB hK hE hS hP (As := [.int (a2 - (20 : Int32))]) (rest := []) (kX5_has l G hG 1 (a2 - (20 : Int32)) (Or.inl rfl) w0 _ he4) gs_X7_77 (xw_rc hK hP (C := RX5) (T := TX5) (N := 14) (xw_o5 G (Or.inl rfl)) rfl) 1 hv_X5_has ⟨Nat.le_of_ble_eq_true rfl, Nat.le_of_ble_eq_true rfl⟩ rfl hl.1 (Nat.le_of_ble_eq_true rfl) rfl dX7_on_20 ⟨Nat.zero_le _, Nat.zero_le _⟩ (fun H locs hP hS => ?_)
    refine lv_istore (lv' := [(4, .int r3), (3, .int r1), (0, .ref (xw_ad G 0)), (1, .int a1), (2, .int a2)]) hx hb dX7_on_23 hl (by decide) rfl (fun ls hl => ?_)
    refine lv_iload_n hx hb dX7_on_25 rfl (lv_at hl 1 rfl) ?_
    refine lv_if_ne (tgt := 36) hx hb dX7_on_26 (by decide) (fun c5 => ?_) (fun c5 => ?_)
    · replace hf := xw_in' c5 hf
      exact J36 r1 w0 hf H locs ls hP hS (lv_sub hl [2, 3, 4, 1] rfl)
    · replace hf := xw_ip c5 hf
      refine lv_iload hx hb dX7_on_29 (lv_at hl 0 rfl) ?_
      refine lv_if_ne (tgt := 36) hx hb dX7_on_31 (by decide) (fun c6 => ?_) (fun c6 => ?_)
      · replace hf := xw_in' c6 hf
        exact J36 r1 w0 hf H locs ls hP hS (lv_sub hl [2, 3, 4, 1] rfl)
      · replace hf := xw_ip c6 hf
        refine lv_iconst (v := (-1)) hx hb dX7_on_34 (by decide) ?_
        obtain ⟨h0, h1⟩ := xw_s2 hf
        exact xw_iret hB hK hE hS hP hr hlk h0 h1 dX7_on_35
  exact HH s.heap [] hP hS
def fJ6_bitCount_0f7a4 (a0 : Int32) : Option Int32 := xw_lt (a0 - (((a0.toUInt32 >>> ((1 : Int32).toUInt32 &&& Int32.toUInt32 31)).toInt32) &&& (1431655765 : Int32))) (fun x0_1 => xw_lt ((x0_1 &&& (858993459 : Int32)) + (((x0_1.toUInt32 >>> ((2 : Int32).toUInt32 &&& Int32.toUInt32 31)).toInt32) &&& (858993459 : Int32))) (fun x0_2 => xw_lt ((x0_2 + ((x0_2.toUInt32 >>> ((4 : Int32).toUInt32 &&& Int32.toUInt32 31)).toInt32)) &&& (252645135 : Int32)) (fun x0_3 => xw_lt (x0_3 + ((x0_3.toUInt32 >>> ((8 : Int32).toUInt32 &&& Int32.toUInt32 31)).toInt32)) (fun x0_4 => xw_lt (x0_4 + ((x0_4.toUInt32 >>> ((16 : Int32).toUInt32 &&& Int32.toUInt32 31)).toInt32)) (fun x0_5 => some (x0_5 &&& (63 : Int32)))))))
set_option maxHeartbeats 4000000 in
set_option maxRecDepth 100000 in
theorem kJ6_bitCount_0f7a4 (l : Launch) (G : xw_G) (hG : xw_ok G) (a0 : Int32) (w0 : xw_M) (r0 : Int32) (hf : fJ6_bitCount_0f7a4 a0 = some r0) : xw_Ti l G yJ6_bitCount_0f7a4 cJ6_bitCount_0f7a4 1 ((Option.some Jvm.ClassFile.FieldType.int)) (0) (0) [.int a0] w0 r0 w0 := by
  unfold xw_Ti
  refine Met.ofW (cc := cJ6_bitCount_0f7a4) (maxL := 1) (ret := (Option.some Jvm.ClassFile.FieldType.int)) (by decide) rfl ?_
  intro p e s m args below meth c s₁ B hml hv
  obtain ⟨hargs, hP, hK, hE⟩ := hv
  have hx := B.exec
  have hb := B.bytes
  have hr := B.returns
  have hlk := B.notSynchronized
  have hB : CallFix p m c cJ6_bitCount_0f7a4 1 s args TB RJ6 := ⟨hx, hb, hml, findClass_of_methodNamed B.named, fun q h => (atoms_spec (ws := Cond.code yJ6_bitCount_0f7a4 cJ6_bitCount_0f7a4 1 ((Option.some Jvm.ClassFile.FieldType.int)) :: TB) B.pre) q (List.mem_cons_of_mem _ h)⟩
  have hS : va_S (xw_A G) s.heap s.heap [] := va_S.rf
  have hl := lv_entry [.int a0] (n := 1) (Nat.le_of_ble_eq_true rfl)
  rw [show entryFrame m args 1 = entryFrame m ([.int a0] : List Value).toArray 1 from by rw [hargs], lg_entry_eq]
  generalize (lg_sl [.int a0] ++ List.replicate (1 - (lg_sl [.int a0]).length) Slot.unset).toArray = ls at hl ⊢
  have hP : va_P (xw_D G) xw_cl (xw_W G w0) s.heap := hP
  have hl : lv_has ls 1 [(0, .int a0)] := hl
  have HH : ∀ (H : Heap) (locs : List Loc) (hP : va_P (xw_D G) xw_cl (xw_W G w0) H) (hS : va_S (xw_A G) s.heap H locs), xw_Wi G p l e (xw_rm (0) (0)) s m args below meth c H locs r0 w0 (F0 m 0 ls []) := by
    intro H locs hP hS
    unfold fJ6_bitCount_0f7a4 at hf
    refine lv_iload_n hx hb dJ6_bitCount_0f7a4_0 rfl (lv_at hl 0 rfl) ?_
    refine lv_iload_n hx hb dJ6_bitCount_0f7a4_1 rfl (lv_at hl 0 rfl) ?_
    refine lv_iconst (v := 1) hx hb dJ6_bitCount_0f7a4_2 (by decide) ?_
    refine lv_iushr hx hb dJ6_bitCount_0f7a4_3 rfl ?_
    refine lv_ldcw (v := (1431655765)) hx hb hB.2.2.2.1 (hB.2.2.2.2 _ tw_571) dJ6_bitCount_0f7a4_4 ?_
    refine lv_iand hx hb dJ6_bitCount_0f7a4_7 ?_
    refine lv_isub hx hb dJ6_bitCount_0f7a4_8 ?_
    refine lv_topi (fun x0_1 ex0_1 => ?_)
    replace hf := xw_lt_e ex0_1 hf
    refine lv_istore_n (lv' := [(0, .int x0_1)]) hx hb dJ6_bitCount_0f7a4_9 rfl hl (by decide) rfl (fun ls hl => ?_)
    refine lv_iload_n hx hb dJ6_bitCount_0f7a4_10 rfl (lv_at hl 0 rfl) ?_
    refine lv_ldcw (v := (858993459)) hx hb hB.2.2.2.1 (hB.2.2.2.2 _ tw_572) dJ6_bitCount_0f7a4_11 ?_
    refine lv_iand hx hb dJ6_bitCount_0f7a4_14 ?_
    refine lv_iload_n hx hb dJ6_bitCount_0f7a4_15 rfl (lv_at hl 0 rfl) ?_
    refine lv_iconst (v := 2) hx hb dJ6_bitCount_0f7a4_16 (by decide) ?_
    refine lv_iushr hx hb dJ6_bitCount_0f7a4_17 rfl ?_
    refine lv_ldcw (v := (858993459)) hx hb hB.2.2.2.1 (hB.2.2.2.2 _ tw_572) dJ6_bitCount_0f7a4_18 ?_
    refine lv_iand hx hb dJ6_bitCount_0f7a4_21 ?_
    refine lv_iadd hx hb dJ6_bitCount_0f7a4_22 ?_
    refine lv_topi (fun x0_2 ex0_2 => ?_)
    replace hf := xw_lt_e ex0_2 hf
    refine lv_istore_n (lv' := [(0, .int x0_2)]) hx hb dJ6_bitCount_0f7a4_23 rfl hl (by decide) rfl (fun ls hl => ?_)
    refine lv_iload_n hx hb dJ6_bitCount_0f7a4_24 rfl (lv_at hl 0 rfl) ?_
    refine lv_iload_n hx hb dJ6_bitCount_0f7a4_25 rfl (lv_at hl 0 rfl) ?_
    refine lv_iconst (v := 4) hx hb dJ6_bitCount_0f7a4_26 (by decide) ?_
    refine lv_iushr hx hb dJ6_bitCount_0f7a4_27 rfl ?_
    refine lv_iadd hx hb dJ6_bitCount_0f7a4_28 ?_
    refine lv_ldcw (v := (252645135)) hx hb hB.2.2.2.1 (hB.2.2.2.2 _ tw_573) dJ6_bitCount_0f7a4_29 ?_
    refine lv_iand hx hb dJ6_bitCount_0f7a4_32 ?_
    refine lv_topi (fun x0_3 ex0_3 => ?_)
    replace hf := xw_lt_e ex0_3 hf
    refine lv_istore_n (lv' := [(0, .int x0_3)]) hx hb dJ6_bitCount_0f7a4_33 rfl hl (by decide) rfl (fun ls hl => ?_)
    refine lv_iload_n hx hb dJ6_bitCount_0f7a4_34 rfl (lv_at hl 0 rfl) ?_
    refine lv_iload_n hx hb dJ6_bitCount_0f7a4_35 rfl (lv_at hl 0 rfl) ?_
    refine lv_bipush (v := 8) hx hb dJ6_bitCount_0f7a4_36 (by decide) ?_
    refine lv_iushr hx hb dJ6_bitCount_0f7a4_38 rfl ?_
    refine lv_iadd hx hb dJ6_bitCount_0f7a4_39 ?_
    refine lv_topi (fun x0_4 ex0_4 => ?_)
    replace hf := xw_lt_e ex0_4 hf
    refine lv_istore_n (lv' := [(0, .int x0_4)]) hx hb dJ6_bitCount_0f7a4_40 rfl hl (by decide) rfl (fun ls hl => ?_)
    refine lv_iload_n hx hb dJ6_bitCount_0f7a4_41 rfl (lv_at hl 0 rfl) ?_
    refine lv_iload_n hx hb dJ6_bitCount_0f7a4_42 rfl (lv_at hl 0 rfl) ?_
    refine lv_bipush (v := 16) hx hb dJ6_bitCount_0f7a4_43 (by decide) ?_
    refine lv_iushr hx hb dJ6_bitCount_0f7a4_45 rfl ?_
    refine lv_iadd hx hb dJ6_bitCount_0f7a4_46 ?_
    refine lv_topi (fun x0_5 ex0_5 => ?_)
    replace hf := xw_lt_e ex0_5 hf
    refine lv_istore_n (lv' := [(0, .int x0_5)]) hx hb dJ6_bitCount_0f7a4_47 rfl hl (by decide) rfl (fun ls hl => ?_)
    refine lv_iload_n hx hb dJ6_bitCount_0f7a4_48 rfl (lv_at hl 0 rfl) ?_
    refine lv_bipush (v := 63) hx hb dJ6_bitCount_0f7a4_49 (by decide) ?_
    refine lv_iand hx hb dJ6_bitCount_0f7a4_51 ?_
    have h0 := xw_so hf
    have h1 : w0 = w0 := rfl
    exact xw_iret hB hK hE hS hP hr hlk h0 h1 dJ6_bitCount_0f7a4_52
  exact HH s.heap [] hP hS
def fX7_kept_165 (n : Nat) (a1 : Int32) (a2 : Int32) (x3 : Int32) (w : xw_M) : Option (Int32 × xw_M) := some (x3, w)
def fX7_kept_159 (n : Nat) (a1 : Int32) (a2 : Int32) (x3 : Int32) (x4 : Int32) (x5 : Int32) (w : xw_M) : Option ((Int32 × Int32 × Int32 × xw_M) ⊕ (Int32 × xw_M)) := xw_lt (x5 + 1) (fun x5_30 => some (.inl (x3, x4, x5_30, w)))
def fX7_kept_99 (n : Nat) (a1 : Int32) (a2 : Int32) (x3 : Int32) (x4 : Int32) (x5 : Int32) (v0 : Int32) (w : xw_M) : Option ((Int32 × Int32 × Int32 × xw_M) ⊕ (Int32 × xw_M)) := if v0 = 0 then fX7_kept_159 n a1 a2 x3 x4 x5 w else xw_bp (fJ6_bitCount_0f7a4 x5) (fun r21 => if x4 ≤ r21 then fX7_kept_159 n a1 a2 x3 x4 x5 w else xw_b (fX4_share n 1 a1 (w.1 1 8) ((w.1 1 7) ||| x5) w) (fun r24 w25 => if r24 < a2 then fX7_kept_159 n a1 a2 x3 x4 x5 w25 else xw_bp (fJ6_bitCount_0f7a4 x5) (fun r28 => fX7_kept_159 n a1 a2 x5 r28 x5 w25)))
def fX7_kept_98 (n : Nat) (a1 : Int32) (a2 : Int32) (x3 : Int32) (x4 : Int32) (x5 : Int32) (w : xw_M) : Option ((Int32 × Int32 × Int32 × xw_M) ⊕ (Int32 × xw_M)) := fX7_kept_99 n a1 a2 x3 x4 x5 (0 : Int32) w
def fX7_kept_b65 (n : Nat) (a1 : Int32) (a2 : Int32) (x3 : Int32) (x4 : Int32) (x5 : Int32) (w : xw_M) : Option ((Int32 × Int32 × Int32 × xw_M) ⊕ (Int32 × xw_M)) := if (64 : Int32) ≤ x5 then some (.inr (x3, w)) else if (x5 >>> ((w.1 1 0) &&& 31)) = 0 then if ((x5 >>> (a1 &&& 31)) &&& (1 : Int32)) = 0 then fX7_kept_99 n a1 a2 x3 x4 x5 (1 : Int32) w else fX7_kept_98 n a1 a2 x3 x4 x5 w else fX7_kept_98 n a1 a2 x3 x4 x5 w
def fX7_kept_65 (n : Nat) (a1 : Int32) (a2 : Int32) (x3 : Int32) (x4 : Int32) (x5 : Int32) (w : xw_M) : Option (Int32 × xw_M) := xw_bp (xw_it (fun z => fX7_kept_b65 n a1 a2 z.1 z.2.1 z.2.2.1 z.2.2.2) n (x3, x4, x5, w)) (fun z => (fun (x3 : Int32) (w : xw_M) => fX7_kept_165 n a1 a2 x3 w) z.1 z.2)
def fX7_kept (n : Nat) (a1 : Int32) (a2 : Int32) (w0 : xw_M) : Option (Int32 × xw_M) := xw_bp (fX5_has 1 a1 w0) (fun r1 => if r1 = 0 then some ((-1 : Int32), w0) else xw_bp (fX7_within a2 (999 : Int32)) (fun r4 => if r4 = 0 then some ((-2 : Int32), w0) else xw_bp (fX5_isAway 1 a1 w0) (fun r7 => if r7 = 0 then xw_bp (fX7_held w0) (fun r10 => xw_om r10 (none) (fun t12 => xw_cc (xw_pa t12) (xw_b (fX4_look n 1 t12 w0) (fun (_ : Unit) w15 => fX7_kept_65 n a1 a2 (-5 : Int32) (7 : Int32) (0 : Int32) w15)))) else some ((-5 : Int32), w0))))
set_option maxHeartbeats 4000000 in
set_option maxRecDepth 100000 in
theorem kX7_kept (l : Launch) (G : xw_G) (hG : xw_ok G) (n : Nat) (a1 : Int32) (a2 : Int32) (w0 : xw_M) (r0 : Int32) (wz : xw_M) (hf : fX7_kept n a1 a2 w0 = some (r0, wz)) : xw_Ti l G yX7_kept cX7_kept 7 ((Option.some Jvm.ClassFile.FieldType.int)) (4) (115) [.ref (xw_ad G 0), .int a1, .int a2] w0 r0 wz := by
  unfold xw_Ti
  refine Met.ofW (cc := cX7_kept) (maxL := 7) (ret := (Option.some Jvm.ClassFile.FieldType.int)) (by decide) rfl ?_
  intro p e s m args below meth c s₁ B hml hv
  obtain ⟨hargs, hP, hK, hE⟩ := hv
  have hx := B.exec
  have hb := B.bytes
  have hr := B.returns
  have hlk := B.notSynchronized
  have hB : CallFix p m c cX7_kept 7 s args TB RX7 := ⟨hx, hb, hml, findClass_of_methodNamed B.named, fun q h => (atoms_spec (ws := Cond.code yX7_kept cX7_kept 7 ((Option.some Jvm.ClassFile.FieldType.int)) :: TB) B.pre) q (List.mem_cons_of_mem _ h)⟩
  have hS : va_S (xw_A G) s.heap s.heap [] := va_S.rf
  have hl := lv_entry [.ref (xw_ad G 0), .int a1, .int a2] (n := 7) (Nat.le_of_ble_eq_true rfl)
  rw [show entryFrame m args 7 = entryFrame m ([.ref (xw_ad G 0), .int a1, .int a2] : List Value).toArray 7 from by rw [hargs], lg_entry_eq]
  generalize (lg_sl [.ref (xw_ad G 0), .int a1, .int a2] ++ List.replicate (7 - (lg_sl [.ref (xw_ad G 0), .int a1, .int a2]).length) Slot.unset).toArray = ls at hl ⊢
  have hP : va_P (xw_D G) xw_cl (xw_W G w0) s.heap := hP
  have hl : lv_has ls 7 [(0, .ref (xw_ad G 0)), (1, .int a1), (2, .int a2)] := hl
  have HH : ∀ (H : Heap) (locs : List Loc) (hP : va_P (xw_D G) xw_cl (xw_W G w0) H) (hS : va_S (xw_A G) s.heap H locs), xw_Wi G p l e (xw_rm (4) (115)) s m args below meth c H locs r0 wz (F0 m 0 ls []) := by
    intro H locs hP hS
    unfold fX7_kept at hf
    have J165 : ∀ (x3 : Int32) (w : xw_M) (hf : fX7_kept_165 n a1 a2 x3 w = some (r0, wz)) (H : Heap) (locs : List Loc) (ls : Array Slot) (hP : va_P (xw_D G) xw_cl (xw_W G w) H) (hS : va_S (xw_A G) s.heap H locs) (hl : lv_has ls 7 [(3, .int x3)]), xw_Wi G p l e (xw_rm (4) (115)) s m args below meth c H locs r0 wz (F0 m 165 ls []) := by
      intro x3 w hf H locs ls hP hS hl
      unfold fX7_kept_165 at hf
      refine lv_iload_n hx hb dX7_kept_165 rfl (lv_at hl 0 rfl) ?_
      obtain ⟨h0, h1⟩ := xw_s2 hf
      exact xw_iret hB hK hE hS hP hr hlk h0 h1 dX7_kept_166
    have J65 : ∀ (x3 : Int32) (x4 : Int32) (x5 : Int32) (w : xw_M) (hf : fX7_kept_65 n a1 a2 x3 x4 x5 w = some (r0, wz)) (H : Heap) (locs : List Loc) (ls : Array Slot) (hP : va_P (xw_D G) xw_cl (xw_W G w) H) (hS : va_S (xw_A G) s.heap H locs) (hl : lv_has ls 7 [(0, .ref (xw_ad G 0)), (1, .int a1), (2, .int a2), (3, .int x3), (4, .int x4), (5, .int x5)]), xw_Wi G p l e (xw_rm (4) (115)) s m args below meth c H locs r0 wz (F0 m 65 ls []) := by
      intro x3 x4 x5 w hf H locs ls hP hS hl
      unfold fX7_kept_65 at hf
      replace hf := xw_bp_e hf
      obtain ⟨bb65, hit65, hfx65⟩ := hf
      have XX65 : ∀ (x3 : Int32) (w : xw_M) (hf : fX7_kept_165 n a1 a2 x3 w = some (r0, wz)) (H : Heap) (locs : List Loc) (ls : Array Slot) (hP : va_P (xw_D G) xw_cl (xw_W G w) H) (hS : va_S (xw_A G) s.heap H locs) (hl : lv_has ls 7 [(3, .int x3)]), xw_Wi G p l e (xw_rm (4) (115)) s m args below meth c H locs r0 wz (F0 m 165 ls []) := by
        intro x3 w hf H locs ls hP hS hl
        exact J165 x3 w hf H locs ls hP hS (lv_sub hl [0] rfl)
      have LL65 : ∀ (nn : Nat) (x3 : Int32) (x4 : Int32) (x5 : Int32) (w : xw_M) (hit : xw_it (fun z => fX7_kept_b65 n a1 a2 z.1 z.2.1 z.2.2.1 z.2.2.2) nn (x3, x4, x5, w) = some bb65) (H : Heap) (locs : List Loc) (ls : Array Slot) (hP : va_P (xw_D G) xw_cl (xw_W G w) H) (hS : va_S (xw_A G) s.heap H locs) (hl : lv_has ls 7 [(0, .ref (xw_ad G 0)), (1, .int a1), (2, .int a2), (3, .int x3), (4, .int x4), (5, .int x5)]), xw_Wi G p l e (xw_rm (4) (115)) s m args below meth c H locs r0 wz (F0 m 65 ls []) := by
        intro nn
        induction nn with
        | zero => intro x3 x4 x5 w hit; exact (xw_it_0 hit).elim
        | succ nn ih65 =>
          intro x3 x4 x5 w hit H locs ls hP hS hl
          replace hit := xw_it_e hit
          obtain ⟨wv65, hf, hC65, hX65⟩ := hit
          replace hf : fX7_kept_b65 n a1 a2 x3 x4 x5 w = some wv65 := hf
          unfold fX7_kept_b65 at hf
          have J159 : ∀ (x3 : Int32) (x4 : Int32) (x5 : Int32) (w : xw_M) (hf : fX7_kept_159 n a1 a2 x3 x4 x5 w = some wv65) (H : Heap) (locs : List Loc) (ls : Array Slot) (hP : va_P (xw_D G) xw_cl (xw_W G w) H) (hS : va_S (xw_A G) s.heap H locs) (hl : lv_has ls 7 [(0, .ref (xw_ad G 0)), (1, .int a1), (2, .int a2), (3, .int x3), (4, .int x4), (5, .int x5)]), xw_Wi G p l e (xw_rm (4) (115)) s m args below meth c H locs r0 wz (F0 m 159 ls []) := by
            intro x3 x4 x5 w hf H locs ls hP hS hl
            unfold fX7_kept_159 at hf
            obtain ⟨x5_30, ex5_30⟩ : ∃ y : Int32, y = x5 + 1 := ⟨_, rfl⟩
            replace hf := xw_lt_e ex5_30 hf
            refine lv_iinc (v := x5_30) (lv' := [(5, .int x5_30), (0, .ref (xw_ad G 0)), (1, .int a1), (2, .int a2), (3, .int x3), (4, .int x4)]) hx hb dX7_kept_159 hl (k := 5) rfl (by rw [ex5_30]; rfl) (by decide) rfl (fun ls hl => ?_)
            refine lv_goto (tgt := 65) hx hb dX7_kept_162 (by decide) ?_
            have hi := hC65 _ (xw_so hf).symm
            exact ih65 x3 x4 x5_30 w hi H locs ls hP hS (lv_sub hl [1, 2, 3, 4, 5, 0] rfl)
          have J99 : ∀ (x3 : Int32) (x4 : Int32) (x5 : Int32) (v0 : Int32) (w : xw_M) (hf : fX7_kept_99 n a1 a2 x3 x4 x5 v0 w = some wv65) (H : Heap) (locs : List Loc) (ls : Array Slot) (hP : va_P (xw_D G) xw_cl (xw_W G w) H) (hS : va_S (xw_A G) s.heap H locs) (hl : lv_has ls 7 [(0, .ref (xw_ad G 0)), (1, .int a1), (2, .int a2), (3, .int x3), (4, .int x4), (5, .int x5)]), xw_Wi G p l e (xw_rm (4) (115)) s m args below meth c H locs r0 wz (F0 m 99 ls [.int v0]) := by
            intro x3 x4 x5 v0 w hf H locs ls hP hS hl
            unfold fX7_kept_99 at hf
            refine lv_istore (lv' := [(6, .int v0), (0, .ref (xw_ad G 0)), (1, .int a1), (2, .int a2), (3, .int x3), (4, .int x4), (5, .int x5)]) hx hb dX7_kept_99 hl (by decide) rfl (fun ls hl => ?_)
            refine lv_iload hx hb dX7_kept_101 (lv_at hl 0 rfl) ?_
            refine lv_if_eq (tgt := 159) hx hb dX7_kept_103 (by decide) (fun c20 => ?_) (fun c20 => ?_)
            · replace hf := xw_ip c20 hf
              exact J159 x3 x4 x5 w hf H locs ls hP hS (lv_sub hl [1, 2, 3, 4, 5, 6] rfl)
            · replace hf := xw_in' c20 hf
              refine lv_iload hx hb dX7_kept_106 (lv_at hl 6 rfl) ?_
              replace hf := xw_bp_e hf
              obtain ⟨r21, he22, hf⟩ := hf
              refine xw_Si hB hK hE hS hP (As := [.int x5]) (rest := []) (kJ6_bitCount_0f7a4 l G hG x5 w _ he22) tw_568 tw_570 tw_569 tw_16 1 hs_J6_bitCount_0f7a4 ⟨Nat.le_of_ble_eq_true rfl, Nat.le_of_ble_eq_true rfl⟩ rfl hl.1 (Nat.le_of_ble_eq_true rfl) rfl dX7_kept_108 ⟨Nat.zero_le _, Nat.zero_le _⟩ (fun H locs hP hS => ?_)
              refine lv_iload hx hb dX7_kept_111 (lv_at hl 5 rfl) ?_
              refine lv_icmp_ge (tgt := 159) hx hb dX7_kept_113 (by decide) (fun c23 => ?_) (fun c23 => ?_)
              · replace hf := xw_ip c23 hf
                exact J159 x3 x4 x5 w hf H locs ls hP hS (lv_sub hl [1, 2, 3, 4, 5, 6] rfl)
              · replace hf := xw_in' c23 hf
                refine lv_aload_n hx hb dX7_kept_116 rfl (lv_at hl 1 rfl) ?_
                refine xw_get hB hK hP (xw_o7 G) (C := RX7) (T := TX7) (N := 11) rfl TBi_X7 8 (by decide) tw_263 rfl rfl dX7_kept_117 ?_
                refine lv_aload_n hx hb dX7_kept_120 rfl (lv_at hl 1 rfl) ?_
                refine xw_get hB hK hP (xw_o7 G) (C := RX7) (T := TX7) (N := 11) rfl TBi_X7 0 (by decide) tw_255 rfl rfl dX7_kept_121 ?_
                refine lv_iload_n hx hb dX7_kept_124 rfl (lv_at hl 2 rfl) ?_
                refine lv_aload_n hx hb dX7_kept_125 rfl (lv_at hl 1 rfl) ?_
                refine xw_get hB hK hP (xw_o7 G) (C := RX7) (T := TX7) (N := 11) rfl TBi_X7 0 (by decide) tw_255 rfl rfl dX7_kept_126 ?_
                refine xw_get hB hK hP (xw_o5 G (Or.inl rfl)) (C := RX5) (T := TX5) (N := 14) rfl TBi_X5 8 (by decide) tw_87 rfl rfl dX7_kept_129 ?_
                refine lv_aload_n hx hb dX7_kept_132 rfl (lv_at hl 1 rfl) ?_
                refine xw_get hB hK hP (xw_o7 G) (C := RX7) (T := TX7) (N := 11) rfl TBi_X7 0 (by decide) tw_255 rfl rfl dX7_kept_133 ?_
                refine xw_get hB hK hP (xw_o5 G (Or.inl rfl)) (C := RX5) (T := TX5) (N := 14) rfl TBi_X5 7 (by decide) tw_84 rfl rfl dX7_kept_136 ?_
                refine lv_iload hx hb dX7_kept_139 (lv_at hl 6 rfl) ?_
                refine lv_ior hx hb dX7_kept_141 ?_
                replace hf := xw_b_e hf
                obtain ⟨r24, w25, he26, hf⟩ := hf
                refine xw_Vi hB hK hE hS hP (As := [.ref (xw_ad G 1), .int a1, .int (w.1 1 8), .int ((w.1 1 7) ||| x5)]) (rest := []) (kX4_share l G hG n 1 a1 (w.1 1 8) ((w.1 1 7) ||| x5) (Or.inl rfl) w _ _ he26) gs_X7_122 (xw_rc hK hP (C := RX4) (T := TX4) (N := 3) (xw_o4 G) rfl) 4 hv_X4_share ⟨Nat.le_of_ble_eq_true rfl, Nat.le_of_ble_eq_true rfl⟩ rfl hl.1 (Nat.le_of_ble_eq_true rfl) rfl dX7_kept_142 ⟨Nat.zero_le _, Nat.zero_le _⟩ (fun H locs hP hS => ?_)
                refine lv_iload_n hx hb dX7_kept_145 rfl (lv_at hl 3 rfl) ?_
                refine lv_icmp_lt (tgt := 159) hx hb dX7_kept_146 (by decide) (fun c27 => ?_) (fun c27 => ?_)
                · replace hf := xw_ip c27 hf
                  exact J159 x3 x4 x5 w25 hf H locs ls hP hS (lv_sub hl [1, 2, 3, 4, 5, 6] rfl)
                · replace hf := xw_in' c27 hf
                  refine lv_iload hx hb dX7_kept_149 (lv_at hl 6 rfl) ?_
                  refine lv_istore_n (lv' := [(3, .int x5), (6, .int v0), (0, .ref (xw_ad G 0)), (1, .int a1), (2, .int a2), (4, .int x4), (5, .int x5)]) hx hb dX7_kept_151 rfl hl (by decide) rfl (fun ls hl => ?_)
                  refine lv_iload hx hb dX7_kept_152 (lv_at hl 6 rfl) ?_
                  replace hf := xw_bp_e hf
                  obtain ⟨r28, he29, hf⟩ := hf
                  refine xw_Si hB hK hE hS hP (As := [.int x5]) (rest := []) (kJ6_bitCount_0f7a4 l G hG x5 w25 _ he29) tw_568 tw_570 tw_569 tw_16 1 hs_J6_bitCount_0f7a4 ⟨Nat.le_of_ble_eq_true rfl, Nat.le_of_ble_eq_true rfl⟩ rfl hl.1 (Nat.le_of_ble_eq_true rfl) rfl dX7_kept_154 ⟨Nat.zero_le _, Nat.zero_le _⟩ (fun H locs hP hS => ?_)
                  refine lv_istore (lv' := [(4, .int r28), (3, .int x5), (6, .int v0), (0, .ref (xw_ad G 0)), (1, .int a1), (2, .int a2), (5, .int x5)]) hx hb dX7_kept_157 hl (by decide) rfl (fun ls hl => ?_)
                  exact J159 x5 r28 x5 w25 hf H locs ls hP hS (lv_sub hl [3, 4, 5, 1, 0, 6] rfl)
          have J98 : ∀ (x3 : Int32) (x4 : Int32) (x5 : Int32) (w : xw_M) (hf : fX7_kept_98 n a1 a2 x3 x4 x5 w = some wv65) (H : Heap) (locs : List Loc) (ls : Array Slot) (hP : va_P (xw_D G) xw_cl (xw_W G w) H) (hS : va_S (xw_A G) s.heap H locs) (hl : lv_has ls 7 [(0, .ref (xw_ad G 0)), (1, .int a1), (2, .int a2), (3, .int x3), (4, .int x4), (5, .int x5)]), xw_Wi G p l e (xw_rm (4) (115)) s m args below meth c H locs r0 wz (F0 m 98 ls []) := by
            intro x3 x4 x5 w hf H locs ls hP hS hl
            unfold fX7_kept_98 at hf
            refine lv_iconst (v := 0) hx hb dX7_kept_98 (by decide) ?_
            exact J99 x3 x4 x5 (0 : Int32) w hf H locs ls hP hS (lv_sub hl [0, 1, 2, 3, 4, 5] rfl)
          refine lv_iload hx hb dX7_kept_65 (lv_at hl 5 rfl) ?_
          refine lv_bipush (v := 64) hx hb dX7_kept_67 (by decide) ?_
          refine lv_icmp_ge (tgt := 165) hx hb dX7_kept_69 (by decide) (fun c17 => ?_) (fun c17 => ?_)
          · replace hf := xw_ip c17 hf
            have he65 := hX65 _ (xw_so hf).symm
            rw [← he65] at hfx65
            exact XX65 x3 w hfx65 H locs ls hP hS (lv_sub hl [3] rfl)
          · replace hf := xw_in' c17 hf
            refine lv_iload hx hb dX7_kept_72 (lv_at hl 5 rfl) ?_
            refine lv_aload_n hx hb dX7_kept_74 rfl (lv_at hl 0 rfl) ?_
            refine xw_get hB hK hP (xw_o7 G) (C := RX7) (T := TX7) (N := 11) rfl TBi_X7 0 (by decide) tw_255 rfl rfl dX7_kept_75 ?_
            refine xw_get hB hK hP (xw_o5 G (Or.inl rfl)) (C := RX5) (T := TX5) (N := 14) rfl TBi_X5 0 (by decide) tw_62 rfl rfl dX7_kept_78 ?_
            refine lv_ishr hx hb dX7_kept_81 ?_
            refine lv_if_ne (tgt := 98) hx hb dX7_kept_82 (by decide) (fun c18 => ?_) (fun c18 => ?_)
            · replace hf := xw_in' c18 hf
              exact J98 x3 x4 x5 w hf H locs ls hP hS (lv_sub hl [0, 1, 2, 3, 4, 5] rfl)
            · replace hf := xw_ip c18 hf
              refine lv_iload hx hb dX7_kept_85 (lv_at hl 5 rfl) ?_
              refine lv_iload_n hx hb dX7_kept_87 rfl (lv_at hl 1 rfl) ?_
              refine lv_ishr hx hb dX7_kept_88 ?_
              refine lv_iconst (v := 1) hx hb dX7_kept_89 (by decide) ?_
              refine lv_iand hx hb dX7_kept_90 ?_
              refine lv_if_ne (tgt := 98) hx hb dX7_kept_91 (by decide) (fun c19 => ?_) (fun c19 => ?_)
              · replace hf := xw_in' c19 hf
                exact J98 x3 x4 x5 w hf H locs ls hP hS (lv_sub hl [0, 1, 2, 3, 4, 5] rfl)
              · replace hf := xw_ip c19 hf
                refine lv_iconst (v := 1) hx hb dX7_kept_94 (by decide) ?_
                refine lv_goto (tgt := 99) hx hb dX7_kept_95 (by decide) ?_
                exact J99 x3 x4 x5 (1 : Int32) w hf H locs ls hP hS (lv_sub hl [0, 1, 2, 3, 4, 5] rfl)
      exact LL65 n x3 x4 x5 w hit65 H locs ls hP hS hl
    refine lv_aload_n hx hb dX7_kept_0 rfl (lv_at hl 0 rfl) ?_
    refine xw_get hB hK hP (xw_o7 G) (C := RX7) (T := TX7) (N := 11) rfl TBi_X7 0 (by decide) tw_255 rfl rfl dX7_kept_1 ?_
    refine lv_iload_n hx hb dX7_kept_4 rfl (lv_at hl 1 rfl) ?_
    replace hf := xw_bp_e hf
    obtain ⟨r1, he2, hf⟩ := hf
    refine xw_Vi hB hK hE hS hP (As := [.int a1]) (rest := []) (kX5_has l G hG 1 a1 (Or.inl rfl) w0 _ he2) gs_X7_77 (xw_rc hK hP (C := RX5) (T := TX5) (N := 14) (xw_o5 G (Or.inl rfl)) rfl) 1 hv_X5_has ⟨Nat.le_of_ble_eq_true rfl, Nat.le_of_ble_eq_true rfl⟩ rfl hl.1 (Nat.le_of_ble_eq_true rfl) rfl dX7_kept_5 ⟨Nat.zero_le _, Nat.zero_le _⟩ (fun H locs hP hS => ?_)
    refine lv_if_ne (tgt := 13) hx hb dX7_kept_8 (by decide) (fun c3 => ?_) (fun c3 => ?_)
    · replace hf := xw_in' c3 hf
      refine lv_iload_n hx hb dX7_kept_13 rfl (lv_at hl 2 rfl) ?_
      refine lv_sipush (v := 999) hx hb dX7_kept_14 (by decide) ?_
      replace hf := xw_bp_e hf
      obtain ⟨r4, he5, hf⟩ := hf
      refine xw_Si hB hK hE hS hP (As := [.int a2, .int (999 : Int32)]) (rest := []) (kX7_within l G hG a2 (999 : Int32) w0 _ he5) tw_293 tw_295 tw_294 tw_1 2 hs_X7_within ⟨Nat.le_of_ble_eq_true rfl, Nat.le_of_ble_eq_true rfl⟩ rfl hl.1 (Nat.le_of_ble_eq_true rfl) rfl dX7_kept_17 ⟨Nat.zero_le _, Nat.zero_le _⟩ (fun H locs hP hS => ?_)
      refine lv_if_ne (tgt := 26) hx hb dX7_kept_20 (by decide) (fun c6 => ?_) (fun c6 => ?_)
      · replace hf := xw_in' c6 hf
        refine lv_aload_n hx hb dX7_kept_26 rfl (lv_at hl 0 rfl) ?_
        refine xw_get hB hK hP (xw_o7 G) (C := RX7) (T := TX7) (N := 11) rfl TBi_X7 0 (by decide) tw_255 rfl rfl dX7_kept_27 ?_
        refine lv_iload_n hx hb dX7_kept_30 rfl (lv_at hl 1 rfl) ?_
        replace hf := xw_bp_e hf
        obtain ⟨r7, he8, hf⟩ := hf
        refine xw_Vi hB hK hE hS hP (As := [.int a1]) (rest := []) (kX5_isAway l G hG 1 a1 (Or.inl rfl) w0 _ he8) gs_X7_98 (xw_rc hK hP (C := RX5) (T := TX5) (N := 14) (xw_o5 G (Or.inl rfl)) rfl) 1 hv_X5_isAway ⟨Nat.le_of_ble_eq_true rfl, Nat.le_of_ble_eq_true rfl⟩ rfl hl.1 (Nat.le_of_ble_eq_true rfl) rfl dX7_kept_31 ⟨Nat.zero_le _, Nat.zero_le _⟩ (fun H locs hP hS => ?_)
        refine lv_if_eq (tgt := 40) hx hb dX7_kept_34 (by decide) (fun c9 => ?_) (fun c9 => ?_)
        · replace hf := xw_ip c9 hf
          refine lv_aload_n hx hb dX7_kept_40 rfl (lv_at hl 0 rfl) ?_
          refine xw_get hB hK hP (xw_o7 G) (C := RX7) (T := TX7) (N := 11) rfl TBi_X7 8 (by decide) tw_263 rfl rfl dX7_kept_41 ?_
          refine lv_aload_n hx hb dX7_kept_44 rfl (lv_at hl 0 rfl) ?_
          refine xw_get hB hK hP (xw_o7 G) (C := RX7) (T := TX7) (N := 11) rfl TBi_X7 0 (by decide) tw_255 rfl rfl dX7_kept_45 ?_
          refine lv_aload_n hx hb dX7_kept_48 rfl (lv_at hl 0 rfl) ?_
          replace hf := xw_bp_e hf
          obtain ⟨r10, he11, hf⟩ := hf
          refine xw_Vq hB hK hE hS hP (As := []) (rest := [.ref (xw_ad G 1), .ref (xw_ad G 64)]) (kX7_held l G hG w0 _ he11) gs_X7_108 (xw_rc hK hP (C := RX7) (T := TX7) (N := 11) (xw_o7 G) rfl) 0 hv_X7_held ⟨Nat.le_of_ble_eq_true rfl, Nat.le_of_ble_eq_true rfl⟩ rfl hl.1 (Nat.le_of_ble_eq_true rfl) rfl dX7_kept_49 ⟨Nat.zero_le _, Nat.zero_le _⟩ (fun H locs hP hS => ?_)
          cases r10 with
          | none =>
            replace hf := xw_om_n hf
            cases hf
          | some t12 =>
            replace hf := xw_om_s hf
            replace hf := xw_cc_e hf
            obtain ⟨ht13, hf⟩ := hf
            replace hf := xw_b_e hf
            obtain ⟨r14, w15, he16, hf⟩ := hf
            refine xw_Vv hB hK hE hS hP (As := [.ref (xw_ad G 1), .ref (xw_ad G t12)]) (rest := []) (kX4_look l G hG n 1 t12 (Or.inl rfl) ht13 w0 _ _ he16) gs_X7_112 (xw_rc hK hP (C := RX4) (T := TX4) (N := 3) (xw_o4 G) rfl) 2 hv_X4_look ⟨Nat.le_of_ble_eq_true rfl, Nat.le_of_ble_eq_true rfl⟩ rfl hl.1 (Nat.le_of_ble_eq_true rfl) rfl dX7_kept_52 ⟨Nat.zero_le _, Nat.zero_le _⟩ (fun H locs hP hS => ?_)
            refine lv_bipush (v := (-5)) hx hb dX7_kept_55 (by decide) ?_
            refine lv_istore_n (lv' := [(3, .int (-5 : Int32)), (0, .ref (xw_ad G 0)), (1, .int a1), (2, .int a2)]) hx hb dX7_kept_57 rfl hl (by decide) rfl (fun ls hl => ?_)
            refine lv_bipush (v := 7) hx hb dX7_kept_58 (by decide) ?_
            refine lv_istore (lv' := [(4, .int (7 : Int32)), (3, .int (-5 : Int32)), (0, .ref (xw_ad G 0)), (1, .int a1), (2, .int a2)]) hx hb dX7_kept_60 hl (by decide) rfl (fun ls hl => ?_)
            refine lv_iconst (v := 0) hx hb dX7_kept_62 (by decide) ?_
            refine lv_istore (lv' := [(5, .int (0 : Int32)), (4, .int (7 : Int32)), (3, .int (-5 : Int32)), (0, .ref (xw_ad G 0)), (1, .int a1), (2, .int a2)]) hx hb dX7_kept_63 hl (by decide) rfl (fun ls hl => ?_)
            exact J65 (-5 : Int32) (7 : Int32) (0 : Int32) w15 hf H locs ls hP hS (lv_sub hl [3, 4, 5, 2, 1, 0] rfl)
        · replace hf := xw_in' c9 hf
          refine lv_bipush (v := (-5)) hx hb dX7_kept_37 (by decide) ?_
          obtain ⟨h0, h1⟩ := xw_s2 hf
          exact xw_iret hB hK hE hS hP hr hlk h0 h1 dX7_kept_39
      · replace hf := xw_ip c6 hf
        refine lv_bipush (v := (-2)) hx hb dX7_kept_23 (by decide) ?_
        obtain ⟨h0, h1⟩ := xw_s2 hf
        exact xw_iret hB hK hE hS hP hr hlk h0 h1 dX7_kept_25
    · replace hf := xw_ip c3 hf
      refine lv_iconst (v := (-1)) hx hb dX7_kept_11 (by decide) ?_
      obtain ⟨h0, h1⟩ := xw_s2 hf
      exact xw_iret hB hK hE hS hP hr hlk h0 h1 dX7_kept_12
  exact HH s.heap [] hP hS
def fX1_empty (b : Nat) (w0 : xw_M) : Option (Int32 × xw_M) := xw_lt (xw_si w0 b 3 (0 : Int32)) (fun w1 => some ((0 : Int32), w1))
set_option maxHeartbeats 4000000 in
set_option maxRecDepth 100000 in
theorem kX1_empty (l : Launch) (G : xw_G) (hG : xw_ok G) (b : Nat) (hb0 : xw_pr b) (w0 : xw_M) (r0 : Int32) (wz : xw_M) (hf : fX1_empty b w0 = some (r0, wz)) : xw_Ti l G yX1_empty cX1_empty 1 ((Option.some Jvm.ClassFile.FieldType.int)) (0) (0) [.ref (xw_ad G b)] w0 r0 wz := by
  unfold xw_Ti
  refine Met.ofW (cc := cX1_empty) (maxL := 1) (ret := (Option.some Jvm.ClassFile.FieldType.int)) (by decide) rfl ?_
  intro p e s m args below meth c s₁ B hml hv
  obtain ⟨hargs, hP, hK, hE⟩ := hv
  have hx := B.exec
  have hb := B.bytes
  have hr := B.returns
  have hlk := B.notSynchronized
  have hB : CallFix p m c cX1_empty 1 s args TB RX1 := ⟨hx, hb, hml, findClass_of_methodNamed B.named, fun q h => (atoms_spec (ws := Cond.code yX1_empty cX1_empty 1 ((Option.some Jvm.ClassFile.FieldType.int)) :: TB) B.pre) q (List.mem_cons_of_mem _ h)⟩
  have hS : va_S (xw_A G) s.heap s.heap [] := va_S.rf
  have hl := lv_entry [.ref (xw_ad G b)] (n := 1) (Nat.le_of_ble_eq_true rfl)
  rw [show entryFrame m args 1 = entryFrame m ([.ref (xw_ad G b)] : List Value).toArray 1 from by rw [hargs], lg_entry_eq]
  generalize (lg_sl [.ref (xw_ad G b)] ++ List.replicate (1 - (lg_sl [.ref (xw_ad G b)]).length) Slot.unset).toArray = ls at hl ⊢
  have hP : va_P (xw_D G) xw_cl (xw_W G w0) s.heap := hP
  have hl : lv_has ls 1 [(0, .ref (xw_ad G b))] := hl
  have HH : ∀ (H : Heap) (locs : List Loc) (hP : va_P (xw_D G) xw_cl (xw_W G w0) H) (hS : va_S (xw_A G) s.heap H locs), xw_Wi G p l e (xw_rm (0) (0)) s m args below meth c H locs r0 wz (F0 m 0 ls []) := by
    intro H locs hP hS
    unfold fX1_empty at hf
    refine lv_aload_n hx hb dX1_empty_0 rfl (lv_at hl 0 rfl) ?_
    refine lv_iconst (v := 0) hx hb dX1_empty_1 (by decide) ?_
    refine xw_put hG hB hK hS hP (x := (0 : Int32)) (xw_o1 G hb0) (C := RX1) (T := TX1) (N := 4) rfl TBi_X1 tyX1 tyX1_ok nmX1 3 (by decide) tw_47 rfl rfl rfl rfl rfl (Nat.le_of_ble_eq_true rfl) rfl dX1_empty_2 (fun w1 ew1 H locs hP hS => ?_)
    replace hf := xw_lt_e ew1 hf
    refine lv_iconst (v := 0) hx hb dX1_empty_5 (by decide) ?_
    obtain ⟨h0, h1⟩ := xw_s2 hf
    exact xw_iret hB hK hE hS hP hr hlk h0 h1 dX1_empty_6
  exact HH s.heap [] hP hS
def fX1_add (b : Nat) (a1 : Int32) (a2 : Int32) (w0 : xw_M) : Option (Int32 × xw_M) := if (w0.1 b 3) < (w0.1 b 0) then xw_b (fX7_put (b + 1) 8 (w0.1 b 3) a1 w0) (fun (_ : Unit) w3 => xw_b (fX7_put (b + 2) 8 (w3.1 b 3) a2 w3) (fun (_ : Unit) w6 => xw_lt (xw_si w6 b 3 ((w6.1 b 3) + (1 : Int32))) (fun w8 => some (w8.1 b 3, w8)))) else some ((-4 : Int32), w0)
set_option maxHeartbeats 4000000 in
set_option maxRecDepth 100000 in
theorem kX1_add (l : Launch) (G : xw_G) (hG : xw_ok G) (b : Nat) (a1 : Int32) (a2 : Int32) (hb0 : xw_pr b) (w0 : xw_M) (r0 : Int32) (wz : xw_M) (hf : fX1_add b a1 a2 w0 = some (r0, wz)) : xw_Ti l G yX1_add cX1_add 3 ((Option.some Jvm.ClassFile.FieldType.int)) (1) (22) [.ref (xw_ad G b), .int a1, .int a2] w0 r0 wz := by
  unfold xw_Ti
  refine Met.ofW (cc := cX1_add) (maxL := 3) (ret := (Option.some Jvm.ClassFile.FieldType.int)) (by decide) rfl ?_
  intro p e s m args below meth c s₁ B hml hv
  obtain ⟨hargs, hP, hK, hE⟩ := hv
  have hx := B.exec
  have hb := B.bytes
  have hr := B.returns
  have hlk := B.notSynchronized
  have hB : CallFix p m c cX1_add 3 s args TB RX1 := ⟨hx, hb, hml, findClass_of_methodNamed B.named, fun q h => (atoms_spec (ws := Cond.code yX1_add cX1_add 3 ((Option.some Jvm.ClassFile.FieldType.int)) :: TB) B.pre) q (List.mem_cons_of_mem _ h)⟩
  have hS : va_S (xw_A G) s.heap s.heap [] := va_S.rf
  have hl := lv_entry [.ref (xw_ad G b), .int a1, .int a2] (n := 3) (Nat.le_of_ble_eq_true rfl)
  rw [show entryFrame m args 3 = entryFrame m ([.ref (xw_ad G b), .int a1, .int a2] : List Value).toArray 3 from by rw [hargs], lg_entry_eq]
  generalize (lg_sl [.ref (xw_ad G b), .int a1, .int a2] ++ List.replicate (3 - (lg_sl [.ref (xw_ad G b), .int a1, .int a2]).length) Slot.unset).toArray = ls at hl ⊢
  have hP : va_P (xw_D G) xw_cl (xw_W G w0) s.heap := hP
  have hl : lv_has ls 3 [(0, .ref (xw_ad G b)), (1, .int a1), (2, .int a2)] := hl
  have HH : ∀ (H : Heap) (locs : List Loc) (hP : va_P (xw_D G) xw_cl (xw_W G w0) H) (hS : va_S (xw_A G) s.heap H locs), xw_Wi G p l e (xw_rm (1) (22)) s m args below meth c H locs r0 wz (F0 m 0 ls []) := by
    intro H locs hP hS
    unfold fX1_add at hf
    refine lv_aload_n hx hb dX1_add_0 rfl (lv_at hl 0 rfl) ?_
    refine xw_get hB hK hP (xw_o1 G hb0) (C := RX1) (T := TX1) (N := 4) rfl TBi_X1 3 (by decide) tw_47 rfl rfl dX1_add_1 ?_
    refine lv_aload_n hx hb dX1_add_4 rfl (lv_at hl 0 rfl) ?_
    refine xw_get hB hK hP (xw_o1 G hb0) (C := RX1) (T := TX1) (N := 4) rfl TBi_X1 0 (by decide) tw_40 rfl rfl dX1_add_5 ?_
    refine lv_icmp_lt (tgt := 14) hx hb dX1_add_8 (by decide) (fun c1 => ?_) (fun c1 => ?_)
    · replace hf := xw_ip c1 hf
      refine lv_aload_n hx hb dX1_add_14 rfl (lv_at hl 0 rfl) ?_
      refine xw_get hB hK hP (xw_o1 G hb0) (C := RX1) (T := TX1) (N := 4) rfl TBi_X1 1 (by decide) tw_41 rfl rfl dX1_add_15 ?_
      refine lv_aload_n hx hb dX1_add_18 rfl (lv_at hl 0 rfl) ?_
      refine xw_get hB hK hP (xw_o1 G hb0) (C := RX1) (T := TX1) (N := 4) rfl TBi_X1 3 (by decide) tw_47 rfl rfl dX1_add_19 ?_
      refine lv_iload_n hx hb dX1_add_22 rfl (lv_at hl 1 rfl) ?_
      replace hf := xw_b_e hf
      obtain ⟨r2, w3, he4, hf⟩ := hf
      refine xw_Nv hB hK hE hS hP (As := [.ref (xw_ad G (b + 1)), .int (w0.1 b 3), .int a1]) (rest := []) (kX7_put l G hG (b + 1) 8 (w0.1 b 3) a1 (xw_a1_1 G hb0) w0 _ _ he4) (host := RX7) (by decide +kernel) tw_302 tw_301 tw_1 3 hs_X7_put ⟨Nat.le_of_ble_eq_true rfl, Nat.le_of_ble_eq_true rfl⟩ rfl hl.1 (Nat.le_of_ble_eq_true rfl) rfl dX1_add_23 ⟨Nat.zero_le _, Nat.zero_le _⟩ (fun H locs hP hS => ?_)
      refine lv_aload_n hx hb dX1_add_26 rfl (lv_at hl 0 rfl) ?_
      refine xw_get hB hK hP (xw_o1 G hb0) (C := RX1) (T := TX1) (N := 4) rfl TBi_X1 2 (by decide) tw_44 rfl rfl dX1_add_27 ?_
      refine lv_aload_n hx hb dX1_add_30 rfl (lv_at hl 0 rfl) ?_
      refine xw_get hB hK hP (xw_o1 G hb0) (C := RX1) (T := TX1) (N := 4) rfl TBi_X1 3 (by decide) tw_47 rfl rfl dX1_add_31 ?_
      refine lv_iload_n hx hb dX1_add_34 rfl (lv_at hl 2 rfl) ?_
      replace hf := xw_b_e hf
      obtain ⟨r5, w6, he7, hf⟩ := hf
      refine xw_Nv hB hK hE hS hP (As := [.ref (xw_ad G (b + 2)), .int (w3.1 b 3), .int a2]) (rest := []) (kX7_put l G hG (b + 2) 8 (w3.1 b 3) a2 (xw_a1_2 G hb0) w3 _ _ he7) (host := RX7) (by decide +kernel) tw_302 tw_301 tw_1 3 hs_X7_put ⟨Nat.le_of_ble_eq_true rfl, Nat.le_of_ble_eq_true rfl⟩ rfl hl.1 (Nat.le_of_ble_eq_true rfl) rfl dX1_add_35 ⟨Nat.zero_le _, Nat.zero_le _⟩ (fun H locs hP hS => ?_)
      refine lv_aload_n hx hb dX1_add_38 rfl (lv_at hl 0 rfl) ?_
      refine lv_dup hx hb dX1_add_39 rfl ?_
      refine xw_get hB hK hP (xw_o1 G hb0) (C := RX1) (T := TX1) (N := 4) rfl TBi_X1 3 (by decide) tw_47 rfl rfl dX1_add_40 ?_
      refine lv_iconst (v := 1) hx hb dX1_add_43 (by decide) ?_
      refine lv_iadd hx hb dX1_add_44 ?_
      refine xw_put hG hB hK hS hP (x := (w6.1 b 3) + (1 : Int32)) (xw_o1 G hb0) (C := RX1) (T := TX1) (N := 4) rfl TBi_X1 tyX1 tyX1_ok nmX1 3 (by decide) tw_47 rfl rfl rfl rfl rfl (Nat.le_of_ble_eq_true rfl) rfl dX1_add_45 (fun w8 ew8 H locs hP hS => ?_)
      replace hf := xw_lt_e ew8 hf
      refine lv_aload_n hx hb dX1_add_48 rfl (lv_at hl 0 rfl) ?_
      refine xw_get hB hK hP (xw_o1 G hb0) (C := RX1) (T := TX1) (N := 4) rfl TBi_X1 3 (by decide) tw_47 rfl rfl dX1_add_49 ?_
      obtain ⟨h0, h1⟩ := xw_s2 hf
      exact xw_iret hB hK hE hS hP hr hlk h0 h1 dX1_add_52
    · replace hf := xw_in' c1 hf
      refine lv_bipush (v := (-4)) hx hb dX1_add_11 (by decide) ?_
      obtain ⟨h0, h1⟩ := xw_s2 hf
      exact xw_iret hB hK hE hS hP hr hlk h0 h1 dX1_add_13
  exact HH s.heap [] hP hS
def fX7_see (a1 : Int32) (a2 : Int32) (w0 : xw_M) : Option (Int32 × xw_M) := if a1 = (-1 : Int32) then xw_b (fX1_empty (1 + 7) w0) (fun r11 w12 => some (r11, w12)) else xw_bp (fX5_has 1 a1 w0) (fun r2 => if r2 = 0 then some ((-1 : Int32), w0) else xw_bp (fX7_within a2 (999 : Int32)) (fun r5 => if r5 = 0 then some ((-2 : Int32), w0) else xw_b (fX1_add (1 + 7) a1 a2 w0) (fun r8 w9 => some (r8, w9))))
set_option maxHeartbeats 4000000 in
set_option maxRecDepth 100000 in
theorem kX7_see (l : Launch) (G : xw_G) (hG : xw_ok G) (a1 : Int32) (a2 : Int32) (w0 : xw_M) (r0 : Int32) (wz : xw_M) (hf : fX7_see a1 a2 w0 = some (r0, wz)) : xw_Ti l G yX7_see cX7_see 3 ((Option.some Jvm.ClassFile.FieldType.int)) (2) (44) [.ref (xw_ad G 0), .int a1, .int a2] w0 r0 wz := by
  unfold xw_Ti
  refine Met.ofW (cc := cX7_see) (maxL := 3) (ret := (Option.some Jvm.ClassFile.FieldType.int)) (by decide) rfl ?_
  intro p e s m args below meth c s₁ B hml hv
  obtain ⟨hargs, hP, hK, hE⟩ := hv
  have hx := B.exec
  have hb := B.bytes
  have hr := B.returns
  have hlk := B.notSynchronized
  have hB : CallFix p m c cX7_see 3 s args TB RX7 := ⟨hx, hb, hml, findClass_of_methodNamed B.named, fun q h => (atoms_spec (ws := Cond.code yX7_see cX7_see 3 ((Option.some Jvm.ClassFile.FieldType.int)) :: TB) B.pre) q (List.mem_cons_of_mem _ h)⟩
  have hS : va_S (xw_A G) s.heap s.heap [] := va_S.rf
  have hl := lv_entry [.ref (xw_ad G 0), .int a1, .int a2] (n := 3) (Nat.le_of_ble_eq_true rfl)
  rw [show entryFrame m args 3 = entryFrame m ([.ref (xw_ad G 0), .int a1, .int a2] : List Value).toArray 3 from by rw [hargs], lg_entry_eq]
  generalize (lg_sl [.ref (xw_ad G 0), .int a1, .int a2] ++ List.replicate (3 - (lg_sl [.ref (xw_ad G 0), .int a1, .int a2]).length) Slot.unset).toArray = ls at hl ⊢
  have hP : va_P (xw_D G) xw_cl (xw_W G w0) s.heap := hP
  have hl : lv_has ls 3 [(0, .ref (xw_ad G 0)), (1, .int a1), (2, .int a2)] := hl
  have HH : ∀ (H : Heap) (locs : List Loc) (hP : va_P (xw_D G) xw_cl (xw_W G w0) H) (hS : va_S (xw_A G) s.heap H locs), xw_Wi G p l e (xw_rm (2) (44)) s m args below meth c H locs r0 wz (F0 m 0 ls []) := by
    intro H locs hP hS
    unfold fX7_see at hf
    refine lv_iload_n hx hb dX7_see_0 rfl (lv_at hl 1 rfl) ?_
    refine lv_iconst (v := (-1)) hx hb dX7_see_1 (by decide) ?_
    refine lv_icmp_ne (tgt := 16) hx hb dX7_see_2 (by decide) (fun c1 => ?_) (fun c1 => ?_)
    · replace hf := xw_in' c1 hf
      refine lv_aload_n hx hb dX7_see_16 rfl (lv_at hl 0 rfl) ?_
      refine xw_get hB hK hP (xw_o7 G) (C := RX7) (T := TX7) (N := 11) rfl TBi_X7 0 (by decide) tw_255 rfl rfl dX7_see_17 ?_
      refine lv_iload_n hx hb dX7_see_20 rfl (lv_at hl 1 rfl) ?_
      replace hf := xw_bp_e hf
      obtain ⟨r2, he3, hf⟩ := hf
      refine xw_Vi hB hK hE hS hP (As := [.int a1]) (rest := []) (kX5_has l G hG 1 a1 (Or.inl rfl) w0 _ he3) gs_X7_77 (xw_rc hK hP (C := RX5) (T := TX5) (N := 14) (xw_o5 G (Or.inl rfl)) rfl) 1 hv_X5_has ⟨Nat.le_of_ble_eq_true rfl, Nat.le_of_ble_eq_true rfl⟩ rfl hl.1 (Nat.le_of_ble_eq_true rfl) rfl dX7_see_21 ⟨Nat.zero_le _, Nat.zero_le _⟩ (fun H locs hP hS => ?_)
      refine lv_if_ne (tgt := 29) hx hb dX7_see_24 (by decide) (fun c4 => ?_) (fun c4 => ?_)
      · replace hf := xw_in' c4 hf
        refine lv_iload_n hx hb dX7_see_29 rfl (lv_at hl 2 rfl) ?_
        refine lv_sipush (v := 999) hx hb dX7_see_30 (by decide) ?_
        replace hf := xw_bp_e hf
        obtain ⟨r5, he6, hf⟩ := hf
        refine xw_Si hB hK hE hS hP (As := [.int a2, .int (999 : Int32)]) (rest := []) (kX7_within l G hG a2 (999 : Int32) w0 _ he6) tw_293 tw_295 tw_294 tw_1 2 hs_X7_within ⟨Nat.le_of_ble_eq_true rfl, Nat.le_of_ble_eq_true rfl⟩ rfl hl.1 (Nat.le_of_ble_eq_true rfl) rfl dX7_see_33 ⟨Nat.zero_le _, Nat.zero_le _⟩ (fun H locs hP hS => ?_)
        refine lv_if_ne (tgt := 42) hx hb dX7_see_36 (by decide) (fun c7 => ?_) (fun c7 => ?_)
        · replace hf := xw_in' c7 hf
          refine lv_aload_n hx hb dX7_see_42 rfl (lv_at hl 0 rfl) ?_
          refine xw_get hB hK hP (xw_o7 G) (C := RX7) (T := TX7) (N := 11) rfl TBi_X7 0 (by decide) tw_255 rfl rfl dX7_see_43 ?_
          refine xw_get hB hK hP (xw_o5 G (Or.inl rfl)) (C := RX5) (T := TX5) (N := 14) rfl TBi_X5 11 (by decide) tw_96 rfl rfl dX7_see_46 ?_
          refine lv_iload_n hx hb dX7_see_49 rfl (lv_at hl 1 rfl) ?_
          refine lv_iload_n hx hb dX7_see_50 rfl (lv_at hl 2 rfl) ?_
          replace hf := xw_b_e hf
          obtain ⟨r8, w9, he10, hf⟩ := hf
          refine xw_Vi hB hK hE hS hP (As := [.int a1, .int a2]) (rest := []) (kX1_add l G hG (1 + 7) a1 a2 (xw_sc_7 (Or.inl rfl)) w0 _ _ he10) gs_X7_208 (xw_rc hK hP (C := RX1) (T := TX1) (N := 4) (xw_o1 G (xw_sc_7 (Or.inl rfl))) rfl) 2 hv_X1_add ⟨Nat.le_of_ble_eq_true rfl, Nat.le_of_ble_eq_true rfl⟩ rfl hl.1 (Nat.le_of_ble_eq_true rfl) rfl dX7_see_51 ⟨Nat.zero_le _, Nat.zero_le _⟩ (fun H locs hP hS => ?_)
          obtain ⟨h0, h1⟩ := xw_s2 hf
          exact xw_iret hB hK hE hS hP hr hlk h0 h1 dX7_see_54
        · replace hf := xw_ip c7 hf
          refine lv_bipush (v := (-2)) hx hb dX7_see_39 (by decide) ?_
          obtain ⟨h0, h1⟩ := xw_s2 hf
          exact xw_iret hB hK hE hS hP hr hlk h0 h1 dX7_see_41
      · replace hf := xw_ip c4 hf
        refine lv_iconst (v := (-1)) hx hb dX7_see_27 (by decide) ?_
        obtain ⟨h0, h1⟩ := xw_s2 hf
        exact xw_iret hB hK hE hS hP hr hlk h0 h1 dX7_see_28
    · replace hf := xw_ip c1 hf
      refine lv_aload_n hx hb dX7_see_5 rfl (lv_at hl 0 rfl) ?_
      refine xw_get hB hK hP (xw_o7 G) (C := RX7) (T := TX7) (N := 11) rfl TBi_X7 0 (by decide) tw_255 rfl rfl dX7_see_6 ?_
      refine xw_get hB hK hP (xw_o5 G (Or.inl rfl)) (C := RX5) (T := TX5) (N := 14) rfl TBi_X5 11 (by decide) tw_96 rfl rfl dX7_see_9 ?_
      replace hf := xw_b_e hf
      obtain ⟨r11, w12, he13, hf⟩ := hf
      refine xw_Vi hB hK hE hS hP (As := []) (rest := []) (kX1_empty l G hG (1 + 7) (xw_sc_7 (Or.inl rfl)) w0 _ _ he13) gs_X7_203 (xw_rc hK hP (C := RX1) (T := TX1) (N := 4) (xw_o1 G (xw_sc_7 (Or.inl rfl))) rfl) 0 hv_X1_empty ⟨Nat.le_of_ble_eq_true rfl, Nat.le_of_ble_eq_true rfl⟩ rfl hl.1 (Nat.le_of_ble_eq_true rfl) rfl dX7_see_12 ⟨Nat.zero_le _, Nat.zero_le _⟩ (fun H locs hP hS => ?_)
      obtain ⟨h0, h1⟩ := xw_s2 hf
      exact xw_iret hB hK hE hS hP hr hlk h0 h1 dX7_see_15
  exact HH s.heap [] hP hS
def fX7_can_109 (n : Nat) (a1 : Int32) (a2 : Int32) (x3 : Int32) (x4 : Int32) (w : xw_M) : Option (Int32 × xw_M) := if a2 = 0 then some (x3, w) else some (x4, w)
def fX7_can_103 (n : Nat) (a1 : Int32) (a2 : Int32) (x3 : Int32) (x4 : Int32) (x5 : Int32) (w : xw_M) : Option ((Int32 × Int32 × Int32 × xw_M) ⊕ (Int32 × Int32 × xw_M)) := xw_lt (x5 + (-1)) (fun x5_26 => some (.inl (x3, x4, x5_26, w)))
def fX7_can_b42 (n : Nat) (a1 : Int32) (a2 : Int32) (x3 : Int32) (x4 : Int32) (x5 : Int32) (w : xw_M) : Option ((Int32 × Int32 × Int32 × xw_M) ⊕ (Int32 × Int32 × xw_M)) := if x5 < 0 then some (.inr (x3, x4, w)) else xw_b (fX7_put (17 + 2) 6 a1 x5 w) (fun (_ : Unit) w12 => xw_bp (fX7_held w12) (fun r14 => xw_om r14 (none) (fun t16 => xw_cc (xw_pa t16) (xw_b (fX4_look n 17 t16 w12) (fun (_ : Unit) w19 => xw_b (fX4_fits n 17 (w19.1 17 8) w19) (fun r21 w22 => if r21 = 0 then fX7_can_103 n a1 a2 x3 x4 x5 w22 else xw_lt (x3 + 1) (fun x3_25 => fX7_can_103 n a1 a2 x3_25 x5 x5 w22)))))))
def fX7_can_42 (n : Nat) (a1 : Int32) (a2 : Int32) (x3 : Int32) (x4 : Int32) (x5 : Int32) (w : xw_M) : Option (Int32 × xw_M) := xw_bp (xw_it (fun z => fX7_can_b42 n a1 a2 z.1 z.2.1 z.2.2.1 z.2.2.2) n (x3, x4, x5, w)) (fun z => (fun (x3 : Int32) (x4 : Int32) (w : xw_M) => fX7_can_109 n a1 a2 x3 x4 w) z.1 z.2.1 z.2.2)
def fX7_can (n : Nat) (a1 : Int32) (a2 : Int32) (w0 : xw_M) : Option (Int32 × xw_M) := xw_bp (fX5_has 1 a1 w0) (fun r1 => if r1 = 0 then some ((-1 : Int32), w0) else xw_bp (fX7_within a2 (1 : Int32)) (fun r4 => if r4 = 0 then some ((-1 : Int32), w0) else xw_b (fX5_takeAfter 17 1 w0) (fun (_ : Unit) w8 => fX7_can_42 n a1 a2 (0 : Int32) (-5 : Int32) (9 : Int32) w8)))
set_option maxHeartbeats 4000000 in
set_option maxRecDepth 100000 in
theorem kX7_can (l : Launch) (G : xw_G) (hG : xw_ok G) (n : Nat) (a1 : Int32) (a2 : Int32) (w0 : xw_M) (r0 : Int32) (wz : xw_M) (hf : fX7_can n a1 a2 w0 = some (r0, wz)) : xw_Ti l G yX7_can cX7_can 6 ((Option.some Jvm.ClassFile.FieldType.int)) (4) (139) [.ref (xw_ad G 0), .int a1, .int a2] w0 r0 wz := by
  unfold xw_Ti
  refine Met.ofW (cc := cX7_can) (maxL := 6) (ret := (Option.some Jvm.ClassFile.FieldType.int)) (by decide) rfl ?_
  intro p e s m args below meth c s₁ B hml hv
  obtain ⟨hargs, hP, hK, hE⟩ := hv
  have hx := B.exec
  have hb := B.bytes
  have hr := B.returns
  have hlk := B.notSynchronized
  have hB : CallFix p m c cX7_can 6 s args TB RX7 := ⟨hx, hb, hml, findClass_of_methodNamed B.named, fun q h => (atoms_spec (ws := Cond.code yX7_can cX7_can 6 ((Option.some Jvm.ClassFile.FieldType.int)) :: TB) B.pre) q (List.mem_cons_of_mem _ h)⟩
  have hS : va_S (xw_A G) s.heap s.heap [] := va_S.rf
  have hl := lv_entry [.ref (xw_ad G 0), .int a1, .int a2] (n := 6) (Nat.le_of_ble_eq_true rfl)
  rw [show entryFrame m args 6 = entryFrame m ([.ref (xw_ad G 0), .int a1, .int a2] : List Value).toArray 6 from by rw [hargs], lg_entry_eq]
  generalize (lg_sl [.ref (xw_ad G 0), .int a1, .int a2] ++ List.replicate (6 - (lg_sl [.ref (xw_ad G 0), .int a1, .int a2]).length) Slot.unset).toArray = ls at hl ⊢
  have hP : va_P (xw_D G) xw_cl (xw_W G w0) s.heap := hP
  have hl : lv_has ls 6 [(0, .ref (xw_ad G 0)), (1, .int a1), (2, .int a2)] := hl
  have HH : ∀ (H : Heap) (locs : List Loc) (hP : va_P (xw_D G) xw_cl (xw_W G w0) H) (hS : va_S (xw_A G) s.heap H locs), xw_Wi G p l e (xw_rm (4) (139)) s m args below meth c H locs r0 wz (F0 m 0 ls []) := by
    intro H locs hP hS
    unfold fX7_can at hf
    have J109 : ∀ (x3 : Int32) (x4 : Int32) (w : xw_M) (hf : fX7_can_109 n a1 a2 x3 x4 w = some (r0, wz)) (H : Heap) (locs : List Loc) (ls : Array Slot) (hP : va_P (xw_D G) xw_cl (xw_W G w) H) (hS : va_S (xw_A G) s.heap H locs) (hl : lv_has ls 6 [(2, .int a2), (3, .int x3), (4, .int x4)]), xw_Wi G p l e (xw_rm (4) (139)) s m args below meth c H locs r0 wz (F0 m 109 ls []) := by
      intro x3 x4 w hf H locs ls hP hS hl
      unfold fX7_can_109 at hf
      refine lv_iload_n hx hb dX7_can_109 rfl (lv_at hl 0 rfl) ?_
      refine lv_if_ne (tgt := 117) hx hb dX7_can_110 (by decide) (fun c27 => ?_) (fun c27 => ?_)
      · replace hf := xw_in' c27 hf
        refine lv_iload hx hb dX7_can_117 (lv_at hl 2 rfl) ?_
        obtain ⟨h0, h1⟩ := xw_s2 hf
        exact xw_iret hB hK hE hS hP hr hlk h0 h1 dX7_can_119
      · replace hf := xw_ip c27 hf
        refine lv_iload_n hx hb dX7_can_113 rfl (lv_at hl 1 rfl) ?_
        refine lv_goto (tgt := 119) hx hb dX7_can_114 (by decide) ?_
        obtain ⟨h0, h1⟩ := xw_s2 hf
        exact xw_iret hB hK hE hS hP hr hlk h0 h1 dX7_can_119
    have J42 : ∀ (x3 : Int32) (x4 : Int32) (x5 : Int32) (w : xw_M) (hf : fX7_can_42 n a1 a2 x3 x4 x5 w = some (r0, wz)) (H : Heap) (locs : List Loc) (ls : Array Slot) (hP : va_P (xw_D G) xw_cl (xw_W G w) H) (hS : va_S (xw_A G) s.heap H locs) (hl : lv_has ls 6 [(0, .ref (xw_ad G 0)), (1, .int a1), (2, .int a2), (3, .int x3), (4, .int x4), (5, .int x5)]), xw_Wi G p l e (xw_rm (4) (139)) s m args below meth c H locs r0 wz (F0 m 42 ls []) := by
      intro x3 x4 x5 w hf H locs ls hP hS hl
      unfold fX7_can_42 at hf
      replace hf := xw_bp_e hf
      obtain ⟨bb42, hit42, hfx42⟩ := hf
      have XX42 : ∀ (x3 : Int32) (x4 : Int32) (w : xw_M) (hf : fX7_can_109 n a1 a2 x3 x4 w = some (r0, wz)) (H : Heap) (locs : List Loc) (ls : Array Slot) (hP : va_P (xw_D G) xw_cl (xw_W G w) H) (hS : va_S (xw_A G) s.heap H locs) (hl : lv_has ls 6 [(2, .int a2), (3, .int x3), (4, .int x4)]), xw_Wi G p l e (xw_rm (4) (139)) s m args below meth c H locs r0 wz (F0 m 109 ls []) := by
        intro x3 x4 w hf H locs ls hP hS hl
        exact J109 x3 x4 w hf H locs ls hP hS (lv_sub hl [0, 1, 2] rfl)
      have LL42 : ∀ (nn : Nat) (x3 : Int32) (x4 : Int32) (x5 : Int32) (w : xw_M) (hit : xw_it (fun z => fX7_can_b42 n a1 a2 z.1 z.2.1 z.2.2.1 z.2.2.2) nn (x3, x4, x5, w) = some bb42) (H : Heap) (locs : List Loc) (ls : Array Slot) (hP : va_P (xw_D G) xw_cl (xw_W G w) H) (hS : va_S (xw_A G) s.heap H locs) (hl : lv_has ls 6 [(0, .ref (xw_ad G 0)), (1, .int a1), (2, .int a2), (3, .int x3), (4, .int x4), (5, .int x5)]), xw_Wi G p l e (xw_rm (4) (139)) s m args below meth c H locs r0 wz (F0 m 42 ls []) := by
        intro nn
        induction nn with
        | zero => intro x3 x4 x5 w hit; exact (xw_it_0 hit).elim
        | succ nn ih42 =>
          intro x3 x4 x5 w hit H locs ls hP hS hl
          replace hit := xw_it_e hit
          obtain ⟨wv42, hf, hC42, hX42⟩ := hit
          replace hf : fX7_can_b42 n a1 a2 x3 x4 x5 w = some wv42 := hf
          unfold fX7_can_b42 at hf
          have J103 : ∀ (x3 : Int32) (x4 : Int32) (x5 : Int32) (w : xw_M) (hf : fX7_can_103 n a1 a2 x3 x4 x5 w = some wv42) (H : Heap) (locs : List Loc) (ls : Array Slot) (hP : va_P (xw_D G) xw_cl (xw_W G w) H) (hS : va_S (xw_A G) s.heap H locs) (hl : lv_has ls 6 [(0, .ref (xw_ad G 0)), (1, .int a1), (2, .int a2), (3, .int x3), (4, .int x4), (5, .int x5)]), xw_Wi G p l e (xw_rm (4) (139)) s m args below meth c H locs r0 wz (F0 m 103 ls []) := by
            intro x3 x4 x5 w hf H locs ls hP hS hl
            unfold fX7_can_103 at hf
            obtain ⟨x5_26, ex5_26⟩ : ∃ y : Int32, y = x5 + (-1) := ⟨_, rfl⟩
            replace hf := xw_lt_e ex5_26 hf
            refine lv_iinc (v := x5_26) (lv' := [(5, .int x5_26), (0, .ref (xw_ad G 0)), (1, .int a1), (2, .int a2), (3, .int x3), (4, .int x4)]) hx hb dX7_can_103 hl (k := 5) rfl (by rw [ex5_26]; rfl) (by decide) rfl (fun ls hl => ?_)
            refine lv_goto (tgt := 42) hx hb dX7_can_106 (by decide) ?_
            have hi := hC42 _ (xw_so hf).symm
            exact ih42 x3 x4 x5_26 w hi H locs ls hP hS (lv_sub hl [1, 2, 3, 4, 5, 0] rfl)
          refine lv_iload hx hb dX7_can_42 (lv_at hl 5 rfl) ?_
          refine lv_if_lt (tgt := 109) hx hb dX7_can_44 (by decide) (fun c10 => ?_) (fun c10 => ?_)
          · replace hf := xw_ip c10 hf
            have he42 := hX42 _ (xw_so hf).symm
            rw [← he42] at hfx42
            exact XX42 x3 x4 w hfx42 H locs ls hP hS (lv_sub hl [2, 3, 4] rfl)
          · replace hf := xw_in' c10 hf
            refine lv_aload_n hx hb dX7_can_47 rfl (lv_at hl 0 rfl) ?_
            refine xw_get hB hK hP (xw_o7 G) (C := RX7) (T := TX7) (N := 11) rfl TBi_X7 1 (by decide) tw_256 rfl rfl dX7_can_48 ?_
            refine xw_get hB hK hP (xw_o5 G (Or.inr (Or.inl rfl))) (C := RX5) (T := TX5) (N := 14) rfl TBi_X5 2 (by decide) tw_70 rfl rfl dX7_can_51 ?_
            refine lv_iload_n hx hb dX7_can_54 rfl (lv_at hl 1 rfl) ?_
            refine lv_iload hx hb dX7_can_55 (lv_at hl 5 rfl) ?_
            replace hf := xw_b_e hf
            obtain ⟨r11, w12, he13, hf⟩ := hf
            refine xw_Sv hB hK hE hS hP (As := [.ref (xw_ad G (17 + 2)), .int a1, .int x5]) (rest := []) (kX7_put l G hG (17 + 2) 6 a1 x5 (xw_a5_2 G (Or.inr (Or.inl rfl))) w _ _ he13) tw_379 tw_302 tw_301 tw_1 3 hs_X7_put ⟨Nat.le_of_ble_eq_true rfl, Nat.le_of_ble_eq_true rfl⟩ rfl hl.1 (Nat.le_of_ble_eq_true rfl) rfl dX7_can_57 ⟨Nat.zero_le _, Nat.zero_le _⟩ (fun H locs hP hS => ?_)
            refine lv_aload_n hx hb dX7_can_60 rfl (lv_at hl 0 rfl) ?_
            refine xw_get hB hK hP (xw_o7 G) (C := RX7) (T := TX7) (N := 11) rfl TBi_X7 8 (by decide) tw_263 rfl rfl dX7_can_61 ?_
            refine lv_aload_n hx hb dX7_can_64 rfl (lv_at hl 0 rfl) ?_
            refine xw_get hB hK hP (xw_o7 G) (C := RX7) (T := TX7) (N := 11) rfl TBi_X7 1 (by decide) tw_256 rfl rfl dX7_can_65 ?_
            refine lv_aload_n hx hb dX7_can_68 rfl (lv_at hl 0 rfl) ?_
            replace hf := xw_bp_e hf
            obtain ⟨r14, he15, hf⟩ := hf
            refine xw_Vq hB hK hE hS hP (As := []) (rest := [.ref (xw_ad G 17), .ref (xw_ad G 64)]) (kX7_held l G hG w12 _ he15) gs_X7_108 (xw_rc hK hP (C := RX7) (T := TX7) (N := 11) (xw_o7 G) rfl) 0 hv_X7_held ⟨Nat.le_of_ble_eq_true rfl, Nat.le_of_ble_eq_true rfl⟩ rfl hl.1 (Nat.le_of_ble_eq_true rfl) rfl dX7_can_69 ⟨Nat.zero_le _, Nat.zero_le _⟩ (fun H locs hP hS => ?_)
            cases r14 with
            | none =>
              replace hf := xw_om_n hf
              cases hf
            | some t16 =>
              replace hf := xw_om_s hf
              replace hf := xw_cc_e hf
              obtain ⟨ht17, hf⟩ := hf
              replace hf := xw_b_e hf
              obtain ⟨r18, w19, he20, hf⟩ := hf
              refine xw_Vv hB hK hE hS hP (As := [.ref (xw_ad G 17), .ref (xw_ad G t16)]) (rest := []) (kX4_look l G hG n 17 t16 (Or.inr (Or.inl rfl)) ht17 w12 _ _ he20) gs_X7_112 (xw_rc hK hP (C := RX4) (T := TX4) (N := 3) (xw_o4 G) rfl) 2 hv_X4_look ⟨Nat.le_of_ble_eq_true rfl, Nat.le_of_ble_eq_true rfl⟩ rfl hl.1 (Nat.le_of_ble_eq_true rfl) rfl dX7_can_72 ⟨Nat.zero_le _, Nat.zero_le _⟩ (fun H locs hP hS => ?_)
              refine lv_aload_n hx hb dX7_can_75 rfl (lv_at hl 0 rfl) ?_
              refine xw_get hB hK hP (xw_o7 G) (C := RX7) (T := TX7) (N := 11) rfl TBi_X7 8 (by decide) tw_263 rfl rfl dX7_can_76 ?_
              refine lv_aload_n hx hb dX7_can_79 rfl (lv_at hl 0 rfl) ?_
              refine xw_get hB hK hP (xw_o7 G) (C := RX7) (T := TX7) (N := 11) rfl TBi_X7 1 (by decide) tw_256 rfl rfl dX7_can_80 ?_
              refine lv_aload_n hx hb dX7_can_83 rfl (lv_at hl 0 rfl) ?_
              refine xw_get hB hK hP (xw_o7 G) (C := RX7) (T := TX7) (N := 11) rfl TBi_X7 1 (by decide) tw_256 rfl rfl dX7_can_84 ?_
              refine xw_get hB hK hP (xw_o5 G (Or.inr (Or.inl rfl))) (C := RX5) (T := TX5) (N := 14) rfl TBi_X5 8 (by decide) tw_87 rfl rfl dX7_can_87 ?_
              replace hf := xw_b_e hf
              obtain ⟨r21, w22, he23, hf⟩ := hf
              refine xw_Vi hB hK hE hS hP (As := [.ref (xw_ad G 17), .int (w19.1 17 8)]) (rest := []) (kX4_fits l G hG n 17 (w19.1 17 8) (Or.inr (Or.inl rfl)) w19 _ _ he23) gs_X7_210 (xw_rc hK hP (C := RX4) (T := TX4) (N := 3) (xw_o4 G) rfl) 2 hv_X4_fits ⟨Nat.le_of_ble_eq_true rfl, Nat.le_of_ble_eq_true rfl⟩ rfl hl.1 (Nat.le_of_ble_eq_true rfl) rfl dX7_can_90 ⟨Nat.zero_le _, Nat.zero_le _⟩ (fun H locs hP hS => ?_)
              refine lv_if_eq (tgt := 103) hx hb dX7_can_93 (by decide) (fun c24 => ?_) (fun c24 => ?_)
              · replace hf := xw_ip c24 hf
                exact J103 x3 x4 x5 w22 hf H locs ls hP hS (lv_sub hl [0, 1, 2, 3, 4, 5] rfl)
              · replace hf := xw_in' c24 hf
                obtain ⟨x3_25, ex3_25⟩ : ∃ y : Int32, y = x3 + 1 := ⟨_, rfl⟩
                replace hf := xw_lt_e ex3_25 hf
                refine lv_iinc (v := x3_25) (lv' := [(3, .int x3_25), (0, .ref (xw_ad G 0)), (1, .int a1), (2, .int a2), (4, .int x4), (5, .int x5)]) hx hb dX7_can_96 hl (k := 3) rfl (by rw [ex3_25]; rfl) (by decide) rfl (fun ls hl => ?_)
                refine lv_iload hx hb dX7_can_99 (lv_at hl 5 rfl) ?_
                refine lv_istore (lv' := [(4, .int x5), (3, .int x3_25), (0, .ref (xw_ad G 0)), (1, .int a1), (2, .int a2), (5, .int x5)]) hx hb dX7_can_101 hl (by decide) rfl (fun ls hl => ?_)
                exact J103 x3_25 x5 x5 w22 hf H locs ls hP hS (lv_sub hl [2, 3, 4, 1, 0, 5] rfl)
      exact LL42 n x3 x4 x5 w hit42 H locs ls hP hS hl
    refine lv_aload_n hx hb dX7_can_0 rfl (lv_at hl 0 rfl) ?_
    refine xw_get hB hK hP (xw_o7 G) (C := RX7) (T := TX7) (N := 11) rfl TBi_X7 0 (by decide) tw_255 rfl rfl dX7_can_1 ?_
    refine lv_iload_n hx hb dX7_can_4 rfl (lv_at hl 1 rfl) ?_
    replace hf := xw_bp_e hf
    obtain ⟨r1, he2, hf⟩ := hf
    refine xw_Vi hB hK hE hS hP (As := [.int a1]) (rest := []) (kX5_has l G hG 1 a1 (Or.inl rfl) w0 _ he2) gs_X7_77 (xw_rc hK hP (C := RX5) (T := TX5) (N := 14) (xw_o5 G (Or.inl rfl)) rfl) 1 hv_X5_has ⟨Nat.le_of_ble_eq_true rfl, Nat.le_of_ble_eq_true rfl⟩ rfl hl.1 (Nat.le_of_ble_eq_true rfl) rfl dX7_can_5 ⟨Nat.zero_le _, Nat.zero_le _⟩ (fun H locs hP hS => ?_)
    refine lv_if_eq (tgt := 19) hx hb dX7_can_8 (by decide) (fun c3 => ?_) (fun c3 => ?_)
    · replace hf := xw_ip c3 hf
      refine lv_iconst (v := (-1)) hx hb dX7_can_19 (by decide) ?_
      obtain ⟨h0, h1⟩ := xw_s2 hf
      exact xw_iret hB hK hE hS hP hr hlk h0 h1 dX7_can_20
    · replace hf := xw_in' c3 hf
      refine lv_iload_n hx hb dX7_can_11 rfl (lv_at hl 2 rfl) ?_
      refine lv_iconst (v := 1) hx hb dX7_can_12 (by decide) ?_
      replace hf := xw_bp_e hf
      obtain ⟨r4, he5, hf⟩ := hf
      refine xw_Si hB hK hE hS hP (As := [.int a2, .int (1 : Int32)]) (rest := []) (kX7_within l G hG a2 (1 : Int32) w0 _ he5) tw_293 tw_295 tw_294 tw_1 2 hs_X7_within ⟨Nat.le_of_ble_eq_true rfl, Nat.le_of_ble_eq_true rfl⟩ rfl hl.1 (Nat.le_of_ble_eq_true rfl) rfl dX7_can_13 ⟨Nat.zero_le _, Nat.zero_le _⟩ (fun H locs hP hS => ?_)
      refine lv_if_ne (tgt := 21) hx hb dX7_can_16 (by decide) (fun c6 => ?_) (fun c6 => ?_)
      · replace hf := xw_in' c6 hf
        refine lv_aload_n hx hb dX7_can_21 rfl (lv_at hl 0 rfl) ?_
        refine xw_get hB hK hP (xw_o7 G) (C := RX7) (T := TX7) (N := 11) rfl TBi_X7 1 (by decide) tw_256 rfl rfl dX7_can_22 ?_
        refine lv_aload_n hx hb dX7_can_25 rfl (lv_at hl 0 rfl) ?_
        refine xw_get hB hK hP (xw_o7 G) (C := RX7) (T := TX7) (N := 11) rfl TBi_X7 0 (by decide) tw_255 rfl rfl dX7_can_26 ?_
        replace hf := xw_b_e hf
        obtain ⟨r7, w8, he9, hf⟩ := hf
        refine xw_Vv hB hK hE hS hP (As := [.ref (xw_ad G 1)]) (rest := []) (kX5_takeAfter l G hG 17 1 (Or.inr (Or.inl rfl)) (Or.inl rfl) w0 _ _ he9) gs_X7_191 (xw_rc hK hP (C := RX5) (T := TX5) (N := 14) (xw_o5 G (Or.inr (Or.inl rfl))) rfl) 1 hv_X5_takeAfter ⟨Nat.le_of_ble_eq_true rfl, Nat.le_of_ble_eq_true rfl⟩ rfl hl.1 (Nat.le_of_ble_eq_true rfl) rfl dX7_can_29 ⟨Nat.zero_le _, Nat.zero_le _⟩ (fun H locs hP hS => ?_)
        refine lv_iconst (v := 0) hx hb dX7_can_32 (by decide) ?_
        refine lv_istore_n (lv' := [(3, .int (0 : Int32)), (0, .ref (xw_ad G 0)), (1, .int a1), (2, .int a2)]) hx hb dX7_can_33 rfl hl (by decide) rfl (fun ls hl => ?_)
        refine lv_bipush (v := (-5)) hx hb dX7_can_34 (by decide) ?_
        refine lv_istore (lv' := [(4, .int (-5 : Int32)), (3, .int (0 : Int32)), (0, .ref (xw_ad G 0)), (1, .int a1), (2, .int a2)]) hx hb dX7_can_36 hl (by decide) rfl (fun ls hl => ?_)
        refine lv_bipush (v := 9) hx hb dX7_can_38 (by decide) ?_
        refine lv_istore (lv' := [(5, .int (9 : Int32)), (4, .int (-5 : Int32)), (3, .int (0 : Int32)), (0, .ref (xw_ad G 0)), (1, .int a1), (2, .int a2)]) hx hb dX7_can_40 hl (by decide) rfl (fun ls hl => ?_)
        exact J42 (0 : Int32) (-5 : Int32) (9 : Int32) w8 hf H locs ls hP hS (lv_sub hl [3, 4, 5, 2, 1, 0] rfl)
      · replace hf := xw_ip c6 hf
        refine lv_iconst (v := (-1)) hx hb dX7_can_19 (by decide) ?_
        obtain ⟨h0, h1⟩ := xw_s2 hf
        exact xw_iret hB hK hE hS hP hr hlk h0 h1 dX7_can_20
  exact HH s.heap [] hP hS
def fX7_fraction_40 (n : Nat) (a0 : Int32) (a1 : Int32) (a2 : Int32) : Option Int64 := some (-9223372036854775808 : Int64)
def fX7_fraction_34 (n : Nat) (a0 : Int32) (a1 : Int32) (a2 : Int32) (x3 : Int32) : Option ((Int32) ⊕ ((Int64) ⊕ (Unit))) := xw_lt (x3 + (-1)) (fun x3_9 => some (.inl x3_9))
def fX7_fraction_b2 (n : Nat) (a0 : Int32) (a1 : Int32) (a2 : Int32) (x3 : Int32) : Option ((Int32) ⊕ ((Int64) ⊕ (Unit))) := if x3 ≤ 0 then some (.inr (.inr ())) else xw_cc (¬ x3 = 0) (if (a0 - a0 / x3 * x3) = 0 then xw_cc (¬ x3 = 0) (if (a1 - a1 / x3 * x3) = 0 then if a2 = 0 then xw_cc (¬ x3 = 0) (some (.inr (.inl ((a0 / x3).toInt64)))) else xw_cc (¬ x3 = 0) (some (.inr (.inl ((a1 / x3).toInt64)))) else fX7_fraction_34 n a0 a1 a2 x3) else fX7_fraction_34 n a0 a1 a2 x3)
def fX7_fraction_2 (n : Nat) (a0 : Int32) (a1 : Int32) (a2 : Int32) (x3 : Int32) : Option Int64 := xw_bp (xw_it (fun z => fX7_fraction_b2 n a0 a1 a2 z) n x3) (fun z => xw_su z (fun r => some r) (fun _ => fX7_fraction_40 n a0 a1 a2))
def fX7_fraction (n : Nat) (a0 : Int32) (a1 : Int32) (a2 : Int32) : Option Int64 := fX7_fraction_2 n a0 a1 a2 a1
set_option maxHeartbeats 4000000 in
set_option maxRecDepth 100000 in
theorem kX7_fraction (l : Launch) (G : xw_G) (hG : xw_ok G) (n : Nat) (a0 : Int32) (a1 : Int32) (a2 : Int32) (w0 : xw_M) (r0 : Int64) (hf : fX7_fraction n a0 a1 a2 = some r0) : xw_Tl l G yX7_fraction cX7_fraction 4 ((Option.some Jvm.ClassFile.FieldType.long)) (0) (0) [.int a0, .int a1, .int a2] w0 r0 w0 := by
  unfold xw_Tl
  refine Met.ofW (cc := cX7_fraction) (maxL := 4) (ret := (Option.some Jvm.ClassFile.FieldType.long)) (by decide) rfl ?_
  intro p e s m args below meth c s₁ B hml hv
  obtain ⟨hargs, hP, hK, hE⟩ := hv
  have hx := B.exec
  have hb := B.bytes
  have hr := B.returns
  have hlk := B.notSynchronized
  have hB : CallFix p m c cX7_fraction 4 s args TB RX7 := ⟨hx, hb, hml, findClass_of_methodNamed B.named, fun q h => (atoms_spec (ws := Cond.code yX7_fraction cX7_fraction 4 ((Option.some Jvm.ClassFile.FieldType.long)) :: TB) B.pre) q (List.mem_cons_of_mem _ h)⟩
  have hS : va_S (xw_A G) s.heap s.heap [] := va_S.rf
  have hl := lv_entry [.int a0, .int a1, .int a2] (n := 4) (Nat.le_of_ble_eq_true rfl)
  rw [show entryFrame m args 4 = entryFrame m ([.int a0, .int a1, .int a2] : List Value).toArray 4 from by rw [hargs], lg_entry_eq]
  generalize (lg_sl [.int a0, .int a1, .int a2] ++ List.replicate (4 - (lg_sl [.int a0, .int a1, .int a2]).length) Slot.unset).toArray = ls at hl ⊢
  have hP : va_P (xw_D G) xw_cl (xw_W G w0) s.heap := hP
  have hl : lv_has ls 4 [(0, .int a0), (1, .int a1), (2, .int a2)] := hl
  have HH : ∀ (H : Heap) (locs : List Loc) (hP : va_P (xw_D G) xw_cl (xw_W G w0) H) (hS : va_S (xw_A G) s.heap H locs), xw_Wl G p l e (xw_rm (0) (0)) s m args below meth c H locs r0 w0 (F0 m 0 ls []) := by
    intro H locs hP hS
    unfold fX7_fraction at hf
    have J40 : ∀ (hf : fX7_fraction_40 n a0 a1 a2 = some r0) (H : Heap) (locs : List Loc) (ls : Array Slot) (hP : va_P (xw_D G) xw_cl (xw_W G w0) H) (hS : va_S (xw_A G) s.heap H locs) (hl : lv_has ls 4 []), xw_Wl G p l e (xw_rm (0) (0)) s m args below meth c H locs r0 w0 (F0 m 40 ls []) := by
      intro hf H locs ls hP hS hl
      unfold fX7_fraction_40 at hf
      refine lv_ldc2 (v := (-9223372036854775808)) hx hb hB.2.2.2.1 (hB.2.2.2.2 _ tw_595) dX7_fraction_40 ?_
      have h0 := xw_so hf
      have h1 : w0 = w0 := rfl
      exact xw_lret hB hK hE hS hP hr hlk h0 h1 dX7_fraction_43
    have J2 : ∀ (x3 : Int32) (hf : fX7_fraction_2 n a0 a1 a2 x3 = some r0) (H : Heap) (locs : List Loc) (ls : Array Slot) (hP : va_P (xw_D G) xw_cl (xw_W G w0) H) (hS : va_S (xw_A G) s.heap H locs) (hl : lv_has ls 4 [(0, .int a0), (1, .int a1), (2, .int a2), (3, .int x3)]), xw_Wl G p l e (xw_rm (0) (0)) s m args below meth c H locs r0 w0 (F0 m 2 ls []) := by
      intro x3 hf H locs ls hP hS hl
      unfold fX7_fraction_2 at hf
      replace hf := xw_bp_e hf
      obtain ⟨bb2, hit2, hfx2⟩ := hf
      have XX2 : ∀ (hf : fX7_fraction_40 n a0 a1 a2 = some r0) (H : Heap) (locs : List Loc) (ls : Array Slot) (hP : va_P (xw_D G) xw_cl (xw_W G w0) H) (hS : va_S (xw_A G) s.heap H locs) (hl : lv_has ls 4 []), xw_Wl G p l e (xw_rm (0) (0)) s m args below meth c H locs r0 w0 (F0 m 40 ls []) := by
        intro hf H locs ls hP hS hl
        exact J40 hf H locs ls hP hS (lv_sub hl [] rfl)
      have LL2 : ∀ (nn : Nat) (x3 : Int32) (hit : xw_it (fun z => fX7_fraction_b2 n a0 a1 a2 z) nn x3 = some bb2) (H : Heap) (locs : List Loc) (ls : Array Slot) (hP : va_P (xw_D G) xw_cl (xw_W G w0) H) (hS : va_S (xw_A G) s.heap H locs) (hl : lv_has ls 4 [(0, .int a0), (1, .int a1), (2, .int a2), (3, .int x3)]), xw_Wl G p l e (xw_rm (0) (0)) s m args below meth c H locs r0 w0 (F0 m 2 ls []) := by
        intro nn
        induction nn with
        | zero => intro x3 hit; exact (xw_it_0 hit).elim
        | succ nn ih2 =>
          intro x3 hit H locs ls hP hS hl
          replace hit := xw_it_e hit
          obtain ⟨wv2, hf, hC2, hX2⟩ := hit
          replace hf : fX7_fraction_b2 n a0 a1 a2 x3 = some wv2 := hf
          unfold fX7_fraction_b2 at hf
          have J34 : ∀ (x3 : Int32) (hf : fX7_fraction_34 n a0 a1 a2 x3 = some wv2) (H : Heap) (locs : List Loc) (ls : Array Slot) (hP : va_P (xw_D G) xw_cl (xw_W G w0) H) (hS : va_S (xw_A G) s.heap H locs) (hl : lv_has ls 4 [(0, .int a0), (1, .int a1), (2, .int a2), (3, .int x3)]), xw_Wl G p l e (xw_rm (0) (0)) s m args below meth c H locs r0 w0 (F0 m 34 ls []) := by
            intro x3 hf H locs ls hP hS hl
            unfold fX7_fraction_34 at hf
            obtain ⟨x3_9, ex3_9⟩ : ∃ y : Int32, y = x3 + (-1) := ⟨_, rfl⟩
            replace hf := xw_lt_e ex3_9 hf
            refine lv_iinc (v := x3_9) (lv' := [(3, .int x3_9), (0, .int a0), (1, .int a1), (2, .int a2)]) hx hb dX7_fraction_34 hl (k := 3) rfl (by rw [ex3_9]; rfl) (by decide) rfl (fun ls hl => ?_)
            refine lv_goto (tgt := 2) hx hb dX7_fraction_37 (by decide) ?_
            have hi := hC2 _ (xw_so hf).symm
            exact ih2 x3_9 hi H locs ls hP hS (lv_sub hl [1, 2, 3, 0] rfl)
          refine lv_iload_n hx hb dX7_fraction_2 rfl (lv_at hl 3 rfl) ?_
          refine lv_if_le (tgt := 40) hx hb dX7_fraction_3 (by decide) (fun c1 => ?_) (fun c1 => ?_)
          · replace hf := xw_ip c1 hf
            have he2 := hX2 _ (xw_so hf).symm
            rw [← he2] at hfx2
            exact XX2  hfx2 H locs ls hP hS (lv_sub hl [] rfl)
          · replace hf := xw_in' c1 hf
            refine lv_iload_n hx hb dX7_fraction_6 rfl (lv_at hl 0 rfl) ?_
            refine lv_iload_n hx hb dX7_fraction_7 rfl (lv_at hl 3 rfl) ?_
            replace hf := xw_cc_e hf
            obtain ⟨hd2, hf⟩ := hf
            refine lv_irem hx hb dX7_fraction_8 hd2 ?_
            refine lv_if_ne (tgt := 34) hx hb dX7_fraction_9 (by decide) (fun c3 => ?_) (fun c3 => ?_)
            · replace hf := xw_in' c3 hf
              exact J34 x3 hf H locs ls hP hS (lv_sub hl [0, 1, 2, 3] rfl)
            · replace hf := xw_ip c3 hf
              refine lv_iload_n hx hb dX7_fraction_12 rfl (lv_at hl 1 rfl) ?_
              refine lv_iload_n hx hb dX7_fraction_13 rfl (lv_at hl 3 rfl) ?_
              replace hf := xw_cc_e hf
              obtain ⟨hd4, hf⟩ := hf
              refine lv_irem hx hb dX7_fraction_14 hd4 ?_
              refine lv_if_ne (tgt := 34) hx hb dX7_fraction_15 (by decide) (fun c5 => ?_) (fun c5 => ?_)
              · replace hf := xw_in' c5 hf
                exact J34 x3 hf H locs ls hP hS (lv_sub hl [0, 1, 2, 3] rfl)
              · replace hf := xw_ip c5 hf
                refine lv_iload_n hx hb dX7_fraction_18 rfl (lv_at hl 2 rfl) ?_
                refine lv_if_ne (tgt := 29) hx hb dX7_fraction_19 (by decide) (fun c6 => ?_) (fun c6 => ?_)
                · replace hf := xw_in' c6 hf
                  refine lv_iload_n hx hb dX7_fraction_29 rfl (lv_at hl 1 rfl) ?_
                  refine lv_iload_n hx hb dX7_fraction_30 rfl (lv_at hl 3 rfl) ?_
                  replace hf := xw_cc_e hf
                  obtain ⟨hd7, hf⟩ := hf
                  refine lv_idiv hx hb dX7_fraction_31 hd7 ?_
                  refine lv_i2l hx hb dX7_fraction_32 rfl ?_
                  have he2 := hX2 _ (xw_so hf).symm
                  rw [← he2] at hfx2
                  replace hfx2 : some ((a1 / x3).toInt64) = some r0 := hfx2
                  have h0 := xw_so hfx2
                  have h1 : w0 = w0 := rfl
                  exact xw_lret hB hK hE hS hP hr hlk h0 h1 dX7_fraction_33
                · replace hf := xw_ip c6 hf
                  refine lv_iload_n hx hb dX7_fraction_22 rfl (lv_at hl 0 rfl) ?_
                  refine lv_iload_n hx hb dX7_fraction_23 rfl (lv_at hl 3 rfl) ?_
                  replace hf := xw_cc_e hf
                  obtain ⟨hd8, hf⟩ := hf
                  refine lv_idiv hx hb dX7_fraction_24 hd8 ?_
                  refine lv_i2l hx hb dX7_fraction_25 rfl ?_
                  refine lv_goto (tgt := 33) hx hb dX7_fraction_26 (by decide) ?_
                  have he2 := hX2 _ (xw_so hf).symm
                  rw [← he2] at hfx2
                  replace hfx2 : some ((a0 / x3).toInt64) = some r0 := hfx2
                  have h0 := xw_so hfx2
                  have h1 : w0 = w0 := rfl
                  exact xw_lret hB hK hE hS hP hr hlk h0 h1 dX7_fraction_33
      exact LL2 n x3 hit2 H locs ls hP hS hl
    refine lv_iload_n hx hb dX7_fraction_0 rfl (lv_at hl 1 rfl) ?_
    refine lv_istore_n (lv' := [(3, .int a1), (0, .int a0), (1, .int a1), (2, .int a2)]) hx hb dX7_fraction_1 rfl hl (by decide) rfl (fun ls hl => ?_)
    exact J2 a1 hf H locs ls hP hS (lv_sub hl [1, 2, 3, 0] rfl)
  exact HH s.heap [] hP hS
def fX7_odds_173 (n : Nat) (a1 : Int32) (a2 : Int32) (x4 : Int32) (x5 : Int32) (w : xw_M) : Option (Int64 × xw_M) := xw_bp (fX7_fraction n x5 x4 a2) (fun r32 => some (r32, w))
def fX7_odds_167 (n : Nat) (a1 : Int32) (a2 : Int32) (x3 : Int32) (x4 : Int32) (x5 : Int32) (x6 : Int32) (w : xw_M) : Option ((Int32 × Int32 × Int32 × xw_M) ⊕ (Int32 × Int32 × xw_M)) := xw_lt (x6 + 1) (fun x6_31 => some (.inl (x4, x5, x6_31, w)))
def fX7_odds_164 (n : Nat) (a1 : Int32) (a2 : Int32) (x3 : Int32) (x4 : Int32) (x6 : Int32) (v0 : Int32) (v1 : Int32) (w : xw_M) : Option ((Int32 × Int32 × Int32 × xw_M) ⊕ (Int32 × Int32 × xw_M)) := xw_lt (v0 + v1) (fun x5_30 => fX7_odds_167 n a1 a2 x3 x4 x5_30 x6 w)
def fX7_odds_b85 (n : Nat) (a1 : Int32) (a2 : Int32) (x3 : Int32) (x4 : Int32) (x5 : Int32) (x6 : Int32) (w : xw_M) : Option ((Int32 × Int32 × Int32 × xw_M) ⊕ (Int32 × Int32 × xw_M)) := if (w.1 1 0) ≤ x6 then some (.inr (x4, x5, w)) else if x6 = a1 then fX7_odds_167 n a1 a2 x3 x4 x5 x6 w else xw_bp (fX5_isAway 1 x6 w) (fun r22 => if r22 = 0 then xw_lt (x4 + 1) (fun x4_25 => xw_b (fX4_share n 1 a1 (w.1 1 8) ((w.1 1 7) ||| ((1 : Int32) <<< (x6 &&& 31))) w) (fun r26 w27 => if r26 ≤ x3 then fX7_odds_164 n a1 a2 x3 x4_25 x6 x5 (0 : Int32) w27 else fX7_odds_164 n a1 a2 x3 x4_25 x6 x5 (1 : Int32) w27)) else fX7_odds_167 n a1 a2 x3 x4 x5 x6 w)
def fX7_odds_85 (n : Nat) (a1 : Int32) (a2 : Int32) (x3 : Int32) (x4 : Int32) (x5 : Int32) (x6 : Int32) (w : xw_M) : Option (Int64 × xw_M) := xw_bp (xw_it (fun z => fX7_odds_b85 n a1 a2 x3 z.1 z.2.1 z.2.2.1 z.2.2.2) n (x4, x5, x6, w)) (fun z => (fun (x4 : Int32) (x5 : Int32) (w : xw_M) => fX7_odds_173 n a1 a2 x4 x5 w) z.1 z.2.1 z.2.2)
def fX7_odds (n : Nat) (a1 : Int32) (a2 : Int32) (w0 : xw_M) : Option (Int64 × xw_M) := xw_bp (fX5_has 1 a1 w0) (fun r1 => if r1 = 0 then some ((-9223372036854775808 : Int64), w0) else xw_bp (fX7_within a2 (1 : Int32)) (fun r4 => if r4 = 0 then some ((-9223372036854775808 : Int64), w0) else xw_bp (fX5_isAway 1 a1 w0) (fun r7 => if r7 = 0 then xw_bp (fX7_held w0) (fun r10 => xw_om r10 (none) (fun t12 => xw_cc (xw_pa t12) (xw_b (fX4_look n 1 t12 w0) (fun (_ : Unit) w15 => xw_b (fX4_share n 1 a1 (w15.1 1 8) (w15.1 1 7) w15) (fun r17 w18 => fX7_odds_85 n a1 a2 r17 (0 : Int32) (0 : Int32) (0 : Int32) w18))))) else some ((-9223372036854775808 : Int64), w0))))
set_option maxHeartbeats 4000000 in
set_option maxRecDepth 100000 in
theorem kX7_odds (l : Launch) (G : xw_G) (hG : xw_ok G) (n : Nat) (a1 : Int32) (a2 : Int32) (w0 : xw_M) (r0 : Int64) (wz : xw_M) (hf : fX7_odds n a1 a2 w0 = some (r0, wz)) : xw_Tl l G yX7_odds cX7_odds 8 ((Option.some Jvm.ClassFile.FieldType.long)) (4) (115) [.ref (xw_ad G 0), .int a1, .int a2] w0 r0 wz := by
  unfold xw_Tl
  refine Met.ofW (cc := cX7_odds) (maxL := 8) (ret := (Option.some Jvm.ClassFile.FieldType.long)) (by decide) rfl ?_
  intro p e s m args below meth c s₁ B hml hv
  obtain ⟨hargs, hP, hK, hE⟩ := hv
  have hx := B.exec
  have hb := B.bytes
  have hr := B.returns
  have hlk := B.notSynchronized
  have hB : CallFix p m c cX7_odds 8 s args TB RX7 := ⟨hx, hb, hml, findClass_of_methodNamed B.named, fun q h => (atoms_spec (ws := Cond.code yX7_odds cX7_odds 8 ((Option.some Jvm.ClassFile.FieldType.long)) :: TB) B.pre) q (List.mem_cons_of_mem _ h)⟩
  have hS : va_S (xw_A G) s.heap s.heap [] := va_S.rf
  have hl := lv_entry [.ref (xw_ad G 0), .int a1, .int a2] (n := 8) (Nat.le_of_ble_eq_true rfl)
  rw [show entryFrame m args 8 = entryFrame m ([.ref (xw_ad G 0), .int a1, .int a2] : List Value).toArray 8 from by rw [hargs], lg_entry_eq]
  generalize (lg_sl [.ref (xw_ad G 0), .int a1, .int a2] ++ List.replicate (8 - (lg_sl [.ref (xw_ad G 0), .int a1, .int a2]).length) Slot.unset).toArray = ls at hl ⊢
  have hP : va_P (xw_D G) xw_cl (xw_W G w0) s.heap := hP
  have hl : lv_has ls 8 [(0, .ref (xw_ad G 0)), (1, .int a1), (2, .int a2)] := hl
  have HH : ∀ (H : Heap) (locs : List Loc) (hP : va_P (xw_D G) xw_cl (xw_W G w0) H) (hS : va_S (xw_A G) s.heap H locs), xw_Wl G p l e (xw_rm (4) (115)) s m args below meth c H locs r0 wz (F0 m 0 ls []) := by
    intro H locs hP hS
    unfold fX7_odds at hf
    have J173 : ∀ (x4 : Int32) (x5 : Int32) (w : xw_M) (hf : fX7_odds_173 n a1 a2 x4 x5 w = some (r0, wz)) (H : Heap) (locs : List Loc) (ls : Array Slot) (hP : va_P (xw_D G) xw_cl (xw_W G w) H) (hS : va_S (xw_A G) s.heap H locs) (hl : lv_has ls 8 [(2, .int a2), (4, .int x4), (5, .int x5)]), xw_Wl G p l e (xw_rm (4) (115)) s m args below meth c H locs r0 wz (F0 m 173 ls []) := by
      intro x4 x5 w hf H locs ls hP hS hl
      unfold fX7_odds_173 at hf
      refine lv_iload hx hb dX7_odds_173 (lv_at hl 2 rfl) ?_
      refine lv_iload hx hb dX7_odds_175 (lv_at hl 1 rfl) ?_
      refine lv_iload_n hx hb dX7_odds_177 rfl (lv_at hl 0 rfl) ?_
      replace hf := xw_bp_e hf
      obtain ⟨r32, he33, hf⟩ := hf
      refine xw_Sl hB hK hE hS hP (As := [.int x5, .int x4, .int a2]) (rest := []) (kX7_fraction l G hG n x5 x4 a2 w _ he33) tw_596 tw_598 tw_597 tw_1 3 hs_X7_fraction ⟨Nat.le_of_ble_eq_true rfl, Nat.le_of_ble_eq_true rfl⟩ rfl hl.1 (Nat.le_of_ble_eq_true rfl) rfl dX7_odds_178 ⟨Nat.zero_le _, Nat.zero_le _⟩ (fun H locs hP hS => ?_)
      obtain ⟨h0, h1⟩ := xw_s2 hf
      exact xw_lret hB hK hE hS hP hr hlk h0 h1 dX7_odds_181
    have J85 : ∀ (x3 : Int32) (x4 : Int32) (x5 : Int32) (x6 : Int32) (w : xw_M) (hf : fX7_odds_85 n a1 a2 x3 x4 x5 x6 w = some (r0, wz)) (H : Heap) (locs : List Loc) (ls : Array Slot) (hP : va_P (xw_D G) xw_cl (xw_W G w) H) (hS : va_S (xw_A G) s.heap H locs) (hl : lv_has ls 8 [(0, .ref (xw_ad G 0)), (1, .int a1), (2, .int a2), (3, .int x3), (4, .int x4), (5, .int x5), (6, .int x6)]), xw_Wl G p l e (xw_rm (4) (115)) s m args below meth c H locs r0 wz (F0 m 85 ls []) := by
      intro x3 x4 x5 x6 w hf H locs ls hP hS hl
      unfold fX7_odds_85 at hf
      replace hf := xw_bp_e hf
      obtain ⟨bb85, hit85, hfx85⟩ := hf
      have XX85 : ∀ (x4 : Int32) (x5 : Int32) (w : xw_M) (hf : fX7_odds_173 n a1 a2 x4 x5 w = some (r0, wz)) (H : Heap) (locs : List Loc) (ls : Array Slot) (hP : va_P (xw_D G) xw_cl (xw_W G w) H) (hS : va_S (xw_A G) s.heap H locs) (hl : lv_has ls 8 [(2, .int a2), (4, .int x4), (5, .int x5)]), xw_Wl G p l e (xw_rm (4) (115)) s m args below meth c H locs r0 wz (F0 m 173 ls []) := by
        intro x4 x5 w hf H locs ls hP hS hl
        exact J173 x4 x5 w hf H locs ls hP hS (lv_sub hl [0, 1, 2] rfl)
      have LL85 : ∀ (nn : Nat) (x4 : Int32) (x5 : Int32) (x6 : Int32) (w : xw_M) (hit : xw_it (fun z => fX7_odds_b85 n a1 a2 x3 z.1 z.2.1 z.2.2.1 z.2.2.2) nn (x4, x5, x6, w) = some bb85) (H : Heap) (locs : List Loc) (ls : Array Slot) (hP : va_P (xw_D G) xw_cl (xw_W G w) H) (hS : va_S (xw_A G) s.heap H locs) (hl : lv_has ls 8 [(0, .ref (xw_ad G 0)), (1, .int a1), (2, .int a2), (3, .int x3), (4, .int x4), (5, .int x5), (6, .int x6)]), xw_Wl G p l e (xw_rm (4) (115)) s m args below meth c H locs r0 wz (F0 m 85 ls []) := by
        intro nn
        induction nn with
        | zero => intro x4 x5 x6 w hit; exact (xw_it_0 hit).elim
        | succ nn ih85 =>
          intro x4 x5 x6 w hit H locs ls hP hS hl
          replace hit := xw_it_e hit
          obtain ⟨wv85, hf, hC85, hX85⟩ := hit
          replace hf : fX7_odds_b85 n a1 a2 x3 x4 x5 x6 w = some wv85 := hf
          unfold fX7_odds_b85 at hf
          have J167 : ∀ (x4 : Int32) (x5 : Int32) (x6 : Int32) (w : xw_M) (hf : fX7_odds_167 n a1 a2 x3 x4 x5 x6 w = some wv85) (H : Heap) (locs : List Loc) (ls : Array Slot) (hP : va_P (xw_D G) xw_cl (xw_W G w) H) (hS : va_S (xw_A G) s.heap H locs) (hl : lv_has ls 8 [(0, .ref (xw_ad G 0)), (1, .int a1), (2, .int a2), (3, .int x3), (4, .int x4), (5, .int x5), (6, .int x6)]), xw_Wl G p l e (xw_rm (4) (115)) s m args below meth c H locs r0 wz (F0 m 167 ls []) := by
            intro x4 x5 x6 w hf H locs ls hP hS hl
            unfold fX7_odds_167 at hf
            obtain ⟨x6_31, ex6_31⟩ : ∃ y : Int32, y = x6 + 1 := ⟨_, rfl⟩
            replace hf := xw_lt_e ex6_31 hf
            refine lv_iinc (v := x6_31) (lv' := [(6, .int x6_31), (0, .ref (xw_ad G 0)), (1, .int a1), (2, .int a2), (3, .int x3), (4, .int x4), (5, .int x5)]) hx hb dX7_odds_167 hl (k := 6) rfl (by rw [ex6_31]; rfl) (by decide) rfl (fun ls hl => ?_)
            refine lv_goto (tgt := 85) hx hb dX7_odds_170 (by decide) ?_
            have hi := hC85 _ (xw_so hf).symm
            exact ih85 x4 x5 x6_31 w hi H locs ls hP hS (lv_sub hl [1, 2, 3, 4, 5, 6, 0] rfl)
          have J164 : ∀ (x4 : Int32) (x6 : Int32) (v0 : Int32) (v1 : Int32) (w : xw_M) (hf : fX7_odds_164 n a1 a2 x3 x4 x6 v0 v1 w = some wv85) (H : Heap) (locs : List Loc) (ls : Array Slot) (hP : va_P (xw_D G) xw_cl (xw_W G w) H) (hS : va_S (xw_A G) s.heap H locs) (hl : lv_has ls 8 [(0, .ref (xw_ad G 0)), (1, .int a1), (2, .int a2), (3, .int x3), (4, .int x4), (6, .int x6)]), xw_Wl G p l e (xw_rm (4) (115)) s m args below meth c H locs r0 wz (F0 m 164 ls [.int v1, .int v0]) := by
            intro x4 x6 v0 v1 w hf H locs ls hP hS hl
            unfold fX7_odds_164 at hf
            refine lv_iadd hx hb dX7_odds_164 ?_
            refine lv_topi (fun x5_30 ex5_30 => ?_)
            replace hf := xw_lt_e ex5_30 hf
            refine lv_istore (lv' := [(5, .int x5_30), (0, .ref (xw_ad G 0)), (1, .int a1), (2, .int a2), (3, .int x3), (4, .int x4), (6, .int x6)]) hx hb dX7_odds_165 hl (by decide) rfl (fun ls hl => ?_)
            exact J167 x4 x5_30 x6 w hf H locs ls hP hS (lv_sub hl [1, 2, 3, 4, 5, 0, 6] rfl)
          refine lv_iload hx hb dX7_odds_85 (lv_at hl 6 rfl) ?_
          refine lv_aload_n hx hb dX7_odds_87 rfl (lv_at hl 0 rfl) ?_
          refine xw_get hB hK hP (xw_o7 G) (C := RX7) (T := TX7) (N := 11) rfl TBi_X7 0 (by decide) tw_255 rfl rfl dX7_odds_88 ?_
          refine xw_get hB hK hP (xw_o5 G (Or.inl rfl)) (C := RX5) (T := TX5) (N := 14) rfl TBi_X5 0 (by decide) tw_62 rfl rfl dX7_odds_91 ?_
          refine lv_icmp_ge (tgt := 173) hx hb dX7_odds_94 (by decide) (fun c20 => ?_) (fun c20 => ?_)
          · replace hf := xw_ip c20 hf
            have he85 := hX85 _ (xw_so hf).symm
            rw [← he85] at hfx85
            exact XX85 x4 x5 w hfx85 H locs ls hP hS (lv_sub hl [2, 4, 5] rfl)
          · replace hf := xw_in' c20 hf
            refine lv_iload hx hb dX7_odds_97 (lv_at hl 6 rfl) ?_
            refine lv_iload_n hx hb dX7_odds_99 rfl (lv_at hl 1 rfl) ?_
            refine lv_icmp_eq (tgt := 167) hx hb dX7_odds_100 (by decide) (fun c21 => ?_) (fun c21 => ?_)
            · replace hf := xw_ip c21 hf
              exact J167 x4 x5 x6 w hf H locs ls hP hS (lv_sub hl [0, 1, 2, 3, 4, 5, 6] rfl)
            · replace hf := xw_in' c21 hf
              refine lv_aload_n hx hb dX7_odds_103 rfl (lv_at hl 0 rfl) ?_
              refine xw_get hB hK hP (xw_o7 G) (C := RX7) (T := TX7) (N := 11) rfl TBi_X7 0 (by decide) tw_255 rfl rfl dX7_odds_104 ?_
              refine lv_iload hx hb dX7_odds_107 (lv_at hl 6 rfl) ?_
              replace hf := xw_bp_e hf
              obtain ⟨r22, he23, hf⟩ := hf
              refine xw_Vi hB hK hE hS hP (As := [.int x6]) (rest := []) (kX5_isAway l G hG 1 x6 (Or.inl rfl) w _ he23) gs_X7_98 (xw_rc hK hP (C := RX5) (T := TX5) (N := 14) (xw_o5 G (Or.inl rfl)) rfl) 1 hv_X5_isAway ⟨Nat.le_of_ble_eq_true rfl, Nat.le_of_ble_eq_true rfl⟩ rfl hl.1 (Nat.le_of_ble_eq_true rfl) rfl dX7_odds_109 ⟨Nat.zero_le _, Nat.zero_le _⟩ (fun H locs hP hS => ?_)
              refine lv_if_ne (tgt := 167) hx hb dX7_odds_112 (by decide) (fun c24 => ?_) (fun c24 => ?_)
              · replace hf := xw_in' c24 hf
                exact J167 x4 x5 x6 w hf H locs ls hP hS (lv_sub hl [0, 1, 2, 3, 4, 5, 6] rfl)
              · replace hf := xw_ip c24 hf
                obtain ⟨x4_25, ex4_25⟩ : ∃ y : Int32, y = x4 + 1 := ⟨_, rfl⟩
                replace hf := xw_lt_e ex4_25 hf
                refine lv_iinc (v := x4_25) (lv' := [(4, .int x4_25), (0, .ref (xw_ad G 0)), (1, .int a1), (2, .int a2), (3, .int x3), (5, .int x5), (6, .int x6)]) hx hb dX7_odds_115 hl (k := 4) rfl (by rw [ex4_25]; rfl) (by decide) rfl (fun ls hl => ?_)
                refine lv_aload_n hx hb dX7_odds_118 rfl (lv_at hl 1 rfl) ?_
                refine xw_get hB hK hP (xw_o7 G) (C := RX7) (T := TX7) (N := 11) rfl TBi_X7 8 (by decide) tw_263 rfl rfl dX7_odds_119 ?_
                refine lv_aload_n hx hb dX7_odds_122 rfl (lv_at hl 1 rfl) ?_
                refine xw_get hB hK hP (xw_o7 G) (C := RX7) (T := TX7) (N := 11) rfl TBi_X7 0 (by decide) tw_255 rfl rfl dX7_odds_123 ?_
                refine lv_iload_n hx hb dX7_odds_126 rfl (lv_at hl 2 rfl) ?_
                refine lv_aload_n hx hb dX7_odds_127 rfl (lv_at hl 1 rfl) ?_
                refine xw_get hB hK hP (xw_o7 G) (C := RX7) (T := TX7) (N := 11) rfl TBi_X7 0 (by decide) tw_255 rfl rfl dX7_odds_128 ?_
                refine xw_get hB hK hP (xw_o5 G (Or.inl rfl)) (C := RX5) (T := TX5) (N := 14) rfl TBi_X5 8 (by decide) tw_87 rfl rfl dX7_odds_131 ?_
                refine lv_aload_n hx hb dX7_odds_134 rfl (lv_at hl 1 rfl) ?_
                refine xw_get hB hK hP (xw_o7 G) (C := RX7) (T := TX7) (N := 11) rfl TBi_X7 0 (by decide) tw_255 rfl rfl dX7_odds_135 ?_
                refine xw_get hB hK hP (xw_o5 G (Or.inl rfl)) (C := RX5) (T := TX5) (N := 14) rfl TBi_X5 7 (by decide) tw_84 rfl rfl dX7_odds_138 ?_
                refine lv_iconst (v := 1) hx hb dX7_odds_141 (by decide) ?_
                refine lv_iload hx hb dX7_odds_142 (lv_at hl 6 rfl) ?_
                refine lv_ishl hx hb dX7_odds_144 ?_
                refine lv_ior hx hb dX7_odds_145 ?_
                replace hf := xw_b_e hf
                obtain ⟨r26, w27, he28, hf⟩ := hf
                refine xw_Vi hB hK hE hS hP (As := [.ref (xw_ad G 1), .int a1, .int (w.1 1 8), .int ((w.1 1 7) ||| ((1 : Int32) <<< (x6 &&& 31)))]) (rest := []) (kX4_share l G hG n 1 a1 (w.1 1 8) ((w.1 1 7) ||| ((1 : Int32) <<< (x6 &&& 31))) (Or.inl rfl) w _ _ he28) gs_X7_122 (xw_rc hK hP (C := RX4) (T := TX4) (N := 3) (xw_o4 G) rfl) 4 hv_X4_share ⟨Nat.le_of_ble_eq_true rfl, Nat.le_of_ble_eq_true rfl⟩ rfl hl.1 (Nat.le_of_ble_eq_true rfl) rfl dX7_odds_146 ⟨Nat.zero_le _, Nat.zero_le _⟩ (fun H locs hP hS => ?_)
                refine lv_istore (lv' := [(7, .int r26), (4, .int x4_25), (0, .ref (xw_ad G 0)), (1, .int a1), (2, .int a2), (3, .int x3), (5, .int x5), (6, .int x6)]) hx hb dX7_odds_149 hl (by decide) rfl (fun ls hl => ?_)
                refine lv_iload hx hb dX7_odds_151 (lv_at hl 6 rfl) ?_
                refine lv_iload hx hb dX7_odds_153 (lv_at hl 0 rfl) ?_
                refine lv_iload_n hx hb dX7_odds_155 rfl (lv_at hl 5 rfl) ?_
                refine lv_icmp_le (tgt := 163) hx hb dX7_odds_156 (by decide) (fun c29 => ?_) (fun c29 => ?_)
                · replace hf := xw_ip c29 hf
                  refine lv_iconst (v := 0) hx hb dX7_odds_163 (by decide) ?_
                  exact J164 x4_25 x6 x5 (0 : Int32) w27 hf H locs ls hP hS (lv_sub hl [2, 3, 4, 5, 1, 7] rfl)
                · replace hf := xw_in' c29 hf
                  refine lv_iconst (v := 1) hx hb dX7_odds_159 (by decide) ?_
                  refine lv_goto (tgt := 164) hx hb dX7_odds_160 (by decide) ?_
                  exact J164 x4_25 x6 x5 (1 : Int32) w27 hf H locs ls hP hS (lv_sub hl [2, 3, 4, 5, 1, 7] rfl)
      exact LL85 n x4 x5 x6 w hit85 H locs ls hP hS hl
    refine lv_aload_n hx hb dX7_odds_0 rfl (lv_at hl 0 rfl) ?_
    refine xw_get hB hK hP (xw_o7 G) (C := RX7) (T := TX7) (N := 11) rfl TBi_X7 0 (by decide) tw_255 rfl rfl dX7_odds_1 ?_
    refine lv_iload_n hx hb dX7_odds_4 rfl (lv_at hl 1 rfl) ?_
    replace hf := xw_bp_e hf
    obtain ⟨r1, he2, hf⟩ := hf
    refine xw_Vi hB hK hE hS hP (As := [.int a1]) (rest := []) (kX5_has l G hG 1 a1 (Or.inl rfl) w0 _ he2) gs_X7_77 (xw_rc hK hP (C := RX5) (T := TX5) (N := 14) (xw_o5 G (Or.inl rfl)) rfl) 1 hv_X5_has ⟨Nat.le_of_ble_eq_true rfl, Nat.le_of_ble_eq_true rfl⟩ rfl hl.1 (Nat.le_of_ble_eq_true rfl) rfl dX7_odds_5 ⟨Nat.zero_le _, Nat.zero_le _⟩ (fun H locs hP hS => ?_)
    refine lv_if_eq (tgt := 30) hx hb dX7_odds_8 (by decide) (fun c3 => ?_) (fun c3 => ?_)
    · replace hf := xw_ip c3 hf
      refine lv_ldc2 (v := (-9223372036854775808)) hx hb hB.2.2.2.1 (hB.2.2.2.2 _ tw_595) dX7_odds_30 ?_
      obtain ⟨h0, h1⟩ := xw_s2 hf
      exact xw_lret hB hK hE hS hP hr hlk h0 h1 dX7_odds_33
    · replace hf := xw_in' c3 hf
      refine lv_iload_n hx hb dX7_odds_11 rfl (lv_at hl 2 rfl) ?_
      refine lv_iconst (v := 1) hx hb dX7_odds_12 (by decide) ?_
      replace hf := xw_bp_e hf
      obtain ⟨r4, he5, hf⟩ := hf
      refine xw_Si hB hK hE hS hP (As := [.int a2, .int (1 : Int32)]) (rest := []) (kX7_within l G hG a2 (1 : Int32) w0 _ he5) tw_293 tw_295 tw_294 tw_1 2 hs_X7_within ⟨Nat.le_of_ble_eq_true rfl, Nat.le_of_ble_eq_true rfl⟩ rfl hl.1 (Nat.le_of_ble_eq_true rfl) rfl dX7_odds_13 ⟨Nat.zero_le _, Nat.zero_le _⟩ (fun H locs hP hS => ?_)
      refine lv_if_eq (tgt := 30) hx hb dX7_odds_16 (by decide) (fun c6 => ?_) (fun c6 => ?_)
      · replace hf := xw_ip c6 hf
        refine lv_ldc2 (v := (-9223372036854775808)) hx hb hB.2.2.2.1 (hB.2.2.2.2 _ tw_595) dX7_odds_30 ?_
        obtain ⟨h0, h1⟩ := xw_s2 hf
        exact xw_lret hB hK hE hS hP hr hlk h0 h1 dX7_odds_33
      · replace hf := xw_in' c6 hf
        refine lv_aload_n hx hb dX7_odds_19 rfl (lv_at hl 0 rfl) ?_
        refine xw_get hB hK hP (xw_o7 G) (C := RX7) (T := TX7) (N := 11) rfl TBi_X7 0 (by decide) tw_255 rfl rfl dX7_odds_20 ?_
        refine lv_iload_n hx hb dX7_odds_23 rfl (lv_at hl 1 rfl) ?_
        replace hf := xw_bp_e hf
        obtain ⟨r7, he8, hf⟩ := hf
        refine xw_Vi hB hK hE hS hP (As := [.int a1]) (rest := []) (kX5_isAway l G hG 1 a1 (Or.inl rfl) w0 _ he8) gs_X7_98 (xw_rc hK hP (C := RX5) (T := TX5) (N := 14) (xw_o5 G (Or.inl rfl)) rfl) 1 hv_X5_isAway ⟨Nat.le_of_ble_eq_true rfl, Nat.le_of_ble_eq_true rfl⟩ rfl hl.1 (Nat.le_of_ble_eq_true rfl) rfl dX7_odds_24 ⟨Nat.zero_le _, Nat.zero_le _⟩ (fun H locs hP hS => ?_)
        refine lv_if_eq (tgt := 34) hx hb dX7_odds_27 (by decide) (fun c9 => ?_) (fun c9 => ?_)
        · replace hf := xw_ip c9 hf
          refine lv_aload_n hx hb dX7_odds_34 rfl (lv_at hl 0 rfl) ?_
          refine xw_get hB hK hP (xw_o7 G) (C := RX7) (T := TX7) (N := 11) rfl TBi_X7 8 (by decide) tw_263 rfl rfl dX7_odds_35 ?_
          refine lv_aload_n hx hb dX7_odds_38 rfl (lv_at hl 0 rfl) ?_
          refine xw_get hB hK hP (xw_o7 G) (C := RX7) (T := TX7) (N := 11) rfl TBi_X7 0 (by decide) tw_255 rfl rfl dX7_odds_39 ?_
          refine lv_aload_n hx hb dX7_odds_42 rfl (lv_at hl 0 rfl) ?_
          replace hf := xw_bp_e hf
          obtain ⟨r10, he11, hf⟩ := hf
          refine xw_Vq hB hK hE hS hP (As := []) (rest := [.ref (xw_ad G 1), .ref (xw_ad G 64)]) (kX7_held l G hG w0 _ he11) gs_X7_108 (xw_rc hK hP (C := RX7) (T := TX7) (N := 11) (xw_o7 G) rfl) 0 hv_X7_held ⟨Nat.le_of_ble_eq_true rfl, Nat.le_of_ble_eq_true rfl⟩ rfl hl.1 (Nat.le_of_ble_eq_true rfl) rfl dX7_odds_43 ⟨Nat.zero_le _, Nat.zero_le _⟩ (fun H locs hP hS => ?_)
          cases r10 with
          | none =>
            replace hf := xw_om_n hf
            cases hf
          | some t12 =>
            replace hf := xw_om_s hf
            replace hf := xw_cc_e hf
            obtain ⟨ht13, hf⟩ := hf
            replace hf := xw_b_e hf
            obtain ⟨r14, w15, he16, hf⟩ := hf
            refine xw_Vv hB hK hE hS hP (As := [.ref (xw_ad G 1), .ref (xw_ad G t12)]) (rest := []) (kX4_look l G hG n 1 t12 (Or.inl rfl) ht13 w0 _ _ he16) gs_X7_112 (xw_rc hK hP (C := RX4) (T := TX4) (N := 3) (xw_o4 G) rfl) 2 hv_X4_look ⟨Nat.le_of_ble_eq_true rfl, Nat.le_of_ble_eq_true rfl⟩ rfl hl.1 (Nat.le_of_ble_eq_true rfl) rfl dX7_odds_46 ⟨Nat.zero_le _, Nat.zero_le _⟩ (fun H locs hP hS => ?_)
            refine lv_aload_n hx hb dX7_odds_49 rfl (lv_at hl 0 rfl) ?_
            refine xw_get hB hK hP (xw_o7 G) (C := RX7) (T := TX7) (N := 11) rfl TBi_X7 8 (by decide) tw_263 rfl rfl dX7_odds_50 ?_
            refine lv_aload_n hx hb dX7_odds_53 rfl (lv_at hl 0 rfl) ?_
            refine xw_get hB hK hP (xw_o7 G) (C := RX7) (T := TX7) (N := 11) rfl TBi_X7 0 (by decide) tw_255 rfl rfl dX7_odds_54 ?_
            refine lv_iload_n hx hb dX7_odds_57 rfl (lv_at hl 1 rfl) ?_
            refine lv_aload_n hx hb dX7_odds_58 rfl (lv_at hl 0 rfl) ?_
            refine xw_get hB hK hP (xw_o7 G) (C := RX7) (T := TX7) (N := 11) rfl TBi_X7 0 (by decide) tw_255 rfl rfl dX7_odds_59 ?_
            refine xw_get hB hK hP (xw_o5 G (Or.inl rfl)) (C := RX5) (T := TX5) (N := 14) rfl TBi_X5 8 (by decide) tw_87 rfl rfl dX7_odds_62 ?_
            refine lv_aload_n hx hb dX7_odds_65 rfl (lv_at hl 0 rfl) ?_
            refine xw_get hB hK hP (xw_o7 G) (C := RX7) (T := TX7) (N := 11) rfl TBi_X7 0 (by decide) tw_255 rfl rfl dX7_odds_66 ?_
            refine xw_get hB hK hP (xw_o5 G (Or.inl rfl)) (C := RX5) (T := TX5) (N := 14) rfl TBi_X5 7 (by decide) tw_84 rfl rfl dX7_odds_69 ?_
            replace hf := xw_b_e hf
            obtain ⟨r17, w18, he19, hf⟩ := hf
            refine xw_Vi hB hK hE hS hP (As := [.ref (xw_ad G 1), .int a1, .int (w15.1 1 8), .int (w15.1 1 7)]) (rest := []) (kX4_share l G hG n 1 a1 (w15.1 1 8) (w15.1 1 7) (Or.inl rfl) w15 _ _ he19) gs_X7_122 (xw_rc hK hP (C := RX4) (T := TX4) (N := 3) (xw_o4 G) rfl) 4 hv_X4_share ⟨Nat.le_of_ble_eq_true rfl, Nat.le_of_ble_eq_true rfl⟩ rfl hl.1 (Nat.le_of_ble_eq_true rfl) rfl dX7_odds_72 ⟨Nat.zero_le _, Nat.zero_le _⟩ (fun H locs hP hS => ?_)
            refine lv_istore_n (lv' := [(3, .int r17), (0, .ref (xw_ad G 0)), (1, .int a1), (2, .int a2)]) hx hb dX7_odds_75 rfl hl (by decide) rfl (fun ls hl => ?_)
            refine lv_iconst (v := 0) hx hb dX7_odds_76 (by decide) ?_
            refine lv_istore (lv' := [(4, .int (0 : Int32)), (3, .int r17), (0, .ref (xw_ad G 0)), (1, .int a1), (2, .int a2)]) hx hb dX7_odds_77 hl (by decide) rfl (fun ls hl => ?_)
            refine lv_iconst (v := 0) hx hb dX7_odds_79 (by decide) ?_
            refine lv_istore (lv' := [(5, .int (0 : Int32)), (4, .int (0 : Int32)), (3, .int r17), (0, .ref (xw_ad G 0)), (1, .int a1), (2, .int a2)]) hx hb dX7_odds_80 hl (by decide) rfl (fun ls hl => ?_)
            refine lv_iconst (v := 0) hx hb dX7_odds_82 (by decide) ?_
            refine lv_istore (lv' := [(6, .int (0 : Int32)), (5, .int (0 : Int32)), (4, .int (0 : Int32)), (3, .int r17), (0, .ref (xw_ad G 0)), (1, .int a1), (2, .int a2)]) hx hb dX7_odds_83 hl (by decide) rfl (fun ls hl => ?_)
            exact J85 r17 (0 : Int32) (0 : Int32) (0 : Int32) w18 hf H locs ls hP hS (lv_sub hl [4, 5, 6, 3, 2, 1, 0] rfl)
        · replace hf := xw_in' c9 hf
          refine lv_ldc2 (v := (-9223372036854775808)) hx hb hB.2.2.2.1 (hB.2.2.2.2 _ tw_595) dX7_odds_30 ?_
          obtain ⟨h0, h1⟩ := xw_s2 hf
          exact xw_lret hB hK hE hS hP hr hlk h0 h1 dX7_odds_33
  exact HH s.heap [] hP hS
