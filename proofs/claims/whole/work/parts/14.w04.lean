def fX4_goDay_151 (n : Nat) (a1 : Nat) (a2 : Nat) (a3 : Int32) (x4 : Int32) (w : xw_M) : Option (Int32 × xw_M) := xw_lt (xw_si w a1 9 ((w.1 a1 9) + (1 : Int32))) (fun w36 => some (x4, w36))
def fX4_goDay_b94 (n : Nat) (a1 : Nat) (a2 : Nat) (a3 : Int32) (x4 : Int32) (x5 : Int32) (w : xw_M) : Option ((Int32 × xw_M) ⊕ (xw_M)) := if (w.1 a1 0) ≤ x5 then some (.inr w) else xw_bp (fX7_at (a1 + 5) 6 x5 w) (fun r26 => xw_b (fX4_share n a1 x5 (w.1 a1 8) (w.1 a1 7) w) (fun r28 w29 => xw_lt (r26 + r28) (fun x6_31 => xw_b (fX7_put (a1 + 5) 6 x5 (if x6_31 < a3 then x6_31 else a3) w29) (fun (_ : Unit) w33 => xw_lt (x5 + 1) (fun x5_35 => some (.inl (x5_35, w33)))))))
def fX4_goDay_94 (n : Nat) (a1 : Nat) (a2 : Nat) (a3 : Int32) (x4 : Int32) (x5 : Int32) (w : xw_M) : Option (Int32 × xw_M) := xw_bp (xw_it (fun z => fX4_goDay_b94 n a1 a2 a3 x4 z.1 z.2) n (x5, w)) (fun z => (fun (w : xw_M) => fX4_goDay_151 n a1 a2 a3 x4 w) z)
def fX4_goDay_91 (n : Nat) (a1 : Nat) (a2 : Nat) (a3 : Int32) (x4 : Int32) (w : xw_M) : Option (Int32 × xw_M) := fX4_goDay_94 n a1 a2 a3 x4 (0 : Int32) w
def fX4_goDay_85 (n : Nat) (a1 : Nat) (a2 : Nat) (a3 : Int32) (x4 : Int32) (x5 : Int32) (w : xw_M) : Option ((Int32 × Int32 × xw_M) ⊕ (Int32 × xw_M)) := xw_lt (x5 + 1) (fun x5_24 => some (.inl (x4, x5_24, w)))
def fX4_goDay_b12 (n : Nat) (a1 : Nat) (a2 : Nat) (a3 : Int32) (x4 : Int32) (x5 : Int32) (w : xw_M) : Option ((Int32 × Int32 × xw_M) ⊕ (Int32 × xw_M)) := if (w.1 a1 0) ≤ x5 then some (.inr (x4, w)) else xw_bp (fX7_at (a1 + 4) 6 x5 w) (fun r5 => xw_b (fX4_best n a1 x5 w) (fun r7 w8 => xw_bp (fX5_isAway a1 x5 w8) (fun r10 => if r10 = 0 then xw_b (fX4_worth n a1 x5 r7 w8) (fun r13 w14 => xw_b (fX4_worth n a1 x5 r5 w14) (fun r16 w17 => if r13 ≤ r16 then fX4_goDay_85 n a1 a2 a3 x4 x5 w17 else xw_b (fX7_put (a1 + 4) 6 x5 r7 w17) (fun (_ : Unit) w21 => xw_lt (x4 + 1) (fun x4_23 => fX4_goDay_85 n a1 a2 a3 x4_23 x5 w21)))) else fX4_goDay_85 n a1 a2 a3 x4 x5 w8)))
def fX4_goDay_12 (n : Nat) (a1 : Nat) (a2 : Nat) (a3 : Int32) (x4 : Int32) (x5 : Int32) (w : xw_M) : Option (Int32 × xw_M) := xw_bp (xw_it (fun z => fX4_goDay_b12 n a1 a2 a3 z.1 z.2.1 z.2.2) n (x4, x5, w)) (fun z => (fun (x4 : Int32) (w : xw_M) => fX4_goDay_91 n a1 a2 a3 x4 w) z.1 z.2)
def fX4_goDay (n : Nat) (a1 : Nat) (a2 : Nat) (a3 : Int32) (w0 : xw_M) : Option (Int32 × xw_M) := xw_b (fX4_look n a1 a2 w0) (fun (_ : Unit) w2 => fX4_goDay_12 n a1 a2 a3 (0 : Int32) (0 : Int32) w2)
set_option maxHeartbeats 4000000 in
set_option maxRecDepth 100000 in
theorem kX4_goDay (l : Launch) (G : xw_G) (hG : xw_ok G) (n : Nat) (a1 : Nat) (a2 : Nat) (a3 : Int32) (ha1 : xw_sc a1) (ha2 : xw_pa a2) (w0 : xw_M) (r0 : Int32) (wz : xw_M) (hf : fX4_goDay n a1 a2 a3 w0 = some (r0, wz)) : xw_Ti l G yX4_goDay cX4_goDay 8 ((Option.some Jvm.ClassFile.FieldType.int)) (4) (142) [.ref (xw_ad G 64), .ref (xw_ad G a1), .ref (xw_ad G a2), .int a3] w0 r0 wz := by
  unfold xw_Ti
  refine Met.ofW (cc := cX4_goDay) (maxL := 8) (ret := (Option.some Jvm.ClassFile.FieldType.int)) (by decide) rfl ?_
  intro p e s m args below meth c s₁ B hml hv
  obtain ⟨hargs, hP, hK, hE⟩ := hv
  have hx := B.exec
  have hb := B.bytes
  have hr := B.returns
  have hlk := B.notSynchronized
  have hB : CallFix p m c cX4_goDay 8 s args TB RX4 := ⟨hx, hb, hml, findClass_of_methodNamed B.named, fun q h => (atoms_spec (ws := Cond.code yX4_goDay cX4_goDay 8 ((Option.some Jvm.ClassFile.FieldType.int)) :: TB) B.pre) q (List.mem_cons_of_mem _ h)⟩
  have hS : va_S (xw_A G) s.heap s.heap [] := va_S.rf
  have hl := lv_entry [.ref (xw_ad G 64), .ref (xw_ad G a1), .ref (xw_ad G a2), .int a3] (n := 8) (Nat.le_of_ble_eq_true rfl)
  rw [show entryFrame m args 8 = entryFrame m ([.ref (xw_ad G 64), .ref (xw_ad G a1), .ref (xw_ad G a2), .int a3] : List Value).toArray 8 from by rw [hargs], lg_entry_eq]
  generalize (lg_sl [.ref (xw_ad G 64), .ref (xw_ad G a1), .ref (xw_ad G a2), .int a3] ++ List.replicate (8 - (lg_sl [.ref (xw_ad G 64), .ref (xw_ad G a1), .ref (xw_ad G a2), .int a3]).length) Slot.unset).toArray = ls at hl ⊢
  have hP : va_P (xw_D G) xw_cl (xw_W G w0) s.heap := hP
  have hl : lv_has ls 8 [(0, .ref (xw_ad G 64)), (1, .ref (xw_ad G a1)), (2, .ref (xw_ad G a2)), (3, .int a3)] := hl
  have HH : ∀ (H : Heap) (locs : List Loc) (hP : va_P (xw_D G) xw_cl (xw_W G w0) H) (hS : va_S (xw_A G) s.heap H locs), xw_Wi G p l e (xw_rm (4) (142)) s m args below meth c H locs r0 wz (F0 m 0 ls []) := by
    intro H locs hP hS
    unfold fX4_goDay at hf
    have J151 : ∀ (x4 : Int32) (w : xw_M) (hf : fX4_goDay_151 n a1 a2 a3 x4 w = some (r0, wz)) (H : Heap) (locs : List Loc) (ls : Array Slot) (hP : va_P (xw_D G) xw_cl (xw_W G w) H) (hS : va_S (xw_A G) s.heap H locs) (hl : lv_has ls 8 [(1, .ref (xw_ad G a1)), (4, .int x4)]), xw_Wi G p l e (xw_rm (4) (142)) s m args below meth c H locs r0 wz (F0 m 151 ls []) := by
      intro x4 w hf H locs ls hP hS hl
      unfold fX4_goDay_151 at hf
      refine lv_aload_n hx hb dX4_goDay_151 rfl (lv_at hl 0 rfl) ?_
      refine lv_dup hx hb dX4_goDay_152 rfl ?_
      refine xw_get hB hK hP (xw_o5 G ha1) (C := RX5) (T := TX5) (N := 14) rfl TBi_X5 9 (by decide) tw_89 rfl rfl dX4_goDay_153 ?_
      refine lv_iconst (v := 1) hx hb dX4_goDay_156 (by decide) ?_
      refine lv_iadd hx hb dX4_goDay_157 ?_
      refine xw_put hG hB hK hS hP (x := (w.1 a1 9) + (1 : Int32)) (xw_o5 G ha1) (C := RX5) (T := TX5) (N := 14) rfl TBi_X5 tyX5 tyX5_ok nmX5 9 (by decide) tw_89 rfl rfl rfl rfl rfl (Nat.le_of_ble_eq_true rfl) rfl dX4_goDay_158 (fun w36 ew36 H locs hP hS => ?_)
      replace hf := xw_lt_e ew36 hf
      refine lv_iload hx hb dX4_goDay_161 (lv_at hl 1 rfl) ?_
      obtain ⟨h0, h1⟩ := xw_s2 hf
      exact xw_iret hB hK hE hS hP hr hlk h0 h1 dX4_goDay_163
    have J94 : ∀ (x4 : Int32) (x5 : Int32) (w : xw_M) (hf : fX4_goDay_94 n a1 a2 a3 x4 x5 w = some (r0, wz)) (H : Heap) (locs : List Loc) (ls : Array Slot) (hP : va_P (xw_D G) xw_cl (xw_W G w) H) (hS : va_S (xw_A G) s.heap H locs) (hl : lv_has ls 8 [(0, .ref (xw_ad G 64)), (1, .ref (xw_ad G a1)), (3, .int a3), (4, .int x4), (5, .int x5)]), xw_Wi G p l e (xw_rm (4) (142)) s m args below meth c H locs r0 wz (F0 m 94 ls []) := by
      intro x4 x5 w hf H locs ls hP hS hl
      unfold fX4_goDay_94 at hf
      replace hf := xw_bp_e hf
      obtain ⟨bb94, hit94, hfx94⟩ := hf
      have XX94 : ∀ (w : xw_M) (hf : fX4_goDay_151 n a1 a2 a3 x4 w = some (r0, wz)) (H : Heap) (locs : List Loc) (ls : Array Slot) (hP : va_P (xw_D G) xw_cl (xw_W G w) H) (hS : va_S (xw_A G) s.heap H locs) (hl : lv_has ls 8 [(1, .ref (xw_ad G a1)), (4, .int x4)]), xw_Wi G p l e (xw_rm (4) (142)) s m args below meth c H locs r0 wz (F0 m 151 ls []) := by
        intro w hf H locs ls hP hS hl
        exact J151 x4 w hf H locs ls hP hS (lv_sub hl [0, 1] rfl)
      have LL94 : ∀ (nn : Nat) (x5 : Int32) (w : xw_M) (hit : xw_it (fun z => fX4_goDay_b94 n a1 a2 a3 x4 z.1 z.2) nn (x5, w) = some bb94) (H : Heap) (locs : List Loc) (ls : Array Slot) (hP : va_P (xw_D G) xw_cl (xw_W G w) H) (hS : va_S (xw_A G) s.heap H locs) (hl : lv_has ls 8 [(0, .ref (xw_ad G 64)), (1, .ref (xw_ad G a1)), (3, .int a3), (4, .int x4), (5, .int x5)]), xw_Wi G p l e (xw_rm (4) (142)) s m args below meth c H locs r0 wz (F0 m 94 ls []) := by
        intro nn
        induction nn with
        | zero => intro x5 w hit; exact (xw_it_0 hit).elim
        | succ nn ih94 =>
          intro x5 w hit H locs ls hP hS hl
          replace hit := xw_it_e hit
          obtain ⟨wv94, hf, hC94, hX94⟩ := hit
          replace hf : fX4_goDay_b94 n a1 a2 a3 x4 x5 w = some wv94 := hf
          unfold fX4_goDay_b94 at hf
          refine lv_iload hx hb dX4_goDay_94 (lv_at hl 4 rfl) ?_
          refine lv_aload_n hx hb dX4_goDay_96 rfl (lv_at hl 1 rfl) ?_
          refine xw_get hB hK hP (xw_o5 G ha1) (C := RX5) (T := TX5) (N := 14) rfl TBi_X5 0 (by decide) tw_61 rfl rfl dX4_goDay_97 ?_
          refine lv_icmp_ge (tgt := 151) hx hb dX4_goDay_100 (by decide) (fun c25 => ?_) (fun c25 => ?_)
          · replace hf := xw_ip c25 hf
            have he94 := hX94 _ (xw_so hf).symm
            rw [← he94] at hfx94
            exact XX94 w hfx94 H locs ls hP hS (lv_sub hl [1, 3] rfl)
          · replace hf := xw_in' c25 hf
            refine lv_aload_n hx hb dX4_goDay_103 rfl (lv_at hl 1 rfl) ?_
            refine xw_get hB hK hP (xw_o5 G ha1) (C := RX5) (T := TX5) (N := 14) rfl TBi_X5 5 (by decide) tw_79 rfl rfl dX4_goDay_104 ?_
            refine lv_iload hx hb dX4_goDay_107 (lv_at hl 4 rfl) ?_
            replace hf := xw_bp_e hf
            obtain ⟨r26, he27, hf⟩ := hf
            refine xw_Ni hB hK hE hS hP (As := [.ref (xw_ad G (a1 + 5)), .int x5]) (rest := []) (kX7_at l G hG (a1 + 5) 6 x5 (xw_a5_5 G ha1) w _ he27) (host := RX7) (by decide +kernel) tw_313 tw_312 tw_1 2 hs_X7_at ⟨Nat.le_of_ble_eq_true rfl, Nat.le_of_ble_eq_true rfl⟩ rfl hl.1 (Nat.le_of_ble_eq_true rfl) rfl dX4_goDay_109 ⟨Nat.zero_le _, Nat.zero_le _⟩ (fun H locs hP hS => ?_)
            refine lv_aload_n hx hb dX4_goDay_112 rfl (lv_at hl 0 rfl) ?_
            refine lv_aload_n hx hb dX4_goDay_113 rfl (lv_at hl 1 rfl) ?_
            refine lv_iload hx hb dX4_goDay_114 (lv_at hl 4 rfl) ?_
            refine lv_aload_n hx hb dX4_goDay_116 rfl (lv_at hl 1 rfl) ?_
            refine xw_get hB hK hP (xw_o5 G ha1) (C := RX5) (T := TX5) (N := 14) rfl TBi_X5 8 (by decide) tw_88 rfl rfl dX4_goDay_117 ?_
            refine lv_aload_n hx hb dX4_goDay_120 rfl (lv_at hl 1 rfl) ?_
            refine xw_get hB hK hP (xw_o5 G ha1) (C := RX5) (T := TX5) (N := 14) rfl TBi_X5 7 (by decide) tw_85 rfl rfl dX4_goDay_121 ?_
            replace hf := xw_b_e hf
            obtain ⟨r28, w29, he30, hf⟩ := hf
            refine xw_Vi hB hK hE hS hP (As := [.ref (xw_ad G a1), .int x5, .int (w.1 a1 8), .int (w.1 a1 7)]) (rest := [.int r26]) (kX4_share l G hG n a1 x5 (w.1 a1 8) (w.1 a1 7) ha1 w _ _ he30) gs_X4_93 (xw_rc hK hP (C := RX4) (T := TX4) (N := 3) (xw_o4 G) rfl) 4 hv_X4_share ⟨Nat.le_of_ble_eq_true rfl, Nat.le_of_ble_eq_true rfl⟩ rfl hl.1 (Nat.le_of_ble_eq_true rfl) rfl dX4_goDay_124 ⟨Nat.zero_le _, Nat.zero_le _⟩ (fun H locs hP hS => ?_)
            refine lv_iadd hx hb dX4_goDay_127 ?_
            refine lv_topi (fun x6_31 ex6_31 => ?_)
            replace hf := xw_lt_e ex6_31 hf
            refine lv_istore (lv' := [(6, .int x6_31), (0, .ref (xw_ad G 64)), (1, .ref (xw_ad G a1)), (3, .int a3), (4, .int x4), (5, .int x5)]) hx hb dX4_goDay_128 hl (by decide) rfl (fun ls hl => ?_)
            refine lv_aload_n hx hb dX4_goDay_130 rfl (lv_at hl 2 rfl) ?_
            refine xw_get hB hK hP (xw_o5 G ha1) (C := RX5) (T := TX5) (N := 14) rfl TBi_X5 5 (by decide) tw_79 rfl rfl dX4_goDay_131 ?_
            refine lv_iload hx hb dX4_goDay_134 (lv_at hl 5 rfl) ?_
            refine lv_iload_n hx hb dX4_goDay_136 rfl (lv_at hl 3 rfl) ?_
            refine lv_iload hx hb dX4_goDay_137 (lv_at hl 0 rfl) ?_
            refine va_mmin hx hb (hB.2.2.1.trans hl.1.symm) hB.2.2.2.1 (hB.2.2.2.2 _ tm_542) (hB.2.2.2.2 _ tm_38) (hB.2.2.2.2 _ tw_4) (hB.2.2.2.2 _ tm_39) (Nat.le_of_ble_eq_true rfl) (Nat.le_of_ble_eq_true rfl) (Nat.zero_le _) (Nat.zero_le _) dX4_goDay_139 ?_
            replace hf := xw_b_e hf
            obtain ⟨r32, w33, he34, hf⟩ := hf
            refine xw_Nv hB hK hE hS hP (As := [.ref (xw_ad G (a1 + 5)), .int x5, .int (if x6_31 < a3 then x6_31 else a3)]) (rest := []) (kX7_put l G hG (a1 + 5) 6 x5 (if x6_31 < a3 then x6_31 else a3) (xw_a5_5 G ha1) w29 _ _ he34) (host := RX7) (by decide +kernel) tw_302 tw_301 tw_1 3 hs_X7_put ⟨Nat.le_of_ble_eq_true rfl, Nat.le_of_ble_eq_true rfl⟩ rfl hl.1 (Nat.le_of_ble_eq_true rfl) rfl dX4_goDay_142 ⟨Nat.zero_le _, Nat.zero_le _⟩ (fun H locs hP hS => ?_)
            obtain ⟨x5_35, ex5_35⟩ : ∃ y : Int32, y = x5 + 1 := ⟨_, rfl⟩
            replace hf := xw_lt_e ex5_35 hf
            refine lv_iinc (v := x5_35) (lv' := [(5, .int x5_35), (6, .int x6_31), (0, .ref (xw_ad G 64)), (1, .ref (xw_ad G a1)), (3, .int a3), (4, .int x4)]) hx hb dX4_goDay_145 hl (k := 5) rfl (by rw [ex5_35]; rfl) (by decide) rfl (fun ls hl => ?_)
            refine lv_goto (tgt := 94) hx hb dX4_goDay_148 (by decide) ?_
            have hi := hC94 _ (xw_so hf).symm
            exact ih94 x5_35 w33 hi H locs ls hP hS (lv_sub hl [2, 3, 4, 5, 0] rfl)
      exact LL94 n x5 w hit94 H locs ls hP hS hl
    have J91 : ∀ (x4 : Int32) (w : xw_M) (hf : fX4_goDay_91 n a1 a2 a3 x4 w = some (r0, wz)) (H : Heap) (locs : List Loc) (ls : Array Slot) (hP : va_P (xw_D G) xw_cl (xw_W G w) H) (hS : va_S (xw_A G) s.heap H locs) (hl : lv_has ls 8 [(0, .ref (xw_ad G 64)), (1, .ref (xw_ad G a1)), (3, .int a3), (4, .int x4)]), xw_Wi G p l e (xw_rm (4) (142)) s m args below meth c H locs r0 wz (F0 m 91 ls []) := by
      intro x4 w hf H locs ls hP hS hl
      unfold fX4_goDay_91 at hf
      refine lv_iconst (v := 0) hx hb dX4_goDay_91 (by decide) ?_
      refine lv_istore (lv' := [(5, .int (0 : Int32)), (0, .ref (xw_ad G 64)), (1, .ref (xw_ad G a1)), (3, .int a3), (4, .int x4)]) hx hb dX4_goDay_92 hl (by decide) rfl (fun ls hl => ?_)
      exact J94 x4 (0 : Int32) w hf H locs ls hP hS (lv_sub hl [1, 2, 3, 4, 0] rfl)
    have J12 : ∀ (x4 : Int32) (x5 : Int32) (w : xw_M) (hf : fX4_goDay_12 n a1 a2 a3 x4 x5 w = some (r0, wz)) (H : Heap) (locs : List Loc) (ls : Array Slot) (hP : va_P (xw_D G) xw_cl (xw_W G w) H) (hS : va_S (xw_A G) s.heap H locs) (hl : lv_has ls 8 [(0, .ref (xw_ad G 64)), (1, .ref (xw_ad G a1)), (3, .int a3), (4, .int x4), (5, .int x5)]), xw_Wi G p l e (xw_rm (4) (142)) s m args below meth c H locs r0 wz (F0 m 12 ls []) := by
      intro x4 x5 w hf H locs ls hP hS hl
      unfold fX4_goDay_12 at hf
      replace hf := xw_bp_e hf
      obtain ⟨bb12, hit12, hfx12⟩ := hf
      have XX12 : ∀ (x4 : Int32) (w : xw_M) (hf : fX4_goDay_91 n a1 a2 a3 x4 w = some (r0, wz)) (H : Heap) (locs : List Loc) (ls : Array Slot) (hP : va_P (xw_D G) xw_cl (xw_W G w) H) (hS : va_S (xw_A G) s.heap H locs) (hl : lv_has ls 8 [(0, .ref (xw_ad G 64)), (1, .ref (xw_ad G a1)), (3, .int a3), (4, .int x4)]), xw_Wi G p l e (xw_rm (4) (142)) s m args below meth c H locs r0 wz (F0 m 91 ls []) := by
        intro x4 w hf H locs ls hP hS hl
        exact J91 x4 w hf H locs ls hP hS (lv_sub hl [0, 1, 2, 3] rfl)
      have LL12 : ∀ (nn : Nat) (x4 : Int32) (x5 : Int32) (w : xw_M) (hit : xw_it (fun z => fX4_goDay_b12 n a1 a2 a3 z.1 z.2.1 z.2.2) nn (x4, x5, w) = some bb12) (H : Heap) (locs : List Loc) (ls : Array Slot) (hP : va_P (xw_D G) xw_cl (xw_W G w) H) (hS : va_S (xw_A G) s.heap H locs) (hl : lv_has ls 8 [(0, .ref (xw_ad G 64)), (1, .ref (xw_ad G a1)), (3, .int a3), (4, .int x4), (5, .int x5)]), xw_Wi G p l e (xw_rm (4) (142)) s m args below meth c H locs r0 wz (F0 m 12 ls []) := by
        intro nn
        induction nn with
        | zero => intro x4 x5 w hit; exact (xw_it_0 hit).elim
        | succ nn ih12 =>
          intro x4 x5 w hit H locs ls hP hS hl
          replace hit := xw_it_e hit
          obtain ⟨wv12, hf, hC12, hX12⟩ := hit
          replace hf : fX4_goDay_b12 n a1 a2 a3 x4 x5 w = some wv12 := hf
          unfold fX4_goDay_b12 at hf
          have J85 : ∀ (x4 : Int32) (x5 : Int32) (w : xw_M) (hf : fX4_goDay_85 n a1 a2 a3 x4 x5 w = some wv12) (H : Heap) (locs : List Loc) (ls : Array Slot) (hP : va_P (xw_D G) xw_cl (xw_W G w) H) (hS : va_S (xw_A G) s.heap H locs) (hl : lv_has ls 8 [(0, .ref (xw_ad G 64)), (1, .ref (xw_ad G a1)), (3, .int a3), (4, .int x4), (5, .int x5)]), xw_Wi G p l e (xw_rm (4) (142)) s m args below meth c H locs r0 wz (F0 m 85 ls []) := by
            intro x4 x5 w hf H locs ls hP hS hl
            unfold fX4_goDay_85 at hf
            obtain ⟨x5_24, ex5_24⟩ : ∃ y : Int32, y = x5 + 1 := ⟨_, rfl⟩
            replace hf := xw_lt_e ex5_24 hf
            refine lv_iinc (v := x5_24) (lv' := [(5, .int x5_24), (0, .ref (xw_ad G 64)), (1, .ref (xw_ad G a1)), (3, .int a3), (4, .int x4)]) hx hb dX4_goDay_85 hl (k := 4) rfl (by rw [ex5_24]; rfl) (by decide) rfl (fun ls hl => ?_)
            refine lv_goto (tgt := 12) hx hb dX4_goDay_88 (by decide) ?_
            have hi := hC12 _ (xw_so hf).symm
            exact ih12 x4 x5_24 w hi H locs ls hP hS (lv_sub hl [1, 2, 3, 4, 0] rfl)
          refine lv_iload hx hb dX4_goDay_12 (lv_at hl 4 rfl) ?_
          refine lv_aload_n hx hb dX4_goDay_14 rfl (lv_at hl 1 rfl) ?_
          refine xw_get hB hK hP (xw_o5 G ha1) (C := RX5) (T := TX5) (N := 14) rfl TBi_X5 0 (by decide) tw_61 rfl rfl dX4_goDay_15 ?_
          refine lv_icmp_ge (tgt := 91) hx hb dX4_goDay_18 (by decide) (fun c4 => ?_) (fun c4 => ?_)
          · replace hf := xw_ip c4 hf
            have he12 := hX12 _ (xw_so hf).symm
            rw [← he12] at hfx12
            exact XX12 x4 w hfx12 H locs ls hP hS (lv_sub hl [0, 1, 2, 3] rfl)
          · replace hf := xw_in' c4 hf
            refine lv_aload_n hx hb dX4_goDay_21 rfl (lv_at hl 1 rfl) ?_
            refine xw_get hB hK hP (xw_o5 G ha1) (C := RX5) (T := TX5) (N := 14) rfl TBi_X5 4 (by decide) tw_76 rfl rfl dX4_goDay_22 ?_
            refine lv_iload hx hb dX4_goDay_25 (lv_at hl 4 rfl) ?_
            replace hf := xw_bp_e hf
            obtain ⟨r5, he6, hf⟩ := hf
            refine xw_Ni hB hK hE hS hP (As := [.ref (xw_ad G (a1 + 4)), .int x5]) (rest := []) (kX7_at l G hG (a1 + 4) 6 x5 (xw_a5_4 G ha1) w _ he6) (host := RX7) (by decide +kernel) tw_313 tw_312 tw_1 2 hs_X7_at ⟨Nat.le_of_ble_eq_true rfl, Nat.le_of_ble_eq_true rfl⟩ rfl hl.1 (Nat.le_of_ble_eq_true rfl) rfl dX4_goDay_27 ⟨Nat.zero_le _, Nat.zero_le _⟩ (fun H locs hP hS => ?_)
            refine lv_istore (lv' := [(6, .int r5), (0, .ref (xw_ad G 64)), (1, .ref (xw_ad G a1)), (3, .int a3), (4, .int x4), (5, .int x5)]) hx hb dX4_goDay_30 hl (by decide) rfl (fun ls hl => ?_)
            refine lv_aload_n hx hb dX4_goDay_32 rfl (lv_at hl 1 rfl) ?_
            refine lv_aload_n hx hb dX4_goDay_33 rfl (lv_at hl 2 rfl) ?_
            refine lv_iload hx hb dX4_goDay_34 (lv_at hl 5 rfl) ?_
            replace hf := xw_b_e hf
            obtain ⟨r7, w8, he9, hf⟩ := hf
            refine xw_Vi hB hK hE hS hP (As := [.ref (xw_ad G a1), .int x5]) (rest := []) (kX4_best l G hG n a1 x5 ha1 w _ _ he9) gs_X4_103 (xw_rc hK hP (C := RX4) (T := TX4) (N := 3) (xw_o4 G) rfl) 2 hv_X4_best ⟨Nat.le_of_ble_eq_true rfl, Nat.le_of_ble_eq_true rfl⟩ rfl hl.1 (Nat.le_of_ble_eq_true rfl) rfl dX4_goDay_36 ⟨Nat.zero_le _, Nat.zero_le _⟩ (fun H locs hP hS => ?_)
            refine lv_istore (lv' := [(7, .int r7), (6, .int r5), (0, .ref (xw_ad G 64)), (1, .ref (xw_ad G a1)), (3, .int a3), (4, .int x4), (5, .int x5)]) hx hb dX4_goDay_39 hl (by decide) rfl (fun ls hl => ?_)
            refine lv_aload_n hx hb dX4_goDay_41 rfl (lv_at hl 3 rfl) ?_
            refine lv_iload hx hb dX4_goDay_42 (lv_at hl 6 rfl) ?_
            replace hf := xw_bp_e hf
            obtain ⟨r10, he11, hf⟩ := hf
            refine xw_Vi hB hK hE hS hP (As := [.int x5]) (rest := []) (kX5_isAway l G hG a1 x5 ha1 w8 _ he11) gs_X4_107 (xw_rc hK hP (C := RX5) (T := TX5) (N := 14) (xw_o5 G ha1) rfl) 1 hv_X5_isAway ⟨Nat.le_of_ble_eq_true rfl, Nat.le_of_ble_eq_true rfl⟩ rfl hl.1 (Nat.le_of_ble_eq_true rfl) rfl dX4_goDay_44 ⟨Nat.zero_le _, Nat.zero_le _⟩ (fun H locs hP hS => ?_)
            refine lv_if_ne (tgt := 85) hx hb dX4_goDay_47 (by decide) (fun c12 => ?_) (fun c12 => ?_)
            · replace hf := xw_in' c12 hf
              exact J85 x4 x5 w8 hf H locs ls hP hS (lv_sub hl [2, 3, 4, 5, 6] rfl)
            · replace hf := xw_ip c12 hf
              refine lv_aload_n hx hb dX4_goDay_50 rfl (lv_at hl 2 rfl) ?_
              refine lv_aload_n hx hb dX4_goDay_51 rfl (lv_at hl 3 rfl) ?_
              refine lv_iload hx hb dX4_goDay_52 (lv_at hl 6 rfl) ?_
              refine lv_iload hx hb dX4_goDay_54 (lv_at hl 0 rfl) ?_
              replace hf := xw_b_e hf
              obtain ⟨r13, w14, he15, hf⟩ := hf
              refine xw_Vi hB hK hE hS hP (As := [.ref (xw_ad G a1), .int x5, .int r7]) (rest := []) (kX4_worth l G hG n a1 x5 r7 ha1 w8 _ _ he15) gs_X4_79 (xw_rc hK hP (C := RX4) (T := TX4) (N := 3) (xw_o4 G) rfl) 3 hv_X4_worth ⟨Nat.le_of_ble_eq_true rfl, Nat.le_of_ble_eq_true rfl⟩ rfl hl.1 (Nat.le_of_ble_eq_true rfl) rfl dX4_goDay_56 ⟨Nat.zero_le _, Nat.zero_le _⟩ (fun H locs hP hS => ?_)
              refine lv_aload_n hx hb dX4_goDay_59 rfl (lv_at hl 2 rfl) ?_
              refine lv_aload_n hx hb dX4_goDay_60 rfl (lv_at hl 3 rfl) ?_
              refine lv_iload hx hb dX4_goDay_61 (lv_at hl 6 rfl) ?_
              refine lv_iload hx hb dX4_goDay_63 (lv_at hl 1 rfl) ?_
              replace hf := xw_b_e hf
              obtain ⟨r16, w17, he18, hf⟩ := hf
              refine xw_Vi hB hK hE hS hP (As := [.ref (xw_ad G a1), .int x5, .int r5]) (rest := [.int r13]) (kX4_worth l G hG n a1 x5 r5 ha1 w14 _ _ he18) gs_X4_79 (xw_rc hK hP (C := RX4) (T := TX4) (N := 3) (xw_o4 G) rfl) 3 hv_X4_worth ⟨Nat.le_of_ble_eq_true rfl, Nat.le_of_ble_eq_true rfl⟩ rfl hl.1 (Nat.le_of_ble_eq_true rfl) rfl dX4_goDay_65 ⟨Nat.zero_le _, Nat.zero_le _⟩ (fun H locs hP hS => ?_)
              refine lv_icmp_le (tgt := 85) hx hb dX4_goDay_68 (by decide) (fun c19 => ?_) (fun c19 => ?_)
              · replace hf := xw_ip c19 hf
                exact J85 x4 x5 w17 hf H locs ls hP hS (lv_sub hl [2, 3, 4, 5, 6] rfl)
              · replace hf := xw_in' c19 hf
                refine lv_aload_n hx hb dX4_goDay_71 rfl (lv_at hl 3 rfl) ?_
                refine xw_get hB hK hP (xw_o5 G ha1) (C := RX5) (T := TX5) (N := 14) rfl TBi_X5 4 (by decide) tw_76 rfl rfl dX4_goDay_72 ?_
                refine lv_iload hx hb dX4_goDay_75 (lv_at hl 6 rfl) ?_
                refine lv_iload hx hb dX4_goDay_77 (lv_at hl 0 rfl) ?_
                replace hf := xw_b_e hf
                obtain ⟨r20, w21, he22, hf⟩ := hf
                refine xw_Nv hB hK hE hS hP (As := [.ref (xw_ad G (a1 + 4)), .int x5, .int r7]) (rest := []) (kX7_put l G hG (a1 + 4) 6 x5 r7 (xw_a5_4 G ha1) w17 _ _ he22) (host := RX7) (by decide +kernel) tw_302 tw_301 tw_1 3 hs_X7_put ⟨Nat.le_of_ble_eq_true rfl, Nat.le_of_ble_eq_true rfl⟩ rfl hl.1 (Nat.le_of_ble_eq_true rfl) rfl dX4_goDay_79 ⟨Nat.zero_le _, Nat.zero_le _⟩ (fun H locs hP hS => ?_)
                obtain ⟨x4_23, ex4_23⟩ : ∃ y : Int32, y = x4 + 1 := ⟨_, rfl⟩
                replace hf := xw_lt_e ex4_23 hf
                refine lv_iinc (v := x4_23) (lv' := [(4, .int x4_23), (7, .int r7), (6, .int r5), (0, .ref (xw_ad G 64)), (1, .ref (xw_ad G a1)), (3, .int a3), (5, .int x5)]) hx hb dX4_goDay_82 hl (k := 5) rfl (by rw [ex4_23]; rfl) (by decide) rfl (fun ls hl => ?_)
                exact J85 x4_23 x5 w21 hf H locs ls hP hS (lv_sub hl [3, 4, 5, 0, 6] rfl)
      exact LL12 n x4 x5 w hit12 H locs ls hP hS hl
    refine lv_aload_n hx hb dX4_goDay_0 rfl (lv_at hl 0 rfl) ?_
    refine lv_aload_n hx hb dX4_goDay_1 rfl (lv_at hl 1 rfl) ?_
    refine lv_aload_n hx hb dX4_goDay_2 rfl (lv_at hl 2 rfl) ?_
    replace hf := xw_b_e hf
    obtain ⟨r1, w2, he3, hf⟩ := hf
    refine xw_Vv hB hK hE hS hP (As := [.ref (xw_ad G a1), .ref (xw_ad G a2)]) (rest := []) (kX4_look l G hG n a1 a2 ha1 ha2 w0 _ _ he3) gs_X4_99 (xw_rc hK hP (C := RX4) (T := TX4) (N := 3) (xw_o4 G) rfl) 2 hv_X4_look ⟨Nat.le_of_ble_eq_true rfl, Nat.le_of_ble_eq_true rfl⟩ rfl hl.1 (Nat.le_of_ble_eq_true rfl) rfl dX4_goDay_3 ⟨Nat.zero_le _, Nat.zero_le _⟩ (fun H locs hP hS => ?_)
    refine lv_iconst (v := 0) hx hb dX4_goDay_6 (by decide) ?_
    refine lv_istore (lv' := [(4, .int (0 : Int32)), (0, .ref (xw_ad G 64)), (1, .ref (xw_ad G a1)), (2, .ref (xw_ad G a2)), (3, .int a3)]) hx hb dX4_goDay_7 hl (by decide) rfl (fun ls hl => ?_)
    refine lv_iconst (v := 0) hx hb dX4_goDay_9 (by decide) ?_
    refine lv_istore (lv' := [(5, .int (0 : Int32)), (4, .int (0 : Int32)), (0, .ref (xw_ad G 64)), (1, .ref (xw_ad G a1)), (2, .ref (xw_ad G a2)), (3, .int a3)]) hx hb dX4_goDay_10 hl (by decide) rfl (fun ls hl => ?_)
    exact J12 (0 : Int32) (0 : Int32) w2 hf H locs ls hP hS (lv_sub hl [2, 3, 5, 1, 0] rfl)
  exact HH s.heap [] hP hS
def fX7_still_47 (n : Nat) (w : xw_M) : Option (Int32 × xw_M) := some ((-5 : Int32), w)
def fX7_still_b13 (n : Nat) (x1 : Int32) (w : xw_M) : Option ((Int32 × xw_M) ⊕ ((Int32 × xw_M) ⊕ (xw_M))) := if (20 : Int32) < x1 then some (.inr (.inr w)) else xw_bp (fX7_held w) (fun r5 => xw_om r5 (none) (fun t7 => xw_cc (xw_pa t7) (xw_b (fX4_goDay n 17 t7 (2147483647 : Int32) w) (fun r9 w10 => if r9 = 0 then some (.inr (.inl (x1, w10))) else xw_lt (x1 + 1) (fun x1_13 => some (.inl (x1_13, w10)))))))
def fX7_still_13 (n : Nat) (x1 : Int32) (w : xw_M) : Option (Int32 × xw_M) := xw_bp (xw_it (fun z => fX7_still_b13 n z.1 z.2) n (x1, w)) (fun z => xw_su z (fun r => some r) (fun z => (fun (w : xw_M) => fX7_still_47 n w) z))
def fX7_still (n : Nat) (w0 : xw_M) : Option (Int32 × xw_M) := xw_b (fX5_takeAfter 17 1 w0) (fun (_ : Unit) w2 => fX7_still_13 n (0 : Int32) w2)
set_option maxHeartbeats 4000000 in
set_option maxRecDepth 100000 in
theorem kX7_still (l : Launch) (G : xw_G) (hG : xw_ok G) (n : Nat) (w0 : xw_M) (r0 : Int32) (wz : xw_M) (hf : fX7_still n w0 = some (r0, wz)) : xw_Ti l G yX7_still cX7_still 2 ((Option.some Jvm.ClassFile.FieldType.int)) (5) (169) [.ref (xw_ad G 0)] w0 r0 wz := by
  unfold xw_Ti
  refine Met.ofW (cc := cX7_still) (maxL := 2) (ret := (Option.some Jvm.ClassFile.FieldType.int)) (by decide) rfl ?_
  intro p e s m args below meth c s₁ B hml hv
  obtain ⟨hargs, hP, hK, hE⟩ := hv
  have hx := B.exec
  have hb := B.bytes
  have hr := B.returns
  have hlk := B.notSynchronized
  have hB : CallFix p m c cX7_still 2 s args TB RX7 := ⟨hx, hb, hml, findClass_of_methodNamed B.named, fun q h => (atoms_spec (ws := Cond.code yX7_still cX7_still 2 ((Option.some Jvm.ClassFile.FieldType.int)) :: TB) B.pre) q (List.mem_cons_of_mem _ h)⟩
  have hS : va_S (xw_A G) s.heap s.heap [] := va_S.rf
  have hl := lv_entry [.ref (xw_ad G 0)] (n := 2) (Nat.le_of_ble_eq_true rfl)
  rw [show entryFrame m args 2 = entryFrame m ([.ref (xw_ad G 0)] : List Value).toArray 2 from by rw [hargs], lg_entry_eq]
  generalize (lg_sl [.ref (xw_ad G 0)] ++ List.replicate (2 - (lg_sl [.ref (xw_ad G 0)]).length) Slot.unset).toArray = ls at hl ⊢
  have hP : va_P (xw_D G) xw_cl (xw_W G w0) s.heap := hP
  have hl : lv_has ls 2 [(0, .ref (xw_ad G 0))] := hl
  have HH : ∀ (H : Heap) (locs : List Loc) (hP : va_P (xw_D G) xw_cl (xw_W G w0) H) (hS : va_S (xw_A G) s.heap H locs), xw_Wi G p l e (xw_rm (5) (169)) s m args below meth c H locs r0 wz (F0 m 0 ls []) := by
    intro H locs hP hS
    unfold fX7_still at hf
    have J47 : ∀ (w : xw_M) (hf : fX7_still_47 n w = some (r0, wz)) (H : Heap) (locs : List Loc) (ls : Array Slot) (hP : va_P (xw_D G) xw_cl (xw_W G w) H) (hS : va_S (xw_A G) s.heap H locs) (hl : lv_has ls 2 []), xw_Wi G p l e (xw_rm (5) (169)) s m args below meth c H locs r0 wz (F0 m 47 ls []) := by
      intro w hf H locs ls hP hS hl
      unfold fX7_still_47 at hf
      refine lv_bipush (v := (-5)) hx hb dX7_still_47 (by decide) ?_
      obtain ⟨h0, h1⟩ := xw_s2 hf
      exact xw_iret hB hK hE hS hP hr hlk h0 h1 dX7_still_49
    have J13 : ∀ (x1 : Int32) (w : xw_M) (hf : fX7_still_13 n x1 w = some (r0, wz)) (H : Heap) (locs : List Loc) (ls : Array Slot) (hP : va_P (xw_D G) xw_cl (xw_W G w) H) (hS : va_S (xw_A G) s.heap H locs) (hl : lv_has ls 2 [(0, .ref (xw_ad G 0)), (1, .int x1)]), xw_Wi G p l e (xw_rm (5) (169)) s m args below meth c H locs r0 wz (F0 m 13 ls []) := by
      intro x1 w hf H locs ls hP hS hl
      unfold fX7_still_13 at hf
      replace hf := xw_bp_e hf
      obtain ⟨bb13, hit13, hfx13⟩ := hf
      have XX13 : ∀ (w : xw_M) (hf : fX7_still_47 n w = some (r0, wz)) (H : Heap) (locs : List Loc) (ls : Array Slot) (hP : va_P (xw_D G) xw_cl (xw_W G w) H) (hS : va_S (xw_A G) s.heap H locs) (hl : lv_has ls 2 []), xw_Wi G p l e (xw_rm (5) (169)) s m args below meth c H locs r0 wz (F0 m 47 ls []) := by
        intro w hf H locs ls hP hS hl
        exact J47 w hf H locs ls hP hS (lv_sub hl [] rfl)
      have LL13 : ∀ (nn : Nat) (x1 : Int32) (w : xw_M) (hit : xw_it (fun z => fX7_still_b13 n z.1 z.2) nn (x1, w) = some bb13) (H : Heap) (locs : List Loc) (ls : Array Slot) (hP : va_P (xw_D G) xw_cl (xw_W G w) H) (hS : va_S (xw_A G) s.heap H locs) (hl : lv_has ls 2 [(0, .ref (xw_ad G 0)), (1, .int x1)]), xw_Wi G p l e (xw_rm (5) (169)) s m args below meth c H locs r0 wz (F0 m 13 ls []) := by
        intro nn
        induction nn with
        | zero => intro x1 w hit; exact (xw_it_0 hit).elim
        | succ nn ih13 =>
          intro x1 w hit H locs ls hP hS hl
          replace hit := xw_it_e hit
          obtain ⟨wv13, hf, hC13, hX13⟩ := hit
          replace hf : fX7_still_b13 n x1 w = some wv13 := hf
          unfold fX7_still_b13 at hf
          refine lv_iload_n hx hb dX7_still_13 rfl (lv_at hl 1 rfl) ?_
          refine lv_bipush (v := 20) hx hb dX7_still_14 (by decide) ?_
          refine lv_icmp_gt (tgt := 47) hx hb dX7_still_16 (by decide) (fun c4 => ?_) (fun c4 => ?_)
          · replace hf := xw_ip c4 hf
            have he13 := hX13 _ (xw_so hf).symm
            rw [← he13] at hfx13
            exact XX13 w hfx13 H locs ls hP hS (lv_sub hl [] rfl)
          · replace hf := xw_in' c4 hf
            refine lv_aload_n hx hb dX7_still_19 rfl (lv_at hl 0 rfl) ?_
            refine xw_get hB hK hP (xw_o7 G) (C := RX7) (T := TX7) (N := 11) rfl TBi_X7 8 (by decide) tw_263 rfl rfl dX7_still_20 ?_
            refine lv_aload_n hx hb dX7_still_23 rfl (lv_at hl 0 rfl) ?_
            refine xw_get hB hK hP (xw_o7 G) (C := RX7) (T := TX7) (N := 11) rfl TBi_X7 1 (by decide) tw_256 rfl rfl dX7_still_24 ?_
            refine lv_aload_n hx hb dX7_still_27 rfl (lv_at hl 0 rfl) ?_
            replace hf := xw_bp_e hf
            obtain ⟨r5, he6, hf⟩ := hf
            refine xw_Vq hB hK hE hS hP (As := []) (rest := [.ref (xw_ad G 17), .ref (xw_ad G 64)]) (kX7_held l G hG w _ he6) gs_X7_108 (xw_rc hK hP (C := RX7) (T := TX7) (N := 11) (xw_o7 G) rfl) 0 hv_X7_held ⟨Nat.le_of_ble_eq_true rfl, Nat.le_of_ble_eq_true rfl⟩ rfl hl.1 (Nat.le_of_ble_eq_true rfl) rfl dX7_still_28 ⟨Nat.zero_le _, Nat.zero_le _⟩ (fun H locs hP hS => ?_)
            cases r5 with
            | none =>
              replace hf := xw_om_n hf
              refine lv_ldc (v := (2147483647)) hx hb hB.2.2.2.1 (hB.2.2.2.2 _ tw_533) dX7_still_31 ?_
              cases hf
            | some t7 =>
              replace hf := xw_om_s hf
              replace hf := xw_cc_e hf
              obtain ⟨ht8, hf⟩ := hf
              refine lv_ldc (v := (2147483647)) hx hb hB.2.2.2.1 (hB.2.2.2.2 _ tw_533) dX7_still_31 ?_
              replace hf := xw_b_e hf
              obtain ⟨r9, w10, he11, hf⟩ := hf
              refine xw_Vi hB hK hE hS hP (As := [.ref (xw_ad G 17), .ref (xw_ad G t7), .int (2147483647 : Int32)]) (rest := []) (kX4_goDay l G hG n 17 t7 (2147483647 : Int32) (Or.inr (Or.inl rfl)) ht8 w _ _ he11) gs_X7_187 (xw_rc hK hP (C := RX4) (T := TX4) (N := 3) (xw_o4 G) rfl) 3 hv_X4_goDay ⟨Nat.le_of_ble_eq_true rfl, Nat.le_of_ble_eq_true rfl⟩ rfl hl.1 (Nat.le_of_ble_eq_true rfl) rfl dX7_still_33 ⟨Nat.zero_le _, Nat.zero_le _⟩ (fun H locs hP hS => ?_)
              refine lv_if_ne (tgt := 41) hx hb dX7_still_36 (by decide) (fun c12 => ?_) (fun c12 => ?_)
              · replace hf := xw_in' c12 hf
                obtain ⟨x1_13, ex1_13⟩ : ∃ y : Int32, y = x1 + 1 := ⟨_, rfl⟩
                replace hf := xw_lt_e ex1_13 hf
                refine lv_iinc (v := x1_13) (lv' := [(1, .int x1_13), (0, .ref (xw_ad G 0))]) hx hb dX7_still_41 hl (k := 1) rfl (by rw [ex1_13]; rfl) (by decide) rfl (fun ls hl => ?_)
                refine lv_goto (tgt := 13) hx hb dX7_still_44 (by decide) ?_
                have hi := hC13 _ (xw_so hf).symm
                exact ih13 x1_13 w10 hi H locs ls hP hS (lv_sub hl [1, 0] rfl)
              · replace hf := xw_ip c12 hf
                refine lv_iload_n hx hb dX7_still_39 rfl (lv_at hl 1 rfl) ?_
                have he13 := hX13 _ (xw_so hf).symm
                rw [← he13] at hfx13
                replace hfx13 : some (x1, w10) = some (r0, wz) := hfx13
                obtain ⟨h0, h1⟩ := xw_s2 hfx13
                exact xw_iret hB hK hE hS hP hr hlk h0 h1 dX7_still_40
      exact LL13 n x1 w hit13 H locs ls hP hS hl
    refine lv_aload_n hx hb dX7_still_0 rfl (lv_at hl 0 rfl) ?_
    refine xw_get hB hK hP (xw_o7 G) (C := RX7) (T := TX7) (N := 11) rfl TBi_X7 1 (by decide) tw_256 rfl rfl dX7_still_1 ?_
    refine lv_aload_n hx hb dX7_still_4 rfl (lv_at hl 0 rfl) ?_
    refine xw_get hB hK hP (xw_o7 G) (C := RX7) (T := TX7) (N := 11) rfl TBi_X7 0 (by decide) tw_255 rfl rfl dX7_still_5 ?_
    replace hf := xw_b_e hf
    obtain ⟨r1, w2, he3, hf⟩ := hf
    refine xw_Vv hB hK hE hS hP (As := [.ref (xw_ad G 1)]) (rest := []) (kX5_takeAfter l G hG 17 1 (Or.inr (Or.inl rfl)) (Or.inl rfl) w0 _ _ he3) gs_X7_191 (xw_rc hK hP (C := RX5) (T := TX5) (N := 14) (xw_o5 G (Or.inr (Or.inl rfl))) rfl) 1 hv_X5_takeAfter ⟨Nat.le_of_ble_eq_true rfl, Nat.le_of_ble_eq_true rfl⟩ rfl hl.1 (Nat.le_of_ble_eq_true rfl) rfl dX7_still_8 ⟨Nat.zero_le _, Nat.zero_le _⟩ (fun H locs hP hS => ?_)
    refine lv_iconst (v := 0) hx hb dX7_still_11 (by decide) ?_
    refine lv_istore_n (lv' := [(1, .int (0 : Int32)), (0, .ref (xw_ad G 0))]) hx hb dX7_still_12 rfl hl (by decide) rfl (fun ls hl => ?_)
    exact J13 (0 : Int32) w2 hf H locs ls hP hS (lv_sub hl [1, 0] rfl)
  exact HH s.heap [] hP hS
def fX7_gains_131 (n : Nat) (x1 : Int32) (w : xw_M) : Option (Int32 × xw_M) := some (x1, w)
def fX7_gains_125 (n : Nat) (x1 : Int32) (x2 : Int32) (w : xw_M) : Option ((Int32 × Int32 × xw_M) ⊕ (Int32 × xw_M)) := xw_lt (x2 + 1) (fun x2_34 => some (.inl (x1, x2_34, w)))
def fX7_gains_b48 (n : Nat) (x1 : Int32) (x2 : Int32) (w : xw_M) : Option ((Int32 × Int32 × xw_M) ⊕ (Int32 × xw_M)) := if (w.1 1 0) ≤ x2 then some (.inr (x1, w)) else xw_bp (fX5_isAway 1 x2 w) (fun r19 => if r19 = 0 then xw_bp (fX7_at (17 + 4) 6 x2 w) (fun r22 => xw_b (fX4_worth n 17 x2 r22 w) (fun r24 w25 => xw_bp (fX7_at (1 + 4) 6 x2 w25) (fun r27 => xw_b (fX4_worth n 1 x2 r27 w25) (fun r29 w30 => if r24 ≤ r29 then fX7_gains_125 n x1 x2 w30 else xw_lt (x1 ||| ((1 : Int32) <<< (x2 &&& 31))) (fun x1_33 => fX7_gains_125 n x1_33 x2 w30))))) else fX7_gains_125 n x1 x2 w)
def fX7_gains_48 (n : Nat) (x1 : Int32) (x2 : Int32) (w : xw_M) : Option (Int32 × xw_M) := xw_bp (xw_it (fun z => fX7_gains_b48 n z.1 z.2.1 z.2.2) n (x1, x2, w)) (fun z => (fun (x1 : Int32) (w : xw_M) => fX7_gains_131 n x1 w) z.1 z.2)
def fX7_gains (n : Nat) (w0 : xw_M) : Option (Int32 × xw_M) := xw_b (fX5_takeAfter 17 1 w0) (fun (_ : Unit) w2 => xw_bp (fX7_held w2) (fun r4 => xw_om r4 (none) (fun t6 => xw_cc (xw_pa t6) (xw_b (fX4_goDay n 17 t6 (2147483647 : Int32) w2) (fun r8 w9 => xw_bp (fX7_held w9) (fun r11 => xw_om r11 (none) (fun t13 => xw_cc (xw_pa t13) (xw_b (fX4_look n 1 t13 w9) (fun (_ : Unit) w16 => fX7_gains_48 n (0 : Int32) (0 : Int32) w16)))))))))
set_option maxHeartbeats 4000000 in
set_option maxRecDepth 100000 in
theorem kX7_gains (l : Launch) (G : xw_G) (hG : xw_ok G) (n : Nat) (w0 : xw_M) (r0 : Int32) (wz : xw_M) (hf : fX7_gains n w0 = some (r0, wz)) : xw_Ti l G yX7_gains cX7_gains 3 ((Option.some Jvm.ClassFile.FieldType.int)) (5) (169) [.ref (xw_ad G 0)] w0 r0 wz := by
  unfold xw_Ti
  refine Met.ofW (cc := cX7_gains) (maxL := 3) (ret := (Option.some Jvm.ClassFile.FieldType.int)) (by decide) rfl ?_
  intro p e s m args below meth c s₁ B hml hv
  obtain ⟨hargs, hP, hK, hE⟩ := hv
  have hx := B.exec
  have hb := B.bytes
  have hr := B.returns
  have hlk := B.notSynchronized
  have hB : CallFix p m c cX7_gains 3 s args TB RX7 := ⟨hx, hb, hml, findClass_of_methodNamed B.named, fun q h => (atoms_spec (ws := Cond.code yX7_gains cX7_gains 3 ((Option.some Jvm.ClassFile.FieldType.int)) :: TB) B.pre) q (List.mem_cons_of_mem _ h)⟩
  have hS : va_S (xw_A G) s.heap s.heap [] := va_S.rf
  have hl := lv_entry [.ref (xw_ad G 0)] (n := 3) (Nat.le_of_ble_eq_true rfl)
  rw [show entryFrame m args 3 = entryFrame m ([.ref (xw_ad G 0)] : List Value).toArray 3 from by rw [hargs], lg_entry_eq]
  generalize (lg_sl [.ref (xw_ad G 0)] ++ List.replicate (3 - (lg_sl [.ref (xw_ad G 0)]).length) Slot.unset).toArray = ls at hl ⊢
  have hP : va_P (xw_D G) xw_cl (xw_W G w0) s.heap := hP
  have hl : lv_has ls 3 [(0, .ref (xw_ad G 0))] := hl
  have HH : ∀ (H : Heap) (locs : List Loc) (hP : va_P (xw_D G) xw_cl (xw_W G w0) H) (hS : va_S (xw_A G) s.heap H locs), xw_Wi G p l e (xw_rm (5) (169)) s m args below meth c H locs r0 wz (F0 m 0 ls []) := by
    intro H locs hP hS
    unfold fX7_gains at hf
    have J131 : ∀ (x1 : Int32) (w : xw_M) (hf : fX7_gains_131 n x1 w = some (r0, wz)) (H : Heap) (locs : List Loc) (ls : Array Slot) (hP : va_P (xw_D G) xw_cl (xw_W G w) H) (hS : va_S (xw_A G) s.heap H locs) (hl : lv_has ls 3 [(1, .int x1)]), xw_Wi G p l e (xw_rm (5) (169)) s m args below meth c H locs r0 wz (F0 m 131 ls []) := by
      intro x1 w hf H locs ls hP hS hl
      unfold fX7_gains_131 at hf
      refine lv_iload_n hx hb dX7_gains_131 rfl (lv_at hl 0 rfl) ?_
      obtain ⟨h0, h1⟩ := xw_s2 hf
      exact xw_iret hB hK hE hS hP hr hlk h0 h1 dX7_gains_132
    have J48 : ∀ (x1 : Int32) (x2 : Int32) (w : xw_M) (hf : fX7_gains_48 n x1 x2 w = some (r0, wz)) (H : Heap) (locs : List Loc) (ls : Array Slot) (hP : va_P (xw_D G) xw_cl (xw_W G w) H) (hS : va_S (xw_A G) s.heap H locs) (hl : lv_has ls 3 [(0, .ref (xw_ad G 0)), (1, .int x1), (2, .int x2)]), xw_Wi G p l e (xw_rm (5) (169)) s m args below meth c H locs r0 wz (F0 m 48 ls []) := by
      intro x1 x2 w hf H locs ls hP hS hl
      unfold fX7_gains_48 at hf
      replace hf := xw_bp_e hf
      obtain ⟨bb48, hit48, hfx48⟩ := hf
      have XX48 : ∀ (x1 : Int32) (w : xw_M) (hf : fX7_gains_131 n x1 w = some (r0, wz)) (H : Heap) (locs : List Loc) (ls : Array Slot) (hP : va_P (xw_D G) xw_cl (xw_W G w) H) (hS : va_S (xw_A G) s.heap H locs) (hl : lv_has ls 3 [(1, .int x1)]), xw_Wi G p l e (xw_rm (5) (169)) s m args below meth c H locs r0 wz (F0 m 131 ls []) := by
        intro x1 w hf H locs ls hP hS hl
        exact J131 x1 w hf H locs ls hP hS (lv_sub hl [0] rfl)
      have LL48 : ∀ (nn : Nat) (x1 : Int32) (x2 : Int32) (w : xw_M) (hit : xw_it (fun z => fX7_gains_b48 n z.1 z.2.1 z.2.2) nn (x1, x2, w) = some bb48) (H : Heap) (locs : List Loc) (ls : Array Slot) (hP : va_P (xw_D G) xw_cl (xw_W G w) H) (hS : va_S (xw_A G) s.heap H locs) (hl : lv_has ls 3 [(0, .ref (xw_ad G 0)), (1, .int x1), (2, .int x2)]), xw_Wi G p l e (xw_rm (5) (169)) s m args below meth c H locs r0 wz (F0 m 48 ls []) := by
        intro nn
        induction nn with
        | zero => intro x1 x2 w hit; exact (xw_it_0 hit).elim
        | succ nn ih48 =>
          intro x1 x2 w hit H locs ls hP hS hl
          replace hit := xw_it_e hit
          obtain ⟨wv48, hf, hC48, hX48⟩ := hit
          replace hf : fX7_gains_b48 n x1 x2 w = some wv48 := hf
          unfold fX7_gains_b48 at hf
          have J125 : ∀ (x1 : Int32) (x2 : Int32) (w : xw_M) (hf : fX7_gains_125 n x1 x2 w = some wv48) (H : Heap) (locs : List Loc) (ls : Array Slot) (hP : va_P (xw_D G) xw_cl (xw_W G w) H) (hS : va_S (xw_A G) s.heap H locs) (hl : lv_has ls 3 [(0, .ref (xw_ad G 0)), (1, .int x1), (2, .int x2)]), xw_Wi G p l e (xw_rm (5) (169)) s m args below meth c H locs r0 wz (F0 m 125 ls []) := by
            intro x1 x2 w hf H locs ls hP hS hl
            unfold fX7_gains_125 at hf
            obtain ⟨x2_34, ex2_34⟩ : ∃ y : Int32, y = x2 + 1 := ⟨_, rfl⟩
            replace hf := xw_lt_e ex2_34 hf
            refine lv_iinc (v := x2_34) (lv' := [(2, .int x2_34), (0, .ref (xw_ad G 0)), (1, .int x1)]) hx hb dX7_gains_125 hl (k := 2) rfl (by rw [ex2_34]; rfl) (by decide) rfl (fun ls hl => ?_)
            refine lv_goto (tgt := 48) hx hb dX7_gains_128 (by decide) ?_
            have hi := hC48 _ (xw_so hf).symm
            exact ih48 x1 x2_34 w hi H locs ls hP hS (lv_sub hl [1, 2, 0] rfl)
          refine lv_iload_n hx hb dX7_gains_48 rfl (lv_at hl 2 rfl) ?_
          refine lv_aload_n hx hb dX7_gains_49 rfl (lv_at hl 0 rfl) ?_
          refine xw_get hB hK hP (xw_o7 G) (C := RX7) (T := TX7) (N := 11) rfl TBi_X7 0 (by decide) tw_255 rfl rfl dX7_gains_50 ?_
          refine xw_get hB hK hP (xw_o5 G (Or.inl rfl)) (C := RX5) (T := TX5) (N := 14) rfl TBi_X5 0 (by decide) tw_62 rfl rfl dX7_gains_53 ?_
          refine lv_icmp_ge (tgt := 131) hx hb dX7_gains_56 (by decide) (fun c18 => ?_) (fun c18 => ?_)
          · replace hf := xw_ip c18 hf
            have he48 := hX48 _ (xw_so hf).symm
            rw [← he48] at hfx48
            exact XX48 x1 w hfx48 H locs ls hP hS (lv_sub hl [1] rfl)
          · replace hf := xw_in' c18 hf
            refine lv_aload_n hx hb dX7_gains_59 rfl (lv_at hl 0 rfl) ?_
            refine xw_get hB hK hP (xw_o7 G) (C := RX7) (T := TX7) (N := 11) rfl TBi_X7 0 (by decide) tw_255 rfl rfl dX7_gains_60 ?_
            refine lv_iload_n hx hb dX7_gains_63 rfl (lv_at hl 2 rfl) ?_
            replace hf := xw_bp_e hf
            obtain ⟨r19, he20, hf⟩ := hf
            refine xw_Vi hB hK hE hS hP (As := [.int x2]) (rest := []) (kX5_isAway l G hG 1 x2 (Or.inl rfl) w _ he20) gs_X7_98 (xw_rc hK hP (C := RX5) (T := TX5) (N := 14) (xw_o5 G (Or.inl rfl)) rfl) 1 hv_X5_isAway ⟨Nat.le_of_ble_eq_true rfl, Nat.le_of_ble_eq_true rfl⟩ rfl hl.1 (Nat.le_of_ble_eq_true rfl) rfl dX7_gains_64 ⟨Nat.zero_le _, Nat.zero_le _⟩ (fun H locs hP hS => ?_)
            refine lv_if_ne (tgt := 125) hx hb dX7_gains_67 (by decide) (fun c21 => ?_) (fun c21 => ?_)
            · replace hf := xw_in' c21 hf
              exact J125 x1 x2 w hf H locs ls hP hS (lv_sub hl [0, 1, 2] rfl)
            · replace hf := xw_ip c21 hf
              refine lv_aload_n hx hb dX7_gains_70 rfl (lv_at hl 0 rfl) ?_
              refine xw_get hB hK hP (xw_o7 G) (C := RX7) (T := TX7) (N := 11) rfl TBi_X7 8 (by decide) tw_263 rfl rfl dX7_gains_71 ?_
              refine lv_aload_n hx hb dX7_gains_74 rfl (lv_at hl 0 rfl) ?_
              refine xw_get hB hK hP (xw_o7 G) (C := RX7) (T := TX7) (N := 11) rfl TBi_X7 1 (by decide) tw_256 rfl rfl dX7_gains_75 ?_
              refine lv_iload_n hx hb dX7_gains_78 rfl (lv_at hl 2 rfl) ?_
              refine lv_aload_n hx hb dX7_gains_79 rfl (lv_at hl 0 rfl) ?_
              refine xw_get hB hK hP (xw_o7 G) (C := RX7) (T := TX7) (N := 11) rfl TBi_X7 1 (by decide) tw_256 rfl rfl dX7_gains_80 ?_
              refine xw_get hB hK hP (xw_o5 G (Or.inr (Or.inl rfl))) (C := RX5) (T := TX5) (N := 14) rfl TBi_X5 4 (by decide) tw_75 rfl rfl dX7_gains_83 ?_
              refine lv_iload_n hx hb dX7_gains_86 rfl (lv_at hl 2 rfl) ?_
              replace hf := xw_bp_e hf
              obtain ⟨r22, he23, hf⟩ := hf
              refine xw_Si hB hK hE hS hP (As := [.ref (xw_ad G (17 + 4)), .int x2]) (rest := [.int x2, .ref (xw_ad G 17), .ref (xw_ad G 64)]) (kX7_at l G hG (17 + 4) 6 x2 (xw_a5_4 G (Or.inr (Or.inl rfl))) w _ he23) tw_311 tw_313 tw_312 tw_1 2 hs_X7_at ⟨Nat.le_of_ble_eq_true rfl, Nat.le_of_ble_eq_true rfl⟩ rfl hl.1 (Nat.le_of_ble_eq_true rfl) rfl dX7_gains_87 ⟨Nat.zero_le _, Nat.zero_le _⟩ (fun H locs hP hS => ?_)
              replace hf := xw_b_e hf
              obtain ⟨r24, w25, he26, hf⟩ := hf
              refine xw_Vi hB hK hE hS hP (As := [.ref (xw_ad G 17), .int x2, .int r22]) (rest := []) (kX4_worth l G hG n 17 x2 r22 (Or.inr (Or.inl rfl)) w _ _ he26) gs_X7_133 (xw_rc hK hP (C := RX4) (T := TX4) (N := 3) (xw_o4 G) rfl) 3 hv_X4_worth ⟨Nat.le_of_ble_eq_true rfl, Nat.le_of_ble_eq_true rfl⟩ rfl hl.1 (Nat.le_of_ble_eq_true rfl) rfl dX7_gains_90 ⟨Nat.zero_le _, Nat.zero_le _⟩ (fun H locs hP hS => ?_)
              refine lv_aload_n hx hb dX7_gains_93 rfl (lv_at hl 0 rfl) ?_
              refine xw_get hB hK hP (xw_o7 G) (C := RX7) (T := TX7) (N := 11) rfl TBi_X7 8 (by decide) tw_263 rfl rfl dX7_gains_94 ?_
              refine lv_aload_n hx hb dX7_gains_97 rfl (lv_at hl 0 rfl) ?_
              refine xw_get hB hK hP (xw_o7 G) (C := RX7) (T := TX7) (N := 11) rfl TBi_X7 0 (by decide) tw_255 rfl rfl dX7_gains_98 ?_
              refine lv_iload_n hx hb dX7_gains_101 rfl (lv_at hl 2 rfl) ?_
              refine lv_aload_n hx hb dX7_gains_102 rfl (lv_at hl 0 rfl) ?_
              refine xw_get hB hK hP (xw_o7 G) (C := RX7) (T := TX7) (N := 11) rfl TBi_X7 0 (by decide) tw_255 rfl rfl dX7_gains_103 ?_
              refine xw_get hB hK hP (xw_o5 G (Or.inl rfl)) (C := RX5) (T := TX5) (N := 14) rfl TBi_X5 4 (by decide) tw_75 rfl rfl dX7_gains_106 ?_
              refine lv_iload_n hx hb dX7_gains_109 rfl (lv_at hl 2 rfl) ?_
              replace hf := xw_bp_e hf
              obtain ⟨r27, he28, hf⟩ := hf
              refine xw_Si hB hK hE hS hP (As := [.ref (xw_ad G (1 + 4)), .int x2]) (rest := [.int x2, .ref (xw_ad G 1), .ref (xw_ad G 64), .int r24]) (kX7_at l G hG (1 + 4) 6 x2 (xw_a5_4 G (Or.inl rfl)) w25 _ he28) tw_311 tw_313 tw_312 tw_1 2 hs_X7_at ⟨Nat.le_of_ble_eq_true rfl, Nat.le_of_ble_eq_true rfl⟩ rfl hl.1 (Nat.le_of_ble_eq_true rfl) rfl dX7_gains_110 ⟨Nat.zero_le _, Nat.zero_le _⟩ (fun H locs hP hS => ?_)
              replace hf := xw_b_e hf
              obtain ⟨r29, w30, he31, hf⟩ := hf
              refine xw_Vi hB hK hE hS hP (As := [.ref (xw_ad G 1), .int x2, .int r27]) (rest := [.int r24]) (kX4_worth l G hG n 1 x2 r27 (Or.inl rfl) w25 _ _ he31) gs_X7_133 (xw_rc hK hP (C := RX4) (T := TX4) (N := 3) (xw_o4 G) rfl) 3 hv_X4_worth ⟨Nat.le_of_ble_eq_true rfl, Nat.le_of_ble_eq_true rfl⟩ rfl hl.1 (Nat.le_of_ble_eq_true rfl) rfl dX7_gains_113 ⟨Nat.zero_le _, Nat.zero_le _⟩ (fun H locs hP hS => ?_)
              refine lv_icmp_le (tgt := 125) hx hb dX7_gains_116 (by decide) (fun c32 => ?_) (fun c32 => ?_)
              · replace hf := xw_ip c32 hf
                exact J125 x1 x2 w30 hf H locs ls hP hS (lv_sub hl [0, 1, 2] rfl)
              · replace hf := xw_in' c32 hf
                refine lv_iload_n hx hb dX7_gains_119 rfl (lv_at hl 1 rfl) ?_
                refine lv_iconst (v := 1) hx hb dX7_gains_120 (by decide) ?_
                refine lv_iload_n hx hb dX7_gains_121 rfl (lv_at hl 2 rfl) ?_
                refine lv_ishl hx hb dX7_gains_122 ?_
                refine lv_ior hx hb dX7_gains_123 ?_
                refine lv_topi (fun x1_33 ex1_33 => ?_)
                replace hf := xw_lt_e ex1_33 hf
                refine lv_istore_n (lv' := [(1, .int x1_33), (0, .ref (xw_ad G 0)), (2, .int x2)]) hx hb dX7_gains_124 rfl hl (by decide) rfl (fun ls hl => ?_)
                exact J125 x1_33 x2 w30 hf H locs ls hP hS (lv_sub hl [1, 0, 2] rfl)
      exact LL48 n x1 x2 w hit48 H locs ls hP hS hl
    refine lv_aload_n hx hb dX7_gains_0 rfl (lv_at hl 0 rfl) ?_
    refine xw_get hB hK hP (xw_o7 G) (C := RX7) (T := TX7) (N := 11) rfl TBi_X7 1 (by decide) tw_256 rfl rfl dX7_gains_1 ?_
    refine lv_aload_n hx hb dX7_gains_4 rfl (lv_at hl 0 rfl) ?_
    refine xw_get hB hK hP (xw_o7 G) (C := RX7) (T := TX7) (N := 11) rfl TBi_X7 0 (by decide) tw_255 rfl rfl dX7_gains_5 ?_
    replace hf := xw_b_e hf
    obtain ⟨r1, w2, he3, hf⟩ := hf
    refine xw_Vv hB hK hE hS hP (As := [.ref (xw_ad G 1)]) (rest := []) (kX5_takeAfter l G hG 17 1 (Or.inr (Or.inl rfl)) (Or.inl rfl) w0 _ _ he3) gs_X7_191 (xw_rc hK hP (C := RX5) (T := TX5) (N := 14) (xw_o5 G (Or.inr (Or.inl rfl))) rfl) 1 hv_X5_takeAfter ⟨Nat.le_of_ble_eq_true rfl, Nat.le_of_ble_eq_true rfl⟩ rfl hl.1 (Nat.le_of_ble_eq_true rfl) rfl dX7_gains_8 ⟨Nat.zero_le _, Nat.zero_le _⟩ (fun H locs hP hS => ?_)
    refine lv_aload_n hx hb dX7_gains_11 rfl (lv_at hl 0 rfl) ?_
    refine xw_get hB hK hP (xw_o7 G) (C := RX7) (T := TX7) (N := 11) rfl TBi_X7 8 (by decide) tw_263 rfl rfl dX7_gains_12 ?_
    refine lv_aload_n hx hb dX7_gains_15 rfl (lv_at hl 0 rfl) ?_
    refine xw_get hB hK hP (xw_o7 G) (C := RX7) (T := TX7) (N := 11) rfl TBi_X7 1 (by decide) tw_256 rfl rfl dX7_gains_16 ?_
    refine lv_aload_n hx hb dX7_gains_19 rfl (lv_at hl 0 rfl) ?_
    replace hf := xw_bp_e hf
    obtain ⟨r4, he5, hf⟩ := hf
    refine xw_Vq hB hK hE hS hP (As := []) (rest := [.ref (xw_ad G 17), .ref (xw_ad G 64)]) (kX7_held l G hG w2 _ he5) gs_X7_108 (xw_rc hK hP (C := RX7) (T := TX7) (N := 11) (xw_o7 G) rfl) 0 hv_X7_held ⟨Nat.le_of_ble_eq_true rfl, Nat.le_of_ble_eq_true rfl⟩ rfl hl.1 (Nat.le_of_ble_eq_true rfl) rfl dX7_gains_20 ⟨Nat.zero_le _, Nat.zero_le _⟩ (fun H locs hP hS => ?_)
    cases r4 with
    | none =>
      replace hf := xw_om_n hf
      refine lv_ldc (v := (2147483647)) hx hb hB.2.2.2.1 (hB.2.2.2.2 _ tw_533) dX7_gains_23 ?_
      cases hf
    | some t6 =>
      replace hf := xw_om_s hf
      replace hf := xw_cc_e hf
      obtain ⟨ht7, hf⟩ := hf
      refine lv_ldc (v := (2147483647)) hx hb hB.2.2.2.1 (hB.2.2.2.2 _ tw_533) dX7_gains_23 ?_
      replace hf := xw_b_e hf
      obtain ⟨r8, w9, he10, hf⟩ := hf
      refine xw_Vi hB hK hE hS hP (As := [.ref (xw_ad G 17), .ref (xw_ad G t6), .int (2147483647 : Int32)]) (rest := []) (kX4_goDay l G hG n 17 t6 (2147483647 : Int32) (Or.inr (Or.inl rfl)) ht7 w2 _ _ he10) gs_X7_187 (xw_rc hK hP (C := RX4) (T := TX4) (N := 3) (xw_o4 G) rfl) 3 hv_X4_goDay ⟨Nat.le_of_ble_eq_true rfl, Nat.le_of_ble_eq_true rfl⟩ rfl hl.1 (Nat.le_of_ble_eq_true rfl) rfl dX7_gains_25 ⟨Nat.zero_le _, Nat.zero_le _⟩ (fun H locs hP hS => ?_)
      refine lv_pop hx hb dX7_gains_28 rfl ?_
      refine lv_aload_n hx hb dX7_gains_29 rfl (lv_at hl 0 rfl) ?_
      refine xw_get hB hK hP (xw_o7 G) (C := RX7) (T := TX7) (N := 11) rfl TBi_X7 8 (by decide) tw_263 rfl rfl dX7_gains_30 ?_
      refine lv_aload_n hx hb dX7_gains_33 rfl (lv_at hl 0 rfl) ?_
      refine xw_get hB hK hP (xw_o7 G) (C := RX7) (T := TX7) (N := 11) rfl TBi_X7 0 (by decide) tw_255 rfl rfl dX7_gains_34 ?_
      refine lv_aload_n hx hb dX7_gains_37 rfl (lv_at hl 0 rfl) ?_
      replace hf := xw_bp_e hf
      obtain ⟨r11, he12, hf⟩ := hf
      refine xw_Vq hB hK hE hS hP (As := []) (rest := [.ref (xw_ad G 1), .ref (xw_ad G 64)]) (kX7_held l G hG w9 _ he12) gs_X7_108 (xw_rc hK hP (C := RX7) (T := TX7) (N := 11) (xw_o7 G) rfl) 0 hv_X7_held ⟨Nat.le_of_ble_eq_true rfl, Nat.le_of_ble_eq_true rfl⟩ rfl hl.1 (Nat.le_of_ble_eq_true rfl) rfl dX7_gains_38 ⟨Nat.zero_le _, Nat.zero_le _⟩ (fun H locs hP hS => ?_)
      cases r11 with
      | none =>
        replace hf := xw_om_n hf
        cases hf
      | some t13 =>
        replace hf := xw_om_s hf
        replace hf := xw_cc_e hf
        obtain ⟨ht14, hf⟩ := hf
        replace hf := xw_b_e hf
        obtain ⟨r15, w16, he17, hf⟩ := hf
        refine xw_Vv hB hK hE hS hP (As := [.ref (xw_ad G 1), .ref (xw_ad G t13)]) (rest := []) (kX4_look l G hG n 1 t13 (Or.inl rfl) ht14 w9 _ _ he17) gs_X7_112 (xw_rc hK hP (C := RX4) (T := TX4) (N := 3) (xw_o4 G) rfl) 2 hv_X4_look ⟨Nat.le_of_ble_eq_true rfl, Nat.le_of_ble_eq_true rfl⟩ rfl hl.1 (Nat.le_of_ble_eq_true rfl) rfl dX7_gains_41 ⟨Nat.zero_le _, Nat.zero_le _⟩ (fun H locs hP hS => ?_)
        refine lv_iconst (v := 0) hx hb dX7_gains_44 (by decide) ?_
        refine lv_istore_n (lv' := [(1, .int (0 : Int32)), (0, .ref (xw_ad G 0))]) hx hb dX7_gains_45 rfl hl (by decide) rfl (fun ls hl => ?_)
        refine lv_iconst (v := 0) hx hb dX7_gains_46 (by decide) ?_
        refine lv_istore_n (lv' := [(2, .int (0 : Int32)), (1, .int (0 : Int32)), (0, .ref (xw_ad G 0))]) hx hb dX7_gains_47 rfl hl (by decide) rfl (fun ls hl => ?_)
        exact J48 (0 : Int32) (0 : Int32) w16 hf H locs ls hP hS (lv_sub hl [2, 1, 0] rfl)
  exact HH s.heap [] hP hS
def fX4_fits_60 (n : Nat) (a1 : Nat) (a2 : Int32) (w : xw_M) : Option (Int32 × xw_M) := some ((1 : Int32), w)
def fX4_fits_b2 (n : Nat) (a1 : Nat) (a2 : Int32) (x3 : Int32) (w : xw_M) : Option ((Int32 × xw_M) ⊕ ((Int32 × xw_M) ⊕ (xw_M))) := if (w.1 (a1 + 7) 3) ≤ x3 then some (.inr (.inr w)) else xw_bp (fX7_at ((a1 + 7) + 1) 8 x3 w) (fun r2 => xw_b (fX4_share n a1 r2 a2 (w.1 a1 7) w) (fun r4 w5 => xw_bp (fX7_at ((a1 + 7) + 2) 8 x3 w5) (fun r7 => if r4 = r7 then xw_lt (x3 + 1) (fun x3_10 => some (.inl (x3_10, w5))) else some (.inr (.inl ((0 : Int32), w5))))))
def fX4_fits_2 (n : Nat) (a1 : Nat) (a2 : Int32) (x3 : Int32) (w : xw_M) : Option (Int32 × xw_M) := xw_bp (xw_it (fun z => fX4_fits_b2 n a1 a2 z.1 z.2) n (x3, w)) (fun z => xw_su z (fun r => some r) (fun z => (fun (w : xw_M) => fX4_fits_60 n a1 a2 w) z))
def fX4_fits (n : Nat) (a1 : Nat) (a2 : Int32) (w0 : xw_M) : Option (Int32 × xw_M) := fX4_fits_2 n a1 a2 (0 : Int32) w0
set_option maxHeartbeats 4000000 in
set_option maxRecDepth 100000 in
theorem kX4_fits (l : Launch) (G : xw_G) (hG : xw_ok G) (n : Nat) (a1 : Nat) (a2 : Int32) (ha1 : xw_sc a1) (w0 : xw_M) (r0 : Int32) (wz : xw_M) (hf : fX4_fits n a1 a2 w0 = some (r0, wz)) : xw_Ti l G yX4_fits cX4_fits 5 ((Option.some Jvm.ClassFile.FieldType.boolean)) (3) (115) [.ref (xw_ad G 64), .ref (xw_ad G a1), .int a2] w0 r0 wz := by
  unfold xw_Ti
  refine Met.ofW (cc := cX4_fits) (maxL := 5) (ret := (Option.some Jvm.ClassFile.FieldType.boolean)) (by decide) rfl ?_
  intro p e s m args below meth c s₁ B hml hv
  obtain ⟨hargs, hP, hK, hE⟩ := hv
  have hx := B.exec
  have hb := B.bytes
  have hr := B.returns
  have hlk := B.notSynchronized
  have hB : CallFix p m c cX4_fits 5 s args TB RX4 := ⟨hx, hb, hml, findClass_of_methodNamed B.named, fun q h => (atoms_spec (ws := Cond.code yX4_fits cX4_fits 5 ((Option.some Jvm.ClassFile.FieldType.boolean)) :: TB) B.pre) q (List.mem_cons_of_mem _ h)⟩
  have hS : va_S (xw_A G) s.heap s.heap [] := va_S.rf
  have hl := lv_entry [.ref (xw_ad G 64), .ref (xw_ad G a1), .int a2] (n := 5) (Nat.le_of_ble_eq_true rfl)
  rw [show entryFrame m args 5 = entryFrame m ([.ref (xw_ad G 64), .ref (xw_ad G a1), .int a2] : List Value).toArray 5 from by rw [hargs], lg_entry_eq]
  generalize (lg_sl [.ref (xw_ad G 64), .ref (xw_ad G a1), .int a2] ++ List.replicate (5 - (lg_sl [.ref (xw_ad G 64), .ref (xw_ad G a1), .int a2]).length) Slot.unset).toArray = ls at hl ⊢
  have hP : va_P (xw_D G) xw_cl (xw_W G w0) s.heap := hP
  have hl : lv_has ls 5 [(0, .ref (xw_ad G 64)), (1, .ref (xw_ad G a1)), (2, .int a2)] := hl
  have HH : ∀ (H : Heap) (locs : List Loc) (hP : va_P (xw_D G) xw_cl (xw_W G w0) H) (hS : va_S (xw_A G) s.heap H locs), xw_Wi G p l e (xw_rm (3) (115)) s m args below meth c H locs r0 wz (F0 m 0 ls []) := by
    intro H locs hP hS
    unfold fX4_fits at hf
    have J60 : ∀ (w : xw_M) (hf : fX4_fits_60 n a1 a2 w = some (r0, wz)) (H : Heap) (locs : List Loc) (ls : Array Slot) (hP : va_P (xw_D G) xw_cl (xw_W G w) H) (hS : va_S (xw_A G) s.heap H locs) (hl : lv_has ls 5 []), xw_Wi G p l e (xw_rm (3) (115)) s m args below meth c H locs r0 wz (F0 m 60 ls []) := by
      intro w hf H locs ls hP hS hl
      unfold fX4_fits_60 at hf
      refine lv_iconst (v := 1) hx hb dX4_fits_60 (by decide) ?_
      obtain ⟨h0, h1⟩ := xw_s2 hf
      exact xw_zret hB hK hE hS hP hr hlk rfl h0 h1 dX4_fits_61
    have J2 : ∀ (x3 : Int32) (w : xw_M) (hf : fX4_fits_2 n a1 a2 x3 w = some (r0, wz)) (H : Heap) (locs : List Loc) (ls : Array Slot) (hP : va_P (xw_D G) xw_cl (xw_W G w) H) (hS : va_S (xw_A G) s.heap H locs) (hl : lv_has ls 5 [(0, .ref (xw_ad G 64)), (1, .ref (xw_ad G a1)), (2, .int a2), (3, .int x3)]), xw_Wi G p l e (xw_rm (3) (115)) s m args below meth c H locs r0 wz (F0 m 2 ls []) := by
      intro x3 w hf H locs ls hP hS hl
      unfold fX4_fits_2 at hf
      replace hf := xw_bp_e hf
      obtain ⟨bb2, hit2, hfx2⟩ := hf
      have XX2 : ∀ (w : xw_M) (hf : fX4_fits_60 n a1 a2 w = some (r0, wz)) (H : Heap) (locs : List Loc) (ls : Array Slot) (hP : va_P (xw_D G) xw_cl (xw_W G w) H) (hS : va_S (xw_A G) s.heap H locs) (hl : lv_has ls 5 []), xw_Wi G p l e (xw_rm (3) (115)) s m args below meth c H locs r0 wz (F0 m 60 ls []) := by
        intro w hf H locs ls hP hS hl
        exact J60 w hf H locs ls hP hS (lv_sub hl [] rfl)
      have LL2 : ∀ (nn : Nat) (x3 : Int32) (w : xw_M) (hit : xw_it (fun z => fX4_fits_b2 n a1 a2 z.1 z.2) nn (x3, w) = some bb2) (H : Heap) (locs : List Loc) (ls : Array Slot) (hP : va_P (xw_D G) xw_cl (xw_W G w) H) (hS : va_S (xw_A G) s.heap H locs) (hl : lv_has ls 5 [(0, .ref (xw_ad G 64)), (1, .ref (xw_ad G a1)), (2, .int a2), (3, .int x3)]), xw_Wi G p l e (xw_rm (3) (115)) s m args below meth c H locs r0 wz (F0 m 2 ls []) := by
        intro nn
        induction nn with
        | zero => intro x3 w hit; exact (xw_it_0 hit).elim
        | succ nn ih2 =>
          intro x3 w hit H locs ls hP hS hl
          replace hit := xw_it_e hit
          obtain ⟨wv2, hf, hC2, hX2⟩ := hit
          replace hf : fX4_fits_b2 n a1 a2 x3 w = some wv2 := hf
          unfold fX4_fits_b2 at hf
          refine lv_iload_n hx hb dX4_fits_2 rfl (lv_at hl 3 rfl) ?_
          refine lv_aload_n hx hb dX4_fits_3 rfl (lv_at hl 1 rfl) ?_
          refine xw_get hB hK hP (xw_o5 G ha1) (C := RX5) (T := TX5) (N := 14) rfl TBi_X5 11 (by decide) tw_95 rfl rfl dX4_fits_4 ?_
          refine xw_get hB hK hP (xw_o1 G (xw_sc_7 ha1)) (C := RX1) (T := TX1) (N := 4) rfl TBi_X1 3 (by decide) tw_48 rfl rfl dX4_fits_7 ?_
          refine lv_icmp_ge (tgt := 60) hx hb dX4_fits_10 (by decide) (fun c1 => ?_) (fun c1 => ?_)
          · replace hf := xw_ip c1 hf
            have he2 := hX2 _ (xw_so hf).symm
            rw [← he2] at hfx2
            exact XX2 w hfx2 H locs ls hP hS (lv_sub hl [] rfl)
          · replace hf := xw_in' c1 hf
            refine lv_aload_n hx hb dX4_fits_13 rfl (lv_at hl 0 rfl) ?_
            refine lv_aload_n hx hb dX4_fits_14 rfl (lv_at hl 1 rfl) ?_
            refine lv_aload_n hx hb dX4_fits_15 rfl (lv_at hl 1 rfl) ?_
            refine xw_get hB hK hP (xw_o5 G ha1) (C := RX5) (T := TX5) (N := 14) rfl TBi_X5 11 (by decide) tw_95 rfl rfl dX4_fits_16 ?_
            refine xw_get hB hK hP (xw_o1 G (xw_sc_7 ha1)) (C := RX1) (T := TX1) (N := 4) rfl TBi_X1 1 (by decide) tw_42 rfl rfl dX4_fits_19 ?_
            refine lv_iload_n hx hb dX4_fits_22 rfl (lv_at hl 3 rfl) ?_
            replace hf := xw_bp_e hf
            obtain ⟨r2, he3, hf⟩ := hf
            refine xw_Ni hB hK hE hS hP (As := [.ref (xw_ad G ((a1 + 7) + 1)), .int x3]) (rest := [.ref (xw_ad G a1), .ref (xw_ad G 64)]) (kX7_at l G hG ((a1 + 7) + 1) 8 x3 (xw_a1_1 G (xw_sc_7 ha1)) w _ he3) (host := RX7) (by decide +kernel) tw_313 tw_312 tw_1 2 hs_X7_at ⟨Nat.le_of_ble_eq_true rfl, Nat.le_of_ble_eq_true rfl⟩ rfl hl.1 (Nat.le_of_ble_eq_true rfl) rfl dX4_fits_23 ⟨Nat.zero_le _, Nat.zero_le _⟩ (fun H locs hP hS => ?_)
            refine lv_iload_n hx hb dX4_fits_26 rfl (lv_at hl 2 rfl) ?_
            refine lv_aload_n hx hb dX4_fits_27 rfl (lv_at hl 1 rfl) ?_
            refine xw_get hB hK hP (xw_o5 G ha1) (C := RX5) (T := TX5) (N := 14) rfl TBi_X5 7 (by decide) tw_85 rfl rfl dX4_fits_28 ?_
            replace hf := xw_b_e hf
            obtain ⟨r4, w5, he6, hf⟩ := hf
            refine xw_Vi hB hK hE hS hP (As := [.ref (xw_ad G a1), .int r2, .int a2, .int (w.1 a1 7)]) (rest := []) (kX4_share l G hG n a1 r2 a2 (w.1 a1 7) ha1 w _ _ he6) gs_X4_93 (xw_rc hK hP (C := RX4) (T := TX4) (N := 3) (xw_o4 G) rfl) 4 hv_X4_share ⟨Nat.le_of_ble_eq_true rfl, Nat.le_of_ble_eq_true rfl⟩ rfl hl.1 (Nat.le_of_ble_eq_true rfl) rfl dX4_fits_31 ⟨Nat.zero_le _, Nat.zero_le _⟩ (fun H locs hP hS => ?_)
            refine lv_istore (lv' := [(4, .int r4), (0, .ref (xw_ad G 64)), (1, .ref (xw_ad G a1)), (2, .int a2), (3, .int x3)]) hx hb dX4_fits_34 hl (by decide) rfl (fun ls hl => ?_)
            refine lv_iload hx hb dX4_fits_36 (lv_at hl 0 rfl) ?_
            refine lv_aload_n hx hb dX4_fits_38 rfl (lv_at hl 2 rfl) ?_
            refine xw_get hB hK hP (xw_o5 G ha1) (C := RX5) (T := TX5) (N := 14) rfl TBi_X5 11 (by decide) tw_95 rfl rfl dX4_fits_39 ?_
            refine xw_get hB hK hP (xw_o1 G (xw_sc_7 ha1)) (C := RX1) (T := TX1) (N := 4) rfl TBi_X1 2 (by decide) tw_45 rfl rfl dX4_fits_42 ?_
            refine lv_iload_n hx hb dX4_fits_45 rfl (lv_at hl 4 rfl) ?_
            replace hf := xw_bp_e hf
            obtain ⟨r7, he8, hf⟩ := hf
            refine xw_Ni hB hK hE hS hP (As := [.ref (xw_ad G ((a1 + 7) + 2)), .int x3]) (rest := [.int r4]) (kX7_at l G hG ((a1 + 7) + 2) 8 x3 (xw_a1_2 G (xw_sc_7 ha1)) w5 _ he8) (host := RX7) (by decide +kernel) tw_313 tw_312 tw_1 2 hs_X7_at ⟨Nat.le_of_ble_eq_true rfl, Nat.le_of_ble_eq_true rfl⟩ rfl hl.1 (Nat.le_of_ble_eq_true rfl) rfl dX4_fits_46 ⟨Nat.zero_le _, Nat.zero_le _⟩ (fun H locs hP hS => ?_)
            refine lv_icmp_eq (tgt := 54) hx hb dX4_fits_49 (by decide) (fun c9 => ?_) (fun c9 => ?_)
            · replace hf := xw_ip c9 hf
              obtain ⟨x3_10, ex3_10⟩ : ∃ y : Int32, y = x3 + 1 := ⟨_, rfl⟩
              replace hf := xw_lt_e ex3_10 hf
              refine lv_iinc (v := x3_10) (lv' := [(3, .int x3_10), (4, .int r4), (0, .ref (xw_ad G 64)), (1, .ref (xw_ad G a1)), (2, .int a2)]) hx hb dX4_fits_54 hl (k := 4) rfl (by rw [ex3_10]; rfl) (by decide) rfl (fun ls hl => ?_)
              refine lv_goto (tgt := 2) hx hb dX4_fits_57 (by decide) ?_
              have hi := hC2 _ (xw_so hf).symm
              exact ih2 x3_10 w5 hi H locs ls hP hS (lv_sub hl [2, 3, 4, 0] rfl)
            · replace hf := xw_in' c9 hf
              refine lv_iconst (v := 0) hx hb dX4_fits_52 (by decide) ?_
              have he2 := hX2 _ (xw_so hf).symm
              rw [← he2] at hfx2
              replace hfx2 : some ((0 : Int32), w5) = some (r0, wz) := hfx2
              obtain ⟨h0, h1⟩ := xw_s2 hfx2
              exact xw_zret hB hK hE hS hP hr hlk rfl h0 h1 dX4_fits_53
      exact LL2 n x3 w hit2 H locs ls hP hS hl
    refine lv_iconst (v := 0) hx hb dX4_fits_0 (by decide) ?_
    refine lv_istore_n (lv' := [(3, .int (0 : Int32)), (0, .ref (xw_ad G 64)), (1, .ref (xw_ad G a1)), (2, .int a2)]) hx hb dX4_fits_1 rfl hl (by decide) rfl (fun ls hl => ?_)
    exact J2 (0 : Int32) w0 hf H locs ls hP hS (lv_sub hl [1, 2, 3, 0] rfl)
  exact HH s.heap [] hP hS
def fX7_owed_58 (n : Nat) (a1 : Int32) (x2 : Int32) (x3 : Int32) (w : xw_M) : Option (Int32 × xw_M) := if a1 = 0 then some (x2, w) else some (x3, w)
def fX7_owed_52 (n : Nat) (a1 : Int32) (x2 : Int32) (x3 : Int32) (x4 : Int32) (w : xw_M) : Option ((Int32 × Int32 × Int32 × xw_M) ⊕ (Int32 × Int32 × xw_M)) := xw_lt (x4 + (-1)) (fun x4_14 => some (.inl (x2, x3, x4_14, w)))
def fX7_owed_b25 (n : Nat) (a1 : Int32) (x2 : Int32) (x3 : Int32) (x4 : Int32) (w : xw_M) : Option ((Int32 × Int32 × Int32 × xw_M) ⊕ (Int32 × Int32 × xw_M)) := if x4 < 0 then some (.inr (x2, x3, w)) else xw_b (fX4_fits n 1 x4 w) (fun r9 w10 => if r9 = 0 then fX7_owed_52 n a1 x2 x3 x4 w10 else xw_lt (x2 + 1) (fun x2_13 => fX7_owed_52 n a1 x2_13 x4 x4 w10))
def fX7_owed_25 (n : Nat) (a1 : Int32) (x2 : Int32) (x3 : Int32) (x4 : Int32) (w : xw_M) : Option (Int32 × xw_M) := xw_bp (xw_it (fun z => fX7_owed_b25 n a1 z.1 z.2.1 z.2.2.1 z.2.2.2) n (x2, x3, x4, w)) (fun z => (fun (x2 : Int32) (x3 : Int32) (w : xw_M) => fX7_owed_58 n a1 x2 x3 w) z.1 z.2.1 z.2.2)
def fX7_owed (n : Nat) (a1 : Int32) (w0 : xw_M) : Option (Int32 × xw_M) := xw_bp (fX7_held w0) (fun r1 => xw_om r1 (none) (fun t3 => xw_cc (xw_pa t3) (xw_b (fX4_look n 1 t3 w0) (fun (_ : Unit) w6 => fX7_owed_25 n a1 (0 : Int32) (-5 : Int32) (999 : Int32) w6))))
set_option maxHeartbeats 4000000 in
set_option maxRecDepth 100000 in
theorem kX7_owed (l : Launch) (G : xw_G) (hG : xw_ok G) (n : Nat) (a1 : Int32) (w0 : xw_M) (r0 : Int32) (wz : xw_M) (hf : fX7_owed n a1 w0 = some (r0, wz)) : xw_Ti l G yX7_owed cX7_owed 5 ((Option.some Jvm.ClassFile.FieldType.int)) (4) (139) [.ref (xw_ad G 0), .int a1] w0 r0 wz := by
  unfold xw_Ti
  refine Met.ofW (cc := cX7_owed) (maxL := 5) (ret := (Option.some Jvm.ClassFile.FieldType.int)) (by decide) rfl ?_
  intro p e s m args below meth c s₁ B hml hv
  obtain ⟨hargs, hP, hK, hE⟩ := hv
  have hx := B.exec
  have hb := B.bytes
  have hr := B.returns
  have hlk := B.notSynchronized
  have hB : CallFix p m c cX7_owed 5 s args TB RX7 := ⟨hx, hb, hml, findClass_of_methodNamed B.named, fun q h => (atoms_spec (ws := Cond.code yX7_owed cX7_owed 5 ((Option.some Jvm.ClassFile.FieldType.int)) :: TB) B.pre) q (List.mem_cons_of_mem _ h)⟩
  have hS : va_S (xw_A G) s.heap s.heap [] := va_S.rf
  have hl := lv_entry [.ref (xw_ad G 0), .int a1] (n := 5) (Nat.le_of_ble_eq_true rfl)
  rw [show entryFrame m args 5 = entryFrame m ([.ref (xw_ad G 0), .int a1] : List Value).toArray 5 from by rw [hargs], lg_entry_eq]
  generalize (lg_sl [.ref (xw_ad G 0), .int a1] ++ List.replicate (5 - (lg_sl [.ref (xw_ad G 0), .int a1]).length) Slot.unset).toArray = ls at hl ⊢
  have hP : va_P (xw_D G) xw_cl (xw_W G w0) s.heap := hP
  have hl : lv_has ls 5 [(0, .ref (xw_ad G 0)), (1, .int a1)] := hl
  have HH : ∀ (H : Heap) (locs : List Loc) (hP : va_P (xw_D G) xw_cl (xw_W G w0) H) (hS : va_S (xw_A G) s.heap H locs), xw_Wi G p l e (xw_rm (4) (139)) s m args below meth c H locs r0 wz (F0 m 0 ls []) := by
    intro H locs hP hS
    unfold fX7_owed at hf
    have J58 : ∀ (x2 : Int32) (x3 : Int32) (w : xw_M) (hf : fX7_owed_58 n a1 x2 x3 w = some (r0, wz)) (H : Heap) (locs : List Loc) (ls : Array Slot) (hP : va_P (xw_D G) xw_cl (xw_W G w) H) (hS : va_S (xw_A G) s.heap H locs) (hl : lv_has ls 5 [(1, .int a1), (2, .int x2), (3, .int x3)]), xw_Wi G p l e (xw_rm (4) (139)) s m args below meth c H locs r0 wz (F0 m 58 ls []) := by
      intro x2 x3 w hf H locs ls hP hS hl
      unfold fX7_owed_58 at hf
      refine lv_iload_n hx hb dX7_owed_58 rfl (lv_at hl 0 rfl) ?_
      refine lv_if_eq (tgt := 66) hx hb dX7_owed_59 (by decide) (fun c15 => ?_) (fun c15 => ?_)
      · replace hf := xw_ip c15 hf
        refine lv_iload_n hx hb dX7_owed_66 rfl (lv_at hl 1 rfl) ?_
        obtain ⟨h0, h1⟩ := xw_s2 hf
        exact xw_iret hB hK hE hS hP hr hlk h0 h1 dX7_owed_67
      · replace hf := xw_in' c15 hf
        refine lv_iload_n hx hb dX7_owed_62 rfl (lv_at hl 2 rfl) ?_
        refine lv_goto (tgt := 67) hx hb dX7_owed_63 (by decide) ?_
        obtain ⟨h0, h1⟩ := xw_s2 hf
        exact xw_iret hB hK hE hS hP hr hlk h0 h1 dX7_owed_67
    have J25 : ∀ (x2 : Int32) (x3 : Int32) (x4 : Int32) (w : xw_M) (hf : fX7_owed_25 n a1 x2 x3 x4 w = some (r0, wz)) (H : Heap) (locs : List Loc) (ls : Array Slot) (hP : va_P (xw_D G) xw_cl (xw_W G w) H) (hS : va_S (xw_A G) s.heap H locs) (hl : lv_has ls 5 [(0, .ref (xw_ad G 0)), (1, .int a1), (2, .int x2), (3, .int x3), (4, .int x4)]), xw_Wi G p l e (xw_rm (4) (139)) s m args below meth c H locs r0 wz (F0 m 25 ls []) := by
      intro x2 x3 x4 w hf H locs ls hP hS hl
      unfold fX7_owed_25 at hf
      replace hf := xw_bp_e hf
      obtain ⟨bb25, hit25, hfx25⟩ := hf
      have XX25 : ∀ (x2 : Int32) (x3 : Int32) (w : xw_M) (hf : fX7_owed_58 n a1 x2 x3 w = some (r0, wz)) (H : Heap) (locs : List Loc) (ls : Array Slot) (hP : va_P (xw_D G) xw_cl (xw_W G w) H) (hS : va_S (xw_A G) s.heap H locs) (hl : lv_has ls 5 [(1, .int a1), (2, .int x2), (3, .int x3)]), xw_Wi G p l e (xw_rm (4) (139)) s m args below meth c H locs r0 wz (F0 m 58 ls []) := by
        intro x2 x3 w hf H locs ls hP hS hl
        exact J58 x2 x3 w hf H locs ls hP hS (lv_sub hl [0, 1, 2] rfl)
      have LL25 : ∀ (nn : Nat) (x2 : Int32) (x3 : Int32) (x4 : Int32) (w : xw_M) (hit : xw_it (fun z => fX7_owed_b25 n a1 z.1 z.2.1 z.2.2.1 z.2.2.2) nn (x2, x3, x4, w) = some bb25) (H : Heap) (locs : List Loc) (ls : Array Slot) (hP : va_P (xw_D G) xw_cl (xw_W G w) H) (hS : va_S (xw_A G) s.heap H locs) (hl : lv_has ls 5 [(0, .ref (xw_ad G 0)), (1, .int a1), (2, .int x2), (3, .int x3), (4, .int x4)]), xw_Wi G p l e (xw_rm (4) (139)) s m args below meth c H locs r0 wz (F0 m 25 ls []) := by
        intro nn
        induction nn with
        | zero => intro x2 x3 x4 w hit; exact (xw_it_0 hit).elim
        | succ nn ih25 =>
          intro x2 x3 x4 w hit H locs ls hP hS hl
          replace hit := xw_it_e hit
          obtain ⟨wv25, hf, hC25, hX25⟩ := hit
          replace hf : fX7_owed_b25 n a1 x2 x3 x4 w = some wv25 := hf
          unfold fX7_owed_b25 at hf
          have J52 : ∀ (x2 : Int32) (x3 : Int32) (x4 : Int32) (w : xw_M) (hf : fX7_owed_52 n a1 x2 x3 x4 w = some wv25) (H : Heap) (locs : List Loc) (ls : Array Slot) (hP : va_P (xw_D G) xw_cl (xw_W G w) H) (hS : va_S (xw_A G) s.heap H locs) (hl : lv_has ls 5 [(0, .ref (xw_ad G 0)), (1, .int a1), (2, .int x2), (3, .int x3), (4, .int x4)]), xw_Wi G p l e (xw_rm (4) (139)) s m args below meth c H locs r0 wz (F0 m 52 ls []) := by
            intro x2 x3 x4 w hf H locs ls hP hS hl
            unfold fX7_owed_52 at hf
            obtain ⟨x4_14, ex4_14⟩ : ∃ y : Int32, y = x4 + (-1) := ⟨_, rfl⟩
            replace hf := xw_lt_e ex4_14 hf
            refine lv_iinc (v := x4_14) (lv' := [(4, .int x4_14), (0, .ref (xw_ad G 0)), (1, .int a1), (2, .int x2), (3, .int x3)]) hx hb dX7_owed_52 hl (k := 4) rfl (by rw [ex4_14]; rfl) (by decide) rfl (fun ls hl => ?_)
            refine lv_goto (tgt := 25) hx hb dX7_owed_55 (by decide) ?_
            have hi := hC25 _ (xw_so hf).symm
            exact ih25 x2 x3 x4_14 w hi H locs ls hP hS (lv_sub hl [1, 2, 3, 4, 0] rfl)
          refine lv_iload hx hb dX7_owed_25 (lv_at hl 4 rfl) ?_
          refine lv_if_lt (tgt := 58) hx hb dX7_owed_27 (by decide) (fun c8 => ?_) (fun c8 => ?_)
          · replace hf := xw_ip c8 hf
            have he25 := hX25 _ (xw_so hf).symm
            rw [← he25] at hfx25
            exact XX25 x2 x3 w hfx25 H locs ls hP hS (lv_sub hl [1, 2, 3] rfl)
          · replace hf := xw_in' c8 hf
            refine lv_aload_n hx hb dX7_owed_30 rfl (lv_at hl 0 rfl) ?_
            refine xw_get hB hK hP (xw_o7 G) (C := RX7) (T := TX7) (N := 11) rfl TBi_X7 8 (by decide) tw_263 rfl rfl dX7_owed_31 ?_
            refine lv_aload_n hx hb dX7_owed_34 rfl (lv_at hl 0 rfl) ?_
            refine xw_get hB hK hP (xw_o7 G) (C := RX7) (T := TX7) (N := 11) rfl TBi_X7 0 (by decide) tw_255 rfl rfl dX7_owed_35 ?_
            refine lv_iload hx hb dX7_owed_38 (lv_at hl 4 rfl) ?_
            replace hf := xw_b_e hf
            obtain ⟨r9, w10, he11, hf⟩ := hf
            refine xw_Vi hB hK hE hS hP (As := [.ref (xw_ad G 1), .int x4]) (rest := []) (kX4_fits l G hG n 1 x4 (Or.inl rfl) w _ _ he11) gs_X7_210 (xw_rc hK hP (C := RX4) (T := TX4) (N := 3) (xw_o4 G) rfl) 2 hv_X4_fits ⟨Nat.le_of_ble_eq_true rfl, Nat.le_of_ble_eq_true rfl⟩ rfl hl.1 (Nat.le_of_ble_eq_true rfl) rfl dX7_owed_40 ⟨Nat.zero_le _, Nat.zero_le _⟩ (fun H locs hP hS => ?_)
            refine lv_if_eq (tgt := 52) hx hb dX7_owed_43 (by decide) (fun c12 => ?_) (fun c12 => ?_)
            · replace hf := xw_ip c12 hf
              exact J52 x2 x3 x4 w10 hf H locs ls hP hS (lv_sub hl [0, 1, 2, 3, 4] rfl)
            · replace hf := xw_in' c12 hf
              obtain ⟨x2_13, ex2_13⟩ : ∃ y : Int32, y = x2 + 1 := ⟨_, rfl⟩
              replace hf := xw_lt_e ex2_13 hf
              refine lv_iinc (v := x2_13) (lv' := [(2, .int x2_13), (0, .ref (xw_ad G 0)), (1, .int a1), (3, .int x3), (4, .int x4)]) hx hb dX7_owed_46 hl (k := 2) rfl (by rw [ex2_13]; rfl) (by decide) rfl (fun ls hl => ?_)
              refine lv_iload hx hb dX7_owed_49 (lv_at hl 4 rfl) ?_
              refine lv_istore_n (lv' := [(3, .int x4), (2, .int x2_13), (0, .ref (xw_ad G 0)), (1, .int a1), (4, .int x4)]) hx hb dX7_owed_51 rfl hl (by decide) rfl (fun ls hl => ?_)
              exact J52 x2_13 x4 x4 w10 hf H locs ls hP hS (lv_sub hl [2, 3, 1, 0, 4] rfl)
      exact LL25 n x2 x3 x4 w hit25 H locs ls hP hS hl
    refine lv_aload_n hx hb dX7_owed_0 rfl (lv_at hl 0 rfl) ?_
    refine xw_get hB hK hP (xw_o7 G) (C := RX7) (T := TX7) (N := 11) rfl TBi_X7 8 (by decide) tw_263 rfl rfl dX7_owed_1 ?_
    refine lv_aload_n hx hb dX7_owed_4 rfl (lv_at hl 0 rfl) ?_
    refine xw_get hB hK hP (xw_o7 G) (C := RX7) (T := TX7) (N := 11) rfl TBi_X7 0 (by decide) tw_255 rfl rfl dX7_owed_5 ?_
    refine lv_aload_n hx hb dX7_owed_8 rfl (lv_at hl 0 rfl) ?_
    replace hf := xw_bp_e hf
    obtain ⟨r1, he2, hf⟩ := hf
    refine xw_Vq hB hK hE hS hP (As := []) (rest := [.ref (xw_ad G 1), .ref (xw_ad G 64)]) (kX7_held l G hG w0 _ he2) gs_X7_108 (xw_rc hK hP (C := RX7) (T := TX7) (N := 11) (xw_o7 G) rfl) 0 hv_X7_held ⟨Nat.le_of_ble_eq_true rfl, Nat.le_of_ble_eq_true rfl⟩ rfl hl.1 (Nat.le_of_ble_eq_true rfl) rfl dX7_owed_9 ⟨Nat.zero_le _, Nat.zero_le _⟩ (fun H locs hP hS => ?_)
    cases r1 with
    | none =>
      replace hf := xw_om_n hf
      cases hf
    | some t3 =>
      replace hf := xw_om_s hf
      replace hf := xw_cc_e hf
      obtain ⟨ht4, hf⟩ := hf
      replace hf := xw_b_e hf
      obtain ⟨r5, w6, he7, hf⟩ := hf
      refine xw_Vv hB hK hE hS hP (As := [.ref (xw_ad G 1), .ref (xw_ad G t3)]) (rest := []) (kX4_look l G hG n 1 t3 (Or.inl rfl) ht4 w0 _ _ he7) gs_X7_112 (xw_rc hK hP (C := RX4) (T := TX4) (N := 3) (xw_o4 G) rfl) 2 hv_X4_look ⟨Nat.le_of_ble_eq_true rfl, Nat.le_of_ble_eq_true rfl⟩ rfl hl.1 (Nat.le_of_ble_eq_true rfl) rfl dX7_owed_12 ⟨Nat.zero_le _, Nat.zero_le _⟩ (fun H locs hP hS => ?_)
      refine lv_iconst (v := 0) hx hb dX7_owed_15 (by decide) ?_
      refine lv_istore_n (lv' := [(2, .int (0 : Int32)), (0, .ref (xw_ad G 0)), (1, .int a1)]) hx hb dX7_owed_16 rfl hl (by decide) rfl (fun ls hl => ?_)
      refine lv_bipush (v := (-5)) hx hb dX7_owed_17 (by decide) ?_
      refine lv_istore_n (lv' := [(3, .int (-5 : Int32)), (2, .int (0 : Int32)), (0, .ref (xw_ad G 0)), (1, .int a1)]) hx hb dX7_owed_19 rfl hl (by decide) rfl (fun ls hl => ?_)
      refine lv_sipush (v := 999) hx hb dX7_owed_20 (by decide) ?_
      refine lv_istore (lv' := [(4, .int (999 : Int32)), (3, .int (-5 : Int32)), (2, .int (0 : Int32)), (0, .ref (xw_ad G 0)), (1, .int a1)]) hx hb dX7_owed_23 hl (by decide) rfl (fun ls hl => ?_)
      exact J25 (0 : Int32) (-5 : Int32) (999 : Int32) w6 hf H locs ls hP hS (lv_sub hl [3, 4, 2, 1, 0] rfl)
  exact HH s.heap [] hP hS
def fX7_told (n : Nat) (a1 : Int32) (w0 : xw_M) : Option (Int32 × xw_M) := if a1 = 0 then some (w0.1 1 9, w0) else (if a1 = 1 then xw_bp (fX7_held w0) (fun r2 => xw_om r2 (none) (fun t4 => xw_cc (xw_pa t4) (some (w0.1 t4 0, w0)))) else (if a1 = 2 then some (w0.1 1 8, w0) else (if a1 = 3 then some (w0.1 1 7, w0) else (if a1 = 4 then xw_b (fX7_still n w0) (fun r9 w10 => some (r9, w10)) else (if a1 = 5 then xw_b (fX7_gains n w0) (fun r13 w14 => some (r13, w14)) else (if a1 = 6 then xw_b (fX7_owed n (0 : Int32) w0) (fun r17 w18 => some (r17, w18)) else (if a1 = 7 then xw_b (fX7_owed n (1 : Int32) w0) (fun r21 w22 => some (r21, w22)) else (some ((-1 : Int32), w0)))))))))
set_option maxHeartbeats 4000000 in
set_option maxRecDepth 100000 in
theorem kX7_told (l : Launch) (G : xw_G) (hG : xw_ok G) (n : Nat) (a1 : Int32) (w0 : xw_M) (r0 : Int32) (wz : xw_M) (hf : fX7_told n a1 w0 = some (r0, wz)) : xw_Ti l G yX7_told cX7_told 2 ((Option.some Jvm.ClassFile.FieldType.int)) (6) (191) [.ref (xw_ad G 0), .int a1] w0 r0 wz := by
  unfold xw_Ti
  refine Met.ofW (cc := cX7_told) (maxL := 2) (ret := (Option.some Jvm.ClassFile.FieldType.int)) (by decide) rfl ?_
  intro p e s m args below meth c s₁ B hml hv
  obtain ⟨hargs, hP, hK, hE⟩ := hv
  have hx := B.exec
  have hb := B.bytes
  have hr := B.returns
  have hlk := B.notSynchronized
  have hB : CallFix p m c cX7_told 2 s args TB RX7 := ⟨hx, hb, hml, findClass_of_methodNamed B.named, fun q h => (atoms_spec (ws := Cond.code yX7_told cX7_told 2 ((Option.some Jvm.ClassFile.FieldType.int)) :: TB) B.pre) q (List.mem_cons_of_mem _ h)⟩
  have hS : va_S (xw_A G) s.heap s.heap [] := va_S.rf
  have hl := lv_entry [.ref (xw_ad G 0), .int a1] (n := 2) (Nat.le_of_ble_eq_true rfl)
  rw [show entryFrame m args 2 = entryFrame m ([.ref (xw_ad G 0), .int a1] : List Value).toArray 2 from by rw [hargs], lg_entry_eq]
  generalize (lg_sl [.ref (xw_ad G 0), .int a1] ++ List.replicate (2 - (lg_sl [.ref (xw_ad G 0), .int a1]).length) Slot.unset).toArray = ls at hl ⊢
  have hP : va_P (xw_D G) xw_cl (xw_W G w0) s.heap := hP
  have hl : lv_has ls 2 [(0, .ref (xw_ad G 0)), (1, .int a1)] := hl
  have HH : ∀ (H : Heap) (locs : List Loc) (hP : va_P (xw_D G) xw_cl (xw_W G w0) H) (hS : va_S (xw_A G) s.heap H locs), xw_Wi G p l e (xw_rm (6) (191)) s m args below meth c H locs r0 wz (F0 m 0 ls []) := by
    intro H locs hP hS
    unfold fX7_told at hf
    refine lv_iload_n hx hb dX7_told_0 rfl (lv_at hl 1 rfl) ?_
    by_cases c1 : a1 = 0
    · refine lv_tableIn (off := 47) (tgt := 48) hx hb dX7_told_1 (by rw [c1]; decide) (by rw [c1]; decide) (by rw [c1]; rfl) (by decide) ?_
      replace hf := xw_ip c1 hf
      refine lv_aload_n hx hb dX7_told_48 rfl (lv_at hl 0 rfl) ?_
      refine xw_get hB hK hP (xw_o7 G) (C := RX7) (T := TX7) (N := 11) rfl TBi_X7 0 (by decide) tw_255 rfl rfl dX7_told_49 ?_
      refine xw_get hB hK hP (xw_o5 G (Or.inl rfl)) (C := RX5) (T := TX5) (N := 14) rfl TBi_X5 9 (by decide) tw_91 rfl rfl dX7_told_52 ?_
      obtain ⟨h0, h1⟩ := xw_s2 hf
      exact xw_iret hB hK hE hS hP hr hlk h0 h1 dX7_told_55
    · replace hf := xw_in' c1 hf
      by_cases c6 : a1 = 1
      · refine lv_tableIn (off := 55) (tgt := 56) hx hb dX7_told_1 (by rw [c6]; decide) (by rw [c6]; decide) (by rw [c6]; rfl) (by decide) ?_
        replace hf := xw_ip c6 hf
        refine lv_aload_n hx hb dX7_told_56 rfl (lv_at hl 0 rfl) ?_
        replace hf := xw_bp_e hf
        obtain ⟨r2, he3, hf⟩ := hf
        refine xw_Vq hB hK hE hS hP (As := []) (rest := []) (kX7_held l G hG w0 _ he3) gs_X7_108 (xw_rc hK hP (C := RX7) (T := TX7) (N := 11) (xw_o7 G) rfl) 0 hv_X7_held ⟨Nat.le_of_ble_eq_true rfl, Nat.le_of_ble_eq_true rfl⟩ rfl hl.1 (Nat.le_of_ble_eq_true rfl) rfl dX7_told_57 ⟨Nat.zero_le _, Nat.zero_le _⟩ (fun H locs hP hS => ?_)
        cases r2 with
        | none =>
          replace hf := xw_om_n hf
          cases hf
        | some t4 =>
          replace hf := xw_om_s hf
          replace hf := xw_cc_e hf
          obtain ⟨ht5, hf⟩ := hf
          refine xw_get hB hK hP (xw_o2 G ht5) (C := RX2) (T := TX2) (N := 8) rfl TBi_X2 0 (by decide) tw_144 rfl rfl dX7_told_60 ?_
          obtain ⟨h0, h1⟩ := xw_s2 hf
          exact xw_iret hB hK hE hS hP hr hlk h0 h1 dX7_told_63
      · replace hf := xw_in' c6 hf
        by_cases c7 : a1 = 2
        · refine lv_tableIn (off := 63) (tgt := 64) hx hb dX7_told_1 (by rw [c7]; decide) (by rw [c7]; decide) (by rw [c7]; rfl) (by decide) ?_
          replace hf := xw_ip c7 hf
          refine lv_aload_n hx hb dX7_told_64 rfl (lv_at hl 0 rfl) ?_
          refine xw_get hB hK hP (xw_o7 G) (C := RX7) (T := TX7) (N := 11) rfl TBi_X7 0 (by decide) tw_255 rfl rfl dX7_told_65 ?_
          refine xw_get hB hK hP (xw_o5 G (Or.inl rfl)) (C := RX5) (T := TX5) (N := 14) rfl TBi_X5 8 (by decide) tw_87 rfl rfl dX7_told_68 ?_
          obtain ⟨h0, h1⟩ := xw_s2 hf
          exact xw_iret hB hK hE hS hP hr hlk h0 h1 dX7_told_71
        · replace hf := xw_in' c7 hf
          by_cases c8 : a1 = 3
          · refine lv_tableIn (off := 71) (tgt := 72) hx hb dX7_told_1 (by rw [c8]; decide) (by rw [c8]; decide) (by rw [c8]; rfl) (by decide) ?_
            replace hf := xw_ip c8 hf
            refine lv_aload_n hx hb dX7_told_72 rfl (lv_at hl 0 rfl) ?_
            refine xw_get hB hK hP (xw_o7 G) (C := RX7) (T := TX7) (N := 11) rfl TBi_X7 0 (by decide) tw_255 rfl rfl dX7_told_73 ?_
            refine xw_get hB hK hP (xw_o5 G (Or.inl rfl)) (C := RX5) (T := TX5) (N := 14) rfl TBi_X5 7 (by decide) tw_84 rfl rfl dX7_told_76 ?_
            obtain ⟨h0, h1⟩ := xw_s2 hf
            exact xw_iret hB hK hE hS hP hr hlk h0 h1 dX7_told_79
          · replace hf := xw_in' c8 hf
            by_cases c12 : a1 = 4
            · refine lv_tableIn (off := 79) (tgt := 80) hx hb dX7_told_1 (by rw [c12]; decide) (by rw [c12]; decide) (by rw [c12]; rfl) (by decide) ?_
              replace hf := xw_ip c12 hf
              refine lv_aload_n hx hb dX7_told_80 rfl (lv_at hl 0 rfl) ?_
              replace hf := xw_b_e hf
              obtain ⟨r9, w10, he11, hf⟩ := hf
              refine xw_Vi hB hK hE hS hP (As := []) (rest := []) (kX7_still l G hG n w0 _ _ he11) gs_X7_175 (xw_rc hK hP (C := RX7) (T := TX7) (N := 11) (xw_o7 G) rfl) 0 hv_X7_still ⟨Nat.le_of_ble_eq_true rfl, Nat.le_of_ble_eq_true rfl⟩ rfl hl.1 (Nat.le_of_ble_eq_true rfl) rfl dX7_told_81 ⟨Nat.zero_le _, Nat.zero_le _⟩ (fun H locs hP hS => ?_)
              obtain ⟨h0, h1⟩ := xw_s2 hf
              exact xw_iret hB hK hE hS hP hr hlk h0 h1 dX7_told_84
            · replace hf := xw_in' c12 hf
              by_cases c16 : a1 = 5
              · refine lv_tableIn (off := 84) (tgt := 85) hx hb dX7_told_1 (by rw [c16]; decide) (by rw [c16]; decide) (by rw [c16]; rfl) (by decide) ?_
                replace hf := xw_ip c16 hf
                refine lv_aload_n hx hb dX7_told_85 rfl (lv_at hl 0 rfl) ?_
                replace hf := xw_b_e hf
                obtain ⟨r13, w14, he15, hf⟩ := hf
                refine xw_Vi hB hK hE hS hP (As := []) (rest := []) (kX7_gains l G hG n w0 _ _ he15) gs_X7_179 (xw_rc hK hP (C := RX7) (T := TX7) (N := 11) (xw_o7 G) rfl) 0 hv_X7_gains ⟨Nat.le_of_ble_eq_true rfl, Nat.le_of_ble_eq_true rfl⟩ rfl hl.1 (Nat.le_of_ble_eq_true rfl) rfl dX7_told_86 ⟨Nat.zero_le _, Nat.zero_le _⟩ (fun H locs hP hS => ?_)
                obtain ⟨h0, h1⟩ := xw_s2 hf
                exact xw_iret hB hK hE hS hP hr hlk h0 h1 dX7_told_89
              · replace hf := xw_in' c16 hf
                by_cases c20 : a1 = 6
                · refine lv_tableIn (off := 89) (tgt := 90) hx hb dX7_told_1 (by rw [c20]; decide) (by rw [c20]; decide) (by rw [c20]; rfl) (by decide) ?_
                  replace hf := xw_ip c20 hf
                  refine lv_aload_n hx hb dX7_told_90 rfl (lv_at hl 0 rfl) ?_
                  refine lv_iconst (v := 0) hx hb dX7_told_91 (by decide) ?_
                  replace hf := xw_b_e hf
                  obtain ⟨r17, w18, he19, hf⟩ := hf
                  refine xw_Vi hB hK hE hS hP (As := [.int (0 : Int32)]) (rest := []) (kX7_owed l G hG n (0 : Int32) w0 _ _ he19) gs_X7_182 (xw_rc hK hP (C := RX7) (T := TX7) (N := 11) (xw_o7 G) rfl) 1 hv_X7_owed ⟨Nat.le_of_ble_eq_true rfl, Nat.le_of_ble_eq_true rfl⟩ rfl hl.1 (Nat.le_of_ble_eq_true rfl) rfl dX7_told_92 ⟨Nat.zero_le _, Nat.zero_le _⟩ (fun H locs hP hS => ?_)
                  obtain ⟨h0, h1⟩ := xw_s2 hf
                  exact xw_iret hB hK hE hS hP hr hlk h0 h1 dX7_told_95
                · replace hf := xw_in' c20 hf
                  by_cases c24 : a1 = 7
                  · refine lv_tableIn (off := 95) (tgt := 96) hx hb dX7_told_1 (by rw [c24]; decide) (by rw [c24]; decide) (by rw [c24]; rfl) (by decide) ?_
                    replace hf := xw_ip c24 hf
                    refine lv_aload_n hx hb dX7_told_96 rfl (lv_at hl 0 rfl) ?_
                    refine lv_iconst (v := 1) hx hb dX7_told_97 (by decide) ?_
                    replace hf := xw_b_e hf
                    obtain ⟨r21, w22, he23, hf⟩ := hf
                    refine xw_Vi hB hK hE hS hP (As := [.int (1 : Int32)]) (rest := []) (kX7_owed l G hG n (1 : Int32) w0 _ _ he23) gs_X7_182 (xw_rc hK hP (C := RX7) (T := TX7) (N := 11) (xw_o7 G) rfl) 1 hv_X7_owed ⟨Nat.le_of_ble_eq_true rfl, Nat.le_of_ble_eq_true rfl⟩ rfl hl.1 (Nat.le_of_ble_eq_true rfl) rfl dX7_told_98 ⟨Nat.zero_le _, Nat.zero_le _⟩ (fun H locs hP hS => ?_)
                    obtain ⟨h0, h1⟩ := xw_s2 hf
                    exact xw_iret hB hK hE hS hP hr hlk h0 h1 dX7_told_101
                  · replace hf := xw_in' c24 hf
                    refine lv_tableOut (tgt := 102) hx hb dX7_told_1 (by have n0 := lv_neT c1 (by decide : (0 : Int32).toInt = 0); have n1 := lv_neT c6 (by decide : (1 : Int32).toInt = 1); have n2 := lv_neT c7 (by decide : (2 : Int32).toInt = 2); have n3 := lv_neT c8 (by decide : (3 : Int32).toInt = 3); have n4 := lv_neT c12 (by decide : (4 : Int32).toInt = 4); have n5 := lv_neT c16 (by decide : (5 : Int32).toInt = 5); have n6 := lv_neT c20 (by decide : (6 : Int32).toInt = 6); have n7 := lv_neT c24 (by decide : (7 : Int32).toInt = 7); omega) (by decide) ?_
                    refine lv_iconst (v := (-1)) hx hb dX7_told_102 (by decide) ?_
                    obtain ⟨h0, h1⟩ := xw_s2 hf
                    exact xw_iret hB hK hE hS hP hr hlk h0 h1 dX7_told_103
  exact HH s.heap [] hP hS
def fX7_pass_61 (n : Nat) (a1 : Int32) (w : xw_M) : Option (Int32 × xw_M) := some (w.1 1 9, w)
def fX7_pass_b32 (n : Nat) (a1 : Int32) (x2 : Int32) (w : xw_M) : Option ((Int32 × xw_M) ⊕ (xw_M)) := if a1 ≤ x2 then some (.inr w) else xw_bp (fX7_held w) (fun r6 => xw_om r6 (none) (fun t8 => xw_cc (xw_pa t8) (xw_b (fX4_goDay n 1 t8 (999999 : Int32) w) (fun r10 w11 => xw_lt (x2 + 1) (fun x2_13 => some (.inl (x2_13, w11)))))))
def fX7_pass_32 (n : Nat) (a1 : Int32) (x2 : Int32) (w : xw_M) : Option (Int32 × xw_M) := xw_bp (xw_it (fun z => fX7_pass_b32 n a1 z.1 z.2) n (x2, w)) (fun z => (fun (w : xw_M) => fX7_pass_61 n a1 w) z)
def fX7_pass (n : Nat) (a1 : Int32) (w0 : xw_M) : Option (Int32 × xw_M) := xw_bp (fX7_within a1 (20 : Int32)) (fun r1 => if r1 = 0 then some ((-2 : Int32), w0) else if ((w0.1 1 9) + a1) ≤ (9999 : Int32) then fX7_pass_32 n a1 (0 : Int32) w0 else some ((-3 : Int32), w0))
set_option maxHeartbeats 4000000 in
set_option maxRecDepth 100000 in
theorem kX7_pass (l : Launch) (G : xw_G) (hG : xw_ok G) (n : Nat) (a1 : Int32) (w0 : xw_M) (r0 : Int32) (wz : xw_M) (hf : fX7_pass n a1 w0 = some (r0, wz)) : xw_Ti l G yX7_pass cX7_pass 3 ((Option.some Jvm.ClassFile.FieldType.int)) (5) (169) [.ref (xw_ad G 0), .int a1] w0 r0 wz := by
  unfold xw_Ti
  refine Met.ofW (cc := cX7_pass) (maxL := 3) (ret := (Option.some Jvm.ClassFile.FieldType.int)) (by decide) rfl ?_
  intro p e s m args below meth c s₁ B hml hv
  obtain ⟨hargs, hP, hK, hE⟩ := hv
  have hx := B.exec
  have hb := B.bytes
  have hr := B.returns
  have hlk := B.notSynchronized
  have hB : CallFix p m c cX7_pass 3 s args TB RX7 := ⟨hx, hb, hml, findClass_of_methodNamed B.named, fun q h => (atoms_spec (ws := Cond.code yX7_pass cX7_pass 3 ((Option.some Jvm.ClassFile.FieldType.int)) :: TB) B.pre) q (List.mem_cons_of_mem _ h)⟩
  have hS : va_S (xw_A G) s.heap s.heap [] := va_S.rf
  have hl := lv_entry [.ref (xw_ad G 0), .int a1] (n := 3) (Nat.le_of_ble_eq_true rfl)
  rw [show entryFrame m args 3 = entryFrame m ([.ref (xw_ad G 0), .int a1] : List Value).toArray 3 from by rw [hargs], lg_entry_eq]
  generalize (lg_sl [.ref (xw_ad G 0), .int a1] ++ List.replicate (3 - (lg_sl [.ref (xw_ad G 0), .int a1]).length) Slot.unset).toArray = ls at hl ⊢
  have hP : va_P (xw_D G) xw_cl (xw_W G w0) s.heap := hP
  have hl : lv_has ls 3 [(0, .ref (xw_ad G 0)), (1, .int a1)] := hl
  have HH : ∀ (H : Heap) (locs : List Loc) (hP : va_P (xw_D G) xw_cl (xw_W G w0) H) (hS : va_S (xw_A G) s.heap H locs), xw_Wi G p l e (xw_rm (5) (169)) s m args below meth c H locs r0 wz (F0 m 0 ls []) := by
    intro H locs hP hS
    unfold fX7_pass at hf
    have J61 : ∀ (w : xw_M) (hf : fX7_pass_61 n a1 w = some (r0, wz)) (H : Heap) (locs : List Loc) (ls : Array Slot) (hP : va_P (xw_D G) xw_cl (xw_W G w) H) (hS : va_S (xw_A G) s.heap H locs) (hl : lv_has ls 3 [(0, .ref (xw_ad G 0))]), xw_Wi G p l e (xw_rm (5) (169)) s m args below meth c H locs r0 wz (F0 m 61 ls []) := by
      intro w hf H locs ls hP hS hl
      unfold fX7_pass_61 at hf
      refine lv_aload_n hx hb dX7_pass_61 rfl (lv_at hl 0 rfl) ?_
      refine xw_get hB hK hP (xw_o7 G) (C := RX7) (T := TX7) (N := 11) rfl TBi_X7 0 (by decide) tw_255 rfl rfl dX7_pass_62 ?_
      refine xw_get hB hK hP (xw_o5 G (Or.inl rfl)) (C := RX5) (T := TX5) (N := 14) rfl TBi_X5 9 (by decide) tw_91 rfl rfl dX7_pass_65 ?_
      obtain ⟨h0, h1⟩ := xw_s2 hf
      exact xw_iret hB hK hE hS hP hr hlk h0 h1 dX7_pass_68
    have J32 : ∀ (x2 : Int32) (w : xw_M) (hf : fX7_pass_32 n a1 x2 w = some (r0, wz)) (H : Heap) (locs : List Loc) (ls : Array Slot) (hP : va_P (xw_D G) xw_cl (xw_W G w) H) (hS : va_S (xw_A G) s.heap H locs) (hl : lv_has ls 3 [(0, .ref (xw_ad G 0)), (1, .int a1), (2, .int x2)]), xw_Wi G p l e (xw_rm (5) (169)) s m args below meth c H locs r0 wz (F0 m 32 ls []) := by
      intro x2 w hf H locs ls hP hS hl
      unfold fX7_pass_32 at hf
      replace hf := xw_bp_e hf
      obtain ⟨bb32, hit32, hfx32⟩ := hf
      have XX32 : ∀ (w : xw_M) (hf : fX7_pass_61 n a1 w = some (r0, wz)) (H : Heap) (locs : List Loc) (ls : Array Slot) (hP : va_P (xw_D G) xw_cl (xw_W G w) H) (hS : va_S (xw_A G) s.heap H locs) (hl : lv_has ls 3 [(0, .ref (xw_ad G 0))]), xw_Wi G p l e (xw_rm (5) (169)) s m args below meth c H locs r0 wz (F0 m 61 ls []) := by
        intro w hf H locs ls hP hS hl
        exact J61 w hf H locs ls hP hS (lv_sub hl [0] rfl)
      have LL32 : ∀ (nn : Nat) (x2 : Int32) (w : xw_M) (hit : xw_it (fun z => fX7_pass_b32 n a1 z.1 z.2) nn (x2, w) = some bb32) (H : Heap) (locs : List Loc) (ls : Array Slot) (hP : va_P (xw_D G) xw_cl (xw_W G w) H) (hS : va_S (xw_A G) s.heap H locs) (hl : lv_has ls 3 [(0, .ref (xw_ad G 0)), (1, .int a1), (2, .int x2)]), xw_Wi G p l e (xw_rm (5) (169)) s m args below meth c H locs r0 wz (F0 m 32 ls []) := by
        intro nn
        induction nn with
        | zero => intro x2 w hit; exact (xw_it_0 hit).elim
        | succ nn ih32 =>
          intro x2 w hit H locs ls hP hS hl
          replace hit := xw_it_e hit
          obtain ⟨wv32, hf, hC32, hX32⟩ := hit
          replace hf : fX7_pass_b32 n a1 x2 w = some wv32 := hf
          unfold fX7_pass_b32 at hf
          refine lv_iload_n hx hb dX7_pass_32 rfl (lv_at hl 2 rfl) ?_
          refine lv_iload_n hx hb dX7_pass_33 rfl (lv_at hl 1 rfl) ?_
          refine lv_icmp_ge (tgt := 61) hx hb dX7_pass_34 (by decide) (fun c5 => ?_) (fun c5 => ?_)
          · replace hf := xw_ip c5 hf
            have he32 := hX32 _ (xw_so hf).symm
            rw [← he32] at hfx32
            exact XX32 w hfx32 H locs ls hP hS (lv_sub hl [0] rfl)
          · replace hf := xw_in' c5 hf
            refine lv_aload_n hx hb dX7_pass_37 rfl (lv_at hl 0 rfl) ?_
            refine xw_get hB hK hP (xw_o7 G) (C := RX7) (T := TX7) (N := 11) rfl TBi_X7 8 (by decide) tw_263 rfl rfl dX7_pass_38 ?_
            refine lv_aload_n hx hb dX7_pass_41 rfl (lv_at hl 0 rfl) ?_
            refine xw_get hB hK hP (xw_o7 G) (C := RX7) (T := TX7) (N := 11) rfl TBi_X7 0 (by decide) tw_255 rfl rfl dX7_pass_42 ?_
            refine lv_aload_n hx hb dX7_pass_45 rfl (lv_at hl 0 rfl) ?_
            replace hf := xw_bp_e hf
            obtain ⟨r6, he7, hf⟩ := hf
            refine xw_Vq hB hK hE hS hP (As := []) (rest := [.ref (xw_ad G 1), .ref (xw_ad G 64)]) (kX7_held l G hG w _ he7) gs_X7_108 (xw_rc hK hP (C := RX7) (T := TX7) (N := 11) (xw_o7 G) rfl) 0 hv_X7_held ⟨Nat.le_of_ble_eq_true rfl, Nat.le_of_ble_eq_true rfl⟩ rfl hl.1 (Nat.le_of_ble_eq_true rfl) rfl dX7_pass_46 ⟨Nat.zero_le _, Nat.zero_le _⟩ (fun H locs hP hS => ?_)
            cases r6 with
            | none =>
              replace hf := xw_om_n hf
              refine lv_ldc (v := (999999)) hx hb hB.2.2.2.1 (hB.2.2.2.2 _ tw_559) dX7_pass_49 ?_
              cases hf
            | some t8 =>
              replace hf := xw_om_s hf
              replace hf := xw_cc_e hf
              obtain ⟨ht9, hf⟩ := hf
              refine lv_ldc (v := (999999)) hx hb hB.2.2.2.1 (hB.2.2.2.2 _ tw_559) dX7_pass_49 ?_
              replace hf := xw_b_e hf
              obtain ⟨r10, w11, he12, hf⟩ := hf
              refine xw_Vi hB hK hE hS hP (As := [.ref (xw_ad G 1), .ref (xw_ad G t8), .int (999999 : Int32)]) (rest := []) (kX4_goDay l G hG n 1 t8 (999999 : Int32) (Or.inl rfl) ht9 w _ _ he12) gs_X7_187 (xw_rc hK hP (C := RX4) (T := TX4) (N := 3) (xw_o4 G) rfl) 3 hv_X4_goDay ⟨Nat.le_of_ble_eq_true rfl, Nat.le_of_ble_eq_true rfl⟩ rfl hl.1 (Nat.le_of_ble_eq_true rfl) rfl dX7_pass_51 ⟨Nat.zero_le _, Nat.zero_le _⟩ (fun H locs hP hS => ?_)
              refine lv_pop hx hb dX7_pass_54 rfl ?_
              obtain ⟨x2_13, ex2_13⟩ : ∃ y : Int32, y = x2 + 1 := ⟨_, rfl⟩
              replace hf := xw_lt_e ex2_13 hf
              refine lv_iinc (v := x2_13) (lv' := [(2, .int x2_13), (0, .ref (xw_ad G 0)), (1, .int a1)]) hx hb dX7_pass_55 hl (k := 2) rfl (by rw [ex2_13]; rfl) (by decide) rfl (fun ls hl => ?_)
              refine lv_goto (tgt := 32) hx hb dX7_pass_58 (by decide) ?_
              have hi := hC32 _ (xw_so hf).symm
              exact ih32 x2_13 w11 hi H locs ls hP hS (lv_sub hl [1, 2, 0] rfl)
      exact LL32 n x2 w hit32 H locs ls hP hS hl
    refine lv_iload_n hx hb dX7_pass_0 rfl (lv_at hl 1 rfl) ?_
    refine lv_bipush (v := 20) hx hb dX7_pass_1 (by decide) ?_
    replace hf := xw_bp_e hf
    obtain ⟨r1, he2, hf⟩ := hf
    refine xw_Si hB hK hE hS hP (As := [.int a1, .int (20 : Int32)]) (rest := []) (kX7_within l G hG a1 (20 : Int32) w0 _ he2) tw_293 tw_295 tw_294 tw_1 2 hs_X7_within ⟨Nat.le_of_ble_eq_true rfl, Nat.le_of_ble_eq_true rfl⟩ rfl hl.1 (Nat.le_of_ble_eq_true rfl) rfl dX7_pass_3 ⟨Nat.zero_le _, Nat.zero_le _⟩ (fun H locs hP hS => ?_)
    refine lv_if_ne (tgt := 12) hx hb dX7_pass_6 (by decide) (fun c3 => ?_) (fun c3 => ?_)
    · replace hf := xw_in' c3 hf
      refine lv_aload_n hx hb dX7_pass_12 rfl (lv_at hl 0 rfl) ?_
      refine xw_get hB hK hP (xw_o7 G) (C := RX7) (T := TX7) (N := 11) rfl TBi_X7 0 (by decide) tw_255 rfl rfl dX7_pass_13 ?_
      refine xw_get hB hK hP (xw_o5 G (Or.inl rfl)) (C := RX5) (T := TX5) (N := 14) rfl TBi_X5 9 (by decide) tw_91 rfl rfl dX7_pass_16 ?_
      refine lv_iload_n hx hb dX7_pass_19 rfl (lv_at hl 1 rfl) ?_
      refine lv_iadd hx hb dX7_pass_20 ?_
      refine lv_sipush (v := 9999) hx hb dX7_pass_21 (by decide) ?_
      refine lv_icmp_le (tgt := 30) hx hb dX7_pass_24 (by decide) (fun c4 => ?_) (fun c4 => ?_)
      · replace hf := xw_ip c4 hf
        refine lv_iconst (v := 0) hx hb dX7_pass_30 (by decide) ?_
        refine lv_istore_n (lv' := [(2, .int (0 : Int32)), (0, .ref (xw_ad G 0)), (1, .int a1)]) hx hb dX7_pass_31 rfl hl (by decide) rfl (fun ls hl => ?_)
        exact J32 (0 : Int32) w0 hf H locs ls hP hS (lv_sub hl [1, 2, 0] rfl)
      · replace hf := xw_in' c4 hf
        refine lv_bipush (v := (-3)) hx hb dX7_pass_27 (by decide) ?_
        obtain ⟨h0, h1⟩ := xw_s2 hf
        exact xw_iret hB hK hE hS hP hr hlk h0 h1 dX7_pass_29
    · replace hf := xw_ip c3 hf
      refine lv_bipush (v := (-2)) hx hb dX7_pass_9 (by decide) ?_
      obtain ⟨h0, h1⟩ := xw_s2 hf
      exact xw_iret hB hK hE hS hP hr hlk h0 h1 dX7_pass_11
  exact HH s.heap [] hP hS
