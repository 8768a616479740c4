def fX3_readEither_123 (n : Nat) (F : Int32 → xw_M → Option (Int32 × xw_M)) (a1 : Int32) (x2 : Int32) (x3 : Int32) (w : xw_M) : Option (Int32 × xw_M) := if x3 = 0 then xw_cc (x2 = 0 ∨ x2 = 1) (some (x2, w)) else xw_cc (xw_pa (w.1 49 5).toNatClampNeg) (xw_b (fX2_addStep ((w.1 49 5).toNatClampNeg) (8 : Int32) (0 : Int32) (0 : Int32) w) (fun (_ : Unit) w32 => xw_cc (x2 = 0 ∨ x2 = 1) (some (x2, w32))))
def fX3_readEither_117 (n : Nat) (F : Int32 → xw_M → Option (Int32 × xw_M)) (a1 : Int32) (x2 : Int32) (x3 : Int32) (x4 : Int32) (w : xw_M) : Option ((Int32 × Int32 × Int32 × xw_M) ⊕ (Int32 × Int32 × xw_M)) := xw_lt (x4 + 1) (fun x4_28 => some (.inl (x2, x3, x4_28, w)))
def fX3_readEither_90 (n : Nat) (F : Int32 → xw_M → Option (Int32 × xw_M)) (a1 : Int32) (x4 : Int32) (x5 : Int32) (v0 : Int32) (w : xw_M) : Option ((Int32 × Int32 × Int32 × xw_M) ⊕ (Int32 × Int32 × xw_M)) := xw_b (fX3_advance w) (fun (_ : Unit) w18 => xw_b (F a1 w18) (fun r20 w21 => if x5 = 0 then xw_cc (xw_pa (w21.1 49 5).toNatClampNeg) (xw_b (fX2_addStep ((w21.1 49 5).toNatClampNeg) (7 : Int32) (0 : Int32) (0 : Int32) w21) (fun (_ : Unit) w26 => fX3_readEither_117 n F a1 r20 v0 x4 w26)) else fX3_readEither_117 n F a1 r20 v0 x4 w21))
def fX3_readEither_85 (n : Nat) (F : Int32 → xw_M → Option (Int32 × xw_M)) (a1 : Int32) (x4 : Int32) (x5 : Int32) (w : xw_M) : Option ((Int32 × Int32 × Int32 × xw_M) ⊕ (Int32 × Int32 × xw_M)) := fX3_readEither_90 n F a1 x4 x5 (1 : Int32) w
def fX3_readEither_76 (n : Nat) (F : Int32 → xw_M → Option (Int32 × xw_M)) (a1 : Int32) (x3 : Int32) (x4 : Int32) (x5 : Int32) (w : xw_M) : Option ((Int32 × Int32 × Int32 × xw_M) ⊕ (Int32 × Int32 × xw_M)) := if x3 = 0 then if x5 = 0 then fX3_readEither_90 n F a1 x4 x5 (0 : Int32) w else fX3_readEither_85 n F a1 x4 x5 w else fX3_readEither_85 n F a1 x4 x5 w
def fX3_readEither_54 (n : Nat) (F : Int32 → xw_M → Option (Int32 × xw_M)) (a1 : Int32) (x3 : Int32) (x4 : Int32) (v0 : Int32) (w : xw_M) : Option ((Int32 × Int32 × Int32 × xw_M) ⊕ (Int32 × Int32 × xw_M)) := if v0 = 0 then fX3_readEither_76 n F a1 x3 x4 v0 w else if x3 = 0 then fX3_readEither_76 n F a1 x3 x4 v0 w else xw_cc (xw_pa (w.1 49 5).toNatClampNeg) (xw_b (fX2_addStep ((w.1 49 5).toNatClampNeg) (8 : Int32) (0 : Int32) (0 : Int32) w) (fun (_ : Unit) w13 => fX3_readEither_76 n F a1 x3 x4 v0 w13))
def fX3_readEither_40 (n : Nat) (F : Int32 → xw_M → Option (Int32 × xw_M)) (a1 : Int32) (x3 : Int32) (x4 : Int32) (w : xw_M) : Option ((Int32 × Int32 × Int32 × xw_M) ⊕ (Int32 × Int32 × xw_M)) := if (w.1 49 3) = (124 : Int32) then fX3_readEither_54 n F a1 x3 x4 (1 : Int32) w else fX3_readEither_54 n F a1 x3 x4 (0 : Int32) w
def fX3_readEither_b11 (n : Nat) (F : Int32 → xw_M → Option (Int32 × xw_M)) (a1 : Int32) (x2 : Int32) (x3 : Int32) (x4 : Int32) (w : xw_M) : Option ((Int32 × Int32 × Int32 × xw_M) ⊕ (Int32 × Int32 × xw_M)) := if (100 : Int32) ≤ x4 then some (.inr (x2, x3, w)) else if x2 = 0 then some (.inr (x2, x3, w)) else if (w.1 49 3) = (38 : Int32) then fX3_readEither_40 n F a1 x3 x4 w else if (w.1 49 3) = (124 : Int32) then fX3_readEither_40 n F a1 x3 x4 w else some (.inr (x2, x3, w))
def fX3_readEither_11 (n : Nat) (F : Int32 → xw_M → Option (Int32 × xw_M)) (a1 : Int32) (x2 : Int32) (x3 : Int32) (x4 : Int32) (w : xw_M) : Option (Int32 × xw_M) := xw_bp (xw_it (fun z => fX3_readEither_b11 n F a1 z.1 z.2.1 z.2.2.1 z.2.2.2) n (x2, x3, x4, w)) (fun z => (fun (x2 : Int32) (x3 : Int32) (w : xw_M) => fX3_readEither_123 n F a1 x2 x3 w) z.1 z.2.1 z.2.2)
def fX3_readEither (n : Nat) (F : Int32 → xw_M → Option (Int32 × xw_M)) (a1 : Int32) (w0 : xw_M) : Option (Int32 × xw_M) := xw_b (F a1 w0) (fun r1 w2 => fX3_readEither_11 n F a1 r1 (0 : Int32) (0 : Int32) w2)
set_option maxHeartbeats 4000000 in
set_option maxRecDepth 100000 in
theorem kX3_readEither (l : Launch) (G : xw_G) (hG : xw_ok G) (n : Nat) (F : Int32 → xw_M → Option (Int32 × xw_M)) (a1 : Int32) (fr lo : Nat) (hF : ∀ (a1 : Int32) (w : xw_M) (r : Int32) (w' : xw_M), F a1 w = some (r, w') → xw_Ti l G yX3_readPart cX3_readPart 4 ((Option.some Jvm.ClassFile.FieldType.boolean)) fr lo [.ref (xw_ad G 49), .int a1] w r w') (w0 : xw_M) (r0 : Int32) (wz : xw_M) (hf : fX3_readEither n F a1 w0 = some (r0, wz)) : xw_Ti l G yX3_readEither cX3_readEither 6 ((Option.some Jvm.ClassFile.FieldType.boolean)) (fr + 2) (lo + 45) [.ref (xw_ad G 49), .int a1] w0 r0 wz := by
  unfold xw_Ti
  refine Met.ofW (cc := cX3_readEither) (maxL := 6) (ret := (Option.some Jvm.ClassFile.FieldType.boolean)) (by decide) rfl ?_
  intro p e s m args below meth c s₁ B hml hv
  obtain ⟨hargs, hP, hK, hE⟩ := hv
  have hx := B.exec
  have hb := B.bytes
  have hr := B.returns
  have hlk := B.notSynchronized
  have hB : CallFix p m c cX3_readEither 6 s args TB RX3 := ⟨hx, hb, hml, findClass_of_methodNamed B.named, fun q h => (atoms_spec (ws := Cond.code yX3_readEither cX3_readEither 6 ((Option.some Jvm.ClassFile.FieldType.boolean)) :: TB) B.pre) q (List.mem_cons_of_mem _ h)⟩
  have hS : va_S (xw_A G) s.heap s.heap [] := va_S.rf
  have hl := lv_entry [.ref (xw_ad G 49), .int a1] (n := 6) (Nat.le_of_ble_eq_true rfl)
  rw [show entryFrame m args 6 = entryFrame m ([.ref (xw_ad G 49), .int a1] : List Value).toArray 6 from by rw [hargs], lg_entry_eq]
  generalize (lg_sl [.ref (xw_ad G 49), .int a1] ++ List.replicate (6 - (lg_sl [.ref (xw_ad G 49), .int a1]).length) Slot.unset).toArray = ls at hl ⊢
  have hP : va_P (xw_D G) xw_cl (xw_W G w0) s.heap := hP
  have hl : lv_has ls 6 [(0, .ref (xw_ad G 49)), (1, .int a1)] := hl
  have HH : ∀ (H : Heap) (locs : List Loc) (hP : va_P (xw_D G) xw_cl (xw_W G w0) H) (hS : va_S (xw_A G) s.heap H locs), xw_Wi G p l e (xw_rm (fr + 2) (lo + 45)) s m args below meth c H locs r0 wz (F0 m 0 ls []) := by
    intro H locs hP hS
    unfold fX3_readEither at hf
    have J123 : ∀ (x2 : Int32) (x3 : Int32) (w : xw_M) (hf : fX3_readEither_123 n F a1 x2 x3 w = some (r0, wz)) (H : Heap) (locs : List Loc) (ls : Array Slot) (hP : va_P (xw_D G) xw_cl (xw_W G w) H) (hS : va_S (xw_A G) s.heap H locs) (hl : lv_has ls 6 [(0, .ref (xw_ad G 49)), (2, .int x2), (3, .int x3)]), xw_Wi G p l e (xw_rm (fr + 2) (lo + 45)) s m args below meth c H locs r0 wz (F0 m 123 ls []) := by
      intro x2 x3 w hf H locs ls hP hS hl
      unfold fX3_readEither_123 at hf
      refine lv_iload_n hx hb dX3_readEither_123 rfl (lv_at hl 2 rfl) ?_
      refine lv_if_eq (tgt := 138) hx hb dX3_readEither_124 (by decide) (fun c29 => ?_) (fun c29 => ?_)
      · replace hf := xw_ip c29 hf
        refine lv_iload_n hx hb dX3_readEither_138 rfl (lv_at hl 1 rfl) ?_
        replace hf := xw_cc_e hf
        obtain ⟨hn, hf⟩ := hf
        obtain ⟨h0, h1⟩ := xw_s2 hf
        exact xw_zret hB hK hE hS hP hr hlk (xw_nar hn) h0 h1 dX3_readEither_139
      · replace hf := xw_in' c29 hf
        refine lv_aload_n hx hb dX3_readEither_127 rfl (lv_at hl 0 rfl) ?_
        refine xw_get hB hK hP (xw_o3 G) (C := RX3) (T := TX3) (N := 6) rfl TBi_X3 5 (by decide) tw_177 rfl rfl dX3_readEither_128 ?_
        replace hf := xw_cc_e hf
        obtain ⟨hp30, hf⟩ := hf
        refine lv_bipush (v := 8) hx hb dX3_readEither_131 (by decide) ?_
        refine lv_iconst (v := 0) hx hb dX3_readEither_133 (by decide) ?_
        refine lv_iconst (v := 0) hx hb dX3_readEither_134 (by decide) ?_
        replace hf := xw_b_e hf
        obtain ⟨r31, w32, he33, hf⟩ := hf
        refine xw_Vv hB hK hE hS hP (As := [.int (8 : Int32), .int (0 : Int32), .int (0 : Int32)]) (rest := []) (kX2_addStep l G hG ((w.1 49 5).toNatClampNeg) (8 : Int32) (0 : Int32) (0 : Int32) hp30 w _ _ he33) gs_X3_84 (xw_rc hK hP (C := RX2) (T := TX2) (N := 8) (xw_o2 G hp30) rfl) 3 hv_X2_addStep ⟨(by show 1 + 1 ≤ fr + 2; omega), (by show 8 + (4 + 11) + (22) ≤ lo + 45; omega)⟩ rfl hl.1 (Nat.le_of_ble_eq_true rfl) rfl dX3_readEither_135 ⟨Nat.zero_le _, Nat.zero_le _⟩ (fun H locs hP hS => ?_)
        refine lv_iload_n hx hb dX3_readEither_138 rfl (lv_at hl 1 rfl) ?_
        replace hf := xw_cc_e hf
        obtain ⟨hn, hf⟩ := hf
        obtain ⟨h0, h1⟩ := xw_s2 hf
        exact xw_zret hB hK hE hS hP hr hlk (xw_nar hn) h0 h1 dX3_readEither_139
    have J11 : ∀ (x2 : Int32) (x3 : Int32) (x4 : Int32) (w : xw_M) (hf : fX3_readEither_11 n F a1 x2 x3 x4 w = some (r0, wz)) (H : Heap) (locs : List Loc) (ls : Array Slot) (hP : va_P (xw_D G) xw_cl (xw_W G w) H) (hS : va_S (xw_A G) s.heap H locs) (hl : lv_has ls 6 [(0, .ref (xw_ad G 49)), (1, .int a1), (2, .int x2), (3, .int x3), (4, .int x4)]), xw_Wi G p l e (xw_rm (fr + 2) (lo + 45)) s m args below meth c H locs r0 wz (F0 m 11 ls []) := by
      intro x2 x3 x4 w hf H locs ls hP hS hl
      unfold fX3_readEither_11 at hf
      replace hf := xw_bp_e hf
      obtain ⟨bb11, hit11, hfx11⟩ := hf
      have XX11 : ∀ (x2 : Int32) (x3 : Int32) (w : xw_M) (hf : fX3_readEither_123 n F a1 x2 x3 w = some (r0, wz)) (H : Heap) (locs : List Loc) (ls : Array Slot) (hP : va_P (xw_D G) xw_cl (xw_W G w) H) (hS : va_S (xw_A G) s.heap H locs) (hl : lv_has ls 6 [(0, .ref (xw_ad G 49)), (2, .int x2), (3, .int x3)]), xw_Wi G p l e (xw_rm (fr + 2) (lo + 45)) s m args below meth c H locs r0 wz (F0 m 123 ls []) := by
        intro x2 x3 w hf H locs ls hP hS hl
        exact J123 x2 x3 w hf H locs ls hP hS (lv_sub hl [0, 1, 2] rfl)
      have LL11 : ∀ (nn : Nat) (x2 : Int32) (x3 : Int32) (x4 : Int32) (w : xw_M) (hit : xw_it (fun z => fX3_readEither_b11 n F a1 z.1 z.2.1 z.2.2.1 z.2.2.2) nn (x2, x3, x4, w) = some bb11) (H : Heap) (locs : List Loc) (ls : Array Slot) (hP : va_P (xw_D G) xw_cl (xw_W G w) H) (hS : va_S (xw_A G) s.heap H locs) (hl : lv_has ls 6 [(0, .ref (xw_ad G 49)), (1, .int a1), (2, .int x2), (3, .int x3), (4, .int x4)]), xw_Wi G p l e (xw_rm (fr + 2) (lo + 45)) s m args below meth c H locs r0 wz (F0 m 11 ls []) := by
        intro nn
        induction nn with
        | zero => intro x2 x3 x4 w hit; exact (xw_it_0 hit).elim
        | succ nn ih11 =>
          intro x2 x3 x4 w hit H locs ls hP hS hl
          replace hit := xw_it_e hit
          obtain ⟨wv11, hf, hC11, hX11⟩ := hit
          replace hf : fX3_readEither_b11 n F a1 x2 x3 x4 w = some wv11 := hf
          unfold fX3_readEither_b11 at hf
          have J117 : ∀ (x2 : Int32) (x3 : Int32) (x4 : Int32) (w : xw_M) (hf : fX3_readEither_117 n F a1 x2 x3 x4 w = some wv11) (H : Heap) (locs : List Loc) (ls : Array Slot) (hP : va_P (xw_D G) xw_cl (xw_W G w) H) (hS : va_S (xw_A G) s.heap H locs) (hl : lv_has ls 6 [(0, .ref (xw_ad G 49)), (1, .int a1), (2, .int x2), (3, .int x3), (4, .int x4)]), xw_Wi G p l e (xw_rm (fr + 2) (lo + 45)) s m args below meth c H locs r0 wz (F0 m 117 ls []) := by
            intro x2 x3 x4 w hf H locs ls hP hS hl
            unfold fX3_readEither_117 at hf
            obtain ⟨x4_28, ex4_28⟩ : ∃ y : Int32, y = x4 + 1 := ⟨_, rfl⟩
            replace hf := xw_lt_e ex4_28 hf
            refine lv_iinc (v := x4_28) (lv' := [(4, .int x4_28), (0, .ref (xw_ad G 49)), (1, .int a1), (2, .int x2), (3, .int x3)]) hx hb dX3_readEither_117 hl (k := 4) rfl (by rw [ex4_28]; rfl) (by decide) rfl (fun ls hl => ?_)
            refine lv_goto (tgt := 11) hx hb dX3_readEither_120 (by decide) ?_
            have hi := hC11 _ (xw_so hf).symm
            exact ih11 x2 x3 x4_28 w hi H locs ls hP hS (lv_sub hl [1, 2, 3, 4, 0] rfl)
          have J90 : ∀ (x4 : Int32) (x5 : Int32) (v0 : Int32) (w : xw_M) (hf : fX3_readEither_90 n F a1 x4 x5 v0 w = some wv11) (H : Heap) (locs : List Loc) (ls : Array Slot) (hP : va_P (xw_D G) xw_cl (xw_W G w) H) (hS : va_S (xw_A G) s.heap H locs) (hl : lv_has ls 6 [(0, .ref (xw_ad G 49)), (1, .int a1), (4, .int x4), (5, .int x5)]), xw_Wi G p l e (xw_rm (fr + 2) (lo + 45)) s m args below meth c H locs r0 wz (F0 m 90 ls [.int v0]) := by
            intro x4 x5 v0 w hf H locs ls hP hS hl
            unfold fX3_readEither_90 at hf
            refine lv_istore_n (lv' := [(3, .int v0), (0, .ref (xw_ad G 49)), (1, .int a1), (4, .int x4), (5, .int x5)]) hx hb dX3_readEither_90 rfl hl (by decide) rfl (fun ls hl => ?_)
            refine lv_aload_n hx hb dX3_readEither_91 rfl (lv_at hl 1 rfl) ?_
            replace hf := xw_b_e hf
            obtain ⟨r17, w18, he19, hf⟩ := hf
            refine xw_Vv hB hK hE hS hP (As := []) (rest := []) (kX3_advance l G hG w _ _ he19) gs_X3_35 (xw_rc hK hP (C := RX3) (T := TX3) (N := 6) (xw_o3 G) rfl) 0 hv_X3_advance ⟨(by show 0 + 1 ≤ fr + 2; omega), (by show 8 + (1 + 11) + (0) ≤ lo + 45; omega)⟩ rfl hl.1 (Nat.le_of_ble_eq_true rfl) rfl dX3_readEither_92 ⟨Nat.zero_le _, Nat.zero_le _⟩ (fun H locs hP hS => ?_)
            refine lv_aload_n hx hb dX3_readEither_95 rfl (lv_at hl 1 rfl) ?_
            refine lv_iload_n hx hb dX3_readEither_96 rfl (lv_at hl 2 rfl) ?_
            replace hf := xw_b_e hf
            obtain ⟨r20, w21, he22, hf⟩ := hf
            refine xw_Vi hB hK hE hS hP (As := [.int a1]) (rest := []) (hF a1 w18 _ _ he22) gs_X3_81 (xw_rc hK hP (C := RX3) (T := TX3) (N := 6) (xw_o3 G) rfl) 1 hv_X3_readPart ⟨(by show fr + 1 ≤ fr + 2; omega), (by show 8 + (4 + 11) + (lo) ≤ lo + 45; omega)⟩ rfl hl.1 (Nat.le_of_ble_eq_true rfl) rfl dX3_readEither_97 ⟨Nat.zero_le _, Nat.zero_le _⟩ (fun H locs hP hS => ?_)
            refine lv_istore_n (lv' := [(2, .int r20), (3, .int v0), (0, .ref (xw_ad G 49)), (1, .int a1), (4, .int x4), (5, .int x5)]) hx hb dX3_readEither_100 rfl hl (by decide) rfl (fun ls hl => ?_)
            refine lv_iload hx hb dX3_readEither_101 (lv_at hl 5 rfl) ?_
            refine lv_if_ne (tgt := 117) hx hb dX3_readEither_103 (by decide) (fun c23 => ?_) (fun c23 => ?_)
            · replace hf := xw_in' c23 hf
              exact J117 r20 v0 x4 w21 hf H locs ls hP hS (lv_sub hl [2, 3, 0, 1, 4] rfl)
            · replace hf := xw_ip c23 hf
              refine lv_aload_n hx hb dX3_readEither_106 rfl (lv_at hl 2 rfl) ?_
              refine xw_get hB hK hP (xw_o3 G) (C := RX3) (T := TX3) (N := 6) rfl TBi_X3 5 (by decide) tw_177 rfl rfl dX3_readEither_107 ?_
              replace hf := xw_cc_e hf
              obtain ⟨hp24, hf⟩ := hf
              refine lv_bipush (v := 7) hx hb dX3_readEither_110 (by decide) ?_
              refine lv_iconst (v := 0) hx hb dX3_readEither_112 (by decide) ?_
              refine lv_iconst (v := 0) hx hb dX3_readEither_113 (by decide) ?_
              replace hf := xw_b_e hf
              obtain ⟨r25, w26, he27, hf⟩ := hf
              refine xw_Vv hB hK hE hS hP (As := [.int (7 : Int32), .int (0 : Int32), .int (0 : Int32)]) (rest := []) (kX2_addStep l G hG ((w21.1 49 5).toNatClampNeg) (7 : Int32) (0 : Int32) (0 : Int32) hp24 w21 _ _ he27) gs_X3_84 (xw_rc hK hP (C := RX2) (T := TX2) (N := 8) (xw_o2 G hp24) rfl) 3 hv_X2_addStep ⟨(by show 1 + 1 ≤ fr + 2; omega), (by show 8 + (4 + 11) + (22) ≤ lo + 45; omega)⟩ rfl hl.1 (Nat.le_of_ble_eq_true rfl) rfl dX3_readEither_114 ⟨Nat.zero_le _, Nat.zero_le _⟩ (fun H locs hP hS => ?_)
              exact J117 r20 v0 x4 w26 hf H locs ls hP hS (lv_sub hl [2, 3, 0, 1, 4] rfl)
          have J85 : ∀ (x4 : Int32) (x5 : Int32) (w : xw_M) (hf : fX3_readEither_85 n F a1 x4 x5 w = some wv11) (H : Heap) (locs : List Loc) (ls : Array Slot) (hP : va_P (xw_D G) xw_cl (xw_W G w) H) (hS : va_S (xw_A G) s.heap H locs) (hl : lv_has ls 6 [(0, .ref (xw_ad G 49)), (1, .int a1), (4, .int x4), (5, .int x5)]), xw_Wi G p l e (xw_rm (fr + 2) (lo + 45)) s m args below meth c H locs r0 wz (F0 m 85 ls []) := by
            intro x4 x5 w hf H locs ls hP hS hl
            unfold fX3_readEither_85 at hf
            refine lv_iconst (v := 1) hx hb dX3_readEither_85 (by decide) ?_
            refine lv_goto (tgt := 90) hx hb dX3_readEither_86 (by decide) ?_
            exact J90 x4 x5 (1 : Int32) w hf H locs ls hP hS (lv_sub hl [0, 1, 2, 3] rfl)
          have J76 : ∀ (x3 : Int32) (x4 : Int32) (x5 : Int32) (w : xw_M) (hf : fX3_readEither_76 n F a1 x3 x4 x5 w = some wv11) (H : Heap) (locs : List Loc) (ls : Array Slot) (hP : va_P (xw_D G) xw_cl (xw_W G w) H) (hS : va_S (xw_A G) s.heap H locs) (hl : lv_has ls 6 [(0, .ref (xw_ad G 49)), (1, .int a1), (3, .int x3), (4, .int x4), (5, .int x5)]), xw_Wi G p l e (xw_rm (fr + 2) (lo + 45)) s m args below meth c H locs r0 wz (F0 m 76 ls []) := by
            intro x3 x4 x5 w hf H locs ls hP hS hl
            unfold fX3_readEither_76 at hf
            refine lv_iload_n hx hb dX3_readEither_76 rfl (lv_at hl 2 rfl) ?_
            refine lv_if_ne (tgt := 85) hx hb dX3_readEither_77 (by decide) (fun c15 => ?_) (fun c15 => ?_)
            · replace hf := xw_in' c15 hf
              exact J85 x4 x5 w hf H locs ls hP hS (lv_sub hl [0, 1, 3, 4] rfl)
            · replace hf := xw_ip c15 hf
              refine lv_iload hx hb dX3_readEither_80 (lv_at hl 4 rfl) ?_
              refine lv_if_eq (tgt := 89) hx hb dX3_readEither_82 (by decide) (fun c16 => ?_) (fun c16 => ?_)
              · replace hf := xw_ip c16 hf
                refine lv_iconst (v := 0) hx hb dX3_readEither_89 (by decide) ?_
                exact J90 x4 x5 (0 : Int32) w hf H locs ls hP hS (lv_sub hl [0, 1, 3, 4] rfl)
              · replace hf := xw_in' c16 hf
                exact J85 x4 x5 w hf H locs ls hP hS (lv_sub hl [0, 1, 3, 4] rfl)
          have J54 : ∀ (x3 : Int32) (x4 : Int32) (v0 : Int32) (w : xw_M) (hf : fX3_readEither_54 n F a1 x3 x4 v0 w = some wv11) (H : Heap) (locs : List Loc) (ls : Array Slot) (hP : va_P (xw_D G) xw_cl (xw_W G w) H) (hS : va_S (xw_A G) s.heap H locs) (hl : lv_has ls 6 [(0, .ref (xw_ad G 49)), (1, .int a1), (3, .int x3), (4, .int x4)]), xw_Wi G p l e (xw_rm (fr + 2) (lo + 45)) s m args below meth c H locs r0 wz (F0 m 54 ls [.int v0]) := by
            intro x3 x4 v0 w hf H locs ls hP hS hl
            unfold fX3_readEither_54 at hf
            refine lv_istore (lv' := [(5, .int v0), (0, .ref (xw_ad G 49)), (1, .int a1), (3, .int x3), (4, .int x4)]) hx hb dX3_readEither_54 hl (by decide) rfl (fun ls hl => ?_)
            refine lv_iload hx hb dX3_readEither_56 (lv_at hl 0 rfl) ?_
            refine lv_if_eq (tgt := 76) hx hb dX3_readEither_58 (by decide) (fun c9 => ?_) (fun c9 => ?_)
            · replace hf := xw_ip c9 hf
              exact J76 x3 x4 v0 w hf H locs ls hP hS (lv_sub hl [1, 2, 3, 4, 0] rfl)
            · replace hf := xw_in' c9 hf
              refine lv_iload_n hx hb dX3_readEither_61 rfl (lv_at hl 3 rfl) ?_
              refine lv_if_eq (tgt := 76) hx hb dX3_readEither_62 (by decide) (fun c10 => ?_) (fun c10 => ?_)
              · replace hf := xw_ip c10 hf
                exact J76 x3 x4 v0 w hf H locs ls hP hS (lv_sub hl [1, 2, 3, 4, 0] rfl)
              · replace hf := xw_in' c10 hf
                refine lv_aload_n hx hb dX3_readEither_65 rfl (lv_at hl 1 rfl) ?_
                refine xw_get hB hK hP (xw_o3 G) (C := RX3) (T := TX3) (N := 6) rfl TBi_X3 5 (by decide) tw_177 rfl rfl dX3_readEither_66 ?_
                replace hf := xw_cc_e hf
                obtain ⟨hp11, hf⟩ := hf
                refine lv_bipush (v := 8) hx hb dX3_readEither_69 (by decide) ?_
                refine lv_iconst (v := 0) hx hb dX3_readEither_71 (by decide) ?_
                refine lv_iconst (v := 0) hx hb dX3_readEither_72 (by decide) ?_
                replace hf := xw_b_e hf
                obtain ⟨r12, w13, he14, hf⟩ := hf
                refine xw_Vv hB hK hE hS hP (As := [.int (8 : Int32), .int (0 : Int32), .int (0 : Int32)]) (rest := []) (kX2_addStep l G hG ((w.1 49 5).toNatClampNeg) (8 : Int32) (0 : Int32) (0 : Int32) hp11 w _ _ he14) gs_X3_84 (xw_rc hK hP (C := RX2) (T := TX2) (N := 8) (xw_o2 G hp11) rfl) 3 hv_X2_addStep ⟨(by show 1 + 1 ≤ fr + 2; omega), (by show 8 + (4 + 11) + (22) ≤ lo + 45; omega)⟩ rfl hl.1 (Nat.le_of_ble_eq_true rfl) rfl dX3_readEither_73 ⟨Nat.zero_le _, Nat.zero_le _⟩ (fun H locs hP hS => ?_)
                exact J76 x3 x4 v0 w13 hf H locs ls hP hS (lv_sub hl [1, 2, 3, 4, 0] rfl)
          have J40 : ∀ (x3 : Int32) (x4 : Int32) (w : xw_M) (hf : fX3_readEither_40 n F a1 x3 x4 w = some wv11) (H : Heap) (locs : List Loc) (ls : Array Slot) (hP : va_P (xw_D G) xw_cl (xw_W G w) H) (hS : va_S (xw_A G) s.heap H locs) (hl : lv_has ls 6 [(0, .ref (xw_ad G 49)), (1, .int a1), (3, .int x3), (4, .int x4)]), xw_Wi G p l e (xw_rm (fr + 2) (lo + 45)) s m args below meth c H locs r0 wz (F0 m 40 ls []) := by
            intro x3 x4 w hf H locs ls hP hS hl
            unfold fX3_readEither_40 at hf
            refine lv_aload_n hx hb dX3_readEither_40 rfl (lv_at hl 0 rfl) ?_
            refine xw_get hB hK hP (xw_o3 G) (C := RX3) (T := TX3) (N := 6) rfl TBi_X3 3 (by decide) tw_175 rfl rfl dX3_readEither_41 ?_
            refine lv_bipush (v := 124) hx hb dX3_readEither_44 (by decide) ?_
            refine lv_icmp_ne (tgt := 53) hx hb dX3_readEither_46 (by decide) (fun c8 => ?_) (fun c8 => ?_)
            · replace hf := xw_in' c8 hf
              refine lv_iconst (v := 0) hx hb dX3_readEither_53 (by decide) ?_
              exact J54 x3 x4 (0 : Int32) w hf H locs ls hP hS (lv_sub hl [0, 1, 2, 3] rfl)
            · replace hf := xw_ip c8 hf
              refine lv_iconst (v := 1) hx hb dX3_readEither_49 (by decide) ?_
              refine lv_goto (tgt := 54) hx hb dX3_readEither_50 (by decide) ?_
              exact J54 x3 x4 (1 : Int32) w hf H locs ls hP hS (lv_sub hl [0, 1, 2, 3] rfl)
          refine lv_iload hx hb dX3_readEither_11 (lv_at hl 4 rfl) ?_
          refine lv_bipush (v := 100) hx hb dX3_readEither_13 (by decide) ?_
          refine lv_icmp_ge (tgt := 123) hx hb dX3_readEither_15 (by decide) (fun c4 => ?_) (fun c4 => ?_)
          · replace hf := xw_ip c4 hf
            have he11 := hX11 _ (xw_so hf).symm
            rw [← he11] at hfx11
            exact XX11 x2 x3 w hfx11 H locs ls hP hS (lv_sub hl [0, 2, 3] rfl)
          · replace hf := xw_in' c4 hf
            refine lv_iload_n hx hb dX3_readEither_18 rfl (lv_at hl 2 rfl) ?_
            refine lv_if_eq (tgt := 123) hx hb dX3_readEither_19 (by decide) (fun c5 => ?_) (fun c5 => ?_)
            · replace hf := xw_ip c5 hf
              have he11 := hX11 _ (xw_so hf).symm
              rw [← he11] at hfx11
              exact XX11 x2 x3 w hfx11 H locs ls hP hS (lv_sub hl [0, 2, 3] rfl)
            · replace hf := xw_in' c5 hf
              refine lv_aload_n hx hb dX3_readEither_22 rfl (lv_at hl 0 rfl) ?_
              refine xw_get hB hK hP (xw_o3 G) (C := RX3) (T := TX3) (N := 6) rfl TBi_X3 3 (by decide) tw_175 rfl rfl dX3_readEither_23 ?_
              refine lv_bipush (v := 38) hx hb dX3_readEither_26 (by decide) ?_
              refine lv_icmp_eq (tgt := 40) hx hb dX3_readEither_28 (by decide) (fun c6 => ?_) (fun c6 => ?_)
              · replace hf := xw_ip c6 hf
                exact J40 x3 x4 w hf H locs ls hP hS (lv_sub hl [0, 1, 3, 4] rfl)
              · replace hf := xw_in' c6 hf
                refine lv_aload_n hx hb dX3_readEither_31 rfl (lv_at hl 0 rfl) ?_
                refine xw_get hB hK hP (xw_o3 G) (C := RX3) (T := TX3) (N := 6) rfl TBi_X3 3 (by decide) tw_175 rfl rfl dX3_readEither_32 ?_
                refine lv_bipush (v := 124) hx hb dX3_readEither_35 (by decide) ?_
                refine lv_icmp_ne (tgt := 123) hx hb dX3_readEither_37 (by decide) (fun c7 => ?_) (fun c7 => ?_)
                · replace hf := xw_in' c7 hf
                  have he11 := hX11 _ (xw_so hf).symm
                  rw [← he11] at hfx11
                  exact XX11 x2 x3 w hfx11 H locs ls hP hS (lv_sub hl [0, 2, 3] rfl)
                · replace hf := xw_ip c7 hf
                  exact J40 x3 x4 w hf H locs ls hP hS (lv_sub hl [0, 1, 3, 4] rfl)
      exact LL11 n x2 x3 x4 w hit11 H locs ls hP hS hl
    refine lv_aload_n hx hb dX3_readEither_0 rfl (lv_at hl 0 rfl) ?_
    refine lv_iload_n hx hb dX3_readEither_1 rfl (lv_at hl 1 rfl) ?_
    replace hf := xw_b_e hf
    obtain ⟨r1, w2, he3, hf⟩ := hf
    refine xw_Vi hB hK hE hS hP (As := [.int a1]) (rest := []) (hF a1 w0 _ _ he3) gs_X3_81 (xw_rc hK hP (C := RX3) (T := TX3) (N := 6) (xw_o3 G) rfl) 1 hv_X3_readPart ⟨(by show fr + 1 ≤ fr + 2; omega), (by show 8 + (4 + 11) + (lo) ≤ lo + 45; omega)⟩ rfl hl.1 (Nat.le_of_ble_eq_true rfl) rfl dX3_readEither_2 ⟨Nat.zero_le _, Nat.zero_le _⟩ (fun H locs hP hS => ?_)
    refine lv_istore_n (lv' := [(2, .int r1), (0, .ref (xw_ad G 49)), (1, .int a1)]) hx hb dX3_readEither_5 rfl hl (by decide) rfl (fun ls hl => ?_)
    refine lv_iconst (v := 0) hx hb dX3_readEither_6 (by decide) ?_
    refine lv_istore_n (lv' := [(3, .int (0 : Int32)), (2, .int r1), (0, .ref (xw_ad G 49)), (1, .int a1)]) hx hb dX3_readEither_7 rfl hl (by decide) rfl (fun ls hl => ?_)
    refine lv_iconst (v := 0) hx hb dX3_readEither_8 (by decide) ?_
    refine lv_istore (lv' := [(4, .int (0 : Int32)), (3, .int (0 : Int32)), (2, .int r1), (0, .ref (xw_ad G 49)), (1, .int a1)]) hx hb dX3_readEither_9 hl (by decide) rfl (fun ls hl => ?_)
    exact J11 r1 (0 : Int32) (0 : Int32) w2 hf H locs ls hP hS (lv_sub hl [3, 4, 2, 1, 0] rfl)
  exact HH s.heap [] hP hS
def fX3_readPart_s_44 (n : Nat) (F : Int32 → xw_M → Option (Int32 × xw_M)) (a1 : Int32) (v0 : Int32) (w : xw_M) : Option (Int32 × xw_M) := xw_b (fX3_advance w) (fun (_ : Unit) w9 => if v0 = 0 then xw_b (fX3_readEither n F (a1 + (1 : Int32)) w9) (fun r12 w13 => if r12 = 0 then some ((0 : Int32), w13) else xw_b (fX3_readWord n 4 w13) (fun r16 w17 => if r16 = 0 then some ((0 : Int32), w17) else some ((1 : Int32), w17))) else xw_b (F (a1 + (1 : Int32)) w9) (fun r20 w21 => xw_cc (xw_pa (w21.1 49 5).toNatClampNeg) (xw_b (fX2_addStep ((w21.1 49 5).toNatClampNeg) (6 : Int32) (0 : Int32) (0 : Int32) w21) (fun (_ : Unit) w25 => xw_cc (r20 = 0 ∨ r20 = 1) (some (r20, w25))))))
def fX3_readPart_s_23 (n : Nat) (F : Int32 → xw_M → Option (Int32 × xw_M)) (a1 : Int32) (w : xw_M) : Option (Int32 × xw_M) := if a1 < (4 : Int32) then if (w.1 49 3) = (33 : Int32) then fX3_readPart_s_44 n F a1 (1 : Int32) w else fX3_readPart_s_44 n F a1 (0 : Int32) w else some ((0 : Int32), w)
def fX3_readPart_s (n : Nat) (F : Int32 → xw_M → Option (Int32 × xw_M)) (a1 : Int32) (w0 : xw_M) : Option (Int32 × xw_M) := if (w0.1 49 3) = (33 : Int32) then fX3_readPart_s_23 n F a1 w0 else if (w0.1 49 3) = (40 : Int32) then fX3_readPart_s_23 n F a1 w0 else xw_b (fX3_readTest w0) (fun r3 w4 => xw_cc (r3 = 0 ∨ r3 = 1) (some (r3, w4)))
set_option maxHeartbeats 4000000 in
set_option maxRecDepth 100000 in
theorem kX3_readPart_s (l : Launch) (G : xw_G) (hG : xw_ok G) (n : Nat) (F : Int32 → xw_M → Option (Int32 × xw_M)) (a1 : Int32) (fr lo : Nat) (hF : ∀ (a1 : Int32) (w : xw_M) (r : Int32) (w' : xw_M), F a1 w = some (r, w') → xw_Ti l G yX3_readPart cX3_readPart 4 ((Option.some Jvm.ClassFile.FieldType.boolean)) fr lo [.ref (xw_ad G 49), .int a1] w r w') (w0 : xw_M) (r0 : Int32) (wz : xw_M) (hf : fX3_readPart_s n F a1 w0 = some (r0, wz)) : xw_Ti l G yX3_readPart cX3_readPart 4 ((Option.some Jvm.ClassFile.FieldType.boolean)) (fr + 5) (lo + 107) [.ref (xw_ad G 49), .int a1] w0 r0 wz := by
  unfold xw_Ti
  refine Met.ofW (cc := cX3_readPart) (maxL := 4) (ret := (Option.some Jvm.ClassFile.FieldType.boolean)) (by decide) rfl ?_
  intro p e s m args below meth c s₁ B hml hv
  obtain ⟨hargs, hP, hK, hE⟩ := hv
  have hx := B.exec
  have hb := B.bytes
  have hr := B.returns
  have hlk := B.notSynchronized
  have hB : CallFix p m c cX3_readPart 4 s args TB RX3 := ⟨hx, hb, hml, findClass_of_methodNamed B.named, fun q h => (atoms_spec (ws := Cond.code yX3_readPart cX3_readPart 4 ((Option.some Jvm.ClassFile.FieldType.boolean)) :: TB) B.pre) q (List.mem_cons_of_mem _ h)⟩
  have hS : va_S (xw_A G) s.heap s.heap [] := va_S.rf
  have hl := lv_entry [.ref (xw_ad G 49), .int a1] (n := 4) (Nat.le_of_ble_eq_true rfl)
  rw [show entryFrame m args 4 = entryFrame m ([.ref (xw_ad G 49), .int a1] : List Value).toArray 4 from by rw [hargs], lg_entry_eq]
  generalize (lg_sl [.ref (xw_ad G 49), .int a1] ++ List.replicate (4 - (lg_sl [.ref (xw_ad G 49), .int a1]).length) Slot.unset).toArray = ls at hl ⊢
  have hP : va_P (xw_D G) xw_cl (xw_W G w0) s.heap := hP
  have hl : lv_has ls 4 [(0, .ref (xw_ad G 49)), (1, .int a1)] := hl
  have HH : ∀ (H : Heap) (locs : List Loc) (hP : va_P (xw_D G) xw_cl (xw_W G w0) H) (hS : va_S (xw_A G) s.heap H locs), xw_Wi G p l e (xw_rm (fr + 5) (lo + 107)) s m args below meth c H locs r0 wz (F0 m 0 ls []) := by
    intro H locs hP hS
    unfold fX3_readPart_s at hf
    have J44 : ∀ (v0 : Int32) (w : xw_M) (hf : fX3_readPart_s_44 n F a1 v0 w = some (r0, wz)) (H : Heap) (locs : List Loc) (ls : Array Slot) (hP : va_P (xw_D G) xw_cl (xw_W G w) H) (hS : va_S (xw_A G) s.heap H locs) (hl : lv_has ls 4 [(0, .ref (xw_ad G 49)), (1, .int a1)]), xw_Wi G p l e (xw_rm (fr + 5) (lo + 107)) s m args below meth c H locs r0 wz (F0 m 44 ls [.int v0]) := by
      intro v0 w hf H locs ls hP hS hl
      unfold fX3_readPart_s_44 at hf
      refine lv_istore_n (lv' := [(2, .int v0), (0, .ref (xw_ad G 49)), (1, .int a1)]) hx hb dX3_readPart_44 rfl hl (by decide) rfl (fun ls hl => ?_)
      refine lv_aload_n hx hb dX3_readPart_45 rfl (lv_at hl 1 rfl) ?_
      replace hf := xw_b_e hf
      obtain ⟨r8, w9, he10, hf⟩ := hf
      refine xw_Vv hB hK hE hS hP (As := []) (rest := []) (kX3_advance l G hG w _ _ he10) gs_X3_35 (xw_rc hK hP (C := RX3) (T := TX3) (N := 6) (xw_o3 G) rfl) 0 hv_X3_advance ⟨(by show 0 + 1 ≤ fr + 5; omega), (by show 8 + (1 + 11) + (0) ≤ lo + 107; omega)⟩ rfl hl.1 (Nat.le_of_ble_eq_true rfl) rfl dX3_readPart_46 ⟨Nat.zero_le _, Nat.zero_le _⟩ (fun H locs hP hS => ?_)
      refine lv_iload_n hx hb dX3_readPart_49 rfl (lv_at hl 0 rfl) ?_
      refine lv_if_eq (tgt := 74) hx hb dX3_readPart_50 (by decide) (fun c11 => ?_) (fun c11 => ?_)
      · replace hf := xw_ip c11 hf
        refine lv_aload_n hx hb dX3_readPart_74 rfl (lv_at hl 1 rfl) ?_
        refine lv_iload_n hx hb dX3_readPart_75 rfl (lv_at hl 2 rfl) ?_
        refine lv_iconst (v := 1) hx hb dX3_readPart_76 (by decide) ?_
        refine lv_iadd hx hb dX3_readPart_77 ?_
        replace hf := xw_b_e hf
        obtain ⟨r12, w13, he14, hf⟩ := hf
        refine xw_Vi hB hK hE hS hP (As := [.int (a1 + (1 : Int32))]) (rest := []) (kX3_readEither l G hG n F (a1 + (1 : Int32)) fr lo hF w9 _ _ he14) gs_X3_63 (xw_rc hK hP (C := RX3) (T := TX3) (N := 6) (xw_o3 G) rfl) 1 hv_X3_readEither ⟨(by show fr + 2 + 1 ≤ fr + 5; omega), (by show 8 + (6 + 11) + (lo + 45) ≤ lo + 107; omega)⟩ rfl hl.1 (Nat.le_of_ble_eq_true rfl) rfl dX3_readPart_78 ⟨Nat.zero_le _, Nat.zero_le _⟩ (fun H locs hP hS => ?_)
        refine lv_if_eq (tgt := 97) hx hb dX3_readPart_81 (by decide) (fun c15 => ?_) (fun c15 => ?_)
        · replace hf := xw_ip c15 hf
          refine lv_iconst (v := 0) hx hb dX3_readPart_97 (by decide) ?_
          obtain ⟨h0, h1⟩ := xw_s2 hf
          exact xw_zret hB hK hE hS hP hr hlk rfl h0 h1 dX3_readPart_98
        · replace hf := xw_in' c15 hf
          refine lv_aload_n hx hb dX3_readPart_84 rfl (lv_at hl 1 rfl) ?_
          refine va_ldcS hx hb hB.2.2.2.1 (hE.1.2.2.2.2.2) dX3_readPart_85 ?_
          replace hf := xw_b_e hf
          obtain ⟨r16, w17, he18, hf⟩ := hf
          refine xw_Vi hB hK hE hS hP (As := [.ref (xw_sa G (10 + 4))]) (rest := []) (kX3_readWord l G hG n 4 (by decide) w13 _ _ he18) gs_X3_48 (xw_rc hK hP (C := RX3) (T := TX3) (N := 6) (xw_o3 G) rfl) 1 hv_X3_readWord ⟨(by show 4 + 1 ≤ fr + 5; omega), (by show 8 + (3 + 11) + (85) ≤ lo + 107; omega)⟩ rfl hl.1 (Nat.le_of_ble_eq_true rfl) rfl dX3_readPart_87 ⟨Nat.zero_le _, Nat.zero_le _⟩ (fun H locs hP hS => ?_)
          refine lv_if_eq (tgt := 97) hx hb dX3_readPart_90 (by decide) (fun c19 => ?_) (fun c19 => ?_)
          · replace hf := xw_ip c19 hf
            refine lv_iconst (v := 0) hx hb dX3_readPart_97 (by decide) ?_
            obtain ⟨h0, h1⟩ := xw_s2 hf
            exact xw_zret hB hK hE hS hP hr hlk rfl h0 h1 dX3_readPart_98
          · replace hf := xw_in' c19 hf
            refine lv_iconst (v := 1) hx hb dX3_readPart_93 (by decide) ?_
            refine lv_goto (tgt := 98) hx hb dX3_readPart_94 (by decide) ?_
            obtain ⟨h0, h1⟩ := xw_s2 hf
            exact xw_zret hB hK hE hS hP hr hlk rfl h0 h1 dX3_readPart_98
      · replace hf := xw_in' c11 hf
        refine lv_aload_n hx hb dX3_readPart_53 rfl (lv_at hl 1 rfl) ?_
        refine lv_iload_n hx hb dX3_readPart_54 rfl (lv_at hl 2 rfl) ?_
        refine lv_iconst (v := 1) hx hb dX3_readPart_55 (by decide) ?_
        refine lv_iadd hx hb dX3_readPart_56 ?_
        replace hf := xw_b_e hf
        obtain ⟨r20, w21, he22, hf⟩ := hf
        refine xw_Vi hB hK hE hS hP (As := [.int (a1 + (1 : Int32))]) (rest := []) (hF (a1 + (1 : Int32)) w9 _ _ he22) gs_X3_81 (xw_rc hK hP (C := RX3) (T := TX3) (N := 6) (xw_o3 G) rfl) 1 hv_X3_readPart ⟨(by show fr + 1 ≤ fr + 5; omega), (by show 8 + (4 + 11) + (lo) ≤ lo + 107; omega)⟩ rfl hl.1 (Nat.le_of_ble_eq_true rfl) rfl dX3_readPart_57 ⟨Nat.zero_le _, Nat.zero_le _⟩ (fun H locs hP hS => ?_)
        refine lv_istore_n (lv' := [(3, .int r20), (2, .int v0), (0, .ref (xw_ad G 49)), (1, .int a1)]) hx hb dX3_readPart_60 rfl hl (by decide) rfl (fun ls hl => ?_)
        refine lv_aload_n hx hb dX3_readPart_61 rfl (lv_at hl 2 rfl) ?_
        refine xw_get hB hK hP (xw_o3 G) (C := RX3) (T := TX3) (N := 6) rfl TBi_X3 5 (by decide) tw_177 rfl rfl dX3_readPart_62 ?_
        replace hf := xw_cc_e hf
        obtain ⟨hp23, hf⟩ := hf
        refine lv_bipush (v := 6) hx hb dX3_readPart_65 (by decide) ?_
        refine lv_iconst (v := 0) hx hb dX3_readPart_67 (by decide) ?_
        refine lv_iconst (v := 0) hx hb dX3_readPart_68 (by decide) ?_
        replace hf := xw_b_e hf
        obtain ⟨r24, w25, he26, hf⟩ := hf
        refine xw_Vv hB hK hE hS hP (As := [.int (6 : Int32), .int (0 : Int32), .int (0 : Int32)]) (rest := []) (kX2_addStep l G hG ((w21.1 49 5).toNatClampNeg) (6 : Int32) (0 : Int32) (0 : Int32) hp23 w21 _ _ he26) gs_X3_84 (xw_rc hK hP (C := RX2) (T := TX2) (N := 8) (xw_o2 G hp23) rfl) 3 hv_X2_addStep ⟨(by show 1 + 1 ≤ fr + 5; omega), (by show 8 + (4 + 11) + (22) ≤ lo + 107; omega)⟩ rfl hl.1 (Nat.le_of_ble_eq_true rfl) rfl dX3_readPart_69 ⟨Nat.zero_le _, Nat.zero_le _⟩ (fun H locs hP hS => ?_)
        refine lv_iload_n hx hb dX3_readPart_72 rfl (lv_at hl 0 rfl) ?_
        replace hf := xw_cc_e hf
        obtain ⟨hn, hf⟩ := hf
        obtain ⟨h0, h1⟩ := xw_s2 hf
        exact xw_zret hB hK hE hS hP hr hlk (xw_nar hn) h0 h1 dX3_readPart_73
    have J23 : ∀ (w : xw_M) (hf : fX3_readPart_s_23 n F a1 w = some (r0, wz)) (H : Heap) (locs : List Loc) (ls : Array Slot) (hP : va_P (xw_D G) xw_cl (xw_W G w) H) (hS : va_S (xw_A G) s.heap H locs) (hl : lv_has ls 4 [(0, .ref (xw_ad G 49)), (1, .int a1)]), xw_Wi G p l e (xw_rm (fr + 5) (lo + 107)) s m args below meth c H locs r0 wz (F0 m 23 ls []) := by
      intro w hf H locs ls hP hS hl
      unfold fX3_readPart_s_23 at hf
      refine lv_iload_n hx hb dX3_readPart_23 rfl (lv_at hl 1 rfl) ?_
      refine lv_iconst (v := 4) hx hb dX3_readPart_24 (by decide) ?_
      refine lv_icmp_lt (tgt := 30) hx hb dX3_readPart_25 (by decide) (fun c6 => ?_) (fun c6 => ?_)
      · replace hf := xw_ip c6 hf
        refine lv_aload_n hx hb dX3_readPart_30 rfl (lv_at hl 0 rfl) ?_
        refine xw_get hB hK hP (xw_o3 G) (C := RX3) (T := TX3) (N := 6) rfl TBi_X3 3 (by decide) tw_175 rfl rfl dX3_readPart_31 ?_
        refine lv_bipush (v := 33) hx hb dX3_readPart_34 (by decide) ?_
        refine lv_icmp_ne (tgt := 43) hx hb dX3_readPart_36 (by decide) (fun c7 => ?_) (fun c7 => ?_)
        · replace hf := xw_in' c7 hf
          refine lv_iconst (v := 0) hx hb dX3_readPart_43 (by decide) ?_
          exact J44 (0 : Int32) w hf H locs ls hP hS (lv_sub hl [0, 1] rfl)
        · replace hf := xw_ip c7 hf
          refine lv_iconst (v := 1) hx hb dX3_readPart_39 (by decide) ?_
          refine lv_goto (tgt := 44) hx hb dX3_readPart_40 (by decide) ?_
          exact J44 (1 : Int32) w hf H locs ls hP hS (lv_sub hl [0, 1] rfl)
      · replace hf := xw_in' c6 hf
        refine lv_iconst (v := 0) hx hb dX3_readPart_28 (by decide) ?_
        obtain ⟨h0, h1⟩ := xw_s2 hf
        exact xw_zret hB hK hE hS hP hr hlk rfl h0 h1 dX3_readPart_29
    refine lv_aload_n hx hb dX3_readPart_0 rfl (lv_at hl 0 rfl) ?_
    refine xw_get hB hK hP (xw_o3 G) (C := RX3) (T := TX3) (N := 6) rfl TBi_X3 3 (by decide) tw_175 rfl rfl dX3_readPart_1 ?_
    refine lv_bipush (v := 33) hx hb dX3_readPart_4 (by decide) ?_
    refine lv_icmp_eq (tgt := 23) hx hb dX3_readPart_6 (by decide) (fun c1 => ?_) (fun c1 => ?_)
    · replace hf := xw_ip c1 hf
      exact J23 w0 hf H locs ls hP hS (lv_sub hl [0, 1] rfl)
    · replace hf := xw_in' c1 hf
      refine lv_aload_n hx hb dX3_readPart_9 rfl (lv_at hl 0 rfl) ?_
      refine xw_get hB hK hP (xw_o3 G) (C := RX3) (T := TX3) (N := 6) rfl TBi_X3 3 (by decide) tw_175 rfl rfl dX3_readPart_10 ?_
      refine lv_bipush (v := 40) hx hb dX3_readPart_13 (by decide) ?_
      refine lv_icmp_eq (tgt := 23) hx hb dX3_readPart_15 (by decide) (fun c2 => ?_) (fun c2 => ?_)
      · replace hf := xw_ip c2 hf
        exact J23 w0 hf H locs ls hP hS (lv_sub hl [0, 1] rfl)
      · replace hf := xw_in' c2 hf
        refine lv_aload_n hx hb dX3_readPart_18 rfl (lv_at hl 0 rfl) ?_
        replace hf := xw_b_e hf
        obtain ⟨r3, w4, he5, hf⟩ := hf
        refine xw_Vi hB hK hE hS hP (As := []) (rest := []) (kX3_readTest l G hG w0 _ _ he5) gs_X3_88 (xw_rc hK hP (C := RX3) (T := TX3) (N := 6) (xw_o3 G) rfl) 0 hv_X3_readTest ⟨(by show 2 + 1 ≤ fr + 5; omega), (by show 8 + (4 + 11) + (45) ≤ lo + 107; omega)⟩ rfl hl.1 (Nat.le_of_ble_eq_true rfl) rfl dX3_readPart_19 ⟨Nat.zero_le _, Nat.zero_le _⟩ (fun H locs hP hS => ?_)
        replace hf := xw_cc_e hf
        obtain ⟨hn, hf⟩ := hf
        obtain ⟨h0, h1⟩ := xw_s2 hf
        exact xw_zret hB hK hE hS hP hr hlk (xw_nar hn) h0 h1 dX3_readPart_22
  exact HH s.heap [] hP hS
def fX3_readPart (n : Nat) : Nat → Int32 → xw_M → Option (Int32 × xw_M)
  | 0 => fun _ _ => none
  | d + 1 => fun a1 w => fX3_readPart_s n (fX3_readPart n d) a1 w
theorem kX3_readPart (l : Launch) (G : xw_G) (hG : xw_ok G) (n : Nat) : ∀ (d : Nat) (a1 : Int32) (w : xw_M) (r : Int32) (w' : xw_M) (hf : fX3_readPart n d a1 w = some (r, w')), xw_Ti l G yX3_readPart cX3_readPart 4 ((Option.some Jvm.ClassFile.FieldType.boolean)) (5 * d) (107 * d) [.ref (xw_ad G 49), .int a1] w r w' := by
  intro d
  induction d with
  | zero => intro a1 w r w' hf; cases hf
  | succ d ih => intro a1 w r w' hf; exact kX3_readPart_s l G hG n (fX3_readPart n d) a1 (5 * d) (107 * d) ih w r w' hf
def fX2_endClause (b : Nat) (a1 : Int32) (w0 : xw_M) : Option (Unit × xw_M) := xw_b (fX7_put (b + 1) 10 (w0.1 b 1) a1 w0) (fun (_ : Unit) w2 => xw_b (fX7_put (b + 2) 10 (w2.1 b 1) (w2.1 b 4) w2) (fun (_ : Unit) w5 => xw_lt (xw_si w5 b 1 ((w5.1 b 1) + (1 : Int32))) (fun w7 => some ((), w7))))
set_option maxHeartbeats 4000000 in
set_option maxRecDepth 100000 in
theorem kX2_endClause (l : Launch) (G : xw_G) (hG : xw_ok G) (b : Nat) (a1 : Int32) (hb0 : xw_pa b) (w0 : xw_M) (r0 : Unit) (wz : xw_M) (hf : fX2_endClause b a1 w0 = some (r0, wz)) : xw_Tv l G yX2_endClause cX2_endClause 2 ((Option.none : Option Jvm.ClassFile.FieldType)) (1) (22) [.ref (xw_ad G b), .int a1] w0 r0 wz := by
  unfold xw_Tv
  refine Met.ofW (cc := cX2_endClause) (maxL := 2) (ret := (Option.none : Option Jvm.ClassFile.FieldType)) (by decide) rfl ?_
  intro p e s m args below meth c s₁ B hml hv
  obtain ⟨hargs, hP, hK, hE⟩ := hv
  have hx := B.exec
  have hb := B.bytes
  have hr := B.returns
  have hlk := B.notSynchronized
  have hB : CallFix p m c cX2_endClause 2 s args TB RX2 := ⟨hx, hb, hml, findClass_of_methodNamed B.named, fun q h => (atoms_spec (ws := Cond.code yX2_endClause cX2_endClause 2 ((Option.none : Option Jvm.ClassFile.FieldType)) :: TB) B.pre) q (List.mem_cons_of_mem _ h)⟩
  have hS : va_S (xw_A G) s.heap s.heap [] := va_S.rf
  have hl := lv_entry [.ref (xw_ad G b), .int a1] (n := 2) (Nat.le_of_ble_eq_true rfl)
  rw [show entryFrame m args 2 = entryFrame m ([.ref (xw_ad G b), .int a1] : List Value).toArray 2 from by rw [hargs], lg_entry_eq]
  generalize (lg_sl [.ref (xw_ad G b), .int a1] ++ List.replicate (2 - (lg_sl [.ref (xw_ad G b), .int a1]).length) Slot.unset).toArray = ls at hl ⊢
  have hP : va_P (xw_D G) xw_cl (xw_W G w0) s.heap := hP
  have hl : lv_has ls 2 [(0, .ref (xw_ad G b)), (1, .int a1)] := hl
  have HH : ∀ (H : Heap) (locs : List Loc) (hP : va_P (xw_D G) xw_cl (xw_W G w0) H) (hS : va_S (xw_A G) s.heap H locs), xw_Wv G p l e (xw_rm (1) (22)) s m args below meth c H locs r0 wz (F0 m 0 ls []) := by
    intro H locs hP hS
    unfold fX2_endClause at hf
    refine lv_aload_n hx hb dX2_endClause_0 rfl (lv_at hl 0 rfl) ?_
    refine xw_get hB hK hP (xw_o2 G hb0) (C := RX2) (T := TX2) (N := 8) rfl TBi_X2 2 (by decide) tw_146 rfl rfl dX2_endClause_1 ?_
    refine lv_aload_n hx hb dX2_endClause_4 rfl (lv_at hl 0 rfl) ?_
    refine xw_get hB hK hP (xw_o2 G hb0) (C := RX2) (T := TX2) (N := 8) rfl TBi_X2 1 (by decide) tw_145 rfl rfl dX2_endClause_5 ?_
    refine lv_iload_n hx hb dX2_endClause_8 rfl (lv_at hl 1 rfl) ?_
    replace hf := xw_b_e hf
    obtain ⟨r1, w2, he3, hf⟩ := hf
    refine xw_Nv hB hK hE hS hP (As := [.ref (xw_ad G (b + 1)), .int (w0.1 b 1), .int a1]) (rest := []) (kX7_put l G hG (b + 1) 10 (w0.1 b 1) a1 (xw_a2_1 G hb0) w0 _ _ he3) (host := RX7) (by decide +kernel) tw_302 tw_301 tw_1 3 hs_X7_put ⟨Nat.le_of_ble_eq_true rfl, Nat.le_of_ble_eq_true rfl⟩ rfl hl.1 (Nat.le_of_ble_eq_true rfl) rfl dX2_endClause_9 ⟨Nat.zero_le _, Nat.zero_le _⟩ (fun H locs hP hS => ?_)
    refine lv_aload_n hx hb dX2_endClause_12 rfl (lv_at hl 0 rfl) ?_
    refine xw_get hB hK hP (xw_o2 G hb0) (C := RX2) (T := TX2) (N := 8) rfl TBi_X2 3 (by decide) tw_147 rfl rfl dX2_endClause_13 ?_
    refine lv_aload_n hx hb dX2_endClause_16 rfl (lv_at hl 0 rfl) ?_
    refine xw_get hB hK hP (xw_o2 G hb0) (C := RX2) (T := TX2) (N := 8) rfl TBi_X2 1 (by decide) tw_145 rfl rfl dX2_endClause_17 ?_
    refine lv_aload_n hx hb dX2_endClause_20 rfl (lv_at hl 0 rfl) ?_
    refine xw_get hB hK hP (xw_o2 G hb0) (C := RX2) (T := TX2) (N := 8) rfl TBi_X2 4 (by decide) tw_148 rfl rfl dX2_endClause_21 ?_
    replace hf := xw_b_e hf
    obtain ⟨r4, w5, he6, hf⟩ := hf
    refine xw_Nv hB hK hE hS hP (As := [.ref (xw_ad G (b + 2)), .int (w2.1 b 1), .int (w2.1 b 4)]) (rest := []) (kX7_put l G hG (b + 2) 10 (w2.1 b 1) (w2.1 b 4) (xw_a2_2 G hb0) w2 _ _ he6) (host := RX7) (by decide +kernel) tw_302 tw_301 tw_1 3 hs_X7_put ⟨Nat.le_of_ble_eq_true rfl, Nat.le_of_ble_eq_true rfl⟩ rfl hl.1 (Nat.le_of_ble_eq_true rfl) rfl dX2_endClause_24 ⟨Nat.zero_le _, Nat.zero_le _⟩ (fun H locs hP hS => ?_)
    refine lv_aload_n hx hb dX2_endClause_27 rfl (lv_at hl 0 rfl) ?_
    refine lv_dup hx hb dX2_endClause_28 rfl ?_
    refine xw_get hB hK hP (xw_o2 G hb0) (C := RX2) (T := TX2) (N := 8) rfl TBi_X2 1 (by decide) tw_145 rfl rfl dX2_endClause_29 ?_
    refine lv_iconst (v := 1) hx hb dX2_endClause_32 (by decide) ?_
    refine lv_iadd hx hb dX2_endClause_33 ?_
    refine xw_put hG hB hK hS hP (x := (w5.1 b 1) + (1 : Int32)) (xw_o2 G hb0) (C := RX2) (T := TX2) (N := 8) rfl TBi_X2 tyX2 tyX2_ok nmX2 1 (by decide) tw_145 rfl rfl rfl rfl rfl (Nat.le_of_ble_eq_true rfl) rfl dX2_endClause_34 (fun w7 ew7 H locs hP hS => ?_)
    replace hf := xw_lt_e ew7 hf
    obtain ⟨h0, h1⟩ := xw_s2 hf
    exact xw_vret hB hK hE hS hP hr hlk h1 dX2_endClause_37
  exact HH s.heap [] hP hS
def fX3_readClause_122 (n : Nat) (x3 : Int32) (v0 : Int32) (w : xw_M) : Option (Int32 × xw_M) := xw_cc (xw_pa (w.1 49 5).toNatClampNeg) (xw_b (fX2_endClause ((w.1 49 5).toNatClampNeg) x3 w) (fun (_ : Unit) w27 => xw_cc (v0 = 0 ∨ v0 = 1) (some (v0, w27))))
def fX3_readClause_121 (n : Nat) (x3 : Int32) (w : xw_M) : Option (Int32 × xw_M) := fX3_readClause_122 n x3 (0 : Int32) w
def fX3_readClause_99 (n : Nat) (v0 : Int32) (w : xw_M) : Option (Int32 × xw_M) := xw_b (fX3_readWord n 3 w) (fun r17 w18 => if r17 = 0 then fX3_readClause_121 n v0 w18 else xw_b (fX3_readEither n (fX3_readPart n 8) (0 : Int32) w18) (fun r21 w22 => if r21 = 0 then fX3_readClause_121 n v0 w22 else fX3_readClause_122 n v0 (1 : Int32) w22))
def fX3_readClause_51 (n : Nat) (x1 : Int32) (x2 : Int32) (v1 : Nat) (w : xw_M) : Option (Int32 × xw_M) := xw_b (fX3_readWord n v1 w) (fun r5 w6 => if r5 = 0 then some ((0 : Int32), w6) else xw_b (fX3_readNumber w6) (fun r9 w10 => if r9 = 0 then some ((0 : Int32), w10) else if x1 = 0 then if x2 = 0 then fX3_readClause_99 n (w10.1 49 4) w10 else fX3_readClause_99 n (-(w10.1 49 4)) w10 else xw_cc (xw_pa (w10.1 49 5).toNatClampNeg) (xw_lt (xw_si w10 ((w10.1 49 5).toNatClampNeg) 0 (w10.1 49 4)) (fun w16 => some ((1 : Int32), w16)))))
def fX3_readClause_29 (n : Nat) (x1 : Int32) (v0 : Int32) (w : xw_M) : Option (Int32 × xw_M) := if x1 = 0 then if v0 = 0 then fX3_readClause_51 n x1 v0 2 w else fX3_readClause_51 n x1 v0 1 w else fX3_readClause_51 n x1 v0 0 w
def fX3_readClause_14 (n : Nat) (v0 : Int32) (w : xw_M) : Option (Int32 × xw_M) := if (w.1 49 3) = (108 : Int32) then fX3_readClause_29 n v0 (1 : Int32) w else fX3_readClause_29 n v0 (0 : Int32) w
def fX3_readClause (n : Nat) (w0 : xw_M) : Option (Int32 × xw_M) := if (w0.1 49 3) = (121 : Int32) then fX3_readClause_14 n (1 : Int32) w0 else fX3_readClause_14 n (0 : Int32) w0
set_option maxHeartbeats 4000000 in
set_option maxRecDepth 100000 in
theorem kX3_readClause (l : Launch) (G : xw_G) (hG : xw_ok G) (n : Nat) (w0 : xw_M) (r0 : Int32) (wz : xw_M) (hf : fX3_readClause n w0 = some (r0, wz)) : xw_Ti l G yX3_readClause cX3_readClause 5 ((Option.some Jvm.ClassFile.FieldType.boolean)) (43) (926) [.ref (xw_ad G 49)] w0 r0 wz := by
  unfold xw_Ti
  refine Met.ofW (cc := cX3_readClause) (maxL := 5) (ret := (Option.some Jvm.ClassFile.FieldType.boolean)) (by decide) rfl ?_
  intro p e s m args below meth c s₁ B hml hv
  obtain ⟨hargs, hP, hK, hE⟩ := hv
  have hx := B.exec
  have hb := B.bytes
  have hr := B.returns
  have hlk := B.notSynchronized
  have hB : CallFix p m c cX3_readClause 5 s args TB RX3 := ⟨hx, hb, hml, findClass_of_methodNamed B.named, fun q h => (atoms_spec (ws := Cond.code yX3_readClause cX3_readClause 5 ((Option.some Jvm.ClassFile.FieldType.boolean)) :: TB) B.pre) q (List.mem_cons_of_mem _ h)⟩
  have hS : va_S (xw_A G) s.heap s.heap [] := va_S.rf
  have hl := lv_entry [.ref (xw_ad G 49)] (n := 5) (Nat.le_of_ble_eq_true rfl)
  rw [show entryFrame m args 5 = entryFrame m ([.ref (xw_ad G 49)] : List Value).toArray 5 from by rw [hargs], lg_entry_eq]
  generalize (lg_sl [.ref (xw_ad G 49)] ++ List.replicate (5 - (lg_sl [.ref (xw_ad G 49)]).length) Slot.unset).toArray = ls at hl ⊢
  have hP : va_P (xw_D G) xw_cl (xw_W G w0) s.heap := hP
  have hl : lv_has ls 5 [(0, .ref (xw_ad G 49))] := hl
  have HH : ∀ (H : Heap) (locs : List Loc) (hP : va_P (xw_D G) xw_cl (xw_W G w0) H) (hS : va_S (xw_A G) s.heap H locs), xw_Wi G p l e (xw_rm (43) (926)) s m args below meth c H locs r0 wz (F0 m 0 ls []) := by
    intro H locs hP hS
    unfold fX3_readClause at hf
    have J122 : ∀ (x3 : Int32) (v0 : Int32) (w : xw_M) (hf : fX3_readClause_122 n x3 v0 w = some (r0, wz)) (H : Heap) (locs : List Loc) (ls : Array Slot) (hP : va_P (xw_D G) xw_cl (xw_W G w) H) (hS : va_S (xw_A G) s.heap H locs) (hl : lv_has ls 5 [(0, .ref (xw_ad G 49)), (3, .int x3)]), xw_Wi G p l e (xw_rm (43) (926)) s m args below meth c H locs r0 wz (F0 m 122 ls [.int v0]) := by
      intro x3 v0 w hf H locs ls hP hS hl
      unfold fX3_readClause_122 at hf
      refine lv_istore (lv' := [(4, .int v0), (0, .ref (xw_ad G 49)), (3, .int x3)]) hx hb dX3_readClause_122 hl (by decide) rfl (fun ls hl => ?_)
      refine lv_aload_n hx hb dX3_readClause_124 rfl (lv_at hl 1 rfl) ?_
      refine xw_get hB hK hP (xw_o3 G) (C := RX3) (T := TX3) (N := 6) rfl TBi_X3 5 (by decide) tw_177 rfl rfl dX3_readClause_125 ?_
      replace hf := xw_cc_e hf
      obtain ⟨hp25, hf⟩ := hf
      refine lv_iload_n hx hb dX3_readClause_128 rfl (lv_at hl 2 rfl) ?_
      replace hf := xw_b_e hf
      obtain ⟨r26, w27, he28, hf⟩ := hf
      refine xw_Vv hB hK hE hS hP (As := [.int x3]) (rest := []) (kX2_endClause l G hG ((w.1 49 5).toNatClampNeg) x3 hp25 w _ _ he28) gs_X3_67 (xw_rc hK hP (C := RX2) (T := TX2) (N := 8) (xw_o2 G hp25) rfl) 1 hv_X2_endClause ⟨Nat.le_of_ble_eq_true rfl, Nat.le_of_ble_eq_true rfl⟩ rfl hl.1 (Nat.le_of_ble_eq_true rfl) rfl dX3_readClause_129 ⟨Nat.zero_le _, Nat.zero_le _⟩ (fun H locs hP hS => ?_)
      refine lv_iload hx hb dX3_readClause_132 (lv_at hl 0 rfl) ?_
      replace hf := xw_cc_e hf
      obtain ⟨hn, hf⟩ := hf
      obtain ⟨h0, h1⟩ := xw_s2 hf
      exact xw_zret hB hK hE hS hP hr hlk (xw_nar hn) h0 h1 dX3_readClause_134
    have J121 : ∀ (x3 : Int32) (w : xw_M) (hf : fX3_readClause_121 n x3 w = some (r0, wz)) (H : Heap) (locs : List Loc) (ls : Array Slot) (hP : va_P (xw_D G) xw_cl (xw_W G w) H) (hS : va_S (xw_A G) s.heap H locs) (hl : lv_has ls 5 [(0, .ref (xw_ad G 49)), (3, .int x3)]), xw_Wi G p l e (xw_rm (43) (926)) s m args below meth c H locs r0 wz (F0 m 121 ls []) := by
      intro x3 w hf H locs ls hP hS hl
      unfold fX3_readClause_121 at hf
      refine lv_iconst (v := 0) hx hb dX3_readClause_121 (by decide) ?_
      exact J122 x3 (0 : Int32) w hf H locs ls hP hS (lv_sub hl [0, 1] rfl)
    have J99 : ∀ (v0 : Int32) (w : xw_M) (hf : fX3_readClause_99 n v0 w = some (r0, wz)) (H : Heap) (locs : List Loc) (ls : Array Slot) (hP : va_P (xw_D G) xw_cl (xw_W G w) H) (hS : va_S (xw_A G) s.heap H locs) (hl : lv_has ls 5 [(0, .ref (xw_ad G 49))]), xw_Wi G p l e (xw_rm (43) (926)) s m args below meth c H locs r0 wz (F0 m 99 ls [.int v0]) := by
      intro v0 w hf H locs ls hP hS hl
      unfold fX3_readClause_99 at hf
      refine lv_istore_n (lv' := [(3, .int v0), (0, .ref (xw_ad G 49))]) hx hb dX3_readClause_99 rfl hl (by decide) rfl (fun ls hl => ?_)
      refine lv_aload_n hx hb dX3_readClause_100 rfl (lv_at hl 1 rfl) ?_
      refine va_ldcS hx hb hB.2.2.2.1 (hE.1.2.2.2.2.1) dX3_readClause_101 ?_
      replace hf := xw_b_e hf
      obtain ⟨r17, w18, he19, hf⟩ := hf
      refine xw_Vi hB hK hE hS hP (As := [.ref (xw_sa G (10 + 3))]) (rest := []) (kX3_readWord l G hG n 3 (by decide) w _ _ he19) gs_X3_48 (xw_rc hK hP (C := RX3) (T := TX3) (N := 6) (xw_o3 G) rfl) 1 hv_X3_readWord ⟨Nat.le_of_ble_eq_true rfl, Nat.le_of_ble_eq_true rfl⟩ rfl hl.1 (Nat.le_of_ble_eq_true rfl) rfl dX3_readClause_103 ⟨Nat.zero_le _, Nat.zero_le _⟩ (fun H locs hP hS => ?_)
      refine lv_if_eq (tgt := 121) hx hb dX3_readClause_106 (by decide) (fun c20 => ?_) (fun c20 => ?_)
      · replace hf := xw_ip c20 hf
        exact J121 v0 w18 hf H locs ls hP hS (lv_sub hl [1, 0] rfl)
      · replace hf := xw_in' c20 hf
        refine lv_aload_n hx hb dX3_readClause_109 rfl (lv_at hl 1 rfl) ?_
        refine lv_iconst (v := 0) hx hb dX3_readClause_110 (by decide) ?_
        replace hf := xw_b_e hf
        obtain ⟨r21, w22, he23, hf⟩ := hf
        refine xw_Vi hB hK hE hS hP (As := [.int (0 : Int32)]) (rest := []) (kX3_readEither l G hG n (fX3_readPart n 8) (0 : Int32) 40 856 (kX3_readPart l G hG n 8) w18 _ _ he23) gs_X3_63 (xw_rc hK hP (C := RX3) (T := TX3) (N := 6) (xw_o3 G) rfl) 1 hv_X3_readEither ⟨Nat.le_of_ble_eq_true rfl, Nat.le_of_ble_eq_true rfl⟩ rfl hl.1 (Nat.le_of_ble_eq_true rfl) rfl dX3_readClause_111 ⟨Nat.zero_le _, Nat.zero_le _⟩ (fun H locs hP hS => ?_)
        refine lv_if_eq (tgt := 121) hx hb dX3_readClause_114 (by decide) (fun c24 => ?_) (fun c24 => ?_)
        · replace hf := xw_ip c24 hf
          exact J121 v0 w22 hf H locs ls hP hS (lv_sub hl [1, 0] rfl)
        · replace hf := xw_in' c24 hf
          refine lv_iconst (v := 1) hx hb dX3_readClause_117 (by decide) ?_
          refine lv_goto (tgt := 122) hx hb dX3_readClause_118 (by decide) ?_
          exact J122 v0 (1 : Int32) w22 hf H locs ls hP hS (lv_sub hl [1, 0] rfl)
    have J51 : ∀ (x1 : Int32) (x2 : Int32) (v1 : Nat) (hv1 : v1 < 5) (w : xw_M) (hf : fX3_readClause_51 n x1 x2 v1 w = some (r0, wz)) (H : Heap) (locs : List Loc) (ls : Array Slot) (hP : va_P (xw_D G) xw_cl (xw_W G w) H) (hS : va_S (xw_A G) s.heap H locs) (hl : lv_has ls 5 [(0, .ref (xw_ad G 49)), (1, .int x1), (2, .int x2)]), xw_Wi G p l e (xw_rm (43) (926)) s m args below meth c H locs r0 wz (F0 m 51 ls [.ref (xw_sa G (10 + v1)), .ref (xw_ad G 49)]) := by
      intro x1 x2 v1 hv1 w hf H locs ls hP hS hl
      unfold fX3_readClause_51 at hf
      replace hf := xw_b_e hf
      obtain ⟨r5, w6, he7, hf⟩ := hf
      refine xw_Vi hB hK hE hS hP (As := [.ref (xw_sa G (10 + v1))]) (rest := []) (kX3_readWord l G hG n v1 hv1 w _ _ he7) gs_X3_48 (xw_rc hK hP (C := RX3) (T := TX3) (N := 6) (xw_o3 G) rfl) 1 hv_X3_readWord ⟨Nat.le_of_ble_eq_true rfl, Nat.le_of_ble_eq_true rfl⟩ rfl hl.1 (Nat.le_of_ble_eq_true rfl) rfl dX3_readClause_51 ⟨Nat.zero_le _, Nat.zero_le _⟩ (fun H locs hP hS => ?_)
      refine lv_if_eq (tgt := 64) hx hb dX3_readClause_54 (by decide) (fun c8 => ?_) (fun c8 => ?_)
      · replace hf := xw_ip c8 hf
        refine lv_iconst (v := 0) hx hb dX3_readClause_64 (by decide) ?_
        obtain ⟨h0, h1⟩ := xw_s2 hf
        exact xw_zret hB hK hE hS hP hr hlk rfl h0 h1 dX3_readClause_65
      · replace hf := xw_in' c8 hf
        refine lv_aload_n hx hb dX3_readClause_57 rfl (lv_at hl 0 rfl) ?_
        replace hf := xw_b_e hf
        obtain ⟨r9, w10, he11, hf⟩ := hf
        refine xw_Vi hB hK hE hS hP (As := []) (rest := []) (kX3_readNumber l G hG w6 _ _ he11) gs_X3_52 (xw_rc hK hP (C := RX3) (T := TX3) (N := 6) (xw_o3 G) rfl) 0 hv_X3_readNumber ⟨Nat.le_of_ble_eq_true rfl, Nat.le_of_ble_eq_true rfl⟩ rfl hl.1 (Nat.le_of_ble_eq_true rfl) rfl dX3_readClause_58 ⟨Nat.zero_le _, Nat.zero_le _⟩ (fun H locs hP hS => ?_)
        refine lv_if_ne (tgt := 66) hx hb dX3_readClause_61 (by decide) (fun c12 => ?_) (fun c12 => ?_)
        · replace hf := xw_in' c12 hf
          refine lv_iload_n hx hb dX3_readClause_66 rfl (lv_at hl 1 rfl) ?_
          refine lv_if_eq (tgt := 83) hx hb dX3_readClause_67 (by decide) (fun c13 => ?_) (fun c13 => ?_)
          · replace hf := xw_ip c13 hf
            refine lv_iload_n hx hb dX3_readClause_83 rfl (lv_at hl 2 rfl) ?_
            refine lv_if_eq (tgt := 95) hx hb dX3_readClause_84 (by decide) (fun c14 => ?_) (fun c14 => ?_)
            · replace hf := xw_ip c14 hf
              refine lv_aload_n hx hb dX3_readClause_95 rfl (lv_at hl 0 rfl) ?_
              refine xw_get hB hK hP (xw_o3 G) (C := RX3) (T := TX3) (N := 6) rfl TBi_X3 4 (by decide) tw_176 rfl rfl dX3_readClause_96 ?_
              exact J99 (w10.1 49 4) w10 hf H locs ls hP hS (lv_sub hl [0] rfl)
            · replace hf := xw_in' c14 hf
              refine lv_aload_n hx hb dX3_readClause_87 rfl (lv_at hl 0 rfl) ?_
              refine xw_get hB hK hP (xw_o3 G) (C := RX3) (T := TX3) (N := 6) rfl TBi_X3 4 (by decide) tw_176 rfl rfl dX3_readClause_88 ?_
              refine lv_ineg hx hb dX3_readClause_91 ?_
              refine lv_goto (tgt := 99) hx hb dX3_readClause_92 (by decide) ?_
              exact J99 (-(w10.1 49 4)) w10 hf H locs ls hP hS (lv_sub hl [0] rfl)
          · replace hf := xw_in' c13 hf
            refine lv_aload_n hx hb dX3_readClause_70 rfl (lv_at hl 0 rfl) ?_
            refine xw_get hB hK hP (xw_o3 G) (C := RX3) (T := TX3) (N := 6) rfl TBi_X3 5 (by decide) tw_177 rfl rfl dX3_readClause_71 ?_
            replace hf := xw_cc_e hf
            obtain ⟨hp15, hf⟩ := hf
            refine lv_aload_n hx hb dX3_readClause_74 rfl (lv_at hl 0 rfl) ?_
            refine xw_get hB hK hP (xw_o3 G) (C := RX3) (T := TX3) (N := 6) rfl TBi_X3 4 (by decide) tw_176 rfl rfl dX3_readClause_75 ?_
            refine xw_put hG hB hK hS hP (x := w10.1 49 4) (xw_o2 G hp15) (C := RX2) (T := TX2) (N := 8) rfl TBi_X2 tyX2 tyX2_ok nmX2 0 (by decide) tw_143 rfl rfl rfl rfl rfl (Nat.le_of_ble_eq_true rfl) rfl dX3_readClause_78 (fun w16 ew16 H locs hP hS => ?_)
            replace hf := xw_lt_e ew16 hf
            refine lv_iconst (v := 1) hx hb dX3_readClause_81 (by decide) ?_
            obtain ⟨h0, h1⟩ := xw_s2 hf
            exact xw_zret hB hK hE hS hP hr hlk rfl h0 h1 dX3_readClause_82
        · replace hf := xw_ip c12 hf
          refine lv_iconst (v := 0) hx hb dX3_readClause_64 (by decide) ?_
          obtain ⟨h0, h1⟩ := xw_s2 hf
          exact xw_zret hB hK hE hS hP hr hlk rfl h0 h1 dX3_readClause_65
    have J29 : ∀ (x1 : Int32) (v0 : Int32) (w : xw_M) (hf : fX3_readClause_29 n x1 v0 w = some (r0, wz)) (H : Heap) (locs : List Loc) (ls : Array Slot) (hP : va_P (xw_D G) xw_cl (xw_W G w) H) (hS : va_S (xw_A G) s.heap H locs) (hl : lv_has ls 5 [(0, .ref (xw_ad G 49)), (1, .int x1)]), xw_Wi G p l e (xw_rm (43) (926)) s m args below meth c H locs r0 wz (F0 m 29 ls [.int v0]) := by
      intro x1 v0 w hf H locs ls hP hS hl
      unfold fX3_readClause_29 at hf
      refine lv_istore_n (lv' := [(2, .int v0), (0, .ref (xw_ad G 49)), (1, .int x1)]) hx hb dX3_readClause_29 rfl hl (by decide) rfl (fun ls hl => ?_)
      refine lv_aload_n hx hb dX3_readClause_30 rfl (lv_at hl 1 rfl) ?_
      refine lv_iload_n hx hb dX3_readClause_31 rfl (lv_at hl 2 rfl) ?_
      refine lv_if_eq (tgt := 40) hx hb dX3_readClause_32 (by decide) (fun c3 => ?_) (fun c3 => ?_)
      · replace hf := xw_ip c3 hf
        refine lv_iload_n hx hb dX3_readClause_40 rfl (lv_at hl 0 rfl) ?_
        refine lv_if_eq (tgt := 49) hx hb dX3_readClause_41 (by decide) (fun c4 => ?_) (fun c4 => ?_)
        · replace hf := xw_ip c4 hf
          refine va_ldcS hx hb hB.2.2.2.1 (hE.1.2.2.2.1) dX3_readClause_49 ?_
          exact J51 x1 v0 2 (by decide) w hf H locs ls hP hS (lv_sub hl [1, 2, 0] rfl)
        · replace hf := xw_in' c4 hf
          refine va_ldcS hx hb hB.2.2.2.1 (hE.1.2.2.1) dX3_readClause_44 ?_
          refine lv_goto (tgt := 51) hx hb dX3_readClause_46 (by decide) ?_
          exact J51 x1 v0 1 (by decide) w hf H locs ls hP hS (lv_sub hl [1, 2, 0] rfl)
      · replace hf := xw_in' c3 hf
        refine va_ldcS hx hb hB.2.2.2.1 (hE.1.2.1) dX3_readClause_35 ?_
        refine lv_goto (tgt := 51) hx hb dX3_readClause_37 (by decide) ?_
        exact J51 x1 v0 0 (by decide) w hf H locs ls hP hS (lv_sub hl [1, 2, 0] rfl)
    have J14 : ∀ (v0 : Int32) (w : xw_M) (hf : fX3_readClause_14 n v0 w = some (r0, wz)) (H : Heap) (locs : List Loc) (ls : Array Slot) (hP : va_P (xw_D G) xw_cl (xw_W G w) H) (hS : va_S (xw_A G) s.heap H locs) (hl : lv_has ls 5 [(0, .ref (xw_ad G 49))]), xw_Wi G p l e (xw_rm (43) (926)) s m args below meth c H locs r0 wz (F0 m 14 ls [.int v0]) := by
      intro v0 w hf H locs ls hP hS hl
      unfold fX3_readClause_14 at hf
      refine lv_istore_n (lv' := [(1, .int v0), (0, .ref (xw_ad G 49))]) hx hb dX3_readClause_14 rfl hl (by decide) rfl (fun ls hl => ?_)
      refine lv_aload_n hx hb dX3_readClause_15 rfl (lv_at hl 1 rfl) ?_
      refine xw_get hB hK hP (xw_o3 G) (C := RX3) (T := TX3) (N := 6) rfl TBi_X3 3 (by decide) tw_175 rfl rfl dX3_readClause_16 ?_
      refine lv_bipush (v := 108) hx hb dX3_readClause_19 (by decide) ?_
      refine lv_icmp_ne (tgt := 28) hx hb dX3_readClause_21 (by decide) (fun c2 => ?_) (fun c2 => ?_)
      · replace hf := xw_in' c2 hf
        refine lv_iconst (v := 0) hx hb dX3_readClause_28 (by decide) ?_
        exact J29 v0 (0 : Int32) w hf H locs ls hP hS (lv_sub hl [1, 0] rfl)
      · replace hf := xw_ip c2 hf
        refine lv_iconst (v := 1) hx hb dX3_readClause_24 (by decide) ?_
        refine lv_goto (tgt := 29) hx hb dX3_readClause_25 (by decide) ?_
        exact J29 v0 (1 : Int32) w hf H locs ls hP hS (lv_sub hl [1, 0] rfl)
    refine lv_aload_n hx hb dX3_readClause_0 rfl (lv_at hl 0 rfl) ?_
    refine xw_get hB hK hP (xw_o3 G) (C := RX3) (T := TX3) (N := 6) rfl TBi_X3 3 (by decide) tw_175 rfl rfl dX3_readClause_1 ?_
    refine lv_bipush (v := 121) hx hb dX3_readClause_4 (by decide) ?_
    refine lv_icmp_ne (tgt := 13) hx hb dX3_readClause_6 (by decide) (fun c1 => ?_) (fun c1 => ?_)
    · replace hf := xw_in' c1 hf
      refine lv_iconst (v := 0) hx hb dX3_readClause_13 (by decide) ?_
      exact J14 (0 : Int32) w0 hf H locs ls hP hS (lv_sub hl [0] rfl)
    · replace hf := xw_ip c1 hf
      refine lv_iconst (v := 1) hx hb dX3_readClause_9 (by decide) ?_
      refine lv_goto (tgt := 14) hx hb dX3_readClause_10 (by decide) ?_
      exact J14 (1 : Int32) w0 hf H locs ls hP hS (lv_sub hl [0] rfl)
  exact HH s.heap [] hP hS
def fX3_readAll_62 (n : Nat) (a1 : Nat) (x2 : Int32) (w : xw_M) : Option (Int32 × xw_M) := xw_lt (xw_si w 49 1 (0 : Int32)) (fun w23 => if x2 = 0 then some ((0 : Int32), w23) else if (w23.1 49 3) = (-1 : Int32) then some ((1 : Int32), w23) else some ((0 : Int32), w23))
def fX3_readAll_b28 (n : Nat) (a1 : Nat) (x2 : Int32) (x3 : Int32) (w : xw_M) : Option ((Int32 × Int32 × xw_M) ⊕ (Int32 × xw_M)) := if (10 : Int32) ≤ x3 then some (.inr (x2, w)) else if x2 = 0 then some (.inr (x2, w)) else if (w.1 49 3) = (59 : Int32) then xw_b (fX3_advance w) (fun (_ : Unit) w17 => xw_b (fX3_readClause n w17) (fun r19 w20 => xw_lt (x3 + 1) (fun x3_22 => some (.inl (r19, x3_22, w20))))) else some (.inr (x2, w))
def fX3_readAll_28 (n : Nat) (a1 : Nat) (x2 : Int32) (x3 : Int32) (w : xw_M) : Option (Int32 × xw_M) := xw_bp (xw_it (fun z => fX3_readAll_b28 n a1 z.1 z.2.1 z.2.2) n (x2, x3, w)) (fun z => (fun (x2 : Int32) (w : xw_M) => fX3_readAll_62 n a1 x2 w) z.1 z.2)
def fX3_readAll (n : Nat) (a1 : Nat) (w0 : xw_M) : Option (Int32 × xw_M) := xw_lt (xw_si w0 49 5 (nI a1)) (fun w1 => xw_cc (xw_pa (w1.1 49 5).toNatClampNeg) (xw_b (fX2_clear ((w1.1 49 5).toNatClampNeg) w1) (fun (_ : Unit) w4 => xw_lt (xw_si w4 49 2 (-1 : Int32)) (fun w6 => xw_b (fX3_advance w6) (fun (_ : Unit) w8 => xw_b (fX3_readClause n w8) (fun r10 w11 => fX3_readAll_28 n a1 r10 (1 : Int32) w11))))))
set_option maxHeartbeats 4000000 in
set_option maxRecDepth 100000 in
theorem kX3_readAll (l : Launch) (G : xw_G) (hG : xw_ok G) (n : Nat) (a1 : Nat) (ha1 : xw_pa a1) (w0 : xw_M) (r0 : Int32) (wz : xw_M) (hf : fX3_readAll n a1 w0 = some (r0, wz)) : xw_Ti l G yX3_readAll cX3_readAll 4 ((Option.some Jvm.ClassFile.FieldType.boolean)) (44) (950) [.ref (xw_ad G 49), .ref (xw_ad G a1)] w0 r0 wz := by
  unfold xw_Ti
  refine Met.ofW (cc := cX3_readAll) (maxL := 4) (ret := (Option.some Jvm.ClassFile.FieldType.boolean)) (by decide) rfl ?_
  intro p e s m args below meth c s₁ B hml hv
  obtain ⟨hargs, hP, hK, hE⟩ := hv
  have hx := B.exec
  have hb := B.bytes
  have hr := B.returns
  have hlk := B.notSynchronized
  have hB : CallFix p m c cX3_readAll 4 s args TB RX3 := ⟨hx, hb, hml, findClass_of_methodNamed B.named, fun q h => (atoms_spec (ws := Cond.code yX3_readAll cX3_readAll 4 ((Option.some Jvm.ClassFile.FieldType.boolean)) :: TB) B.pre) q (List.mem_cons_of_mem _ h)⟩
  have hS : va_S (xw_A G) s.heap s.heap [] := va_S.rf
  have hl := lv_entry [.ref (xw_ad G 49), .ref (xw_ad G a1)] (n := 4) (Nat.le_of_ble_eq_true rfl)
  rw [show entryFrame m args 4 = entryFrame m ([.ref (xw_ad G 49), .ref (xw_ad G a1)] : List Value).toArray 4 from by rw [hargs], lg_entry_eq]
  generalize (lg_sl [.ref (xw_ad G 49), .ref (xw_ad G a1)] ++ List.replicate (4 - (lg_sl [.ref (xw_ad G 49), .ref (xw_ad G a1)]).length) Slot.unset).toArray = ls at hl ⊢
  have hP : va_P (xw_D G) xw_cl (xw_W G w0) s.heap := hP
  have hl : lv_has ls 4 [(0, .ref (xw_ad G 49)), (1, .ref (xw_ad G a1))] := hl
  have HH : ∀ (H : Heap) (locs : List Loc) (hP : va_P (xw_D G) xw_cl (xw_W G w0) H) (hS : va_S (xw_A G) s.heap H locs), xw_Wi G p l e (xw_rm (44) (950)) s m args below meth c H locs r0 wz (F0 m 0 ls []) := by
    intro H locs hP hS
    unfold fX3_readAll at hf
    have J62 : ∀ (x2 : Int32) (w : xw_M) (hf : fX3_readAll_62 n a1 x2 w = some (r0, wz)) (H : Heap) (locs : List Loc) (ls : Array Slot) (hP : va_P (xw_D G) xw_cl (xw_W G w) H) (hS : va_S (xw_A G) s.heap H locs) (hl : lv_has ls 4 [(0, .ref (xw_ad G 49)), (2, .int x2)]), xw_Wi G p l e (xw_rm (44) (950)) s m args below meth c H locs r0 wz (F0 m 62 ls []) := by
      intro x2 w hf H locs ls hP hS hl
      unfold fX3_readAll_62 at hf
      refine lv_aload_n hx hb dX3_readAll_62 rfl (lv_at hl 0 rfl) ?_
      refine lv_iconst (v := 0) hx hb dX3_readAll_63 (by decide) ?_
      refine xw_put hG hB hK hS hP (x := (0 : Int32)) (xw_o3 G) (C := RX3) (T := TX3) (N := 6) rfl TBi_X3 tyX3 tyX3_ok nmX3 1 (by decide) tw_171 rfl rfl rfl rfl rfl (Nat.le_of_ble_eq_true rfl) rfl dX3_readAll_64 (fun w23 ew23 H locs hP hS => ?_)
      replace hf := xw_lt_e ew23 hf
      refine lv_iload_n hx hb dX3_readAll_67 rfl (lv_at hl 1 rfl) ?_
      refine lv_if_eq (tgt := 83) hx hb dX3_readAll_68 (by decide) (fun c24 => ?_) (fun c24 => ?_)
      · replace hf := xw_ip c24 hf
        refine lv_iconst (v := 0) hx hb dX3_readAll_83 (by decide) ?_
        obtain ⟨h0, h1⟩ := xw_s2 hf
        exact xw_zret hB hK hE hS hP hr hlk rfl h0 h1 dX3_readAll_84
      · replace hf := xw_in' c24 hf
        refine lv_aload_n hx hb dX3_readAll_71 rfl (lv_at hl 0 rfl) ?_
        refine xw_get hB hK hP (xw_o3 G) (C := RX3) (T := TX3) (N := 6) rfl TBi_X3 3 (by decide) tw_175 rfl rfl dX3_readAll_72 ?_
        refine lv_iconst (v := (-1)) hx hb dX3_readAll_75 (by decide) ?_
        refine lv_icmp_ne (tgt := 83) hx hb dX3_readAll_76 (by decide) (fun c25 => ?_) (fun c25 => ?_)
        · replace hf := xw_in' c25 hf
          refine lv_iconst (v := 0) hx hb dX3_readAll_83 (by decide) ?_
          obtain ⟨h0, h1⟩ := xw_s2 hf
          exact xw_zret hB hK hE hS hP hr hlk rfl h0 h1 dX3_readAll_84
        · replace hf := xw_ip c25 hf
          refine lv_iconst (v := 1) hx hb dX3_readAll_79 (by decide) ?_
          refine lv_goto (tgt := 84) hx hb dX3_readAll_80 (by decide) ?_
          obtain ⟨h0, h1⟩ := xw_s2 hf
          exact xw_zret hB hK hE hS hP hr hlk rfl h0 h1 dX3_readAll_84
    have J28 : ∀ (x2 : Int32) (x3 : Int32) (w : xw_M) (hf : fX3_readAll_28 n a1 x2 x3 w = some (r0, wz)) (H : Heap) (locs : List Loc) (ls : Array Slot) (hP : va_P (xw_D G) xw_cl (xw_W G w) H) (hS : va_S (xw_A G) s.heap H locs) (hl : lv_has ls 4 [(0, .ref (xw_ad G 49)), (2, .int x2), (3, .int x3)]), xw_Wi G p l e (xw_rm (44) (950)) s m args below meth c H locs r0 wz (F0 m 28 ls []) := by
      intro x2 x3 w hf H locs ls hP hS hl
      unfold fX3_readAll_28 at hf
      replace hf := xw_bp_e hf
      obtain ⟨bb28, hit28, hfx28⟩ := hf
      have XX28 : ∀ (x2 : Int32) (w : xw_M) (hf : fX3_readAll_62 n a1 x2 w = some (r0, wz)) (H : Heap) (locs : List Loc) (ls : Array Slot) (hP : va_P (xw_D G) xw_cl (xw_W G w) H) (hS : va_S (xw_A G) s.heap H locs) (hl : lv_has ls 4 [(0, .ref (xw_ad G 49)), (2, .int x2)]), xw_Wi G p l e (xw_rm (44) (950)) s m args below meth c H locs r0 wz (F0 m 62 ls []) := by
        intro x2 w hf H locs ls hP hS hl
        exact J62 x2 w hf H locs ls hP hS (lv_sub hl [0, 1] rfl)
      have LL28 : ∀ (nn : Nat) (x2 : Int32) (x3 : Int32) (w : xw_M) (hit : xw_it (fun z => fX3_readAll_b28 n a1 z.1 z.2.1 z.2.2) nn (x2, x3, w) = some bb28) (H : Heap) (locs : List Loc) (ls : Array Slot) (hP : va_P (xw_D G) xw_cl (xw_W G w) H) (hS : va_S (xw_A G) s.heap H locs) (hl : lv_has ls 4 [(0, .ref (xw_ad G 49)), (2, .int x2), (3, .int x3)]), xw_Wi G p l e (xw_rm (44) (950)) s m args below meth c H locs r0 wz (F0 m 28 ls []) := by
        intro nn
        induction nn with
        | zero => intro x2 x3 w hit; exact (xw_it_0 hit).elim
        | succ nn ih28 =>
          intro x2 x3 w hit H locs ls hP hS hl
          replace hit := xw_it_e hit
          obtain ⟨wv28, hf, hC28, hX28⟩ := hit
          replace hf : fX3_readAll_b28 n a1 x2 x3 w = some wv28 := hf
          unfold fX3_readAll_b28 at hf
          refine lv_iload_n hx hb dX3_readAll_28 rfl (lv_at hl 2 rfl) ?_
          refine lv_bipush (v := 10) hx hb dX3_readAll_29 (by decide) ?_
          refine lv_icmp_ge (tgt := 62) hx hb dX3_readAll_31 (by decide) (fun c13 => ?_) (fun c13 => ?_)
          · replace hf := xw_ip c13 hf
            have he28 := hX28 _ (xw_so hf).symm
            rw [← he28] at hfx28
            exact XX28 x2 w hfx28 H locs ls hP hS (lv_sub hl [0, 1] rfl)
          · replace hf := xw_in' c13 hf
            refine lv_iload_n hx hb dX3_readAll_34 rfl (lv_at hl 1 rfl) ?_
            refine lv_if_eq (tgt := 62) hx hb dX3_readAll_35 (by decide) (fun c14 => ?_) (fun c14 => ?_)
            · replace hf := xw_ip c14 hf
              have he28 := hX28 _ (xw_so hf).symm
              rw [← he28] at hfx28
              exact XX28 x2 w hfx28 H locs ls hP hS (lv_sub hl [0, 1] rfl)
            · replace hf := xw_in' c14 hf
              refine lv_aload_n hx hb dX3_readAll_38 rfl (lv_at hl 0 rfl) ?_
              refine xw_get hB hK hP (xw_o3 G) (C := RX3) (T := TX3) (N := 6) rfl TBi_X3 3 (by decide) tw_175 rfl rfl dX3_readAll_39 ?_
              refine lv_bipush (v := 59) hx hb dX3_readAll_42 (by decide) ?_
              refine lv_icmp_ne (tgt := 62) hx hb dX3_readAll_44 (by decide) (fun c15 => ?_) (fun c15 => ?_)
              · replace hf := xw_in' c15 hf
                have he28 := hX28 _ (xw_so hf).symm
                rw [← he28] at hfx28
                exact XX28 x2 w hfx28 H locs ls hP hS (lv_sub hl [0, 1] rfl)
              · replace hf := xw_ip c15 hf
                refine lv_aload_n hx hb dX3_readAll_47 rfl (lv_at hl 0 rfl) ?_
                replace hf := xw_b_e hf
                obtain ⟨r16, w17, he18, hf⟩ := hf
                refine xw_Vv hB hK hE hS hP (As := []) (rest := []) (kX3_advance l G hG w _ _ he18) gs_X3_35 (xw_rc hK hP (C := RX3) (T := TX3) (N := 6) (xw_o3 G) rfl) 0 hv_X3_advance ⟨Nat.le_of_ble_eq_true rfl, Nat.le_of_ble_eq_true rfl⟩ rfl hl.1 (Nat.le_of_ble_eq_true rfl) rfl dX3_readAll_48 ⟨Nat.zero_le _, Nat.zero_le _⟩ (fun H locs hP hS => ?_)
                refine lv_aload_n hx hb dX3_readAll_51 rfl (lv_at hl 0 rfl) ?_
                replace hf := xw_b_e hf
                obtain ⟨r19, w20, he21, hf⟩ := hf
                refine xw_Vi hB hK hE hS hP (As := []) (rest := []) (kX3_readClause l G hG n w17 _ _ he21) gs_X3_38 (xw_rc hK hP (C := RX3) (T := TX3) (N := 6) (xw_o3 G) rfl) 0 hv_X3_readClause ⟨Nat.le_of_ble_eq_true rfl, Nat.le_of_ble_eq_true rfl⟩ rfl hl.1 (Nat.le_of_ble_eq_true rfl) rfl dX3_readAll_52 ⟨Nat.zero_le _, Nat.zero_le _⟩ (fun H locs hP hS => ?_)
                refine lv_istore_n (lv' := [(2, .int r19), (0, .ref (xw_ad G 49)), (3, .int x3)]) hx hb dX3_readAll_55 rfl hl (by decide) rfl (fun ls hl => ?_)
                obtain ⟨x3_22, ex3_22⟩ : ∃ y : Int32, y = x3 + 1 := ⟨_, rfl⟩
                replace hf := xw_lt_e ex3_22 hf
                refine lv_iinc (v := x3_22) (lv' := [(3, .int x3_22), (2, .int r19), (0, .ref (xw_ad G 49))]) hx hb dX3_readAll_56 hl (k := 2) rfl (by rw [ex3_22]; rfl) (by decide) rfl (fun ls hl => ?_)
                refine lv_goto (tgt := 28) hx hb dX3_readAll_59 (by decide) ?_
                have hi := hC28 _ (xw_so hf).symm
                exact ih28 r19 x3_22 w20 hi H locs ls hP hS (lv_sub hl [2, 1, 0] rfl)
      exact LL28 n x2 x3 w hit28 H locs ls hP hS hl
    refine lv_aload_n hx hb dX3_readAll_0 rfl (lv_at hl 0 rfl) ?_
    refine lv_aload_n hx hb dX3_readAll_1 rfl (lv_at hl 1 rfl) ?_
    refine xw_put hG hB hK hS hP (x := nI a1) (xw_o3 G) (C := RX3) (T := TX3) (N := 6) rfl TBi_X3 tyX3 tyX3_ok nmX3 5 (by decide) tw_177 rfl rfl rfl rfl rfl (Nat.le_of_ble_eq_true rfl) (xw_into G _ ha1) dX3_readAll_2 (fun w1 ew1 H locs hP hS => ?_)
    replace hf := xw_lt_e ew1 hf
    refine lv_aload_n hx hb dX3_readAll_5 rfl (lv_at hl 0 rfl) ?_
    refine xw_get hB hK hP (xw_o3 G) (C := RX3) (T := TX3) (N := 6) rfl TBi_X3 5 (by decide) tw_177 rfl rfl dX3_readAll_6 ?_
    replace hf := xw_cc_e hf
    obtain ⟨hp2, hf⟩ := hf
    replace hf := xw_b_e hf
    obtain ⟨r3, w4, he5, hf⟩ := hf
    refine xw_Vv hB hK hE hS hP (As := []) (rest := []) (kX2_clear l G hG ((w1.1 49 5).toNatClampNeg) hp2 w1 _ _ he5) gs_X3_29 (xw_rc hK hP (C := RX2) (T := TX2) (N := 8) (xw_o2 G hp2) rfl) 0 hv_X2_clear ⟨Nat.le_of_ble_eq_true rfl, Nat.le_of_ble_eq_true rfl⟩ rfl hl.1 (Nat.le_of_ble_eq_true rfl) rfl dX3_readAll_9 ⟨Nat.zero_le _, Nat.zero_le _⟩ (fun H locs hP hS => ?_)
    refine lv_aload_n hx hb dX3_readAll_12 rfl (lv_at hl 0 rfl) ?_
    refine lv_iconst (v := (-1)) hx hb dX3_readAll_13 (by decide) ?_
    refine xw_put hG hB hK hS hP (x := (-1 : Int32)) (xw_o3 G) (C := RX3) (T := TX3) (N := 6) rfl TBi_X3 tyX3 tyX3_ok nmX3 2 (by decide) tw_173 rfl rfl rfl rfl rfl (Nat.le_of_ble_eq_true rfl) rfl dX3_readAll_14 (fun w6 ew6 H locs hP hS => ?_)
    replace hf := xw_lt_e ew6 hf
    refine lv_aload_n hx hb dX3_readAll_17 rfl (lv_at hl 0 rfl) ?_
    replace hf := xw_b_e hf
    obtain ⟨r7, w8, he9, hf⟩ := hf
    refine xw_Vv hB hK hE hS hP (As := []) (rest := []) (kX3_advance l G hG w6 _ _ he9) gs_X3_35 (xw_rc hK hP (C := RX3) (T := TX3) (N := 6) (xw_o3 G) rfl) 0 hv_X3_advance ⟨Nat.le_of_ble_eq_true rfl, Nat.le_of_ble_eq_true rfl⟩ rfl hl.1 (Nat.le_of_ble_eq_true rfl) rfl dX3_readAll_18 ⟨Nat.zero_le _, Nat.zero_le _⟩ (fun H locs hP hS => ?_)
    refine lv_aload_n hx hb dX3_readAll_21 rfl (lv_at hl 0 rfl) ?_
    replace hf := xw_b_e hf
    obtain ⟨r10, w11, he12, hf⟩ := hf
    refine xw_Vi hB hK hE hS hP (As := []) (rest := []) (kX3_readClause l G hG n w8 _ _ he12) gs_X3_38 (xw_rc hK hP (C := RX3) (T := TX3) (N := 6) (xw_o3 G) rfl) 0 hv_X3_readClause ⟨Nat.le_of_ble_eq_true rfl, Nat.le_of_ble_eq_true rfl⟩ rfl hl.1 (Nat.le_of_ble_eq_true rfl) rfl dX3_readAll_22 ⟨Nat.zero_le _, Nat.zero_le _⟩ (fun H locs hP hS => ?_)
    refine lv_istore_n (lv' := [(2, .int r10), (0, .ref (xw_ad G 49)), (1, .ref (xw_ad G a1))]) hx hb dX3_readAll_25 rfl hl (by decide) rfl (fun ls hl => ?_)
    refine lv_iconst (v := 1) hx hb dX3_readAll_26 (by decide) ?_
    refine lv_istore_n (lv' := [(3, .int (1 : Int32)), (2, .int r10), (0, .ref (xw_ad G 49)), (1, .ref (xw_ad G a1))]) hx hb dX3_readAll_27 rfl hl (by decide) rfl (fun ls hl => ?_)
    exact J28 r10 (1 : Int32) w11 hf H locs ls hP hS (lv_sub hl [2, 1, 0] rfl)
  exact HH s.heap [] hP hS
def fX7_parish (n : Nat) (w0 : xw_M) : Option (Int32 × xw_M) := xw_bp (fX7_parishAt (w0.1 0 6) w0) (fun r1 => xw_om r1 (some ((-4 : Int32), w0)) (fun t3 => xw_cc (xw_pa t3) (xw_b (fX3_readAll n t3 w0) (fun r5 w6 => if r5 = 0 then some ((-10 : Int32) - (w6.1 49 2), w6) else xw_lt (xw_si w6 1 10 (w6.1 0 6)) (fun w9 => xw_lt (xw_si w9 0 6 ((w9.1 0 6) + (1 : Int32))) (fun w10 => some (w10.1 1 10, w10)))))))
set_option maxHeartbeats 4000000 in
set_option maxRecDepth 100000 in
theorem kX7_parish (l : Launch) (G : xw_G) (hG : xw_ok G) (n : Nat) (w0 : xw_M) (r0 : Int32) (wz : xw_M) (hf : fX7_parish n w0 = some (r0, wz)) : xw_Ti l G yX7_parish cX7_parish 2 ((Option.some Jvm.ClassFile.FieldType.int)) (45) (973) [.ref (xw_ad G 0)] w0 r0 wz := by
  unfold xw_Ti
  refine Met.ofW (cc := cX7_parish) (maxL := 2) (ret := (Option.some Jvm.ClassFile.FieldType.int)) (by decide) rfl ?_
  intro p e s m args below meth c s₁ B hml hv
  obtain ⟨hargs, hP, hK, hE⟩ := hv
  have hx := B.exec
  have hb := B.bytes
  have hr := B.returns
  have hlk := B.notSynchronized
  have hB : CallFix p m c cX7_parish 2 s args TB RX7 := ⟨hx, hb, hml, findClass_of_methodNamed B.named, fun q h => (atoms_spec (ws := Cond.code yX7_parish cX7_parish 2 ((Option.some Jvm.ClassFile.FieldType.int)) :: TB) B.pre) q (List.mem_cons_of_mem _ h)⟩
  have hS : va_S (xw_A G) s.heap s.heap [] := va_S.rf
  have hl := lv_entry [.ref (xw_ad G 0)] (n := 2) (Nat.le_of_ble_eq_true rfl)
  rw [show entryFrame m args 2 = entryFrame m ([.ref (xw_ad G 0)] : List Value).toArray 2 from by rw [hargs], lg_entry_eq]
  generalize (lg_sl [.ref (xw_ad G 0)] ++ List.replicate (2 - (lg_sl [.ref (xw_ad G 0)]).length) Slot.unset).toArray = ls at hl ⊢
  have hP : va_P (xw_D G) xw_cl (xw_W G w0) s.heap := hP
  have hl : lv_has ls 2 [(0, .ref (xw_ad G 0))] := hl
  have HH : ∀ (H : Heap) (locs : List Loc) (hP : va_P (xw_D G) xw_cl (xw_W G w0) H) (hS : va_S (xw_A G) s.heap H locs), xw_Wi G p l e (xw_rm (45) (973)) s m args below meth c H locs r0 wz (F0 m 0 ls []) := by
    intro H locs hP hS
    unfold fX7_parish at hf
    refine lv_aload_n hx hb dX7_parish_0 rfl (lv_at hl 0 rfl) ?_
    refine lv_aload_n hx hb dX7_parish_1 rfl (lv_at hl 0 rfl) ?_
    refine xw_get hB hK hP (xw_o7 G) (C := RX7) (T := TX7) (N := 11) rfl TBi_X7 6 (by decide) tw_261 rfl rfl dX7_parish_2 ?_
    replace hf := xw_bp_e hf
    obtain ⟨r1, he2, hf⟩ := hf
    refine xw_Vq hB hK hE hS hP (As := [.int (w0.1 0 6)]) (rest := []) (kX7_parishAt l G hG (w0.1 0 6) w0 _ he2) gs_X7_155 (xw_rc hK hP (C := RX7) (T := TX7) (N := 11) (xw_o7 G) rfl) 1 hv_X7_parishAt ⟨Nat.le_of_ble_eq_true rfl, Nat.le_of_ble_eq_true rfl⟩ rfl hl.1 (Nat.le_of_ble_eq_true rfl) rfl dX7_parish_5 ⟨Nat.zero_le _, Nat.zero_le _⟩ (fun H locs hP hS => ?_)
    cases r1 with
    | none =>
      replace hf := xw_om_n hf
      refine lv_astore_nN (lv' := [(1, .null), (0, .ref (xw_ad G 0))]) hx hb dX7_parish_8 rfl hl (by decide) rfl (fun ls hl => ?_)
      refine lv_aload_nN hx hb dX7_parish_9 rfl (lv_at hl 0 rfl) ?_
      refine lv_ifnonnullN hx hb dX7_parish_10 ?_
      refine lv_bipush (v := (-4)) hx hb dX7_parish_13 (by decide) ?_
      obtain ⟨h0, h1⟩ := xw_s2 hf
      exact xw_iret hB hK hE hS hP hr hlk h0 h1 dX7_parish_15
    | some t3 =>
      replace hf := xw_om_s hf
      replace hf := xw_cc_e hf
      obtain ⟨ht4, hf⟩ := hf
      refine lv_astore_n (lv' := [(1, .ref (xw_ad G t3)), (0, .ref (xw_ad G 0))]) hx hb dX7_parish_8 rfl hl (by decide) rfl (fun ls hl => ?_)
      refine lv_aload_n hx hb dX7_parish_9 rfl (lv_at hl 0 rfl) ?_
      refine lv_ifnonnull (tgt := 16) hx hb dX7_parish_10 (by decide) ?_
      refine lv_aload_n hx hb dX7_parish_16 rfl (lv_at hl 1 rfl) ?_
      refine xw_get hB hK hP (xw_o7 G) (C := RX7) (T := TX7) (N := 11) rfl TBi_X7 4 (by decide) tw_259 rfl rfl dX7_parish_17 ?_
      refine lv_aload_n hx hb dX7_parish_20 rfl (lv_at hl 0 rfl) ?_
      replace hf := xw_b_e hf
      obtain ⟨r5, w6, he7, hf⟩ := hf
      refine xw_Vi hB hK hE hS hP (As := [.ref (xw_ad G t3)]) (rest := []) (kX3_readAll l G hG n t3 ht4 w0 _ _ he7) gs_X7_159 (xw_rc hK hP (C := RX3) (T := TX3) (N := 6) (xw_o3 G) rfl) 1 hv_X3_readAll ⟨Nat.le_of_ble_eq_true rfl, Nat.le_of_ble_eq_true rfl⟩ rfl hl.1 (Nat.le_of_ble_eq_true rfl) rfl dX7_parish_21 ⟨Nat.zero_le _, Nat.zero_le _⟩ (fun H locs hP hS => ?_)
      refine lv_if_ne (tgt := 38) hx hb dX7_parish_24 (by decide) (fun c8 => ?_) (fun c8 => ?_)
      · replace hf := xw_in' c8 hf
        refine lv_aload_n hx hb dX7_parish_38 rfl (lv_at hl 1 rfl) ?_
        refine xw_get hB hK hP (xw_o7 G) (C := RX7) (T := TX7) (N := 11) rfl TBi_X7 0 (by decide) tw_255 rfl rfl dX7_parish_39 ?_
        refine lv_aload_n hx hb dX7_parish_42 rfl (lv_at hl 1 rfl) ?_
        refine xw_get hB hK hP (xw_o7 G) (C := RX7) (T := TX7) (N := 11) rfl TBi_X7 6 (by decide) tw_261 rfl rfl dX7_parish_43 ?_
        refine xw_put hG hB hK hS hP (x := w6.1 0 6) (xw_o5 G (Or.inl rfl)) (C := RX5) (T := TX5) (N := 14) rfl TBi_X5 tyX5 tyX5_ok nmX5 10 (by decide) tw_93 rfl rfl rfl rfl rfl (Nat.le_of_ble_eq_true rfl) rfl dX7_parish_46 (fun w9 ew9 H locs hP hS => ?_)
        replace hf := xw_lt_e ew9 hf
        refine lv_aload_n hx hb dX7_parish_49 rfl (lv_at hl 1 rfl) ?_
        refine lv_dup hx hb dX7_parish_50 rfl ?_
        refine xw_get hB hK hP (xw_o7 G) (C := RX7) (T := TX7) (N := 11) rfl TBi_X7 6 (by decide) tw_261 rfl rfl dX7_parish_51 ?_
        refine lv_iconst (v := 1) hx hb dX7_parish_54 (by decide) ?_
        refine lv_iadd hx hb dX7_parish_55 ?_
        refine xw_put hG hB hK hS hP (x := (w9.1 0 6) + (1 : Int32)) (xw_o7 G) (C := RX7) (T := TX7) (N := 11) rfl TBi_X7 tyX7 tyX7_ok nmX7 6 (by decide) tw_261 rfl rfl rfl rfl rfl (Nat.le_of_ble_eq_true rfl) rfl dX7_parish_56 (fun w10 ew10 H locs hP hS => ?_)
        replace hf := xw_lt_e ew10 hf
        refine lv_aload_n hx hb dX7_parish_59 rfl (lv_at hl 1 rfl) ?_
        refine xw_get hB hK hP (xw_o7 G) (C := RX7) (T := TX7) (N := 11) rfl TBi_X7 0 (by decide) tw_255 rfl rfl dX7_parish_60 ?_
        refine xw_get hB hK hP (xw_o5 G (Or.inl rfl)) (C := RX5) (T := TX5) (N := 14) rfl TBi_X5 10 (by decide) tw_93 rfl rfl dX7_parish_63 ?_
        obtain ⟨h0, h1⟩ := xw_s2 hf
        exact xw_iret hB hK hE hS hP hr hlk h0 h1 dX7_parish_66
      · replace hf := xw_ip c8 hf
        refine lv_bipush (v := (-10)) hx hb dX7_parish_27 (by decide) ?_
        refine lv_aload_n hx hb dX7_parish_29 rfl (lv_at hl 1 rfl) ?_
        refine xw_get hB hK hP (xw_o7 G) (C := RX7) (T := TX7) (N := 11) rfl TBi_X7 4 (by decide) tw_259 rfl rfl dX7_parish_30 ?_
        refine xw_get hB hK hP (xw_o3 G) (C := RX3) (T := TX3) (N := 6) rfl TBi_X3 2 (by decide) tw_174 rfl rfl dX7_parish_33 ?_
        refine lv_isub hx hb dX7_parish_36 ?_
        obtain ⟨h0, h1⟩ := xw_s2 hf
        exact xw_iret hB hK hE hS hP hr hlk h0 h1 dX7_parish_37
  exact HH s.heap [] hP hS
def fX7_copyRow (a0 : Nat) (n0 : Nat) (a1 : Nat) (n1 : Nat) (w0 : xw_M) : Option (Unit × xw_M) := xw_cc (¬ (0 : Int32) < 0 ∧ ¬ (0 : Int32) < 0 ∧ ¬ (if (nI n1) < (nI n0) then (nI n1) else (nI n0)) < 0 ∧ (0 : Int32).toNatClampNeg + (if (nI n1) < (nI n0) then (nI n1) else (nI n0)).toNatClampNeg ≤ n0 ∧ (0 : Int32).toNatClampNeg + (if (nI n1) < (nI n0) then (nI n1) else (nI n0)).toNatClampNeg ≤ n1) (xw_lt (xw_ci w0 a0 a1 (0 : Int32).toNatClampNeg (0 : Int32).toNatClampNeg (if (nI n1) < (nI n0) then (nI n1) else (nI n0)).toNatClampNeg) (fun w1 => some ((), w1)))
set_option maxHeartbeats 4000000 in
set_option maxRecDepth 100000 in
theorem kX7_copyRow (l : Launch) (G : xw_G) (hG : xw_ok G) (a0 : Nat) (n0 : Nat) (a1 : Nat) (n1 : Nat) (ha0 : xw_ia G 0 a0 n0) (ha1 : xw_ia G 0 a1 n1) (w0 : xw_M) (r0 : Unit) (wz : xw_M) (hf : fX7_copyRow a0 n0 a1 n1 w0 = some (r0, wz)) : xw_Tv l G yX7_copyRow cX7_copyRow 2 ((Option.none : Option Jvm.ClassFile.FieldType)) (1) (60) [.ref (xw_ad G a0), .ref (xw_ad G a1)] w0 r0 wz := by
  unfold xw_Tv
  refine Met.ofW (cc := cX7_copyRow) (maxL := 2) (ret := (Option.none : Option Jvm.ClassFile.FieldType)) (by decide) rfl ?_
  intro p e s m args below meth c s₁ B hml hv
  obtain ⟨hargs, hP, hK, hE⟩ := hv
  have hx := B.exec
  have hb := B.bytes
  have hr := B.returns
  have hlk := B.notSynchronized
  have hB : CallFix p m c cX7_copyRow 2 s args TB RX7 := ⟨hx, hb, hml, findClass_of_methodNamed B.named, fun q h => (atoms_spec (ws := Cond.code yX7_copyRow cX7_copyRow 2 ((Option.none : Option Jvm.ClassFile.FieldType)) :: TB) B.pre) q (List.mem_cons_of_mem _ h)⟩
  have hS : va_S (xw_A G) s.heap s.heap [] := va_S.rf
  have hl := lv_entry [.ref (xw_ad G a0), .ref (xw_ad G a1)] (n := 2) (Nat.le_of_ble_eq_true rfl)
  rw [show entryFrame m args 2 = entryFrame m ([.ref (xw_ad G a0), .ref (xw_ad G a1)] : List Value).toArray 2 from by rw [hargs], lg_entry_eq]
  generalize (lg_sl [.ref (xw_ad G a0), .ref (xw_ad G a1)] ++ List.replicate (2 - (lg_sl [.ref (xw_ad G a0), .ref (xw_ad G a1)]).length) Slot.unset).toArray = ls at hl ⊢
  have hP : va_P (xw_D G) xw_cl (xw_W G w0) s.heap := hP
  have hl : lv_has ls 2 [(0, .ref (xw_ad G a0)), (1, .ref (xw_ad G a1))] := hl
  have HH : ∀ (H : Heap) (locs : List Loc) (hP : va_P (xw_D G) xw_cl (xw_W G w0) H) (hS : va_S (xw_A G) s.heap H locs), xw_Wv G p l e (xw_rm (1) (60)) s m args below meth c H locs r0 wz (F0 m 0 ls []) := by
    intro H locs hP hS
    unfold fX7_copyRow at hf
    refine lv_aload_n hx hb dX7_copyRow_0 rfl (lv_at hl 0 rfl) ?_
    refine lv_iconst (v := 0) hx hb dX7_copyRow_1 (by decide) ?_
    refine lv_aload_n hx hb dX7_copyRow_2 rfl (lv_at hl 1 rfl) ?_
    refine lv_iconst (v := 0) hx hb dX7_copyRow_3 (by decide) ?_
    refine lv_aload_n hx hb dX7_copyRow_4 rfl (lv_at hl 0 rfl) ?_
    refine xw_ilen hB hK hP ha0 rfl dX7_copyRow_5 ?_
    refine lv_aload_n hx hb dX7_copyRow_6 rfl (lv_at hl 1 rfl) ?_
    refine xw_ilen hB hK hP ha1 rfl dX7_copyRow_7 ?_
    refine va_mmin hx hb (hB.2.2.1.trans hl.1.symm) hB.2.2.2.1 (hB.2.2.2.2 _ tm_524) (hB.2.2.2.2 _ tm_38) (hB.2.2.2.2 _ tw_4) (hB.2.2.2.2 _ tm_39) (Nat.le_of_ble_eq_true rfl) (Nat.le_of_ble_eq_true rfl) (Nat.zero_le _) (Nat.zero_le _) dX7_copyRow_8 ?_
    replace hf := xw_cc_e hf
    obtain ⟨hc2, hf⟩ := hf
    refine xw_copyi hG hB hK hS hP ha0 ha1 hc2 tw_525 tw_527 tw_526 tw_15 hl.1 (Nat.le_of_ble_eq_true rfl) (Nat.le_of_ble_eq_true rfl) dX7_copyRow_11 (fun w1 ew1 H locs hP hS => ?_)
    replace hf := xw_lt_e ew1 hf
    obtain ⟨h0, h1⟩ := xw_s2 hf
    exact xw_vret hB hK hE hS hP hr hlk h1 dX7_copyRow_14
  exact HH s.heap [] hP hS
def fX1_takeAfter (b : Nat) (a1 : Nat) (w0 : xw_M) : Option (Unit × xw_M) := xw_b (fX7_copyRow (a1 + 1) 8 (b + 1) 8 w0) (fun (_ : Unit) w2 => xw_b (fX7_copyRow (a1 + 2) 8 (b + 2) 8 w2) (fun (_ : Unit) w5 => xw_lt (xw_si w5 b 3 (w5.1 a1 3)) (fun w7 => some ((), w7))))
set_option maxHeartbeats 4000000 in
set_option maxRecDepth 100000 in
theorem kX1_takeAfter (l : Launch) (G : xw_G) (hG : xw_ok G) (b : Nat) (a1 : Nat) (hb0 : xw_pr b) (ha1 : xw_pr a1) (w0 : xw_M) (r0 : Unit) (wz : xw_M) (hf : fX1_takeAfter b a1 w0 = some (r0, wz)) : xw_Tv l G yX1_takeAfter cX1_takeAfter 2 ((Option.none : Option Jvm.ClassFile.FieldType)) (2) (81) [.ref (xw_ad G b), .ref (xw_ad G a1)] w0 r0 wz := by
  unfold xw_Tv
  refine Met.ofW (cc := cX1_takeAfter) (maxL := 2) (ret := (Option.none : Option Jvm.ClassFile.FieldType)) (by decide) rfl ?_
  intro p e s m args below meth c s₁ B hml hv
  obtain ⟨hargs, hP, hK, hE⟩ := hv
  have hx := B.exec
  have hb := B.bytes
  have hr := B.returns
  have hlk := B.notSynchronized
  have hB : CallFix p m c cX1_takeAfter 2 s args TB RX1 := ⟨hx, hb, hml, findClass_of_methodNamed B.named, fun q h => (atoms_spec (ws := Cond.code yX1_takeAfter cX1_takeAfter 2 ((Option.none : Option Jvm.ClassFile.FieldType)) :: TB) B.pre) q (List.mem_cons_of_mem _ h)⟩
  have hS : va_S (xw_A G) s.heap s.heap [] := va_S.rf
  have hl := lv_entry [.ref (xw_ad G b), .ref (xw_ad G a1)] (n := 2) (Nat.le_of_ble_eq_true rfl)
  rw [show entryFrame m args 2 = entryFrame m ([.ref (xw_ad G b), .ref (xw_ad G a1)] : List Value).toArray 2 from by rw [hargs], lg_entry_eq]
  generalize (lg_sl [.ref (xw_ad G b), .ref (xw_ad G a1)] ++ List.replicate (2 - (lg_sl [.ref (xw_ad G b), .ref (xw_ad G a1)]).length) Slot.unset).toArray = ls at hl ⊢
  have hP : va_P (xw_D G) xw_cl (xw_W G w0) s.heap := hP
  have hl : lv_has ls 2 [(0, .ref (xw_ad G b)), (1, .ref (xw_ad G a1))] := hl
  have HH : ∀ (H : Heap) (locs : List Loc) (hP : va_P (xw_D G) xw_cl (xw_W G w0) H) (hS : va_S (xw_A G) s.heap H locs), xw_Wv G p l e (xw_rm (2) (81)) s m args below meth c H locs r0 wz (F0 m 0 ls []) := by
    intro H locs hP hS
    unfold fX1_takeAfter at hf
    refine lv_aload_n hx hb dX1_takeAfter_0 rfl (lv_at hl 1 rfl) ?_
    refine xw_get hB hK hP (xw_o1 G ha1) (C := RX1) (T := TX1) (N := 4) rfl TBi_X1 1 (by decide) tw_41 rfl rfl dX1_takeAfter_1 ?_
    refine lv_aload_n hx hb dX1_takeAfter_4 rfl (lv_at hl 0 rfl) ?_
    refine xw_get hB hK hP (xw_o1 G hb0) (C := RX1) (T := TX1) (N := 4) rfl TBi_X1 1 (by decide) tw_41 rfl rfl dX1_takeAfter_5 ?_
    replace hf := xw_b_e hf
    obtain ⟨r1, w2, he3, hf⟩ := hf
    refine xw_Nv hB hK hE hS hP (As := [.ref (xw_ad G (a1 + 1)), .ref (xw_ad G (b + 1))]) (rest := []) (kX7_copyRow l G hG (a1 + 1) 8 (b + 1) 8 (xw_a1_1 G ha1) (xw_a1_1 G hb0) w0 _ _ he3) (host := RX7) (by decide +kernel) tw_523 tw_522 tw_1 2 hs_X7_copyRow ⟨Nat.le_of_ble_eq_true rfl, Nat.le_of_ble_eq_true rfl⟩ rfl hl.1 (Nat.le_of_ble_eq_true rfl) rfl dX1_takeAfter_8 ⟨Nat.zero_le _, Nat.zero_le _⟩ (fun H locs hP hS => ?_)
    refine lv_aload_n hx hb dX1_takeAfter_11 rfl (lv_at hl 1 rfl) ?_
    refine xw_get hB hK hP (xw_o1 G ha1) (C := RX1) (T := TX1) (N := 4) rfl TBi_X1 2 (by decide) tw_44 rfl rfl dX1_takeAfter_12 ?_
    refine lv_aload_n hx hb dX1_takeAfter_15 rfl (lv_at hl 0 rfl) ?_
    refine xw_get hB hK hP (xw_o1 G hb0) (C := RX1) (T := TX1) (N := 4) rfl TBi_X1 2 (by decide) tw_44 rfl rfl dX1_takeAfter_16 ?_
    replace hf := xw_b_e hf
    obtain ⟨r4, w5, he6, hf⟩ := hf
    refine xw_Nv hB hK hE hS hP (As := [.ref (xw_ad G (a1 + 2)), .ref (xw_ad G (b + 2))]) (rest := []) (kX7_copyRow l G hG (a1 + 2) 8 (b + 2) 8 (xw_a1_2 G ha1) (xw_a1_2 G hb0) w2 _ _ he6) (host := RX7) (by decide +kernel) tw_523 tw_522 tw_1 2 hs_X7_copyRow ⟨Nat.le_of_ble_eq_true rfl, Nat.le_of_ble_eq_true rfl⟩ rfl hl.1 (Nat.le_of_ble_eq_true rfl) rfl dX1_takeAfter_19 ⟨Nat.zero_le _, Nat.zero_le _⟩ (fun H locs hP hS => ?_)
    refine lv_aload_n hx hb dX1_takeAfter_22 rfl (lv_at hl 0 rfl) ?_
    refine lv_aload_n hx hb dX1_takeAfter_23 rfl (lv_at hl 1 rfl) ?_
    refine xw_get hB hK hP (xw_o1 G ha1) (C := RX1) (T := TX1) (N := 4) rfl TBi_X1 3 (by decide) tw_47 rfl rfl dX1_takeAfter_24 ?_
    refine xw_put hG hB hK hS hP (x := w5.1 a1 3) (xw_o1 G hb0) (C := RX1) (T := TX1) (N := 4) rfl TBi_X1 tyX1 tyX1_ok nmX1 3 (by decide) tw_47 rfl rfl rfl rfl rfl (Nat.le_of_ble_eq_true rfl) rfl dX1_takeAfter_27 (fun w7 ew7 H locs hP hS => ?_)
    replace hf := xw_lt_e ew7 hf
    obtain ⟨h0, h1⟩ := xw_s2 hf
    exact xw_vret hB hK hE hS hP hr hlk h1 dX1_takeAfter_30
  exact HH s.heap [] hP hS
def fX5_takeAfter (b : Nat) (a1 : Nat) (w0 : xw_M) : Option (Unit × xw_M) := xw_lt (xw_si w0 b 0 (w0.1 a1 0)) (fun w1 => xw_b (fX7_copyRow (a1 + 1) 6 (b + 1) 6 w1) (fun (_ : Unit) w3 => xw_b (fX7_copyRow (a1 + 2) 6 (b + 2) 6 w3) (fun (_ : Unit) w6 => xw_b (fX7_copyRow (a1 + 3) 6 (b + 3) 6 w6) (fun (_ : Unit) w9 => xw_b (fX7_copyRow (a1 + 4) 6 (b + 4) 6 w9) (fun (_ : Unit) w12 => xw_b (fX7_copyRow (a1 + 5) 6 (b + 5) 6 w12) (fun (_ : Unit) w15 => xw_b (fX7_copyRow (a1 + 6) 24 (b + 6) 24 w15) (fun (_ : Unit) w18 => xw_lt (xw_si w18 b 7 (w18.1 a1 7)) (fun w20 => xw_lt (xw_si w20 b 8 (w20.1 a1 8)) (fun w21 => xw_lt (xw_si w21 b 9 (w21.1 a1 9)) (fun w22 => xw_lt (xw_si w22 b 10 (w22.1 a1 10)) (fun w23 => xw_b (fX1_takeAfter (b + 7) (a1 + 7) w23) (fun (_ : Unit) w25 => xw_b (fX1_takeAfter (b + 10) (a1 + 10) w25) (fun (_ : Unit) w28 => xw_b (fX1_takeAfter (b + 13) (a1 + 13) w28) (fun (_ : Unit) w31 => some ((), w31)))))))))))))))
set_option maxHeartbeats 4000000 in
set_option maxRecDepth 100000 in
theorem kX5_takeAfter (l : Launch) (G : xw_G) (hG : xw_ok G) (b : Nat) (a1 : Nat) (hb0 : xw_sc b) (ha1 : xw_sc a1) (w0 : xw_M) (r0 : Unit) (wz : xw_M) (hf : fX5_takeAfter b a1 w0 = some (r0, wz)) : xw_Tv l G yX5_takeAfter cX5_takeAfter 2 ((Option.none : Option Jvm.ClassFile.FieldType)) (3) (102) [.ref (xw_ad G b), .ref (xw_ad G a1)] w0 r0 wz := by
  unfold xw_Tv
  refine Met.ofW (cc := cX5_takeAfter) (maxL := 2) (ret := (Option.none : Option Jvm.ClassFile.FieldType)) (by decide) rfl ?_
  intro p e s m args below meth c s₁ B hml hv
  obtain ⟨hargs, hP, hK, hE⟩ := hv
  have hx := B.exec
  have hb := B.bytes
  have hr := B.returns
  have hlk := B.notSynchronized
  have hB : CallFix p m c cX5_takeAfter 2 s args TB RX5 := ⟨hx, hb, hml, findClass_of_methodNamed B.named, fun q h => (atoms_spec (ws := Cond.code yX5_takeAfter cX5_takeAfter 2 ((Option.none : Option Jvm.ClassFile.FieldType)) :: TB) B.pre) q (List.mem_cons_of_mem _ h)⟩
  have hS : va_S (xw_A G) s.heap s.heap [] := va_S.rf
  have hl := lv_entry [.ref (xw_ad G b), .ref (xw_ad G a1)] (n := 2) (Nat.le_of_ble_eq_true rfl)
  rw [show entryFrame m args 2 = entryFrame m ([.ref (xw_ad G b), .ref (xw_ad G a1)] : List Value).toArray 2 from by rw [hargs], lg_entry_eq]
  generalize (lg_sl [.ref (xw_ad G b), .ref (xw_ad G a1)] ++ List.replicate (2 - (lg_sl [.ref (xw_ad G b), .ref (xw_ad G a1)]).length) Slot.unset).toArray = ls at hl ⊢
  have hP : va_P (xw_D G) xw_cl (xw_W G w0) s.heap := hP
  have hl : lv_has ls 2 [(0, .ref (xw_ad G b)), (1, .ref (xw_ad G a1))] := hl
  have HH : ∀ (H : Heap) (locs : List Loc) (hP : va_P (xw_D G) xw_cl (xw_W G w0) H) (hS : va_S (xw_A G) s.heap H locs), xw_Wv G p l e (xw_rm (3) (102)) s m args below meth c H locs r0 wz (F0 m 0 ls []) := by
    intro H locs hP hS
    unfold fX5_takeAfter at hf
    refine lv_aload_n hx hb dX5_takeAfter_0 rfl (lv_at hl 0 rfl) ?_
    refine lv_aload_n hx hb dX5_takeAfter_1 rfl (lv_at hl 1 rfl) ?_
    refine xw_get hB hK hP (xw_o5 G ha1) (C := RX5) (T := TX5) (N := 14) rfl TBi_X5 0 (by decide) tw_60 rfl rfl dX5_takeAfter_2 ?_
    refine xw_put hG hB hK hS hP (x := w0.1 a1 0) (xw_o5 G hb0) (C := RX5) (T := TX5) (N := 14) rfl TBi_X5 tyX5 tyX5_ok nmX5 0 (by decide) tw_60 rfl rfl rfl rfl rfl (Nat.le_of_ble_eq_true rfl) rfl dX5_takeAfter_5 (fun w1 ew1 H locs hP hS => ?_)
    replace hf := xw_lt_e ew1 hf
    refine lv_aload_n hx hb dX5_takeAfter_8 rfl (lv_at hl 1 rfl) ?_
    refine xw_get hB hK hP (xw_o5 G ha1) (C := RX5) (T := TX5) (N := 14) rfl TBi_X5 1 (by decide) tw_63 rfl rfl dX5_takeAfter_9 ?_
    refine lv_aload_n hx hb dX5_takeAfter_12 rfl (lv_at hl 0 rfl) ?_
    refine xw_get hB hK hP (xw_o5 G hb0) (C := RX5) (T := TX5) (N := 14) rfl TBi_X5 1 (by decide) tw_63 rfl rfl dX5_takeAfter_13 ?_
    replace hf := xw_b_e hf
    obtain ⟨r2, w3, he4, hf⟩ := hf
    refine xw_Nv hB hK hE hS hP (As := [.ref (xw_ad G (a1 + 1)), .ref (xw_ad G (b + 1))]) (rest := []) (kX7_copyRow l G hG (a1 + 1) 6 (b + 1) 6 (xw_a5_1 G ha1) (xw_a5_1 G hb0) w1 _ _ he4) (host := RX7) (by decide +kernel) tw_523 tw_522 tw_1 2 hs_X7_copyRow ⟨Nat.le_of_ble_eq_true rfl, Nat.le_of_ble_eq_true rfl⟩ rfl hl.1 (Nat.le_of_ble_eq_true rfl) rfl dX5_takeAfter_16 ⟨Nat.zero_le _, Nat.zero_le _⟩ (fun H locs hP hS => ?_)
    refine lv_aload_n hx hb dX5_takeAfter_19 rfl (lv_at hl 1 rfl) ?_
    refine xw_get hB hK hP (xw_o5 G ha1) (C := RX5) (T := TX5) (N := 14) rfl TBi_X5 2 (by decide) tw_67 rfl rfl dX5_takeAfter_20 ?_
    refine lv_aload_n hx hb dX5_takeAfter_23 rfl (lv_at hl 0 rfl) ?_
    refine xw_get hB hK hP (xw_o5 G hb0) (C := RX5) (T := TX5) (N := 14) rfl TBi_X5 2 (by decide) tw_67 rfl rfl dX5_takeAfter_24 ?_
    replace hf := xw_b_e hf
    obtain ⟨r5, w6, he7, hf⟩ := hf
    refine xw_Nv hB hK hE hS hP (As := [.ref (xw_ad G (a1 + 2)), .ref (xw_ad G (b + 2))]) (rest := []) (kX7_copyRow l G hG (a1 + 2) 6 (b + 2) 6 (xw_a5_2 G ha1) (xw_a5_2 G hb0) w3 _ _ he7) (host := RX7) (by decide +kernel) tw_523 tw_522 tw_1 2 hs_X7_copyRow ⟨Nat.le_of_ble_eq_true rfl, Nat.le_of_ble_eq_true rfl⟩ rfl hl.1 (Nat.le_of_ble_eq_true rfl) rfl dX5_takeAfter_27 ⟨Nat.zero_le _, Nat.zero_le _⟩ (fun H locs hP hS => ?_)
    refine lv_aload_n hx hb dX5_takeAfter_30 rfl (lv_at hl 1 rfl) ?_
    refine xw_get hB hK hP (xw_o5 G ha1) (C := RX5) (T := TX5) (N := 14) rfl TBi_X5 3 (by decide) tw_71 rfl rfl dX5_takeAfter_31 ?_
    refine lv_aload_n hx hb dX5_takeAfter_34 rfl (lv_at hl 0 rfl) ?_
    refine xw_get hB hK hP (xw_o5 G hb0) (C := RX5) (T := TX5) (N := 14) rfl TBi_X5 3 (by decide) tw_71 rfl rfl dX5_takeAfter_35 ?_
    replace hf := xw_b_e hf
    obtain ⟨r8, w9, he10, hf⟩ := hf
    refine xw_Nv hB hK hE hS hP (As := [.ref (xw_ad G (a1 + 3)), .ref (xw_ad G (b + 3))]) (rest := []) (kX7_copyRow l G hG (a1 + 3) 6 (b + 3) 6 (xw_a5_3 G ha1) (xw_a5_3 G hb0) w6 _ _ he10) (host := RX7) (by decide +kernel) tw_523 tw_522 tw_1 2 hs_X7_copyRow ⟨Nat.le_of_ble_eq_true rfl, Nat.le_of_ble_eq_true rfl⟩ rfl hl.1 (Nat.le_of_ble_eq_true rfl) rfl dX5_takeAfter_38 ⟨Nat.zero_le _, Nat.zero_le _⟩ (fun H locs hP hS => ?_)
    refine lv_aload_n hx hb dX5_takeAfter_41 rfl (lv_at hl 1 rfl) ?_
    refine xw_get hB hK hP (xw_o5 G ha1) (C := RX5) (T := TX5) (N := 14) rfl TBi_X5 4 (by decide) tw_74 rfl rfl dX5_takeAfter_42 ?_
    refine lv_aload_n hx hb dX5_takeAfter_45 rfl (lv_at hl 0 rfl) ?_
    refine xw_get hB hK hP (xw_o5 G hb0) (C := RX5) (T := TX5) (N := 14) rfl TBi_X5 4 (by decide) tw_74 rfl rfl dX5_takeAfter_46 ?_
    replace hf := xw_b_e hf
    obtain ⟨r11, w12, he13, hf⟩ := hf
    refine xw_Nv hB hK hE hS hP (As := [.ref (xw_ad G (a1 + 4)), .ref (xw_ad G (b + 4))]) (rest := []) (kX7_copyRow l G hG (a1 + 4) 6 (b + 4) 6 (xw_a5_4 G ha1) (xw_a5_4 G hb0) w9 _ _ he13) (host := RX7) (by decide +kernel) tw_523 tw_522 tw_1 2 hs_X7_copyRow ⟨Nat.le_of_ble_eq_true rfl, Nat.le_of_ble_eq_true rfl⟩ rfl hl.1 (Nat.le_of_ble_eq_true rfl) rfl dX5_takeAfter_49 ⟨Nat.zero_le _, Nat.zero_le _⟩ (fun H locs hP hS => ?_)
    refine lv_aload_n hx hb dX5_takeAfter_52 rfl (lv_at hl 1 rfl) ?_
    refine xw_get hB hK hP (xw_o5 G ha1) (C := RX5) (T := TX5) (N := 14) rfl TBi_X5 5 (by decide) tw_77 rfl rfl dX5_takeAfter_53 ?_
    refine lv_aload_n hx hb dX5_takeAfter_56 rfl (lv_at hl 0 rfl) ?_
    refine xw_get hB hK hP (xw_o5 G hb0) (C := RX5) (T := TX5) (N := 14) rfl TBi_X5 5 (by decide) tw_77 rfl rfl dX5_takeAfter_57 ?_
    replace hf := xw_b_e hf
    obtain ⟨r14, w15, he16, hf⟩ := hf
    refine xw_Nv hB hK hE hS hP (As := [.ref (xw_ad G (a1 + 5)), .ref (xw_ad G (b + 5))]) (rest := []) (kX7_copyRow l G hG (a1 + 5) 6 (b + 5) 6 (xw_a5_5 G ha1) (xw_a5_5 G hb0) w12 _ _ he16) (host := RX7) (by decide +kernel) tw_523 tw_522 tw_1 2 hs_X7_copyRow ⟨Nat.le_of_ble_eq_true rfl, Nat.le_of_ble_eq_true rfl⟩ rfl hl.1 (Nat.le_of_ble_eq_true rfl) rfl dX5_takeAfter_60 ⟨Nat.zero_le _, Nat.zero_le _⟩ (fun H locs hP hS => ?_)
    refine lv_aload_n hx hb dX5_takeAfter_63 rfl (lv_at hl 1 rfl) ?_
    refine xw_get hB hK hP (xw_o5 G ha1) (C := RX5) (T := TX5) (N := 14) rfl TBi_X5 6 (by decide) tw_80 rfl rfl dX5_takeAfter_64 ?_
    refine lv_aload_n hx hb dX5_takeAfter_67 rfl (lv_at hl 0 rfl) ?_
    refine xw_get hB hK hP (xw_o5 G hb0) (C := RX5) (T := TX5) (N := 14) rfl TBi_X5 6 (by decide) tw_80 rfl rfl dX5_takeAfter_68 ?_
    replace hf := xw_b_e hf
    obtain ⟨r17, w18, he19, hf⟩ := hf
    refine xw_Nv hB hK hE hS hP (As := [.ref (xw_ad G (a1 + 6)), .ref (xw_ad G (b + 6))]) (rest := []) (kX7_copyRow l G hG (a1 + 6) 24 (b + 6) 24 (xw_a5_6 G ha1) (xw_a5_6 G hb0) w15 _ _ he19) (host := RX7) (by decide +kernel) tw_523 tw_522 tw_1 2 hs_X7_copyRow ⟨Nat.le_of_ble_eq_true rfl, Nat.le_of_ble_eq_true rfl⟩ rfl hl.1 (Nat.le_of_ble_eq_true rfl) rfl dX5_takeAfter_71 ⟨Nat.zero_le _, Nat.zero_le _⟩ (fun H locs hP hS => ?_)
    refine lv_aload_n hx hb dX5_takeAfter_74 rfl (lv_at hl 0 rfl) ?_
    refine lv_aload_n hx hb dX5_takeAfter_75 rfl (lv_at hl 1 rfl) ?_
    refine xw_get hB hK hP (xw_o5 G ha1) (C := RX5) (T := TX5) (N := 14) rfl TBi_X5 7 (by decide) tw_83 rfl rfl dX5_takeAfter_76 ?_
    refine xw_put hG hB hK hS hP (x := w18.1 a1 7) (xw_o5 G hb0) (C := RX5) (T := TX5) (N := 14) rfl TBi_X5 tyX5 tyX5_ok nmX5 7 (by decide) tw_83 rfl rfl rfl rfl rfl (Nat.le_of_ble_eq_true rfl) rfl dX5_takeAfter_79 (fun w20 ew20 H locs hP hS => ?_)
    replace hf := xw_lt_e ew20 hf
    refine lv_aload_n hx hb dX5_takeAfter_82 rfl (lv_at hl 0 rfl) ?_
    refine lv_aload_n hx hb dX5_takeAfter_83 rfl (lv_at hl 1 rfl) ?_
    refine xw_get hB hK hP (xw_o5 G ha1) (C := RX5) (T := TX5) (N := 14) rfl TBi_X5 8 (by decide) tw_86 rfl rfl dX5_takeAfter_84 ?_
    refine xw_put hG hB hK hS hP (x := w20.1 a1 8) (xw_o5 G hb0) (C := RX5) (T := TX5) (N := 14) rfl TBi_X5 tyX5 tyX5_ok nmX5 8 (by decide) tw_86 rfl rfl rfl rfl rfl (Nat.le_of_ble_eq_true rfl) rfl dX5_takeAfter_87 (fun w21 ew21 H locs hP hS => ?_)
    replace hf := xw_lt_e ew21 hf
    refine lv_aload_n hx hb dX5_takeAfter_90 rfl (lv_at hl 0 rfl) ?_
    refine lv_aload_n hx hb dX5_takeAfter_91 rfl (lv_at hl 1 rfl) ?_
    refine xw_get hB hK hP (xw_o5 G ha1) (C := RX5) (T := TX5) (N := 14) rfl TBi_X5 9 (by decide) tw_90 rfl rfl dX5_takeAfter_92 ?_
    refine xw_put hG hB hK hS hP (x := w21.1 a1 9) (xw_o5 G hb0) (C := RX5) (T := TX5) (N := 14) rfl TBi_X5 tyX5 tyX5_ok nmX5 9 (by decide) tw_90 rfl rfl rfl rfl rfl (Nat.le_of_ble_eq_true rfl) rfl dX5_takeAfter_95 (fun w22 ew22 H locs hP hS => ?_)
    replace hf := xw_lt_e ew22 hf
    refine lv_aload_n hx hb dX5_takeAfter_98 rfl (lv_at hl 0 rfl) ?_
    refine lv_aload_n hx hb dX5_takeAfter_99 rfl (lv_at hl 1 rfl) ?_
    refine xw_get hB hK hP (xw_o5 G ha1) (C := RX5) (T := TX5) (N := 14) rfl TBi_X5 10 (by decide) tw_92 rfl rfl dX5_takeAfter_100 ?_
    refine xw_put hG hB hK hS hP (x := w22.1 a1 10) (xw_o5 G hb0) (C := RX5) (T := TX5) (N := 14) rfl TBi_X5 tyX5 tyX5_ok nmX5 10 (by decide) tw_92 rfl rfl rfl rfl rfl (Nat.le_of_ble_eq_true rfl) rfl dX5_takeAfter_103 (fun w23 ew23 H locs hP hS => ?_)
    replace hf := xw_lt_e ew23 hf
    refine lv_aload_n hx hb dX5_takeAfter_106 rfl (lv_at hl 0 rfl) ?_
    refine xw_get hB hK hP (xw_o5 G hb0) (C := RX5) (T := TX5) (N := 14) rfl TBi_X5 11 (by decide) tw_94 rfl rfl dX5_takeAfter_107 ?_
    refine lv_aload_n hx hb dX5_takeAfter_110 rfl (lv_at hl 1 rfl) ?_
    refine xw_get hB hK hP (xw_o5 G ha1) (C := RX5) (T := TX5) (N := 14) rfl TBi_X5 11 (by decide) tw_94 rfl rfl dX5_takeAfter_111 ?_
    replace hf := xw_b_e hf
    obtain ⟨r24, w25, he26, hf⟩ := hf
    refine xw_Vv hB hK hE hS hP (As := [.ref (xw_ad G (a1 + 7))]) (rest := []) (kX1_takeAfter l G hG (b + 7) (a1 + 7) (xw_sc_7 hb0) (xw_sc_7 ha1) w23 _ _ he26) gs_X5_69 (xw_rc hK hP (C := RX1) (T := TX1) (N := 4) (xw_o1 G (xw_sc_7 hb0)) rfl) 1 hv_X1_takeAfter ⟨Nat.le_of_ble_eq_true rfl, Nat.le_of_ble_eq_true rfl⟩ rfl hl.1 (Nat.le_of_ble_eq_true rfl) rfl dX5_takeAfter_114 ⟨Nat.zero_le _, Nat.zero_le _⟩ (fun H locs hP hS => ?_)
    refine lv_aload_n hx hb dX5_takeAfter_117 rfl (lv_at hl 0 rfl) ?_
    refine xw_get hB hK hP (xw_o5 G hb0) (C := RX5) (T := TX5) (N := 14) rfl TBi_X5 12 (by decide) tw_97 rfl rfl dX5_takeAfter_118 ?_
    refine lv_aload_n hx hb dX5_takeAfter_121 rfl (lv_at hl 1 rfl) ?_
    refine xw_get hB hK hP (xw_o5 G ha1) (C := RX5) (T := TX5) (N := 14) rfl TBi_X5 12 (by decide) tw_97 rfl rfl dX5_takeAfter_122 ?_
    replace hf := xw_b_e hf
    obtain ⟨r27, w28, he29, hf⟩ := hf
    refine xw_Vv hB hK hE hS hP (As := [.ref (xw_ad G (a1 + 10))]) (rest := []) (kX1_takeAfter l G hG (b + 10) (a1 + 10) (xw_sc_10 hb0) (xw_sc_10 ha1) w25 _ _ he29) gs_X5_69 (xw_rc hK hP (C := RX1) (T := TX1) (N := 4) (xw_o1 G (xw_sc_10 hb0)) rfl) 1 hv_X1_takeAfter ⟨Nat.le_of_ble_eq_true rfl, Nat.le_of_ble_eq_true rfl⟩ rfl hl.1 (Nat.le_of_ble_eq_true rfl) rfl dX5_takeAfter_125 ⟨Nat.zero_le _, Nat.zero_le _⟩ (fun H locs hP hS => ?_)
    refine lv_aload_n hx hb dX5_takeAfter_128 rfl (lv_at hl 0 rfl) ?_
    refine xw_get hB hK hP (xw_o5 G hb0) (C := RX5) (T := TX5) (N := 14) rfl TBi_X5 13 (by decide) tw_99 rfl rfl dX5_takeAfter_129 ?_
    refine lv_aload_n hx hb dX5_takeAfter_132 rfl (lv_at hl 1 rfl) ?_
    refine xw_get hB hK hP (xw_o5 G ha1) (C := RX5) (T := TX5) (N := 14) rfl TBi_X5 13 (by decide) tw_99 rfl rfl dX5_takeAfter_133 ?_
    replace hf := xw_b_e hf
    obtain ⟨r30, w31, he32, hf⟩ := hf
    refine xw_Vv hB hK hE hS hP (As := [.ref (xw_ad G (a1 + 13))]) (rest := []) (kX1_takeAfter l G hG (b + 13) (a1 + 13) (xw_sc_13 hb0) (xw_sc_13 ha1) w28 _ _ he32) gs_X5_69 (xw_rc hK hP (C := RX1) (T := TX1) (N := 4) (xw_o1 G (xw_sc_13 hb0)) rfl) 1 hv_X1_takeAfter ⟨Nat.le_of_ble_eq_true rfl, Nat.le_of_ble_eq_true rfl⟩ rfl hl.1 (Nat.le_of_ble_eq_true rfl) rfl dX5_takeAfter_136 ⟨Nat.zero_le _, Nat.zero_le _⟩ (fun H locs hP hS => ?_)
    obtain ⟨h0, h1⟩ := xw_s2 hf
    exact xw_vret hB hK hE hS hP hr hlk h1 dX5_takeAfter_139
  exact HH s.heap [] hP hS
