def fX8_many_24 (n : Nat) (a0 : Int32) (x1 : Int32) : Option Int32 := some x1
def fX8_many_b4 (n : Nat) (a0 : Int32) (x1 : Int32) (x2 : Int32) : Option ((Int32 × Int32) ⊕ (Int32)) := if (6 : Int32) ≤ x2 then some (.inr x1) else xw_lt (x1 + ((a0 >>> (x2 &&& 31)) &&& (1 : Int32))) (fun x1_2 => xw_lt (x2 + 1) (fun x2_3 => some (.inl (x1_2, x2_3))))
def fX8_many_4 (n : Nat) (a0 : Int32) (x1 : Int32) (x2 : Int32) : Option Int32 := xw_bp (xw_it (fun z => fX8_many_b4 n a0 z.1 z.2) n (x1, x2)) (fun z => (fun (x1 : Int32) => fX8_many_24 n a0 x1) z)
def fX8_many (n : Nat) (a0 : Int32) : Option Int32 := fX8_many_4 n a0 (0 : Int32) (0 : Int32)
set_option maxHeartbeats 4000000 in
set_option maxRecDepth 100000 in
theorem kX8_many (l : Launch) (G : xw_G) (hG : xw_ok G) (n : Nat) (a0 : Int32) (w0 : xw_M) (r0 : Int32) (hf : fX8_many n a0 = some r0) : xw_Ti l G yX8_many cX8_many 3 ((Option.some Jvm.ClassFile.FieldType.int)) (0) (0) [.int a0] w0 r0 w0 := by
  unfold xw_Ti
  refine Met.ofW (cc := cX8_many) (maxL := 3) (ret := (Option.some Jvm.ClassFile.FieldType.int)) (by decide) rfl ?_
  intro p e s m args below meth c s₁ B hml hv
  obtain ⟨hargs, hP, hK, hE⟩ := hv
  have hx := B.exec
  have hb := B.bytes
  have hr := B.returns
  have hlk := B.notSynchronized
  have hB : CallFix p m c cX8_many 3 s args TB RX8 := ⟨hx, hb, hml, findClass_of_methodNamed B.named, fun q h => (atoms_spec (ws := Cond.code yX8_many cX8_many 3 ((Option.some Jvm.ClassFile.FieldType.int)) :: TB) B.pre) q (List.mem_cons_of_mem _ h)⟩
  have hS : va_S (xw_A G) s.heap s.heap [] := va_S.rf
  have hl := lv_entry [.int a0] (n := 3) (Nat.le_of_ble_eq_true rfl)
  rw [show entryFrame m args 3 = entryFrame m ([.int a0] : List Value).toArray 3 from by rw [hargs], lg_entry_eq]
  generalize (lg_sl [.int a0] ++ List.replicate (3 - (lg_sl [.int a0]).length) Slot.unset).toArray = ls at hl ⊢
  have hP : va_P (xw_D G) xw_cl (xw_W G w0) s.heap := hP
  have hl : lv_has ls 3 [(0, .int a0)] := hl
  have HH : ∀ (H : Heap) (locs : List Loc) (hP : va_P (xw_D G) xw_cl (xw_W G w0) H) (hS : va_S (xw_A G) s.heap H locs), xw_Wi G p l e (xw_rm (0) (0)) s m args below meth c H locs r0 w0 (F0 m 0 ls []) := by
    intro H locs hP hS
    unfold fX8_many at hf
    have J24 : ∀ (x1 : Int32) (hf : fX8_many_24 n a0 x1 = some r0) (H : Heap) (locs : List Loc) (ls : Array Slot) (hP : va_P (xw_D G) xw_cl (xw_W G w0) H) (hS : va_S (xw_A G) s.heap H locs) (hl : lv_has ls 3 [(1, .int x1)]), xw_Wi G p l e (xw_rm (0) (0)) s m args below meth c H locs r0 w0 (F0 m 24 ls []) := by
      intro x1 hf H locs ls hP hS hl
      unfold fX8_many_24 at hf
      refine lv_iload_n hx hb dX8_many_24 rfl (lv_at hl 0 rfl) ?_
      have h0 := xw_so hf
      have h1 : w0 = w0 := rfl
      exact xw_iret hB hK hE hS hP hr hlk h0 h1 dX8_many_25
    have J4 : ∀ (x1 : Int32) (x2 : Int32) (hf : fX8_many_4 n a0 x1 x2 = some r0) (H : Heap) (locs : List Loc) (ls : Array Slot) (hP : va_P (xw_D G) xw_cl (xw_W G w0) H) (hS : va_S (xw_A G) s.heap H locs) (hl : lv_has ls 3 [(0, .int a0), (1, .int x1), (2, .int x2)]), xw_Wi G p l e (xw_rm (0) (0)) s m args below meth c H locs r0 w0 (F0 m 4 ls []) := by
      intro x1 x2 hf H locs ls hP hS hl
      unfold fX8_many_4 at hf
      replace hf := xw_bp_e hf
      obtain ⟨bb4, hit4, hfx4⟩ := hf
      have XX4 : ∀ (x1 : Int32) (hf : fX8_many_24 n a0 x1 = some r0) (H : Heap) (locs : List Loc) (ls : Array Slot) (hP : va_P (xw_D G) xw_cl (xw_W G w0) H) (hS : va_S (xw_A G) s.heap H locs) (hl : lv_has ls 3 [(1, .int x1)]), xw_Wi G p l e (xw_rm (0) (0)) s m args below meth c H locs r0 w0 (F0 m 24 ls []) := by
        intro x1 hf H locs ls hP hS hl
        exact J24 x1 hf H locs ls hP hS (lv_sub hl [0] rfl)
      have LL4 : ∀ (nn : Nat) (x1 : Int32) (x2 : Int32) (hit : xw_it (fun z => fX8_many_b4 n a0 z.1 z.2) nn (x1, x2) = some bb4) (H : Heap) (locs : List Loc) (ls : Array Slot) (hP : va_P (xw_D G) xw_cl (xw_W G w0) H) (hS : va_S (xw_A G) s.heap H locs) (hl : lv_has ls 3 [(0, .int a0), (1, .int x1), (2, .int x2)]), xw_Wi G p l e (xw_rm (0) (0)) s m args below meth c H locs r0 w0 (F0 m 4 ls []) := by
        intro nn
        induction nn with
        | zero => intro x1 x2 hit; exact (xw_it_0 hit).elim
        | succ nn ih4 =>
          intro x1 x2 hit H locs ls hP hS hl
          replace hit := xw_it_e hit
          obtain ⟨wv4, hf, hC4, hX4⟩ := hit
          replace hf : fX8_many_b4 n a0 x1 x2 = some wv4 := hf
          unfold fX8_many_b4 at hf
          refine lv_iload_n hx hb dX8_many_4 rfl (lv_at hl 2 rfl) ?_
          refine lv_bipush (v := 6) hx hb dX8_many_5 (by decide) ?_
          refine lv_icmp_ge (tgt := 24) hx hb dX8_many_7 (by decide) (fun c1 => ?_) (fun c1 => ?_)
          · replace hf := xw_ip c1 hf
            have he4 := hX4 _ (xw_so hf).symm
            rw [← he4] at hfx4
            exact XX4 x1 hfx4 H locs ls hP hS (lv_sub hl [1] rfl)
          · replace hf := xw_in' c1 hf
            refine lv_iload_n hx hb dX8_many_10 rfl (lv_at hl 1 rfl) ?_
            refine lv_iload_n hx hb dX8_many_11 rfl (lv_at hl 0 rfl) ?_
            refine lv_iload_n hx hb dX8_many_12 rfl (lv_at hl 2 rfl) ?_
            refine lv_ishr hx hb dX8_many_13 ?_
            refine lv_iconst (v := 1) hx hb dX8_many_14 (by decide) ?_
            refine lv_iand hx hb dX8_many_15 ?_
            refine lv_iadd hx hb dX8_many_16 ?_
            refine lv_topi (fun x1_2 ex1_2 => ?_)
            replace hf := xw_lt_e ex1_2 hf
            refine lv_istore_n (lv' := [(1, .int x1_2), (0, .int a0), (2, .int x2)]) hx hb dX8_many_17 rfl hl (by decide) rfl (fun ls hl => ?_)
            obtain ⟨x2_3, ex2_3⟩ : ∃ y : Int32, y = x2 + 1 := ⟨_, rfl⟩
            replace hf := xw_lt_e ex2_3 hf
            refine lv_iinc (v := x2_3) (lv' := [(2, .int x2_3), (1, .int x1_2), (0, .int a0)]) hx hb dX8_many_18 hl (k := 2) rfl (by rw [ex2_3]; rfl) (by decide) rfl (fun ls hl => ?_)
            refine lv_goto (tgt := 4) hx hb dX8_many_21 (by decide) ?_
            have hi := hC4 _ (xw_so hf).symm
            exact ih4 x1_2 x2_3 hi H locs ls hP hS (lv_sub hl [2, 1, 0] rfl)
      exact LL4 n x1 x2 hit4 H locs ls hP hS hl
    refine lv_iconst (v := 0) hx hb dX8_many_0 (by decide) ?_
    refine lv_istore_n (lv' := [(1, .int (0 : Int32)), (0, .int a0)]) hx hb dX8_many_1 rfl hl (by decide) rfl (fun ls hl => ?_)
    refine lv_iconst (v := 0) hx hb dX8_many_2 (by decide) ?_
    refine lv_istore_n (lv' := [(2, .int (0 : Int32)), (1, .int (0 : Int32)), (0, .int a0)]) hx hb dX8_many_3 rfl hl (by decide) rfl (fun ls hl => ?_)
    exact J4 (0 : Int32) (0 : Int32) hf H locs ls hP hS (lv_sub hl [2, 1, 0] rfl)
  exact HH s.heap [] hP hS
def fX8_kept_167 (n : Nat) (a1 : Int32) (a2 : Int32) (x3 : Int32) (w : xw_M) : Option (Int32 × xw_M) := some (x3, w)
def fX8_kept_161 (n : Nat) (a1 : Int32) (a2 : Int32) (x3 : Int32) (x4 : Int32) (w : xw_M) : Option ((Int32 × Int32 × xw_M) ⊕ (Int32 × xw_M)) := xw_lt (x4 + 1) (fun x4_39 => some (.inl (x3, x4_39, w)))
def fX8_kept_155 (n : Nat) (a1 : Int32) (a2 : Int32) (x4 : Int32) (v0 : Int32) (w : xw_M) : Option ((Int32 × Int32 × xw_M) ⊕ (Int32 × xw_M)) := xw_b (fX8_lay n (0 : Int32) w) (fun (_ : Unit) w37 => fX8_kept_161 n a1 a2 v0 x4 w37)
def fX8_kept_135 (n : Nat) (a1 : Int32) (a2 : Int32) (x3 : Int32) (x4 : Int32) (w : xw_M) : Option ((Int32 × Int32 × xw_M) ⊕ (Int32 × xw_M)) := xw_b (fX8_share n w) (fun (_ : Unit) w32 => xw_ck a1 6 (if (w32.1 132 a1.toNatClampNeg) < a2 then fX8_kept_155 n a1 a2 x4 x3 w32 else fX8_kept_155 n a1 a2 x4 x4 w32))
def fX8_kept_125 (n : Nat) (a1 : Int32) (a2 : Int32) (x3 : Int32) (x4 : Int32) (x5 : Int32) (v1 : Int32) (v2 : Int32) (v3 : Int32) (w : xw_M) : Option ((Int32 × xw_M) ⊕ (xw_M)) := xw_b (fX8_change v1 v2 v3 w) (fun r27 w28 => xw_lt (x5 + 1) (fun x5_30 => some (.inl (x5_30, w28))))
def fX8_kept_b87 (n : Nat) (a1 : Int32) (a2 : Int32) (x3 : Int32) (x4 : Int32) (x5 : Int32) (w : xw_M) : Option ((Int32 × xw_M) ⊕ (xw_M)) := xw_ck (60 : Int32) 109 (if (w.1 120 (60 : Int32).toNatClampNeg) ≤ x5 then some (.inr w) else if ((x4 >>> (x5 &&& 31)) &&& (1 : Int32)) = (1 : Int32) then fX8_kept_125 n a1 a2 x3 x4 x5 x5 (4 : Int32) (1 : Int32) w else xw_bp (fX8_one x5 (4 : Int32) w) (fun r25 => fX8_kept_125 n a1 a2 x3 x4 x5 x5 (4 : Int32) r25 w))
def fX8_kept_87 (n : Nat) (a1 : Int32) (a2 : Int32) (x3 : Int32) (x4 : Int32) (x5 : Int32) (w : xw_M) : Option ((Int32 × Int32 × xw_M) ⊕ (Int32 × xw_M)) := xw_bp (xw_it (fun z => fX8_kept_b87 n a1 a2 x3 x4 z.1 z.2) n (x5, w)) (fun z => (fun (w : xw_M) => fX8_kept_135 n a1 a2 x3 x4 w) z)
def fX8_kept_79 (n : Nat) (a1 : Int32) (a2 : Int32) (x3 : Int32) (x4 : Int32) (w : xw_M) : Option ((Int32 × Int32 × xw_M) ⊕ (Int32 × xw_M)) := xw_b (fX8_keep n (0 : Int32) w) (fun (_ : Unit) w20 => fX8_kept_87 n a1 a2 x3 x4 (0 : Int32) w20)
def fX8_kept_b30 (n : Nat) (a1 : Int32) (a2 : Int32) (x3 : Int32) (x4 : Int32) (w : xw_M) : Option ((Int32 × Int32 × xw_M) ⊕ (Int32 × xw_M)) := xw_ck (60 : Int32) 109 (if ((1 : Int32) <<< ((w.1 120 (60 : Int32).toNatClampNeg) &&& 31)) ≤ x4 then some (.inr (x3, w)) else xw_bp (fX8_isHere a1 w) (fun r9 => if r9 = 0 then some (.inr (x3, w)) else if ((x4 >>> (a1 &&& 31)) &&& (1 : Int32)) = 0 then if x3 = (-5 : Int32) then fX8_kept_79 n a1 a2 x3 x4 w else xw_bp (fX8_many n x4) (fun r14 => xw_bp (fX8_many n x3) (fun r16 => if r16 ≤ r14 then fX8_kept_161 n a1 a2 x3 x4 w else fX8_kept_79 n a1 a2 x3 x4 w)) else fX8_kept_161 n a1 a2 x3 x4 w))
def fX8_kept_30 (n : Nat) (a1 : Int32) (a2 : Int32) (x3 : Int32) (x4 : Int32) (w : xw_M) : Option (Int32 × xw_M) := xw_bp (xw_it (fun z => fX8_kept_b30 n a1 a2 z.1 z.2.1 z.2.2) n (x3, x4, w)) (fun z => (fun (x3 : Int32) (w : xw_M) => fX8_kept_167 n a1 a2 x3 w) z.1 z.2)
def fX8_kept (n : Nat) (a1 : Int32) (a2 : Int32) (w0 : xw_M) : Option (Int32 × xw_M) := xw_bp (fX8_isOne a1 w0) (fun r1 => if r1 = 0 then some ((-1 : Int32), w0) else xw_bp (fX8_isIn a2 (0 : Int32) (999 : Int32)) (fun r4 => if r4 = 0 then some ((-2 : Int32), w0) else fX8_kept_30 n a1 a2 (-5 : Int32) (0 : Int32) w0))
set_option maxHeartbeats 4000000 in
set_option maxRecDepth 100000 in
theorem kX8_kept (l : Launch) (G : xw_G) (hG : xw_ok G) (n : Nat) (a1 : Int32) (a2 : Int32) (w0 : xw_M) (r0 : Int32) (wz : xw_M) (hf : fX8_kept n a1 a2 w0 = some (r0, wz)) : xw_Ti l G yX8_kept cX8_kept 6 ((Option.some Jvm.ClassFile.FieldType.int)) (32) (700) [.ref (xw_ad G 119), .int a1, .int a2] w0 r0 wz := by
  unfold xw_Ti
  refine Met.ofW (cc := cX8_kept) (maxL := 6) (ret := (Option.some Jvm.ClassFile.FieldType.int)) (by decide) rfl ?_
  intro p e s m args below meth c s₁ B hml hv
  obtain ⟨hargs, hP, hK, hE⟩ := hv
  have hx := B.exec
  have hb := B.bytes
  have hr := B.returns
  have hlk := B.notSynchronized
  have hB : CallFix p m c cX8_kept 6 s args TB RX8 := ⟨hx, hb, hml, findClass_of_methodNamed B.named, fun q h => (atoms_spec (ws := Cond.code yX8_kept cX8_kept 6 ((Option.some Jvm.ClassFile.FieldType.int)) :: TB) B.pre) q (List.mem_cons_of_mem _ h)⟩
  have hS : va_S (xw_A G) s.heap s.heap [] := va_S.rf
  have hl := lv_entry [.ref (xw_ad G 119), .int a1, .int a2] (n := 6) (Nat.le_of_ble_eq_true rfl)
  rw [show entryFrame m args 6 = entryFrame m ([.ref (xw_ad G 119), .int a1, .int a2] : List Value).toArray 6 from by rw [hargs], lg_entry_eq]
  generalize (lg_sl [.ref (xw_ad G 119), .int a1, .int a2] ++ List.replicate (6 - (lg_sl [.ref (xw_ad G 119), .int a1, .int a2]).length) Slot.unset).toArray = ls at hl ⊢
  have hP : va_P (xw_D G) xw_cl (xw_W G w0) s.heap := hP
  have hl : lv_has ls 6 [(0, .ref (xw_ad G 119)), (1, .int a1), (2, .int a2)] := hl
  have HH : ∀ (H : Heap) (locs : List Loc) (hP : va_P (xw_D G) xw_cl (xw_W G w0) H) (hS : va_S (xw_A G) s.heap H locs), xw_Wi G p l e (xw_rm (32) (700)) s m args below meth c H locs r0 wz (F0 m 0 ls []) := by
    intro H locs hP hS
    unfold fX8_kept at hf
    have J167 : ∀ (x3 : Int32) (w : xw_M) (hf : fX8_kept_167 n a1 a2 x3 w = some (r0, wz)) (H : Heap) (locs : List Loc) (ls : Array Slot) (hP : va_P (xw_D G) xw_cl (xw_W G w) H) (hS : va_S (xw_A G) s.heap H locs) (hl : lv_has ls 6 [(3, .int x3)]), xw_Wi G p l e (xw_rm (32) (700)) s m args below meth c H locs r0 wz (F0 m 167 ls []) := by
      intro x3 w hf H locs ls hP hS hl
      unfold fX8_kept_167 at hf
      refine lv_iload_n hx hb dX8_kept_167 rfl (lv_at hl 0 rfl) ?_
      obtain ⟨h0, h1⟩ := xw_s2 hf
      exact xw_iret hB hK hE hS hP hr hlk h0 h1 dX8_kept_168
    have J30 : ∀ (x3 : Int32) (x4 : Int32) (w : xw_M) (hf : fX8_kept_30 n a1 a2 x3 x4 w = some (r0, wz)) (H : Heap) (locs : List Loc) (ls : Array Slot) (hP : va_P (xw_D G) xw_cl (xw_W G w) H) (hS : va_S (xw_A G) s.heap H locs) (hl : lv_has ls 6 [(0, .ref (xw_ad G 119)), (1, .int a1), (2, .int a2), (3, .int x3), (4, .int x4)]), xw_Wi G p l e (xw_rm (32) (700)) s m args below meth c H locs r0 wz (F0 m 30 ls []) := by
      intro x3 x4 w hf H locs ls hP hS hl
      unfold fX8_kept_30 at hf
      replace hf := xw_bp_e hf
      obtain ⟨bb30, hit30, hfx30⟩ := hf
      have XX30 : ∀ (x3 : Int32) (w : xw_M) (hf : fX8_kept_167 n a1 a2 x3 w = some (r0, wz)) (H : Heap) (locs : List Loc) (ls : Array Slot) (hP : va_P (xw_D G) xw_cl (xw_W G w) H) (hS : va_S (xw_A G) s.heap H locs) (hl : lv_has ls 6 [(3, .int x3)]), xw_Wi G p l e (xw_rm (32) (700)) s m args below meth c H locs r0 wz (F0 m 167 ls []) := by
        intro x3 w hf H locs ls hP hS hl
        exact J167 x3 w hf H locs ls hP hS (lv_sub hl [0] rfl)
      have LL30 : ∀ (nn : Nat) (x3 : Int32) (x4 : Int32) (w : xw_M) (hit : xw_it (fun z => fX8_kept_b30 n a1 a2 z.1 z.2.1 z.2.2) nn (x3, x4, w) = some bb30) (H : Heap) (locs : List Loc) (ls : Array Slot) (hP : va_P (xw_D G) xw_cl (xw_W G w) H) (hS : va_S (xw_A G) s.heap H locs) (hl : lv_has ls 6 [(0, .ref (xw_ad G 119)), (1, .int a1), (2, .int a2), (3, .int x3), (4, .int x4)]), xw_Wi G p l e (xw_rm (32) (700)) s m args below meth c H locs r0 wz (F0 m 30 ls []) := by
        intro nn
        induction nn with
        | zero => intro x3 x4 w hit; exact (xw_it_0 hit).elim
        | succ nn ih30 =>
          intro x3 x4 w hit H locs ls hP hS hl
          replace hit := xw_it_e hit
          obtain ⟨wv30, hf, hC30, hX30⟩ := hit
          replace hf : fX8_kept_b30 n a1 a2 x3 x4 w = some wv30 := hf
          unfold fX8_kept_b30 at hf
          have J161 : ∀ (x3 : Int32) (x4 : Int32) (w : xw_M) (hf : fX8_kept_161 n a1 a2 x3 x4 w = some wv30) (H : Heap) (locs : List Loc) (ls : Array Slot) (hP : va_P (xw_D G) xw_cl (xw_W G w) H) (hS : va_S (xw_A G) s.heap H locs) (hl : lv_has ls 6 [(0, .ref (xw_ad G 119)), (1, .int a1), (2, .int a2), (3, .int x3), (4, .int x4)]), xw_Wi G p l e (xw_rm (32) (700)) s m args below meth c H locs r0 wz (F0 m 161 ls []) := by
            intro x3 x4 w hf H locs ls hP hS hl
            unfold fX8_kept_161 at hf
            obtain ⟨x4_39, ex4_39⟩ : ∃ y : Int32, y = x4 + 1 := ⟨_, rfl⟩
            replace hf := xw_lt_e ex4_39 hf
            refine lv_iinc (v := x4_39) (lv' := [(4, .int x4_39), (0, .ref (xw_ad G 119)), (1, .int a1), (2, .int a2), (3, .int x3)]) hx hb dX8_kept_161 hl (k := 4) rfl (by rw [ex4_39]; rfl) (by decide) rfl (fun ls hl => ?_)
            refine lv_goto (tgt := 30) hx hb dX8_kept_164 (by decide) ?_
            have hi := hC30 _ (xw_so hf).symm
            exact ih30 x3 x4_39 w hi H locs ls hP hS (lv_sub hl [1, 2, 3, 4, 0] rfl)
          have J155 : ∀ (x4 : Int32) (v0 : Int32) (w : xw_M) (hf : fX8_kept_155 n a1 a2 x4 v0 w = some wv30) (H : Heap) (locs : List Loc) (ls : Array Slot) (hP : va_P (xw_D G) xw_cl (xw_W G w) H) (hS : va_S (xw_A G) s.heap H locs) (hl : lv_has ls 6 [(0, .ref (xw_ad G 119)), (1, .int a1), (2, .int a2), (4, .int x4)]), xw_Wi G p l e (xw_rm (32) (700)) s m args below meth c H locs r0 wz (F0 m 155 ls [.int v0]) := by
            intro x4 v0 w hf H locs ls hP hS hl
            unfold fX8_kept_155 at hf
            refine lv_istore_n (lv' := [(3, .int v0), (0, .ref (xw_ad G 119)), (1, .int a1), (2, .int a2), (4, .int x4)]) hx hb dX8_kept_155 rfl hl (by decide) rfl (fun ls hl => ?_)
            refine lv_aload_n hx hb dX8_kept_156 rfl (lv_at hl 1 rfl) ?_
            refine lv_iconst (v := 0) hx hb dX8_kept_157 (by decide) ?_
            replace hf := xw_b_e hf
            obtain ⟨r36, w37, he38, hf⟩ := hf
            refine xw_Vv hB hK hE hS hP (As := [.int (0 : Int32)]) (rest := []) (kX8_lay l G hG n (0 : Int32) w _ _ he38) gs_X8_201 (xw_rc hK hP (C := RX8) (T := TX8) (N := 31) (xw_o8 G) rfl) 1 hv_X8_lay ⟨Nat.le_of_ble_eq_true rfl, Nat.le_of_ble_eq_true rfl⟩ rfl hl.1 (Nat.le_of_ble_eq_true rfl) rfl dX8_kept_158 ⟨Nat.zero_le _, Nat.zero_le _⟩ (fun H locs hP hS => ?_)
            exact J161 v0 x4 w37 hf H locs ls hP hS (lv_sub hl [1, 2, 3, 0, 4] rfl)
          have J135 : ∀ (x3 : Int32) (x4 : Int32) (w : xw_M) (hf : fX8_kept_135 n a1 a2 x3 x4 w = some wv30) (H : Heap) (locs : List Loc) (ls : Array Slot) (hP : va_P (xw_D G) xw_cl (xw_W G w) H) (hS : va_S (xw_A G) s.heap H locs) (hl : lv_has ls 6 [(0, .ref (xw_ad G 119)), (1, .int a1), (2, .int a2), (3, .int x3), (4, .int x4)]), xw_Wi G p l e (xw_rm (32) (700)) s m args below meth c H locs r0 wz (F0 m 135 ls []) := by
            intro x3 x4 w hf H locs ls hP hS hl
            unfold fX8_kept_135 at hf
            refine lv_aload_n hx hb dX8_kept_135 rfl (lv_at hl 0 rfl) ?_
            replace hf := xw_b_e hf
            obtain ⟨r31, w32, he33, hf⟩ := hf
            refine xw_Vv hB hK hE hS hP (As := []) (rest := []) (kX8_share l G hG n w _ _ he33) gs_X8_104 (xw_rc hK hP (C := RX8) (T := TX8) (N := 31) (xw_o8 G) rfl) 0 hv_X8_share ⟨Nat.le_of_ble_eq_true rfl, Nat.le_of_ble_eq_true rfl⟩ rfl hl.1 (Nat.le_of_ble_eq_true rfl) rfl dX8_kept_136 ⟨Nat.zero_le _, Nat.zero_le _⟩ (fun H locs hP hS => ?_)
            refine lv_aload_n hx hb dX8_kept_139 rfl (lv_at hl 0 rfl) ?_
            refine xw_get hB hK hP (xw_o8 G) (C := RX8) (T := TX8) (N := 31) rfl TBi_X8 21 (by decide) tw_749 rfl rfl dX8_kept_140 ?_
            refine lv_iload_n hx hb dX8_kept_143 rfl (lv_at hl 1 rfl) ?_
            replace hf := xw_ck_e hf
            obtain ⟨hi34, hf⟩ := hf
            refine xw_ild hB hK hP (xw_k132 G) hi34 dX8_kept_144 ?_
            refine lv_iload_n hx hb dX8_kept_145 rfl (lv_at hl 2 rfl) ?_
            refine lv_icmp_lt (tgt := 154) hx hb dX8_kept_146 (by decide) (fun c35 => ?_) (fun c35 => ?_)
            · replace hf := xw_ip c35 hf
              refine lv_iload_n hx hb dX8_kept_154 rfl (lv_at hl 3 rfl) ?_
              exact J155 x4 x3 w32 hf H locs ls hP hS (lv_sub hl [0, 1, 2, 4] rfl)
            · replace hf := xw_in' c35 hf
              refine lv_iload hx hb dX8_kept_149 (lv_at hl 4 rfl) ?_
              refine lv_goto (tgt := 155) hx hb dX8_kept_151 (by decide) ?_
              exact J155 x4 x4 w32 hf H locs ls hP hS (lv_sub hl [0, 1, 2, 4] rfl)
          have J87 : ∀ (x3 : Int32) (x4 : Int32) (x5 : Int32) (w : xw_M) (hf : fX8_kept_87 n a1 a2 x3 x4 x5 w = some wv30) (H : Heap) (locs : List Loc) (ls : Array Slot) (hP : va_P (xw_D G) xw_cl (xw_W G w) H) (hS : va_S (xw_A G) s.heap H locs) (hl : lv_has ls 6 [(0, .ref (xw_ad G 119)), (1, .int a1), (2, .int a2), (3, .int x3), (4, .int x4), (5, .int x5)]), xw_Wi G p l e (xw_rm (32) (700)) s m args below meth c H locs r0 wz (F0 m 87 ls []) := by
            intro x3 x4 x5 w hf H locs ls hP hS hl
            unfold fX8_kept_87 at hf
            replace hf := xw_bp_e hf
            obtain ⟨bb87, hit87, hfx87⟩ := hf
            have XX87 : ∀ (w : xw_M) (hf : fX8_kept_135 n a1 a2 x3 x4 w = some wv30) (H : Heap) (locs : List Loc) (ls : Array Slot) (hP : va_P (xw_D G) xw_cl (xw_W G w) H) (hS : va_S (xw_A G) s.heap H locs) (hl : lv_has ls 6 [(0, .ref (xw_ad G 119)), (1, .int a1), (2, .int a2), (3, .int x3), (4, .int x4)]), xw_Wi G p l e (xw_rm (32) (700)) s m args below meth c H locs r0 wz (F0 m 135 ls []) := by
              intro w hf H locs ls hP hS hl
              exact J135 x3 x4 w hf H locs ls hP hS (lv_sub hl [0, 1, 2, 3, 4] rfl)
            have LL87 : ∀ (nn : Nat) (x5 : Int32) (w : xw_M) (hit : xw_it (fun z => fX8_kept_b87 n a1 a2 x3 x4 z.1 z.2) nn (x5, w) = some bb87) (H : Heap) (locs : List Loc) (ls : Array Slot) (hP : va_P (xw_D G) xw_cl (xw_W G w) H) (hS : va_S (xw_A G) s.heap H locs) (hl : lv_has ls 6 [(0, .ref (xw_ad G 119)), (1, .int a1), (2, .int a2), (3, .int x3), (4, .int x4), (5, .int x5)]), xw_Wi G p l e (xw_rm (32) (700)) s m args below meth c H locs r0 wz (F0 m 87 ls []) := by
              intro nn
              induction nn with
              | zero => intro x5 w hit; exact (xw_it_0 hit).elim
              | succ nn ih87 =>
                intro x5 w hit H locs ls hP hS hl
                replace hit := xw_it_e hit
                obtain ⟨wv87, hf, hC87, hX87⟩ := hit
                replace hf : fX8_kept_b87 n a1 a2 x3 x4 x5 w = some wv87 := hf
                unfold fX8_kept_b87 at hf
                have J125 : ∀ (x5 : Int32) (v1 : Int32) (v2 : Int32) (v3 : Int32) (w : xw_M) (hf : fX8_kept_125 n a1 a2 x3 x4 x5 v1 v2 v3 w = some wv87) (H : Heap) (locs : List Loc) (ls : Array Slot) (hP : va_P (xw_D G) xw_cl (xw_W G w) H) (hS : va_S (xw_A G) s.heap H locs) (hl : lv_has ls 6 [(0, .ref (xw_ad G 119)), (1, .int a1), (2, .int a2), (3, .int x3), (4, .int x4), (5, .int x5)]), xw_Wi G p l e (xw_rm (32) (700)) s m args below meth c H locs r0 wz (F0 m 125 ls [.int v3, .int v2, .int v1, .ref (xw_ad G 119)]) := by
                  intro x5 v1 v2 v3 w hf H locs ls hP hS hl
                  unfold fX8_kept_125 at hf
                  replace hf := xw_b_e hf
                  obtain ⟨r27, w28, he29, hf⟩ := hf
                  refine xw_Vi hB hK hE hS hP (As := [.int v1, .int v2, .int v3]) (rest := []) (kX8_change l G hG v1 v2 v3 w _ _ he29) gs_X8_97 (xw_rc hK hP (C := RX8) (T := TX8) (N := 31) (xw_o8 G) rfl) 3 hv_X8_change ⟨Nat.le_of_ble_eq_true rfl, Nat.le_of_ble_eq_true rfl⟩ rfl hl.1 (Nat.le_of_ble_eq_true rfl) rfl dX8_kept_125 ⟨Nat.zero_le _, Nat.zero_le _⟩ (fun H locs hP hS => ?_)
                  refine lv_pop hx hb dX8_kept_128 rfl ?_
                  obtain ⟨x5_30, ex5_30⟩ : ∃ y : Int32, y = x5 + 1 := ⟨_, rfl⟩
                  replace hf := xw_lt_e ex5_30 hf
                  refine lv_iinc (v := x5_30) (lv' := [(5, .int x5_30), (0, .ref (xw_ad G 119)), (1, .int a1), (2, .int a2), (3, .int x3), (4, .int x4)]) hx hb dX8_kept_129 hl (k := 5) rfl (by rw [ex5_30]; rfl) (by decide) rfl (fun ls hl => ?_)
                  refine lv_goto (tgt := 87) hx hb dX8_kept_132 (by decide) ?_
                  have hi := hC87 _ (xw_so hf).symm
                  exact ih87 x5_30 w28 hi H locs ls hP hS (lv_sub hl [1, 2, 3, 4, 5, 0] rfl)
                refine lv_iload hx hb dX8_kept_87 (lv_at hl 5 rfl) ?_
                refine lv_aload_n hx hb dX8_kept_89 rfl (lv_at hl 0 rfl) ?_
                refine xw_get hB hK hP (xw_o8 G) (C := RX8) (T := TX8) (N := 31) rfl TBi_X8 0 (by decide) tw_728 rfl rfl dX8_kept_90 ?_
                refine lv_bipush (v := 60) hx hb dX8_kept_93 (by decide) ?_
                replace hf := xw_ck_e hf
                obtain ⟨hi22, hf⟩ := hf
                refine xw_ild hB hK hP (xw_k120 G) hi22 dX8_kept_95 ?_
                refine lv_icmp_ge (tgt := 135) hx hb dX8_kept_96 (by decide) (fun c23 => ?_) (fun c23 => ?_)
                · replace hf := xw_ip c23 hf
                  have he87 := hX87 _ (xw_so hf).symm
                  rw [← he87] at hfx87
                  exact XX87 w hfx87 H locs ls hP hS (lv_sub hl [0, 1, 2, 3, 4] rfl)
                · replace hf := xw_in' c23 hf
                  refine lv_aload_n hx hb dX8_kept_99 rfl (lv_at hl 0 rfl) ?_
                  refine lv_iload hx hb dX8_kept_100 (lv_at hl 5 rfl) ?_
                  refine lv_iconst (v := 4) hx hb dX8_kept_102 (by decide) ?_
                  refine lv_iload hx hb dX8_kept_103 (lv_at hl 4 rfl) ?_
                  refine lv_iload hx hb dX8_kept_105 (lv_at hl 5 rfl) ?_
                  refine lv_ishr hx hb dX8_kept_107 ?_
                  refine lv_iconst (v := 1) hx hb dX8_kept_108 (by decide) ?_
                  refine lv_iand hx hb dX8_kept_109 ?_
                  refine lv_iconst (v := 1) hx hb dX8_kept_110 (by decide) ?_
                  refine lv_icmp_ne (tgt := 118) hx hb dX8_kept_111 (by decide) (fun c24 => ?_) (fun c24 => ?_)
                  · replace hf := xw_in' c24 hf
                    refine lv_aload_n hx hb dX8_kept_118 rfl (lv_at hl 0 rfl) ?_
                    refine lv_iload hx hb dX8_kept_119 (lv_at hl 5 rfl) ?_
                    refine lv_iconst (v := 4) hx hb dX8_kept_121 (by decide) ?_
                    replace hf := xw_bp_e hf
                    obtain ⟨r25, he26, hf⟩ := hf
                    refine xw_Vi hB hK hE hS hP (As := [.int x5, .int (4 : Int32)]) (rest := [.int (4 : Int32), .int x5, .ref (xw_ad G 119)]) (kX8_one l G hG x5 (4 : Int32) w _ he26) gs_X8_89 (xw_rc hK hP (C := RX8) (T := TX8) (N := 31) (xw_o8 G) rfl) 2 hv_X8_one ⟨Nat.le_of_ble_eq_true rfl, Nat.le_of_ble_eq_true rfl⟩ rfl hl.1 (Nat.le_of_ble_eq_true rfl) rfl dX8_kept_122 ⟨Nat.zero_le _, Nat.zero_le _⟩ (fun H locs hP hS => ?_)
                    exact J125 x5 x5 (4 : Int32) r25 w hf H locs ls hP hS (lv_sub hl [0, 1, 2, 3, 4, 5] rfl)
                  · replace hf := xw_ip c24 hf
                    refine lv_iconst (v := 1) hx hb dX8_kept_114 (by decide) ?_
                    refine lv_goto (tgt := 125) hx hb dX8_kept_115 (by decide) ?_
                    exact J125 x5 x5 (4 : Int32) (1 : Int32) w hf H locs ls hP hS (lv_sub hl [0, 1, 2, 3, 4, 5] rfl)
            exact LL87 n x5 w hit87 H locs ls hP hS hl
          have J79 : ∀ (x3 : Int32) (x4 : Int32) (w : xw_M) (hf : fX8_kept_79 n a1 a2 x3 x4 w = some wv30) (H : Heap) (locs : List Loc) (ls : Array Slot) (hP : va_P (xw_D G) xw_cl (xw_W G w) H) (hS : va_S (xw_A G) s.heap H locs) (hl : lv_has ls 6 [(0, .ref (xw_ad G 119)), (1, .int a1), (2, .int a2), (3, .int x3), (4, .int x4)]), xw_Wi G p l e (xw_rm (32) (700)) s m args below meth c H locs r0 wz (F0 m 79 ls []) := by
            intro x3 x4 w hf H locs ls hP hS hl
            unfold fX8_kept_79 at hf
            refine lv_aload_n hx hb dX8_kept_79 rfl (lv_at hl 0 rfl) ?_
            refine lv_iconst (v := 0) hx hb dX8_kept_80 (by decide) ?_
            replace hf := xw_b_e hf
            obtain ⟨r19, w20, he21, hf⟩ := hf
            refine xw_Vv hB hK hE hS hP (As := [.int (0 : Int32)]) (rest := []) (kX8_keep l G hG n (0 : Int32) w _ _ he21) gs_X8_194 (xw_rc hK hP (C := RX8) (T := TX8) (N := 31) (xw_o8 G) rfl) 1 hv_X8_keep ⟨Nat.le_of_ble_eq_true rfl, Nat.le_of_ble_eq_true rfl⟩ rfl hl.1 (Nat.le_of_ble_eq_true rfl) rfl dX8_kept_81 ⟨Nat.zero_le _, Nat.zero_le _⟩ (fun H locs hP hS => ?_)
            refine lv_iconst (v := 0) hx hb dX8_kept_84 (by decide) ?_
            refine lv_istore (lv' := [(5, .int (0 : Int32)), (0, .ref (xw_ad G 119)), (1, .int a1), (2, .int a2), (3, .int x3), (4, .int x4)]) hx hb dX8_kept_85 hl (by decide) rfl (fun ls hl => ?_)
            exact J87 x3 x4 (0 : Int32) w20 hf H locs ls hP hS (lv_sub hl [1, 2, 3, 4, 5, 0] rfl)
          refine lv_iload hx hb dX8_kept_30 (lv_at hl 4 rfl) ?_
          refine lv_iconst (v := 1) hx hb dX8_kept_32 (by decide) ?_
          refine lv_aload_n hx hb dX8_kept_33 rfl (lv_at hl 0 rfl) ?_
          refine xw_get hB hK hP (xw_o8 G) (C := RX8) (T := TX8) (N := 31) rfl TBi_X8 0 (by decide) tw_728 rfl rfl dX8_kept_34 ?_
          refine lv_bipush (v := 60) hx hb dX8_kept_37 (by decide) ?_
          replace hf := xw_ck_e hf
          obtain ⟨hi7, hf⟩ := hf
          refine xw_ild hB hK hP (xw_k120 G) hi7 dX8_kept_39 ?_
          refine lv_ishl hx hb dX8_kept_40 ?_
          refine lv_icmp_ge (tgt := 167) hx hb dX8_kept_41 (by decide) (fun c8 => ?_) (fun c8 => ?_)
          · replace hf := xw_ip c8 hf
            have he30 := hX30 _ (xw_so hf).symm
            rw [← he30] at hfx30
            exact XX30 x3 w hfx30 H locs ls hP hS (lv_sub hl [3] rfl)
          · replace hf := xw_in' c8 hf
            refine lv_aload_n hx hb dX8_kept_44 rfl (lv_at hl 0 rfl) ?_
            refine lv_iload_n hx hb dX8_kept_45 rfl (lv_at hl 1 rfl) ?_
            replace hf := xw_bp_e hf
            obtain ⟨r9, he10, hf⟩ := hf
            refine xw_Vi hB hK hE hS hP (As := [.int a1]) (rest := []) (kX8_isHere l G hG a1 w _ he10) gs_X8_179 (xw_rc hK hP (C := RX8) (T := TX8) (N := 31) (xw_o8 G) rfl) 1 hv_X8_isHere ⟨Nat.le_of_ble_eq_true rfl, Nat.le_of_ble_eq_true rfl⟩ rfl hl.1 (Nat.le_of_ble_eq_true rfl) rfl dX8_kept_46 ⟨Nat.zero_le _, Nat.zero_le _⟩ (fun H locs hP hS => ?_)
            refine lv_if_eq (tgt := 167) hx hb dX8_kept_49 (by decide) (fun c11 => ?_) (fun c11 => ?_)
            · replace hf := xw_ip c11 hf
              have he30 := hX30 _ (xw_so hf).symm
              rw [← he30] at hfx30
              exact XX30 x3 w hfx30 H locs ls hP hS (lv_sub hl [3] rfl)
            · replace hf := xw_in' c11 hf
              refine lv_iload hx hb dX8_kept_52 (lv_at hl 4 rfl) ?_
              refine lv_iload_n hx hb dX8_kept_54 rfl (lv_at hl 1 rfl) ?_
              refine lv_ishr hx hb dX8_kept_55 ?_
              refine lv_iconst (v := 1) hx hb dX8_kept_56 (by decide) ?_
              refine lv_iand hx hb dX8_kept_57 ?_
              refine lv_if_ne (tgt := 161) hx hb dX8_kept_58 (by decide) (fun c12 => ?_) (fun c12 => ?_)
              · replace hf := xw_in' c12 hf
                exact J161 x3 x4 w hf H locs ls hP hS (lv_sub hl [0, 1, 2, 3, 4] rfl)
              · replace hf := xw_ip c12 hf
                refine lv_iload_n hx hb dX8_kept_61 rfl (lv_at hl 3 rfl) ?_
                refine lv_bipush (v := (-5)) hx hb dX8_kept_62 (by decide) ?_
                refine lv_icmp_eq (tgt := 79) hx hb dX8_kept_64 (by decide) (fun c13 => ?_) (fun c13 => ?_)
                · replace hf := xw_ip c13 hf
                  exact J79 x3 x4 w hf H locs ls hP hS (lv_sub hl [0, 1, 2, 3, 4] rfl)
                · replace hf := xw_in' c13 hf
                  refine lv_iload hx hb dX8_kept_67 (lv_at hl 4 rfl) ?_
                  replace hf := xw_bp_e hf
                  obtain ⟨r14, he15, hf⟩ := hf
                  refine xw_Si hB hK hE hS hP (As := [.int x4]) (rest := []) (kX8_many l G hG n x4 w _ he15) tw_1000 tw_1002 tw_1001 tw_10 1 hs_X8_many ⟨Nat.le_of_ble_eq_true rfl, Nat.le_of_ble_eq_true rfl⟩ rfl hl.1 (Nat.le_of_ble_eq_true rfl) rfl dX8_kept_69 ⟨Nat.zero_le _, Nat.zero_le _⟩ (fun H locs hP hS => ?_)
                  refine lv_iload_n hx hb dX8_kept_72 rfl (lv_at hl 3 rfl) ?_
                  replace hf := xw_bp_e hf
                  obtain ⟨r16, he17, hf⟩ := hf
                  refine xw_Si hB hK hE hS hP (As := [.int x3]) (rest := [.int r14]) (kX8_many l G hG n x3 w _ he17) tw_1000 tw_1002 tw_1001 tw_10 1 hs_X8_many ⟨Nat.le_of_ble_eq_true rfl, Nat.le_of_ble_eq_true rfl⟩ rfl hl.1 (Nat.le_of_ble_eq_true rfl) rfl dX8_kept_73 ⟨Nat.zero_le _, Nat.zero_le _⟩ (fun H locs hP hS => ?_)
                  refine lv_icmp_ge (tgt := 161) hx hb dX8_kept_76 (by decide) (fun c18 => ?_) (fun c18 => ?_)
                  · replace hf := xw_ip c18 hf
                    exact J161 x3 x4 w hf H locs ls hP hS (lv_sub hl [0, 1, 2, 3, 4] rfl)
                  · replace hf := xw_in' c18 hf
                    exact J79 x3 x4 w hf H locs ls hP hS (lv_sub hl [0, 1, 2, 3, 4] rfl)
      exact LL30 n x3 x4 w hit30 H locs ls hP hS hl
    refine lv_aload_n hx hb dX8_kept_0 rfl (lv_at hl 0 rfl) ?_
    refine lv_iload_n hx hb dX8_kept_1 rfl (lv_at hl 1 rfl) ?_
    replace hf := xw_bp_e hf
    obtain ⟨r1, he2, hf⟩ := hf
    refine xw_Vi hB hK hE hS hP (As := [.int a1]) (rest := []) (kX8_isOne l G hG a1 w0 _ he2) gs_X8_101 (xw_rc hK hP (C := RX8) (T := TX8) (N := 31) (xw_o8 G) rfl) 1 hv_X8_isOne ⟨Nat.le_of_ble_eq_true rfl, Nat.le_of_ble_eq_true rfl⟩ rfl hl.1 (Nat.le_of_ble_eq_true rfl) rfl dX8_kept_2 ⟨Nat.zero_le _, Nat.zero_le _⟩ (fun H locs hP hS => ?_)
    refine lv_if_ne (tgt := 10) hx hb dX8_kept_5 (by decide) (fun c3 => ?_) (fun c3 => ?_)
    · replace hf := xw_in' c3 hf
      refine lv_iload_n hx hb dX8_kept_10 rfl (lv_at hl 2 rfl) ?_
      refine lv_iconst (v := 0) hx hb dX8_kept_11 (by decide) ?_
      refine lv_sipush (v := 999) hx hb dX8_kept_12 (by decide) ?_
      replace hf := xw_bp_e hf
      obtain ⟨r4, he5, hf⟩ := hf
      refine xw_Si hB hK hE hS hP (As := [.int a2, .int (0 : Int32), .int (999 : Int32)]) (rest := []) (kX8_isIn l G hG a2 (0 : Int32) (999 : Int32) w0 _ he5) tw_835 tw_837 tw_836 tw_10 3 hs_X8_isIn ⟨Nat.le_of_ble_eq_true rfl, Nat.le_of_ble_eq_true rfl⟩ rfl hl.1 (Nat.le_of_ble_eq_true rfl) rfl dX8_kept_15 ⟨Nat.zero_le _, Nat.zero_le _⟩ (fun H locs hP hS => ?_)
      refine lv_if_ne (tgt := 24) hx hb dX8_kept_18 (by decide) (fun c6 => ?_) (fun c6 => ?_)
      · replace hf := xw_in' c6 hf
        refine lv_bipush (v := (-5)) hx hb dX8_kept_24 (by decide) ?_
        refine lv_istore_n (lv' := [(3, .int (-5 : Int32)), (0, .ref (xw_ad G 119)), (1, .int a1), (2, .int a2)]) hx hb dX8_kept_26 rfl hl (by decide) rfl (fun ls hl => ?_)
        refine lv_iconst (v := 0) hx hb dX8_kept_27 (by decide) ?_
        refine lv_istore (lv' := [(4, .int (0 : Int32)), (3, .int (-5 : Int32)), (0, .ref (xw_ad G 119)), (1, .int a1), (2, .int a2)]) hx hb dX8_kept_28 hl (by decide) rfl (fun ls hl => ?_)
        exact J30 (-5 : Int32) (0 : Int32) w0 hf H locs ls hP hS (lv_sub hl [2, 3, 4, 1, 0] rfl)
      · replace hf := xw_ip c6 hf
        refine lv_bipush (v := (-2)) hx hb dX8_kept_21 (by decide) ?_
        obtain ⟨h0, h1⟩ := xw_s2 hf
        exact xw_iret hB hK hE hS hP hr hlk h0 h1 dX8_kept_23
    · replace hf := xw_ip c3 hf
      refine lv_iconst (v := (-1)) hx hb dX8_kept_8 (by decide) ?_
      obtain ⟨h0, h1⟩ := xw_s2 hf
      exact xw_iret hB hK hE hS hP hr hlk h0 h1 dX8_kept_9
  exact HH s.heap [] hP hS
def fX8_see (a1 : Int32) (a2 : Int32) (w0 : xw_M) : Option (Int32 × xw_M) := if a1 = (-1 : Int32) then xw_ck (64 : Int32) 109 (xw_lt (xw_si w0 120 (64 : Int32).toNatClampNeg (0 : Int32)) (fun w21 => some ((0 : Int32), w21))) else xw_bp (fX8_isOne a1 w0) (fun r2 => if r2 = 0 then some ((-1 : Int32), w0) else xw_bp (fX8_isIn a2 (0 : Int32) (999 : Int32)) (fun r5 => if r5 = 0 then some ((-2 : Int32), w0) else xw_ck (64 : Int32) 109 (if (w0.1 120 (64 : Int32).toNatClampNeg) = (5 : Int32) then some ((-4 : Int32), w0) else xw_ck (64 : Int32) 109 (xw_lt ((65 : Int32) + ((2 : Int32) * (w0.1 120 (64 : Int32).toNatClampNeg))) (fun x3_11 => xw_ck x3_11 109 (xw_lt (xw_si w0 120 x3_11.toNatClampNeg a1) (fun w13 => xw_ck (x3_11 + (1 : Int32)) 109 (xw_lt (xw_si w13 120 (x3_11 + (1 : Int32)).toNatClampNeg a2) (fun w15 => xw_ck (64 : Int32) 109 (xw_ck (64 : Int32) 109 (xw_lt (xw_si w15 120 (64 : Int32).toNatClampNeg ((w15.1 120 (64 : Int32).toNatClampNeg) + (1 : Int32))) (fun w18 => xw_ck (64 : Int32) 109 (some (w18.1 120 (64 : Int32).toNatClampNeg, w18))))))))))))))
set_option maxHeartbeats 4000000 in
set_option maxRecDepth 100000 in
theorem kX8_see (l : Launch) (G : xw_G) (hG : xw_ok G) (a1 : Int32) (a2 : Int32) (w0 : xw_M) (r0 : Int32) (wz : xw_M) (hf : fX8_see a1 a2 w0 = some (r0, wz)) : xw_Ti l G yX8_see cX8_see 4 ((Option.some Jvm.ClassFile.FieldType.int)) (2) (43) [.ref (xw_ad G 119), .int a1, .int a2] w0 r0 wz := by
  unfold xw_Ti
  refine Met.ofW (cc := cX8_see) (maxL := 4) (ret := (Option.some Jvm.ClassFile.FieldType.int)) (by decide) rfl ?_
  intro p e s m args below meth c s₁ B hml hv
  obtain ⟨hargs, hP, hK, hE⟩ := hv
  have hx := B.exec
  have hb := B.bytes
  have hr := B.returns
  have hlk := B.notSynchronized
  have hB : CallFix p m c cX8_see 4 s args TB RX8 := ⟨hx, hb, hml, findClass_of_methodNamed B.named, fun q h => (atoms_spec (ws := Cond.code yX8_see cX8_see 4 ((Option.some Jvm.ClassFile.FieldType.int)) :: TB) B.pre) q (List.mem_cons_of_mem _ h)⟩
  have hS : va_S (xw_A G) s.heap s.heap [] := va_S.rf
  have hl := lv_entry [.ref (xw_ad G 119), .int a1, .int a2] (n := 4) (Nat.le_of_ble_eq_true rfl)
  rw [show entryFrame m args 4 = entryFrame m ([.ref (xw_ad G 119), .int a1, .int a2] : List Value).toArray 4 from by rw [hargs], lg_entry_eq]
  generalize (lg_sl [.ref (xw_ad G 119), .int a1, .int a2] ++ List.replicate (4 - (lg_sl [.ref (xw_ad G 119), .int a1, .int a2]).length) Slot.unset).toArray = ls at hl ⊢
  have hP : va_P (xw_D G) xw_cl (xw_W G w0) s.heap := hP
  have hl : lv_has ls 4 [(0, .ref (xw_ad G 119)), (1, .int a1), (2, .int a2)] := hl
  have HH : ∀ (H : Heap) (locs : List Loc) (hP : va_P (xw_D G) xw_cl (xw_W G w0) H) (hS : va_S (xw_A G) s.heap H locs), xw_Wi G p l e (xw_rm (2) (43)) s m args below meth c H locs r0 wz (F0 m 0 ls []) := by
    intro H locs hP hS
    unfold fX8_see at hf
    refine lv_iload_n hx hb dX8_see_0 rfl (lv_at hl 1 rfl) ?_
    refine lv_iconst (v := (-1)) hx hb dX8_see_1 (by decide) ?_
    refine lv_icmp_ne (tgt := 15) hx hb dX8_see_2 (by decide) (fun c1 => ?_) (fun c1 => ?_)
    · replace hf := xw_in' c1 hf
      refine lv_aload_n hx hb dX8_see_15 rfl (lv_at hl 0 rfl) ?_
      refine lv_iload_n hx hb dX8_see_16 rfl (lv_at hl 1 rfl) ?_
      replace hf := xw_bp_e hf
      obtain ⟨r2, he3, hf⟩ := hf
      refine xw_Vi hB hK hE hS hP (As := [.int a1]) (rest := []) (kX8_isOne l G hG a1 w0 _ he3) gs_X8_101 (xw_rc hK hP (C := RX8) (T := TX8) (N := 31) (xw_o8 G) rfl) 1 hv_X8_isOne ⟨Nat.le_of_ble_eq_true rfl, Nat.le_of_ble_eq_true rfl⟩ rfl hl.1 (Nat.le_of_ble_eq_true rfl) rfl dX8_see_17 ⟨Nat.zero_le _, Nat.zero_le _⟩ (fun H locs hP hS => ?_)
      refine lv_if_ne (tgt := 25) hx hb dX8_see_20 (by decide) (fun c4 => ?_) (fun c4 => ?_)
      · replace hf := xw_in' c4 hf
        refine lv_iload_n hx hb dX8_see_25 rfl (lv_at hl 2 rfl) ?_
        refine lv_iconst (v := 0) hx hb dX8_see_26 (by decide) ?_
        refine lv_sipush (v := 999) hx hb dX8_see_27 (by decide) ?_
        replace hf := xw_bp_e hf
        obtain ⟨r5, he6, hf⟩ := hf
        refine xw_Si hB hK hE hS hP (As := [.int a2, .int (0 : Int32), .int (999 : Int32)]) (rest := []) (kX8_isIn l G hG a2 (0 : Int32) (999 : Int32) w0 _ he6) tw_835 tw_837 tw_836 tw_10 3 hs_X8_isIn ⟨Nat.le_of_ble_eq_true rfl, Nat.le_of_ble_eq_true rfl⟩ rfl hl.1 (Nat.le_of_ble_eq_true rfl) rfl dX8_see_30 ⟨Nat.zero_le _, Nat.zero_le _⟩ (fun H locs hP hS => ?_)
        refine lv_if_ne (tgt := 39) hx hb dX8_see_33 (by decide) (fun c7 => ?_) (fun c7 => ?_)
        · replace hf := xw_in' c7 hf
          refine lv_aload_n hx hb dX8_see_39 rfl (lv_at hl 0 rfl) ?_
          refine xw_get hB hK hP (xw_o8 G) (C := RX8) (T := TX8) (N := 31) rfl TBi_X8 0 (by decide) tw_728 rfl rfl dX8_see_40 ?_
          refine lv_bipush (v := 64) hx hb dX8_see_43 (by decide) ?_
          replace hf := xw_ck_e hf
          obtain ⟨hi8, hf⟩ := hf
          refine xw_ild hB hK hP (xw_k120 G) hi8 dX8_see_45 ?_
          refine lv_iconst (v := 5) hx hb dX8_see_46 (by decide) ?_
          refine lv_icmp_ne (tgt := 53) hx hb dX8_see_47 (by decide) (fun c9 => ?_) (fun c9 => ?_)
          · replace hf := xw_in' c9 hf
            refine lv_bipush (v := 65) hx hb dX8_see_53 (by decide) ?_
            refine lv_iconst (v := 2) hx hb dX8_see_55 (by decide) ?_
            refine lv_aload_n hx hb dX8_see_56 rfl (lv_at hl 0 rfl) ?_
            refine xw_get hB hK hP (xw_o8 G) (C := RX8) (T := TX8) (N := 31) rfl TBi_X8 0 (by decide) tw_728 rfl rfl dX8_see_57 ?_
            refine lv_bipush (v := 64) hx hb dX8_see_60 (by decide) ?_
            replace hf := xw_ck_e hf
            obtain ⟨hi10, hf⟩ := hf
            refine xw_ild hB hK hP (xw_k120 G) hi10 dX8_see_62 ?_
            refine lv_imul hx hb dX8_see_63 ?_
            refine lv_iadd hx hb dX8_see_64 ?_
            refine lv_topi (fun x3_11 ex3_11 => ?_)
            replace hf := xw_lt_e ex3_11 hf
            refine lv_istore_n (lv' := [(3, .int x3_11), (0, .ref (xw_ad G 119)), (1, .int a1), (2, .int a2)]) hx hb dX8_see_65 rfl hl (by decide) rfl (fun ls hl => ?_)
            refine lv_aload_n hx hb dX8_see_66 rfl (lv_at hl 1 rfl) ?_
            refine xw_get hB hK hP (xw_o8 G) (C := RX8) (T := TX8) (N := 31) rfl TBi_X8 0 (by decide) tw_728 rfl rfl dX8_see_67 ?_
            refine lv_iload_n hx hb dX8_see_70 rfl (lv_at hl 0 rfl) ?_
            refine lv_iload_n hx hb dX8_see_71 rfl (lv_at hl 2 rfl) ?_
            replace hf := xw_ck_e hf
            obtain ⟨hi12, hf⟩ := hf
            refine xw_ist hG hB hK hS hP (xw_k120 G) hi12 dX8_see_72 (fun w13 ew13 H locs hP hS => ?_)
            replace hf := xw_lt_e ew13 hf
            refine lv_aload_n hx hb dX8_see_73 rfl (lv_at hl 1 rfl) ?_
            refine xw_get hB hK hP (xw_o8 G) (C := RX8) (T := TX8) (N := 31) rfl TBi_X8 0 (by decide) tw_728 rfl rfl dX8_see_74 ?_
            refine lv_iload_n hx hb dX8_see_77 rfl (lv_at hl 0 rfl) ?_
            refine lv_iconst (v := 1) hx hb dX8_see_78 (by decide) ?_
            refine lv_iadd hx hb dX8_see_79 ?_
            refine lv_iload_n hx hb dX8_see_80 rfl (lv_at hl 3 rfl) ?_
            replace hf := xw_ck_e hf
            obtain ⟨hi14, hf⟩ := hf
            refine xw_ist hG hB hK hS hP (xw_k120 G) hi14 dX8_see_81 (fun w15 ew15 H locs hP hS => ?_)
            replace hf := xw_lt_e ew15 hf
            refine lv_aload_n hx hb dX8_see_82 rfl (lv_at hl 1 rfl) ?_
            refine xw_get hB hK hP (xw_o8 G) (C := RX8) (T := TX8) (N := 31) rfl TBi_X8 0 (by decide) tw_728 rfl rfl dX8_see_83 ?_
            refine lv_bipush (v := 64) hx hb dX8_see_86 (by decide) ?_
            refine lv_dup2_11 hx hb dX8_see_88 rfl rfl ?_
            replace hf := xw_ck_e hf
            obtain ⟨hi16, hf⟩ := hf
            refine xw_ild hB hK hP (xw_k120 G) hi16 dX8_see_89 ?_
            refine lv_iconst (v := 1) hx hb dX8_see_90 (by decide) ?_
            refine lv_iadd hx hb dX8_see_91 ?_
            replace hf := xw_ck_e hf
            obtain ⟨hi17, hf⟩ := hf
            refine xw_ist hG hB hK hS hP (xw_k120 G) hi17 dX8_see_92 (fun w18 ew18 H locs hP hS => ?_)
            replace hf := xw_lt_e ew18 hf
            refine lv_aload_n hx hb dX8_see_93 rfl (lv_at hl 1 rfl) ?_
            refine xw_get hB hK hP (xw_o8 G) (C := RX8) (T := TX8) (N := 31) rfl TBi_X8 0 (by decide) tw_728 rfl rfl dX8_see_94 ?_
            refine lv_bipush (v := 64) hx hb dX8_see_97 (by decide) ?_
            replace hf := xw_ck_e hf
            obtain ⟨hi19, hf⟩ := hf
            refine xw_ild hB hK hP (xw_k120 G) hi19 dX8_see_99 ?_
            obtain ⟨h0, h1⟩ := xw_s2 hf
            exact xw_iret hB hK hE hS hP hr hlk h0 h1 dX8_see_100
          · replace hf := xw_ip c9 hf
            refine lv_bipush (v := (-4)) hx hb dX8_see_50 (by decide) ?_
            obtain ⟨h0, h1⟩ := xw_s2 hf
            exact xw_iret hB hK hE hS hP hr hlk h0 h1 dX8_see_52
        · replace hf := xw_ip c7 hf
          refine lv_bipush (v := (-2)) hx hb dX8_see_36 (by decide) ?_
          obtain ⟨h0, h1⟩ := xw_s2 hf
          exact xw_iret hB hK hE hS hP hr hlk h0 h1 dX8_see_38
      · replace hf := xw_ip c4 hf
        refine lv_iconst (v := (-1)) hx hb dX8_see_23 (by decide) ?_
        obtain ⟨h0, h1⟩ := xw_s2 hf
        exact xw_iret hB hK hE hS hP hr hlk h0 h1 dX8_see_24
    · replace hf := xw_ip c1 hf
      refine lv_aload_n hx hb dX8_see_5 rfl (lv_at hl 0 rfl) ?_
      refine xw_get hB hK hP (xw_o8 G) (C := RX8) (T := TX8) (N := 31) rfl TBi_X8 0 (by decide) tw_728 rfl rfl dX8_see_6 ?_
      refine lv_bipush (v := 64) hx hb dX8_see_9 (by decide) ?_
      refine lv_iconst (v := 0) hx hb dX8_see_11 (by decide) ?_
      replace hf := xw_ck_e hf
      obtain ⟨hi20, hf⟩ := hf
      refine xw_ist hG hB hK hS hP (xw_k120 G) hi20 dX8_see_12 (fun w21 ew21 H locs hP hS => ?_)
      replace hf := xw_lt_e ew21 hf
      refine lv_iconst (v := 0) hx hb dX8_see_13 (by decide) ?_
      obtain ⟨h0, h1⟩ := xw_s2 hf
      exact xw_iret hB hK hE hS hP hr hlk h0 h1 dX8_see_14
  exact HH s.heap [] hP hS
def fX8_can_92 (n : Nat) (a1 : Int32) (a2 : Int32) (x3 : Int32) (x4 : Int32) (x5 : Int32) (w : xw_M) : Option (Int32 × xw_M) := xw_b (fX8_change a1 (1 : Int32) x3 w) (fun r20 w21 => if a2 = 0 then some (x4, w21) else some (x5, w21))
def fX8_can_84 (n : Nat) (a1 : Int32) (a2 : Int32) (x3 : Int32) (x4 : Int32) (x6 : Int32) (v0 : Int32) (w : xw_M) : Option ((Int32 × Int32 × Int32 × xw_M) ⊕ (Int32 × Int32 × xw_M)) := xw_lt (x6 + (-1)) (fun x6_19 => some (.inl (x4, v0, x6_19, w)))
def fX8_can_69 (n : Nat) (a1 : Int32) (a2 : Int32) (x3 : Int32) (x5 : Int32) (x6 : Int32) (x7 : Int32) (v0 : Int32) (v1 : Int32) (w : xw_M) : Option ((Int32 × Int32 × Int32 × xw_M) ⊕ (Int32 × Int32 × xw_M)) := xw_lt (v0 + v1) (fun x4_17 => if x7 = 0 then fX8_can_84 n a1 a2 x3 x4_17 x6 x5 w else fX8_can_84 n a1 a2 x3 x4_17 x6 x6 w)
def fX8_can_b37 (n : Nat) (a1 : Int32) (a2 : Int32) (x3 : Int32) (x4 : Int32) (x5 : Int32) (x6 : Int32) (w : xw_M) : Option ((Int32 × Int32 × Int32 × xw_M) ⊕ (Int32 × Int32 × xw_M)) := if x6 < 0 then some (.inr (x4, x5, w)) else xw_b (fX8_change a1 (1 : Int32) x6 w) (fun r10 w11 => xw_b (fX8_isAllSeen n w11) (fun r13 w14 => if r13 = 0 then fX8_can_69 n a1 a2 x3 x5 x6 r13 x4 (0 : Int32) w14 else fX8_can_69 n a1 a2 x3 x5 x6 r13 x4 (1 : Int32) w14))
def fX8_can_37 (n : Nat) (a1 : Int32) (a2 : Int32) (x3 : Int32) (x4 : Int32) (x5 : Int32) (x6 : Int32) (w : xw_M) : Option (Int32 × xw_M) := xw_bp (xw_it (fun z => fX8_can_b37 n a1 a2 x3 z.1 z.2.1 z.2.2.1 z.2.2.2) n (x4, x5, x6, w)) (fun z => (fun (x4 : Int32) (x5 : Int32) (w : xw_M) => fX8_can_92 n a1 a2 x3 x4 x5 w) z.1 z.2.1 z.2.2)
def fX8_can (n : Nat) (a1 : Int32) (a2 : Int32) (w0 : xw_M) : Option (Int32 × xw_M) := xw_bp (fX8_isOne a1 w0) (fun r1 => if r1 = 0 then some ((-1 : Int32), w0) else xw_bp (fX8_isIn a2 (0 : Int32) (1 : Int32)) (fun r4 => if r4 = 0 then some ((-1 : Int32), w0) else xw_bp (fX8_one a1 (1 : Int32) w0) (fun r7 => fX8_can_37 n a1 a2 r7 (0 : Int32) (-5 : Int32) (9 : Int32) w0)))
set_option maxHeartbeats 4000000 in
set_option maxRecDepth 100000 in
theorem kX8_can (l : Launch) (G : xw_G) (hG : xw_ok G) (n : Nat) (a1 : Int32) (a2 : Int32) (w0 : xw_M) (r0 : Int32) (wz : xw_M) (hf : fX8_can n a1 a2 w0 = some (r0, wz)) : xw_Ti l G yX8_can cX8_can 8 ((Option.some Jvm.ClassFile.FieldType.int)) (33) (723) [.ref (xw_ad G 119), .int a1, .int a2] w0 r0 wz := by
  unfold xw_Ti
  refine Met.ofW (cc := cX8_can) (maxL := 8) (ret := (Option.some Jvm.ClassFile.FieldType.int)) (by decide) rfl ?_
  intro p e s m args below meth c s₁ B hml hv
  obtain ⟨hargs, hP, hK, hE⟩ := hv
  have hx := B.exec
  have hb := B.bytes
  have hr := B.returns
  have hlk := B.notSynchronized
  have hB : CallFix p m c cX8_can 8 s args TB RX8 := ⟨hx, hb, hml, findClass_of_methodNamed B.named, fun q h => (atoms_spec (ws := Cond.code yX8_can cX8_can 8 ((Option.some Jvm.ClassFile.FieldType.int)) :: TB) B.pre) q (List.mem_cons_of_mem _ h)⟩
  have hS : va_S (xw_A G) s.heap s.heap [] := va_S.rf
  have hl := lv_entry [.ref (xw_ad G 119), .int a1, .int a2] (n := 8) (Nat.le_of_ble_eq_true rfl)
  rw [show entryFrame m args 8 = entryFrame m ([.ref (xw_ad G 119), .int a1, .int a2] : List Value).toArray 8 from by rw [hargs], lg_entry_eq]
  generalize (lg_sl [.ref (xw_ad G 119), .int a1, .int a2] ++ List.replicate (8 - (lg_sl [.ref (xw_ad G 119), .int a1, .int a2]).length) Slot.unset).toArray = ls at hl ⊢
  have hP : va_P (xw_D G) xw_cl (xw_W G w0) s.heap := hP
  have hl : lv_has ls 8 [(0, .ref (xw_ad G 119)), (1, .int a1), (2, .int a2)] := hl
  have HH : ∀ (H : Heap) (locs : List Loc) (hP : va_P (xw_D G) xw_cl (xw_W G w0) H) (hS : va_S (xw_A G) s.heap H locs), xw_Wi G p l e (xw_rm (33) (723)) s m args below meth c H locs r0 wz (F0 m 0 ls []) := by
    intro H locs hP hS
    unfold fX8_can at hf
    have J92 : ∀ (x3 : Int32) (x4 : Int32) (x5 : Int32) (w : xw_M) (hf : fX8_can_92 n a1 a2 x3 x4 x5 w = some (r0, wz)) (H : Heap) (locs : List Loc) (ls : Array Slot) (hP : va_P (xw_D G) xw_cl (xw_W G w) H) (hS : va_S (xw_A G) s.heap H locs) (hl : lv_has ls 8 [(0, .ref (xw_ad G 119)), (1, .int a1), (2, .int a2), (3, .int x3), (4, .int x4), (5, .int x5)]), xw_Wi G p l e (xw_rm (33) (723)) s m args below meth c H locs r0 wz (F0 m 92 ls []) := by
      intro x3 x4 x5 w hf H locs ls hP hS hl
      unfold fX8_can_92 at hf
      refine lv_aload_n hx hb dX8_can_92 rfl (lv_at hl 0 rfl) ?_
      refine lv_iload_n hx hb dX8_can_93 rfl (lv_at hl 1 rfl) ?_
      refine lv_iconst (v := 1) hx hb dX8_can_94 (by decide) ?_
      refine lv_iload_n hx hb dX8_can_95 rfl (lv_at hl 3 rfl) ?_
      replace hf := xw_b_e hf
      obtain ⟨r20, w21, he22, hf⟩ := hf
      refine xw_Vi hB hK hE hS hP (As := [.int a1, .int (1 : Int32), .int x3]) (rest := []) (kX8_change l G hG a1 (1 : Int32) x3 w _ _ he22) gs_X8_97 (xw_rc hK hP (C := RX8) (T := TX8) (N := 31) (xw_o8 G) rfl) 3 hv_X8_change ⟨Nat.le_of_ble_eq_true rfl, Nat.le_of_ble_eq_true rfl⟩ rfl hl.1 (Nat.le_of_ble_eq_true rfl) rfl dX8_can_96 ⟨Nat.zero_le _, Nat.zero_le _⟩ (fun H locs hP hS => ?_)
      refine lv_pop hx hb dX8_can_99 rfl ?_
      refine lv_iload_n hx hb dX8_can_100 rfl (lv_at hl 2 rfl) ?_
      refine lv_if_ne (tgt := 109) hx hb dX8_can_101 (by decide) (fun c23 => ?_) (fun c23 => ?_)
      · replace hf := xw_in' c23 hf
        refine lv_iload hx hb dX8_can_109 (lv_at hl 5 rfl) ?_
        obtain ⟨h0, h1⟩ := xw_s2 hf
        exact xw_iret hB hK hE hS hP hr hlk h0 h1 dX8_can_111
      · replace hf := xw_ip c23 hf
        refine lv_iload hx hb dX8_can_104 (lv_at hl 4 rfl) ?_
        refine lv_goto (tgt := 111) hx hb dX8_can_106 (by decide) ?_
        obtain ⟨h0, h1⟩ := xw_s2 hf
        exact xw_iret hB hK hE hS hP hr hlk h0 h1 dX8_can_111
    have J37 : ∀ (x3 : Int32) (x4 : Int32) (x5 : Int32) (x6 : Int32) (w : xw_M) (hf : fX8_can_37 n a1 a2 x3 x4 x5 x6 w = some (r0, wz)) (H : Heap) (locs : List Loc) (ls : Array Slot) (hP : va_P (xw_D G) xw_cl (xw_W G w) H) (hS : va_S (xw_A G) s.heap H locs) (hl : lv_has ls 8 [(0, .ref (xw_ad G 119)), (1, .int a1), (2, .int a2), (3, .int x3), (4, .int x4), (5, .int x5), (6, .int x6)]), xw_Wi G p l e (xw_rm (33) (723)) s m args below meth c H locs r0 wz (F0 m 37 ls []) := by
      intro x3 x4 x5 x6 w hf H locs ls hP hS hl
      unfold fX8_can_37 at hf
      replace hf := xw_bp_e hf
      obtain ⟨bb37, hit37, hfx37⟩ := hf
      have XX37 : ∀ (x4 : Int32) (x5 : Int32) (w : xw_M) (hf : fX8_can_92 n a1 a2 x3 x4 x5 w = some (r0, wz)) (H : Heap) (locs : List Loc) (ls : Array Slot) (hP : va_P (xw_D G) xw_cl (xw_W G w) H) (hS : va_S (xw_A G) s.heap H locs) (hl : lv_has ls 8 [(0, .ref (xw_ad G 119)), (1, .int a1), (2, .int a2), (3, .int x3), (4, .int x4), (5, .int x5)]), xw_Wi G p l e (xw_rm (33) (723)) s m args below meth c H locs r0 wz (F0 m 92 ls []) := by
        intro x4 x5 w hf H locs ls hP hS hl
        exact J92 x3 x4 x5 w hf H locs ls hP hS (lv_sub hl [0, 1, 2, 3, 4, 5] rfl)
      have LL37 : ∀ (nn : Nat) (x4 : Int32) (x5 : Int32) (x6 : Int32) (w : xw_M) (hit : xw_it (fun z => fX8_can_b37 n a1 a2 x3 z.1 z.2.1 z.2.2.1 z.2.2.2) nn (x4, x5, x6, w) = some bb37) (H : Heap) (locs : List Loc) (ls : Array Slot) (hP : va_P (xw_D G) xw_cl (xw_W G w) H) (hS : va_S (xw_A G) s.heap H locs) (hl : lv_has ls 8 [(0, .ref (xw_ad G 119)), (1, .int a1), (2, .int a2), (3, .int x3), (4, .int x4), (5, .int x5), (6, .int x6)]), xw_Wi G p l e (xw_rm (33) (723)) s m args below meth c H locs r0 wz (F0 m 37 ls []) := by
        intro nn
        induction nn with
        | zero => intro x4 x5 x6 w hit; exact (xw_it_0 hit).elim
        | succ nn ih37 =>
          intro x4 x5 x6 w hit H locs ls hP hS hl
          replace hit := xw_it_e hit
          obtain ⟨wv37, hf, hC37, hX37⟩ := hit
          replace hf : fX8_can_b37 n a1 a2 x3 x4 x5 x6 w = some wv37 := hf
          unfold fX8_can_b37 at hf
          have J84 : ∀ (x4 : Int32) (x6 : Int32) (v0 : Int32) (w : xw_M) (hf : fX8_can_84 n a1 a2 x3 x4 x6 v0 w = some wv37) (H : Heap) (locs : List Loc) (ls : Array Slot) (hP : va_P (xw_D G) xw_cl (xw_W G w) H) (hS : va_S (xw_A G) s.heap H locs) (hl : lv_has ls 8 [(0, .ref (xw_ad G 119)), (1, .int a1), (2, .int a2), (3, .int x3), (4, .int x4), (6, .int x6)]), xw_Wi G p l e (xw_rm (33) (723)) s m args below meth c H locs r0 wz (F0 m 84 ls [.int v0]) := by
            intro x4 x6 v0 w hf H locs ls hP hS hl
            unfold fX8_can_84 at hf
            refine lv_istore (lv' := [(5, .int v0), (0, .ref (xw_ad G 119)), (1, .int a1), (2, .int a2), (3, .int x3), (4, .int x4), (6, .int x6)]) hx hb dX8_can_84 hl (by decide) rfl (fun ls hl => ?_)
            obtain ⟨x6_19, ex6_19⟩ : ∃ y : Int32, y = x6 + (-1) := ⟨_, rfl⟩
            replace hf := xw_lt_e ex6_19 hf
            refine lv_iinc (v := x6_19) (lv' := [(6, .int x6_19), (5, .int v0), (0, .ref (xw_ad G 119)), (1, .int a1), (2, .int a2), (3, .int x3), (4, .int x4)]) hx hb dX8_can_86 hl (k := 6) rfl (by rw [ex6_19]; rfl) (by decide) rfl (fun ls hl => ?_)
            refine lv_goto (tgt := 37) hx hb dX8_can_89 (by decide) ?_
            have hi := hC37 _ (xw_so hf).symm
            exact ih37 x4 v0 x6_19 w hi H locs ls hP hS (lv_sub hl [2, 3, 4, 5, 6, 1, 0] rfl)
          have J69 : ∀ (x5 : Int32) (x6 : Int32) (x7 : Int32) (v0 : Int32) (v1 : Int32) (w : xw_M) (hf : fX8_can_69 n a1 a2 x3 x5 x6 x7 v0 v1 w = some wv37) (H : Heap) (locs : List Loc) (ls : Array Slot) (hP : va_P (xw_D G) xw_cl (xw_W G w) H) (hS : va_S (xw_A G) s.heap H locs) (hl : lv_has ls 8 [(0, .ref (xw_ad G 119)), (1, .int a1), (2, .int a2), (3, .int x3), (5, .int x5), (6, .int x6), (7, .int x7)]), xw_Wi G p l e (xw_rm (33) (723)) s m args below meth c H locs r0 wz (F0 m 69 ls [.int v1, .int v0]) := by
            intro x5 x6 x7 v0 v1 w hf H locs ls hP hS hl
            unfold fX8_can_69 at hf
            refine lv_iadd hx hb dX8_can_69 ?_
            refine lv_topi (fun x4_17 ex4_17 => ?_)
            replace hf := xw_lt_e ex4_17 hf
            refine lv_istore (lv' := [(4, .int x4_17), (0, .ref (xw_ad G 119)), (1, .int a1), (2, .int a2), (3, .int x3), (5, .int x5), (6, .int x6), (7, .int x7)]) hx hb dX8_can_70 hl (by decide) rfl (fun ls hl => ?_)
            refine lv_iload hx hb dX8_can_72 (lv_at hl 7 rfl) ?_
            refine lv_if_eq (tgt := 82) hx hb dX8_can_74 (by decide) (fun c18 => ?_) (fun c18 => ?_)
            · replace hf := xw_ip c18 hf
              refine lv_iload hx hb dX8_can_82 (lv_at hl 5 rfl) ?_
              exact J84 x4_17 x6 x5 w hf H locs ls hP hS (lv_sub hl [1, 2, 3, 4, 0, 6] rfl)
            · replace hf := xw_in' c18 hf
              refine lv_iload hx hb dX8_can_77 (lv_at hl 6 rfl) ?_
              refine lv_goto (tgt := 84) hx hb dX8_can_79 (by decide) ?_
              exact J84 x4_17 x6 x6 w hf H locs ls hP hS (lv_sub hl [1, 2, 3, 4, 0, 6] rfl)
          refine lv_iload hx hb dX8_can_37 (lv_at hl 6 rfl) ?_
          refine lv_if_lt (tgt := 92) hx hb dX8_can_39 (by decide) (fun c9 => ?_) (fun c9 => ?_)
          · replace hf := xw_ip c9 hf
            have he37 := hX37 _ (xw_so hf).symm
            rw [← he37] at hfx37
            exact XX37 x4 x5 w hfx37 H locs ls hP hS (lv_sub hl [0, 1, 2, 3, 4, 5] rfl)
          · replace hf := xw_in' c9 hf
            refine lv_aload_n hx hb dX8_can_42 rfl (lv_at hl 0 rfl) ?_
            refine lv_iload_n hx hb dX8_can_43 rfl (lv_at hl 1 rfl) ?_
            refine lv_iconst (v := 1) hx hb dX8_can_44 (by decide) ?_
            refine lv_iload hx hb dX8_can_45 (lv_at hl 6 rfl) ?_
            replace hf := xw_b_e hf
            obtain ⟨r10, w11, he12, hf⟩ := hf
            refine xw_Vi hB hK hE hS hP (As := [.int a1, .int (1 : Int32), .int x6]) (rest := []) (kX8_change l G hG a1 (1 : Int32) x6 w _ _ he12) gs_X8_97 (xw_rc hK hP (C := RX8) (T := TX8) (N := 31) (xw_o8 G) rfl) 3 hv_X8_change ⟨Nat.le_of_ble_eq_true rfl, Nat.le_of_ble_eq_true rfl⟩ rfl hl.1 (Nat.le_of_ble_eq_true rfl) rfl dX8_can_47 ⟨Nat.zero_le _, Nat.zero_le _⟩ (fun H locs hP hS => ?_)
            refine lv_pop hx hb dX8_can_50 rfl ?_
            refine lv_aload_n hx hb dX8_can_51 rfl (lv_at hl 0 rfl) ?_
            replace hf := xw_b_e hf
            obtain ⟨r13, w14, he15, hf⟩ := hf
            refine xw_Vi hB hK hE hS hP (As := []) (rest := []) (kX8_isAllSeen l G hG n w11 _ _ he15) gs_X8_219 (xw_rc hK hP (C := RX8) (T := TX8) (N := 31) (xw_o8 G) rfl) 0 hv_X8_isAllSeen ⟨Nat.le_of_ble_eq_true rfl, Nat.le_of_ble_eq_true rfl⟩ rfl hl.1 (Nat.le_of_ble_eq_true rfl) rfl dX8_can_52 ⟨Nat.zero_le _, Nat.zero_le _⟩ (fun H locs hP hS => ?_)
            refine lv_istore (lv' := [(7, .int r13), (0, .ref (xw_ad G 119)), (1, .int a1), (2, .int a2), (3, .int x3), (4, .int x4), (5, .int x5), (6, .int x6)]) hx hb dX8_can_55 hl (by decide) rfl (fun ls hl => ?_)
            refine lv_iload hx hb dX8_can_57 (lv_at hl 5 rfl) ?_
            refine lv_iload hx hb dX8_can_59 (lv_at hl 0 rfl) ?_
            refine lv_if_eq (tgt := 68) hx hb dX8_can_61 (by decide) (fun c16 => ?_) (fun c16 => ?_)
            · replace hf := xw_ip c16 hf
              refine lv_iconst (v := 0) hx hb dX8_can_68 (by decide) ?_
              exact J69 x5 x6 r13 x4 (0 : Int32) w14 hf H locs ls hP hS (lv_sub hl [1, 2, 3, 4, 6, 7, 0] rfl)
            · replace hf := xw_in' c16 hf
              refine lv_iconst (v := 1) hx hb dX8_can_64 (by decide) ?_
              refine lv_goto (tgt := 69) hx hb dX8_can_65 (by decide) ?_
              exact J69 x5 x6 r13 x4 (1 : Int32) w14 hf H locs ls hP hS (lv_sub hl [1, 2, 3, 4, 6, 7, 0] rfl)
      exact LL37 n x4 x5 x6 w hit37 H locs ls hP hS hl
    refine lv_aload_n hx hb dX8_can_0 rfl (lv_at hl 0 rfl) ?_
    refine lv_iload_n hx hb dX8_can_1 rfl (lv_at hl 1 rfl) ?_
    replace hf := xw_bp_e hf
    obtain ⟨r1, he2, hf⟩ := hf
    refine xw_Vi hB hK hE hS hP (As := [.int a1]) (rest := []) (kX8_isOne l G hG a1 w0 _ he2) gs_X8_101 (xw_rc hK hP (C := RX8) (T := TX8) (N := 31) (xw_o8 G) rfl) 1 hv_X8_isOne ⟨Nat.le_of_ble_eq_true rfl, Nat.le_of_ble_eq_true rfl⟩ rfl hl.1 (Nat.le_of_ble_eq_true rfl) rfl dX8_can_2 ⟨Nat.zero_le _, Nat.zero_le _⟩ (fun H locs hP hS => ?_)
    refine lv_if_eq (tgt := 17) hx hb dX8_can_5 (by decide) (fun c3 => ?_) (fun c3 => ?_)
    · replace hf := xw_ip c3 hf
      refine lv_iconst (v := (-1)) hx hb dX8_can_17 (by decide) ?_
      obtain ⟨h0, h1⟩ := xw_s2 hf
      exact xw_iret hB hK hE hS hP hr hlk h0 h1 dX8_can_18
    · replace hf := xw_in' c3 hf
      refine lv_iload_n hx hb dX8_can_8 rfl (lv_at hl 2 rfl) ?_
      refine lv_iconst (v := 0) hx hb dX8_can_9 (by decide) ?_
      refine lv_iconst (v := 1) hx hb dX8_can_10 (by decide) ?_
      replace hf := xw_bp_e hf
      obtain ⟨r4, he5, hf⟩ := hf
      refine xw_Si hB hK hE hS hP (As := [.int a2, .int (0 : Int32), .int (1 : Int32)]) (rest := []) (kX8_isIn l G hG a2 (0 : Int32) (1 : Int32) w0 _ he5) tw_835 tw_837 tw_836 tw_10 3 hs_X8_isIn ⟨Nat.le_of_ble_eq_true rfl, Nat.le_of_ble_eq_true rfl⟩ rfl hl.1 (Nat.le_of_ble_eq_true rfl) rfl dX8_can_11 ⟨Nat.zero_le _, Nat.zero_le _⟩ (fun H locs hP hS => ?_)
      refine lv_if_ne (tgt := 19) hx hb dX8_can_14 (by decide) (fun c6 => ?_) (fun c6 => ?_)
      · replace hf := xw_in' c6 hf
        refine lv_aload_n hx hb dX8_can_19 rfl (lv_at hl 0 rfl) ?_
        refine lv_iload_n hx hb dX8_can_20 rfl (lv_at hl 1 rfl) ?_
        refine lv_iconst (v := 1) hx hb dX8_can_21 (by decide) ?_
        replace hf := xw_bp_e hf
        obtain ⟨r7, he8, hf⟩ := hf
        refine xw_Vi hB hK hE hS hP (As := [.int a1, .int (1 : Int32)]) (rest := []) (kX8_one l G hG a1 (1 : Int32) w0 _ he8) gs_X8_89 (xw_rc hK hP (C := RX8) (T := TX8) (N := 31) (xw_o8 G) rfl) 2 hv_X8_one ⟨Nat.le_of_ble_eq_true rfl, Nat.le_of_ble_eq_true rfl⟩ rfl hl.1 (Nat.le_of_ble_eq_true rfl) rfl dX8_can_22 ⟨Nat.zero_le _, Nat.zero_le _⟩ (fun H locs hP hS => ?_)
        refine lv_istore_n (lv' := [(3, .int r7), (0, .ref (xw_ad G 119)), (1, .int a1), (2, .int a2)]) hx hb dX8_can_25 rfl hl (by decide) rfl (fun ls hl => ?_)
        refine lv_iconst (v := 0) hx hb dX8_can_26 (by decide) ?_
        refine lv_istore (lv' := [(4, .int (0 : Int32)), (3, .int r7), (0, .ref (xw_ad G 119)), (1, .int a1), (2, .int a2)]) hx hb dX8_can_27 hl (by decide) rfl (fun ls hl => ?_)
        refine lv_bipush (v := (-5)) hx hb dX8_can_29 (by decide) ?_
        refine lv_istore (lv' := [(5, .int (-5 : Int32)), (4, .int (0 : Int32)), (3, .int r7), (0, .ref (xw_ad G 119)), (1, .int a1), (2, .int a2)]) hx hb dX8_can_31 hl (by decide) rfl (fun ls hl => ?_)
        refine lv_bipush (v := 9) hx hb dX8_can_33 (by decide) ?_
        refine lv_istore (lv' := [(6, .int (9 : Int32)), (5, .int (-5 : Int32)), (4, .int (0 : Int32)), (3, .int r7), (0, .ref (xw_ad G 119)), (1, .int a1), (2, .int a2)]) hx hb dX8_can_35 hl (by decide) rfl (fun ls hl => ?_)
        exact J37 r7 (0 : Int32) (-5 : Int32) (9 : Int32) w0 hf H locs ls hP hS (lv_sub hl [4, 5, 6, 3, 2, 1, 0] rfl)
      · replace hf := xw_ip c6 hf
        refine lv_iconst (v := (-1)) hx hb dX8_can_17 (by decide) ?_
        obtain ⟨h0, h1⟩ := xw_s2 hf
        exact xw_iret hB hK hE hS hP hr hlk h0 h1 dX8_can_18
  exact HH s.heap [] hP hS
def fX8_fraction_31 (n : Nat) (a0 : Int64) (a2 : Int64) (a4 : Int32) (x5 : Int64) : Option Int64 := if a4 = 0 then xw_cc (¬ x5 = 0) (some (a0 / x5)) else xw_cc (¬ x5 = 0) (some (a2 / x5))
def fX8_fraction_b6 (n : Nat) (a0 : Int64) (a2 : Int64) (a4 : Int32) (x5 : Int64) (x7 : Int64) : Option ((Int64 × Int64) ⊕ (Int64)) := if (lg_cmp x7 (0 : Int64)) = 0 then some (.inr x5) else xw_cc (¬ x7 = 0) (xw_lt (x5 - x5 / x7 * x7) (fun x9_3 => some (.inl (x7, x9_3))))
def fX8_fraction_6 (n : Nat) (a0 : Int64) (a2 : Int64) (a4 : Int32) (x5 : Int64) (x7 : Int64) : Option Int64 := xw_bp (xw_it (fun z => fX8_fraction_b6 n a0 a2 a4 z.1 z.2) n (x5, x7)) (fun z => (fun (x5 : Int64) => fX8_fraction_31 n a0 a2 a4 x5) z)
def fX8_fraction (n : Nat) (a0 : Int64) (a2 : Int64) (a4 : Int32) : Option Int64 := fX8_fraction_6 n a0 a2 a4 a0 a2
set_option maxHeartbeats 4000000 in
set_option maxRecDepth 100000 in
theorem kX8_fraction (l : Launch) (G : xw_G) (hG : xw_ok G) (n : Nat) (a0 : Int64) (a2 : Int64) (a4 : Int32) (w0 : xw_M) (r0 : Int64) (hf : fX8_fraction n a0 a2 a4 = some r0) : xw_Tl l G yX8_fraction cX8_fraction 11 ((Option.some Jvm.ClassFile.FieldType.long)) (0) (0) [.long a0, .long a2, .int a4] w0 r0 w0 := by
  unfold xw_Tl
  refine Met.ofW (cc := cX8_fraction) (maxL := 11) (ret := (Option.some Jvm.ClassFile.FieldType.long)) (by decide) rfl ?_
  intro p e s m args below meth c s₁ B hml hv
  obtain ⟨hargs, hP, hK, hE⟩ := hv
  have hx := B.exec
  have hb := B.bytes
  have hr := B.returns
  have hlk := B.notSynchronized
  have hB : CallFix p m c cX8_fraction 11 s args TB RX8 := ⟨hx, hb, hml, findClass_of_methodNamed B.named, fun q h => (atoms_spec (ws := Cond.code yX8_fraction cX8_fraction 11 ((Option.some Jvm.ClassFile.FieldType.long)) :: TB) B.pre) q (List.mem_cons_of_mem _ h)⟩
  have hS : va_S (xw_A G) s.heap s.heap [] := va_S.rf
  have hl := lv_entry [.long a0, .long a2, .int a4] (n := 11) (Nat.le_of_ble_eq_true rfl)
  rw [show entryFrame m args 11 = entryFrame m ([.long a0, .long a2, .int a4] : List Value).toArray 11 from by rw [hargs], lg_entry_eq]
  generalize (lg_sl [.long a0, .long a2, .int a4] ++ List.replicate (11 - (lg_sl [.long a0, .long a2, .int a4]).length) Slot.unset).toArray = ls at hl ⊢
  have hP : va_P (xw_D G) xw_cl (xw_W G w0) s.heap := hP
  have hl : lv_has ls 11 [(0, .long a0), (2, .long a2), (4, .int a4)] := hl
  have HH : ∀ (H : Heap) (locs : List Loc) (hP : va_P (xw_D G) xw_cl (xw_W G w0) H) (hS : va_S (xw_A G) s.heap H locs), xw_Wl G p l e (xw_rm (0) (0)) s m args below meth c H locs r0 w0 (F0 m 0 ls []) := by
    intro H locs hP hS
    unfold fX8_fraction at hf
    have J31 : ∀ (x5 : Int64) (hf : fX8_fraction_31 n a0 a2 a4 x5 = some r0) (H : Heap) (locs : List Loc) (ls : Array Slot) (hP : va_P (xw_D G) xw_cl (xw_W G w0) H) (hS : va_S (xw_A G) s.heap H locs) (hl : lv_has ls 11 [(0, .long a0), (2, .long a2), (4, .int a4), (5, .long x5)]), xw_Wl G p l e (xw_rm (0) (0)) s m args below meth c H locs r0 w0 (F0 m 31 ls []) := by
      intro x5 hf H locs ls hP hS hl
      unfold fX8_fraction_31 at hf
      refine lv_iload hx hb dX8_fraction_31 (lv_at hl 2 rfl) ?_
      refine lv_if_ne (tgt := 43) hx hb dX8_fraction_33 (by decide) (fun c4 => ?_) (fun c4 => ?_)
      · replace hf := xw_in' c4 hf
        refine lv_lload_n hx hb dX8_fraction_43 rfl (lv_at hl 1 rfl) ?_
        refine lv_lload hx hb dX8_fraction_44 (lv_at hl 3 rfl) ?_
        replace hf := xw_cc_e hf
        obtain ⟨hd5, hf⟩ := hf
        refine lv_ldiv hx hb dX8_fraction_46 hd5 ?_
        have h0 := xw_so hf
        have h1 : w0 = w0 := rfl
        exact xw_lret hB hK hE hS hP hr hlk h0 h1 dX8_fraction_47
      · replace hf := xw_ip c4 hf
        refine lv_lload_n hx hb dX8_fraction_36 rfl (lv_at hl 0 rfl) ?_
        refine lv_lload hx hb dX8_fraction_37 (lv_at hl 3 rfl) ?_
        replace hf := xw_cc_e hf
        obtain ⟨hd6, hf⟩ := hf
        refine lv_ldiv hx hb dX8_fraction_39 hd6 ?_
        refine lv_goto (tgt := 47) hx hb dX8_fraction_40 (by decide) ?_
        have h0 := xw_so hf
        have h1 : w0 = w0 := rfl
        exact xw_lret hB hK hE hS hP hr hlk h0 h1 dX8_fraction_47
    have J6 : ∀ (x5 : Int64) (x7 : Int64) (hf : fX8_fraction_6 n a0 a2 a4 x5 x7 = some r0) (H : Heap) (locs : List Loc) (ls : Array Slot) (hP : va_P (xw_D G) xw_cl (xw_W G w0) H) (hS : va_S (xw_A G) s.heap H locs) (hl : lv_has ls 11 [(0, .long a0), (2, .long a2), (4, .int a4), (5, .long x5), (7, .long x7)]), xw_Wl G p l e (xw_rm (0) (0)) s m args below meth c H locs r0 w0 (F0 m 6 ls []) := by
      intro x5 x7 hf H locs ls hP hS hl
      unfold fX8_fraction_6 at hf
      replace hf := xw_bp_e hf
      obtain ⟨bb6, hit6, hfx6⟩ := hf
      have XX6 : ∀ (x5 : Int64) (hf : fX8_fraction_31 n a0 a2 a4 x5 = some r0) (H : Heap) (locs : List Loc) (ls : Array Slot) (hP : va_P (xw_D G) xw_cl (xw_W G w0) H) (hS : va_S (xw_A G) s.heap H locs) (hl : lv_has ls 11 [(0, .long a0), (2, .long a2), (4, .int a4), (5, .long x5)]), xw_Wl G p l e (xw_rm (0) (0)) s m args below meth c H locs r0 w0 (F0 m 31 ls []) := by
        intro x5 hf H locs ls hP hS hl
        exact J31 x5 hf H locs ls hP hS (lv_sub hl [0, 1, 2, 3] rfl)
      have LL6 : ∀ (nn : Nat) (x5 : Int64) (x7 : Int64) (hit : xw_it (fun z => fX8_fraction_b6 n a0 a2 a4 z.1 z.2) nn (x5, x7) = some bb6) (H : Heap) (locs : List Loc) (ls : Array Slot) (hP : va_P (xw_D G) xw_cl (xw_W G w0) H) (hS : va_S (xw_A G) s.heap H locs) (hl : lv_has ls 11 [(0, .long a0), (2, .long a2), (4, .int a4), (5, .long x5), (7, .long x7)]), xw_Wl G p l e (xw_rm (0) (0)) s m args below meth c H locs r0 w0 (F0 m 6 ls []) := by
        intro nn
        induction nn with
        | zero => intro x5 x7 hit; exact (xw_it_0 hit).elim
        | succ nn ih6 =>
          intro x5 x7 hit H locs ls hP hS hl
          replace hit := xw_it_e hit
          obtain ⟨wv6, hf, hC6, hX6⟩ := hit
          replace hf : fX8_fraction_b6 n a0 a2 a4 x5 x7 = some wv6 := hf
          unfold fX8_fraction_b6 at hf
          refine lv_lload hx hb dX8_fraction_6 (lv_at hl 4 rfl) ?_
          refine lv_lconst (v := 0) hx hb dX8_fraction_8 (by decide) ?_
          refine W.lcmp hx hb dX8_fraction_9 ?_
          refine lv_if_eq (tgt := 31) hx hb dX8_fraction_10 (by decide) (fun c1 => ?_) (fun c1 => ?_)
          · replace hf := xw_ip c1 hf
            have he6 := hX6 _ (xw_so hf).symm
            rw [← he6] at hfx6
            exact XX6 x5 hfx6 H locs ls hP hS (lv_sub hl [0, 1, 2, 3] rfl)
          · replace hf := xw_in' c1 hf
            refine lv_lload hx hb dX8_fraction_13 (lv_at hl 3 rfl) ?_
            refine lv_lload hx hb dX8_fraction_15 (lv_at hl 4 rfl) ?_
            replace hf := xw_cc_e hf
            obtain ⟨hd2, hf⟩ := hf
            refine lv_lrem hx hb dX8_fraction_17 hd2 ?_
            refine lv_topl (fun x9_3 ex9_3 => ?_)
            replace hf := xw_lt_e ex9_3 hf
            refine lv_lstore (lv' := [(9, .long x9_3), (0, .long a0), (2, .long a2), (4, .int a4), (5, .long x5), (7, .long x7)]) hx hb dX8_fraction_18 hl (by decide) rfl (fun ls hl => ?_)
            refine lv_lload hx hb dX8_fraction_20 (lv_at hl 5 rfl) ?_
            refine lv_lstore (lv' := [(5, .long x7), (9, .long x9_3), (0, .long a0), (2, .long a2), (4, .int a4), (7, .long x7)]) hx hb dX8_fraction_22 hl (by decide) rfl (fun ls hl => ?_)
            refine lv_lload hx hb dX8_fraction_24 (lv_at hl 1 rfl) ?_
            refine lv_lstore (lv' := [(7, .long x9_3), (5, .long x7), (9, .long x9_3), (0, .long a0), (2, .long a2), (4, .int a4)]) hx hb dX8_fraction_26 hl (by decide) rfl (fun ls hl => ?_)
            refine lv_goto (tgt := 6) hx hb dX8_fraction_28 (by decide) ?_
            have hi := hC6 _ (xw_so hf).symm
            exact ih6 x7 x9_3 hi H locs ls hP hS (lv_sub hl [3, 4, 5, 1, 0] rfl)
      exact LL6 n x5 x7 hit6 H locs ls hP hS hl
    refine lv_lload_n hx hb dX8_fraction_0 rfl (lv_at hl 0 rfl) ?_
    refine lv_lstore (lv' := [(5, .long a0), (0, .long a0), (2, .long a2), (4, .int a4)]) hx hb dX8_fraction_1 hl (by decide) rfl (fun ls hl => ?_)
    refine lv_lload_n hx hb dX8_fraction_3 rfl (lv_at hl 2 rfl) ?_
    refine lv_lstore (lv' := [(7, .long a2), (5, .long a0), (0, .long a0), (2, .long a2), (4, .int a4)]) hx hb dX8_fraction_4 hl (by decide) rfl (fun ls hl => ?_)
    exact J6 a0 a2 hf H locs ls hP hS (lv_sub hl [2, 3, 4, 1, 0] rfl)
  exact HH s.heap [] hP hS
def fX8_odds_127 (n : Nat) (a1 : Int32) (a2 : Int32) (x4 : Int32) (x5 : Int32) (w : xw_M) : Option (Int64 × xw_M) := if x4 = 0 then some ((-9223372036854775808 : Int64), w) else xw_bp (fX8_fraction n x5.toInt64 x4.toInt64 a2) (fun r36 => some (r36, w))
def fX8_odds_121 (n : Nat) (a1 : Int32) (a2 : Int32) (x3 : Int32) (x4 : Int32) (x5 : Int32) (x6 : Int32) (w : xw_M) : Option ((Int32 × Int32 × Int32 × xw_M) ⊕ (Int32 × Int32 × xw_M)) := xw_lt (x6 + 1) (fun x6_34 => some (.inl (x4, x5, x6_34, w)))
def fX8_odds_109 (n : Nat) (a1 : Int32) (a2 : Int32) (x3 : Int32) (x4 : Int32) (x6 : Int32) (v0 : Int32) (v1 : Int32) (w : xw_M) : Option ((Int32 × Int32 × Int32 × xw_M) ⊕ (Int32 × Int32 × xw_M)) := xw_lt (v0 + v1) (fun x5_30 => xw_b (fX8_change x6 (4 : Int32) (0 : Int32) w) (fun r31 w32 => fX8_odds_121 n a1 a2 x3 x4 x5_30 x6 w32))
def fX8_odds_b49 (n : Nat) (a1 : Int32) (a2 : Int32) (x3 : Int32) (x4 : Int32) (x5 : Int32) (x6 : Int32) (w : xw_M) : Option ((Int32 × Int32 × Int32 × xw_M) ⊕ (Int32 × Int32 × xw_M)) := xw_ck (60 : Int32) 109 (if (w.1 120 (60 : Int32).toNatClampNeg) ≤ x6 then some (.inr (x4, x5, w)) else if x6 = a1 then fX8_odds_121 n a1 a2 x3 x4 x5 x6 w else xw_bp (fX8_isHere x6 w) (fun r18 => if r18 = 0 then fX8_odds_121 n a1 a2 x3 x4 x5 x6 w else xw_lt (x4 + 1) (fun x4_21 => xw_b (fX8_change x6 (4 : Int32) (1 : Int32) w) (fun r22 w23 => xw_b (fX8_share n w23) (fun (_ : Unit) w26 => xw_ck a1 6 (if (w26.1 132 a1.toNatClampNeg) ≤ x3 then fX8_odds_109 n a1 a2 x3 x4_21 x6 x5 (0 : Int32) w26 else fX8_odds_109 n a1 a2 x3 x4_21 x6 x5 (1 : Int32) w26))))))
def fX8_odds_49 (n : Nat) (a1 : Int32) (a2 : Int32) (x3 : Int32) (x4 : Int32) (x5 : Int32) (x6 : Int32) (w : xw_M) : Option (Int64 × xw_M) := xw_bp (xw_it (fun z => fX8_odds_b49 n a1 a2 x3 z.1 z.2.1 z.2.2.1 z.2.2.2) n (x4, x5, x6, w)) (fun z => (fun (x4 : Int32) (x5 : Int32) (w : xw_M) => fX8_odds_127 n a1 a2 x4 x5 w) z.1 z.2.1 z.2.2)
def fX8_odds (n : Nat) (a1 : Int32) (a2 : Int32) (w0 : xw_M) : Option (Int64 × xw_M) := xw_bp (fX8_isOne a1 w0) (fun r1 => if r1 = 0 then some ((-9223372036854775808 : Int64), w0) else xw_bp (fX8_isIn a2 (0 : Int32) (1 : Int32)) (fun r4 => if r4 = 0 then some ((-9223372036854775808 : Int64), w0) else xw_bp (fX8_isHere a1 w0) (fun r7 => if r7 = 0 then some ((-9223372036854775808 : Int64), w0) else xw_b (fX8_share n w0) (fun (_ : Unit) w11 => xw_ck a1 6 (xw_lt (w11.1 132 a1.toNatClampNeg) (fun x3_14 => fX8_odds_49 n a1 a2 x3_14 (0 : Int32) (0 : Int32) (0 : Int32) w11))))))
set_option maxHeartbeats 4000000 in
set_option maxRecDepth 100000 in
theorem kX8_odds (l : Launch) (G : xw_G) (hG : xw_ok G) (n : Nat) (a1 : Int32) (a2 : Int32) (w0 : xw_M) (r0 : Int64) (wz : xw_M) (hf : fX8_odds n a1 a2 w0 = some (r0, wz)) : xw_Tl l G yX8_odds cX8_odds 7 ((Option.some Jvm.ClassFile.FieldType.long)) (32) (700) [.ref (xw_ad G 119), .int a1, .int a2] w0 r0 wz := by
  unfold xw_Tl
  refine Met.ofW (cc := cX8_odds) (maxL := 7) (ret := (Option.some Jvm.ClassFile.FieldType.long)) (by decide) rfl ?_
  intro p e s m args below meth c s₁ B hml hv
  obtain ⟨hargs, hP, hK, hE⟩ := hv
  have hx := B.exec
  have hb := B.bytes
  have hr := B.returns
  have hlk := B.notSynchronized
  have hB : CallFix p m c cX8_odds 7 s args TB RX8 := ⟨hx, hb, hml, findClass_of_methodNamed B.named, fun q h => (atoms_spec (ws := Cond.code yX8_odds cX8_odds 7 ((Option.some Jvm.ClassFile.FieldType.long)) :: TB) B.pre) q (List.mem_cons_of_mem _ h)⟩
  have hS : va_S (xw_A G) s.heap s.heap [] := va_S.rf
  have hl := lv_entry [.ref (xw_ad G 119), .int a1, .int a2] (n := 7) (Nat.le_of_ble_eq_true rfl)
  rw [show entryFrame m args 7 = entryFrame m ([.ref (xw_ad G 119), .int a1, .int a2] : List Value).toArray 7 from by rw [hargs], lg_entry_eq]
  generalize (lg_sl [.ref (xw_ad G 119), .int a1, .int a2] ++ List.replicate (7 - (lg_sl [.ref (xw_ad G 119), .int a1, .int a2]).length) Slot.unset).toArray = ls at hl ⊢
  have hP : va_P (xw_D G) xw_cl (xw_W G w0) s.heap := hP
  have hl : lv_has ls 7 [(0, .ref (xw_ad G 119)), (1, .int a1), (2, .int a2)] := hl
  have HH : ∀ (H : Heap) (locs : List Loc) (hP : va_P (xw_D G) xw_cl (xw_W G w0) H) (hS : va_S (xw_A G) s.heap H locs), xw_Wl G p l e (xw_rm (32) (700)) s m args below meth c H locs r0 wz (F0 m 0 ls []) := by
    intro H locs hP hS
    unfold fX8_odds at hf
    have J127 : ∀ (x4 : Int32) (x5 : Int32) (w : xw_M) (hf : fX8_odds_127 n a1 a2 x4 x5 w = some (r0, wz)) (H : Heap) (locs : List Loc) (ls : Array Slot) (hP : va_P (xw_D G) xw_cl (xw_W G w) H) (hS : va_S (xw_A G) s.heap H locs) (hl : lv_has ls 7 [(2, .int a2), (4, .int x4), (5, .int x5)]), xw_Wl G p l e (xw_rm (32) (700)) s m args below meth c H locs r0 wz (F0 m 127 ls []) := by
      intro x4 x5 w hf H locs ls hP hS hl
      unfold fX8_odds_127 at hf
      refine lv_iload hx hb dX8_odds_127 (lv_at hl 1 rfl) ?_
      refine lv_if_ne (tgt := 138) hx hb dX8_odds_129 (by decide) (fun c35 => ?_) (fun c35 => ?_)
      · replace hf := xw_in' c35 hf
        refine lv_iload hx hb dX8_odds_138 (lv_at hl 2 rfl) ?_
        refine lv_i2l hx hb dX8_odds_140 rfl ?_
        refine lv_iload hx hb dX8_odds_141 (lv_at hl 1 rfl) ?_
        refine lv_i2l hx hb dX8_odds_143 rfl ?_
        refine lv_iload_n hx hb dX8_odds_144 rfl (lv_at hl 0 rfl) ?_
        replace hf := xw_bp_e hf
        obtain ⟨r36, he37, hf⟩ := hf
        refine xw_Sl hB hK hE hS hP (As := [.long x5.toInt64, .long x4.toInt64, .int a2]) (rest := []) (kX8_fraction l G hG n x5.toInt64 x4.toInt64 a2 w _ he37) tw_1016 tw_1018 tw_1017 tw_10 3 hs_X8_fraction ⟨Nat.le_of_ble_eq_true rfl, Nat.le_of_ble_eq_true rfl⟩ rfl hl.1 (Nat.le_of_ble_eq_true rfl) rfl dX8_odds_145 ⟨Nat.zero_le _, Nat.zero_le _⟩ (fun H locs hP hS => ?_)
        obtain ⟨h0, h1⟩ := xw_s2 hf
        exact xw_lret hB hK hE hS hP hr hlk h0 h1 dX8_odds_148
      · replace hf := xw_ip c35 hf
        refine lv_ldc2 (v := (-9223372036854775808)) hx hb hB.2.2.2.1 (hB.2.2.2.2 _ tw_1015) dX8_odds_132 ?_
        refine lv_goto (tgt := 148) hx hb dX8_odds_135 (by decide) ?_
        obtain ⟨h0, h1⟩ := xw_s2 hf
        exact xw_lret hB hK hE hS hP hr hlk h0 h1 dX8_odds_148
    have J49 : ∀ (x3 : Int32) (x4 : Int32) (x5 : Int32) (x6 : Int32) (w : xw_M) (hf : fX8_odds_49 n a1 a2 x3 x4 x5 x6 w = some (r0, wz)) (H : Heap) (locs : List Loc) (ls : Array Slot) (hP : va_P (xw_D G) xw_cl (xw_W G w) H) (hS : va_S (xw_A G) s.heap H locs) (hl : lv_has ls 7 [(0, .ref (xw_ad G 119)), (1, .int a1), (2, .int a2), (3, .int x3), (4, .int x4), (5, .int x5), (6, .int x6)]), xw_Wl G p l e (xw_rm (32) (700)) s m args below meth c H locs r0 wz (F0 m 49 ls []) := by
      intro x3 x4 x5 x6 w hf H locs ls hP hS hl
      unfold fX8_odds_49 at hf
      replace hf := xw_bp_e hf
      obtain ⟨bb49, hit49, hfx49⟩ := hf
      have XX49 : ∀ (x4 : Int32) (x5 : Int32) (w : xw_M) (hf : fX8_odds_127 n a1 a2 x4 x5 w = some (r0, wz)) (H : Heap) (locs : List Loc) (ls : Array Slot) (hP : va_P (xw_D G) xw_cl (xw_W G w) H) (hS : va_S (xw_A G) s.heap H locs) (hl : lv_has ls 7 [(2, .int a2), (4, .int x4), (5, .int x5)]), xw_Wl G p l e (xw_rm (32) (700)) s m args below meth c H locs r0 wz (F0 m 127 ls []) := by
        intro x4 x5 w hf H locs ls hP hS hl
        exact J127 x4 x5 w hf H locs ls hP hS (lv_sub hl [0, 1, 2] rfl)
      have LL49 : ∀ (nn : Nat) (x4 : Int32) (x5 : Int32) (x6 : Int32) (w : xw_M) (hit : xw_it (fun z => fX8_odds_b49 n a1 a2 x3 z.1 z.2.1 z.2.2.1 z.2.2.2) nn (x4, x5, x6, w) = some bb49) (H : Heap) (locs : List Loc) (ls : Array Slot) (hP : va_P (xw_D G) xw_cl (xw_W G w) H) (hS : va_S (xw_A G) s.heap H locs) (hl : lv_has ls 7 [(0, .ref (xw_ad G 119)), (1, .int a1), (2, .int a2), (3, .int x3), (4, .int x4), (5, .int x5), (6, .int x6)]), xw_Wl G p l e (xw_rm (32) (700)) s m args below meth c H locs r0 wz (F0 m 49 ls []) := by
        intro nn
        induction nn with
        | zero => intro x4 x5 x6 w hit; exact (xw_it_0 hit).elim
        | succ nn ih49 =>
          intro x4 x5 x6 w hit H locs ls hP hS hl
          replace hit := xw_it_e hit
          obtain ⟨wv49, hf, hC49, hX49⟩ := hit
          replace hf : fX8_odds_b49 n a1 a2 x3 x4 x5 x6 w = some wv49 := hf
          unfold fX8_odds_b49 at hf
          have J121 : ∀ (x4 : Int32) (x5 : Int32) (x6 : Int32) (w : xw_M) (hf : fX8_odds_121 n a1 a2 x3 x4 x5 x6 w = some wv49) (H : Heap) (locs : List Loc) (ls : Array Slot) (hP : va_P (xw_D G) xw_cl (xw_W G w) H) (hS : va_S (xw_A G) s.heap H locs) (hl : lv_has ls 7 [(0, .ref (xw_ad G 119)), (1, .int a1), (2, .int a2), (3, .int x3), (4, .int x4), (5, .int x5), (6, .int x6)]), xw_Wl G p l e (xw_rm (32) (700)) s m args below meth c H locs r0 wz (F0 m 121 ls []) := by
            intro x4 x5 x6 w hf H locs ls hP hS hl
            unfold fX8_odds_121 at hf
            obtain ⟨x6_34, ex6_34⟩ : ∃ y : Int32, y = x6 + 1 := ⟨_, rfl⟩
            replace hf := xw_lt_e ex6_34 hf
            refine lv_iinc (v := x6_34) (lv' := [(6, .int x6_34), (0, .ref (xw_ad G 119)), (1, .int a1), (2, .int a2), (3, .int x3), (4, .int x4), (5, .int x5)]) hx hb dX8_odds_121 hl (k := 6) rfl (by rw [ex6_34]; rfl) (by decide) rfl (fun ls hl => ?_)
            refine lv_goto (tgt := 49) hx hb dX8_odds_124 (by decide) ?_
            have hi := hC49 _ (xw_so hf).symm
            exact ih49 x4 x5 x6_34 w hi H locs ls hP hS (lv_sub hl [1, 2, 3, 4, 5, 6, 0] rfl)
          have J109 : ∀ (x4 : Int32) (x6 : Int32) (v0 : Int32) (v1 : Int32) (w : xw_M) (hf : fX8_odds_109 n a1 a2 x3 x4 x6 v0 v1 w = some wv49) (H : Heap) (locs : List Loc) (ls : Array Slot) (hP : va_P (xw_D G) xw_cl (xw_W G w) H) (hS : va_S (xw_A G) s.heap H locs) (hl : lv_has ls 7 [(0, .ref (xw_ad G 119)), (1, .int a1), (2, .int a2), (3, .int x3), (4, .int x4), (6, .int x6)]), xw_Wl G p l e (xw_rm (32) (700)) s m args below meth c H locs r0 wz (F0 m 109 ls [.int v1, .int v0]) := by
            intro x4 x6 v0 v1 w hf H locs ls hP hS hl
            unfold fX8_odds_109 at hf
            refine lv_iadd hx hb dX8_odds_109 ?_
            refine lv_topi (fun x5_30 ex5_30 => ?_)
            replace hf := xw_lt_e ex5_30 hf
            refine lv_istore (lv' := [(5, .int x5_30), (0, .ref (xw_ad G 119)), (1, .int a1), (2, .int a2), (3, .int x3), (4, .int x4), (6, .int x6)]) hx hb dX8_odds_110 hl (by decide) rfl (fun ls hl => ?_)
            refine lv_aload_n hx hb dX8_odds_112 rfl (lv_at hl 1 rfl) ?_
            refine lv_iload hx hb dX8_odds_113 (lv_at hl 6 rfl) ?_
            refine lv_iconst (v := 4) hx hb dX8_odds_115 (by decide) ?_
            refine lv_iconst (v := 0) hx hb dX8_odds_116 (by decide) ?_
            replace hf := xw_b_e hf
            obtain ⟨r31, w32, he33, hf⟩ := hf
            refine xw_Vi hB hK hE hS hP (As := [.int x6, .int (4 : Int32), .int (0 : Int32)]) (rest := []) (kX8_change l G hG x6 (4 : Int32) (0 : Int32) w _ _ he33) gs_X8_97 (xw_rc hK hP (C := RX8) (T := TX8) (N := 31) (xw_o8 G) rfl) 3 hv_X8_change ⟨Nat.le_of_ble_eq_true rfl, Nat.le_of_ble_eq_true rfl⟩ rfl hl.1 (Nat.le_of_ble_eq_true rfl) rfl dX8_odds_117 ⟨Nat.zero_le _, Nat.zero_le _⟩ (fun H locs hP hS => ?_)
            refine lv_pop hx hb dX8_odds_120 rfl ?_
            exact J121 x4 x5_30 x6 w32 hf H locs ls hP hS (lv_sub hl [1, 2, 3, 4, 5, 0, 6] rfl)
          refine lv_iload hx hb dX8_odds_49 (lv_at hl 6 rfl) ?_
          refine lv_aload_n hx hb dX8_odds_51 rfl (lv_at hl 0 rfl) ?_
          refine xw_get hB hK hP (xw_o8 G) (C := RX8) (T := TX8) (N := 31) rfl TBi_X8 0 (by decide) tw_728 rfl rfl dX8_odds_52 ?_
          refine lv_bipush (v := 60) hx hb dX8_odds_55 (by decide) ?_
          replace hf := xw_ck_e hf
          obtain ⟨hi15, hf⟩ := hf
          refine xw_ild hB hK hP (xw_k120 G) hi15 dX8_odds_57 ?_
          refine lv_icmp_ge (tgt := 127) hx hb dX8_odds_58 (by decide) (fun c16 => ?_) (fun c16 => ?_)
          · replace hf := xw_ip c16 hf
            have he49 := hX49 _ (xw_so hf).symm
            rw [← he49] at hfx49
            exact XX49 x4 x5 w hfx49 H locs ls hP hS (lv_sub hl [2, 4, 5] rfl)
          · replace hf := xw_in' c16 hf
            refine lv_iload hx hb dX8_odds_61 (lv_at hl 6 rfl) ?_
            refine lv_iload_n hx hb dX8_odds_63 rfl (lv_at hl 1 rfl) ?_
            refine lv_icmp_eq (tgt := 121) hx hb dX8_odds_64 (by decide) (fun c17 => ?_) (fun c17 => ?_)
            · replace hf := xw_ip c17 hf
              exact J121 x4 x5 x6 w hf H locs ls hP hS (lv_sub hl [0, 1, 2, 3, 4, 5, 6] rfl)
            · replace hf := xw_in' c17 hf
              refine lv_aload_n hx hb dX8_odds_67 rfl (lv_at hl 0 rfl) ?_
              refine lv_iload hx hb dX8_odds_68 (lv_at hl 6 rfl) ?_
              replace hf := xw_bp_e hf
              obtain ⟨r18, he19, hf⟩ := hf
              refine xw_Vi hB hK hE hS hP (As := [.int x6]) (rest := []) (kX8_isHere l G hG x6 w _ he19) gs_X8_179 (xw_rc hK hP (C := RX8) (T := TX8) (N := 31) (xw_o8 G) rfl) 1 hv_X8_isHere ⟨Nat.le_of_ble_eq_true rfl, Nat.le_of_ble_eq_true rfl⟩ rfl hl.1 (Nat.le_of_ble_eq_true rfl) rfl dX8_odds_70 ⟨Nat.zero_le _, Nat.zero_le _⟩ (fun H locs hP hS => ?_)
              refine lv_if_eq (tgt := 121) hx hb dX8_odds_73 (by decide) (fun c20 => ?_) (fun c20 => ?_)
              · replace hf := xw_ip c20 hf
                exact J121 x4 x5 x6 w hf H locs ls hP hS (lv_sub hl [0, 1, 2, 3, 4, 5, 6] rfl)
              · replace hf := xw_in' c20 hf
                obtain ⟨x4_21, ex4_21⟩ : ∃ y : Int32, y = x4 + 1 := ⟨_, rfl⟩
                replace hf := xw_lt_e ex4_21 hf
                refine lv_iinc (v := x4_21) (lv' := [(4, .int x4_21), (0, .ref (xw_ad G 119)), (1, .int a1), (2, .int a2), (3, .int x3), (5, .int x5), (6, .int x6)]) hx hb dX8_odds_76 hl (k := 4) rfl (by rw [ex4_21]; rfl) (by decide) rfl (fun ls hl => ?_)
                refine lv_aload_n hx hb dX8_odds_79 rfl (lv_at hl 1 rfl) ?_
                refine lv_iload hx hb dX8_odds_80 (lv_at hl 6 rfl) ?_
                refine lv_iconst (v := 4) hx hb dX8_odds_82 (by decide) ?_
                refine lv_iconst (v := 1) hx hb dX8_odds_83 (by decide) ?_
                replace hf := xw_b_e hf
                obtain ⟨r22, w23, he24, hf⟩ := hf
                refine xw_Vi hB hK hE hS hP (As := [.int x6, .int (4 : Int32), .int (1 : Int32)]) (rest := []) (kX8_change l G hG x6 (4 : Int32) (1 : Int32) w _ _ he24) gs_X8_97 (xw_rc hK hP (C := RX8) (T := TX8) (N := 31) (xw_o8 G) rfl) 3 hv_X8_change ⟨Nat.le_of_ble_eq_true rfl, Nat.le_of_ble_eq_true rfl⟩ rfl hl.1 (Nat.le_of_ble_eq_true rfl) rfl dX8_odds_84 ⟨Nat.zero_le _, Nat.zero_le _⟩ (fun H locs hP hS => ?_)
                refine lv_pop hx hb dX8_odds_87 rfl ?_
                refine lv_aload_n hx hb dX8_odds_88 rfl (lv_at hl 1 rfl) ?_
                replace hf := xw_b_e hf
                obtain ⟨r25, w26, he27, hf⟩ := hf
                refine xw_Vv hB hK hE hS hP (As := []) (rest := []) (kX8_share l G hG n w23 _ _ he27) gs_X8_104 (xw_rc hK hP (C := RX8) (T := TX8) (N := 31) (xw_o8 G) rfl) 0 hv_X8_share ⟨Nat.le_of_ble_eq_true rfl, Nat.le_of_ble_eq_true rfl⟩ rfl hl.1 (Nat.le_of_ble_eq_true rfl) rfl dX8_odds_89 ⟨Nat.zero_le _, Nat.zero_le _⟩ (fun H locs hP hS => ?_)
                refine lv_iload hx hb dX8_odds_92 (lv_at hl 5 rfl) ?_
                refine lv_aload_n hx hb dX8_odds_94 rfl (lv_at hl 1 rfl) ?_
                refine xw_get hB hK hP (xw_o8 G) (C := RX8) (T := TX8) (N := 31) rfl TBi_X8 21 (by decide) tw_749 rfl rfl dX8_odds_95 ?_
                refine lv_iload_n hx hb dX8_odds_98 rfl (lv_at hl 2 rfl) ?_
                replace hf := xw_ck_e hf
                obtain ⟨hi28, hf⟩ := hf
                refine xw_ild hB hK hP (xw_k132 G) hi28 dX8_odds_99 ?_
                refine lv_iload_n hx hb dX8_odds_100 rfl (lv_at hl 4 rfl) ?_
                refine lv_icmp_le (tgt := 108) hx hb dX8_odds_101 (by decide) (fun c29 => ?_) (fun c29 => ?_)
                · replace hf := xw_ip c29 hf
                  refine lv_iconst (v := 0) hx hb dX8_odds_108 (by decide) ?_
                  exact J109 x4_21 x6 x5 (0 : Int32) w26 hf H locs ls hP hS (lv_sub hl [1, 2, 3, 4, 0, 6] rfl)
                · replace hf := xw_in' c29 hf
                  refine lv_iconst (v := 1) hx hb dX8_odds_104 (by decide) ?_
                  refine lv_goto (tgt := 109) hx hb dX8_odds_105 (by decide) ?_
                  exact J109 x4_21 x6 x5 (1 : Int32) w26 hf H locs ls hP hS (lv_sub hl [1, 2, 3, 4, 0, 6] rfl)
      exact LL49 n x4 x5 x6 w hit49 H locs ls hP hS hl
    refine lv_aload_n hx hb dX8_odds_0 rfl (lv_at hl 0 rfl) ?_
    refine lv_iload_n hx hb dX8_odds_1 rfl (lv_at hl 1 rfl) ?_
    replace hf := xw_bp_e hf
    obtain ⟨r1, he2, hf⟩ := hf
    refine xw_Vi hB hK hE hS hP (As := [.int a1]) (rest := []) (kX8_isOne l G hG a1 w0 _ he2) gs_X8_101 (xw_rc hK hP (C := RX8) (T := TX8) (N := 31) (xw_o8 G) rfl) 1 hv_X8_isOne ⟨Nat.le_of_ble_eq_true rfl, Nat.le_of_ble_eq_true rfl⟩ rfl hl.1 (Nat.le_of_ble_eq_true rfl) rfl dX8_odds_2 ⟨Nat.zero_le _, Nat.zero_le _⟩ (fun H locs hP hS => ?_)
    refine lv_if_eq (tgt := 25) hx hb dX8_odds_5 (by decide) (fun c3 => ?_) (fun c3 => ?_)
    · replace hf := xw_ip c3 hf
      refine lv_ldc2 (v := (-9223372036854775808)) hx hb hB.2.2.2.1 (hB.2.2.2.2 _ tw_1015) dX8_odds_25 ?_
      obtain ⟨h0, h1⟩ := xw_s2 hf
      exact xw_lret hB hK hE hS hP hr hlk h0 h1 dX8_odds_28
    · replace hf := xw_in' c3 hf
      refine lv_iload_n hx hb dX8_odds_8 rfl (lv_at hl 2 rfl) ?_
      refine lv_iconst (v := 0) hx hb dX8_odds_9 (by decide) ?_
      refine lv_iconst (v := 1) hx hb dX8_odds_10 (by decide) ?_
      replace hf := xw_bp_e hf
      obtain ⟨r4, he5, hf⟩ := hf
      refine xw_Si hB hK hE hS hP (As := [.int a2, .int (0 : Int32), .int (1 : Int32)]) (rest := []) (kX8_isIn l G hG a2 (0 : Int32) (1 : Int32) w0 _ he5) tw_835 tw_837 tw_836 tw_10 3 hs_X8_isIn ⟨Nat.le_of_ble_eq_true rfl, Nat.le_of_ble_eq_true rfl⟩ rfl hl.1 (Nat.le_of_ble_eq_true rfl) rfl dX8_odds_11 ⟨Nat.zero_le _, Nat.zero_le _⟩ (fun H locs hP hS => ?_)
      refine lv_if_eq (tgt := 25) hx hb dX8_odds_14 (by decide) (fun c6 => ?_) (fun c6 => ?_)
      · replace hf := xw_ip c6 hf
        refine lv_ldc2 (v := (-9223372036854775808)) hx hb hB.2.2.2.1 (hB.2.2.2.2 _ tw_1015) dX8_odds_25 ?_
        obtain ⟨h0, h1⟩ := xw_s2 hf
        exact xw_lret hB hK hE hS hP hr hlk h0 h1 dX8_odds_28
      · replace hf := xw_in' c6 hf
        refine lv_aload_n hx hb dX8_odds_17 rfl (lv_at hl 0 rfl) ?_
        refine lv_iload_n hx hb dX8_odds_18 rfl (lv_at hl 1 rfl) ?_
        replace hf := xw_bp_e hf
        obtain ⟨r7, he8, hf⟩ := hf
        refine xw_Vi hB hK hE hS hP (As := [.int a1]) (rest := []) (kX8_isHere l G hG a1 w0 _ he8) gs_X8_179 (xw_rc hK hP (C := RX8) (T := TX8) (N := 31) (xw_o8 G) rfl) 1 hv_X8_isHere ⟨Nat.le_of_ble_eq_true rfl, Nat.le_of_ble_eq_true rfl⟩ rfl hl.1 (Nat.le_of_ble_eq_true rfl) rfl dX8_odds_19 ⟨Nat.zero_le _, Nat.zero_le _⟩ (fun H locs hP hS => ?_)
        refine lv_if_ne (tgt := 29) hx hb dX8_odds_22 (by decide) (fun c9 => ?_) (fun c9 => ?_)
        · replace hf := xw_in' c9 hf
          refine lv_aload_n hx hb dX8_odds_29 rfl (lv_at hl 0 rfl) ?_
          replace hf := xw_b_e hf
          obtain ⟨r10, w11, he12, hf⟩ := hf
          refine xw_Vv hB hK hE hS hP (As := []) (rest := []) (kX8_share l G hG n w0 _ _ he12) gs_X8_104 (xw_rc hK hP (C := RX8) (T := TX8) (N := 31) (xw_o8 G) rfl) 0 hv_X8_share ⟨Nat.le_of_ble_eq_true rfl, Nat.le_of_ble_eq_true rfl⟩ rfl hl.1 (Nat.le_of_ble_eq_true rfl) rfl dX8_odds_30 ⟨Nat.zero_le _, Nat.zero_le _⟩ (fun H locs hP hS => ?_)
          refine lv_aload_n hx hb dX8_odds_33 rfl (lv_at hl 0 rfl) ?_
          refine xw_get hB hK hP (xw_o8 G) (C := RX8) (T := TX8) (N := 31) rfl TBi_X8 21 (by decide) tw_749 rfl rfl dX8_odds_34 ?_
          refine lv_iload_n hx hb dX8_odds_37 rfl (lv_at hl 1 rfl) ?_
          replace hf := xw_ck_e hf
          obtain ⟨hi13, hf⟩ := hf
          refine xw_ild hB hK hP (xw_k132 G) hi13 dX8_odds_38 ?_
          refine lv_topi (fun x3_14 ex3_14 => ?_)
          replace hf := xw_lt_e ex3_14 hf
          refine lv_istore_n (lv' := [(3, .int x3_14), (0, .ref (xw_ad G 119)), (1, .int a1), (2, .int a2)]) hx hb dX8_odds_39 rfl hl (by decide) rfl (fun ls hl => ?_)
          refine lv_iconst (v := 0) hx hb dX8_odds_40 (by decide) ?_
          refine lv_istore (lv' := [(4, .int (0 : Int32)), (3, .int x3_14), (0, .ref (xw_ad G 119)), (1, .int a1), (2, .int a2)]) hx hb dX8_odds_41 hl (by decide) rfl (fun ls hl => ?_)
          refine lv_iconst (v := 0) hx hb dX8_odds_43 (by decide) ?_
          refine lv_istore (lv' := [(5, .int (0 : Int32)), (4, .int (0 : Int32)), (3, .int x3_14), (0, .ref (xw_ad G 119)), (1, .int a1), (2, .int a2)]) hx hb dX8_odds_44 hl (by decide) rfl (fun ls hl => ?_)
          refine lv_iconst (v := 0) hx hb dX8_odds_46 (by decide) ?_
          refine lv_istore (lv' := [(6, .int (0 : Int32)), (5, .int (0 : Int32)), (4, .int (0 : Int32)), (3, .int x3_14), (0, .ref (xw_ad G 119)), (1, .int a1), (2, .int a2)]) hx hb dX8_odds_47 hl (by decide) rfl (fun ls hl => ?_)
          exact J49 x3_14 (0 : Int32) (0 : Int32) (0 : Int32) w11 hf H locs ls hP hS (lv_sub hl [4, 5, 6, 3, 2, 1, 0] rfl)
        · replace hf := xw_ip c9 hf
          refine lv_ldc2 (v := (-9223372036854775808)) hx hb hB.2.2.2.1 (hB.2.2.2.2 _ tw_1015) dX8_odds_25 ?_
          obtain ⟨h0, h1⟩ := xw_s2 hf
          exact xw_lret hB hK hE hS hP hr hlk h0 h1 dX8_odds_28
  exact HH s.heap [] hP hS
