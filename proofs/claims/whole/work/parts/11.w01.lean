def fX4_pays_197 (n : Nat) (a1 : Nat) (a2 : Int32) (a3 : Int32) (a4 : Int32) (a5 : Int32) (x9 : Int32) (w : xw_M) : Option (Int32 × xw_M) := some (x9, w)
def fX4_pays_188 (n : Nat) (a1 : Nat) (a2 : Int32) (a3 : Int32) (a4 : Int32) (a5 : Int32) (x6 : Int32) (x7 : Int32) (x10 : Int32) (v0 : Int32) (v1 : Int32) (w : xw_M) : Option ((Int32 × Int32) ⊕ (Int32)) := xw_lt (v0 - v1) (fun x9_24 => xw_lt (x10 + 1) (fun x10_25 => some (.inl (x9_24, x10_25))))
def fX4_pays_b151 (n : Nat) (a1 : Nat) (a2 : Int32) (a3 : Int32) (a4 : Int32) (a5 : Int32) (x6 : Int32) (x7 : Int32) (x9 : Int32) (x10 : Int32) (w : xw_M) : Option ((Int32 × Int32) ⊕ (Int32)) := if (w.1 a1 0) ≤ x10 then some (.inr x9) else if x10 = x7 then fX4_pays_188 n a1 a2 a3 a4 a5 x6 x7 x10 x9 (0 : Int32) w else xw_bp (fX7_at 67 6 x10 w) (fun r21 => xw_cc (¬ x6 = 0) (fX4_pays_188 n a1 a2 a3 a4 a5 x6 x7 x10 x9 ((a4 * r21) / x6) w))
def fX4_pays_151 (n : Nat) (a1 : Nat) (a2 : Int32) (a3 : Int32) (a4 : Int32) (a5 : Int32) (x6 : Int32) (x7 : Int32) (x9 : Int32) (x10 : Int32) (w : xw_M) : Option (Int32 × xw_M) := xw_bp (xw_it (fun z => fX4_pays_b151 n a1 a2 a3 a4 a5 x6 x7 z.1 z.2 w) n (x9, x10)) (fun z => (fun (x9 : Int32) => fX4_pays_197 n a1 a2 a3 a4 a5 x9 w) z)
def fX4_pays_116 (n : Nat) (a1 : Nat) (a2 : Int32) (a3 : Int32) (a4 : Int32) (a5 : Int32) (x6 : Int32) (x7 : Int32) (w : xw_M) : Option (Int32 × xw_M) := if 0 < x6 then if a2 = x7 then fX4_pays_151 n a1 a2 a3 a4 a5 x6 x7 a4 (0 : Int32) w else xw_bp (fX7_at 67 6 a2 w) (fun r16 => xw_cc (¬ x6 = 0) (some ((a4 * r16) / x6, w))) else some ((0 : Int32), w)
def fX4_pays_110 (n : Nat) (a1 : Nat) (a2 : Int32) (a3 : Int32) (a4 : Int32) (a5 : Int32) (x6 : Int32) (x7 : Int32) (x8 : Int32) (x9 : Int32) (w : xw_M) : Option ((Int32 × Int32 × Int32 × Int32 × xw_M) ⊕ (Int32 × Int32 × xw_M)) := xw_lt (x9 + 1) (fun x9_13 => some (.inl (x6, x7, x8, x9_13, w)))
def fX4_pays_75 (n : Nat) (a1 : Nat) (a2 : Int32) (a3 : Int32) (a4 : Int32) (a5 : Int32) (x6 : Int32) (x7 : Int32) (x8 : Int32) (x9 : Int32) (v0 : Int32) (w : xw_M) : Option ((Int32 × Int32 × Int32 × Int32 × xw_M) ⊕ (Int32 × Int32 × xw_M)) := xw_b (fX7_put 67 6 x9 v0 w) (fun (_ : Unit) w9 => xw_lt (x6 + v0) (fun x6_11 => if v0 ≤ x8 then fX4_pays_110 n a1 a2 a3 a4 a5 x6_11 x7 x8 x9 w9 else fX4_pays_110 n a1 a2 a3 a4 a5 x6_11 x9 v0 x9 w9))
def fX4_pays_40 (n : Nat) (a1 : Nat) (a2 : Int32) (a3 : Int32) (a4 : Int32) (a5 : Int32) (x6 : Int32) (x7 : Int32) (x8 : Int32) (x9 : Int32) (v0 : Int32) (w : xw_M) : Option ((Int32 × Int32 × Int32 × Int32 × xw_M) ⊕ (Int32 × Int32 × xw_M)) := if ((a5 >>> (x9 &&& 31)) &&& (1 : Int32)) = 0 then xw_bp (fX7_at 65 60 ((x9 * (10 : Int32)) + v0) w) (fun r6 => fX4_pays_75 n a1 a2 a3 a4 a5 x6 x7 x8 x9 (if (0 : Int32) < r6 then r6 else (0 : Int32)) w) else fX4_pays_75 n a1 a2 a3 a4 a5 x6 x7 x8 x9 (0 : Int32) w
def fX4_pays_b12 (n : Nat) (a1 : Nat) (a2 : Int32) (a3 : Int32) (a4 : Int32) (a5 : Int32) (x6 : Int32) (x7 : Int32) (x8 : Int32) (x9 : Int32) (w : xw_M) : Option ((Int32 × Int32 × Int32 × Int32 × xw_M) ⊕ (Int32 × Int32 × xw_M)) := if (w.1 a1 0) ≤ x9 then some (.inr (x6, x7, w)) else if x9 = a2 then fX4_pays_40 n a1 a2 a3 a4 a5 x6 x7 x8 x9 a3 w else xw_bp (fX7_at (a1 + 4) 6 x9 w) (fun r3 => fX4_pays_40 n a1 a2 a3 a4 a5 x6 x7 x8 x9 r3 w)
def fX4_pays_12 (n : Nat) (a1 : Nat) (a2 : Int32) (a3 : Int32) (a4 : Int32) (a5 : Int32) (x6 : Int32) (x7 : Int32) (x8 : Int32) (x9 : Int32) (w : xw_M) : Option (Int32 × xw_M) := xw_bp (xw_it (fun z => fX4_pays_b12 n a1 a2 a3 a4 a5 z.1 z.2.1 z.2.2.1 z.2.2.2.1 z.2.2.2.2) n (x6, x7, x8, x9, w)) (fun z => (fun (x6 : Int32) (x7 : Int32) (w : xw_M) => fX4_pays_116 n a1 a2 a3 a4 a5 x6 x7 w) z.1 z.2.1 z.2.2)
def fX4_pays (n : Nat) (a1 : Nat) (a2 : Int32) (a3 : Int32) (a4 : Int32) (a5 : Int32) (w0 : xw_M) : Option (Int32 × xw_M) := fX4_pays_12 n a1 a2 a3 a4 a5 (0 : Int32) (-1 : Int32) (0 : Int32) (0 : Int32) w0
set_option maxHeartbeats 4000000 in
set_option maxRecDepth 100000 in
theorem kX4_pays (l : Launch) (G : xw_G) (hG : xw_ok G) (n : Nat) (a1 : Nat) (a2 : Int32) (a3 : Int32) (a4 : Int32) (a5 : Int32) (ha1 : xw_sc a1) (w0 : xw_M) (r0 : Int32) (wz : xw_M) (hf : fX4_pays n a1 a2 a3 a4 a5 w0 = some (r0, wz)) : xw_Ti l G yX4_pays cX4_pays 12 ((Option.some Jvm.ClassFile.FieldType.int)) (1) (60) [.ref (xw_ad G 64), .ref (xw_ad G a1), .int a2, .int a3, .int a4, .int a5] w0 r0 wz := by
  unfold xw_Ti
  refine Met.ofW (cc := cX4_pays) (maxL := 12) (ret := (Option.some Jvm.ClassFile.FieldType.int)) (by decide) rfl ?_
  intro p e s m args below meth c s₁ B hml hv
  obtain ⟨hargs, hP, hK, hE⟩ := hv
  have hx := B.exec
  have hb := B.bytes
  have hr := B.returns
  have hlk := B.notSynchronized
  have hB : CallFix p m c cX4_pays 12 s args TB RX4 := ⟨hx, hb, hml, findClass_of_methodNamed B.named, fun q h => (atoms_spec (ws := Cond.code yX4_pays cX4_pays 12 ((Option.some Jvm.ClassFile.FieldType.int)) :: TB) B.pre) q (List.mem_cons_of_mem _ h)⟩
  have hS : va_S (xw_A G) s.heap s.heap [] := va_S.rf
  have hl := lv_entry [.ref (xw_ad G 64), .ref (xw_ad G a1), .int a2, .int a3, .int a4, .int a5] (n := 12) (Nat.le_of_ble_eq_true rfl)
  rw [show entryFrame m args 12 = entryFrame m ([.ref (xw_ad G 64), .ref (xw_ad G a1), .int a2, .int a3, .int a4, .int a5] : List Value).toArray 12 from by rw [hargs], lg_entry_eq]
  generalize (lg_sl [.ref (xw_ad G 64), .ref (xw_ad G a1), .int a2, .int a3, .int a4, .int a5] ++ List.replicate (12 - (lg_sl [.ref (xw_ad G 64), .ref (xw_ad G a1), .int a2, .int a3, .int a4, .int a5]).length) Slot.unset).toArray = ls at hl ⊢
  have hP : va_P (xw_D G) xw_cl (xw_W G w0) s.heap := hP
  have hl : lv_has ls 12 [(0, .ref (xw_ad G 64)), (1, .ref (xw_ad G a1)), (2, .int a2), (3, .int a3), (4, .int a4), (5, .int a5)] := hl
  have HH : ∀ (H : Heap) (locs : List Loc) (hP : va_P (xw_D G) xw_cl (xw_W G w0) H) (hS : va_S (xw_A G) s.heap H locs), xw_Wi G p l e (xw_rm (1) (60)) s m args below meth c H locs r0 wz (F0 m 0 ls []) := by
    intro H locs hP hS
    unfold fX4_pays at hf
    have J197 : ∀ (x9 : Int32) (w : xw_M) (hf : fX4_pays_197 n a1 a2 a3 a4 a5 x9 w = some (r0, wz)) (H : Heap) (locs : List Loc) (ls : Array Slot) (hP : va_P (xw_D G) xw_cl (xw_W G w) H) (hS : va_S (xw_A G) s.heap H locs) (hl : lv_has ls 12 [(9, .int x9)]), xw_Wi G p l e (xw_rm (1) (60)) s m args below meth c H locs r0 wz (F0 m 197 ls []) := by
      intro x9 w hf H locs ls hP hS hl
      unfold fX4_pays_197 at hf
      refine lv_iload hx hb dX4_pays_197 (lv_at hl 0 rfl) ?_
      obtain ⟨h0, h1⟩ := xw_s2 hf
      exact xw_iret hB hK hE hS hP hr hlk h0 h1 dX4_pays_199
    have J151 : ∀ (x6 : Int32) (x7 : Int32) (x9 : Int32) (x10 : Int32) (w : xw_M) (hf : fX4_pays_151 n a1 a2 a3 a4 a5 x6 x7 x9 x10 w = some (r0, wz)) (H : Heap) (locs : List Loc) (ls : Array Slot) (hP : va_P (xw_D G) xw_cl (xw_W G w) H) (hS : va_S (xw_A G) s.heap H locs) (hl : lv_has ls 12 [(0, .ref (xw_ad G 64)), (1, .ref (xw_ad G a1)), (4, .int a4), (6, .int x6), (7, .int x7), (9, .int x9), (10, .int x10)]), xw_Wi G p l e (xw_rm (1) (60)) s m args below meth c H locs r0 wz (F0 m 151 ls []) := by
      intro x6 x7 x9 x10 w hf H locs ls hP hS hl
      unfold fX4_pays_151 at hf
      replace hf := xw_bp_e hf
      obtain ⟨bb151, hit151, hfx151⟩ := hf
      have XX151 : ∀ (x9 : Int32) (hf : fX4_pays_197 n a1 a2 a3 a4 a5 x9 w = some (r0, wz)) (H : Heap) (locs : List Loc) (ls : Array Slot) (hP : va_P (xw_D G) xw_cl (xw_W G w) H) (hS : va_S (xw_A G) s.heap H locs) (hl : lv_has ls 12 [(9, .int x9)]), xw_Wi G p l e (xw_rm (1) (60)) s m args below meth c H locs r0 wz (F0 m 197 ls []) := by
        intro x9 hf H locs ls hP hS hl
        exact J197 x9 w hf H locs ls hP hS (lv_sub hl [0] rfl)
      have LL151 : ∀ (nn : Nat) (x9 : Int32) (x10 : Int32) (hit : xw_it (fun z => fX4_pays_b151 n a1 a2 a3 a4 a5 x6 x7 z.1 z.2 w) nn (x9, x10) = some bb151) (H : Heap) (locs : List Loc) (ls : Array Slot) (hP : va_P (xw_D G) xw_cl (xw_W G w) H) (hS : va_S (xw_A G) s.heap H locs) (hl : lv_has ls 12 [(0, .ref (xw_ad G 64)), (1, .ref (xw_ad G a1)), (4, .int a4), (6, .int x6), (7, .int x7), (9, .int x9), (10, .int x10)]), xw_Wi G p l e (xw_rm (1) (60)) s m args below meth c H locs r0 wz (F0 m 151 ls []) := by
        intro nn
        induction nn with
        | zero => intro x9 x10 hit; exact (xw_it_0 hit).elim
        | succ nn ih151 =>
          intro x9 x10 hit H locs ls hP hS hl
          replace hit := xw_it_e hit
          obtain ⟨wv151, hf, hC151, hX151⟩ := hit
          replace hf : fX4_pays_b151 n a1 a2 a3 a4 a5 x6 x7 x9 x10 w = some wv151 := hf
          unfold fX4_pays_b151 at hf
          have J188 : ∀ (x10 : Int32) (v0 : Int32) (v1 : Int32) (hf : fX4_pays_188 n a1 a2 a3 a4 a5 x6 x7 x10 v0 v1 w = some wv151) (H : Heap) (locs : List Loc) (ls : Array Slot) (hP : va_P (xw_D G) xw_cl (xw_W G w) H) (hS : va_S (xw_A G) s.heap H locs) (hl : lv_has ls 12 [(0, .ref (xw_ad G 64)), (1, .ref (xw_ad G a1)), (4, .int a4), (6, .int x6), (7, .int x7), (10, .int x10)]), xw_Wi G p l e (xw_rm (1) (60)) s m args below meth c H locs r0 wz (F0 m 188 ls [.int v1, .int v0]) := by
            intro x10 v0 v1 hf H locs ls hP hS hl
            unfold fX4_pays_188 at hf
            refine lv_isub hx hb dX4_pays_188 ?_
            refine lv_topi (fun x9_24 ex9_24 => ?_)
            replace hf := xw_lt_e ex9_24 hf
            refine lv_istore (lv' := [(9, .int x9_24), (0, .ref (xw_ad G 64)), (1, .ref (xw_ad G a1)), (4, .int a4), (6, .int x6), (7, .int x7), (10, .int x10)]) hx hb dX4_pays_189 hl (by decide) rfl (fun ls hl => ?_)
            obtain ⟨x10_25, ex10_25⟩ : ∃ y : Int32, y = x10 + 1 := ⟨_, rfl⟩
            replace hf := xw_lt_e ex10_25 hf
            refine lv_iinc (v := x10_25) (lv' := [(10, .int x10_25), (9, .int x9_24), (0, .ref (xw_ad G 64)), (1, .ref (xw_ad G a1)), (4, .int a4), (6, .int x6), (7, .int x7)]) hx hb dX4_pays_191 hl (k := 6) rfl (by rw [ex10_25]; rfl) (by decide) rfl (fun ls hl => ?_)
            refine lv_goto (tgt := 151) hx hb dX4_pays_194 (by decide) ?_
            have hi := hC151 _ (xw_so hf).symm
            exact ih151 x9_24 x10_25 hi H locs ls hP hS (lv_sub hl [2, 3, 4, 5, 6, 1, 0] rfl)
          refine lv_iload hx hb dX4_pays_151 (lv_at hl 6 rfl) ?_
          refine lv_aload_n hx hb dX4_pays_153 rfl (lv_at hl 1 rfl) ?_
          refine xw_get hB hK hP (xw_o5 G ha1) (C := RX5) (T := TX5) (N := 14) rfl TBi_X5 0 (by decide) tw_61 rfl rfl dX4_pays_154 ?_
          refine lv_icmp_ge (tgt := 197) hx hb dX4_pays_157 (by decide) (fun c19 => ?_) (fun c19 => ?_)
          · replace hf := xw_ip c19 hf
            have he151 := hX151 _ (xw_so hf).symm
            rw [← he151] at hfx151
            exact XX151 x9 hfx151 H locs ls hP hS (lv_sub hl [5] rfl)
          · replace hf := xw_in' c19 hf
            refine lv_iload hx hb dX4_pays_160 (lv_at hl 5 rfl) ?_
            refine lv_iload hx hb dX4_pays_162 (lv_at hl 6 rfl) ?_
            refine lv_iload hx hb dX4_pays_164 (lv_at hl 4 rfl) ?_
            refine lv_icmp_ne (tgt := 173) hx hb dX4_pays_166 (by decide) (fun c20 => ?_) (fun c20 => ?_)
            · replace hf := xw_in' c20 hf
              refine lv_iload hx hb dX4_pays_173 (lv_at hl 2 rfl) ?_
              refine lv_aload_n hx hb dX4_pays_175 rfl (lv_at hl 0 rfl) ?_
              refine xw_get hB hK hP (xw_o4 G) (C := RX4) (T := TX4) (N := 3) rfl TBi_X4 2 (by decide) tw_202 rfl rfl dX4_pays_176 ?_
              refine lv_iload hx hb dX4_pays_179 (lv_at hl 6 rfl) ?_
              replace hf := xw_bp_e hf
              obtain ⟨r21, he22, hf⟩ := hf
              refine xw_Ni hB hK hE hS hP (As := [.ref (xw_ad G 67), .int x10]) (rest := [.int a4, .int x9]) (kX7_at l G hG 67 6 x10 (xw_k67 G) w _ he22) (host := RX7) (by decide +kernel) tw_313 tw_312 tw_1 2 hs_X7_at ⟨Nat.le_of_ble_eq_true rfl, Nat.le_of_ble_eq_true rfl⟩ rfl hl.1 (Nat.le_of_ble_eq_true rfl) rfl dX4_pays_181 ⟨Nat.zero_le _, Nat.zero_le _⟩ (fun H locs hP hS => ?_)
              refine lv_imul hx hb dX4_pays_184 ?_
              refine lv_iload hx hb dX4_pays_185 (lv_at hl 3 rfl) ?_
              replace hf := xw_cc_e hf
              obtain ⟨hd23, hf⟩ := hf
              refine lv_idiv hx hb dX4_pays_187 hd23 ?_
              exact J188 x10 x9 ((a4 * r21) / x6) hf H locs ls hP hS (lv_sub hl [0, 1, 2, 3, 4, 6] rfl)
            · replace hf := xw_ip c20 hf
              refine lv_iconst (v := 0) hx hb dX4_pays_169 (by decide) ?_
              refine lv_goto (tgt := 188) hx hb dX4_pays_170 (by decide) ?_
              exact J188 x10 x9 (0 : Int32) hf H locs ls hP hS (lv_sub hl [0, 1, 2, 3, 4, 6] rfl)
      exact LL151 n x9 x10 hit151 H locs ls hP hS hl
    have J116 : ∀ (x6 : Int32) (x7 : Int32) (w : xw_M) (hf : fX4_pays_116 n a1 a2 a3 a4 a5 x6 x7 w = some (r0, wz)) (H : Heap) (locs : List Loc) (ls : Array Slot) (hP : va_P (xw_D G) xw_cl (xw_W G w) H) (hS : va_S (xw_A G) s.heap H locs) (hl : lv_has ls 12 [(0, .ref (xw_ad G 64)), (1, .ref (xw_ad G a1)), (2, .int a2), (4, .int a4), (6, .int x6), (7, .int x7)]), xw_Wi G p l e (xw_rm (1) (60)) s m args below meth c H locs r0 wz (F0 m 116 ls []) := by
      intro x6 x7 w hf H locs ls hP hS hl
      unfold fX4_pays_116 at hf
      refine lv_iload hx hb dX4_pays_116 (lv_at hl 4 rfl) ?_
      refine lv_if_gt (tgt := 123) hx hb dX4_pays_118 (by decide) (fun c14 => ?_) (fun c14 => ?_)
      · replace hf := xw_ip c14 hf
        refine lv_iload_n hx hb dX4_pays_123 rfl (lv_at hl 2 rfl) ?_
        refine lv_iload hx hb dX4_pays_124 (lv_at hl 5 rfl) ?_
        refine lv_icmp_eq (tgt := 144) hx hb dX4_pays_126 (by decide) (fun c15 => ?_) (fun c15 => ?_)
        · replace hf := xw_ip c15 hf
          refine lv_iload hx hb dX4_pays_144 (lv_at hl 3 rfl) ?_
          refine lv_istore (lv' := [(9, .int a4), (0, .ref (xw_ad G 64)), (1, .ref (xw_ad G a1)), (2, .int a2), (4, .int a4), (6, .int x6), (7, .int x7)]) hx hb dX4_pays_146 hl (by decide) rfl (fun ls hl => ?_)
          refine lv_iconst (v := 0) hx hb dX4_pays_148 (by decide) ?_
          refine lv_istore (lv' := [(10, .int (0 : Int32)), (9, .int a4), (0, .ref (xw_ad G 64)), (1, .ref (xw_ad G a1)), (2, .int a2), (4, .int a4), (6, .int x6), (7, .int x7)]) hx hb dX4_pays_149 hl (by decide) rfl (fun ls hl => ?_)
          exact J151 x6 x7 a4 (0 : Int32) w hf H locs ls hP hS (lv_sub hl [2, 3, 5, 6, 7, 1, 0] rfl)
        · replace hf := xw_in' c15 hf
          refine lv_iload hx hb dX4_pays_129 (lv_at hl 3 rfl) ?_
          refine lv_aload_n hx hb dX4_pays_131 rfl (lv_at hl 0 rfl) ?_
          refine xw_get hB hK hP (xw_o4 G) (C := RX4) (T := TX4) (N := 3) rfl TBi_X4 2 (by decide) tw_202 rfl rfl dX4_pays_132 ?_
          refine lv_iload_n hx hb dX4_pays_135 rfl (lv_at hl 2 rfl) ?_
          replace hf := xw_bp_e hf
          obtain ⟨r16, he17, hf⟩ := hf
          refine xw_Ni hB hK hE hS hP (As := [.ref (xw_ad G 67), .int a2]) (rest := [.int a4]) (kX7_at l G hG 67 6 a2 (xw_k67 G) w _ he17) (host := RX7) (by decide +kernel) tw_313 tw_312 tw_1 2 hs_X7_at ⟨Nat.le_of_ble_eq_true rfl, Nat.le_of_ble_eq_true rfl⟩ rfl hl.1 (Nat.le_of_ble_eq_true rfl) rfl dX4_pays_136 ⟨Nat.zero_le _, Nat.zero_le _⟩ (fun H locs hP hS => ?_)
          refine lv_imul hx hb dX4_pays_139 ?_
          refine lv_iload hx hb dX4_pays_140 (lv_at hl 4 rfl) ?_
          replace hf := xw_cc_e hf
          obtain ⟨hd18, hf⟩ := hf
          refine lv_idiv hx hb dX4_pays_142 hd18 ?_
          obtain ⟨h0, h1⟩ := xw_s2 hf
          exact xw_iret hB hK hE hS hP hr hlk h0 h1 dX4_pays_143
      · replace hf := xw_in' c14 hf
        refine lv_iconst (v := 0) hx hb dX4_pays_121 (by decide) ?_
        obtain ⟨h0, h1⟩ := xw_s2 hf
        exact xw_iret hB hK hE hS hP hr hlk h0 h1 dX4_pays_122
    have J12 : ∀ (x6 : Int32) (x7 : Int32) (x8 : Int32) (x9 : Int32) (w : xw_M) (hf : fX4_pays_12 n a1 a2 a3 a4 a5 x6 x7 x8 x9 w = some (r0, wz)) (H : Heap) (locs : List Loc) (ls : Array Slot) (hP : va_P (xw_D G) xw_cl (xw_W G w) H) (hS : va_S (xw_A G) s.heap H locs) (hl : lv_has ls 12 [(0, .ref (xw_ad G 64)), (1, .ref (xw_ad G a1)), (2, .int a2), (3, .int a3), (4, .int a4), (5, .int a5), (6, .int x6), (7, .int x7), (8, .int x8), (9, .int x9)]), xw_Wi G p l e (xw_rm (1) (60)) s m args below meth c H locs r0 wz (F0 m 12 ls []) := by
      intro x6 x7 x8 x9 w hf H locs ls hP hS hl
      unfold fX4_pays_12 at hf
      replace hf := xw_bp_e hf
      obtain ⟨bb12, hit12, hfx12⟩ := hf
      have XX12 : ∀ (x6 : Int32) (x7 : Int32) (w : xw_M) (hf : fX4_pays_116 n a1 a2 a3 a4 a5 x6 x7 w = some (r0, wz)) (H : Heap) (locs : List Loc) (ls : Array Slot) (hP : va_P (xw_D G) xw_cl (xw_W G w) H) (hS : va_S (xw_A G) s.heap H locs) (hl : lv_has ls 12 [(0, .ref (xw_ad G 64)), (1, .ref (xw_ad G a1)), (2, .int a2), (4, .int a4), (6, .int x6), (7, .int x7)]), xw_Wi G p l e (xw_rm (1) (60)) s m args below meth c H locs r0 wz (F0 m 116 ls []) := by
        intro x6 x7 w hf H locs ls hP hS hl
        exact J116 x6 x7 w hf H locs ls hP hS (lv_sub hl [0, 1, 2, 3, 4, 5] rfl)
      have LL12 : ∀ (nn : Nat) (x6 : Int32) (x7 : Int32) (x8 : Int32) (x9 : Int32) (w : xw_M) (hit : xw_it (fun z => fX4_pays_b12 n a1 a2 a3 a4 a5 z.1 z.2.1 z.2.2.1 z.2.2.2.1 z.2.2.2.2) nn (x6, x7, x8, x9, w) = some bb12) (H : Heap) (locs : List Loc) (ls : Array Slot) (hP : va_P (xw_D G) xw_cl (xw_W G w) H) (hS : va_S (xw_A G) s.heap H locs) (hl : lv_has ls 12 [(0, .ref (xw_ad G 64)), (1, .ref (xw_ad G a1)), (2, .int a2), (3, .int a3), (4, .int a4), (5, .int a5), (6, .int x6), (7, .int x7), (8, .int x8), (9, .int x9)]), xw_Wi G p l e (xw_rm (1) (60)) s m args below meth c H locs r0 wz (F0 m 12 ls []) := by
        intro nn
        induction nn with
        | zero => intro x6 x7 x8 x9 w hit; exact (xw_it_0 hit).elim
        | succ nn ih12 =>
          intro x6 x7 x8 x9 w hit H locs ls hP hS hl
          replace hit := xw_it_e hit
          obtain ⟨wv12, hf, hC12, hX12⟩ := hit
          replace hf : fX4_pays_b12 n a1 a2 a3 a4 a5 x6 x7 x8 x9 w = some wv12 := hf
          unfold fX4_pays_b12 at hf
          have J110 : ∀ (x6 : Int32) (x7 : Int32) (x8 : Int32) (x9 : Int32) (w : xw_M) (hf : fX4_pays_110 n a1 a2 a3 a4 a5 x6 x7 x8 x9 w = some wv12) (H : Heap) (locs : List Loc) (ls : Array Slot) (hP : va_P (xw_D G) xw_cl (xw_W G w) H) (hS : va_S (xw_A G) s.heap H locs) (hl : lv_has ls 12 [(0, .ref (xw_ad G 64)), (1, .ref (xw_ad G a1)), (2, .int a2), (3, .int a3), (4, .int a4), (5, .int a5), (6, .int x6), (7, .int x7), (8, .int x8), (9, .int x9)]), xw_Wi G p l e (xw_rm (1) (60)) s m args below meth c H locs r0 wz (F0 m 110 ls []) := by
            intro x6 x7 x8 x9 w hf H locs ls hP hS hl
            unfold fX4_pays_110 at hf
            obtain ⟨x9_13, ex9_13⟩ : ∃ y : Int32, y = x9 + 1 := ⟨_, rfl⟩
            replace hf := xw_lt_e ex9_13 hf
            refine lv_iinc (v := x9_13) (lv' := [(9, .int x9_13), (0, .ref (xw_ad G 64)), (1, .ref (xw_ad G a1)), (2, .int a2), (3, .int a3), (4, .int a4), (5, .int a5), (6, .int x6), (7, .int x7), (8, .int x8)]) hx hb dX4_pays_110 hl (k := 9) rfl (by rw [ex9_13]; rfl) (by decide) rfl (fun ls hl => ?_)
            refine lv_goto (tgt := 12) hx hb dX4_pays_113 (by decide) ?_
            have hi := hC12 _ (xw_so hf).symm
            exact ih12 x6 x7 x8 x9_13 w hi H locs ls hP hS (lv_sub hl [1, 2, 3, 4, 5, 6, 7, 8, 9, 0] rfl)
          have J75 : ∀ (x6 : Int32) (x7 : Int32) (x8 : Int32) (x9 : Int32) (v0 : Int32) (w : xw_M) (hf : fX4_pays_75 n a1 a2 a3 a4 a5 x6 x7 x8 x9 v0 w = some wv12) (H : Heap) (locs : List Loc) (ls : Array Slot) (hP : va_P (xw_D G) xw_cl (xw_W G w) H) (hS : va_S (xw_A G) s.heap H locs) (hl : lv_has ls 12 [(0, .ref (xw_ad G 64)), (1, .ref (xw_ad G a1)), (2, .int a2), (3, .int a3), (4, .int a4), (5, .int a5), (6, .int x6), (7, .int x7), (8, .int x8), (9, .int x9)]), xw_Wi G p l e (xw_rm (1) (60)) s m args below meth c H locs r0 wz (F0 m 75 ls [.int v0]) := by
            intro x6 x7 x8 x9 v0 w hf H locs ls hP hS hl
            unfold fX4_pays_75 at hf
            refine lv_istore (lv' := [(11, .int v0), (0, .ref (xw_ad G 64)), (1, .ref (xw_ad G a1)), (2, .int a2), (3, .int a3), (4, .int a4), (5, .int a5), (6, .int x6), (7, .int x7), (8, .int x8), (9, .int x9)]) hx hb dX4_pays_75 hl (by decide) rfl (fun ls hl => ?_)
            refine lv_aload_n hx hb dX4_pays_77 rfl (lv_at hl 1 rfl) ?_
            refine xw_get hB hK hP (xw_o4 G) (C := RX4) (T := TX4) (N := 3) rfl TBi_X4 2 (by decide) tw_202 rfl rfl dX4_pays_78 ?_
            refine lv_iload hx hb dX4_pays_81 (lv_at hl 10 rfl) ?_
            refine lv_iload hx hb dX4_pays_83 (lv_at hl 0 rfl) ?_
            replace hf := xw_b_e hf
            obtain ⟨r8, w9, he10, hf⟩ := hf
            refine xw_Nv hB hK hE hS hP (As := [.ref (xw_ad G 67), .int x9, .int v0]) (rest := []) (kX7_put l G hG 67 6 x9 v0 (xw_k67 G) w _ _ he10) (host := RX7) (by decide +kernel) tw_302 tw_301 tw_1 3 hs_X7_put ⟨Nat.le_of_ble_eq_true rfl, Nat.le_of_ble_eq_true rfl⟩ rfl hl.1 (Nat.le_of_ble_eq_true rfl) rfl dX4_pays_85 ⟨Nat.zero_le _, Nat.zero_le _⟩ (fun H locs hP hS => ?_)
            refine lv_iload hx hb dX4_pays_88 (lv_at hl 7 rfl) ?_
            refine lv_iload hx hb dX4_pays_90 (lv_at hl 0 rfl) ?_
            refine lv_iadd hx hb dX4_pays_92 ?_
            refine lv_topi (fun x6_11 ex6_11 => ?_)
            replace hf := xw_lt_e ex6_11 hf
            refine lv_istore (lv' := [(6, .int x6_11), (11, .int v0), (0, .ref (xw_ad G 64)), (1, .ref (xw_ad G a1)), (2, .int a2), (3, .int a3), (4, .int a4), (5, .int a5), (7, .int x7), (8, .int x8), (9, .int x9)]) hx hb dX4_pays_93 hl (by decide) rfl (fun ls hl => ?_)
            refine lv_iload hx hb dX4_pays_95 (lv_at hl 1 rfl) ?_
            refine lv_iload hx hb dX4_pays_97 (lv_at hl 9 rfl) ?_
            refine lv_icmp_le (tgt := 110) hx hb dX4_pays_99 (by decide) (fun c12 => ?_) (fun c12 => ?_)
            · replace hf := xw_ip c12 hf
              exact J110 x6_11 x7 x8 x9 w9 hf H locs ls hP hS (lv_sub hl [2, 3, 4, 5, 6, 7, 0, 8, 9, 10] rfl)
            · replace hf := xw_in' c12 hf
              refine lv_iload hx hb dX4_pays_102 (lv_at hl 1 rfl) ?_
              refine lv_istore (lv' := [(8, .int v0), (6, .int x6_11), (11, .int v0), (0, .ref (xw_ad G 64)), (1, .ref (xw_ad G a1)), (2, .int a2), (3, .int a3), (4, .int a4), (5, .int a5), (7, .int x7), (9, .int x9)]) hx hb dX4_pays_104 hl (by decide) rfl (fun ls hl => ?_)
              refine lv_iload hx hb dX4_pays_106 (lv_at hl 10 rfl) ?_
              refine lv_istore (lv' := [(7, .int x9), (8, .int v0), (6, .int x6_11), (11, .int v0), (0, .ref (xw_ad G 64)), (1, .ref (xw_ad G a1)), (2, .int a2), (3, .int a3), (4, .int a4), (5, .int a5), (9, .int x9)]) hx hb dX4_pays_108 hl (by decide) rfl (fun ls hl => ?_)
              exact J110 x6_11 x9 v0 x9 w9 hf H locs ls hP hS (lv_sub hl [4, 5, 6, 7, 8, 9, 2, 0, 1, 10] rfl)
          have J40 : ∀ (x6 : Int32) (x7 : Int32) (x8 : Int32) (x9 : Int32) (v0 : Int32) (w : xw_M) (hf : fX4_pays_40 n a1 a2 a3 a4 a5 x6 x7 x8 x9 v0 w = some wv12) (H : Heap) (locs : List Loc) (ls : Array Slot) (hP : va_P (xw_D G) xw_cl (xw_W G w) H) (hS : va_S (xw_A G) s.heap H locs) (hl : lv_has ls 12 [(0, .ref (xw_ad G 64)), (1, .ref (xw_ad G a1)), (2, .int a2), (3, .int a3), (4, .int a4), (5, .int a5), (6, .int x6), (7, .int x7), (8, .int x8), (9, .int x9)]), xw_Wi G p l e (xw_rm (1) (60)) s m args below meth c H locs r0 wz (F0 m 40 ls [.int v0]) := by
            intro x6 x7 x8 x9 v0 w hf H locs ls hP hS hl
            unfold fX4_pays_40 at hf
            refine lv_istore (lv' := [(10, .int v0), (0, .ref (xw_ad G 64)), (1, .ref (xw_ad G a1)), (2, .int a2), (3, .int a3), (4, .int a4), (5, .int a5), (6, .int x6), (7, .int x7), (8, .int x8), (9, .int x9)]) hx hb dX4_pays_40 hl (by decide) rfl (fun ls hl => ?_)
            refine lv_iload hx hb dX4_pays_42 (lv_at hl 6 rfl) ?_
            refine lv_iload hx hb dX4_pays_44 (lv_at hl 10 rfl) ?_
            refine lv_ishr hx hb dX4_pays_46 ?_
            refine lv_iconst (v := 1) hx hb dX4_pays_47 (by decide) ?_
            refine lv_iand hx hb dX4_pays_48 ?_
            refine lv_if_eq (tgt := 56) hx hb dX4_pays_49 (by decide) (fun c5 => ?_) (fun c5 => ?_)
            · replace hf := xw_ip c5 hf
              refine lv_iconst (v := 0) hx hb dX4_pays_56 (by decide) ?_
              refine lv_aload_n hx hb dX4_pays_57 rfl (lv_at hl 1 rfl) ?_
              refine xw_get hB hK hP (xw_o4 G) (C := RX4) (T := TX4) (N := 3) rfl TBi_X4 0 (by decide) tw_200 rfl rfl dX4_pays_58 ?_
              refine lv_iload hx hb dX4_pays_61 (lv_at hl 10 rfl) ?_
              refine lv_bipush (v := 10) hx hb dX4_pays_63 (by decide) ?_
              refine lv_imul hx hb dX4_pays_65 ?_
              refine lv_iload hx hb dX4_pays_66 (lv_at hl 0 rfl) ?_
              refine lv_iadd hx hb dX4_pays_68 ?_
              replace hf := xw_bp_e hf
              obtain ⟨r6, he7, hf⟩ := hf
              refine xw_Ni hB hK hE hS hP (As := [.ref (xw_ad G 65), .int ((x9 * (10 : Int32)) + v0)]) (rest := [.int (0 : Int32)]) (kX7_at l G hG 65 60 ((x9 * (10 : Int32)) + v0) (xw_k65 G) w _ he7) (host := RX7) (by decide +kernel) tw_313 tw_312 tw_1 2 hs_X7_at ⟨Nat.le_of_ble_eq_true rfl, Nat.le_of_ble_eq_true rfl⟩ rfl hl.1 (Nat.le_of_ble_eq_true rfl) rfl dX4_pays_69 ⟨Nat.zero_le _, Nat.zero_le _⟩ (fun H locs hP hS => ?_)
              refine va_mmax hx hb (hB.2.2.1.trans hl.1.symm) hB.2.2.2.1 (hB.2.2.2.2 _ tm_359) (hB.2.2.2.2 _ tm_360) (hB.2.2.2.2 _ tw_4) (hB.2.2.2.2 _ tm_361) (Nat.le_of_ble_eq_true rfl) (Nat.le_of_ble_eq_true rfl) (Nat.zero_le _) (Nat.zero_le _) dX4_pays_72 ?_
              exact J75 x6 x7 x8 x9 (if (0 : Int32) < r6 then r6 else (0 : Int32)) w hf H locs ls hP hS (lv_sub hl [1, 2, 3, 4, 5, 6, 7, 8, 9, 10] rfl)
            · replace hf := xw_in' c5 hf
              refine lv_iconst (v := 0) hx hb dX4_pays_52 (by decide) ?_
              refine lv_goto (tgt := 75) hx hb dX4_pays_53 (by decide) ?_
              exact J75 x6 x7 x8 x9 (0 : Int32) w hf H locs ls hP hS (lv_sub hl [1, 2, 3, 4, 5, 6, 7, 8, 9, 10] rfl)
          refine lv_iload hx hb dX4_pays_12 (lv_at hl 9 rfl) ?_
          refine lv_aload_n hx hb dX4_pays_14 rfl (lv_at hl 1 rfl) ?_
          refine xw_get hB hK hP (xw_o5 G ha1) (C := RX5) (T := TX5) (N := 14) rfl TBi_X5 0 (by decide) tw_61 rfl rfl dX4_pays_15 ?_
          refine lv_icmp_ge (tgt := 116) hx hb dX4_pays_18 (by decide) (fun c1 => ?_) (fun c1 => ?_)
          · replace hf := xw_ip c1 hf
            have he12 := hX12 _ (xw_so hf).symm
            rw [← he12] at hfx12
            exact XX12 x6 x7 w hfx12 H locs ls hP hS (lv_sub hl [0, 1, 2, 4, 6, 7] rfl)
          · replace hf := xw_in' c1 hf
            refine lv_iload hx hb dX4_pays_21 (lv_at hl 9 rfl) ?_
            refine lv_iload_n hx hb dX4_pays_23 rfl (lv_at hl 2 rfl) ?_
            refine lv_icmp_ne (tgt := 31) hx hb dX4_pays_24 (by decide) (fun c2 => ?_) (fun c2 => ?_)
            · replace hf := xw_in' c2 hf
              refine lv_aload_n hx hb dX4_pays_31 rfl (lv_at hl 1 rfl) ?_
              refine xw_get hB hK hP (xw_o5 G ha1) (C := RX5) (T := TX5) (N := 14) rfl TBi_X5 4 (by decide) tw_76 rfl rfl dX4_pays_32 ?_
              refine lv_iload hx hb dX4_pays_35 (lv_at hl 9 rfl) ?_
              replace hf := xw_bp_e hf
              obtain ⟨r3, he4, hf⟩ := hf
              refine xw_Ni hB hK hE hS hP (As := [.ref (xw_ad G (a1 + 4)), .int x9]) (rest := []) (kX7_at l G hG (a1 + 4) 6 x9 (xw_a5_4 G ha1) w _ he4) (host := RX7) (by decide +kernel) tw_313 tw_312 tw_1 2 hs_X7_at ⟨Nat.le_of_ble_eq_true rfl, Nat.le_of_ble_eq_true rfl⟩ rfl hl.1 (Nat.le_of_ble_eq_true rfl) rfl dX4_pays_37 ⟨Nat.zero_le _, Nat.zero_le _⟩ (fun H locs hP hS => ?_)
              exact J40 x6 x7 x8 x9 r3 w hf H locs ls hP hS (lv_sub hl [0, 1, 2, 3, 4, 5, 6, 7, 8, 9] rfl)
            · replace hf := xw_ip c2 hf
              refine lv_iload_n hx hb dX4_pays_27 rfl (lv_at hl 3 rfl) ?_
              refine lv_goto (tgt := 40) hx hb dX4_pays_28 (by decide) ?_
              exact J40 x6 x7 x8 x9 a3 w hf H locs ls hP hS (lv_sub hl [0, 1, 2, 3, 4, 5, 6, 7, 8, 9] rfl)
      exact LL12 n x6 x7 x8 x9 w hit12 H locs ls hP hS hl
    refine lv_iconst (v := 0) hx hb dX4_pays_0 (by decide) ?_
    refine lv_istore (lv' := [(6, .int (0 : Int32)), (0, .ref (xw_ad G 64)), (1, .ref (xw_ad G a1)), (2, .int a2), (3, .int a3), (4, .int a4), (5, .int a5)]) hx hb dX4_pays_1 hl (by decide) rfl (fun ls hl => ?_)
    refine lv_iconst (v := (-1)) hx hb dX4_pays_3 (by decide) ?_
    refine lv_istore (lv' := [(7, .int (-1 : Int32)), (6, .int (0 : Int32)), (0, .ref (xw_ad G 64)), (1, .ref (xw_ad G a1)), (2, .int a2), (3, .int a3), (4, .int a4), (5, .int a5)]) hx hb dX4_pays_4 hl (by decide) rfl (fun ls hl => ?_)
    refine lv_iconst (v := 0) hx hb dX4_pays_6 (by decide) ?_
    refine lv_istore (lv' := [(8, .int (0 : Int32)), (7, .int (-1 : Int32)), (6, .int (0 : Int32)), (0, .ref (xw_ad G 64)), (1, .ref (xw_ad G a1)), (2, .int a2), (3, .int a3), (4, .int a4), (5, .int a5)]) hx hb dX4_pays_7 hl (by decide) rfl (fun ls hl => ?_)
    refine lv_iconst (v := 0) hx hb dX4_pays_9 (by decide) ?_
    refine lv_istore (lv' := [(9, .int (0 : Int32)), (8, .int (0 : Int32)), (7, .int (-1 : Int32)), (6, .int (0 : Int32)), (0, .ref (xw_ad G 64)), (1, .ref (xw_ad G a1)), (2, .int a2), (3, .int a3), (4, .int a4), (5, .int a5)]) hx hb dX4_pays_10 hl (by decide) rfl (fun ls hl => ?_)
    exact J12 (0 : Int32) (-1 : Int32) (0 : Int32) (0 : Int32) w0 hf H locs ls hP hS (lv_sub hl [4, 5, 6, 7, 8, 9, 3, 2, 1, 0] rfl)
  exact HH s.heap [] hP hS
def fX4_share (n : Nat) (a1 : Nat) (a2 : Int32) (a3 : Int32) (a4 : Int32) (w0 : xw_M) : Option (Int32 × xw_M) := xw_bp (fX7_at (a1 + 4) 6 a2 w0) (fun r1 => xw_b (fX4_pays n a1 a2 r1 a3 a4 w0) (fun r3 w4 => some (r3, w4)))
set_option maxHeartbeats 4000000 in
set_option maxRecDepth 100000 in
theorem kX4_share (l : Launch) (G : xw_G) (hG : xw_ok G) (n : Nat) (a1 : Nat) (a2 : Int32) (a3 : Int32) (a4 : Int32) (ha1 : xw_sc a1) (w0 : xw_M) (r0 : Int32) (wz : xw_M) (hf : fX4_share n a1 a2 a3 a4 w0 = some (r0, wz)) : xw_Ti l G yX4_share cX4_share 5 ((Option.some Jvm.ClassFile.FieldType.int)) (2) (91) [.ref (xw_ad G 64), .ref (xw_ad G a1), .int a2, .int a3, .int a4] w0 r0 wz := by
  unfold xw_Ti
  refine Met.ofW (cc := cX4_share) (maxL := 5) (ret := (Option.some Jvm.ClassFile.FieldType.int)) (by decide) rfl ?_
  intro p e s m args below meth c s₁ B hml hv
  obtain ⟨hargs, hP, hK, hE⟩ := hv
  have hx := B.exec
  have hb := B.bytes
  have hr := B.returns
  have hlk := B.notSynchronized
  have hB : CallFix p m c cX4_share 5 s args TB RX4 := ⟨hx, hb, hml, findClass_of_methodNamed B.named, fun q h => (atoms_spec (ws := Cond.code yX4_share cX4_share 5 ((Option.some Jvm.ClassFile.FieldType.int)) :: TB) B.pre) q (List.mem_cons_of_mem _ h)⟩
  have hS : va_S (xw_A G) s.heap s.heap [] := va_S.rf
  have hl := lv_entry [.ref (xw_ad G 64), .ref (xw_ad G a1), .int a2, .int a3, .int a4] (n := 5) (Nat.le_of_ble_eq_true rfl)
  rw [show entryFrame m args 5 = entryFrame m ([.ref (xw_ad G 64), .ref (xw_ad G a1), .int a2, .int a3, .int a4] : List Value).toArray 5 from by rw [hargs], lg_entry_eq]
  generalize (lg_sl [.ref (xw_ad G 64), .ref (xw_ad G a1), .int a2, .int a3, .int a4] ++ List.replicate (5 - (lg_sl [.ref (xw_ad G 64), .ref (xw_ad G a1), .int a2, .int a3, .int a4]).length) Slot.unset).toArray = ls at hl ⊢
  have hP : va_P (xw_D G) xw_cl (xw_W G w0) s.heap := hP
  have hl : lv_has ls 5 [(0, .ref (xw_ad G 64)), (1, .ref (xw_ad G a1)), (2, .int a2), (3, .int a3), (4, .int a4)] := hl
  have HH : ∀ (H : Heap) (locs : List Loc) (hP : va_P (xw_D G) xw_cl (xw_W G w0) H) (hS : va_S (xw_A G) s.heap H locs), xw_Wi G p l e (xw_rm (2) (91)) s m args below meth c H locs r0 wz (F0 m 0 ls []) := by
    intro H locs hP hS
    unfold fX4_share at hf
    refine lv_aload_n hx hb dX4_share_0 rfl (lv_at hl 0 rfl) ?_
    refine lv_aload_n hx hb dX4_share_1 rfl (lv_at hl 1 rfl) ?_
    refine lv_iload_n hx hb dX4_share_2 rfl (lv_at hl 2 rfl) ?_
    refine lv_aload_n hx hb dX4_share_3 rfl (lv_at hl 1 rfl) ?_
    refine xw_get hB hK hP (xw_o5 G ha1) (C := RX5) (T := TX5) (N := 14) rfl TBi_X5 4 (by decide) tw_76 rfl rfl dX4_share_4 ?_
    refine lv_iload_n hx hb dX4_share_7 rfl (lv_at hl 2 rfl) ?_
    replace hf := xw_bp_e hf
    obtain ⟨r1, he2, hf⟩ := hf
    refine xw_Ni hB hK hE hS hP (As := [.ref (xw_ad G (a1 + 4)), .int a2]) (rest := [.int a2, .ref (xw_ad G a1), .ref (xw_ad G 64)]) (kX7_at l G hG (a1 + 4) 6 a2 (xw_a5_4 G ha1) w0 _ he2) (host := RX7) (by decide +kernel) tw_313 tw_312 tw_1 2 hs_X7_at ⟨Nat.le_of_ble_eq_true rfl, Nat.le_of_ble_eq_true rfl⟩ rfl hl.1 (Nat.le_of_ble_eq_true rfl) rfl dX4_share_8 ⟨Nat.zero_le _, Nat.zero_le _⟩ (fun H locs hP hS => ?_)
    refine lv_iload_n hx hb dX4_share_11 rfl (lv_at hl 3 rfl) ?_
    refine lv_iload hx hb dX4_share_12 (lv_at hl 4 rfl) ?_
    replace hf := xw_b_e hf
    obtain ⟨r3, w4, he5, hf⟩ := hf
    refine xw_Vi hB hK hE hS hP (As := [.ref (xw_ad G a1), .int a2, .int r1, .int a3, .int a4]) (rest := []) (kX4_pays l G hG n a1 a2 r1 a3 a4 ha1 w0 _ _ he5) gs_X4_63 (xw_rc hK hP (C := RX4) (T := TX4) (N := 3) (xw_o4 G) rfl) 5 hv_X4_pays ⟨Nat.le_of_ble_eq_true rfl, Nat.le_of_ble_eq_true rfl⟩ rfl hl.1 (Nat.le_of_ble_eq_true rfl) rfl dX4_share_14 ⟨Nat.zero_le _, Nat.zero_le _⟩ (fun H locs hP hS => ?_)
    obtain ⟨h0, h1⟩ := xw_s2 hf
    exact xw_iret hB hK hE hS hP hr hlk h0 h1 dX4_share_17
  exact HH s.heap [] hP hS
def fX4_worth (n : Nat) (a1 : Nat) (a2 : Int32) (a3 : Int32) (w0 : xw_M) : Option (Int32 × xw_M) := xw_lt ((w0.1 a1 7) &&& (((1 : Int32) <<< (a2 &&& 31)) ^^^ (-1 : Int32))) (fun x4_1 => xw_bp (fX7_at (a1 + 3) 6 a2 w0) (fun r2 => xw_lt (r2 * ((10 : Int32) - a3)) (fun x5_4 => xw_b (fX4_pays n a1 a2 a3 (w0.1 a1 8) x4_1 w0) (fun r5 w6 => some (x5_4 - r5, w6)))))
set_option maxHeartbeats 4000000 in
set_option maxRecDepth 100000 in
theorem kX4_worth (l : Launch) (G : xw_G) (hG : xw_ok G) (n : Nat) (a1 : Nat) (a2 : Int32) (a3 : Int32) (ha1 : xw_sc a1) (w0 : xw_M) (r0 : Int32) (wz : xw_M) (hf : fX4_worth n a1 a2 a3 w0 = some (r0, wz)) : xw_Ti l G yX4_worth cX4_worth 6 ((Option.some Jvm.ClassFile.FieldType.int)) (2) (91) [.ref (xw_ad G 64), .ref (xw_ad G a1), .int a2, .int a3] w0 r0 wz := by
  unfold xw_Ti
  refine Met.ofW (cc := cX4_worth) (maxL := 6) (ret := (Option.some Jvm.ClassFile.FieldType.int)) (by decide) rfl ?_
  intro p e s m args below meth c s₁ B hml hv
  obtain ⟨hargs, hP, hK, hE⟩ := hv
  have hx := B.exec
  have hb := B.bytes
  have hr := B.returns
  have hlk := B.notSynchronized
  have hB : CallFix p m c cX4_worth 6 s args TB RX4 := ⟨hx, hb, hml, findClass_of_methodNamed B.named, fun q h => (atoms_spec (ws := Cond.code yX4_worth cX4_worth 6 ((Option.some Jvm.ClassFile.FieldType.int)) :: TB) B.pre) q (List.mem_cons_of_mem _ h)⟩
  have hS : va_S (xw_A G) s.heap s.heap [] := va_S.rf
  have hl := lv_entry [.ref (xw_ad G 64), .ref (xw_ad G a1), .int a2, .int a3] (n := 6) (Nat.le_of_ble_eq_true rfl)
  rw [show entryFrame m args 6 = entryFrame m ([.ref (xw_ad G 64), .ref (xw_ad G a1), .int a2, .int a3] : List Value).toArray 6 from by rw [hargs], lg_entry_eq]
  generalize (lg_sl [.ref (xw_ad G 64), .ref (xw_ad G a1), .int a2, .int a3] ++ List.replicate (6 - (lg_sl [.ref (xw_ad G 64), .ref (xw_ad G a1), .int a2, .int a3]).length) Slot.unset).toArray = ls at hl ⊢
  have hP : va_P (xw_D G) xw_cl (xw_W G w0) s.heap := hP
  have hl : lv_has ls 6 [(0, .ref (xw_ad G 64)), (1, .ref (xw_ad G a1)), (2, .int a2), (3, .int a3)] := hl
  have HH : ∀ (H : Heap) (locs : List Loc) (hP : va_P (xw_D G) xw_cl (xw_W G w0) H) (hS : va_S (xw_A G) s.heap H locs), xw_Wi G p l e (xw_rm (2) (91)) s m args below meth c H locs r0 wz (F0 m 0 ls []) := by
    intro H locs hP hS
    unfold fX4_worth at hf
    refine lv_aload_n hx hb dX4_worth_0 rfl (lv_at hl 1 rfl) ?_
    refine xw_get hB hK hP (xw_o5 G ha1) (C := RX5) (T := TX5) (N := 14) rfl TBi_X5 7 (by decide) tw_85 rfl rfl dX4_worth_1 ?_
    refine lv_iconst (v := 1) hx hb dX4_worth_4 (by decide) ?_
    refine lv_iload_n hx hb dX4_worth_5 rfl (lv_at hl 2 rfl) ?_
    refine lv_ishl hx hb dX4_worth_6 ?_
    refine lv_iconst (v := (-1)) hx hb dX4_worth_7 (by decide) ?_
    refine lv_ixor hx hb dX4_worth_8 ?_
    refine lv_iand hx hb dX4_worth_9 ?_
    refine lv_topi (fun x4_1 ex4_1 => ?_)
    replace hf := xw_lt_e ex4_1 hf
    refine lv_istore (lv' := [(4, .int x4_1), (0, .ref (xw_ad G 64)), (1, .ref (xw_ad G a1)), (2, .int a2), (3, .int a3)]) hx hb dX4_worth_10 hl (by decide) rfl (fun ls hl => ?_)
    refine lv_aload_n hx hb dX4_worth_12 rfl (lv_at hl 2 rfl) ?_
    refine xw_get hB hK hP (xw_o5 G ha1) (C := RX5) (T := TX5) (N := 14) rfl TBi_X5 3 (by decide) tw_72 rfl rfl dX4_worth_13 ?_
    refine lv_iload_n hx hb dX4_worth_16 rfl (lv_at hl 3 rfl) ?_
    replace hf := xw_bp_e hf
    obtain ⟨r2, he3, hf⟩ := hf
    refine xw_Ni hB hK hE hS hP (As := [.ref (xw_ad G (a1 + 3)), .int a2]) (rest := []) (kX7_at l G hG (a1 + 3) 6 a2 (xw_a5_3 G ha1) w0 _ he3) (host := RX7) (by decide +kernel) tw_313 tw_312 tw_1 2 hs_X7_at ⟨Nat.le_of_ble_eq_true rfl, Nat.le_of_ble_eq_true rfl⟩ rfl hl.1 (Nat.le_of_ble_eq_true rfl) rfl dX4_worth_17 ⟨Nat.zero_le _, Nat.zero_le _⟩ (fun H locs hP hS => ?_)
    refine lv_bipush (v := 10) hx hb dX4_worth_20 (by decide) ?_
    refine lv_iload_n hx hb dX4_worth_22 rfl (lv_at hl 4 rfl) ?_
    refine lv_isub hx hb dX4_worth_23 ?_
    refine lv_imul hx hb dX4_worth_24 ?_
    refine lv_topi (fun x5_4 ex5_4 => ?_)
    replace hf := xw_lt_e ex5_4 hf
    refine lv_istore (lv' := [(5, .int x5_4), (4, .int x4_1), (0, .ref (xw_ad G 64)), (1, .ref (xw_ad G a1)), (2, .int a2), (3, .int a3)]) hx hb dX4_worth_25 hl (by decide) rfl (fun ls hl => ?_)
    refine lv_iload hx hb dX4_worth_27 (lv_at hl 0 rfl) ?_
    refine lv_aload_n hx hb dX4_worth_29 rfl (lv_at hl 2 rfl) ?_
    refine lv_aload_n hx hb dX4_worth_30 rfl (lv_at hl 3 rfl) ?_
    refine lv_iload_n hx hb dX4_worth_31 rfl (lv_at hl 4 rfl) ?_
    refine lv_iload_n hx hb dX4_worth_32 rfl (lv_at hl 5 rfl) ?_
    refine lv_aload_n hx hb dX4_worth_33 rfl (lv_at hl 3 rfl) ?_
    refine xw_get hB hK hP (xw_o5 G ha1) (C := RX5) (T := TX5) (N := 14) rfl TBi_X5 8 (by decide) tw_88 rfl rfl dX4_worth_34 ?_
    refine lv_iload hx hb dX4_worth_37 (lv_at hl 1 rfl) ?_
    replace hf := xw_b_e hf
    obtain ⟨r5, w6, he7, hf⟩ := hf
    refine xw_Vi hB hK hE hS hP (As := [.ref (xw_ad G a1), .int a2, .int a3, .int (w0.1 a1 8), .int x4_1]) (rest := [.int x5_4]) (kX4_pays l G hG n a1 a2 a3 (w0.1 a1 8) x4_1 ha1 w0 _ _ he7) gs_X4_63 (xw_rc hK hP (C := RX4) (T := TX4) (N := 3) (xw_o4 G) rfl) 5 hv_X4_pays ⟨Nat.le_of_ble_eq_true rfl, Nat.le_of_ble_eq_true rfl⟩ rfl hl.1 (Nat.le_of_ble_eq_true rfl) rfl dX4_worth_39 ⟨Nat.zero_le _, Nat.zero_le _⟩ (fun H locs hP hS => ?_)
    refine lv_isub hx hb dX4_worth_42 ?_
    obtain ⟨h0, h1⟩ := xw_s2 hf
    exact xw_iret hB hK hE hS hP hr hlk h0 h1 dX4_worth_43
  exact HH s.heap [] hP hS
def fX4_best_51 (n : Nat) (a1 : Nat) (a2 : Int32) (x3 : Int32) (w : xw_M) : Option (Int32 × xw_M) := some (x3, w)
def fX4_best_45 (n : Nat) (a1 : Nat) (a2 : Int32) (x3 : Int32) (x4 : Int32) (x5 : Int32) (w : xw_M) : Option ((Int32 × Int32 × Int32 × xw_M) ⊕ (Int32 × xw_M)) := xw_lt (x5 + 1) (fun x5_9 => some (.inl (x3, x4, x5_9, w)))
def fX4_best_b14 (n : Nat) (a1 : Nat) (a2 : Int32) (x3 : Int32) (x4 : Int32) (x5 : Int32) (w : xw_M) : Option ((Int32 × Int32 × Int32 × xw_M) ⊕ (Int32 × xw_M)) := if (10 : Int32) ≤ x5 then some (.inr (x3, w)) else xw_b (fX4_worth n a1 a2 x5 w) (fun r5 w6 => if r5 ≤ x4 then fX4_best_45 n a1 a2 x3 x4 x5 w6 else fX4_best_45 n a1 a2 x5 r5 x5 w6)
def fX4_best_14 (n : Nat) (a1 : Nat) (a2 : Int32) (x3 : Int32) (x4 : Int32) (x5 : Int32) (w : xw_M) : Option (Int32 × xw_M) := xw_bp (xw_it (fun z => fX4_best_b14 n a1 a2 z.1 z.2.1 z.2.2.1 z.2.2.2) n (x3, x4, x5, w)) (fun z => (fun (x3 : Int32) (w : xw_M) => fX4_best_51 n a1 a2 x3 w) z.1 z.2)
def fX4_best (n : Nat) (a1 : Nat) (a2 : Int32) (w0 : xw_M) : Option (Int32 × xw_M) := xw_b (fX4_worth n a1 a2 (0 : Int32) w0) (fun r1 w2 => fX4_best_14 n a1 a2 (0 : Int32) r1 (1 : Int32) w2)
set_option maxHeartbeats 4000000 in
set_option maxRecDepth 100000 in
theorem kX4_best (l : Launch) (G : xw_G) (hG : xw_ok G) (n : Nat) (a1 : Nat) (a2 : Int32) (ha1 : xw_sc a1) (w0 : xw_M) (r0 : Int32) (wz : xw_M) (hf : fX4_best n a1 a2 w0 = some (r0, wz)) : xw_Ti l G yX4_best cX4_best 7 ((Option.some Jvm.ClassFile.FieldType.int)) (3) (116) [.ref (xw_ad G 64), .ref (xw_ad G a1), .int a2] w0 r0 wz := by
  unfold xw_Ti
  refine Met.ofW (cc := cX4_best) (maxL := 7) (ret := (Option.some Jvm.ClassFile.FieldType.int)) (by decide) rfl ?_
  intro p e s m args below meth c s₁ B hml hv
  obtain ⟨hargs, hP, hK, hE⟩ := hv
  have hx := B.exec
  have hb := B.bytes
  have hr := B.returns
  have hlk := B.notSynchronized
  have hB : CallFix p m c cX4_best 7 s args TB RX4 := ⟨hx, hb, hml, findClass_of_methodNamed B.named, fun q h => (atoms_spec (ws := Cond.code yX4_best cX4_best 7 ((Option.some Jvm.ClassFile.FieldType.int)) :: TB) B.pre) q (List.mem_cons_of_mem _ h)⟩
  have hS : va_S (xw_A G) s.heap s.heap [] := va_S.rf
  have hl := lv_entry [.ref (xw_ad G 64), .ref (xw_ad G a1), .int a2] (n := 7) (Nat.le_of_ble_eq_true rfl)
  rw [show entryFrame m args 7 = entryFrame m ([.ref (xw_ad G 64), .ref (xw_ad G a1), .int a2] : List Value).toArray 7 from by rw [hargs], lg_entry_eq]
  generalize (lg_sl [.ref (xw_ad G 64), .ref (xw_ad G a1), .int a2] ++ List.replicate (7 - (lg_sl [.ref (xw_ad G 64), .ref (xw_ad G a1), .int a2]).length) Slot.unset).toArray = ls at hl ⊢
  have hP : va_P (xw_D G) xw_cl (xw_W G w0) s.heap := hP
  have hl : lv_has ls 7 [(0, .ref (xw_ad G 64)), (1, .ref (xw_ad G a1)), (2, .int a2)] := hl
  have HH : ∀ (H : Heap) (locs : List Loc) (hP : va_P (xw_D G) xw_cl (xw_W G w0) H) (hS : va_S (xw_A G) s.heap H locs), xw_Wi G p l e (xw_rm (3) (116)) s m args below meth c H locs r0 wz (F0 m 0 ls []) := by
    intro H locs hP hS
    unfold fX4_best at hf
    have J51 : ∀ (x3 : Int32) (w : xw_M) (hf : fX4_best_51 n a1 a2 x3 w = some (r0, wz)) (H : Heap) (locs : List Loc) (ls : Array Slot) (hP : va_P (xw_D G) xw_cl (xw_W G w) H) (hS : va_S (xw_A G) s.heap H locs) (hl : lv_has ls 7 [(3, .int x3)]), xw_Wi G p l e (xw_rm (3) (116)) s m args below meth c H locs r0 wz (F0 m 51 ls []) := by
      intro x3 w hf H locs ls hP hS hl
      unfold fX4_best_51 at hf
      refine lv_iload_n hx hb dX4_best_51 rfl (lv_at hl 0 rfl) ?_
      obtain ⟨h0, h1⟩ := xw_s2 hf
      exact xw_iret hB hK hE hS hP hr hlk h0 h1 dX4_best_52
    have J14 : ∀ (x3 : Int32) (x4 : Int32) (x5 : Int32) (w : xw_M) (hf : fX4_best_14 n a1 a2 x3 x4 x5 w = some (r0, wz)) (H : Heap) (locs : List Loc) (ls : Array Slot) (hP : va_P (xw_D G) xw_cl (xw_W G w) H) (hS : va_S (xw_A G) s.heap H locs) (hl : lv_has ls 7 [(0, .ref (xw_ad G 64)), (1, .ref (xw_ad G a1)), (2, .int a2), (3, .int x3), (4, .int x4), (5, .int x5)]), xw_Wi G p l e (xw_rm (3) (116)) s m args below meth c H locs r0 wz (F0 m 14 ls []) := by
      intro x3 x4 x5 w hf H locs ls hP hS hl
      unfold fX4_best_14 at hf
      replace hf := xw_bp_e hf
      obtain ⟨bb14, hit14, hfx14⟩ := hf
      have XX14 : ∀ (x3 : Int32) (w : xw_M) (hf : fX4_best_51 n a1 a2 x3 w = some (r0, wz)) (H : Heap) (locs : List Loc) (ls : Array Slot) (hP : va_P (xw_D G) xw_cl (xw_W G w) H) (hS : va_S (xw_A G) s.heap H locs) (hl : lv_has ls 7 [(3, .int x3)]), xw_Wi G p l e (xw_rm (3) (116)) s m args below meth c H locs r0 wz (F0 m 51 ls []) := by
        intro x3 w hf H locs ls hP hS hl
        exact J51 x3 w hf H locs ls hP hS (lv_sub hl [0] rfl)
      have LL14 : ∀ (nn : Nat) (x3 : Int32) (x4 : Int32) (x5 : Int32) (w : xw_M) (hit : xw_it (fun z => fX4_best_b14 n a1 a2 z.1 z.2.1 z.2.2.1 z.2.2.2) nn (x3, x4, x5, w) = some bb14) (H : Heap) (locs : List Loc) (ls : Array Slot) (hP : va_P (xw_D G) xw_cl (xw_W G w) H) (hS : va_S (xw_A G) s.heap H locs) (hl : lv_has ls 7 [(0, .ref (xw_ad G 64)), (1, .ref (xw_ad G a1)), (2, .int a2), (3, .int x3), (4, .int x4), (5, .int x5)]), xw_Wi G p l e (xw_rm (3) (116)) s m args below meth c H locs r0 wz (F0 m 14 ls []) := by
        intro nn
        induction nn with
        | zero => intro x3 x4 x5 w hit; exact (xw_it_0 hit).elim
        | succ nn ih14 =>
          intro x3 x4 x5 w hit H locs ls hP hS hl
          replace hit := xw_it_e hit
          obtain ⟨wv14, hf, hC14, hX14⟩ := hit
          replace hf : fX4_best_b14 n a1 a2 x3 x4 x5 w = some wv14 := hf
          unfold fX4_best_b14 at hf
          have J45 : ∀ (x3 : Int32) (x4 : Int32) (x5 : Int32) (w : xw_M) (hf : fX4_best_45 n a1 a2 x3 x4 x5 w = some wv14) (H : Heap) (locs : List Loc) (ls : Array Slot) (hP : va_P (xw_D G) xw_cl (xw_W G w) H) (hS : va_S (xw_A G) s.heap H locs) (hl : lv_has ls 7 [(0, .ref (xw_ad G 64)), (1, .ref (xw_ad G a1)), (2, .int a2), (3, .int x3), (4, .int x4), (5, .int x5)]), xw_Wi G p l e (xw_rm (3) (116)) s m args below meth c H locs r0 wz (F0 m 45 ls []) := by
            intro x3 x4 x5 w hf H locs ls hP hS hl
            unfold fX4_best_45 at hf
            obtain ⟨x5_9, ex5_9⟩ : ∃ y : Int32, y = x5 + 1 := ⟨_, rfl⟩
            replace hf := xw_lt_e ex5_9 hf
            refine lv_iinc (v := x5_9) (lv' := [(5, .int x5_9), (0, .ref (xw_ad G 64)), (1, .ref (xw_ad G a1)), (2, .int a2), (3, .int x3), (4, .int x4)]) hx hb dX4_best_45 hl (k := 5) rfl (by rw [ex5_9]; rfl) (by decide) rfl (fun ls hl => ?_)
            refine lv_goto (tgt := 14) hx hb dX4_best_48 (by decide) ?_
            have hi := hC14 _ (xw_so hf).symm
            exact ih14 x3 x4 x5_9 w hi H locs ls hP hS (lv_sub hl [1, 2, 3, 4, 5, 0] rfl)
          refine lv_iload hx hb dX4_best_14 (lv_at hl 5 rfl) ?_
          refine lv_bipush (v := 10) hx hb dX4_best_16 (by decide) ?_
          refine lv_icmp_ge (tgt := 51) hx hb dX4_best_18 (by decide) (fun c4 => ?_) (fun c4 => ?_)
          · replace hf := xw_ip c4 hf
            have he14 := hX14 _ (xw_so hf).symm
            rw [← he14] at hfx14
            exact XX14 x3 w hfx14 H locs ls hP hS (lv_sub hl [3] rfl)
          · replace hf := xw_in' c4 hf
            refine lv_aload_n hx hb dX4_best_21 rfl (lv_at hl 0 rfl) ?_
            refine lv_aload_n hx hb dX4_best_22 rfl (lv_at hl 1 rfl) ?_
            refine lv_iload_n hx hb dX4_best_23 rfl (lv_at hl 2 rfl) ?_
            refine lv_iload hx hb dX4_best_24 (lv_at hl 5 rfl) ?_
            replace hf := xw_b_e hf
            obtain ⟨r5, w6, he7, hf⟩ := hf
            refine xw_Vi hB hK hE hS hP (As := [.ref (xw_ad G a1), .int a2, .int x5]) (rest := []) (kX4_worth l G hG n a1 a2 x5 ha1 w _ _ he7) gs_X4_79 (xw_rc hK hP (C := RX4) (T := TX4) (N := 3) (xw_o4 G) rfl) 3 hv_X4_worth ⟨Nat.le_of_ble_eq_true rfl, Nat.le_of_ble_eq_true rfl⟩ rfl hl.1 (Nat.le_of_ble_eq_true rfl) rfl dX4_best_26 ⟨Nat.zero_le _, Nat.zero_le _⟩ (fun H locs hP hS => ?_)
            refine lv_istore (lv' := [(6, .int r5), (0, .ref (xw_ad G 64)), (1, .ref (xw_ad G a1)), (2, .int a2), (3, .int x3), (4, .int x4), (5, .int x5)]) hx hb dX4_best_29 hl (by decide) rfl (fun ls hl => ?_)
            refine lv_iload hx hb dX4_best_31 (lv_at hl 0 rfl) ?_
            refine lv_iload hx hb dX4_best_33 (lv_at hl 5 rfl) ?_
            refine lv_icmp_le (tgt := 45) hx hb dX4_best_35 (by decide) (fun c8 => ?_) (fun c8 => ?_)
            · replace hf := xw_ip c8 hf
              exact J45 x3 x4 x5 w6 hf H locs ls hP hS (lv_sub hl [1, 2, 3, 4, 5, 6] rfl)
            · replace hf := xw_in' c8 hf
              refine lv_iload hx hb dX4_best_38 (lv_at hl 0 rfl) ?_
              refine lv_istore (lv' := [(4, .int r5), (6, .int r5), (0, .ref (xw_ad G 64)), (1, .ref (xw_ad G a1)), (2, .int a2), (3, .int x3), (5, .int x5)]) hx hb dX4_best_40 hl (by decide) rfl (fun ls hl => ?_)
              refine lv_iload hx hb dX4_best_42 (lv_at hl 6 rfl) ?_
              refine lv_istore_n (lv' := [(3, .int x5), (4, .int r5), (6, .int r5), (0, .ref (xw_ad G 64)), (1, .ref (xw_ad G a1)), (2, .int a2), (5, .int x5)]) hx hb dX4_best_44 rfl hl (by decide) rfl (fun ls hl => ?_)
              exact J45 x5 r5 x5 w6 hf H locs ls hP hS (lv_sub hl [3, 4, 5, 0, 1, 6] rfl)
      exact LL14 n x3 x4 x5 w hit14 H locs ls hP hS hl
    refine lv_iconst (v := 0) hx hb dX4_best_0 (by decide) ?_
    refine lv_istore_n (lv' := [(3, .int (0 : Int32)), (0, .ref (xw_ad G 64)), (1, .ref (xw_ad G a1)), (2, .int a2)]) hx hb dX4_best_1 rfl hl (by decide) rfl (fun ls hl => ?_)
    refine lv_aload_n hx hb dX4_best_2 rfl (lv_at hl 1 rfl) ?_
    refine lv_aload_n hx hb dX4_best_3 rfl (lv_at hl 2 rfl) ?_
    refine lv_iload_n hx hb dX4_best_4 rfl (lv_at hl 3 rfl) ?_
    refine lv_iconst (v := 0) hx hb dX4_best_5 (by decide) ?_
    replace hf := xw_b_e hf
    obtain ⟨r1, w2, he3, hf⟩ := hf
    refine xw_Vi hB hK hE hS hP (As := [.ref (xw_ad G a1), .int a2, .int (0 : Int32)]) (rest := []) (kX4_worth l G hG n a1 a2 (0 : Int32) ha1 w0 _ _ he3) gs_X4_79 (xw_rc hK hP (C := RX4) (T := TX4) (N := 3) (xw_o4 G) rfl) 3 hv_X4_worth ⟨Nat.le_of_ble_eq_true rfl, Nat.le_of_ble_eq_true rfl⟩ rfl hl.1 (Nat.le_of_ble_eq_true rfl) rfl dX4_best_6 ⟨Nat.zero_le _, Nat.zero_le _⟩ (fun H locs hP hS => ?_)
    refine lv_istore (lv' := [(4, .int r1), (3, .int (0 : Int32)), (0, .ref (xw_ad G 64)), (1, .ref (xw_ad G a1)), (2, .int a2)]) hx hb dX4_best_9 hl (by decide) rfl (fun ls hl => ?_)
    refine lv_iconst (v := 1) hx hb dX4_best_11 (by decide) ?_
    refine lv_istore (lv' := [(5, .int (1 : Int32)), (4, .int r1), (3, .int (0 : Int32)), (0, .ref (xw_ad G 64)), (1, .ref (xw_ad G a1)), (2, .int a2)]) hx hb dX4_best_12 hl (by decide) rfl (fun ls hl => ?_)
    exact J14 (0 : Int32) r1 (1 : Int32) w2 hf H locs ls hP hS (lv_sub hl [3, 4, 5, 2, 1, 0] rfl)
  exact HH s.heap [] hP hS
def fX4_rate (a1 : Int32) (a2 : Int32) (w0 : xw_M) : Option Int32 := xw_bp (fX7_at 65 60 ((a1 * (10 : Int32)) + a2) w0) (fun r1 => some r1)
set_option maxHeartbeats 4000000 in
set_option maxRecDepth 100000 in
theorem kX4_rate (l : Launch) (G : xw_G) (hG : xw_ok G) (a1 : Int32) (a2 : Int32) (w0 : xw_M) (r0 : Int32) (hf : fX4_rate a1 a2 w0 = some r0) : xw_Ti l G yX4_rate cX4_rate 3 ((Option.some Jvm.ClassFile.FieldType.int)) (1) (21) [.ref (xw_ad G 64), .int a1, .int a2] w0 r0 w0 := by
  unfold xw_Ti
  refine Met.ofW (cc := cX4_rate) (maxL := 3) (ret := (Option.some Jvm.ClassFile.FieldType.int)) (by decide) rfl ?_
  intro p e s m args below meth c s₁ B hml hv
  obtain ⟨hargs, hP, hK, hE⟩ := hv
  have hx := B.exec
  have hb := B.bytes
  have hr := B.returns
  have hlk := B.notSynchronized
  have hB : CallFix p m c cX4_rate 3 s args TB RX4 := ⟨hx, hb, hml, findClass_of_methodNamed B.named, fun q h => (atoms_spec (ws := Cond.code yX4_rate cX4_rate 3 ((Option.some Jvm.ClassFile.FieldType.int)) :: TB) B.pre) q (List.mem_cons_of_mem _ h)⟩
  have hS : va_S (xw_A G) s.heap s.heap [] := va_S.rf
  have hl := lv_entry [.ref (xw_ad G 64), .int a1, .int a2] (n := 3) (Nat.le_of_ble_eq_true rfl)
  rw [show entryFrame m args 3 = entryFrame m ([.ref (xw_ad G 64), .int a1, .int a2] : List Value).toArray 3 from by rw [hargs], lg_entry_eq]
  generalize (lg_sl [.ref (xw_ad G 64), .int a1, .int a2] ++ List.replicate (3 - (lg_sl [.ref (xw_ad G 64), .int a1, .int a2]).length) Slot.unset).toArray = ls at hl ⊢
  have hP : va_P (xw_D G) xw_cl (xw_W G w0) s.heap := hP
  have hl : lv_has ls 3 [(0, .ref (xw_ad G 64)), (1, .int a1), (2, .int a2)] := hl
  have HH : ∀ (H : Heap) (locs : List Loc) (hP : va_P (xw_D G) xw_cl (xw_W G w0) H) (hS : va_S (xw_A G) s.heap H locs), xw_Wi G p l e (xw_rm (1) (21)) s m args below meth c H locs r0 w0 (F0 m 0 ls []) := by
    intro H locs hP hS
    unfold fX4_rate at hf
    refine lv_aload_n hx hb dX4_rate_0 rfl (lv_at hl 0 rfl) ?_
    refine xw_get hB hK hP (xw_o4 G) (C := RX4) (T := TX4) (N := 3) rfl TBi_X4 0 (by decide) tw_200 rfl rfl dX4_rate_1 ?_
    refine lv_iload_n hx hb dX4_rate_4 rfl (lv_at hl 1 rfl) ?_
    refine lv_bipush (v := 10) hx hb dX4_rate_5 (by decide) ?_
    refine lv_imul hx hb dX4_rate_7 ?_
    refine lv_iload_n hx hb dX4_rate_8 rfl (lv_at hl 2 rfl) ?_
    refine lv_iadd hx hb dX4_rate_9 ?_
    replace hf := xw_bp_e hf
    obtain ⟨r1, he2, hf⟩ := hf
    refine xw_Ni hB hK hE hS hP (As := [.ref (xw_ad G 65), .int ((a1 * (10 : Int32)) + a2)]) (rest := []) (kX7_at l G hG 65 60 ((a1 * (10 : Int32)) + a2) (xw_k65 G) w0 _ he2) (host := RX7) (by decide +kernel) tw_313 tw_312 tw_1 2 hs_X7_at ⟨Nat.le_of_ble_eq_true rfl, Nat.le_of_ble_eq_true rfl⟩ rfl hl.1 (Nat.le_of_ble_eq_true rfl) rfl dX4_rate_10 ⟨Nat.zero_le _, Nat.zero_le _⟩ (fun H locs hP hS => ?_)
    have h0 := xw_so hf
    have h1 : w0 = w0 := rfl
    exact xw_iret hB hK hE hS hP hr hlk h0 h1 dX4_rate_13
  exact HH s.heap [] hP hS
def fX7_reckonedOf_92 (n : Nat) (a1 : Int32) (a2 : Int32) (w : xw_M) : Option (Int32 × xw_M) := if a2 < (20 : Int32) then some ((-10001 : Int32), w) else if (30 : Int32) ≤ a2 then some ((-10001 : Int32), w) else xw_b (fX4_worth n 1 a1 (a2 - (20 : Int32)) w) (fun r22 w23 => some (r22, w23))
def fX7_reckonedOf (n : Nat) (a1 : Int32) (a2 : Int32) (w0 : xw_M) : Option (Int32 × xw_M) := xw_bp (fX7_held w0) (fun r1 => xw_om r1 (none) (fun t3 => xw_cc (xw_pa t3) (xw_b (fX4_look n 1 t3 w0) (fun (_ : Unit) w6 => if a2 = (6 : Int32) then xw_b (fX4_share n 1 a1 (w6.1 1 8) (w6.1 1 7) w6) (fun r17 w18 => some (r17, w18)) else if a2 = (7 : Int32) then xw_b (fX4_best n 1 a1 w6) (fun r14 w15 => some (r14, w15)) else if a2 < (10 : Int32) then fX7_reckonedOf_92 n a1 a2 w6 else if (20 : Int32) ≤ a2 then fX7_reckonedOf_92 n a1 a2 w6 else xw_bp (fX4_rate a1 (a2 - (10 : Int32)) w6) (fun r12 => some (r12, w6))))))
set_option maxHeartbeats 4000000 in
set_option maxRecDepth 100000 in
theorem kX7_reckonedOf (l : Launch) (G : xw_G) (hG : xw_ok G) (n : Nat) (a1 : Int32) (a2 : Int32) (w0 : xw_M) (r0 : Int32) (wz : xw_M) (hf : fX7_reckonedOf n a1 a2 w0 = some (r0, wz)) : xw_Ti l G yX7_reckonedOf cX7_reckonedOf 3 ((Option.some Jvm.ClassFile.FieldType.int)) (4) (142) [.ref (xw_ad G 0), .int a1, .int a2] w0 r0 wz := by
  unfold xw_Ti
  refine Met.ofW (cc := cX7_reckonedOf) (maxL := 3) (ret := (Option.some Jvm.ClassFile.FieldType.int)) (by decide) rfl ?_
  intro p e s m args below meth c s₁ B hml hv
  obtain ⟨hargs, hP, hK, hE⟩ := hv
  have hx := B.exec
  have hb := B.bytes
  have hr := B.returns
  have hlk := B.notSynchronized
  have hB : CallFix p m c cX7_reckonedOf 3 s args TB RX7 := ⟨hx, hb, hml, findClass_of_methodNamed B.named, fun q h => (atoms_spec (ws := Cond.code yX7_reckonedOf cX7_reckonedOf 3 ((Option.some Jvm.ClassFile.FieldType.int)) :: TB) B.pre) q (List.mem_cons_of_mem _ h)⟩
  have hS : va_S (xw_A G) s.heap s.heap [] := va_S.rf
  have hl := lv_entry [.ref (xw_ad G 0), .int a1, .int a2] (n := 3) (Nat.le_of_ble_eq_true rfl)
  rw [show entryFrame m args 3 = entryFrame m ([.ref (xw_ad G 0), .int a1, .int a2] : List Value).toArray 3 from by rw [hargs], lg_entry_eq]
  generalize (lg_sl [.ref (xw_ad G 0), .int a1, .int a2] ++ List.replicate (3 - (lg_sl [.ref (xw_ad G 0), .int a1, .int a2]).length) Slot.unset).toArray = ls at hl ⊢
  have hP : va_P (xw_D G) xw_cl (xw_W G w0) s.heap := hP
  have hl : lv_has ls 3 [(0, .ref (xw_ad G 0)), (1, .int a1), (2, .int a2)] := hl
  have HH : ∀ (H : Heap) (locs : List Loc) (hP : va_P (xw_D G) xw_cl (xw_W G w0) H) (hS : va_S (xw_A G) s.heap H locs), xw_Wi G p l e (xw_rm (4) (142)) s m args below meth c H locs r0 wz (F0 m 0 ls []) := by
    intro H locs hP hS
    unfold fX7_reckonedOf at hf
    have J92 : ∀ (w : xw_M) (hf : fX7_reckonedOf_92 n a1 a2 w = some (r0, wz)) (H : Heap) (locs : List Loc) (ls : Array Slot) (hP : va_P (xw_D G) xw_cl (xw_W G w) H) (hS : va_S (xw_A G) s.heap H locs) (hl : lv_has ls 3 [(0, .ref (xw_ad G 0)), (1, .int a1), (2, .int a2)]), xw_Wi G p l e (xw_rm (4) (142)) s m args below meth c H locs r0 wz (F0 m 92 ls []) := by
      intro w hf H locs ls hP hS hl
      unfold fX7_reckonedOf_92 at hf
      refine lv_iload_n hx hb dX7_reckonedOf_92 rfl (lv_at hl 2 rfl) ?_
      refine lv_bipush (v := 20) hx hb dX7_reckonedOf_93 (by decide) ?_
      refine lv_icmp_lt (tgt := 121) hx hb dX7_reckonedOf_95 (by decide) (fun c20 => ?_) (fun c20 => ?_)
      · replace hf := xw_ip c20 hf
        refine lv_sipush (v := (-10001)) hx hb dX7_reckonedOf_121 (by decide) ?_
        obtain ⟨h0, h1⟩ := xw_s2 hf
        exact xw_iret hB hK hE hS hP hr hlk h0 h1 dX7_reckonedOf_124
      · replace hf := xw_in' c20 hf
        refine lv_iload_n hx hb dX7_reckonedOf_98 rfl (lv_at hl 2 rfl) ?_
        refine lv_bipush (v := 30) hx hb dX7_reckonedOf_99 (by decide) ?_
        refine lv_icmp_ge (tgt := 121) hx hb dX7_reckonedOf_101 (by decide) (fun c21 => ?_) (fun c21 => ?_)
        · replace hf := xw_ip c21 hf
          refine lv_sipush (v := (-10001)) hx hb dX7_reckonedOf_121 (by decide) ?_
          obtain ⟨h0, h1⟩ := xw_s2 hf
          exact xw_iret hB hK hE hS hP hr hlk h0 h1 dX7_reckonedOf_124
        · replace hf := xw_in' c21 hf
          refine lv_aload_n hx hb dX7_reckonedOf_104 rfl (lv_at hl 0 rfl) ?_
          refine xw_get hB hK hP (xw_o7 G) (C := RX7) (T := TX7) (N := 11) rfl TBi_X7 8 (by decide) tw_263 rfl rfl dX7_reckonedOf_105 ?_
          refine lv_aload_n hx hb dX7_reckonedOf_108 rfl (lv_at hl 0 rfl) ?_
          refine xw_get hB hK hP (xw_o7 G) (C := RX7) (T := TX7) (N := 11) rfl TBi_X7 0 (by decide) tw_255 rfl rfl dX7_reckonedOf_109 ?_
          refine lv_iload_n hx hb dX7_reckonedOf_112 rfl (lv_at hl 1 rfl) ?_
          refine lv_iload_n hx hb dX7_reckonedOf_113 rfl (lv_at hl 2 rfl) ?_
          refine lv_bipush (v := 20) hx hb dX7_reckonedOf_114 (by decide) ?_
          refine lv_isub hx hb dX7_reckonedOf_116 ?_
          replace hf := xw_b_e hf
          obtain ⟨r22, w23, he24, hf⟩ := hf
          refine xw_Vi hB hK hE hS hP (As := [.ref (xw_ad G 1), .int a1, .int (a2 - (20 : Int32))]) (rest := []) (kX4_worth l G hG n 1 a1 (a2 - (20 : Int32)) (Or.inl rfl) w _ _ he24) gs_X7_133 (xw_rc hK hP (C := RX4) (T := TX4) (N := 3) (xw_o4 G) rfl) 3 hv_X4_worth ⟨Nat.le_of_ble_eq_true rfl, Nat.le_of_ble_eq_true rfl⟩ rfl hl.1 (Nat.le_of_ble_eq_true rfl) rfl dX7_reckonedOf_117 ⟨Nat.zero_le _, Nat.zero_le _⟩ (fun H locs hP hS => ?_)
          obtain ⟨h0, h1⟩ := xw_s2 hf
          exact xw_iret hB hK hE hS hP hr hlk h0 h1 dX7_reckonedOf_120
    refine lv_aload_n hx hb dX7_reckonedOf_0 rfl (lv_at hl 0 rfl) ?_
    refine xw_get hB hK hP (xw_o7 G) (C := RX7) (T := TX7) (N := 11) rfl TBi_X7 8 (by decide) tw_263 rfl rfl dX7_reckonedOf_1 ?_
    refine lv_aload_n hx hb dX7_reckonedOf_4 rfl (lv_at hl 0 rfl) ?_
    refine xw_get hB hK hP (xw_o7 G) (C := RX7) (T := TX7) (N := 11) rfl TBi_X7 0 (by decide) tw_255 rfl rfl dX7_reckonedOf_5 ?_
    refine lv_aload_n hx hb dX7_reckonedOf_8 rfl (lv_at hl 0 rfl) ?_
    replace hf := xw_bp_e hf
    obtain ⟨r1, he2, hf⟩ := hf
    refine xw_Vq hB hK hE hS hP (As := []) (rest := [.ref (xw_ad G 1), .ref (xw_ad G 64)]) (kX7_held l G hG w0 _ he2) gs_X7_108 (xw_rc hK hP (C := RX7) (T := TX7) (N := 11) (xw_o7 G) rfl) 0 hv_X7_held ⟨Nat.le_of_ble_eq_true rfl, Nat.le_of_ble_eq_true rfl⟩ rfl hl.1 (Nat.le_of_ble_eq_true rfl) rfl dX7_reckonedOf_9 ⟨Nat.zero_le _, Nat.zero_le _⟩ (fun H locs hP hS => ?_)
    cases r1 with
    | none =>
      replace hf := xw_om_n hf
      cases hf
    | some t3 =>
      replace hf := xw_om_s hf
      replace hf := xw_cc_e hf
      obtain ⟨ht4, hf⟩ := hf
      replace hf := xw_b_e hf
      obtain ⟨r5, w6, he7, hf⟩ := hf
      refine xw_Vv hB hK hE hS hP (As := [.ref (xw_ad G 1), .ref (xw_ad G t3)]) (rest := []) (kX4_look l G hG n 1 t3 (Or.inl rfl) ht4 w0 _ _ he7) gs_X7_112 (xw_rc hK hP (C := RX4) (T := TX4) (N := 3) (xw_o4 G) rfl) 2 hv_X4_look ⟨Nat.le_of_ble_eq_true rfl, Nat.le_of_ble_eq_true rfl⟩ rfl hl.1 (Nat.le_of_ble_eq_true rfl) rfl dX7_reckonedOf_12 ⟨Nat.zero_le _, Nat.zero_le _⟩ (fun H locs hP hS => ?_)
      refine lv_iload_n hx hb dX7_reckonedOf_15 rfl (lv_at hl 2 rfl) ?_
      refine lv_bipush (v := 6) hx hb dX7_reckonedOf_16 (by decide) ?_
      refine lv_icmp_ne (tgt := 48) hx hb dX7_reckonedOf_18 (by decide) (fun c8 => ?_) (fun c8 => ?_)
      · replace hf := xw_in' c8 hf
        refine lv_iload_n hx hb dX7_reckonedOf_48 rfl (lv_at hl 2 rfl) ?_
        refine lv_bipush (v := 7) hx hb dX7_reckonedOf_49 (by decide) ?_
        refine lv_icmp_ne (tgt := 67) hx hb dX7_reckonedOf_51 (by decide) (fun c9 => ?_) (fun c9 => ?_)
        · replace hf := xw_in' c9 hf
          refine lv_iload_n hx hb dX7_reckonedOf_67 rfl (lv_at hl 2 rfl) ?_
          refine lv_bipush (v := 10) hx hb dX7_reckonedOf_68 (by decide) ?_
          refine lv_icmp_lt (tgt := 92) hx hb dX7_reckonedOf_70 (by decide) (fun c10 => ?_) (fun c10 => ?_)
          · replace hf := xw_ip c10 hf
            exact J92 w6 hf H locs ls hP hS (lv_sub hl [0, 1, 2] rfl)
          · replace hf := xw_in' c10 hf
            refine lv_iload_n hx hb dX7_reckonedOf_73 rfl (lv_at hl 2 rfl) ?_
            refine lv_bipush (v := 20) hx hb dX7_reckonedOf_74 (by decide) ?_
            refine lv_icmp_ge (tgt := 92) hx hb dX7_reckonedOf_76 (by decide) (fun c11 => ?_) (fun c11 => ?_)
            · replace hf := xw_ip c11 hf
              exact J92 w6 hf H locs ls hP hS (lv_sub hl [0, 1, 2] rfl)
            · replace hf := xw_in' c11 hf
              refine lv_aload_n hx hb dX7_reckonedOf_79 rfl (lv_at hl 0 rfl) ?_
              refine xw_get hB hK hP (xw_o7 G) (C := RX7) (T := TX7) (N := 11) rfl TBi_X7 8 (by decide) tw_263 rfl rfl dX7_reckonedOf_80 ?_
              refine lv_iload_n hx hb dX7_reckonedOf_83 rfl (lv_at hl 1 rfl) ?_
              refine lv_iload_n hx hb dX7_reckonedOf_84 rfl (lv_at hl 2 rfl) ?_
              refine lv_bipush (v := 10) hx hb dX7_reckonedOf_85 (by decide) ?_
              refine lv_isub hx hb dX7_reckonedOf_87 ?_
              replace hf := xw_bp_e hf
              obtain ⟨r12, he13, hf⟩ := hf
              refine xw_Vi hB hK hE hS hP (As := [.int a1, .int (a2 - (10 : Int32))]) (rest := []) (kX4_rate l G hG a1 (a2 - (10 : Int32)) w6 _ he13) gs_X7_130 (xw_rc hK hP (C := RX4) (T := TX4) (N := 3) (xw_o4 G) rfl) 2 hv_X4_rate ⟨Nat.le_of_ble_eq_true rfl, Nat.le_of_ble_eq_true rfl⟩ rfl hl.1 (Nat.le_of_ble_eq_true rfl) rfl dX7_reckonedOf_88 ⟨Nat.zero_le _, Nat.zero_le _⟩ (fun H locs hP hS => ?_)
              obtain ⟨h0, h1⟩ := xw_s2 hf
              exact xw_iret hB hK hE hS hP hr hlk h0 h1 dX7_reckonedOf_91
        · replace hf := xw_ip c9 hf
          refine lv_aload_n hx hb dX7_reckonedOf_54 rfl (lv_at hl 0 rfl) ?_
          refine xw_get hB hK hP (xw_o7 G) (C := RX7) (T := TX7) (N := 11) rfl TBi_X7 8 (by decide) tw_263 rfl rfl dX7_reckonedOf_55 ?_
          refine lv_aload_n hx hb dX7_reckonedOf_58 rfl (lv_at hl 0 rfl) ?_
          refine xw_get hB hK hP (xw_o7 G) (C := RX7) (T := TX7) (N := 11) rfl TBi_X7 0 (by decide) tw_255 rfl rfl dX7_reckonedOf_59 ?_
          refine lv_iload_n hx hb dX7_reckonedOf_62 rfl (lv_at hl 1 rfl) ?_
          replace hf := xw_b_e hf
          obtain ⟨r14, w15, he16, hf⟩ := hf
          refine xw_Vi hB hK hE hS hP (As := [.ref (xw_ad G 1), .int a1]) (rest := []) (kX4_best l G hG n 1 a1 (Or.inl rfl) w6 _ _ he16) gs_X7_126 (xw_rc hK hP (C := RX4) (T := TX4) (N := 3) (xw_o4 G) rfl) 2 hv_X4_best ⟨Nat.le_of_ble_eq_true rfl, Nat.le_of_ble_eq_true rfl⟩ rfl hl.1 (Nat.le_of_ble_eq_true rfl) rfl dX7_reckonedOf_63 ⟨Nat.zero_le _, Nat.zero_le _⟩ (fun H locs hP hS => ?_)
          obtain ⟨h0, h1⟩ := xw_s2 hf
          exact xw_iret hB hK hE hS hP hr hlk h0 h1 dX7_reckonedOf_66
      · replace hf := xw_ip c8 hf
        refine lv_aload_n hx hb dX7_reckonedOf_21 rfl (lv_at hl 0 rfl) ?_
        refine xw_get hB hK hP (xw_o7 G) (C := RX7) (T := TX7) (N := 11) rfl TBi_X7 8 (by decide) tw_263 rfl rfl dX7_reckonedOf_22 ?_
        refine lv_aload_n hx hb dX7_reckonedOf_25 rfl (lv_at hl 0 rfl) ?_
        refine xw_get hB hK hP (xw_o7 G) (C := RX7) (T := TX7) (N := 11) rfl TBi_X7 0 (by decide) tw_255 rfl rfl dX7_reckonedOf_26 ?_
        refine lv_iload_n hx hb dX7_reckonedOf_29 rfl (lv_at hl 1 rfl) ?_
        refine lv_aload_n hx hb dX7_reckonedOf_30 rfl (lv_at hl 0 rfl) ?_
        refine xw_get hB hK hP (xw_o7 G) (C := RX7) (T := TX7) (N := 11) rfl TBi_X7 0 (by decide) tw_255 rfl rfl dX7_reckonedOf_31 ?_
        refine xw_get hB hK hP (xw_o5 G (Or.inl rfl)) (C := RX5) (T := TX5) (N := 14) rfl TBi_X5 8 (by decide) tw_87 rfl rfl dX7_reckonedOf_34 ?_
        refine lv_aload_n hx hb dX7_reckonedOf_37 rfl (lv_at hl 0 rfl) ?_
        refine xw_get hB hK hP (xw_o7 G) (C := RX7) (T := TX7) (N := 11) rfl TBi_X7 0 (by decide) tw_255 rfl rfl dX7_reckonedOf_38 ?_
        refine xw_get hB hK hP (xw_o5 G (Or.inl rfl)) (C := RX5) (T := TX5) (N := 14) rfl TBi_X5 7 (by decide) tw_84 rfl rfl dX7_reckonedOf_41 ?_
        replace hf := xw_b_e hf
        obtain ⟨r17, w18, he19, hf⟩ := hf
        refine xw_Vi hB hK hE hS hP (As := [.ref (xw_ad G 1), .int a1, .int (w6.1 1 8), .int (w6.1 1 7)]) (rest := []) (kX4_share l G hG n 1 a1 (w6.1 1 8) (w6.1 1 7) (Or.inl rfl) w6 _ _ he19) gs_X7_122 (xw_rc hK hP (C := RX4) (T := TX4) (N := 3) (xw_o4 G) rfl) 4 hv_X4_share ⟨Nat.le_of_ble_eq_true rfl, Nat.le_of_ble_eq_true rfl⟩ rfl hl.1 (Nat.le_of_ble_eq_true rfl) rfl dX7_reckonedOf_44 ⟨Nat.zero_le _, Nat.zero_le _⟩ (fun H locs hP hS => ?_)
        obtain ⟨h0, h1⟩ := xw_s2 hf
        exact xw_iret hB hK hE hS hP hr hlk h0 h1 dX7_reckonedOf_47
  exact HH s.heap [] hP hS
def fX7_of (n : Nat) (a1 : Int32) (a2 : Int32) (w0 : xw_M) : Option (Int32 × xw_M) := xw_bp (fX5_has 1 a1 w0) (fun r1 => if r1 = 0 then some ((-10001 : Int32), w0) else if a2 = 0 then xw_bp (fX7_at (1 + 1) 6 a1 w0) (fun r4 => some (r4, w0)) else (if a2 = 1 then xw_bp (fX7_at (1 + 2) 6 a1 w0) (fun r7 => some (r7, w0)) else (if a2 = 2 then xw_bp (fX7_at (1 + 3) 6 a1 w0) (fun r10 => some (r10, w0)) else (if a2 = 3 then xw_bp (fX7_at (1 + 4) 6 a1 w0) (fun r13 => some (r13, w0)) else (if a2 = 4 then xw_bp (fX5_isAway 1 a1 w0) (fun r16 => if r16 = 0 then some ((0 : Int32), w0) else some ((1 : Int32), w0)) else (if a2 = 5 then xw_bp (fX7_at (1 + 5) 6 a1 w0) (fun r20 => some (r20, w0)) else (xw_b (fX7_reckonedOf n a1 a2 w0) (fun r23 w24 => some (r23, w24)))))))))
set_option maxHeartbeats 4000000 in
set_option maxRecDepth 100000 in
theorem kX7_of (l : Launch) (G : xw_G) (hG : xw_ok G) (n : Nat) (a1 : Int32) (a2 : Int32) (w0 : xw_M) (r0 : Int32) (wz : xw_M) (hf : fX7_of n a1 a2 w0 = some (r0, wz)) : xw_Ti l G yX7_of cX7_of 3 ((Option.some Jvm.ClassFile.FieldType.int)) (5) (164) [.ref (xw_ad G 0), .int a1, .int a2] w0 r0 wz := by
  unfold xw_Ti
  refine Met.ofW (cc := cX7_of) (maxL := 3) (ret := (Option.some Jvm.ClassFile.FieldType.int)) (by decide) rfl ?_
  intro p e s m args below meth c s₁ B hml hv
  obtain ⟨hargs, hP, hK, hE⟩ := hv
  have hx := B.exec
  have hb := B.bytes
  have hr := B.returns
  have hlk := B.notSynchronized
  have hB : CallFix p m c cX7_of 3 s args TB RX7 := ⟨hx, hb, hml, findClass_of_methodNamed B.named, fun q h => (atoms_spec (ws := Cond.code yX7_of cX7_of 3 ((Option.some Jvm.ClassFile.FieldType.int)) :: TB) B.pre) q (List.mem_cons_of_mem _ h)⟩
  have hS : va_S (xw_A G) s.heap s.heap [] := va_S.rf
  have hl := lv_entry [.ref (xw_ad G 0), .int a1, .int a2] (n := 3) (Nat.le_of_ble_eq_true rfl)
  rw [show entryFrame m args 3 = entryFrame m ([.ref (xw_ad G 0), .int a1, .int a2] : List Value).toArray 3 from by rw [hargs], lg_entry_eq]
  generalize (lg_sl [.ref (xw_ad G 0), .int a1, .int a2] ++ List.replicate (3 - (lg_sl [.ref (xw_ad G 0), .int a1, .int a2]).length) Slot.unset).toArray = ls at hl ⊢
  have hP : va_P (xw_D G) xw_cl (xw_W G w0) s.heap := hP
  have hl : lv_has ls 3 [(0, .ref (xw_ad G 0)), (1, .int a1), (2, .int a2)] := hl
  have HH : ∀ (H : Heap) (locs : List Loc) (hP : va_P (xw_D G) xw_cl (xw_W G w0) H) (hS : va_S (xw_A G) s.heap H locs), xw_Wi G p l e (xw_rm (5) (164)) s m args below meth c H locs r0 wz (F0 m 0 ls []) := by
    intro H locs hP hS
    unfold fX7_of at hf
    refine lv_aload_n hx hb dX7_of_0 rfl (lv_at hl 0 rfl) ?_
    refine xw_get hB hK hP (xw_o7 G) (C := RX7) (T := TX7) (N := 11) rfl TBi_X7 0 (by decide) tw_255 rfl rfl dX7_of_1 ?_
    refine lv_iload_n hx hb dX7_of_4 rfl (lv_at hl 1 rfl) ?_
    replace hf := xw_bp_e hf
    obtain ⟨r1, he2, hf⟩ := hf
    refine xw_Vi hB hK hE hS hP (As := [.int a1]) (rest := []) (kX5_has l G hG 1 a1 (Or.inl rfl) w0 _ he2) gs_X7_77 (xw_rc hK hP (C := RX5) (T := TX5) (N := 14) (xw_o5 G (Or.inl rfl)) rfl) 1 hv_X5_has ⟨Nat.le_of_ble_eq_true rfl, Nat.le_of_ble_eq_true rfl⟩ rfl hl.1 (Nat.le_of_ble_eq_true rfl) rfl dX7_of_5 ⟨Nat.zero_le _, Nat.zero_le _⟩ (fun H locs hP hS => ?_)
    refine lv_if_ne (tgt := 15) hx hb dX7_of_8 (by decide) (fun c3 => ?_) (fun c3 => ?_)
    · replace hf := xw_in' c3 hf
      refine lv_iload_n hx hb dX7_of_15 rfl (lv_at hl 2 rfl) ?_
      by_cases c6 : a2 = 0
      · refine lv_tableIn (off := 40) (tgt := 56) hx hb dX7_of_16 (by rw [c6]; decide) (by rw [c6]; decide) (by rw [c6]; rfl) (by decide) ?_
        replace hf := xw_ip c6 hf
        refine lv_aload_n hx hb dX7_of_56 rfl (lv_at hl 0 rfl) ?_
        refine xw_get hB hK hP (xw_o7 G) (C := RX7) (T := TX7) (N := 11) rfl TBi_X7 0 (by decide) tw_255 rfl rfl dX7_of_57 ?_
        refine xw_get hB hK hP (xw_o5 G (Or.inl rfl)) (C := RX5) (T := TX5) (N := 14) rfl TBi_X5 1 (by decide) tw_66 rfl rfl dX7_of_60 ?_
        refine lv_iload_n hx hb dX7_of_63 rfl (lv_at hl 1 rfl) ?_
        replace hf := xw_bp_e hf
        obtain ⟨r4, he5, hf⟩ := hf
        refine xw_Si hB hK hE hS hP (As := [.ref (xw_ad G (1 + 1)), .int a1]) (rest := []) (kX7_at l G hG (1 + 1) 6 a1 (xw_a5_1 G (Or.inl rfl)) w0 _ he5) tw_311 tw_313 tw_312 tw_1 2 hs_X7_at ⟨Nat.le_of_ble_eq_true rfl, Nat.le_of_ble_eq_true rfl⟩ rfl hl.1 (Nat.le_of_ble_eq_true rfl) rfl dX7_of_64 ⟨Nat.zero_le _, Nat.zero_le _⟩ (fun H locs hP hS => ?_)
        obtain ⟨h0, h1⟩ := xw_s2 hf
        exact xw_iret hB hK hE hS hP hr hlk h0 h1 dX7_of_67
      · replace hf := xw_in' c6 hf
        by_cases c9 : a2 = 1
        · refine lv_tableIn (off := 52) (tgt := 68) hx hb dX7_of_16 (by rw [c9]; decide) (by rw [c9]; decide) (by rw [c9]; rfl) (by decide) ?_
          replace hf := xw_ip c9 hf
          refine lv_aload_n hx hb dX7_of_68 rfl (lv_at hl 0 rfl) ?_
          refine xw_get hB hK hP (xw_o7 G) (C := RX7) (T := TX7) (N := 11) rfl TBi_X7 0 (by decide) tw_255 rfl rfl dX7_of_69 ?_
          refine xw_get hB hK hP (xw_o5 G (Or.inl rfl)) (C := RX5) (T := TX5) (N := 14) rfl TBi_X5 2 (by decide) tw_70 rfl rfl dX7_of_72 ?_
          refine lv_iload_n hx hb dX7_of_75 rfl (lv_at hl 1 rfl) ?_
          replace hf := xw_bp_e hf
          obtain ⟨r7, he8, hf⟩ := hf
          refine xw_Si hB hK hE hS hP (As := [.ref (xw_ad G (1 + 2)), .int a1]) (rest := []) (kX7_at l G hG (1 + 2) 6 a1 (xw_a5_2 G (Or.inl rfl)) w0 _ he8) tw_311 tw_313 tw_312 tw_1 2 hs_X7_at ⟨Nat.le_of_ble_eq_true rfl, Nat.le_of_ble_eq_true rfl⟩ rfl hl.1 (Nat.le_of_ble_eq_true rfl) rfl dX7_of_76 ⟨Nat.zero_le _, Nat.zero_le _⟩ (fun H locs hP hS => ?_)
          obtain ⟨h0, h1⟩ := xw_s2 hf
          exact xw_iret hB hK hE hS hP hr hlk h0 h1 dX7_of_79
        · replace hf := xw_in' c9 hf
          by_cases c12 : a2 = 2
          · refine lv_tableIn (off := 64) (tgt := 80) hx hb dX7_of_16 (by rw [c12]; decide) (by rw [c12]; decide) (by rw [c12]; rfl) (by decide) ?_
            replace hf := xw_ip c12 hf
            refine lv_aload_n hx hb dX7_of_80 rfl (lv_at hl 0 rfl) ?_
            refine xw_get hB hK hP (xw_o7 G) (C := RX7) (T := TX7) (N := 11) rfl TBi_X7 0 (by decide) tw_255 rfl rfl dX7_of_81 ?_
            refine xw_get hB hK hP (xw_o5 G (Or.inl rfl)) (C := RX5) (T := TX5) (N := 14) rfl TBi_X5 3 (by decide) tw_73 rfl rfl dX7_of_84 ?_
            refine lv_iload_n hx hb dX7_of_87 rfl (lv_at hl 1 rfl) ?_
            replace hf := xw_bp_e hf
            obtain ⟨r10, he11, hf⟩ := hf
            refine xw_Si hB hK hE hS hP (As := [.ref (xw_ad G (1 + 3)), .int a1]) (rest := []) (kX7_at l G hG (1 + 3) 6 a1 (xw_a5_3 G (Or.inl rfl)) w0 _ he11) tw_311 tw_313 tw_312 tw_1 2 hs_X7_at ⟨Nat.le_of_ble_eq_true rfl, Nat.le_of_ble_eq_true rfl⟩ rfl hl.1 (Nat.le_of_ble_eq_true rfl) rfl dX7_of_88 ⟨Nat.zero_le _, Nat.zero_le _⟩ (fun H locs hP hS => ?_)
            obtain ⟨h0, h1⟩ := xw_s2 hf
            exact xw_iret hB hK hE hS hP hr hlk h0 h1 dX7_of_91
          · replace hf := xw_in' c12 hf
            by_cases c15 : a2 = 3
            · refine lv_tableIn (off := 76) (tgt := 92) hx hb dX7_of_16 (by rw [c15]; decide) (by rw [c15]; decide) (by rw [c15]; rfl) (by decide) ?_
              replace hf := xw_ip c15 hf
              refine lv_aload_n hx hb dX7_of_92 rfl (lv_at hl 0 rfl) ?_
              refine xw_get hB hK hP (xw_o7 G) (C := RX7) (T := TX7) (N := 11) rfl TBi_X7 0 (by decide) tw_255 rfl rfl dX7_of_93 ?_
              refine xw_get hB hK hP (xw_o5 G (Or.inl rfl)) (C := RX5) (T := TX5) (N := 14) rfl TBi_X5 4 (by decide) tw_75 rfl rfl dX7_of_96 ?_
              refine lv_iload_n hx hb dX7_of_99 rfl (lv_at hl 1 rfl) ?_
              replace hf := xw_bp_e hf
              obtain ⟨r13, he14, hf⟩ := hf
              refine xw_Si hB hK hE hS hP (As := [.ref (xw_ad G (1 + 4)), .int a1]) (rest := []) (kX7_at l G hG (1 + 4) 6 a1 (xw_a5_4 G (Or.inl rfl)) w0 _ he14) tw_311 tw_313 tw_312 tw_1 2 hs_X7_at ⟨Nat.le_of_ble_eq_true rfl, Nat.le_of_ble_eq_true rfl⟩ rfl hl.1 (Nat.le_of_ble_eq_true rfl) rfl dX7_of_100 ⟨Nat.zero_le _, Nat.zero_le _⟩ (fun H locs hP hS => ?_)
              obtain ⟨h0, h1⟩ := xw_s2 hf
              exact xw_iret hB hK hE hS hP hr hlk h0 h1 dX7_of_103
            · replace hf := xw_in' c15 hf
              by_cases c19 : a2 = 4
              · refine lv_tableIn (off := 88) (tgt := 104) hx hb dX7_of_16 (by rw [c19]; decide) (by rw [c19]; decide) (by rw [c19]; rfl) (by decide) ?_
                replace hf := xw_ip c19 hf
                refine lv_aload_n hx hb dX7_of_104 rfl (lv_at hl 0 rfl) ?_
                refine xw_get hB hK hP (xw_o7 G) (C := RX7) (T := TX7) (N := 11) rfl TBi_X7 0 (by decide) tw_255 rfl rfl dX7_of_105 ?_
                refine lv_iload_n hx hb dX7_of_108 rfl (lv_at hl 1 rfl) ?_
                replace hf := xw_bp_e hf
                obtain ⟨r16, he17, hf⟩ := hf
                refine xw_Vi hB hK hE hS hP (As := [.int a1]) (rest := []) (kX5_isAway l G hG 1 a1 (Or.inl rfl) w0 _ he17) gs_X7_98 (xw_rc hK hP (C := RX5) (T := TX5) (N := 14) (xw_o5 G (Or.inl rfl)) rfl) 1 hv_X5_isAway ⟨Nat.le_of_ble_eq_true rfl, Nat.le_of_ble_eq_true rfl⟩ rfl hl.1 (Nat.le_of_ble_eq_true rfl) rfl dX7_of_109 ⟨Nat.zero_le _, Nat.zero_le _⟩ (fun H locs hP hS => ?_)
                refine lv_if_eq (tgt := 119) hx hb dX7_of_112 (by decide) (fun c18 => ?_) (fun c18 => ?_)
                · replace hf := xw_ip c18 hf
                  refine lv_iconst (v := 0) hx hb dX7_of_119 (by decide) ?_
                  obtain ⟨h0, h1⟩ := xw_s2 hf
                  exact xw_iret hB hK hE hS hP hr hlk h0 h1 dX7_of_120
                · replace hf := xw_in' c18 hf
                  refine lv_iconst (v := 1) hx hb dX7_of_115 (by decide) ?_
                  refine lv_goto (tgt := 120) hx hb dX7_of_116 (by decide) ?_
                  obtain ⟨h0, h1⟩ := xw_s2 hf
                  exact xw_iret hB hK hE hS hP hr hlk h0 h1 dX7_of_120
              · replace hf := xw_in' c19 hf
                by_cases c22 : a2 = 5
                · refine lv_tableIn (off := 105) (tgt := 121) hx hb dX7_of_16 (by rw [c22]; decide) (by rw [c22]; decide) (by rw [c22]; rfl) (by decide) ?_
                  replace hf := xw_ip c22 hf
                  refine lv_aload_n hx hb dX7_of_121 rfl (lv_at hl 0 rfl) ?_
                  refine xw_get hB hK hP (xw_o7 G) (C := RX7) (T := TX7) (N := 11) rfl TBi_X7 0 (by decide) tw_255 rfl rfl dX7_of_122 ?_
                  refine xw_get hB hK hP (xw_o5 G (Or.inl rfl)) (C := RX5) (T := TX5) (N := 14) rfl TBi_X5 5 (by decide) tw_78 rfl rfl dX7_of_125 ?_
                  refine lv_iload_n hx hb dX7_of_128 rfl (lv_at hl 1 rfl) ?_
                  replace hf := xw_bp_e hf
                  obtain ⟨r20, he21, hf⟩ := hf
                  refine xw_Si hB hK hE hS hP (As := [.ref (xw_ad G (1 + 5)), .int a1]) (rest := []) (kX7_at l G hG (1 + 5) 6 a1 (xw_a5_5 G (Or.inl rfl)) w0 _ he21) tw_311 tw_313 tw_312 tw_1 2 hs_X7_at ⟨Nat.le_of_ble_eq_true rfl, Nat.le_of_ble_eq_true rfl⟩ rfl hl.1 (Nat.le_of_ble_eq_true rfl) rfl dX7_of_129 ⟨Nat.zero_le _, Nat.zero_le _⟩ (fun H locs hP hS => ?_)
                  obtain ⟨h0, h1⟩ := xw_s2 hf
                  exact xw_iret hB hK hE hS hP hr hlk h0 h1 dX7_of_132
                · replace hf := xw_in' c22 hf
                  refine lv_tableOut (tgt := 133) hx hb dX7_of_16 (by have n0 := lv_neT c6 (by decide : (0 : Int32).toInt = 0); have n1 := lv_neT c9 (by decide : (1 : Int32).toInt = 1); have n2 := lv_neT c12 (by decide : (2 : Int32).toInt = 2); have n3 := lv_neT c15 (by decide : (3 : Int32).toInt = 3); have n4 := lv_neT c19 (by decide : (4 : Int32).toInt = 4); have n5 := lv_neT c22 (by decide : (5 : Int32).toInt = 5); omega) (by decide) ?_
                  refine lv_aload_n hx hb dX7_of_133 rfl (lv_at hl 0 rfl) ?_
                  refine lv_iload_n hx hb dX7_of_134 rfl (lv_at hl 1 rfl) ?_
                  refine lv_iload_n hx hb dX7_of_135 rfl (lv_at hl 2 rfl) ?_
                  replace hf := xw_b_e hf
                  obtain ⟨r23, w24, he25, hf⟩ := hf
                  refine xw_Vi hB hK hE hS hP (As := [.int a1, .int a2]) (rest := []) (kX7_reckonedOf l G hG n a1 a2 w0 _ _ he25) gs_X7_104 (xw_rc hK hP (C := RX7) (T := TX7) (N := 11) (xw_o7 G) rfl) 2 hv_X7_reckonedOf ⟨Nat.le_of_ble_eq_true rfl, Nat.le_of_ble_eq_true rfl⟩ rfl hl.1 (Nat.le_of_ble_eq_true rfl) rfl dX7_of_136 ⟨Nat.zero_le _, Nat.zero_le _⟩ (fun H locs hP hS => ?_)
                  obtain ⟨h0, h1⟩ := xw_s2 hf
                  exact xw_iret hB hK hE hS hP hr hlk h0 h1 dX7_of_139
    · replace hf := xw_ip c3 hf
      refine lv_sipush (v := (-10001)) hx hb dX7_of_11 (by decide) ?_
      obtain ⟨h0, h1⟩ := xw_s2 hf
      exact xw_iret hB hK hE hS hP hr hlk h0 h1 dX7_of_14
  exact HH s.heap [] hP hS
def fX7_set_63 (a1 : Int32) (a2 : Int32) (a3 : Int32) (v0 : Nat) (w : xw_M) : Option (Int32 × xw_M) := xw_bp (fX7_at v0 6 a1 w) (fun r12 => xw_b (fX7_put v0 6 a1 a3 w) (fun (_ : Unit) w15 => some (r12, w15)))
def fX7_set_33 (a1 : Int32) (a2 : Int32) (a3 : Int32) (v0 : Int32) (v1 : Int32) (w : xw_M) : Option (Int32 × xw_M) := xw_bp (fX7_within v0 v1) (fun r8 => if r8 = 0 then some ((-2 : Int32), w) else if a2 = 0 then fX7_set_63 a1 a2 a3 (1 + 3) w else fX7_set_63 a1 a2 a3 (1 + 4) w)
def fX7_set (a1 : Int32) (a2 : Int32) (a3 : Int32) (w0 : xw_M) : Option (Int32 × xw_M) := xw_bp (fX5_has 1 a1 w0) (fun r1 => if r1 = 0 then some ((-1 : Int32), w0) else xw_bp (fX7_within a2 (1 : Int32)) (fun r4 => if r4 = 0 then some ((-1 : Int32), w0) else if a2 = 0 then fX7_set_33 a1 a2 a3 a3 (20 : Int32) w0 else fX7_set_33 a1 a2 a3 a3 (9 : Int32) w0))
set_option maxHeartbeats 4000000 in
set_option maxRecDepth 100000 in
theorem kX7_set (l : Launch) (G : xw_G) (hG : xw_ok G) (a1 : Int32) (a2 : Int32) (a3 : Int32) (w0 : xw_M) (r0 : Int32) (wz : xw_M) (hf : fX7_set a1 a2 a3 w0 = some (r0, wz)) : xw_Ti l G yX7_set cX7_set 6 ((Option.some Jvm.ClassFile.FieldType.int)) (1) (22) [.ref (xw_ad G 0), .int a1, .int a2, .int a3] w0 r0 wz := by
  unfold xw_Ti
  refine Met.ofW (cc := cX7_set) (maxL := 6) (ret := (Option.some Jvm.ClassFile.FieldType.int)) (by decide) rfl ?_
  intro p e s m args below meth c s₁ B hml hv
  obtain ⟨hargs, hP, hK, hE⟩ := hv
  have hx := B.exec
  have hb := B.bytes
  have hr := B.returns
  have hlk := B.notSynchronized
  have hB : CallFix p m c cX7_set 6 s args TB RX7 := ⟨hx, hb, hml, findClass_of_methodNamed B.named, fun q h => (atoms_spec (ws := Cond.code yX7_set cX7_set 6 ((Option.some Jvm.ClassFile.FieldType.int)) :: TB) B.pre) q (List.mem_cons_of_mem _ h)⟩
  have hS : va_S (xw_A G) s.heap s.heap [] := va_S.rf
  have hl := lv_entry [.ref (xw_ad G 0), .int a1, .int a2, .int a3] (n := 6) (Nat.le_of_ble_eq_true rfl)
  rw [show entryFrame m args 6 = entryFrame m ([.ref (xw_ad G 0), .int a1, .int a2, .int a3] : List Value).toArray 6 from by rw [hargs], lg_entry_eq]
  generalize (lg_sl [.ref (xw_ad G 0), .int a1, .int a2, .int a3] ++ List.replicate (6 - (lg_sl [.ref (xw_ad G 0), .int a1, .int a2, .int a3]).length) Slot.unset).toArray = ls at hl ⊢
  have hP : va_P (xw_D G) xw_cl (xw_W G w0) s.heap := hP
  have hl : lv_has ls 6 [(0, .ref (xw_ad G 0)), (1, .int a1), (2, .int a2), (3, .int a3)] := hl
  have HH : ∀ (H : Heap) (locs : List Loc) (hP : va_P (xw_D G) xw_cl (xw_W G w0) H) (hS : va_S (xw_A G) s.heap H locs), xw_Wi G p l e (xw_rm (1) (22)) s m args below meth c H locs r0 wz (F0 m 0 ls []) := by
    intro H locs hP hS
    unfold fX7_set at hf
    have J63 : ∀ (v0 : Nat) (hv0 : xw_ia G 0 v0 6) (w : xw_M) (hf : fX7_set_63 a1 a2 a3 v0 w = some (r0, wz)) (H : Heap) (locs : List Loc) (ls : Array Slot) (hP : va_P (xw_D G) xw_cl (xw_W G w) H) (hS : va_S (xw_A G) s.heap H locs) (hl : lv_has ls 6 [(1, .int a1), (3, .int a3)]), xw_Wi G p l e (xw_rm (1) (22)) s m args below meth c H locs r0 wz (F0 m 63 ls [.ref (xw_ad G v0)]) := by
      intro v0 hv0 w hf H locs ls hP hS hl
      unfold fX7_set_63 at hf
      refine lv_astore (lv' := [(4, .ref (xw_ad G v0)), (1, .int a1), (3, .int a3)]) hx hb dX7_set_63 hl (by decide) rfl (fun ls hl => ?_)
      refine lv_aload hx hb dX7_set_65 (lv_at hl 0 rfl) ?_
      refine lv_iload_n hx hb dX7_set_67 rfl (lv_at hl 1 rfl) ?_
      replace hf := xw_bp_e hf
      obtain ⟨r12, he13, hf⟩ := hf
      refine xw_Si hB hK hE hS hP (As := [.ref (xw_ad G v0), .int a1]) (rest := []) (kX7_at l G hG v0 6 a1 hv0 w _ he13) tw_311 tw_313 tw_312 tw_1 2 hs_X7_at ⟨Nat.le_of_ble_eq_true rfl, Nat.le_of_ble_eq_true rfl⟩ rfl hl.1 (Nat.le_of_ble_eq_true rfl) rfl dX7_set_68 ⟨Nat.zero_le _, Nat.zero_le _⟩ (fun H locs hP hS => ?_)
      refine lv_istore (lv' := [(5, .int r12), (4, .ref (xw_ad G v0)), (1, .int a1), (3, .int a3)]) hx hb dX7_set_71 hl (by decide) rfl (fun ls hl => ?_)
      refine lv_aload hx hb dX7_set_73 (lv_at hl 1 rfl) ?_
      refine lv_iload_n hx hb dX7_set_75 rfl (lv_at hl 2 rfl) ?_
      refine lv_iload_n hx hb dX7_set_76 rfl (lv_at hl 3 rfl) ?_
      replace hf := xw_b_e hf
      obtain ⟨r14, w15, he16, hf⟩ := hf
      refine xw_Sv hB hK hE hS hP (As := [.ref (xw_ad G v0), .int a1, .int a3]) (rest := []) (kX7_put l G hG v0 6 a1 a3 hv0 w _ _ he16) tw_379 tw_302 tw_301 tw_1 3 hs_X7_put ⟨Nat.le_of_ble_eq_true rfl, Nat.le_of_ble_eq_true rfl⟩ rfl hl.1 (Nat.le_of_ble_eq_true rfl) rfl dX7_set_77 ⟨Nat.zero_le _, Nat.zero_le _⟩ (fun H locs hP hS => ?_)
      refine lv_iload hx hb dX7_set_80 (lv_at hl 0 rfl) ?_
      obtain ⟨h0, h1⟩ := xw_s2 hf
      exact xw_iret hB hK hE hS hP hr hlk h0 h1 dX7_set_82
    have J33 : ∀ (v0 : Int32) (v1 : Int32) (w : xw_M) (hf : fX7_set_33 a1 a2 a3 v0 v1 w = some (r0, wz)) (H : Heap) (locs : List Loc) (ls : Array Slot) (hP : va_P (xw_D G) xw_cl (xw_W G w) H) (hS : va_S (xw_A G) s.heap H locs) (hl : lv_has ls 6 [(0, .ref (xw_ad G 0)), (1, .int a1), (2, .int a2), (3, .int a3)]), xw_Wi G p l e (xw_rm (1) (22)) s m args below meth c H locs r0 wz (F0 m 33 ls [.int v1, .int v0]) := by
      intro v0 v1 w hf H locs ls hP hS hl
      unfold fX7_set_33 at hf
      replace hf := xw_bp_e hf
      obtain ⟨r8, he9, hf⟩ := hf
      refine xw_Si hB hK hE hS hP (As := [.int v0, .int v1]) (rest := []) (kX7_within l G hG v0 v1 w _ he9) tw_293 tw_295 tw_294 tw_1 2 hs_X7_within ⟨Nat.le_of_ble_eq_true rfl, Nat.le_of_ble_eq_true rfl⟩ rfl hl.1 (Nat.le_of_ble_eq_true rfl) rfl dX7_set_33 ⟨Nat.zero_le _, Nat.zero_le _⟩ (fun H locs hP hS => ?_)
      refine lv_if_ne (tgt := 42) hx hb dX7_set_36 (by decide) (fun c10 => ?_) (fun c10 => ?_)
      · replace hf := xw_in' c10 hf
        refine lv_iload_n hx hb dX7_set_42 rfl (lv_at hl 2 rfl) ?_
        refine lv_if_ne (tgt := 56) hx hb dX7_set_43 (by decide) (fun c11 => ?_) (fun c11 => ?_)
        · replace hf := xw_in' c11 hf
          refine lv_aload_n hx hb dX7_set_56 rfl (lv_at hl 0 rfl) ?_
          refine xw_get hB hK hP (xw_o7 G) (C := RX7) (T := TX7) (N := 11) rfl TBi_X7 0 (by decide) tw_255 rfl rfl dX7_set_57 ?_
          refine xw_get hB hK hP (xw_o5 G (Or.inl rfl)) (C := RX5) (T := TX5) (N := 14) rfl TBi_X5 4 (by decide) tw_75 rfl rfl dX7_set_60 ?_
          exact J63 (1 + 4) (xw_a5_4 G (Or.inl rfl)) w hf H locs ls hP hS (lv_sub hl [1, 3] rfl)
        · replace hf := xw_ip c11 hf
          refine lv_aload_n hx hb dX7_set_46 rfl (lv_at hl 0 rfl) ?_
          refine xw_get hB hK hP (xw_o7 G) (C := RX7) (T := TX7) (N := 11) rfl TBi_X7 0 (by decide) tw_255 rfl rfl dX7_set_47 ?_
          refine xw_get hB hK hP (xw_o5 G (Or.inl rfl)) (C := RX5) (T := TX5) (N := 14) rfl TBi_X5 3 (by decide) tw_73 rfl rfl dX7_set_50 ?_
          refine lv_goto (tgt := 63) hx hb dX7_set_53 (by decide) ?_
          exact J63 (1 + 3) (xw_a5_3 G (Or.inl rfl)) w hf H locs ls hP hS (lv_sub hl [1, 3] rfl)
      · replace hf := xw_ip c10 hf
        refine lv_bipush (v := (-2)) hx hb dX7_set_39 (by decide) ?_
        obtain ⟨h0, h1⟩ := xw_s2 hf
        exact xw_iret hB hK hE hS hP hr hlk h0 h1 dX7_set_41
    refine lv_aload_n hx hb dX7_set_0 rfl (lv_at hl 0 rfl) ?_
    refine xw_get hB hK hP (xw_o7 G) (C := RX7) (T := TX7) (N := 11) rfl TBi_X7 0 (by decide) tw_255 rfl rfl dX7_set_1 ?_
    refine lv_iload_n hx hb dX7_set_4 rfl (lv_at hl 1 rfl) ?_
    replace hf := xw_bp_e hf
    obtain ⟨r1, he2, hf⟩ := hf
    refine xw_Vi hB hK hE hS hP (As := [.int a1]) (rest := []) (kX5_has l G hG 1 a1 (Or.inl rfl) w0 _ he2) gs_X7_77 (xw_rc hK hP (C := RX5) (T := TX5) (N := 14) (xw_o5 G (Or.inl rfl)) rfl) 1 hv_X5_has ⟨Nat.le_of_ble_eq_true rfl, Nat.le_of_ble_eq_true rfl⟩ rfl hl.1 (Nat.le_of_ble_eq_true rfl) rfl dX7_set_5 ⟨Nat.zero_le _, Nat.zero_le _⟩ (fun H locs hP hS => ?_)
    refine lv_if_eq (tgt := 19) hx hb dX7_set_8 (by decide) (fun c3 => ?_) (fun c3 => ?_)
    · replace hf := xw_ip c3 hf
      refine lv_iconst (v := (-1)) hx hb dX7_set_19 (by decide) ?_
      obtain ⟨h0, h1⟩ := xw_s2 hf
      exact xw_iret hB hK hE hS hP hr hlk h0 h1 dX7_set_20
    · replace hf := xw_in' c3 hf
      refine lv_iload_n hx hb dX7_set_11 rfl (lv_at hl 2 rfl) ?_
      refine lv_iconst (v := 1) hx hb dX7_set_12 (by decide) ?_
      replace hf := xw_bp_e hf
      obtain ⟨r4, he5, hf⟩ := hf
      refine xw_Si hB hK hE hS hP (As := [.int a2, .int (1 : Int32)]) (rest := []) (kX7_within l G hG a2 (1 : Int32) w0 _ he5) tw_293 tw_295 tw_294 tw_1 2 hs_X7_within ⟨Nat.le_of_ble_eq_true rfl, Nat.le_of_ble_eq_true rfl⟩ rfl hl.1 (Nat.le_of_ble_eq_true rfl) rfl dX7_set_13 ⟨Nat.zero_le _, Nat.zero_le _⟩ (fun H locs hP hS => ?_)
      refine lv_if_ne (tgt := 21) hx hb dX7_set_16 (by decide) (fun c6 => ?_) (fun c6 => ?_)
      · replace hf := xw_in' c6 hf
        refine lv_iload_n hx hb dX7_set_21 rfl (lv_at hl 3 rfl) ?_
        refine lv_iload_n hx hb dX7_set_22 rfl (lv_at hl 2 rfl) ?_
        refine lv_if_ne (tgt := 31) hx hb dX7_set_23 (by decide) (fun c7 => ?_) (fun c7 => ?_)
        · replace hf := xw_in' c7 hf
          refine lv_bipush (v := 9) hx hb dX7_set_31 (by decide) ?_
          exact J33 a3 (9 : Int32) w0 hf H locs ls hP hS (lv_sub hl [0, 1, 2, 3] rfl)
        · replace hf := xw_ip c7 hf
          refine lv_bipush (v := 20) hx hb dX7_set_26 (by decide) ?_
          refine lv_goto (tgt := 33) hx hb dX7_set_28 (by decide) ?_
          exact J33 a3 (20 : Int32) w0 hf H locs ls hP hS (lv_sub hl [0, 1, 2, 3] rfl)
      · replace hf := xw_ip c6 hf
        refine lv_iconst (v := (-1)) hx hb dX7_set_19 (by decide) ?_
        obtain ⟨h0, h1⟩ := xw_s2 hf
        exact xw_iret hB hK hE hS hP hr hlk h0 h1 dX7_set_20
  exact HH s.heap [] hP hS
def fX5_send_26 (b : Nat) (a1 : Int32) (a2 : Int32) (v1 : Int32) (w : xw_M) : Option (Unit × xw_M) := xw_lt (xw_si w b 7 v1) (fun w2 => some ((), w2))
def fX5_send (b : Nat) (a1 : Int32) (a2 : Int32) (w0 : xw_M) : Option (Unit × xw_M) := if a2 = 0 then fX5_send_26 b a1 a2 ((w0.1 b 7) &&& (((1 : Int32) <<< (a1 &&& 31)) ^^^ (-1 : Int32))) w0 else fX5_send_26 b a1 a2 ((w0.1 b 7) ||| ((1 : Int32) <<< (a1 &&& 31))) w0
set_option maxHeartbeats 4000000 in
set_option maxRecDepth 100000 in
theorem kX5_send (l : Launch) (G : xw_G) (hG : xw_ok G) (b : Nat) (a1 : Int32) (a2 : Int32) (hb0 : xw_sc b) (w0 : xw_M) (r0 : Unit) (wz : xw_M) (hf : fX5_send b a1 a2 w0 = some (r0, wz)) : xw_Tv l G yX5_send cX5_send 3 ((Option.none : Option Jvm.ClassFile.FieldType)) (0) (0) [.ref (xw_ad G b), .int a1, .int a2] w0 r0 wz := by
  unfold xw_Tv
  refine Met.ofW (cc := cX5_send) (maxL := 3) (ret := (Option.none : Option Jvm.ClassFile.FieldType)) (by decide) rfl ?_
  intro p e s m args below meth c s₁ B hml hv
  obtain ⟨hargs, hP, hK, hE⟩ := hv
  have hx := B.exec
  have hb := B.bytes
  have hr := B.returns
  have hlk := B.notSynchronized
  have hB : CallFix p m c cX5_send 3 s args TB RX5 := ⟨hx, hb, hml, findClass_of_methodNamed B.named, fun q h => (atoms_spec (ws := Cond.code yX5_send cX5_send 3 ((Option.none : Option Jvm.ClassFile.FieldType)) :: TB) B.pre) q (List.mem_cons_of_mem _ h)⟩
  have hS : va_S (xw_A G) s.heap s.heap [] := va_S.rf
  have hl := lv_entry [.ref (xw_ad G b), .int a1, .int a2] (n := 3) (Nat.le_of_ble_eq_true rfl)
  rw [show entryFrame m args 3 = entryFrame m ([.ref (xw_ad G b), .int a1, .int a2] : List Value).toArray 3 from by rw [hargs], lg_entry_eq]
  generalize (lg_sl [.ref (xw_ad G b), .int a1, .int a2] ++ List.replicate (3 - (lg_sl [.ref (xw_ad G b), .int a1, .int a2]).length) Slot.unset).toArray = ls at hl ⊢
  have hP : va_P (xw_D G) xw_cl (xw_W G w0) s.heap := hP
  have hl : lv_has ls 3 [(0, .ref (xw_ad G b)), (1, .int a1), (2, .int a2)] := hl
  have HH : ∀ (H : Heap) (locs : List Loc) (hP : va_P (xw_D G) xw_cl (xw_W G w0) H) (hS : va_S (xw_A G) s.heap H locs), xw_Wv G p l e (xw_rm (0) (0)) s m args below meth c H locs r0 wz (F0 m 0 ls []) := by
    intro H locs hP hS
    unfold fX5_send at hf
    have J26 : ∀ (v1 : Int32) (w : xw_M) (hf : fX5_send_26 b a1 a2 v1 w = some (r0, wz)) (H : Heap) (locs : List Loc) (ls : Array Slot) (hP : va_P (xw_D G) xw_cl (xw_W G w) H) (hS : va_S (xw_A G) s.heap H locs) (hl : lv_has ls 3 []), xw_Wv G p l e (xw_rm (0) (0)) s m args below meth c H locs r0 wz (F0 m 26 ls [.int v1, .ref (xw_ad G b)]) := by
      intro v1 w hf H locs ls hP hS hl
      unfold fX5_send_26 at hf
      refine xw_put hG hB hK hS hP (x := v1) (xw_o5 G hb0) (C := RX5) (T := TX5) (N := 14) rfl TBi_X5 tyX5 tyX5_ok nmX5 7 (by decide) tw_83 rfl rfl rfl rfl rfl (Nat.le_of_ble_eq_true rfl) rfl dX5_send_26 (fun w2 ew2 H locs hP hS => ?_)
      replace hf := xw_lt_e ew2 hf
      obtain ⟨h0, h1⟩ := xw_s2 hf
      exact xw_vret hB hK hE hS hP hr hlk h1 dX5_send_29
    refine lv_aload_n hx hb dX5_send_0 rfl (lv_at hl 0 rfl) ?_
    refine lv_iload_n hx hb dX5_send_1 rfl (lv_at hl 2 rfl) ?_
    refine lv_if_eq (tgt := 16) hx hb dX5_send_2 (by decide) (fun c1 => ?_) (fun c1 => ?_)
    · replace hf := xw_ip c1 hf
      refine lv_aload_n hx hb dX5_send_16 rfl (lv_at hl 0 rfl) ?_
      refine xw_get hB hK hP (xw_o5 G hb0) (C := RX5) (T := TX5) (N := 14) rfl TBi_X5 7 (by decide) tw_83 rfl rfl dX5_send_17 ?_
      refine lv_iconst (v := 1) hx hb dX5_send_20 (by decide) ?_
      refine lv_iload_n hx hb dX5_send_21 rfl (lv_at hl 1 rfl) ?_
      refine lv_ishl hx hb dX5_send_22 ?_
      refine lv_iconst (v := (-1)) hx hb dX5_send_23 (by decide) ?_
      refine lv_ixor hx hb dX5_send_24 ?_
      refine lv_iand hx hb dX5_send_25 ?_
      exact J26 ((w0.1 b 7) &&& (((1 : Int32) <<< (a1 &&& 31)) ^^^ (-1 : Int32))) w0 hf H locs ls hP hS (lv_sub hl [] rfl)
    · replace hf := xw_in' c1 hf
      refine lv_aload_n hx hb dX5_send_5 rfl (lv_at hl 0 rfl) ?_
      refine xw_get hB hK hP (xw_o5 G hb0) (C := RX5) (T := TX5) (N := 14) rfl TBi_X5 7 (by decide) tw_83 rfl rfl dX5_send_6 ?_
      refine lv_iconst (v := 1) hx hb dX5_send_9 (by decide) ?_
      refine lv_iload_n hx hb dX5_send_10 rfl (lv_at hl 1 rfl) ?_
      refine lv_ishl hx hb dX5_send_11 ?_
      refine lv_ior hx hb dX5_send_12 ?_
      refine lv_goto (tgt := 26) hx hb dX5_send_13 (by decide) ?_
      exact J26 ((w0.1 b 7) ||| ((1 : Int32) <<< (a1 &&& 31))) w0 hf H locs ls hP hS (lv_sub hl [] rfl)
  exact HH s.heap [] hP hS
