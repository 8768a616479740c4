theorem tw_18 : Cond.instantiable RX7 (11 : Nat) ∈ TB := TB_in 68 (by decide +kernel) rfl
theorem tw_720 : Cond.instantiable RX8 (31 : Nat) ∈ TB := TB_in 770 (by decide +kernel) rfl
theorem tw_17 : Cond.classLink RL (7 : Nat) RX7 ∈ TB := TB_in 67 (by decide +kernel) rfl
theorem tw_19 : Cond.methodLink RL (9 : Nat) yX7_init ∈ TB := TB_in 69 (by decide +kernel) rfl
theorem tw_21 : Cond.code yX7_init cX7_init (2 : Nat) (Option.none : Option Jvm.ClassFile.FieldType) ∈ TB := TB_in 71 (by decide +kernel) rfl
theorem tw_20 : Cond.instanceMethod yX7_init ∈ TB := TB_in 70 (by decide +kernel) rfl
theorem tw_719 : Cond.classLink RL (10 : Nat) RX8 ∈ TB := TB_in 769 (by decide +kernel) rfl
theorem tw_721 : Cond.methodLink RL (12 : Nat) yX8_init ∈ TB := TB_in 771 (by decide +kernel) rfl
theorem tw_723 : Cond.code yX8_init cX8_init (1 : Nat) (Option.none : Option Jvm.ClassFile.FieldType) ∈ TB := TB_in 773 (by decide +kernel) rfl
theorem tw_722 : Cond.instanceMethod yX8_init ∈ TB := TB_in 772 (by decide +kernel) rfl
theorem xs_arr {ty : FieldType} {args : Array Value} {s : State} (h : (Cond.arrayClass ty).before args s = true) (hp : ∀ c, va_RA s c ty = (s.vm.findClass ("[" ++ ty.toString) = some c)) : ∃ c, ArrOfT s c ty ∧ va_RA s c ty := by
  obtain ⟨c, k, comp, h1, h2, h3⟩ := Cond.arrayClass_spec h
  exact ⟨c, fun n z => ⟨fun k h => (by cases h), k, h2, comp, h3⟩, by rw [hp]; exact h1⟩
theorem xs_over {C : String} {args : Array Value} {s : State} (h : (Cond.arrayOver (.object C)).before args s = true) : ∃ c, ArrOfT s c (.object C) ∧ va_RA s c (.object C) := by
  obtain ⟨comp, c, k, h1, h2, h3, h4, h5⟩ := Cond.arrayOver_spec h
  exact ⟨c, fun N z => ⟨(fun k h => by cases h), k, h3, comp, h4⟩, k, comp, h3, h4, h1, h5⟩
theorem xs_nl : ∀ q ∈ xw_NL, q ∈ lw_tbl := by decide +kernel
set_option maxHeartbeats 8000000 in
set_option maxRecDepth 100000 in
theorem xs_env {s : State} {b : Addr} (hts : ∀ w ∈ lw_tbl, w.before #[Value.ref b] s = true) (hgv : (Jvm.Cond.and given_1 narrow_1).before #[Value.ref b] s = true) : ∃ G : xw_G, xw_s0 G = s.heap.size ∧ va_K (xw_D G) xw_cl (xw_ty G) s ∧ xw_E G s s.heap ∧ (va_AO RX2 s ∧ va_AO RX6 s) := by
  have hs := flat_of_before _ hgv
  have hTB : ∀ w ∈ TB, w.before #[Value.ref b] s = true := fun w h => hts w (TB_tbl h)
  have hA : ∀ a : Nat, a < s.heap.size → ¬ (fun q : Nat => s.heap.size ≤ q) a := fun a h => Nat.not_le.mpr h
  obtain ⟨c0, i0, hKn0⟩ := u_known (ws := TB) (C := RX0) (T := TX0) (N := 5) (n := 5) hTB TBi_X0 (hTB _ tw_211)
  obtain ⟨c1, i1, hKn1⟩ := u_known (ws := TB) (C := RX1) (T := TX1) (N := 4) (n := 4) hTB TBi_X1 (hTB _ tw_32)
  obtain ⟨c2, i2, hKn2⟩ := u_known (ws := TB) (C := RX2) (T := TX2) (N := 8) (n := 8) hTB TBi_X2 (hTB _ tw_137)
  obtain ⟨c3, i3, hKn3⟩ := u_known (ws := TB) (C := RX3) (T := TX3) (N := 6) (n := 6) hTB TBi_X3 (hTB _ tw_131)
  obtain ⟨c4, i4, hKn4⟩ := u_known (ws := TB) (C := RX4) (T := TX4) (N := 3) (n := 3) hTB TBi_X4 (hTB _ tw_195)
  obtain ⟨c5, i5, hKn5⟩ := u_known (ws := TB) (C := RX5) (T := TX5) (N := 14) (n := 14) hTB TBi_X5 (hTB _ tw_26)
  obtain ⟨c6, i6, hKn6⟩ := u_known (ws := TB) (C := RX6) (T := TX6) (N := 3) (n := 3) hTB TBi_X6 (hTB _ tw_236)
  obtain ⟨c7, i7, hKn7⟩ := u_known (ws := TB) (C := RX7) (T := TX7) (N := 11) (n := 11) hTB TBi_X7 (hTB _ tw_18)
  obtain ⟨c8, i8, hKn8⟩ := u_known (ws := TB) (C := RX8) (T := TX8) (N := 31) (n := 31) hTB TBi_X8 (hTB _ tw_720)
  obtain ⟨dC, dI, hKc⟩ : ∃ (dC : Nat → ClassId) (dI : Nat → Nat → Nat), ∀ (k : Nat) (q : vw_C), xw_cl[k]? = some q → u_Kn s q.1 q.2.1 q.2.2 (dC k) (dI k) := by
    refine ⟨fun k => if k = 0 then c0 else if k = 1 then c1 else if k = 2 then c2 else if k = 3 then c3 else if k = 4 then c4 else if k = 5 then c5 else if k = 6 then c6 else if k = 7 then c7 else c8, fun k => if k = 0 then i0 else if k = 1 then i1 else if k = 2 then i2 else if k = 3 then i3 else if k = 4 then i4 else if k = 5 then i5 else if k = 6 then i6 else if k = 7 then i7 else i8, ?_⟩
    intro k q hq
    match k, hq with
    | 0, hq => cases hq; exact hKn0
    | 1, hq => cases hq; exact hKn1
    | 2, hq => cases hq; exact hKn2
    | 3, hq => cases hq; exact hKn3
    | 4, hq => cases hq; exact hKn4
    | 5, hq => cases hq; exact hKn5
    | 6, hq => cases hq; exact hKn6
    | 7, hq => cases hq; exact hKn7
    | 8, hq => cases hq; exact hKn8
    | k + 9, hq => simp at hq
  obtain ⟨q0, a0, b0⟩ := xs_arr (hts (.arrayClass .int) (List.mem_of_getElem? (i := 109) (by decide +kernel))) (fun _ => rfl)
  obtain ⟨q1, a1, b1⟩ := xs_arr (hts (.arrayClass .byte) (List.mem_of_getElem? (i := 219) (by decide +kernel))) (fun _ => rfl)
  obtain ⟨q2, a2, b2⟩ := xs_arr (hts (.arrayClass .char) (List.mem_of_getElem? (i := 872) (by decide +kernel))) (fun _ => rfl)
  obtain ⟨q3, a3, b3⟩ := xs_arr (hts (.arrayClass .long) (List.mem_of_getElem? (i := 304) (by decide +kernel))) (fun _ => rfl)
  have o4 : (Cond.arrayOver (.object RX2)).before #[Value.ref b] s = true := hts (.arrayOver (.object RX2)) (List.mem_of_getElem? (i := 242) (by decide +kernel))
  obtain ⟨q4, a4, b4⟩ := xs_over o4
  have o5 : (Cond.arrayOver (.object RX6)).before #[Value.ref b] s = true := hts (.arrayOver (.object RX6)) (List.mem_of_getElem? (i := 285) (by decide +kernel))
  obtain ⟨q5, a5, b5⟩ := xs_over o5
  obtain ⟨t0, ht0, hT0⟩ := va_Tof (args := #[Value.ref b]) (s := s) (tm := .static "FuneralDebts" "ABOVE" "[I") (ty := .int) (N := 7) (f := fun j => .int (xw_above j)) (A := fun q : Nat => s.heap.size ≤ q) (by decide) (hs _ (by decide +kernel)) (va_eqt (hs _ (by decide +kernel))) (fun j hj => by
    rcases (show j = 0 ∨ j = 1 ∨ j = 2 ∨ j = 3 ∨ j = 4 ∨ j = 5 ∨ j = 6 by omega) with rfl | rfl | rfl | rfl | rfl | rfl | rfl <;> exact va_eqt (hs _ (by decide +kernel))) hA
  have hZ0 := va_Zof (args := #[Value.ref b]) (s := s) (C := "FuneralDebts") (n := "ABOVE") (d := "[I") (A := fun q : Nat => s.heap.size ≤ q) (hts (.laysStatic "FuneralDebts" "ABOVE" "[I") (List.mem_of_getElem? (i := 719) (by decide +kernel))) (hTB _ tw_1) ht0 hA
  obtain ⟨t1, ht1, hT1⟩ := va_Tof (args := #[Value.ref b]) (s := s) (tm := .static "FuneralDebts$Actor" "BODY" "[I") (ty := .int) (N := 21) (f := fun j => .int (xw_body j)) (A := fun q : Nat => s.heap.size ≤ q) (by decide) (hs _ (by decide +kernel)) (va_eqt (hs _ (by decide +kernel))) (fun j hj => by
    rcases (show j = 0 ∨ j = 1 ∨ j = 2 ∨ j = 3 ∨ j = 4 ∨ j = 5 ∨ j = 6 ∨ j = 7 ∨ j = 8 ∨ j = 9 ∨ j = 10 ∨ j = 11 ∨ j = 12 ∨ j = 13 ∨ j = 14 ∨ j = 15 ∨ j = 16 ∨ j = 17 ∨ j = 18 ∨ j = 19 ∨ j = 20 by omega) with rfl | rfl | rfl | rfl | rfl | rfl | rfl | rfl | rfl | rfl | rfl | rfl | rfl | rfl | rfl | rfl | rfl | rfl | rfl | rfl | rfl <;> exact va_eqt (hs _ (by decide +kernel))) hA
  have hZ1 := va_Zof (args := #[Value.ref b]) (s := s) (C := "FuneralDebts$Actor") (n := "BODY") (d := "[I") (A := fun q : Nat => s.heap.size ≤ q) (hts (.laysStatic "FuneralDebts$Actor" "BODY" "[I") (List.mem_of_getElem? (i := 721) (by decide +kernel))) (hTB _ tw_8) ht1 hA
  have hZc := va_Zof (args := #[Value.ref b]) (s := s) (C := "java/lang/String") (n := "COMPACT_STRINGS") (d := "Z") (v := .int 1) (A := fun q : Nat => s.heap.size ≤ q) (hts (.laysStatic "java/lang/String" "COMPACT_STRINGS" "Z") (List.mem_of_getElem? (i := 490) (by decide +kernel))) (hTB _ tw_11) (va_eqi (hs _ (by decide +kernel))) hA
  have hZq := va_Zqof (args := #[Value.ref b]) (s := s) (C := "jdk/internal/util/Preconditions") (n := "SIOOBE_FORMATTER") (d := "Ljava/util/function/BiFunction;") (A := fun q : Nat => s.heap.size ≤ q) (hts (.laysStatic "jdk/internal/util/Preconditions" "SIOOBE_FORMATTER" "Ljava/util/function/BiFunction;") (List.mem_of_getElem? (i := 506) (by decide +kernel))) (hTB _ tw_13) (hs _ (by decide +kernel)) hA
  obtain ⟨adK, adV, hSS, hev⟩ := vk_Sof (args := #[Value.ref b]) (s := s) (N := 5) (tm := (fun i => .string "FuneralDebts$Reader" (([42, 44, 46, 61, 91] : List Nat).getD i 0))) (len := xw_slen) (byt := xw_sbyt) (A := fun q : Nat => s.heap.size ≤ q) (fun i hi => by rcases (show i = 0 ∨ i = 1 ∨ i = 2 ∨ i = 3 ∨ i = 4 by omega) with rfl | rfl | rfl | rfl | rfl <;> decide)
    (fun i hi => by rcases (show i = 0 ∨ i = 1 ∨ i = 2 ∨ i = 3 ∨ i = 4 by omega) with rfl | rfl | rfl | rfl | rfl <;> exact hs _ (by decide +kernel))
    (fun i hi => by rcases (show i = 0 ∨ i = 1 ∨ i = 2 ∨ i = 3 ∨ i = 4 by omega) with rfl | rfl | rfl | rfl | rfl <;> exact hs _ (by decide +kernel))
    (fun i hi => by rcases (show i = 0 ∨ i = 1 ∨ i = 2 ∨ i = 3 ∨ i = 4 by omega) with rfl | rfl | rfl | rfl | rfl <;> exact hs _ (by decide +kernel))
    (fun i hi => by rcases (show i = 0 ∨ i = 1 ∨ i = 2 ∨ i = 3 ∨ i = 4 by omega) with rfl | rfl | rfl | rfl | rfl <;> exact hs _ (by decide +kernel))
    (fun i hi j hj => by
      have hj6 : j < 6 := Nat.lt_of_lt_of_le hj (by rcases (show i = 0 ∨ i = 1 ∨ i = 2 ∨ i = 3 ∨ i = 4 by omega) with rfl | rfl | rfl | rfl | rfl <;> decide)
      rcases (show i = 0 ∨ i = 1 ∨ i = 2 ∨ i = 3 ∨ i = 4 by omega) with rfl | rfl | rfl | rfl | rfl <;> rcases (show j = 0 ∨ j = 1 ∨ j = 2 ∨ j = 3 ∨ j = 4 ∨ j = 5 by omega) with rfl | rfl | rfl | rfl | rfl | rfl <;> first | exact absurd hj (by decide) | exact hs _ (by decide +kernel))
    (fun i j hi hj hij => by
      rcases (show i = 0 ∨ i = 1 ∨ i = 2 ∨ i = 3 ∨ i = 4 by omega) with rfl | rfl | rfl | rfl | rfl <;> rcases (show j = 0 ∨ j = 1 ∨ j = 2 ∨ j = 3 ∨ j = 4 by omega) with rfl | rfl | rfl | rfl | rfl <;> first | exact absurd rfl hij | exact Or.inl (hs _ (by decide +kernel)) | exact Or.inr (hs _ (by decide +kernel))) hA
  refine ⟨((dC, dI), fun k => if k = 0 then q0 else if k = 1 then q1 else if k = 2 then q2 else if k = 3 then q3 else if k = 4 then q4 else q5, fun _ => 0, s.heap.size, fun k => if k = 0 then t0 else if k = 1 then t1 else if k < 20 then adK (k - 10) else adV (k - 20)), rfl, ⟨hKc, ?_⟩, ⟨⟨fun q hq => va_Nw.of (xw_NL_tab q hq) (hts q (xs_nl q hq)), vk_R.of (hts (.stringRef "FuneralDebts$Reader" 42 "yard ") (List.mem_of_getElem? (i := 474) (by decide +kernel))) (hev 0 (by decide)), vk_R.of (hts (.stringRef "FuneralDebts$Reader" 44 "less ") (List.mem_of_getElem? (i := 475) (by decide +kernel))) (hev 1 (by decide)), vk_R.of (hts (.stringRef "FuneralDebts$Reader" 46 "more ") (List.mem_of_getElem? (i := 476) (by decide +kernel))) (hev 2 (by decide)), vk_R.of (hts (.stringRef "FuneralDebts$Reader" 61 " ") (List.mem_of_getElem? (i := 533) (by decide +kernel))) (hev 3 (by decide)), vk_R.of (hts (.stringRef "FuneralDebts$Reader" 91 ")") (List.mem_of_getElem? (i := 554) (by decide +kernel))) (hev 4 (by decide))⟩, ⟨hZ0, hZ1, hT0, hT1, ?_, hZc, hZq⟩, Nat.le_refl _⟩, va_AO.of o4, va_AO.of o5⟩
  · intro k q hq
    match k, hq with
    | 0, hq => cases hq; exact ⟨a0, b0⟩
    | 1, hq => cases hq; exact ⟨a1, b1⟩
    | 2, hq => cases hq; exact ⟨a2, b2⟩
    | 3, hq => cases hq; exact ⟨a3, b3⟩
    | 4, hq => cases hq; exact ⟨a4, b4⟩
    | 5, hq => cases hq; exact ⟨a5, b5⟩
    | k + 6, hq => simp at hq
  · refine ⟨fun i hi => ?_, fun i j hi hj => ?_⟩
    · rcases (show i = 0 ∨ i = 1 ∨ i = 2 ∨ i = 3 ∨ i = 4 by omega) with rfl | rfl | rfl | rfl | rfl
      · exact hSS.1 0 (by decide)
      · exact hSS.1 1 (by decide)
      · exact hSS.1 2 (by decide)
      · exact hSS.1 3 (by decide)
      · exact hSS.1 4 (by decide)
    · have h1 := hSS.2 i j hi hj
      rcases (show i = 0 ∨ i = 1 ∨ i = 2 ∨ i = 3 ∨ i = 4 by omega) with rfl | rfl | rfl | rfl | rfl <;> rcases (show j = 0 ∨ j = 1 ∨ j = 2 ∨ j = 3 ∨ j = 4 by omega) with rfl | rfl | rfl | rfl | rfl <;> exact h1
theorem xs_rr (q q' : Nat → Nat) (a d : Nat) (hd : a + d * 5 < 119) : (fun i => if i < 6 then some (q (a + d * i)) else none) = (fun i => if i < 6 then some ((fun j => if j < 119 then q j else q' j) (a + d * i)) else none) := by
  funext i
  by_cases hi : i < 6
  · rw [if_pos hi, if_pos hi]
    have h1 : d * i ≤ d * 5 := Nat.mul_le_mul_left d (by omega)
    show some (q (a + d * i)) = some (if a + d * i < 119 then _ else _)
    rw [if_pos (by omega)]
  · rw [if_neg hi, if_neg hi]
set_option maxHeartbeats 8000000 in
set_option maxRecDepth 100000 in
theorem xs_cong (G : xw_G) {q q' : Nat → Nat} (h : ∀ j, j < 119 → q j = q' j) : ∀ k, k < 119 → xw_cell (xn_G G q) k (xn_m0.1 k) (xn_m0.2 k) = xw_cell (xn_G G q') k (xn_m0.1 k) (xn_m0.2 k) := by
  have e : q' = fun j => if j < 119 then q j else q' j := by
    funext j
    by_cases hj : j < 119
    · rw [if_pos hj, h j hj]
    · rw [if_neg hj]
  intro k hk
  rw [e]
  rcases (show k = 0 ∨ k = 1 ∨ k = 2 ∨ k = 3 ∨ k = 4 ∨ k = 5 ∨ k = 6 ∨ k = 7 ∨ k = 8 ∨ k = 9 ∨ k = 10 ∨ k = 11 ∨ k = 12 ∨ k = 13 ∨ k = 14 ∨ k = 15 ∨ k = 16 ∨ k = 17 ∨ k = 18 ∨ k = 19 ∨ k = 20 ∨ k = 21 ∨ k = 22 ∨ k = 23 ∨ k = 24 ∨ k = 25 ∨ k = 26 ∨ k = 27 ∨ k = 28 ∨ k = 29 ∨ k = 30 ∨ k = 31 ∨ k = 32 ∨ k = 33 ∨ k = 34 ∨ k = 35 ∨ k = 36 ∨ k = 37 ∨ k = 38 ∨ k = 39 ∨ k = 40 ∨ k = 41 ∨ k = 42 ∨ k = 43 ∨ k = 44 ∨ k = 45 ∨ k = 46 ∨ k = 47 ∨ k = 48 ∨ k = 49 ∨ k = 50 ∨ k = 51 ∨ k = 52 ∨ k = 53 ∨ k = 54 ∨ k = 55 ∨ k = 56 ∨ k = 57 ∨ k = 58 ∨ k = 59 ∨ k = 60 ∨ k = 61 ∨ k = 62 ∨ k = 63 ∨ k = 64 ∨ k = 65 ∨ k = 66 ∨ k = 67 ∨ k = 68 ∨ k = 69 ∨ k = 70 ∨ k = 71 ∨ k = 72 ∨ k = 73 ∨ k = 74 ∨ k = 75 ∨ k = 76 ∨ k = 77 ∨ k = 78 ∨ k = 79 ∨ k = 80 ∨ k = 81 ∨ k = 82 ∨ k = 83 ∨ k = 84 ∨ k = 85 ∨ k = 86 ∨ k = 87 ∨ k = 88 ∨ k = 89 ∨ k = 90 ∨ k = 91 ∨ k = 92 ∨ k = 93 ∨ k = 94 ∨ k = 95 ∨ k = 96 ∨ k = 97 ∨ k = 98 ∨ k = 99 ∨ k = 100 ∨ k = 101 ∨ k = 102 ∨ k = 103 ∨ k = 104 ∨ k = 105 ∨ k = 106 ∨ k = 107 ∨ k = 108 ∨ k = 109 ∨ k = 110 ∨ k = 111 ∨ k = 112 ∨ k = 113 ∨ k = 114 ∨ k = 115 ∨ k = 116 ∨ k = 117 ∨ k = 118 by omega) with rfl | rfl | rfl | rfl | rfl | rfl | rfl | rfl | rfl | rfl | rfl | rfl | rfl | rfl | rfl | rfl | rfl | rfl | rfl | rfl | rfl | rfl | rfl | rfl | rfl | rfl | rfl | rfl | rfl | rfl | rfl | rfl | rfl | rfl | rfl | rfl | rfl | rfl | rfl | rfl | rfl | rfl | rfl | rfl | rfl | rfl | rfl | rfl | rfl | rfl | rfl | rfl | rfl | rfl | rfl | rfl | rfl | rfl | rfl | rfl | rfl | rfl | rfl | rfl | rfl | rfl | rfl | rfl | rfl | rfl | rfl | rfl | rfl | rfl | rfl | rfl | rfl | rfl | rfl | rfl | rfl | rfl | rfl | rfl | rfl | rfl | rfl | rfl | rfl | rfl | rfl | rfl | rfl | rfl | rfl | rfl | rfl | rfl | rfl | rfl | rfl | rfl | rfl | rfl | rfl | rfl | rfl | rfl | rfl | rfl | rfl | rfl | rfl | rfl | rfl | rfl | rfl | rfl | rfl <;> first
    | rfl
    | exact congrArg (fun r => (.inl (xw_q G 4, 6, .inr (.inr (.inr (.inr r)))) : va_E)) (xs_rr q q' 71 6 (by decide))
    | exact congrArg (fun r => (.inl (xw_q G 5, 6, .inr (.inr (.inr (.inr r)))) : va_E)) (xs_rr q q' 107 2 (by decide))
theorem va_xE {G : xw_G} {s : State} {H : Heap} (h : xw_E G s H) : xw_Ev G s := h.1
theorem hi_X7_init : yX7_init.cls ≠ "java/lang/invoke/MethodHandle" ∧ yX7_init.cls ≠ "java/lang/invoke/VarHandle" ∧ (parseMethodDescriptor yX7_init.desc).map (fun d => d.parameters.length) = some 0 := by decide +kernel
theorem hi_X8_init : yX8_init.cls ≠ "java/lang/invoke/MethodHandle" ∧ yX8_init.cls ≠ "java/lang/invoke/VarHandle" ∧ (parseMethodDescriptor yX8_init.desc).map (fun d => d.parameters.length) = some 0 := by decide +kernel
set_option maxHeartbeats 8000000 in
set_option maxRecDepth 100000 in
theorem start_open {p : Program} {e : Env} {s : State} {m : MethodId} {below : List Frame} {meth : Method} {c : Code} (l : Launch) (n : Nat) (Rel : xw_M → Prop) (hst : xs_all n Rel) (hR0 : Rel xn_m0) {b L : Nat} {xs : Nat → Int32} (hL : L ≤ 3072) (C0 : lw_At p s m meth c b L xs) : W p l e room_1 s m #[Value.ref b] below meth c s.heap [] 0 0 (lw_Z below #[Value.ref b] s) (entryFrame m ([Value.ref b] : List Value).toArray 4) := by
  obtain ⟨hx, hb, hr, hml, hown, hts, hX, hbl, hlocks, hgv⟩ := id C0
  obtain ⟨G, hs0, hK, hE, hO⟩ := xs_env hts hgv
  have hB : CallFix p m c code 4 s #[Value.ref b] TB RL := ⟨hx, hb, hml, hown, fun w h => hts w (TB_tbl h)⟩
  have h0 : xw_s0 G ≤ s.heap.size := by rw [hs0]; exact Nat.le_refl _
  have hS : va_S (xw_A G) s.heap s.heap [] := va_S.rf
  obtain ⟨P0, -⟩ : ∃ P : Nat → Nat × va_E, True := ⟨fun _ => (0, .inr (0, [])), trivial⟩
  have hP : va_P (xw_D G) xw_cl (xn_W 0 P0) s.heap := fun k q h => by simp [xn_W] at h
  have hD : va_D (xw_A G) (xn_W 0 P0) := ⟨fun i j p q h => by simp [xn_W] at h, fun k q h => by simp [xn_W] at h⟩
  have hl := lv_entry ([.ref b]) (n := 4) (Nat.le_of_ble_eq_true rfl)
  rw [lg_entry_eq]
  generalize (lg_sl ([.ref b]) ++ List.replicate (4 - (lg_sl ([.ref b])).length) Slot.unset).toArray = ls at hl ⊢
  have hl : lv_has ls 4 [(0, .ref b)] := hl
  refine xn_new hB hK h0 hS hP hD (ci := 7) (C := RX7) (T := TX7) (Nf := 11) (fs := [.null, .null, .null, .int 0, .null, .null, .int 0, .null, .null, .null, .null]) rfl TBi_X7 tyX7 tyX7_ok tw_17 tw_18 tw_1 (fun j hj => by rcases (show j = 0 ∨ j = 1 ∨ j = 2 ∨ j = 3 ∨ j = 4 ∨ j = 5 ∨ j = 6 ∨ j = 7 ∨ j = 8 ∨ j = 9 ∨ j = 10 by omega) with rfl | rfl | rfl | rfl | rfl | rfl | rfl | rfl | rfl | rfl | rfl <;> rfl) (Nat.le_of_ble_eq_true rfl) (Nat.le_of_ble_eq_true rfl) dL_law_0 (fun qa Pqa ePqa H hP hD hS => ?_)
  refine lv_dup hx hb dL_law_3 rfl ?_
  refine xn_cI hB hK h0 hS hP hD (va_xE hE) hO (As := []) (rest := [.ref qa]) (iX7_0 l G Pqa qa (by rw [ePqa, va_up_self])) tw_19 tw_21 tw_20 tw_1 rfl 0 hi_X7_init ⟨Nat.le_of_ble_eq_true rfl, Nat.le_of_ble_eq_true rfl⟩ rfl hl.1 (Nat.le_of_ble_eq_true rfl) rfl dL_law_4 ⟨Nat.le_of_ble_eq_true rfl, Nat.le_of_ble_eq_true rfl⟩ (fun PA hA1 H locs hP hD hS => ?_)
  obtain ⟨qA, -, hAa, hAc⟩ := hA1
  refine lv_astore_n (lv' := [(1, .ref qa), (0, .ref b)]) hx hb dL_law_7 rfl hl (by decide) rfl (fun ls hl => ?_)
  refine xn_new hB hK h0 hS hP hD (ci := 8) (C := RX8) (T := TX8) (Nf := 31) (fs := [.null, .null, .null, .int 0, .null, .int 0, .null, .null, .int 0, .null, .int 0, .int 0, .int 0, .int 0, .int 0, .int 0, .null, .null, .null, .null, .null, .null, .null, .null, .null, .null, .int 0, .null, .null, .null, .null]) rfl TBi_X8 tyX8 tyX8_ok tw_719 tw_720 tw_10 (fun j hj => by rcases (show j = 0 ∨ j = 1 ∨ j = 2 ∨ j = 3 ∨ j = 4 ∨ j = 5 ∨ j = 6 ∨ j = 7 ∨ j = 8 ∨ j = 9 ∨ j = 10 ∨ j = 11 ∨ j = 12 ∨ j = 13 ∨ j = 14 ∨ j = 15 ∨ j = 16 ∨ j = 17 ∨ j = 18 ∨ j = 19 ∨ j = 20 ∨ j = 21 ∨ j = 22 ∨ j = 23 ∨ j = 24 ∨ j = 25 ∨ j = 26 ∨ j = 27 ∨ j = 28 ∨ j = 29 ∨ j = 30 by omega) with rfl | rfl | rfl | rfl | rfl | rfl | rfl | rfl | rfl | rfl | rfl | rfl | rfl | rfl | rfl | rfl | rfl | rfl | rfl | rfl | rfl | rfl | rfl | rfl | rfl | rfl | rfl | rfl | rfl | rfl | rfl <;> rfl) (Nat.le_of_ble_eq_true rfl) (Nat.le_of_ble_eq_true rfl) dL_law_8 (fun qb Pqb ePqb H hP hD hS => ?_)
  refine lv_dup hx hb dL_law_11 rfl ?_
  refine xn_cI hB hK h0 hS hP hD (va_xE hE) hO (As := []) (rest := [.ref qb]) (iX8_119 l G Pqb qb (by rw [ePqb, va_up_self])) tw_721 tw_723 tw_722 tw_10 rfl 0 hi_X8_init ⟨Nat.le_of_ble_eq_true rfl, Nat.le_of_ble_eq_true rfl⟩ rfl hl.1 (Nat.le_of_ble_eq_true rfl) rfl dL_law_12 ⟨Nat.le_of_ble_eq_true rfl, Nat.le_of_ble_eq_true rfl⟩ (fun PB hB1 H locs hP hD hS => ?_)
  obtain ⟨qB, hBl, hBa, hBc⟩ := hB1
  refine lv_astore_n (lv' := [(2, .ref qb), (1, .ref qa), (0, .ref b)]) hx hb dL_law_15 rfl hl (by decide) rfl (fun ls hl => ?_)
  have hlow : ∀ k, k < 119 → PB k = (qA k, xw_cell (xn_G G qA) k (xn_m0.1 k) (xn_m0.2 k)) ∧ qB k = qA k := by
    intro k hk
    have h1 := hBl k hk
    have h2 : Pqb k = PA k := by rw [ePqb, va_up_ne _ _ (by omega)]
    rw [h2, hAc k (Nat.zero_le _) hk] at h1
    exact h1
  have hall : ∀ k, k < 141 → PB k = (qB k, xw_cell (xn_G G qB) k (xn_m0.1 k) (xn_m0.2 k)) := by
    intro k hk
    by_cases h : k < 119
    · rw [(hlow k h).1, (hlow k h).2, xs_cong G (fun j hj => ((hlow j hj).2).symm) k h]
    · exact hBc k (by omega) hk
  have hPw : va_P (xw_D (xn_G G qB)) xw_cl (xw_W (xn_G G qB) xn_m0) H := by
    intro k z hz
    by_cases h : k < 141
    · rw [xw_at _ _ h] at hz
      cases hz
      have := hP k _ (xn_at h)
      rw [hall k h] at this
      exact this
    · have h1 : (xw_W (xn_G G qB) xn_m0)[k]? = none := by simp [xw_W]; omega
      rw [h1] at hz
      cases hz
  have hG : xw_ok (xn_G G qB) := by
    refine ⟨fun i j hi hj he => hD.1 i j _ _ (xn_at hi) (xn_at hj) (by rw [hall i hi, hall j hj]; exact he), fun i hi => ?_⟩
    have := hD.2 i _ (xn_at hi)
    rw [hall i hi] at this
    exact this
  refine lv_iconst (v := 0) hx hb dL_law_16 (by decide) ?_
  refine lv_istore_n (lv' := [(3, .int 0), (2, .ref qb), (1, .ref qa), (0, .ref b)]) hx hb dL_law_17 rfl hl (by decide) rfl (fun ls hl => ?_)
  have ha : qa = xw_ad (xn_G G qB) 0 := by show qa = qB 0; rw [(hlow 0 (by decide)).2, hAa]
  have hb2 : qb = xw_ad (xn_G G qB) 119 := hBa.symm
  have hl : lv_has ls 4 [(0, .ref b), (1, .ref (xw_ad (xn_G G qB) 0)), (2, .ref (xw_ad (xn_G G qB) 119)), (3, .int (nI 0))] := by rw [← ha, ← hb2]; exact lv_sub hl [3, 2, 1, 0] rfl
  exact law_loop (G := xn_G G qB) hG hB hr hlocks hK hE (fun q h => by have h : xw_s0 G ≤ q := h; rw [hs0] at h; exact h) hX hbl hL n Rel hst (L + 1) 0 xn_m0 (by omega) hR0 H locs ls hPw hS hl (by omega)
