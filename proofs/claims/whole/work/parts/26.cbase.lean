/-! ===== the growing world ===== -/
def xn_W (N : Nat) (P : Nat → Nat × va_E) : va_W := (List.range N).map P
theorem xn_at {N : Nat} {P : Nat → Nat × va_E} {k : Nat} (hk : k < N) : (xn_W N P)[k]? = some (P k) := by simp [xn_W, hk]
theorem xn_push (N : Nat) (P : Nat → Nat × va_E) (z : Nat × va_E) : xn_W N P ++ [z] = xn_W (N + 1) (va_up P N z) := by
  unfold xn_W
  rw [List.range_succ, List.map_append]
  congr 1
  · refine List.map_congr_left (fun k hk => ?_)
    have := List.mem_range.mp hk
    exact (va_up_ne P z (by omega)).symm
  · simp [va_up_self]
theorem xn_set {N : Nat} {P : Nat → Nat × va_E} {k : Nat} (z : Nat × va_E) (hk : k < N) : (xn_W N P).set k z = xn_W N (va_up P k z) := by
  refine List.ext_getElem? (fun i => ?_)
  rw [List.getElem?_set]
  by_cases hi : i < N
  · by_cases e : k = i
    · subst e
      rw [if_pos rfl, if_pos (by simp [xn_W, hi]), xn_at hi, va_up_self]
    · rw [if_neg e, xn_at hi, xn_at hi, va_up_ne _ _ (fun q => e q.symm)]
  · have h1 : (xn_W N P)[i]? = none := by simp [xn_W]; omega
    have h2 : (xn_W N (va_up P k z))[i]? = none := by simp [xn_W]; omega
    rw [if_neg (by omega), h1, h2]
theorem xn_last {N : Nat} {P : Nat → Nat × va_E} {D : va_G} {cl : List vw_C} {H : Heap} (h : va_P D cl (xn_W N P) H) {k : Nat} (hk : k < N) : va_at D cl (P k) H := h k _ (xn_at hk)
abbrev xn_G (G : xw_G) (q : Nat → Nat) : xw_G := (G.1, G.2.1, q, G.2.2.2.1, G.2.2.2.2)
def xn_In (G : xw_G) (N : Nat) (P : Nat → Nat × va_E) (U : State) : Prop := va_P (xw_D G) xw_cl (xn_W N P) U.heap ∧ va_K (xw_D G) xw_cl (xw_ty G) U ∧ va_D (xw_A G) (xn_W N P) ∧ xw_Ev G U ∧ (va_AO RX2 U ∧ va_AO RX6 U) ∧ xw_s0 G ≤ U.heap.size
theorem va_AO.same {C : String} {u U : State} (hv : u.vm = U.vm) (h : va_AO C u) : va_AO C U := va_AO.moved (by rw [hv]; exact Vm.Alike.refl U.vm) h
theorem xn_in {G : xw_G} {N : Nat} {P : Nat → Nat × va_E} {s U : State} {H : Heap} {locs : List Loc} (hK : va_K (xw_D G) xw_cl (xw_ty G) s) (hE : xw_Ev G s) (hO : va_AO RX2 s ∧ va_AO RX6 s) (h0 : xw_s0 G ≤ s.heap.size) (hS : va_S (xw_A G) s.heap H locs) (hP : va_P (xw_D G) xw_cl (xn_W N P) H) (hD : va_D (xw_A G) (xn_W N P)) (hU : U.heap = H) (hW : s.WarmedH U.vm) : xn_In G N P U := by
  subst hU
  exact ⟨hP, va_K.moved hW.alike hK, hD, hE.warm hW, ⟨hO.1.moved hW.alike, hO.2.moved hW.alike⟩, Nat.le_trans h0 hS.1⟩
theorem xn_blind (G : xw_G) (N : Nat) (P : Nat → Nat × va_E) (av : List Value) : FrameBlind (va_Pc av (xn_In G N P)) := by
  intro a U g mk h
  exact ⟨h.1, h.2.1, va_K.moved (u := U) (U := U.calling g mk a) (Vm.Alike.refl U.vm) h.2.2.1, h.2.2.2.1, xw_Ev.same (u := U) (U := U.calling g mk a) rfl h.2.2.2.2.1, ⟨va_AO.moved (u := U) (U := U.calling g mk a) (Vm.Alike.refl U.vm) h.2.2.2.2.2.1.1, va_AO.moved (u := U) (U := U.calling g mk a) (Vm.Alike.refl U.vm) h.2.2.2.2.2.1.2⟩, h.2.2.2.2.2.2⟩
def xn_T (l : Launch) (G : xw_G) (y : MethodName) (cy : ByteArray) (ny fr lo mc ms : Nat) (av : List Value) (N : Nat) (P : Nat → Nat × va_E) (N' : Nat) (post : (Nat → Nat × va_E) → Prop) : Prop := Met l y (.code y cy ny none :: TB) { frames := fr, cells := mc, slots := ms, locals := lo } (va_Pc av (xn_In G N P)) (va_Qv post (fun u t => xn_In G N' u t) (xw_A G)) mc ms (xw_A G)
theorem xn_r6 (f : Nat → Nat) (a0 a1 a2 a3 a4 a5 : Nat) (h0 : f 0 = a0) (h1 : f 1 = a1) (h2 : f 2 = a2) (h3 : f 3 = a3) (h4 : f 4 = a4) (h5 : f 5 = a5) : va_up (va_up (va_up (va_up (va_up (va_up (fun _ => (none : Option Nat)) 0 (some a0)) 1 (some a1)) 2 (some a2)) 3 (some a3)) 4 (some a4)) 5 (some a5) = fun i => if i < 6 then some (f i) else none := by
  subst h0; subst h1; subst h2; subst h3; subst h4; subst h5
  funext i
  by_cases hi : i < 6
  · rw [if_pos hi]
    rcases (show i = 0 ∨ i = 1 ∨ i = 2 ∨ i = 3 ∨ i = 4 ∨ i = 5 by omega) with rfl | rfl | rfl | rfl | rfl | rfl <;> rfl
  · rw [if_neg hi, va_up_ne _ _ (by omega), va_up_ne _ _ (by omega), va_up_ne _ _ (by omega), va_up_ne _ _ (by omega), va_up_ne _ _ (by omega), va_up_ne _ _ (by omega)]
section XN
variable {p : Program} {l : Launch} {e : Env} {R : Room} {s : State} {m : MethodId} {args : Array Value} {below : List Frame} {meth : Method} {c : Code} {H : Heap} {locs : List Loc} {cells slots : Nat} {Q : State → Prop}
variable {cc : ByteArray} {pc nL : Nat} {ls : Array Slot} {rest st0 : List Value} {own : String} {G : xw_G} {N : Nat} {P : Nat → Nat × va_E}
theorem xn_hA (h0 : xw_s0 G ≤ s.heap.size) : ∀ q, s.heap.size ≤ q → xw_A G q := fun q h => Nat.le_trans h0 h
theorem xn_new (hB : CallFix p m c cc nL s args TB own) (hK : va_K (xw_D G) xw_cl (xw_ty G) s) (h0 : xw_s0 G ≤ s.heap.size) (hS : va_S (xw_A G) s.heap H locs) (hP : va_P (xw_D G) xw_cl (xn_W N P) H) (hD : va_D (xw_A G) (xn_W N P)) {ci index Nf : Nat} {C : String} {T : u_T} {fs : List Value} (hc : xw_cl[ci]? = some (C, T, Nf)) (hin : ∀ w ∈ u_ws C T Nf, w ∈ TB) (ty : Nat → FieldType) (hty : ∀ k, k < Nf → parseFieldDescriptor (T k).2.2.1 = some (ty k)) (h1 : Cond.classLink own index C ∈ TB) (h2 : Cond.instantiable C Nf ∈ TB) (h3 : Cond.initialized C ∈ TB) (hfs : ∀ j, j < Nf → defaultValue (ty j) = vp_V fs j) (hcells : cells + 1 ≤ R.cells) (hslots : slots + Nf ≤ R.slots) (hdg : decode cc pc = .ok (.new index, 3))
    (kk : ∀ (q : Nat) (P1 : Nat → Nat × va_E), P1 = va_up P N (q, .inr (ci, fs)) → ∀ H1 : Heap, va_P (xw_D G) xw_cl (xn_W (N + 1) P1) H1 → va_D (xw_A G) (xn_W (N + 1) P1) → va_S (xw_A G) s.heap H1 locs → W p l e R s m args below meth c H1 locs (cells + 1) (slots + Nf) Q (F0 m (pc + 3) ls (.ref q :: rest))) : W p l e R s m args below meth c H locs cells slots Q (F0 m pc ls rest) := by
  have ht := hB.2.2.2.2
  refine va_new hB.1 hB.2.1 ht hin ty hty hB.2.2.2.1 (ht _ h1) (ht _ h2) (ht _ h3) hK hP hD hS (xn_hA h0) hc hfs hcells hslots hdg (fun q H1 hP1 hD1 hS1 => ?_)
  rw [xn_push] at hP1 hD1
  exact kk q _ rfl H1 hP1 hD1 hS1
theorem xn_newaI (hB : CallFix p m c cc nL s args TB own) (hK : va_K (xw_D G) xw_cl (xw_ty G) s) (h0 : xw_s0 G ≤ s.heap.size) (hS : va_S (xw_A G) s.heap H locs) (hP : va_P (xw_D G) xw_cl (xn_W N P) H) (hD : va_D (xw_A G) (xn_W N P)) {n : Nat} {z : Int32} (h1 : Cond.arrayClass .int ∈ TB) (hn : ¬ z < 0) (hz : z.toNatClampNeg = n) (hbytes : n * 4 ≤ 536870912) (hcells : cells + 1 ≤ R.cells) (hslots : slots + n ≤ R.slots) (hdg : decode cc pc = .ok (.newarray .int, 2))
    (kk : ∀ (q : Nat) (P1 : Nat → Nat × va_E), P1 = va_up P N (q, .inl (xw_q G 0, n, .inl (fun _ => 0))) → ∀ H1 : Heap, va_P (xw_D G) xw_cl (xn_W (N + 1) P1) H1 → va_D (xw_A G) (xn_W (N + 1) P1) → va_S (xw_A G) s.heap H1 locs → W p l e R s m args below meth c H1 locs (cells + 1) (slots + n) Q (F0 m (pc + 2) ls (.ref q :: rest))) : W p l e R s m args below meth c H locs cells slots Q (F0 m pc ls (.int z :: rest)) := by
  refine va_newa (atype := .int) (ty := .int) (a0 := (n, .inl (fun _ => 0))) hB.1 hB.2.1 (hB.2.2.2.2 _ h1) rfl hK hP hD hS (xn_hA h0) (fun cA => rfl) hn hz hbytes hcells hslots hdg (fun q cA H1 hK1 hP1 hD1 hS1 => ?_)
  have e1 : s.vm.findClass ("[" ++ FieldType.toString .int) = some cA := (hK1.2 6 (cA, .int) rfl).2
  have e2 : s.vm.findClass ("[" ++ FieldType.toString .int) = some (xw_q G 0) := (hK.2 0 (xw_q G 0, .int) rfl).2
  have e3 : cA = xw_q G 0 := Option.some.inj (e1.symm.trans e2)
  subst e3
  rw [xn_push] at hP1 hD1
  exact kk q _ rfl H1 hP1 hD1 hS1
theorem xn_newaB (hB : CallFix p m c cc nL s args TB own) (hK : va_K (xw_D G) xw_cl (xw_ty G) s) (h0 : xw_s0 G ≤ s.heap.size) (hS : va_S (xw_A G) s.heap H locs) (hP : va_P (xw_D G) xw_cl (xn_W N P) H) (hD : va_D (xw_A G) (xn_W N P)) {n : Nat} {z : Int32} (h1 : Cond.arrayClass .byte ∈ TB) (hn : ¬ z < 0) (hz : z.toNatClampNeg = n) (hbytes : n * 1 ≤ 536870912) (hcells : cells + 1 ≤ R.cells) (hslots : slots + n ≤ R.slots) (hdg : decode cc pc = .ok (.newarray .byte, 2))
    (kk : ∀ (q : Nat) (P1 : Nat → Nat × va_E), P1 = va_up P N (q, .inl (xw_q G 1, n, .inl (fun _ => 0))) → ∀ H1 : Heap, va_P (xw_D G) xw_cl (xn_W (N + 1) P1) H1 → va_D (xw_A G) (xn_W (N + 1) P1) → va_S (xw_A G) s.heap H1 locs → W p l e R s m args below meth c H1 locs (cells + 1) (slots + n) Q (F0 m (pc + 2) ls (.ref q :: rest))) : W p l e R s m args below meth c H locs cells slots Q (F0 m pc ls (.int z :: rest)) := by
  refine va_newa (atype := .byte) (ty := .byte) (a0 := (n, .inl (fun _ => 0))) hB.1 hB.2.1 (hB.2.2.2.2 _ h1) rfl hK hP hD hS (xn_hA h0) (fun cA => rfl) hn hz hbytes hcells hslots hdg (fun q cA H1 hK1 hP1 hD1 hS1 => ?_)
  have e1 : s.vm.findClass ("[" ++ FieldType.toString .byte) = some cA := (hK1.2 6 (cA, .byte) rfl).2
  have e2 : s.vm.findClass ("[" ++ FieldType.toString .byte) = some (xw_q G 1) := (hK.2 1 (xw_q G 1, .byte) rfl).2
  have e3 : cA = xw_q G 1 := Option.some.inj (e1.symm.trans e2)
  subst e3
  rw [xn_push] at hP1 hD1
  exact kk q _ rfl H1 hP1 hD1 hS1
theorem xn_newaC (hB : CallFix p m c cc nL s args TB own) (hK : va_K (xw_D G) xw_cl (xw_ty G) s) (h0 : xw_s0 G ≤ s.heap.size) (hS : va_S (xw_A G) s.heap H locs) (hP : va_P (xw_D G) xw_cl (xn_W N P) H) (hD : va_D (xw_A G) (xn_W N P)) {n : Nat} {z : Int32} (h1 : Cond.arrayClass .char ∈ TB) (hn : ¬ z < 0) (hz : z.toNatClampNeg = n) (hbytes : n * 2 ≤ 536870912) (hcells : cells + 1 ≤ R.cells) (hslots : slots + n ≤ R.slots) (hdg : decode cc pc = .ok (.newarray .char, 2))
    (kk : ∀ (q : Nat) (P1 : Nat → Nat × va_E), P1 = va_up P N (q, .inl (xw_q G 2, n, .inl (fun _ => 0))) → ∀ H1 : Heap, va_P (xw_D G) xw_cl (xn_W (N + 1) P1) H1 → va_D (xw_A G) (xn_W (N + 1) P1) → va_S (xw_A G) s.heap H1 locs → W p l e R s m args below meth c H1 locs (cells + 1) (slots + n) Q (F0 m (pc + 2) ls (.ref q :: rest))) : W p l e R s m args below meth c H locs cells slots Q (F0 m pc ls (.int z :: rest)) := by
  refine va_newa (atype := .char) (ty := .char) (a0 := (n, .inl (fun _ => 0))) hB.1 hB.2.1 (hB.2.2.2.2 _ h1) rfl hK hP hD hS (xn_hA h0) (fun cA => rfl) hn hz hbytes hcells hslots hdg (fun q cA H1 hK1 hP1 hD1 hS1 => ?_)
  have e1 : s.vm.findClass ("[" ++ FieldType.toString .char) = some cA := (hK1.2 6 (cA, .char) rfl).2
  have e2 : s.vm.findClass ("[" ++ FieldType.toString .char) = some (xw_q G 2) := (hK.2 2 (xw_q G 2, .char) rfl).2
  have e3 : cA = xw_q G 2 := Option.some.inj (e1.symm.trans e2)
  subst e3
  rw [xn_push] at hP1 hD1
  exact kk q _ rfl H1 hP1 hD1 hS1
theorem xn_newaJ (hB : CallFix p m c cc nL s args TB own) (hK : va_K (xw_D G) xw_cl (xw_ty G) s) (h0 : xw_s0 G ≤ s.heap.size) (hS : va_S (xw_A G) s.heap H locs) (hP : va_P (xw_D G) xw_cl (xn_W N P) H) (hD : va_D (xw_A G) (xn_W N P)) {n : Nat} {z : Int32} (h1 : Cond.arrayClass .long ∈ TB) (hn : ¬ z < 0) (hz : z.toNatClampNeg = n) (hbytes : n * 8 ≤ 536870912) (hcells : cells + 1 ≤ R.cells) (hslots : slots + n ≤ R.slots) (hdg : decode cc pc = .ok (.newarray .long, 2))
    (kk : ∀ (q : Nat) (P1 : Nat → Nat × va_E), P1 = va_up P N (q, .inl (xw_q G 3, n, .inr (.inl (fun _ => 0)))) → ∀ H1 : Heap, va_P (xw_D G) xw_cl (xn_W (N + 1) P1) H1 → va_D (xw_A G) (xn_W (N + 1) P1) → va_S (xw_A G) s.heap H1 locs → W p l e R s m args below meth c H1 locs (cells + 1) (slots + n) Q (F0 m (pc + 2) ls (.ref q :: rest))) : W p l e R s m args below meth c H locs cells slots Q (F0 m pc ls (.int z :: rest)) := by
  refine va_newa (atype := .long) (ty := .long) (a0 := (n, .inr (.inl (fun _ => 0)))) hB.1 hB.2.1 (hB.2.2.2.2 _ h1) rfl hK hP hD hS (xn_hA h0) (fun cA => rfl) hn hz hbytes hcells hslots hdg (fun q cA H1 hK1 hP1 hD1 hS1 => ?_)
  have e1 : s.vm.findClass ("[" ++ FieldType.toString .long) = some cA := (hK1.2 6 (cA, .long) rfl).2
  have e2 : s.vm.findClass ("[" ++ FieldType.toString .long) = some (xw_q G 3) := (hK.2 3 (xw_q G 3, .long) rfl).2
  have e3 : cA = xw_q G 3 := Option.some.inj (e1.symm.trans e2)
  subst e3
  rw [xn_push] at hP1 hD1
  exact kk q _ rfl H1 hP1 hD1 hS1
theorem xn_newqP (hB : CallFix p m c cc nL s args TB own) (hK : va_K (xw_D G) xw_cl (xw_ty G) s) (h0 : xw_s0 G ≤ s.heap.size) (hS : va_S (xw_A G) s.heap H locs) (hP : va_P (xw_D G) xw_cl (xn_W N P) H) (hD : va_D (xw_A G) (xn_W N P)) {n index : Nat} {z : Int32} (h1 : Cond.classLink own index RX2 ∈ TB) (hO : va_AO RX2 s) (hn : ¬ z < 0) (hz : z.toNatClampNeg = n) (hbytes : n * 4 ≤ 536870912) (hcells : cells + 1 ≤ R.cells) (hslots : slots + n ≤ R.slots) (hdg : decode cc pc = .ok (.anewarray index, 3))
    (kk : ∀ (q : Nat) (P1 : Nat → Nat × va_E), P1 = va_up P N (q, .inl (xw_q G 4, n, .inr (.inr (.inr (.inr (fun _ => none)))))) → ∀ H1 : Heap, va_P (xw_D G) xw_cl (xn_W (N + 1) P1) H1 → va_D (xw_A G) (xn_W (N + 1) P1) → va_S (xw_A G) s.heap H1 locs → W p l e R s m args below meth c H1 locs (cells + 1) (slots + n) Q (F0 m (pc + 3) ls (.ref q :: rest))) : W p l e R s m args below meth c H locs cells slots Q (F0 m pc ls (.int z :: rest)) := by
  refine va_newq (C := RX2) hB.1 hB.2.1 hB.2.2.2.1 (hB.2.2.2.2 _ h1) hO hK hP hD hS (xn_hA h0) hn hz hbytes hcells hslots hdg (fun q cA H1 hK1 hP1 hD1 hS1 => ?_)
  obtain ⟨k1, c1, -, -, -, e1⟩ := (hK1.2 6 (cA, .object RX2) rfl).2
  obtain ⟨k2, c2, -, -, -, e2⟩ := (hK.2 4 (xw_q G 4, .object RX2) rfl).2
  have e3 : cA = xw_q G 4 := Option.some.inj (e1.symm.trans e2)
  subst e3
  rw [xn_push] at hP1 hD1
  exact kk q _ rfl H1 hP1 hD1 hS1
theorem xn_newqT (hB : CallFix p m c cc nL s args TB own) (hK : va_K (xw_D G) xw_cl (xw_ty G) s) (h0 : xw_s0 G ≤ s.heap.size) (hS : va_S (xw_A G) s.heap H locs) (hP : va_P (xw_D G) xw_cl (xn_W N P) H) (hD : va_D (xw_A G) (xn_W N P)) {n index : Nat} {z : Int32} (h1 : Cond.classLink own index RX6 ∈ TB) (hO : va_AO RX6 s) (hn : ¬ z < 0) (hz : z.toNatClampNeg = n) (hbytes : n * 4 ≤ 536870912) (hcells : cells + 1 ≤ R.cells) (hslots : slots + n ≤ R.slots) (hdg : decode cc pc = .ok (.anewarray index, 3))
    (kk : ∀ (q : Nat) (P1 : Nat → Nat × va_E), P1 = va_up P N (q, .inl (xw_q G 5, n, .inr (.inr (.inr (.inr (fun _ => none)))))) → ∀ H1 : Heap, va_P (xw_D G) xw_cl (xn_W (N + 1) P1) H1 → va_D (xw_A G) (xn_W (N + 1) P1) → va_S (xw_A G) s.heap H1 locs → W p l e R s m args below meth c H1 locs (cells + 1) (slots + n) Q (F0 m (pc + 3) ls (.ref q :: rest))) : W p l e R s m args below meth c H locs cells slots Q (F0 m pc ls (.int z :: rest)) := by
  refine va_newq (C := RX6) hB.1 hB.2.1 hB.2.2.2.1 (hB.2.2.2.2 _ h1) hO hK hP hD hS (xn_hA h0) hn hz hbytes hcells hslots hdg (fun q cA H1 hK1 hP1 hD1 hS1 => ?_)
  obtain ⟨k1, c1, -, -, -, e1⟩ := (hK1.2 6 (cA, .object RX6) rfl).2
  obtain ⟨k2, c2, -, -, -, e2⟩ := (hK.2 5 (xw_q G 5, .object RX6) rfl).2
  have e3 : cA = xw_q G 5 := Option.some.inj (e1.symm.trans e2)
  subst e3
  rw [xn_push] at hP1 hD1
  exact kk q _ rfl H1 hP1 hD1 hS1
theorem xn_put (hB : CallFix p m c cc nL s args TB own) (hK : va_K (xw_D G) xw_cl (xw_ty G) s) (h0 : xw_s0 G ≤ s.heap.size) (hS : va_S (xw_A G) s.heap H locs) (hP : va_P (xw_D G) xw_cl (xn_W N P) H) (hD : va_D (xw_A G) (xn_W N P)) {ci k index Nf a : Nat} {ref C : String} {T : u_T} {v : Value} {fs fs' : List Value} {ty : FieldType} (hk : k < N) (hPk : P k = (a, .inr (ci, fs))) (hc : xw_cl[ci]? = some (C, T, Nf)) (hin : ∀ w ∈ u_ws C T Nf, w ∈ TB) (ty0 : Nat → FieldType) (hty : ∀ k, k < Nf → parseFieldDescriptor (T k).2.2.1 = some (ty0 k)) (hnm : ∀ a, a < Nf → ∀ b, b < Nf → a ≠ b → (T a).2.1 ≠ (T b).2.1) (j : Nat) (hj : j < Nf) (hlink : Cond.fieldLink own index ref (T j).2.1 (T j).2.2.1 ∈ TB) (hr : ref = (T j).1) (hfin : (T j).2.2.2 = false) (hd : ty0 j = ty) (hn : narrow ty v = v) (hfit : fits ty v = true) (hl : j < fs.length) (hset : fs.set j v = fs') (hdg : decode cc pc = .ok (.putfield index, 3))
    (kk : ∀ P1 : Nat → Nat × va_E, P1 = va_up P k (a, .inr (ci, fs')) → ∀ (H1 : Heap) (locs1 : List Loc), va_P (xw_D G) xw_cl (xn_W N P1) H1 → va_D (xw_A G) (xn_W N P1) → va_S (xw_A G) s.heap H1 locs1 → W p l e R s m args below meth c H1 locs1 cells slots Q (F0 m (pc + 3) ls rest)) : W p l e R s m args below meth c H locs cells slots Q (F0 m pc ls (v :: .ref a :: rest)) := by
  subst hr
  subst hset
  refine va_put (D := xw_D G) (ci := ci) (v := v) (ty := ty) (C := C) (T := T) (N := Nf) hB.1 hB.2.1 hB.2.2.2.2 hin ty0 hty hnm hB.2.2.2.1 hK hP hD hS k ((xn_at hk).trans (congrArg some hPk)) hc j hj (hB.2.2.2.2 _ hlink) (fun _ h9 => h9) hfin (by rw [hty j hj, hd]) hn hfit hl hdg (fun H1 locs1 hP1 hD1 hS1 => ?_)
  rw [xn_set _ hk] at hP1 hD1
  exact kk _ rfl H1 locs1 hP1 hD1 hS1
theorem xn_putF (hB : CallFix p m c cc nL s args TB own) (hK : va_K (xw_D G) xw_cl (xw_ty G) s) (h0 : xw_s0 G ≤ s.heap.size) (hS : va_S (xw_A G) s.heap H locs) (hP : va_P (xw_D G) xw_cl (xn_W N P) H) (hD : va_D (xw_A G) (xn_W N P)) {ci k index Nf a : Nat} {ref C : String} {T : u_T} {v : Value} {fs fs' : List Value} {ty : FieldType} (hk : k < N) (hPk : P k = (a, .inr (ci, fs))) (hc : xw_cl[ci]? = some (C, T, Nf)) (hin : ∀ w ∈ u_ws C T Nf, w ∈ TB) (ty0 : Nat → FieldType) (hty : ∀ k, k < Nf → parseFieldDescriptor (T k).2.2.1 = some (ty0 k)) (hnm : ∀ a, a < Nf → ∀ b, b < Nf → a ≠ b → (T a).2.1 ≠ (T b).2.1) (j : Nat) (hj : j < Nf) (hlink : Cond.fieldLink own index ref (T j).2.1 (T j).2.2.1 ∈ TB) (hr : ref = (T j).1) (hfin : (T j).2.2.2 = true) (hin2 : meth.name = "<init>") (hdecl : (T j).1 = own) (hd : ty0 j = ty) (hn : narrow ty v = v) (hfit : fits ty v = true) (hl : j < fs.length) (hset : fs.set j v = fs') (hdg : decode cc pc = .ok (.putfield index, 3))
    (kk : ∀ P1 : Nat → Nat × va_E, P1 = va_up P k (a, .inr (ci, fs')) → ∀ (H1 : Heap) (locs1 : List Loc), va_P (xw_D G) xw_cl (xn_W N P1) H1 → va_D (xw_A G) (xn_W N P1) → va_S (xw_A G) s.heap H1 locs1 → W p l e R s m args below meth c H1 locs1 cells slots Q (F0 m (pc + 3) ls rest)) : W p l e R s m args below meth c H locs cells slots Q (F0 m pc ls (v :: .ref a :: rest)) := by
  subst hr
  subst hset
  refine va_putF (D := xw_D G) (ci := ci) (v := v) (ty := ty) (C := C) (T := T) (N := Nf) hB.1 hB.2.1 hB.2.2.2.2 hin ty0 hty hnm hB.2.2.2.1 hK hP hD hS k ((xn_at hk).trans (congrArg some hPk)) hc j hj (hB.2.2.2.2 _ hlink) (fun _ h9 => h9) hfin hin2 hdecl (by rw [hty j hj, hd]) hn hfit hl hdg (fun H1 locs1 hP1 hD1 hS1 => ?_)
  rw [xn_set _ hk] at hP1 hD1
  exact kk _ rfl H1 locs1 hP1 hD1 hS1
theorem xn_get (hB : CallFix p m c cc nL s args TB own) (hK : va_K (xw_D G) xw_cl (xw_ty G) s) (h0 : xw_s0 G ≤ s.heap.size) (hS : va_S (xw_A G) s.heap H locs) (hP : va_P (xw_D G) xw_cl (xn_W N P) H) (hD : va_D (xw_A G) (xn_W N P)) {ci k index Nf a : Nat} {ref C : String} {T : u_T} {v : Value} {fs : List Value} (hk : k < N) (hPk : P k = (a, .inr (ci, fs))) (hc : xw_cl[ci]? = some (C, T, Nf)) (hin : ∀ w ∈ u_ws C T Nf, w ∈ TB) (j : Nat) (hj : j < Nf) (hlink : Cond.fieldLink own index ref (T j).2.1 (T j).2.2.1 ∈ TB) (hr : ref = (T j).1) (hv : fs[j]? = some v) (hdg : decode cc pc = .ok (.getfield index, 3))
    (kk : W p l e R s m args below meth c H locs cells slots Q (F0 m (pc + 3) ls (v :: rest))) : W p l e R s m args below meth c H locs cells slots Q (F0 m pc ls (.ref a :: rest)) := by
  subst hr
  exact va_get (D := xw_D G) (ci := ci) (v := v) (C := C) (T := T) (N := Nf) hB.1 hB.2.1 hB.2.2.2.2 hin hB.2.2.2.1 hK hP k ((xn_at hk).trans (congrArg some hPk)) hc j hj (hB.2.2.2.2 _ hlink) (fun _ h9 => h9) hv hdg kk
theorem xn_len (hB : CallFix p m c cc nL s args TB own) (hK : va_K (xw_D G) xw_cl (xw_ty G) s) (h0 : xw_s0 G ≤ s.heap.size) (hS : va_S (xw_A G) s.heap H locs) (hP : va_P (xw_D G) xw_cl (xn_W N P) H) (hD : va_D (xw_A G) (xn_W N P)) {k a n t : Nat} {ty : FieldType} {z : Int32} {r : Nat → Option Nat} (hk : k < N) (hPk : P k = (a, .inl (xw_q G t, n, .inr (.inr (.inr (.inr r)))))) (ht : (xw_ty G)[t]? = some (xw_q G t, ty)) (hz : Int32.ofNat n = z) (hdg : decode cc pc = .ok (.arraylength, 1))
    (kk : W p l e R s m args below meth c H locs cells slots Q (F0 m (pc + 1) ls (.int z :: rest))) : W p l e R s m args below meth c H locs cells slots Q (F0 m pc ls (.ref a :: rest)) :=
  va_alen hB.1 hB.2.1 hK hP k t ((xn_at hk).trans (congrArg some hPk)) ht hz hdg kk
theorem xn_ist (hB : CallFix p m c cc nL s args TB own) (hK : va_K (xw_D G) xw_cl (xw_ty G) s) (h0 : xw_s0 G ≤ s.heap.size) (hS : va_S (xw_A G) s.heap H locs) (hP : va_P (xw_D G) xw_cl (xn_W N P) H) (hD : va_D (xw_A G) (xn_W N P)) {k a n j : Nat} {f : Nat → Int32} {i x : Int32} (hk : k < N) (hPk : P k = (a, .inl (xw_q G 0, n, .inl f))) (hi : i.toNatClampNeg = j) (hin : vp_in i n) (hdg : decode cc pc = .ok (.iastore, 1))
    (kk : ∀ P1 : Nat → Nat × va_E, P1 = va_up P k (a, .inl (xw_q G 0, n, .inl (upd f j x))) → ∀ (H1 : Heap) (locs1 : List Loc), va_P (xw_D G) xw_cl (xn_W N P1) H1 → va_D (xw_A G) (xn_W N P1) → va_S (xw_A G) s.heap H1 locs1 → W p l e R s m args below meth c H1 locs1 cells slots Q (F0 m (pc + 1) ls rest)) : W p l e R s m args below meth c H locs cells slots Q (F0 m pc ls (.int x :: .int i :: .ref a :: rest)) := by
  subst hi
  refine va_iast hB.1 hB.2.1 hK hP hD hS k 0 ((xn_at hk).trans (congrArg some hPk)) rfl hin hdg (fun H1 locs1 hP1 hD1 hS1 => ?_)
  rw [xn_set _ hk] at hP1 hD1
  exact kk _ rfl H1 locs1 hP1 hD1 hS1
theorem xn_cst (hB : CallFix p m c cc nL s args TB own) (hK : va_K (xw_D G) xw_cl (xw_ty G) s) (h0 : xw_s0 G ≤ s.heap.size) (hS : va_S (xw_A G) s.heap H locs) (hP : va_P (xw_D G) xw_cl (xn_W N P) H) (hD : va_D (xw_A G) (xn_W N P)) {k a n j : Nat} {f : Nat → Int32} {i x x' : Int32} (hk : k < N) (hPk : P k = (a, .inl (xw_q G 2, n, .inl f))) (hi : i.toNatClampNeg = j) (hx : vp_nar .char x = x') (hin : vp_in i n) (hdg : decode cc pc = .ok (.castore, 1))
    (kk : ∀ P1 : Nat → Nat × va_E, P1 = va_up P k (a, .inl (xw_q G 2, n, .inl (upd f j x'))) → ∀ (H1 : Heap) (locs1 : List Loc), va_P (xw_D G) xw_cl (xn_W N P1) H1 → va_D (xw_A G) (xn_W N P1) → va_S (xw_A G) s.heap H1 locs1 → W p l e R s m args below meth c H1 locs1 cells slots Q (F0 m (pc + 1) ls rest)) : W p l e R s m args below meth c H locs cells slots Q (F0 m pc ls (.int x :: .int i :: .ref a :: rest)) := by
  subst hi
  subst hx
  refine va_cast hB.1 hB.2.1 hK hP hD hS k 2 ((xn_at hk).trans (congrArg some hPk)) rfl hin hdg (fun H1 locs1 hP1 hD1 hS1 => ?_)
  rw [xn_set _ hk] at hP1 hD1
  exact kk _ rfl H1 locs1 hP1 hD1 hS1
theorem xn_ast (hB : CallFix p m c cc nL s args TB own) (hK : va_K (xw_D G) xw_cl (xw_ty G) s) (h0 : xw_s0 G ≤ s.heap.size) (hS : va_S (xw_A G) s.heap H locs) (hP : va_P (xw_D G) xw_cl (xn_W N P) H) (hD : va_D (xw_A G) (xn_W N P)) {k a n j kv v ci t : Nat} {r : vw_C} {vs : List Value} {f : Nat → Option Nat} {i : Int32} (hk : k < N) (hPk : P k = (a, .inl (xw_q G t, n, .inr (.inr (.inr (.inr f)))))) (ht : (xw_ty G)[t]? = some (xw_q G t, .object r.1)) (hkv : kv < N) (hPv : P kv = (v, .inr (ci, vs))) (hc : xw_cl[ci]? = some r) (hi : i.toNatClampNeg = j) (hin : vp_in i n) (hdg : decode cc pc = .ok (.aastore, 1))
    (kk : ∀ P1 : Nat → Nat × va_E, P1 = va_up P k (a, .inl (xw_q G t, n, .inr (.inr (.inr (.inr (va_up f j (some v))))))) → ∀ (H1 : Heap) (locs1 : List Loc), va_P (xw_D G) xw_cl (xn_W N P1) H1 → va_D (xw_A G) (xn_W N P1) → va_S (xw_A G) s.heap H1 locs1 → W p l e R s m args below meth c H1 locs1 cells slots Q (F0 m (pc + 1) ls rest)) : W p l e R s m args below meth c H locs cells slots Q (F0 m pc ls (.ref v :: .int i :: .ref a :: rest)) := by
  subst hi
  refine va_astq hB.1 hB.2.1 hK hP hD hS k t kv ci ((xn_at hk).trans (congrArg some hPk)) ht ((xn_at hkv).trans (congrArg some hPv)) hc hin hdg (fun H1 locs1 hP1 hD1 hS1 => ?_)
  rw [xn_set _ hk] at hP1 hD1
  exact kk _ rfl H1 locs1 hP1 hD1 hS1
theorem xn_obj (hB : CallFix p m c cc nL s args TB own) {idx a : Nat} (h1 : Cond.methodLink own idx Lib.objectInit ∈ TB) (h2 : Cond.instanceMethod Lib.objectInit ∈ TB) (h3 : Cond.code Lib.objectInit ⟨#[0xb1]⟩ 1 none ∈ TB) (hsz : ls.size = nL) (hd : decode cc pc = .ok (.invokespecial idx, 3)) (hfr : 1 ≤ R.frames) (hlo : 2 * 0 + (rest.map fun v => v.category).sum + 12 ≤ R.locals)
    (kk : W p l e R s m args below meth c H locs cells slots Q (F0 m (pc + 3) ls rest)) : W p l e R s m args below meth c H locs cells slots Q (F0 m pc ls (.ref a :: rest)) :=
  W.objInit hB.1 hB.2.1 hB.2.2.2.1 (hB.2.2.2.2 _ h1) (hB.2.2.2.2 _ h2) (hB.2.2.2.2 _ h3) rfl (hsz.trans hB.2.2.1.symm) rfl hd hfr hlo kk
theorem xn_cI (hB : CallFix p m c cc nL s args TB own) (hK : va_K (xw_D G) xw_cl (xw_ty G) s) (h0 : xw_s0 G ≤ s.heap.size) (hS : va_S (xw_A G) s.heap H locs) (hP : va_P (xw_D G) xw_cl (xn_W N P) H) (hD : va_D (xw_A G) (xn_W N P)) (hE : xw_Ev G s) (hO : va_AO RX2 s ∧ va_AO RX6 s) {y : MethodName} {cy : ByteArray} {ny fr lo mc ms index N' b : Nat} {As : List Value} {post : (Nat → Nat × va_E) → Prop} (hM : xn_T l G y cy ny fr lo mc ms (.ref b :: As) N P N' post) (hg : Cond.methodLink own index y ∈ TB) (hg2 : Cond.code y cy ny none ∈ TB) (hg3 : Cond.instanceMethod y ∈ TB) (hg4 : Cond.initialized y.cls ∈ TB) (hy1 : y.name = "<init>") (n : Nat) (hd : y.cls ≠ "java/lang/invoke/MethodHandle" ∧ y.cls ≠ "java/lang/invoke/VarHandle" ∧ (parseMethodDescriptor y.desc).map (fun d => d.parameters.length) = some n) (hR : fr + 1 ≤ R.frames ∧ 8 + (ny + 11) + lo ≤ R.locals) (hn : As.length = n) (hsz : ls.size = nL) (hst : (rest.map fun v => v.category).sum ≤ 8) (hst0 : st0 = As.reverse ++ .ref b :: rest) (hdg : decode cc pc = .ok (.invokespecial index, 3)) (hcs : cells + mc ≤ R.cells ∧ slots + ms ≤ R.slots)
    (kk : ∀ (P1 : Nat → Nat × va_E), post P1 → ∀ (H1 : Heap) (locs1 : List Loc), va_P (xw_D G) xw_cl (xn_W N' P1) H1 → va_D (xw_A G) (xn_W N' P1) → va_S (xw_A G) s.heap H1 locs1 → W p l e R s m args below meth c H1 locs1 (cells + mc) (slots + ms) Q (F0 m (pc + 3) ls rest)) : W p l e R s m args below meth c H locs cells slots Q (F0 m pc ls st0) := by
  have ht := hB.2.2.2.2
  refine va_callv (va_runI (As := As) (rest := rest) (b := b) ⟨hB.1, hB.2.1, hB.2.2.1, hB.2.2.2.1, ht⟩ hM ⟨callB_of n ht (xw_gW hg2) rfl rfl rfl (ht _ hg4) (ht _ hg) hd hR, hy1, ht _ hg3⟩ ⟨xn_blind G N P _, fun U hU hW => ⟨rfl, xn_in hK hE hO h0 hS hP hD hU hW⟩⟩ rfl hn hsz hst0 (lv_room hst) hdg hcs) hS (fun q _ h => h) (fun q h => h) (fun u t H1 locs1 ht2 hvm hw hB2 hz1 hk1 hS1 => ?_)
  have hP1 := hB2.1
  rw [ht2] at hP1
  exact kk u hw H1 locs1 hP1 hB2.2.2.1 hS1
theorem xn_cN (hB : CallFix p m c cc nL s args TB own) (hK : va_K (xw_D G) xw_cl (xw_ty G) s) (h0 : xw_s0 G ≤ s.heap.size) (hS : va_S (xw_A G) s.heap H locs) (hP : va_P (xw_D G) xw_cl (xn_W N P) H) (hD : va_D (xw_A G) (xn_W N P)) (hE : xw_Ev G s) (hO : va_AO RX2 s ∧ va_AO RX6 s) {y : MethodName} {cy : ByteArray} {ny fr lo mc ms index N' b : Nat} {As : List Value} {post : (Nat → Nat × va_E) → Prop} (hM : xn_T l G y cy ny fr lo mc ms (.ref b :: As) N P N' post) {host : String} (hg : Cond.methodLinkNest own index y host ∈ xw_NL) (hg2 : Cond.code y cy ny none ∈ TB) (hg3 : Cond.instanceMethod y ∈ TB) (hg4 : Cond.initialized y.cls ∈ TB) (hy1 : y.name = "<init>") (n : Nat) (hd : y.cls ≠ "java/lang/invoke/MethodHandle" ∧ y.cls ≠ "java/lang/invoke/VarHandle" ∧ (parseMethodDescriptor y.desc).map (fun d => d.parameters.length) = some n) (hR : fr + 1 ≤ R.frames ∧ 8 + (ny + 11) + lo ≤ R.locals) (hn : As.length = n) (hsz : ls.size = nL) (hst : (rest.map fun v => v.category).sum ≤ 8) (hst0 : st0 = As.reverse ++ .ref b :: rest) (hdg : decode cc pc = .ok (.invokespecial index, 3)) (hcs : cells + mc ≤ R.cells ∧ slots + ms ≤ R.slots)
    (kk : ∀ (P1 : Nat → Nat × va_E), post P1 → ∀ (H1 : Heap) (locs1 : List Loc), va_P (xw_D G) xw_cl (xn_W N' P1) H1 → va_D (xw_A G) (xn_W N' P1) → va_S (xw_A G) s.heap H1 locs1 → W p l e R s m args below meth c H1 locs1 (cells + mc) (slots + ms) Q (F0 m (pc + 3) ls rest)) : W p l e R s m args below meth c H locs cells slots Q (F0 m pc ls st0) := by
  have ht := hB.2.2.2.2
  refine va_callv (va_runIN (As := As) (rest := rest) (b := b) ⟨hB.1, hB.2.1, hB.2.2.1, hB.2.2.2.1, ht⟩ hM ⟨va_cnB n ht (xw_gW hg2) rfl rfl rfl (hE.1 _ hg) (ht _ hg4) hd hR, hy1, ht _ hg3⟩ ⟨xn_blind G N P _, fun U hU hW => ⟨rfl, xn_in hK hE hO h0 hS hP hD hU hW⟩⟩ rfl hn hsz hst0 (lv_room hst) hdg hcs) hS (fun q _ h => h) (fun q h => h) (fun u t H1 locs1 ht2 hvm hw hB2 hz1 hk1 hS1 => ?_)
  have hP1 := hB2.1
  rw [ht2] at hP1
  exact kk u hw H1 locs1 hP1 hB2.2.2.1 hS1
theorem xn_ret (hB : CallFix p m c cc nL s args TB own) (hK : va_K (xw_D G) xw_cl (xw_ty G) s) (h0 : xw_s0 G ≤ s.heap.size) (hS : va_S (xw_A G) s.heap H locs) (hP : va_P (xw_D G) xw_cl (xn_W N P) H) (hD : va_D (xw_A G) (xn_W N P)) (hE : xw_Ev G s) (hO : va_AO RX2 s ∧ va_AO RX6 s) {post : (Nat → Nat × va_E) → Prop} {mc ms : Nat} (hr : meth.sig.returnType = none) (hlk : meth.locks = false) (hp : post P) (h1 : cells ≤ mc) (h2 : slots ≤ ms) (hdg : decode cc pc = .ok (.return_, 1)) : W p l e R s m args below meth c H locs cells slots (MQ below (va_Qv post (fun u t => xn_In G N u t) (xw_A G)) args s mc ms (xw_A G)) (F0 m pc ls []) := by
  refine W.widen h1 h2 ?_
  exact W.vret hB.1 hB.2.1 hr (fun t ht hW => ⟨⟨P, rfl, hp, xn_in hK hE hO h0 hS hP hD ht hW⟩, hS.F ht⟩) hS.2.2 hdg hlk
end XN
