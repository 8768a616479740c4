section XC
variable {p : Program} {l : Launch} {e : Env} {R : Room} {s : State} {m : MethodId} {args : Array Value} {below : List Frame} {meth : Method} {c : Code} {H : Heap} {locs : List Loc} {cells slots : Nat} {Q : State → Prop}
variable {cc : ByteArray} {pc nL : Nat} {ls : Array Slot} {rest st0 : List Value} {own : String} {G : xw_G} {N : Nat} {P : Nat → Nat × va_E}
theorem xn_cr (hB : CallFix p m c cc nL s args TB own) (hK : va_K (xw_D G) xw_cl (xw_ty G) s) (h0 : xw_s0 G ≤ s.heap.size) (hS : va_S (xw_A G) s.heap H locs) (hP : va_P (xw_D G) xw_cl (xn_W N P) H) (hD : va_D (xw_A G) (xn_W N P)) (hE : xw_Ev G s) (hO : va_AO RX2 s ∧ va_AO RX6 s) {y : MethodName} {cy : ByteArray} {ny fr lo mc ms index N' : Nat} {ry : Option FieldType} {z : va_E} (hM : Met l y (.code y cy ny ry :: TB) { frames := fr, cells := mc, slots := ms, locals := lo } (va_Pc [] (xn_In G N P)) (va_Qr (fun (_ : Nat → Nat × va_E) => True) (fun u a t => u = va_up P N (a, z) ∧ xn_In G N' u t) (xw_A G)) mc ms (xw_A G)) (hg : Cond.methodLink own index y ∈ TB) (hg2 : Cond.code y cy ny ry ∈ TB) (hg3 : Cond.static y ∈ TB) (hg4 : Cond.initialized y.cls ∈ TB) (hd : y.cls ≠ "java/lang/invoke/MethodHandle" ∧ y.cls ≠ "java/lang/invoke/VarHandle" ∧ (parseMethodDescriptor y.desc).map (fun d => d.parameters.length) = some 0) (hR : fr + 1 ≤ R.frames ∧ 8 + (ny + 11) + lo ≤ R.locals) (hsz : ls.size = nL) (hst : (rest.map fun v => v.category).sum ≤ 8) (hdg : decode cc pc = .ok (.invokestatic index, 3)) (hcs : cells + mc ≤ R.cells ∧ slots + ms ≤ R.slots)
    (kk : ∀ (q : Nat) (P1 : Nat → Nat × va_E), P1 = va_up P N (q, z) → ∀ (H1 : Heap) (locs1 : List Loc), va_P (xw_D G) xw_cl (xn_W N' P1) H1 → va_D (xw_A G) (xn_W N' P1) → va_S (xw_A G) s.heap H1 locs1 → W p l e R s m args below meth c H1 locs1 (cells + mc) (slots + ms) Q (F0 m (pc + 3) ls (.ref q :: rest))) : W p l e R s m args below meth c H locs cells slots Q (F0 m pc ls rest) := by
  have ht := hB.2.2.2.2
  refine va_callr (va_runS (As := []) (rest := rest) ⟨hB.1, hB.2.1, hB.2.2.1, hB.2.2.2.1, ht⟩ hM ⟨callB_of 0 ht (xw_gW hg2) rfl rfl rfl (ht _ hg4) (ht _ hg) hd hR, ht _ hg3⟩ ⟨xn_blind G N P _, fun U hU hW => ⟨rfl, xn_in hK hE hO h0 hS hP hD hU hW⟩⟩ rfl rfl hsz rfl (lv_room hst) hdg hcs) hS (fun q _ h => h) (fun q h => h) (fun u ra t H1 locs1 ht2 hvm hw hB2 hz1 hk1 hS1 => ?_)
  obtain ⟨hu, hI⟩ := hB2
  have hP1 := hI.1
  rw [ht2] at hP1
  exact kk ra u hu H1 locs1 hP1 hI.2.2.1 hS1
end XC
theorem hi_fresh : yX8_fresh.cls ≠ "java/lang/invoke/MethodHandle" ∧ yX8_fresh.cls ≠ "java/lang/invoke/VarHandle" ∧ (parseMethodDescriptor yX8_fresh.desc).map (fun d => d.parameters.length) = some 0 := by decide +kernel
set_option maxHeartbeats 4000000 in
set_option maxRecDepth 100000 in
theorem i_fresh (l : Launch) (G : xw_G) (P : Nat → Nat × va_E) : Met l yX8_fresh (.code yX8_fresh cX8_fresh 1 (some (.array .int)) :: TB) { frames := 0, cells := 1, slots := 109, locals := 0 } (va_Pc [] (xn_In G 120 P)) (va_Qr (fun (_ : Nat → Nat × va_E) => True) (fun u a t => u = va_up P 120 (a, .inl (xw_q G 0, 109, .inl (upd (fun _ => 0) 61 (100)))) ∧ xn_In G 121 u t) (xw_A G)) 1 109 (xw_A G) := by
  refine Met.ofW (cc := cX8_fresh) (maxL := 1) (ret := some (.array .int)) (by decide) rfl ?_
  intro p e s m args below meth c s₁ B hml hv
  obtain ⟨hargs, hP, hK, hD, hE, hO, h0⟩ := hv
  have hx := B.exec
  have hb := B.bytes
  have hr := B.returns
  have hlk := B.notSynchronized
  have hB : CallFix p m c cX8_fresh 1 s args TB RX8 := ⟨hx, hb, hml, findClass_of_methodNamed B.named, fun q h => (atoms_spec (ws := Cond.code yX8_fresh cX8_fresh 1 (some (.array .int)) :: TB) B.pre) q (List.mem_cons_of_mem _ h)⟩
  have hS : va_S (xw_A G) s.heap s.heap [] := va_S.rf
  have hl := lv_entry [] (n := 1) (Nat.le_of_ble_eq_true rfl)
  rw [show entryFrame m args 1 = entryFrame m ([] : List Value).toArray 1 from by rw [hargs], lg_entry_eq]
  generalize (lg_sl [] ++ List.replicate (1 - (lg_sl []).length) Slot.unset).toArray = ls at hl ⊢
  have hl : lv_has ls 1 [] := hl
  refine lv_bipush (v := 109) hx hb dX8_fresh_0 (by decide) ?_
  refine xn_newaI hB hK h0 hS hP hD (n := 109) tw_59 (by decide) (by decide) (by decide) (Nat.le_of_ble_eq_true rfl) (Nat.le_of_ble_eq_true rfl) dX8_fresh_2 (fun q1 P1 eP1 H hP hD hS => ?_)
  refine lv_astore_n (lv' := [(0, .ref q1)]) hx hb dX8_fresh_4 rfl hl (by decide) rfl (fun ls hl => ?_)
  refine lv_aload_n hx hb dX8_fresh_5 rfl (lv_at hl 0 rfl) ?_
  refine lv_bipush (v := 61) hx hb dX8_fresh_6 (by decide) ?_
  refine lv_bipush (v := 100) hx hb dX8_fresh_8 (by decide) ?_
  refine xn_ist hB hK h0 hS hP hD (k := 120) (a := q1) (n := 109) (f := fun _ => 0) (j := 61) (by decide) (by rw [eP1, va_up_self]) (by decide) (by unfold vp_in; decide) dX8_fresh_10 (fun P2 eP2 H locs hP hD hS => ?_)
  refine lv_aload_n hx hb dX8_fresh_11 rfl (lv_at hl 0 rfl) ?_
  refine W.widen (k := 1) (n := 109) (Nat.le_of_ble_eq_true rfl) (Nat.le_of_ble_eq_true rfl) ?_
  exact W.aret hx hb hr (Or.inr ⟨_, rfl⟩) (Or.inr ⟨_, rfl⟩) (fun t ht hW => ⟨⟨P2, q1, rfl, trivial, by rw [eP2, eP1, bx_uu], xn_in hK hE hO h0 hS hP hD ht hW⟩, hS.F ht⟩) hS.2.2 dX8_fresh_12 hlk
