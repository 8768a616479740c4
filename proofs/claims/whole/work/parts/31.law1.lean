set_option maxHeartbeats 4000000 in
set_option maxRecDepth 100000 in
theorem law_c0 {p : Program} {l : Launch} {e : Env} {s : State} {m : MethodId} {below : List Frame} {meth : Method} {c : Code} {b L : Nat} {xs : Nat → Int32} {G : xw_G} (hG : xw_ok G) (hB : CallFix p m c code 4 s #[Value.ref b] TB RL) (hK : va_K (xw_D G) xw_cl (xw_ty G) s) (hE : xw_E G s s.heap) (hX : va_X b L xs s s.heap) (hbl : b < s.heap.size) (hbA : ¬ xw_A G b) (hL : L ≤ 3072) {i : Nat} (hi : i + 6 ≤ L) (n : Nat) {w w1 w2 : xw_M} {r : Int32} (h1 : fX7_mourner (xs (i + 1)) (xs (i + 2)) (xs (i + 3)) (xs (i + 4)) w = some (r, w1)) (h2 : fX8_mourner n (xs (i + 1)) (xs (i + 2)) (xs (i + 3)) (xs (i + 4)) w1 = some (r, w2)) (kk : ∀ (H : Heap) (locs : List Loc) (ls : Array Slot), va_P (xw_D G) xw_cl (xw_W G w2) H → va_S (xw_A G) s.heap H locs → lv_has ls 4 [(0, .ref b), (1, .ref (xw_ad G 0)), (2, .ref (xw_ad G 119)), (3, .int (nI i))] → W p l e room_1 s m #[Value.ref b] below meth c H locs 141 5416 (lw_Z below #[Value.ref b] s) (F0 m 1184 ls [])) (H : Heap) (locs : List Loc) (ls : Array Slot) (hP : va_P (xw_D G) xw_cl (xw_W G w) H) (hS : va_S (xw_A G) s.heap H locs) (hl : lv_has ls 4 [(0, .ref b), (1, .ref (xw_ad G 0)), (2, .ref (xw_ad G 119)), (3, .int (nI i))]) : W p l e room_1 s m #[Value.ref b] below meth c H locs 141 5416 (lw_Z below #[Value.ref b] s) (F0 m 172 ls []) := by
  have hx := hB.1
  have hb := hB.2.1
  refine lv_aload_n hx hb dL_law_172 rfl (lv_at hl 1 rfl) ?_
  refine lv_aload_n hx hb dL_law_173 rfl (lv_at hl 0 rfl) ?_
  refine lv_iload_n hx hb dL_law_174 rfl (lv_at hl 3 rfl) ?_
  refine lv_iconst (v := 1) hx hb dL_law_175 (by decide) ?_
  refine lv_iadd hx hb dL_law_176 ?_
  refine xl_ld hx hb hX hbl hbA hS hL 1 rfl (by omega) dL_law_177 ?_
  refine lv_aload_n hx hb dL_law_178 rfl (lv_at hl 0 rfl) ?_
  refine lv_iload_n hx hb dL_law_179 rfl (lv_at hl 3 rfl) ?_
  refine lv_iconst (v := 2) hx hb dL_law_180 (by decide) ?_
  refine lv_iadd hx hb dL_law_181 ?_
  refine xl_ld hx hb hX hbl hbA hS hL 2 rfl (by omega) dL_law_182 ?_
  refine lv_aload_n hx hb dL_law_183 rfl (lv_at hl 0 rfl) ?_
  refine lv_iload_n hx hb dL_law_184 rfl (lv_at hl 3 rfl) ?_
  refine lv_iconst (v := 3) hx hb dL_law_185 (by decide) ?_
  refine lv_iadd hx hb dL_law_186 ?_
  refine xl_ld hx hb hX hbl hbA hS hL 3 rfl (by omega) dL_law_187 ?_
  refine lv_aload_n hx hb dL_law_188 rfl (lv_at hl 0 rfl) ?_
  refine lv_iload_n hx hb dL_law_189 rfl (lv_at hl 3 rfl) ?_
  refine lv_iconst (v := 4) hx hb dL_law_190 (by decide) ?_
  refine lv_iadd hx hb dL_law_191 ?_
  refine xl_ld hx hb hX hbl hbA hS hL 4 rfl (by omega) dL_law_192 ?_
  refine xw_Vi hB hK hE hS hP (As := [.int (xs (i + 1)), .int (xs (i + 2)), .int (xs (i + 3)), .int (xs (i + 4))]) (rest := []) (kX7_mourner l G hG (xs (i + 1)) (xs (i + 2)) (xs (i + 3)) (xs (i + 4)) w _ _ h1) gs_L_13 (xw_rc hK hP (C := RX7) (T := TX7) (N := 11) (xw_o7 G) rfl) 4 hv_X7_mourner ⟨Nat.le_of_ble_eq_true rfl, Nat.le_of_ble_eq_true rfl⟩ rfl hl.1 (Nat.le_of_ble_eq_true rfl) rfl dL_law_193 ⟨Nat.le_of_ble_eq_true rfl, Nat.le_of_ble_eq_true rfl⟩ (fun H locs hP hS => ?_)
  refine lv_aload_n hx hb dL_law_196 rfl (lv_at hl 2 rfl) ?_
  refine lv_aload_n hx hb dL_law_197 rfl (lv_at hl 0 rfl) ?_
  refine lv_iload_n hx hb dL_law_198 rfl (lv_at hl 3 rfl) ?_
  refine lv_iconst (v := 1) hx hb dL_law_199 (by decide) ?_
  refine lv_iadd hx hb dL_law_200 ?_
  refine xl_ld hx hb hX hbl hbA hS hL 1 rfl (by omega) dL_law_201 ?_
  refine lv_aload_n hx hb dL_law_202 rfl (lv_at hl 0 rfl) ?_
  refine lv_iload_n hx hb dL_law_203 rfl (lv_at hl 3 rfl) ?_
  refine lv_iconst (v := 2) hx hb dL_law_204 (by decide) ?_
  refine lv_iadd hx hb dL_law_205 ?_
  refine xl_ld hx hb hX hbl hbA hS hL 2 rfl (by omega) dL_law_206 ?_
  refine lv_aload_n hx hb dL_law_207 rfl (lv_at hl 0 rfl) ?_
  refine lv_iload_n hx hb dL_law_208 rfl (lv_at hl 3 rfl) ?_
  refine lv_iconst (v := 3) hx hb dL_law_209 (by decide) ?_
  refine lv_iadd hx hb dL_law_210 ?_
  refine xl_ld hx hb hX hbl hbA hS hL 3 rfl (by omega) dL_law_211 ?_
  refine lv_aload_n hx hb dL_law_212 rfl (lv_at hl 0 rfl) ?_
  refine lv_iload_n hx hb dL_law_213 rfl (lv_at hl 3 rfl) ?_
  refine lv_iconst (v := 4) hx hb dL_law_214 (by decide) ?_
  refine lv_iadd hx hb dL_law_215 ?_
  refine xl_ld hx hb hX hbl hbA hS hL 4 rfl (by omega) dL_law_216 ?_
  refine xw_Vi hB hK hE hS hP (As := [.int (xs (i + 1)), .int (xs (i + 2)), .int (xs (i + 3)), .int (xs (i + 4))]) (rest := [.int r]) (kX8_mourner l G hG n (xs (i + 1)) (xs (i + 2)) (xs (i + 3)) (xs (i + 4)) w1 _ _ h2) gs_L_17 (xw_rc hK hP (C := RX8) (T := TX8) (N := 31) (xw_o8 G) rfl) 4 hv_X8_mourner ⟨Nat.le_of_ble_eq_true rfl, Nat.le_of_ble_eq_true rfl⟩ rfl hl.1 (Nat.le_of_ble_eq_true rfl) rfl dL_law_217 ⟨Nat.le_of_ble_eq_true rfl, Nat.le_of_ble_eq_true rfl⟩ (fun H locs hP hS => ?_)
  refine lv_icmp_eq (tgt := 1184) hx hb dL_law_220 (by decide) (fun _ => ?_) (fun cx => absurd rfl cx)
  exact kk H locs ls hP hS hl
set_option maxHeartbeats 4000000 in
set_option maxRecDepth 100000 in
theorem law_c1 {p : Program} {l : Launch} {e : Env} {s : State} {m : MethodId} {below : List Frame} {meth : Method} {c : Code} {b L : Nat} {xs : Nat → Int32} {G : xw_G} (hG : xw_ok G) (hB : CallFix p m c code 4 s #[Value.ref b] TB RL) (hK : va_K (xw_D G) xw_cl (xw_ty G) s) (hE : xw_E G s s.heap) (hX : va_X b L xs s s.heap) (hbl : b < s.heap.size) (hbA : ¬ xw_A G b) (hL : L ≤ 3072) {i : Nat} (hi : i + 6 ≤ L) (n : Nat) {w w1 w2 : xw_M} {r : Int32} (h1 : fX7_of n (xs (i + 1)) (xs (i + 2)) w = some (r, w1)) (h2 : fX8_of n (xs (i + 1)) (xs (i + 2)) w1 = some (r, w2)) (kk : ∀ (H : Heap) (locs : List Loc) (ls : Array Slot), va_P (xw_D G) xw_cl (xw_W G w2) H → va_S (xw_A G) s.heap H locs → lv_has ls 4 [(0, .ref b), (1, .ref (xw_ad G 0)), (2, .ref (xw_ad G 119)), (3, .int (nI i))] → W p l e room_1 s m #[Value.ref b] below meth c H locs 141 5416 (lw_Z below #[Value.ref b] s) (F0 m 1184 ls [])) (H : Heap) (locs : List Loc) (ls : Array Slot) (hP : va_P (xw_D G) xw_cl (xw_W G w) H) (hS : va_S (xw_A G) s.heap H locs) (hl : lv_has ls 4 [(0, .ref b), (1, .ref (xw_ad G 0)), (2, .ref (xw_ad G 119)), (3, .int (nI i))]) : W p l e room_1 s m #[Value.ref b] below meth c H locs 141 5416 (lw_Z below #[Value.ref b] s) (F0 m 225 ls []) := by
  have hx := hB.1
  have hb := hB.2.1
  refine lv_aload_n hx hb dL_law_225 rfl (lv_at hl 1 rfl) ?_
  refine lv_aload_n hx hb dL_law_226 rfl (lv_at hl 0 rfl) ?_
  refine lv_iload_n hx hb dL_law_227 rfl (lv_at hl 3 rfl) ?_
  refine lv_iconst (v := 1) hx hb dL_law_228 (by decide) ?_
  refine lv_iadd hx hb dL_law_229 ?_
  refine xl_ld hx hb hX hbl hbA hS hL 1 rfl (by omega) dL_law_230 ?_
  refine lv_aload_n hx hb dL_law_231 rfl (lv_at hl 0 rfl) ?_
  refine lv_iload_n hx hb dL_law_232 rfl (lv_at hl 3 rfl) ?_
  refine lv_iconst (v := 2) hx hb dL_law_233 (by decide) ?_
  refine lv_iadd hx hb dL_law_234 ?_
  refine xl_ld hx hb hX hbl hbA hS hL 2 rfl (by omega) dL_law_235 ?_
  refine xw_Vi hB hK hE hS hP (As := [.int (xs (i + 1)), .int (xs (i + 2))]) (rest := []) (kX7_of l G hG n (xs (i + 1)) (xs (i + 2)) w _ _ h1) gs_L_18 (xw_rc hK hP (C := RX7) (T := TX7) (N := 11) (xw_o7 G) rfl) 2 hv_X7_of ⟨Nat.le_of_ble_eq_true rfl, Nat.le_of_ble_eq_true rfl⟩ rfl hl.1 (Nat.le_of_ble_eq_true rfl) rfl dL_law_236 ⟨Nat.le_of_ble_eq_true rfl, Nat.le_of_ble_eq_true rfl⟩ (fun H locs hP hS => ?_)
  refine lv_aload_n hx hb dL_law_239 rfl (lv_at hl 2 rfl) ?_
  refine lv_aload_n hx hb dL_law_240 rfl (lv_at hl 0 rfl) ?_
  refine lv_iload_n hx hb dL_law_241 rfl (lv_at hl 3 rfl) ?_
  refine lv_iconst (v := 1) hx hb dL_law_242 (by decide) ?_
  refine lv_iadd hx hb dL_law_243 ?_
  refine xl_ld hx hb hX hbl hbA hS hL 1 rfl (by omega) dL_law_244 ?_
  refine lv_aload_n hx hb dL_law_245 rfl (lv_at hl 0 rfl) ?_
  refine lv_iload_n hx hb dL_law_246 rfl (lv_at hl 3 rfl) ?_
  refine lv_iconst (v := 2) hx hb dL_law_247 (by decide) ?_
  refine lv_iadd hx hb dL_law_248 ?_
  refine xl_ld hx hb hX hbl hbA hS hL 2 rfl (by omega) dL_law_249 ?_
  refine xw_Vi hB hK hE hS hP (As := [.int (xs (i + 1)), .int (xs (i + 2))]) (rest := [.int r]) (kX8_of l G hG n (xs (i + 1)) (xs (i + 2)) w1 _ _ h2) gs_L_22 (xw_rc hK hP (C := RX8) (T := TX8) (N := 31) (xw_o8 G) rfl) 2 hv_X8_of ⟨Nat.le_of_ble_eq_true rfl, Nat.le_of_ble_eq_true rfl⟩ rfl hl.1 (Nat.le_of_ble_eq_true rfl) rfl dL_law_250 ⟨Nat.le_of_ble_eq_true rfl, Nat.le_of_ble_eq_true rfl⟩ (fun H locs hP hS => ?_)
  refine lv_icmp_eq (tgt := 1184) hx hb dL_law_253 (by decide) (fun _ => ?_) (fun cx => absurd rfl cx)
  exact kk H locs ls hP hS hl
set_option maxHeartbeats 4000000 in
set_option maxRecDepth 100000 in
theorem law_c2 {p : Program} {l : Launch} {e : Env} {s : State} {m : MethodId} {below : List Frame} {meth : Method} {c : Code} {b L : Nat} {xs : Nat → Int32} {G : xw_G} (hG : xw_ok G) (hB : CallFix p m c code 4 s #[Value.ref b] TB RL) (hK : va_K (xw_D G) xw_cl (xw_ty G) s) (hE : xw_E G s s.heap) (hX : va_X b L xs s s.heap) (hbl : b < s.heap.size) (hbA : ¬ xw_A G b) (hL : L ≤ 3072) {i : Nat} (hi : i + 6 ≤ L) (n : Nat) {w w1 w2 : xw_M} {r : Int32} (h1 : fX7_set (xs (i + 1)) (xs (i + 2)) (xs (i + 3)) w = some (r, w1)) (h2 : fX8_set (xs (i + 1)) (xs (i + 2)) (xs (i + 3)) w1 = some (r, w2)) (kk : ∀ (H : Heap) (locs : List Loc) (ls : Array Slot), va_P (xw_D G) xw_cl (xw_W G w2) H → va_S (xw_A G) s.heap H locs → lv_has ls 4 [(0, .ref b), (1, .ref (xw_ad G 0)), (2, .ref (xw_ad G 119)), (3, .int (nI i))] → W p l e room_1 s m #[Value.ref b] below meth c H locs 141 5416 (lw_Z below #[Value.ref b] s) (F0 m 1184 ls [])) (H : Heap) (locs : List Loc) (ls : Array Slot) (hP : va_P (xw_D G) xw_cl (xw_W G w) H) (hS : va_S (xw_A G) s.heap H locs) (hl : lv_has ls 4 [(0, .ref b), (1, .ref (xw_ad G 0)), (2, .ref (xw_ad G 119)), (3, .int (nI i))]) : W p l e room_1 s m #[Value.ref b] below meth c H locs 141 5416 (lw_Z below #[Value.ref b] s) (F0 m 258 ls []) := by
  have hx := hB.1
  have hb := hB.2.1
  refine lv_aload_n hx hb dL_law_258 rfl (lv_at hl 1 rfl) ?_
  refine lv_aload_n hx hb dL_law_259 rfl (lv_at hl 0 rfl) ?_
  refine lv_iload_n hx hb dL_law_260 rfl (lv_at hl 3 rfl) ?_
  refine lv_iconst (v := 1) hx hb dL_law_261 (by decide) ?_
  refine lv_iadd hx hb dL_law_262 ?_
  refine xl_ld hx hb hX hbl hbA hS hL 1 rfl (by omega) dL_law_263 ?_
  refine lv_aload_n hx hb dL_law_264 rfl (lv_at hl 0 rfl) ?_
  refine lv_iload_n hx hb dL_law_265 rfl (lv_at hl 3 rfl) ?_
  refine lv_iconst (v := 2) hx hb dL_law_266 (by decide) ?_
  refine lv_iadd hx hb dL_law_267 ?_
  refine xl_ld hx hb hX hbl hbA hS hL 2 rfl (by omega) dL_law_268 ?_
  refine lv_aload_n hx hb dL_law_269 rfl (lv_at hl 0 rfl) ?_
  refine lv_iload_n hx hb dL_law_270 rfl (lv_at hl 3 rfl) ?_
  refine lv_iconst (v := 3) hx hb dL_law_271 (by decide) ?_
  refine lv_iadd hx hb dL_law_272 ?_
  refine xl_ld hx hb hX hbl hbA hS hL 3 rfl (by omega) dL_law_273 ?_
  refine xw_Vi hB hK hE hS hP (As := [.int (xs (i + 1)), .int (xs (i + 2)), .int (xs (i + 3))]) (rest := []) (kX7_set l G hG (xs (i + 1)) (xs (i + 2)) (xs (i + 3)) w _ _ h1) gs_L_23 (xw_rc hK hP (C := RX7) (T := TX7) (N := 11) (xw_o7 G) rfl) 3 hv_X7_set ⟨Nat.le_of_ble_eq_true rfl, Nat.le_of_ble_eq_true rfl⟩ rfl hl.1 (Nat.le_of_ble_eq_true rfl) rfl dL_law_274 ⟨Nat.le_of_ble_eq_true rfl, Nat.le_of_ble_eq_true rfl⟩ (fun H locs hP hS => ?_)
  refine lv_aload_n hx hb dL_law_277 rfl (lv_at hl 2 rfl) ?_
  refine lv_aload_n hx hb dL_law_278 rfl (lv_at hl 0 rfl) ?_
  refine lv_iload_n hx hb dL_law_279 rfl (lv_at hl 3 rfl) ?_
  refine lv_iconst (v := 1) hx hb dL_law_280 (by decide) ?_
  refine lv_iadd hx hb dL_law_281 ?_
  refine xl_ld hx hb hX hbl hbA hS hL 1 rfl (by omega) dL_law_282 ?_
  refine lv_aload_n hx hb dL_law_283 rfl (lv_at hl 0 rfl) ?_
  refine lv_iload_n hx hb dL_law_284 rfl (lv_at hl 3 rfl) ?_
  refine lv_iconst (v := 2) hx hb dL_law_285 (by decide) ?_
  refine lv_iadd hx hb dL_law_286 ?_
  refine xl_ld hx hb hX hbl hbA hS hL 2 rfl (by omega) dL_law_287 ?_
  refine lv_aload_n hx hb dL_law_288 rfl (lv_at hl 0 rfl) ?_
  refine lv_iload_n hx hb dL_law_289 rfl (lv_at hl 3 rfl) ?_
  refine lv_iconst (v := 3) hx hb dL_law_290 (by decide) ?_
  refine lv_iadd hx hb dL_law_291 ?_
  refine xl_ld hx hb hX hbl hbA hS hL 3 rfl (by omega) dL_law_292 ?_
  refine xw_Vi hB hK hE hS hP (As := [.int (xs (i + 1)), .int (xs (i + 2)), .int (xs (i + 3))]) (rest := [.int r]) (kX8_set l G hG (xs (i + 1)) (xs (i + 2)) (xs (i + 3)) w1 _ _ h2) gs_L_27 (xw_rc hK hP (C := RX8) (T := TX8) (N := 31) (xw_o8 G) rfl) 3 hv_X8_set ⟨Nat.le_of_ble_eq_true rfl, Nat.le_of_ble_eq_true rfl⟩ rfl hl.1 (Nat.le_of_ble_eq_true rfl) rfl dL_law_293 ⟨Nat.le_of_ble_eq_true rfl, Nat.le_of_ble_eq_true rfl⟩ (fun H locs hP hS => ?_)
  refine lv_icmp_eq (tgt := 1184) hx hb dL_law_296 (by decide) (fun _ => ?_) (fun cx => absurd rfl cx)
  exact kk H locs ls hP hS hl
set_option maxHeartbeats 4000000 in
set_option maxRecDepth 100000 in
theorem law_c3 {p : Program} {l : Launch} {e : Env} {s : State} {m : MethodId} {below : List Frame} {meth : Method} {c : Code} {b L : Nat} {xs : Nat → Int32} {G : xw_G} (hG : xw_ok G) (hB : CallFix p m c code 4 s #[Value.ref b] TB RL) (hK : va_K (xw_D G) xw_cl (xw_ty G) s) (hE : xw_E G s s.heap) (hX : va_X b L xs s s.heap) (hbl : b < s.heap.size) (hbA : ¬ xw_A G b) (hL : L ≤ 3072) {i : Nat} (hi : i + 6 ≤ L) (n : Nat) {w w1 w2 : xw_M} {r : Int32} (h1 : fX7_away (xs (i + 1)) (if xs (i + 2) = 0 then 0 else 1) w = some (r, w1)) (h2 : fX8_away (xs (i + 1)) (if xs (i + 2) = 0 then 0 else 1) w1 = some (r, w2)) (kk : ∀ (H : Heap) (locs : List Loc) (ls : Array Slot), va_P (xw_D G) xw_cl (xw_W G w2) H → va_S (xw_A G) s.heap H locs → lv_has ls 4 [(0, .ref b), (1, .ref (xw_ad G 0)), (2, .ref (xw_ad G 119)), (3, .int (nI i))] → W p l e room_1 s m #[Value.ref b] below meth c H locs 141 5416 (lw_Z below #[Value.ref b] s) (F0 m 1184 ls [])) (H : Heap) (locs : List Loc) (ls : Array Slot) (hP : va_P (xw_D G) xw_cl (xw_W G w) H) (hS : va_S (xw_A G) s.heap H locs) (hl : lv_has ls 4 [(0, .ref b), (1, .ref (xw_ad G 0)), (2, .ref (xw_ad G 119)), (3, .int (nI i))]) : W p l e room_1 s m #[Value.ref b] below meth c H locs 141 5416 (lw_Z below #[Value.ref b] s) (F0 m 301 ls []) := by
  have hx := hB.1
  have hb := hB.2.1
  refine lv_aload_n hx hb dL_law_301 rfl (lv_at hl 1 rfl) ?_
  refine lv_aload_n hx hb dL_law_302 rfl (lv_at hl 0 rfl) ?_
  refine lv_iload_n hx hb dL_law_303 rfl (lv_at hl 3 rfl) ?_
  refine lv_iconst (v := 1) hx hb dL_law_304 (by decide) ?_
  refine lv_iadd hx hb dL_law_305 ?_
  refine xl_ld hx hb hX hbl hbA hS hL 1 rfl (by omega) dL_law_306 ?_
  refine lv_aload_n hx hb dL_law_307 rfl (lv_at hl 0 rfl) ?_
  refine lv_iload_n hx hb dL_law_308 rfl (lv_at hl 3 rfl) ?_
  refine lv_iconst (v := 2) hx hb dL_law_309 (by decide) ?_
  refine lv_iadd hx hb dL_law_310 ?_
  refine xl_ld hx hb hX hbl hbA hS hL 2 rfl (by omega) dL_law_311 ?_
  refine lv_if_eq (tgt := 319) hx hb dL_law_312 (by decide) (fun ca => ?_) (fun ca => ?_)
  · rw [if_pos ca] at h1 h2
    refine lv_iconst (v := 0) hx hb dL_law_319 (by decide) ?_
    refine xw_Vi hB hK hE hS hP (As := [.int (xs (i + 1)), .int (0 : Int32)]) (rest := []) (kX7_away l G hG (xs (i + 1)) (0 : Int32) w _ _ h1) gs_L_28 (xw_rc hK hP (C := RX7) (T := TX7) (N := 11) (xw_o7 G) rfl) 2 hv_X7_away ⟨Nat.le_of_ble_eq_true rfl, Nat.le_of_ble_eq_true rfl⟩ rfl hl.1 (Nat.le_of_ble_eq_true rfl) rfl dL_law_320 ⟨Nat.le_of_ble_eq_true rfl, Nat.le_of_ble_eq_true rfl⟩ (fun H locs hP hS => ?_)
    refine lv_aload_n hx hb dL_law_323 rfl (lv_at hl 2 rfl) ?_
    refine lv_aload_n hx hb dL_law_324 rfl (lv_at hl 0 rfl) ?_
    refine lv_iload_n hx hb dL_law_325 rfl (lv_at hl 3 rfl) ?_
    refine lv_iconst (v := 1) hx hb dL_law_326 (by decide) ?_
    refine lv_iadd hx hb dL_law_327 ?_
    refine xl_ld hx hb hX hbl hbA hS hL 1 rfl (by omega) dL_law_328 ?_
    refine lv_aload_n hx hb dL_law_329 rfl (lv_at hl 0 rfl) ?_
    refine lv_iload_n hx hb dL_law_330 rfl (lv_at hl 3 rfl) ?_
    refine lv_iconst (v := 2) hx hb dL_law_331 (by decide) ?_
    refine lv_iadd hx hb dL_law_332 ?_
    refine xl_ld hx hb hX hbl hbA hS hL 2 rfl (by omega) dL_law_333 ?_
    refine lv_if_eq (tgt := 341) hx hb dL_law_334 (by decide) (fun ca => ?_) (fun cb => ?_)
    · refine lv_iconst (v := 0) hx hb dL_law_341 (by decide) ?_
      refine xw_Vi hB hK hE hS hP (As := [.int (xs (i + 1)), .int (0 : Int32)]) (rest := [.int r]) (kX8_away l G hG (xs (i + 1)) (0 : Int32) w1 _ _ h2) gs_L_32 (xw_rc hK hP (C := RX8) (T := TX8) (N := 31) (xw_o8 G) rfl) 2 hv_X8_away ⟨Nat.le_of_ble_eq_true rfl, Nat.le_of_ble_eq_true rfl⟩ rfl hl.1 (Nat.le_of_ble_eq_true rfl) rfl dL_law_342 ⟨Nat.le_of_ble_eq_true rfl, Nat.le_of_ble_eq_true rfl⟩ (fun H locs hP hS => ?_)
      refine lv_icmp_eq (tgt := 1184) hx hb dL_law_345 (by decide) (fun _ => ?_) (fun cx => absurd rfl cx)
      exact kk H locs ls hP hS hl
    · exact absurd ca cb
  · rw [if_neg ca] at h1 h2
    refine lv_iconst (v := 1) hx hb dL_law_315 (by decide) ?_
    refine lv_goto (tgt := 320) hx hb dL_law_316 (by decide) ?_
    refine xw_Vi hB hK hE hS hP (As := [.int (xs (i + 1)), .int (1 : Int32)]) (rest := []) (kX7_away l G hG (xs (i + 1)) (1 : Int32) w _ _ h1) gs_L_28 (xw_rc hK hP (C := RX7) (T := TX7) (N := 11) (xw_o7 G) rfl) 2 hv_X7_away ⟨Nat.le_of_ble_eq_true rfl, Nat.le_of_ble_eq_true rfl⟩ rfl hl.1 (Nat.le_of_ble_eq_true rfl) rfl dL_law_320 ⟨Nat.le_of_ble_eq_true rfl, Nat.le_of_ble_eq_true rfl⟩ (fun H locs hP hS => ?_)
    refine lv_aload_n hx hb dL_law_323 rfl (lv_at hl 2 rfl) ?_
    refine lv_aload_n hx hb dL_law_324 rfl (lv_at hl 0 rfl) ?_
    refine lv_iload_n hx hb dL_law_325 rfl (lv_at hl 3 rfl) ?_
    refine lv_iconst (v := 1) hx hb dL_law_326 (by decide) ?_
    refine lv_iadd hx hb dL_law_327 ?_
    refine xl_ld hx hb hX hbl hbA hS hL 1 rfl (by omega) dL_law_328 ?_
    refine lv_aload_n hx hb dL_law_329 rfl (lv_at hl 0 rfl) ?_
    refine lv_iload_n hx hb dL_law_330 rfl (lv_at hl 3 rfl) ?_
    refine lv_iconst (v := 2) hx hb dL_law_331 (by decide) ?_
    refine lv_iadd hx hb dL_law_332 ?_
    refine xl_ld hx hb hX hbl hbA hS hL 2 rfl (by omega) dL_law_333 ?_
    refine lv_if_eq (tgt := 341) hx hb dL_law_334 (by decide) (fun ca => ?_) (fun cb => ?_)
    · exact absurd ca (by assumption)
    · refine lv_iconst (v := 1) hx hb dL_law_337 (by decide) ?_
      refine lv_goto (tgt := 342) hx hb dL_law_338 (by decide) ?_
      refine xw_Vi hB hK hE hS hP (As := [.int (xs (i + 1)), .int (1 : Int32)]) (rest := [.int r]) (kX8_away l G hG (xs (i + 1)) (1 : Int32) w1 _ _ h2) gs_L_32 (xw_rc hK hP (C := RX8) (T := TX8) (N := 31) (xw_o8 G) rfl) 2 hv_X8_away ⟨Nat.le_of_ble_eq_true rfl, Nat.le_of_ble_eq_true rfl⟩ rfl hl.1 (Nat.le_of_ble_eq_true rfl) rfl dL_law_342 ⟨Nat.le_of_ble_eq_true rfl, Nat.le_of_ble_eq_true rfl⟩ (fun H locs hP hS => ?_)
      refine lv_icmp_eq (tgt := 1184) hx hb dL_law_345 (by decide) (fun _ => ?_) (fun cx => absurd rfl cx)
      exact kk H locs ls hP hS hl
set_option maxHeartbeats 4000000 in
set_option maxRecDepth 100000 in
theorem law_c4 {p : Program} {l : Launch} {e : Env} {s : State} {m : MethodId} {below : List Frame} {meth : Method} {c : Code} {b L : Nat} {xs : Nat → Int32} {G : xw_G} (hG : xw_ok G) (hB : CallFix p m c code 4 s #[Value.ref b] TB RL) (hK : va_K (xw_D G) xw_cl (xw_ty G) s) (hE : xw_E G s s.heap) (hX : va_X b L xs s s.heap) (hbl : b < s.heap.size) (hbA : ¬ xw_A G b) (hL : L ≤ 3072) {i : Nat} (hi : i + 6 ≤ L) (n : Nat) {w w1 w2 : xw_M} {r : Int32} (h1 : fX7_debt (xs (i + 1)) w = some (r, w1)) (h2 : fX8_debt (xs (i + 1)) w1 = some (r, w2)) (kk : ∀ (H : Heap) (locs : List Loc) (ls : Array Slot), va_P (xw_D G) xw_cl (xw_W G w2) H → va_S (xw_A G) s.heap H locs → lv_has ls 4 [(0, .ref b), (1, .ref (xw_ad G 0)), (2, .ref (xw_ad G 119)), (3, .int (nI i))] → W p l e room_1 s m #[Value.ref b] below meth c H locs 141 5416 (lw_Z below #[Value.ref b] s) (F0 m 1184 ls [])) (H : Heap) (locs : List Loc) (ls : Array Slot) (hP : va_P (xw_D G) xw_cl (xw_W G w) H) (hS : va_S (xw_A G) s.heap H locs) (hl : lv_has ls 4 [(0, .ref b), (1, .ref (xw_ad G 0)), (2, .ref (xw_ad G 119)), (3, .int (nI i))]) : W p l e room_1 s m #[Value.ref b] below meth c H locs 141 5416 (lw_Z below #[Value.ref b] s) (F0 m 350 ls []) := by
  have hx := hB.1
  have hb := hB.2.1
  refine lv_aload_n hx hb dL_law_350 rfl (lv_at hl 1 rfl) ?_
  refine lv_aload_n hx hb dL_law_351 rfl (lv_at hl 0 rfl) ?_
  refine lv_iload_n hx hb dL_law_352 rfl (lv_at hl 3 rfl) ?_
  refine lv_iconst (v := 1) hx hb dL_law_353 (by decide) ?_
  refine lv_iadd hx hb dL_law_354 ?_
  refine xl_ld hx hb hX hbl hbA hS hL 1 rfl (by omega) dL_law_355 ?_
  refine xw_Vi hB hK hE hS hP (As := [.int (xs (i + 1))]) (rest := []) (kX7_debt l G hG (xs (i + 1)) w _ _ h1) gs_L_33 (xw_rc hK hP (C := RX7) (T := TX7) (N := 11) (xw_o7 G) rfl) 1 hv_X7_debt ⟨Nat.le_of_ble_eq_true rfl, Nat.le_of_ble_eq_true rfl⟩ rfl hl.1 (Nat.le_of_ble_eq_true rfl) rfl dL_law_356 ⟨Nat.le_of_ble_eq_true rfl, Nat.le_of_ble_eq_true rfl⟩ (fun H locs hP hS => ?_)
  refine lv_aload_n hx hb dL_law_359 rfl (lv_at hl 2 rfl) ?_
  refine lv_aload_n hx hb dL_law_360 rfl (lv_at hl 0 rfl) ?_
  refine lv_iload_n hx hb dL_law_361 rfl (lv_at hl 3 rfl) ?_
  refine lv_iconst (v := 1) hx hb dL_law_362 (by decide) ?_
  refine lv_iadd hx hb dL_law_363 ?_
  refine xl_ld hx hb hX hbl hbA hS hL 1 rfl (by omega) dL_law_364 ?_
  refine xw_Vi hB hK hE hS hP (As := [.int (xs (i + 1))]) (rest := [.int r]) (kX8_debt l G hG (xs (i + 1)) w1 _ _ h2) gs_L_37 (xw_rc hK hP (C := RX8) (T := TX8) (N := 31) (xw_o8 G) rfl) 1 hv_X8_debt ⟨Nat.le_of_ble_eq_true rfl, Nat.le_of_ble_eq_true rfl⟩ rfl hl.1 (Nat.le_of_ble_eq_true rfl) rfl dL_law_365 ⟨Nat.le_of_ble_eq_true rfl, Nat.le_of_ble_eq_true rfl⟩ (fun H locs hP hS => ?_)
  refine lv_icmp_eq (tgt := 1184) hx hb dL_law_368 (by decide) (fun _ => ?_) (fun cx => absurd rfl cx)
  exact kk H locs ls hP hS hl
set_option maxHeartbeats 4000000 in
set_option maxRecDepth 100000 in
theorem law_c5 {p : Program} {l : Launch} {e : Env} {s : State} {m : MethodId} {below : List Frame} {meth : Method} {c : Code} {b L : Nat} {xs : Nat → Int32} {G : xw_G} (hG : xw_ok G) (hB : CallFix p m c code 4 s #[Value.ref b] TB RL) (hK : va_K (xw_D G) xw_cl (xw_ty G) s) (hE : xw_E G s s.heap) (hX : va_X b L xs s s.heap) (hbl : b < s.heap.size) (hbA : ¬ xw_A G b) (hL : L ≤ 3072) {i : Nat} (hi : i + 6 ≤ L) (n : Nat) {w w1 w2 : xw_M} {r : Int32} (h1 : fX7_row (xs (i + 1)) (xs (i + 2)) (xs (i + 3)) w = some (r, w1)) (h2 : fX8_row (xs (i + 1)) (xs (i + 2)) (xs (i + 3)) w1 = some (r, w2)) (kk : ∀ (H : Heap) (locs : List Loc) (ls : Array Slot), va_P (xw_D G) xw_cl (xw_W G w2) H → va_S (xw_A G) s.heap H locs → lv_has ls 4 [(0, .ref b), (1, .ref (xw_ad G 0)), (2, .ref (xw_ad G 119)), (3, .int (nI i))] → W p l e room_1 s m #[Value.ref b] below meth c H locs 141 5416 (lw_Z below #[Value.ref b] s) (F0 m 1184 ls [])) (H : Heap) (locs : List Loc) (ls : Array Slot) (hP : va_P (xw_D G) xw_cl (xw_W G w) H) (hS : va_S (xw_A G) s.heap H locs) (hl : lv_has ls 4 [(0, .ref b), (1, .ref (xw_ad G 0)), (2, .ref (xw_ad G 119)), (3, .int (nI i))]) : W p l e room_1 s m #[Value.ref b] below meth c H locs 141 5416 (lw_Z below #[Value.ref b] s) (F0 m 373 ls []) := by
  have hx := hB.1
  have hb := hB.2.1
  refine lv_aload_n hx hb dL_law_373 rfl (lv_at hl 1 rfl) ?_
  refine lv_aload_n hx hb dL_law_374 rfl (lv_at hl 0 rfl) ?_
  refine lv_iload_n hx hb dL_law_375 rfl (lv_at hl 3 rfl) ?_
  refine lv_iconst (v := 1) hx hb dL_law_376 (by decide) ?_
  refine lv_iadd hx hb dL_law_377 ?_
  refine xl_ld hx hb hX hbl hbA hS hL 1 rfl (by omega) dL_law_378 ?_
  refine lv_aload_n hx hb dL_law_379 rfl (lv_at hl 0 rfl) ?_
  refine lv_iload_n hx hb dL_law_380 rfl (lv_at hl 3 rfl) ?_
  refine lv_iconst (v := 2) hx hb dL_law_381 (by decide) ?_
  refine lv_iadd hx hb dL_law_382 ?_
  refine xl_ld hx hb hX hbl hbA hS hL 2 rfl (by omega) dL_law_383 ?_
  refine lv_aload_n hx hb dL_law_384 rfl (lv_at hl 0 rfl) ?_
  refine lv_iload_n hx hb dL_law_385 rfl (lv_at hl 3 rfl) ?_
  refine lv_iconst (v := 3) hx hb dL_law_386 (by decide) ?_
  refine lv_iadd hx hb dL_law_387 ?_
  refine xl_ld hx hb hX hbl hbA hS hL 3 rfl (by omega) dL_law_388 ?_
  refine xw_Vi hB hK hE hS hP (As := [.int (xs (i + 1)), .int (xs (i + 2)), .int (xs (i + 3))]) (rest := []) (kX7_row l G hG (xs (i + 1)) (xs (i + 2)) (xs (i + 3)) w _ _ h1) gs_L_38 (xw_rc hK hP (C := RX7) (T := TX7) (N := 11) (xw_o7 G) rfl) 3 hv_X7_row ⟨Nat.le_of_ble_eq_true rfl, Nat.le_of_ble_eq_true rfl⟩ rfl hl.1 (Nat.le_of_ble_eq_true rfl) rfl dL_law_389 ⟨Nat.le_of_ble_eq_true rfl, Nat.le_of_ble_eq_true rfl⟩ (fun H locs hP hS => ?_)
  refine lv_aload_n hx hb dL_law_392 rfl (lv_at hl 2 rfl) ?_
  refine lv_aload_n hx hb dL_law_393 rfl (lv_at hl 0 rfl) ?_
  refine lv_iload_n hx hb dL_law_394 rfl (lv_at hl 3 rfl) ?_
  refine lv_iconst (v := 1) hx hb dL_law_395 (by decide) ?_
  refine lv_iadd hx hb dL_law_396 ?_
  refine xl_ld hx hb hX hbl hbA hS hL 1 rfl (by omega) dL_law_397 ?_
  refine lv_aload_n hx hb dL_law_398 rfl (lv_at hl 0 rfl) ?_
  refine lv_iload_n hx hb dL_law_399 rfl (lv_at hl 3 rfl) ?_
  refine lv_iconst (v := 2) hx hb dL_law_400 (by decide) ?_
  refine lv_iadd hx hb dL_law_401 ?_
  refine xl_ld hx hb hX hbl hbA hS hL 2 rfl (by omega) dL_law_402 ?_
  refine lv_aload_n hx hb dL_law_403 rfl (lv_at hl 0 rfl) ?_
  refine lv_iload_n hx hb dL_law_404 rfl (lv_at hl 3 rfl) ?_
  refine lv_iconst (v := 3) hx hb dL_law_405 (by decide) ?_
  refine lv_iadd hx hb dL_law_406 ?_
  refine xl_ld hx hb hX hbl hbA hS hL 3 rfl (by omega) dL_law_407 ?_
  refine xw_Vi hB hK hE hS hP (As := [.int (xs (i + 1)), .int (xs (i + 2)), .int (xs (i + 3))]) (rest := [.int r]) (kX8_row l G hG (xs (i + 1)) (xs (i + 2)) (xs (i + 3)) w1 _ _ h2) gs_L_41 (xw_rc hK hP (C := RX8) (T := TX8) (N := 31) (xw_o8 G) rfl) 3 hv_X8_row ⟨Nat.le_of_ble_eq_true rfl, Nat.le_of_ble_eq_true rfl⟩ rfl hl.1 (Nat.le_of_ble_eq_true rfl) rfl dL_law_408 ⟨Nat.le_of_ble_eq_true rfl, Nat.le_of_ble_eq_true rfl⟩ (fun H locs hP hS => ?_)
  refine lv_icmp_eq (tgt := 1184) hx hb dL_law_411 (by decide) (fun _ => ?_) (fun cx => absurd rfl cx)
  exact kk H locs ls hP hS hl
set_option maxHeartbeats 4000000 in
set_option maxRecDepth 100000 in
theorem law_c6 {p : Program} {l : Launch} {e : Env} {s : State} {m : MethodId} {below : List Frame} {meth : Method} {c : Code} {b L : Nat} {xs : Nat → Int32} {G : xw_G} (hG : xw_ok G) (hB : CallFix p m c code 4 s #[Value.ref b] TB RL) (hK : va_K (xw_D G) xw_cl (xw_ty G) s) (hE : xw_E G s s.heap) (hX : va_X b L xs s s.heap) (hbl : b < s.heap.size) (hbA : ¬ xw_A G b) (hL : L ≤ 3072) {i : Nat} (hi : i + 6 ≤ L) (n : Nat) {w w1 w2 : xw_M} {r : Int32} (h1 : fX7_feed (xs (i + 1)) w = some (r, w1)) (h2 : fX8_feed (xs (i + 1)) w1 = some (r, w2)) (kk : ∀ (H : Heap) (locs : List Loc) (ls : Array Slot), va_P (xw_D G) xw_cl (xw_W G w2) H → va_S (xw_A G) s.heap H locs → lv_has ls 4 [(0, .ref b), (1, .ref (xw_ad G 0)), (2, .ref (xw_ad G 119)), (3, .int (nI i))] → W p l e room_1 s m #[Value.ref b] below meth c H locs 141 5416 (lw_Z below #[Value.ref b] s) (F0 m 1184 ls [])) (H : Heap) (locs : List Loc) (ls : Array Slot) (hP : va_P (xw_D G) xw_cl (xw_W G w) H) (hS : va_S (xw_A G) s.heap H locs) (hl : lv_has ls 4 [(0, .ref b), (1, .ref (xw_ad G 0)), (2, .ref (xw_ad G 119)), (3, .int (nI i))]) : W p l e room_1 s m #[Value.ref b] below meth c H locs 141 5416 (lw_Z below #[Value.ref b] s) (F0 m 416 ls []) := by
  have hx := hB.1
  have hb := hB.2.1
  refine lv_aload_n hx hb dL_law_416 rfl (lv_at hl 1 rfl) ?_
  refine lv_aload_n hx hb dL_law_417 rfl (lv_at hl 0 rfl) ?_
  refine lv_iload_n hx hb dL_law_418 rfl (lv_at hl 3 rfl) ?_
  refine lv_iconst (v := 1) hx hb dL_law_419 (by decide) ?_
  refine lv_iadd hx hb dL_law_420 ?_
  refine xl_ld hx hb hX hbl hbA hS hL 1 rfl (by omega) dL_law_421 ?_
  refine xw_Vi hB hK hE hS hP (As := [.int (xs (i + 1))]) (rest := []) (kX7_feed l G hG (xs (i + 1)) w _ _ h1) gs_L_42 (xw_rc hK hP (C := RX7) (T := TX7) (N := 11) (xw_o7 G) rfl) 1 hv_X7_feed ⟨Nat.le_of_ble_eq_true rfl, Nat.le_of_ble_eq_true rfl⟩ rfl hl.1 (Nat.le_of_ble_eq_true rfl) rfl dL_law_422 ⟨Nat.le_of_ble_eq_true rfl, Nat.le_of_ble_eq_true rfl⟩ (fun H locs hP hS => ?_)
  refine lv_aload_n hx hb dL_law_425 rfl (lv_at hl 2 rfl) ?_
  refine lv_aload_n hx hb dL_law_426 rfl (lv_at hl 0 rfl) ?_
  refine lv_iload_n hx hb dL_law_427 rfl (lv_at hl 3 rfl) ?_
  refine lv_iconst (v := 1) hx hb dL_law_428 (by decide) ?_
  refine lv_iadd hx hb dL_law_429 ?_
  refine xl_ld hx hb hX hbl hbA hS hL 1 rfl (by omega) dL_law_430 ?_
  refine xw_Vi hB hK hE hS hP (As := [.int (xs (i + 1))]) (rest := [.int r]) (kX8_feed l G hG (xs (i + 1)) w1 _ _ h2) gs_L_45 (xw_rc hK hP (C := RX8) (T := TX8) (N := 31) (xw_o8 G) rfl) 1 hv_X8_feed ⟨Nat.le_of_ble_eq_true rfl, Nat.le_of_ble_eq_true rfl⟩ rfl hl.1 (Nat.le_of_ble_eq_true rfl) rfl dL_law_431 ⟨Nat.le_of_ble_eq_true rfl, Nat.le_of_ble_eq_true rfl⟩ (fun H locs hP hS => ?_)
  refine lv_icmp_eq (tgt := 1184) hx hb dL_law_434 (by decide) (fun _ => ?_) (fun cx => absurd rfl cx)
  exact kk H locs ls hP hS hl
set_option maxHeartbeats 4000000 in
set_option maxRecDepth 100000 in
theorem law_c7 {p : Program} {l : Launch} {e : Env} {s : State} {m : MethodId} {below : List Frame} {meth : Method} {c : Code} {b L : Nat} {xs : Nat → Int32} {G : xw_G} (hG : xw_ok G) (hB : CallFix p m c code 4 s #[Value.ref b] TB RL) (hK : va_K (xw_D G) xw_cl (xw_ty G) s) (hE : xw_E G s s.heap) (hX : va_X b L xs s s.heap) (hbl : b < s.heap.size) (hbA : ¬ xw_A G b) (hL : L ≤ 3072) {i : Nat} (hi : i + 6 ≤ L) (n : Nat) {w w1 w2 : xw_M} {r : Int32} (h1 : fX7_parish n w = some (r, w1)) (h2 : fX8_parish n w1 = some (r, w2)) (kk : ∀ (H : Heap) (locs : List Loc) (ls : Array Slot), va_P (xw_D G) xw_cl (xw_W G w2) H → va_S (xw_A G) s.heap H locs → lv_has ls 4 [(0, .ref b), (1, .ref (xw_ad G 0)), (2, .ref (xw_ad G 119)), (3, .int (nI i))] → W p l e room_1 s m #[Value.ref b] below meth c H locs 141 5416 (lw_Z below #[Value.ref b] s) (F0 m 1184 ls [])) (H : Heap) (locs : List Loc) (ls : Array Slot) (hP : va_P (xw_D G) xw_cl (xw_W G w) H) (hS : va_S (xw_A G) s.heap H locs) (hl : lv_has ls 4 [(0, .ref b), (1, .ref (xw_ad G 0)), (2, .ref (xw_ad G 119)), (3, .int (nI i))]) : W p l e room_1 s m #[Value.ref b] below meth c H locs 141 5416 (lw_Z below #[Value.ref b] s) (F0 m 439 ls []) := by
  have hx := hB.1
  have hb := hB.2.1
  refine lv_aload_n hx hb dL_law_439 rfl (lv_at hl 1 rfl) ?_
  refine xw_Vi hB hK hE hS hP (As := []) (rest := []) (kX7_parish l G hG n w _ _ h1) gs_L_46 (xw_rc hK hP (C := RX7) (T := TX7) (N := 11) (xw_o7 G) rfl) 0 hv_X7_parish ⟨Nat.le_of_ble_eq_true rfl, Nat.le_of_ble_eq_true rfl⟩ rfl hl.1 (Nat.le_of_ble_eq_true rfl) rfl dL_law_440 ⟨Nat.le_of_ble_eq_true rfl, Nat.le_of_ble_eq_true rfl⟩ (fun H locs hP hS => ?_)
  refine lv_aload_n hx hb dL_law_443 rfl (lv_at hl 2 rfl) ?_
  refine xw_Vi hB hK hE hS hP (As := []) (rest := [.int r]) (kX8_parish l G hG n w1 _ _ h2) gs_L_50 (xw_rc hK hP (C := RX8) (T := TX8) (N := 31) (xw_o8 G) rfl) 0 hv_X8_parish ⟨Nat.le_of_ble_eq_true rfl, Nat.le_of_ble_eq_true rfl⟩ rfl hl.1 (Nat.le_of_ble_eq_true rfl) rfl dL_law_444 ⟨Nat.le_of_ble_eq_true rfl, Nat.le_of_ble_eq_true rfl⟩ (fun H locs hP hS => ?_)
  refine lv_icmp_eq (tgt := 1184) hx hb dL_law_447 (by decide) (fun _ => ?_) (fun cx => absurd rfl cx)
  exact kk H locs ls hP hS hl
set_option maxHeartbeats 4000000 in
set_option maxRecDepth 100000 in
theorem law_c8 {p : Program} {l : Launch} {e : Env} {s : State} {m : MethodId} {below : List Frame} {meth : Method} {c : Code} {b L : Nat} {xs : Nat → Int32} {G : xw_G} (hG : xw_ok G) (hB : CallFix p m c code 4 s #[Value.ref b] TB RL) (hK : va_K (xw_D G) xw_cl (xw_ty G) s) (hE : xw_E G s s.heap) (hX : va_X b L xs s s.heap) (hbl : b < s.heap.size) (hbA : ¬ xw_A G b) (hL : L ≤ 3072) {i : Nat} (hi : i + 6 ≤ L) (n : Nat) {w w1 w2 : xw_M} {r : Int32} (h1 : fX7_told n (xs (i + 1)) w = some (r, w1)) (h2 : fX8_told n (xs (i + 1)) w1 = some (r, w2)) (kk : ∀ (H : Heap) (locs : List Loc) (ls : Array Slot), va_P (xw_D G) xw_cl (xw_W G w2) H → va_S (xw_A G) s.heap H locs → lv_has ls 4 [(0, .ref b), (1, .ref (xw_ad G 0)), (2, .ref (xw_ad G 119)), (3, .int (nI i))] → W p l e room_1 s m #[Value.ref b] below meth c H locs 141 5416 (lw_Z below #[Value.ref b] s) (F0 m 1184 ls [])) (H : Heap) (locs : List Loc) (ls : Array Slot) (hP : va_P (xw_D G) xw_cl (xw_W G w) H) (hS : va_S (xw_A G) s.heap H locs) (hl : lv_has ls 4 [(0, .ref b), (1, .ref (xw_ad G 0)), (2, .ref (xw_ad G 119)), (3, .int (nI i))]) : W p l e room_1 s m #[Value.ref b] below meth c H locs 141 5416 (lw_Z below #[Value.ref b] s) (F0 m 452 ls []) := by
  have hx := hB.1
  have hb := hB.2.1
  refine lv_aload_n hx hb dL_law_452 rfl (lv_at hl 1 rfl) ?_
  refine lv_aload_n hx hb dL_law_453 rfl (lv_at hl 0 rfl) ?_
  refine lv_iload_n hx hb dL_law_454 rfl (lv_at hl 3 rfl) ?_
  refine lv_iconst (v := 1) hx hb dL_law_455 (by decide) ?_
  refine lv_iadd hx hb dL_law_456 ?_
  refine xl_ld hx hb hX hbl hbA hS hL 1 rfl (by omega) dL_law_457 ?_
  refine xw_Vi hB hK hE hS hP (As := [.int (xs (i + 1))]) (rest := []) (kX7_told l G hG n (xs (i + 1)) w _ _ h1) gs_L_51 (xw_rc hK hP (C := RX7) (T := TX7) (N := 11) (xw_o7 G) rfl) 1 hv_X7_told ⟨Nat.le_of_ble_eq_true rfl, Nat.le_of_ble_eq_true rfl⟩ rfl hl.1 (Nat.le_of_ble_eq_true rfl) rfl dL_law_458 ⟨Nat.le_of_ble_eq_true rfl, Nat.le_of_ble_eq_true rfl⟩ (fun H locs hP hS => ?_)
  refine lv_aload_n hx hb dL_law_461 rfl (lv_at hl 2 rfl) ?_
  refine lv_aload_n hx hb dL_law_462 rfl (lv_at hl 0 rfl) ?_
  refine lv_iload_n hx hb dL_law_463 rfl (lv_at hl 3 rfl) ?_
  refine lv_iconst (v := 1) hx hb dL_law_464 (by decide) ?_
  refine lv_iadd hx hb dL_law_465 ?_
  refine xl_ld hx hb hX hbl hbA hS hL 1 rfl (by omega) dL_law_466 ?_
  refine xw_Vi hB hK hE hS hP (As := [.int (xs (i + 1))]) (rest := [.int r]) (kX8_told l G hG n (xs (i + 1)) w1 _ _ h2) gs_L_54 (xw_rc hK hP (C := RX8) (T := TX8) (N := 31) (xw_o8 G) rfl) 1 hv_X8_told ⟨Nat.le_of_ble_eq_true rfl, Nat.le_of_ble_eq_true rfl⟩ rfl hl.1 (Nat.le_of_ble_eq_true rfl) rfl dL_law_467 ⟨Nat.le_of_ble_eq_true rfl, Nat.le_of_ble_eq_true rfl⟩ (fun H locs hP hS => ?_)
  refine lv_icmp_eq (tgt := 1184) hx hb dL_law_470 (by decide) (fun _ => ?_) (fun cx => absurd rfl cx)
  exact kk H locs ls hP hS hl
set_option maxHeartbeats 4000000 in
set_option maxRecDepth 100000 in
theorem law_c9 {p : Program} {l : Launch} {e : Env} {s : State} {m : MethodId} {below : List Frame} {meth : Method} {c : Code} {b L : Nat} {xs : Nat → Int32} {G : xw_G} (hG : xw_ok G) (hB : CallFix p m c code 4 s #[Value.ref b] TB RL) (hK : va_K (xw_D G) xw_cl (xw_ty G) s) (hE : xw_E G s s.heap) (hX : va_X b L xs s s.heap) (hbl : b < s.heap.size) (hbA : ¬ xw_A G b) (hL : L ≤ 3072) {i : Nat} (hi : i + 6 ≤ L) (n : Nat) {w w1 w2 : xw_M} {r : Int32} (h1 : fX7_pass n (xs (i + 1)) w = some (r, w1)) (h2 : fX8_pass n (xs (i + 1)) w1 = some (r, w2)) (kk : ∀ (H : Heap) (locs : List Loc) (ls : Array Slot), va_P (xw_D G) xw_cl (xw_W G w2) H → va_S (xw_A G) s.heap H locs → lv_has ls 4 [(0, .ref b), (1, .ref (xw_ad G 0)), (2, .ref (xw_ad G 119)), (3, .int (nI i))] → W p l e room_1 s m #[Value.ref b] below meth c H locs 141 5416 (lw_Z below #[Value.ref b] s) (F0 m 1184 ls [])) (H : Heap) (locs : List Loc) (ls : Array Slot) (hP : va_P (xw_D G) xw_cl (xw_W G w) H) (hS : va_S (xw_A G) s.heap H locs) (hl : lv_has ls 4 [(0, .ref b), (1, .ref (xw_ad G 0)), (2, .ref (xw_ad G 119)), (3, .int (nI i))]) : W p l e room_1 s m #[Value.ref b] below meth c H locs 141 5416 (lw_Z below #[Value.ref b] s) (F0 m 475 ls []) := by
  have hx := hB.1
  have hb := hB.2.1
  refine lv_aload_n hx hb dL_law_475 rfl (lv_at hl 1 rfl) ?_
  refine lv_aload_n hx hb dL_law_476 rfl (lv_at hl 0 rfl) ?_
  refine lv_iload_n hx hb dL_law_477 rfl (lv_at hl 3 rfl) ?_
  refine lv_iconst (v := 1) hx hb dL_law_478 (by decide) ?_
  refine lv_iadd hx hb dL_law_479 ?_
  refine xl_ld hx hb hX hbl hbA hS hL 1 rfl (by omega) dL_law_480 ?_
  refine xw_Vi hB hK hE hS hP (As := [.int (xs (i + 1))]) (rest := []) (kX7_pass l G hG n (xs (i + 1)) w _ _ h1) gs_L_55 (xw_rc hK hP (C := RX7) (T := TX7) (N := 11) (xw_o7 G) rfl) 1 hv_X7_pass ⟨Nat.le_of_ble_eq_true rfl, Nat.le_of_ble_eq_true rfl⟩ rfl hl.1 (Nat.le_of_ble_eq_true rfl) rfl dL_law_481 ⟨Nat.le_of_ble_eq_true rfl, Nat.le_of_ble_eq_true rfl⟩ (fun H locs hP hS => ?_)
  refine lv_aload_n hx hb dL_law_484 rfl (lv_at hl 2 rfl) ?_
  refine lv_aload_n hx hb dL_law_485 rfl (lv_at hl 0 rfl) ?_
  refine lv_iload_n hx hb dL_law_486 rfl (lv_at hl 3 rfl) ?_
  refine lv_iconst (v := 1) hx hb dL_law_487 (by decide) ?_
  refine lv_iadd hx hb dL_law_488 ?_
  refine xl_ld hx hb hX hbl hbA hS hL 1 rfl (by omega) dL_law_489 ?_
  refine xw_Vi hB hK hE hS hP (As := [.int (xs (i + 1))]) (rest := [.int r]) (kX8_pass l G hG n (xs (i + 1)) w1 _ _ h2) gs_L_58 (xw_rc hK hP (C := RX8) (T := TX8) (N := 31) (xw_o8 G) rfl) 1 hv_X8_pass ⟨Nat.le_of_ble_eq_true rfl, Nat.le_of_ble_eq_true rfl⟩ rfl hl.1 (Nat.le_of_ble_eq_true rfl) rfl dL_law_490 ⟨Nat.le_of_ble_eq_true rfl, Nat.le_of_ble_eq_true rfl⟩ (fun H locs hP hS => ?_)
  refine lv_icmp_eq (tgt := 1184) hx hb dL_law_493 (by decide) (fun _ => ?_) (fun cx => absurd rfl cx)
  exact kk H locs ls hP hS hl
set_option maxHeartbeats 4000000 in
set_option maxRecDepth 100000 in
theorem law_c10 {p : Program} {l : Launch} {e : Env} {s : State} {m : MethodId} {below : List Frame} {meth : Method} {c : Code} {b L : Nat} {xs : Nat → Int32} {G : xw_G} (hG : xw_ok G) (hB : CallFix p m c code 4 s #[Value.ref b] TB RL) (hK : va_K (xw_D G) xw_cl (xw_ty G) s) (hE : xw_E G s s.heap) (hX : va_X b L xs s s.heap) (hbl : b < s.heap.size) (hbA : ¬ xw_A G b) (hL : L ≤ 3072) {i : Nat} (hi : i + 6 ≤ L) (n : Nat) {w w1 w2 : xw_M} {r : Int32} (h1 : fX7_on n (xs (i + 1)) (xs (i + 2)) w = some (r, w1)) (h2 : fX8_on n (xs (i + 1)) (xs (i + 2)) w1 = some (r, w2)) (kk : ∀ (H : Heap) (locs : List Loc) (ls : Array Slot), va_P (xw_D G) xw_cl (xw_W G w2) H → va_S (xw_A G) s.heap H locs → lv_has ls 4 [(0, .ref b), (1, .ref (xw_ad G 0)), (2, .ref (xw_ad G 119)), (3, .int (nI i))] → W p l e room_1 s m #[Value.ref b] below meth c H locs 141 5416 (lw_Z below #[Value.ref b] s) (F0 m 1184 ls [])) (H : Heap) (locs : List Loc) (ls : Array Slot) (hP : va_P (xw_D G) xw_cl (xw_W G w) H) (hS : va_S (xw_A G) s.heap H locs) (hl : lv_has ls 4 [(0, .ref b), (1, .ref (xw_ad G 0)), (2, .ref (xw_ad G 119)), (3, .int (nI i))]) : W p l e room_1 s m #[Value.ref b] below meth c H locs 141 5416 (lw_Z below #[Value.ref b] s) (F0 m 498 ls []) := by
  have hx := hB.1
  have hb := hB.2.1
  refine lv_aload_n hx hb dL_law_498 rfl (lv_at hl 1 rfl) ?_
  refine lv_aload_n hx hb dL_law_499 rfl (lv_at hl 0 rfl) ?_
  refine lv_iload_n hx hb dL_law_500 rfl (lv_at hl 3 rfl) ?_
  refine lv_iconst (v := 1) hx hb dL_law_501 (by decide) ?_
  refine lv_iadd hx hb dL_law_502 ?_
  refine xl_ld hx hb hX hbl hbA hS hL 1 rfl (by omega) dL_law_503 ?_
  refine lv_aload_n hx hb dL_law_504 rfl (lv_at hl 0 rfl) ?_
  refine lv_iload_n hx hb dL_law_505 rfl (lv_at hl 3 rfl) ?_
  refine lv_iconst (v := 2) hx hb dL_law_506 (by decide) ?_
  refine lv_iadd hx hb dL_law_507 ?_
  refine xl_ld hx hb hX hbl hbA hS hL 2 rfl (by omega) dL_law_508 ?_
  refine xw_Vi hB hK hE hS hP (As := [.int (xs (i + 1)), .int (xs (i + 2))]) (rest := []) (kX7_on l G hG n (xs (i + 1)) (xs (i + 2)) w _ _ h1) gs_L_59 (xw_rc hK hP (C := RX7) (T := TX7) (N := 11) (xw_o7 G) rfl) 2 hv_X7_on ⟨Nat.le_of_ble_eq_true rfl, Nat.le_of_ble_eq_true rfl⟩ rfl hl.1 (Nat.le_of_ble_eq_true rfl) rfl dL_law_509 ⟨Nat.le_of_ble_eq_true rfl, Nat.le_of_ble_eq_true rfl⟩ (fun H locs hP hS => ?_)
  refine lv_aload_n hx hb dL_law_512 rfl (lv_at hl 2 rfl) ?_
  refine lv_aload_n hx hb dL_law_513 rfl (lv_at hl 0 rfl) ?_
  refine lv_iload_n hx hb dL_law_514 rfl (lv_at hl 3 rfl) ?_
  refine lv_iconst (v := 1) hx hb dL_law_515 (by decide) ?_
  refine lv_iadd hx hb dL_law_516 ?_
  refine xl_ld hx hb hX hbl hbA hS hL 1 rfl (by omega) dL_law_517 ?_
  refine lv_aload_n hx hb dL_law_518 rfl (lv_at hl 0 rfl) ?_
  refine lv_iload_n hx hb dL_law_519 rfl (lv_at hl 3 rfl) ?_
  refine lv_iconst (v := 2) hx hb dL_law_520 (by decide) ?_
  refine lv_iadd hx hb dL_law_521 ?_
  refine xl_ld hx hb hX hbl hbA hS hL 2 rfl (by omega) dL_law_522 ?_
  refine xw_Vi hB hK hE hS hP (As := [.int (xs (i + 1)), .int (xs (i + 2))]) (rest := [.int r]) (kX8_on l G hG n (xs (i + 1)) (xs (i + 2)) w1 _ _ h2) gs_L_62 (xw_rc hK hP (C := RX8) (T := TX8) (N := 31) (xw_o8 G) rfl) 2 hv_X8_on ⟨Nat.le_of_ble_eq_true rfl, Nat.le_of_ble_eq_true rfl⟩ rfl hl.1 (Nat.le_of_ble_eq_true rfl) rfl dL_law_523 ⟨Nat.le_of_ble_eq_true rfl, Nat.le_of_ble_eq_true rfl⟩ (fun H locs hP hS => ?_)
  refine lv_icmp_eq (tgt := 1184) hx hb dL_law_526 (by decide) (fun _ => ?_) (fun cx => absurd rfl cx)
  exact kk H locs ls hP hS hl
set_option maxHeartbeats 4000000 in
set_option maxRecDepth 100000 in
theorem law_c11 {p : Program} {l : Launch} {e : Env} {s : State} {m : MethodId} {below : List Frame} {meth : Method} {c : Code} {b L : Nat} {xs : Nat → Int32} {G : xw_G} (hG : xw_ok G) (hB : CallFix p m c code 4 s #[Value.ref b] TB RL) (hK : va_K (xw_D G) xw_cl (xw_ty G) s) (hE : xw_E G s s.heap) (hX : va_X b L xs s s.heap) (hbl : b < s.heap.size) (hbA : ¬ xw_A G b) (hL : L ≤ 3072) {i : Nat} (hi : i + 6 ≤ L) (n : Nat) {w w1 w2 : xw_M} {r : Int32} (h1 : fX7_kept n (xs (i + 1)) (xs (i + 2)) w = some (r, w1)) (h2 : fX8_kept n (xs (i + 1)) (xs (i + 2)) w1 = some (r, w2)) (kk : ∀ (H : Heap) (locs : List Loc) (ls : Array Slot), va_P (xw_D G) xw_cl (xw_W G w2) H → va_S (xw_A G) s.heap H locs → lv_has ls 4 [(0, .ref b), (1, .ref (xw_ad G 0)), (2, .ref (xw_ad G 119)), (3, .int (nI i))] → W p l e room_1 s m #[Value.ref b] below meth c H locs 141 5416 (lw_Z below #[Value.ref b] s) (F0 m 1184 ls [])) (H : Heap) (locs : List Loc) (ls : Array Slot) (hP : va_P (xw_D G) xw_cl (xw_W G w) H) (hS : va_S (xw_A G) s.heap H locs) (hl : lv_has ls 4 [(0, .ref b), (1, .ref (xw_ad G 0)), (2, .ref (xw_ad G 119)), (3, .int (nI i))]) : W p l e room_1 s m #[Value.ref b] below meth c H locs 141 5416 (lw_Z below #[Value.ref b] s) (F0 m 531 ls []) := by
  have hx := hB.1
  have hb := hB.2.1
  refine lv_aload_n hx hb dL_law_531 rfl (lv_at hl 1 rfl) ?_
  refine lv_aload_n hx hb dL_law_532 rfl (lv_at hl 0 rfl) ?_
  refine lv_iload_n hx hb dL_law_533 rfl (lv_at hl 3 rfl) ?_
  refine lv_iconst (v := 1) hx hb dL_law_534 (by decide) ?_
  refine lv_iadd hx hb dL_law_535 ?_
  refine xl_ld hx hb hX hbl hbA hS hL 1 rfl (by omega) dL_law_536 ?_
  refine lv_aload_n hx hb dL_law_537 rfl (lv_at hl 0 rfl) ?_
  refine lv_iload_n hx hb dL_law_538 rfl (lv_at hl 3 rfl) ?_
  refine lv_iconst (v := 2) hx hb dL_law_539 (by decide) ?_
  refine lv_iadd hx hb dL_law_540 ?_
  refine xl_ld hx hb hX hbl hbA hS hL 2 rfl (by omega) dL_law_541 ?_
  refine xw_Vi hB hK hE hS hP (As := [.int (xs (i + 1)), .int (xs (i + 2))]) (rest := []) (kX7_kept l G hG n (xs (i + 1)) (xs (i + 2)) w _ _ h1) gs_L_63 (xw_rc hK hP (C := RX7) (T := TX7) (N := 11) (xw_o7 G) rfl) 2 hv_X7_kept ⟨Nat.le_of_ble_eq_true rfl, Nat.le_of_ble_eq_true rfl⟩ rfl hl.1 (Nat.le_of_ble_eq_true rfl) rfl dL_law_542 ⟨Nat.le_of_ble_eq_true rfl, Nat.le_of_ble_eq_true rfl⟩ (fun H locs hP hS => ?_)
  refine lv_aload_n hx hb dL_law_545 rfl (lv_at hl 2 rfl) ?_
  refine lv_aload_n hx hb dL_law_546 rfl (lv_at hl 0 rfl) ?_
  refine lv_iload_n hx hb dL_law_547 rfl (lv_at hl 3 rfl) ?_
  refine lv_iconst (v := 1) hx hb dL_law_548 (by decide) ?_
  refine lv_iadd hx hb dL_law_549 ?_
  refine xl_ld hx hb hX hbl hbA hS hL 1 rfl (by omega) dL_law_550 ?_
  refine lv_aload_n hx hb dL_law_551 rfl (lv_at hl 0 rfl) ?_
  refine lv_iload_n hx hb dL_law_552 rfl (lv_at hl 3 rfl) ?_
  refine lv_iconst (v := 2) hx hb dL_law_553 (by decide) ?_
  refine lv_iadd hx hb dL_law_554 ?_
  refine xl_ld hx hb hX hbl hbA hS hL 2 rfl (by omega) dL_law_555 ?_
  refine xw_Vi hB hK hE hS hP (As := [.int (xs (i + 1)), .int (xs (i + 2))]) (rest := [.int r]) (kX8_kept l G hG n (xs (i + 1)) (xs (i + 2)) w1 _ _ h2) gs_L_66 (xw_rc hK hP (C := RX8) (T := TX8) (N := 31) (xw_o8 G) rfl) 2 hv_X8_kept ⟨Nat.le_of_ble_eq_true rfl, Nat.le_of_ble_eq_true rfl⟩ rfl hl.1 (Nat.le_of_ble_eq_true rfl) rfl dL_law_556 ⟨Nat.le_of_ble_eq_true rfl, Nat.le_of_ble_eq_true rfl⟩ (fun H locs hP hS => ?_)
  refine lv_icmp_eq (tgt := 1184) hx hb dL_law_559 (by decide) (fun _ => ?_) (fun cx => absurd rfl cx)
  exact kk H locs ls hP hS hl
set_option maxHeartbeats 4000000 in
set_option maxRecDepth 100000 in
theorem law_c12 {p : Program} {l : Launch} {e : Env} {s : State} {m : MethodId} {below : List Frame} {meth : Method} {c : Code} {b L : Nat} {xs : Nat → Int32} {G : xw_G} (hG : xw_ok G) (hB : CallFix p m c code 4 s #[Value.ref b] TB RL) (hK : va_K (xw_D G) xw_cl (xw_ty G) s) (hE : xw_E G s s.heap) (hX : va_X b L xs s s.heap) (hbl : b < s.heap.size) (hbA : ¬ xw_A G b) (hL : L ≤ 3072) {i : Nat} (hi : i + 6 ≤ L) (n : Nat) {w w1 w2 : xw_M} {r : Int32} (h1 : fX7_see (xs (i + 1)) (xs (i + 2)) w = some (r, w1)) (h2 : fX8_see (xs (i + 1)) (xs (i + 2)) w1 = some (r, w2)) (kk : ∀ (H : Heap) (locs : List Loc) (ls : Array Slot), va_P (xw_D G) xw_cl (xw_W G w2) H → va_S (xw_A G) s.heap H locs → lv_has ls 4 [(0, .ref b), (1, .ref (xw_ad G 0)), (2, .ref (xw_ad G 119)), (3, .int (nI i))] → W p l e room_1 s m #[Value.ref b] below meth c H locs 141 5416 (lw_Z below #[Value.ref b] s) (F0 m 1184 ls [])) (H : Heap) (locs : List Loc) (ls : Array Slot) (hP : va_P (xw_D G) xw_cl (xw_W G w) H) (hS : va_S (xw_A G) s.heap H locs) (hl : lv_has ls 4 [(0, .ref b), (1, .ref (xw_ad G 0)), (2, .ref (xw_ad G 119)), (3, .int (nI i))]) : W p l e room_1 s m #[Value.ref b] below meth c H locs 141 5416 (lw_Z below #[Value.ref b] s) (F0 m 564 ls []) := by
  have hx := hB.1
  have hb := hB.2.1
  refine lv_aload_n hx hb dL_law_564 rfl (lv_at hl 1 rfl) ?_
  refine lv_aload_n hx hb dL_law_565 rfl (lv_at hl 0 rfl) ?_
  refine lv_iload_n hx hb dL_law_566 rfl (lv_at hl 3 rfl) ?_
  refine lv_iconst (v := 1) hx hb dL_law_567 (by decide) ?_
  refine lv_iadd hx hb dL_law_568 ?_
  refine xl_ld hx hb hX hbl hbA hS hL 1 rfl (by omega) dL_law_569 ?_
  refine lv_aload_n hx hb dL_law_570 rfl (lv_at hl 0 rfl) ?_
  refine lv_iload_n hx hb dL_law_571 rfl (lv_at hl 3 rfl) ?_
  refine lv_iconst (v := 2) hx hb dL_law_572 (by decide) ?_
  refine lv_iadd hx hb dL_law_573 ?_
  refine xl_ld hx hb hX hbl hbA hS hL 2 rfl (by omega) dL_law_574 ?_
  refine xw_Vi hB hK hE hS hP (As := [.int (xs (i + 1)), .int (xs (i + 2))]) (rest := []) (kX7_see l G hG (xs (i + 1)) (xs (i + 2)) w _ _ h1) gs_L_67 (xw_rc hK hP (C := RX7) (T := TX7) (N := 11) (xw_o7 G) rfl) 2 hv_X7_see ⟨Nat.le_of_ble_eq_true rfl, Nat.le_of_ble_eq_true rfl⟩ rfl hl.1 (Nat.le_of_ble_eq_true rfl) rfl dL_law_575 ⟨Nat.le_of_ble_eq_true rfl, Nat.le_of_ble_eq_true rfl⟩ (fun H locs hP hS => ?_)
  refine lv_aload_n hx hb dL_law_578 rfl (lv_at hl 2 rfl) ?_
  refine lv_aload_n hx hb dL_law_579 rfl (lv_at hl 0 rfl) ?_
  refine lv_iload_n hx hb dL_law_580 rfl (lv_at hl 3 rfl) ?_
  refine lv_iconst (v := 1) hx hb dL_law_581 (by decide) ?_
  refine lv_iadd hx hb dL_law_582 ?_
  refine xl_ld hx hb hX hbl hbA hS hL 1 rfl (by omega) dL_law_583 ?_
  refine lv_aload_n hx hb dL_law_584 rfl (lv_at hl 0 rfl) ?_
  refine lv_iload_n hx hb dL_law_585 rfl (lv_at hl 3 rfl) ?_
  refine lv_iconst (v := 2) hx hb dL_law_586 (by decide) ?_
  refine lv_iadd hx hb dL_law_587 ?_
  refine xl_ld hx hb hX hbl hbA hS hL 2 rfl (by omega) dL_law_588 ?_
  refine xw_Vi hB hK hE hS hP (As := [.int (xs (i + 1)), .int (xs (i + 2))]) (rest := [.int r]) (kX8_see l G hG (xs (i + 1)) (xs (i + 2)) w1 _ _ h2) gs_L_70 (xw_rc hK hP (C := RX8) (T := TX8) (N := 31) (xw_o8 G) rfl) 2 hv_X8_see ⟨Nat.le_of_ble_eq_true rfl, Nat.le_of_ble_eq_true rfl⟩ rfl hl.1 (Nat.le_of_ble_eq_true rfl) rfl dL_law_589 ⟨Nat.le_of_ble_eq_true rfl, Nat.le_of_ble_eq_true rfl⟩ (fun H locs hP hS => ?_)
  refine lv_icmp_eq (tgt := 1184) hx hb dL_law_592 (by decide) (fun _ => ?_) (fun cx => absurd rfl cx)
  exact kk H locs ls hP hS hl
set_option maxHeartbeats 4000000 in
set_option maxRecDepth 100000 in
theorem law_c13 {p : Program} {l : Launch} {e : Env} {s : State} {m : MethodId} {below : List Frame} {meth : Method} {c : Code} {b L : Nat} {xs : Nat → Int32} {G : xw_G} (hG : xw_ok G) (hB : CallFix p m c code 4 s #[Value.ref b] TB RL) (hK : va_K (xw_D G) xw_cl (xw_ty G) s) (hE : xw_E G s s.heap) (hX : va_X b L xs s s.heap) (hbl : b < s.heap.size) (hbA : ¬ xw_A G b) (hL : L ≤ 3072) {i : Nat} (hi : i + 6 ≤ L) (n : Nat) {w w1 w2 : xw_M} {r : Int32} (h1 : fX7_can n (xs (i + 1)) (xs (i + 2)) w = some (r, w1)) (h2 : fX8_can n (xs (i + 1)) (xs (i + 2)) w1 = some (r, w2)) (kk : ∀ (H : Heap) (locs : List Loc) (ls : Array Slot), va_P (xw_D G) xw_cl (xw_W G w2) H → va_S (xw_A G) s.heap H locs → lv_has ls 4 [(0, .ref b), (1, .ref (xw_ad G 0)), (2, .ref (xw_ad G 119)), (3, .int (nI i))] → W p l e room_1 s m #[Value.ref b] below meth c H locs 141 5416 (lw_Z below #[Value.ref b] s) (F0 m 1184 ls [])) (H : Heap) (locs : List Loc) (ls : Array Slot) (hP : va_P (xw_D G) xw_cl (xw_W G w) H) (hS : va_S (xw_A G) s.heap H locs) (hl : lv_has ls 4 [(0, .ref b), (1, .ref (xw_ad G 0)), (2, .ref (xw_ad G 119)), (3, .int (nI i))]) : W p l e room_1 s m #[Value.ref b] below meth c H locs 141 5416 (lw_Z below #[Value.ref b] s) (F0 m 597 ls []) := by
  have hx := hB.1
  have hb := hB.2.1
  refine lv_aload_n hx hb dL_law_597 rfl (lv_at hl 1 rfl) ?_
  refine lv_aload_n hx hb dL_law_598 rfl (lv_at hl 0 rfl) ?_
  refine lv_iload_n hx hb dL_law_599 rfl (lv_at hl 3 rfl) ?_
  refine lv_iconst (v := 1) hx hb dL_law_600 (by decide) ?_
  refine lv_iadd hx hb dL_law_601 ?_
  refine xl_ld hx hb hX hbl hbA hS hL 1 rfl (by omega) dL_law_602 ?_
  refine lv_aload_n hx hb dL_law_603 rfl (lv_at hl 0 rfl) ?_
  refine lv_iload_n hx hb dL_law_604 rfl (lv_at hl 3 rfl) ?_
  refine lv_iconst (v := 2) hx hb dL_law_605 (by decide) ?_
  refine lv_iadd hx hb dL_law_606 ?_
  refine xl_ld hx hb hX hbl hbA hS hL 2 rfl (by omega) dL_law_607 ?_
  refine xw_Vi hB hK hE hS hP (As := [.int (xs (i + 1)), .int (xs (i + 2))]) (rest := []) (kX7_can l G hG n (xs (i + 1)) (xs (i + 2)) w _ _ h1) gs_L_71 (xw_rc hK hP (C := RX7) (T := TX7) (N := 11) (xw_o7 G) rfl) 2 hv_X7_can ⟨Nat.le_of_ble_eq_true rfl, Nat.le_of_ble_eq_true rfl⟩ rfl hl.1 (Nat.le_of_ble_eq_true rfl) rfl dL_law_608 ⟨Nat.le_of_ble_eq_true rfl, Nat.le_of_ble_eq_true rfl⟩ (fun H locs hP hS => ?_)
  refine lv_aload_n hx hb dL_law_611 rfl (lv_at hl 2 rfl) ?_
  refine lv_aload_n hx hb dL_law_612 rfl (lv_at hl 0 rfl) ?_
  refine lv_iload_n hx hb dL_law_613 rfl (lv_at hl 3 rfl) ?_
  refine lv_iconst (v := 1) hx hb dL_law_614 (by decide) ?_
  refine lv_iadd hx hb dL_law_615 ?_
  refine xl_ld hx hb hX hbl hbA hS hL 1 rfl (by omega) dL_law_616 ?_
  refine lv_aload_n hx hb dL_law_617 rfl (lv_at hl 0 rfl) ?_
  refine lv_iload_n hx hb dL_law_618 rfl (lv_at hl 3 rfl) ?_
  refine lv_iconst (v := 2) hx hb dL_law_619 (by decide) ?_
  refine lv_iadd hx hb dL_law_620 ?_
  refine xl_ld hx hb hX hbl hbA hS hL 2 rfl (by omega) dL_law_621 ?_
  refine xw_Vi hB hK hE hS hP (As := [.int (xs (i + 1)), .int (xs (i + 2))]) (rest := [.int r]) (kX8_can l G hG n (xs (i + 1)) (xs (i + 2)) w1 _ _ h2) gs_L_74 (xw_rc hK hP (C := RX8) (T := TX8) (N := 31) (xw_o8 G) rfl) 2 hv_X8_can ⟨Nat.le_of_ble_eq_true rfl, Nat.le_of_ble_eq_true rfl⟩ rfl hl.1 (Nat.le_of_ble_eq_true rfl) rfl dL_law_622 ⟨Nat.le_of_ble_eq_true rfl, Nat.le_of_ble_eq_true rfl⟩ (fun H locs hP hS => ?_)
  refine lv_icmp_eq (tgt := 1184) hx hb dL_law_625 (by decide) (fun _ => ?_) (fun cx => absurd rfl cx)
  exact kk H locs ls hP hS hl
set_option maxHeartbeats 4000000 in
set_option maxRecDepth 100000 in
theorem law_c14 {p : Program} {l : Launch} {e : Env} {s : State} {m : MethodId} {below : List Frame} {meth : Method} {c : Code} {b L : Nat} {xs : Nat → Int32} {G : xw_G} (hG : xw_ok G) (hB : CallFix p m c code 4 s #[Value.ref b] TB RL) (hK : va_K (xw_D G) xw_cl (xw_ty G) s) (hE : xw_E G s s.heap) (hX : va_X b L xs s s.heap) (hbl : b < s.heap.size) (hbA : ¬ xw_A G b) (hL : L ≤ 3072) {i : Nat} (hi : i + 6 ≤ L) (n : Nat) {w w1 w2 : xw_M} {r : Int64} (h1 : fX7_odds n (xs (i + 1)) (xs (i + 2)) w = some (r, w1)) (h2 : fX8_odds n (xs (i + 1)) (xs (i + 2)) w1 = some (r, w2)) (kk : ∀ (H : Heap) (locs : List Loc) (ls : Array Slot), va_P (xw_D G) xw_cl (xw_W G w2) H → va_S (xw_A G) s.heap H locs → lv_has ls 4 [(0, .ref b), (1, .ref (xw_ad G 0)), (2, .ref (xw_ad G 119)), (3, .int (nI i))] → W p l e room_1 s m #[Value.ref b] below meth c H locs 141 5416 (lw_Z below #[Value.ref b] s) (F0 m 1184 ls [])) (H : Heap) (locs : List Loc) (ls : Array Slot) (hP : va_P (xw_D G) xw_cl (xw_W G w) H) (hS : va_S (xw_A G) s.heap H locs) (hl : lv_has ls 4 [(0, .ref b), (1, .ref (xw_ad G 0)), (2, .ref (xw_ad G 119)), (3, .int (nI i))]) : W p l e room_1 s m #[Value.ref b] below meth c H locs 141 5416 (lw_Z below #[Value.ref b] s) (F0 m 630 ls []) := by
  have hx := hB.1
  have hb := hB.2.1
  refine lv_aload_n hx hb dL_law_630 rfl (lv_at hl 1 rfl) ?_
  refine lv_aload_n hx hb dL_law_631 rfl (lv_at hl 0 rfl) ?_
  refine lv_iload_n hx hb dL_law_632 rfl (lv_at hl 3 rfl) ?_
  refine lv_iconst (v := 1) hx hb dL_law_633 (by decide) ?_
  refine lv_iadd hx hb dL_law_634 ?_
  refine xl_ld hx hb hX hbl hbA hS hL 1 rfl (by omega) dL_law_635 ?_
  refine lv_aload_n hx hb dL_law_636 rfl (lv_at hl 0 rfl) ?_
  refine lv_iload_n hx hb dL_law_637 rfl (lv_at hl 3 rfl) ?_
  refine lv_iconst (v := 2) hx hb dL_law_638 (by decide) ?_
  refine lv_iadd hx hb dL_law_639 ?_
  refine xl_ld hx hb hX hbl hbA hS hL 2 rfl (by omega) dL_law_640 ?_
  refine xw_Vl hB hK hE hS hP (As := [.int (xs (i + 1)), .int (xs (i + 2))]) (rest := []) (kX7_odds l G hG n (xs (i + 1)) (xs (i + 2)) w _ _ h1) gs_L_75 (xw_rc hK hP (C := RX7) (T := TX7) (N := 11) (xw_o7 G) rfl) 2 hv_X7_odds ⟨Nat.le_of_ble_eq_true rfl, Nat.le_of_ble_eq_true rfl⟩ rfl hl.1 (Nat.le_of_ble_eq_true rfl) rfl dL_law_641 ⟨Nat.le_of_ble_eq_true rfl, Nat.le_of_ble_eq_true rfl⟩ (fun H locs hP hS => ?_)
  refine lv_aload_n hx hb dL_law_644 rfl (lv_at hl 2 rfl) ?_
  refine lv_aload_n hx hb dL_law_645 rfl (lv_at hl 0 rfl) ?_
  refine lv_iload_n hx hb dL_law_646 rfl (lv_at hl 3 rfl) ?_
  refine lv_iconst (v := 1) hx hb dL_law_647 (by decide) ?_
  refine lv_iadd hx hb dL_law_648 ?_
  refine xl_ld hx hb hX hbl hbA hS hL 1 rfl (by omega) dL_law_649 ?_
  refine lv_aload_n hx hb dL_law_650 rfl (lv_at hl 0 rfl) ?_
  refine lv_iload_n hx hb dL_law_651 rfl (lv_at hl 3 rfl) ?_
  refine lv_iconst (v := 2) hx hb dL_law_652 (by decide) ?_
  refine lv_iadd hx hb dL_law_653 ?_
  refine xl_ld hx hb hX hbl hbA hS hL 2 rfl (by omega) dL_law_654 ?_
  refine xw_Vl hB hK hE hS hP (As := [.int (xs (i + 1)), .int (xs (i + 2))]) (rest := [.long r]) (kX8_odds l G hG n (xs (i + 1)) (xs (i + 2)) w1 _ _ h2) gs_L_79 (xw_rc hK hP (C := RX8) (T := TX8) (N := 31) (xw_o8 G) rfl) 2 hv_X8_odds ⟨Nat.le_of_ble_eq_true rfl, Nat.le_of_ble_eq_true rfl⟩ rfl hl.1 (Nat.le_of_ble_eq_true rfl) rfl dL_law_655 ⟨Nat.le_of_ble_eq_true rfl, Nat.le_of_ble_eq_true rfl⟩ (fun H locs hP hS => ?_)
  refine W.lcmp hx hb dL_law_658 ?_
  rw [xl_cmp]
  refine lv_if_eq (tgt := 1184) hx hb dL_law_659 (by decide) (fun _ => ?_) (fun cx => absurd rfl cx)
  exact kk H locs ls hP hS hl
set_option maxHeartbeats 4000000 in
set_option maxRecDepth 100000 in
theorem law_c15 {p : Program} {l : Launch} {e : Env} {s : State} {m : MethodId} {below : List Frame} {meth : Method} {c : Code} {b L : Nat} {xs : Nat → Int32} {G : xw_G} (hG : xw_ok G) (hB : CallFix p m c code 4 s #[Value.ref b] TB RL) (hK : va_K (xw_D G) xw_cl (xw_ty G) s) (hE : xw_E G s s.heap) (hX : va_X b L xs s s.heap) (hbl : b < s.heap.size) (hbA : ¬ xw_A G b) (hL : L ≤ 3072) {i : Nat} (hi : i + 6 ≤ L) (n : Nat) {w : xw_M} {r : Int64} (h1 : fX7_mean n (xs (i + 1)) w = some r) (h2 : fX8_mean n (xs (i + 1)) w = some r) (kk : ∀ (H : Heap) (locs : List Loc) (ls : Array Slot), va_P (xw_D G) xw_cl (xw_W G w) H → va_S (xw_A G) s.heap H locs → lv_has ls 4 [(0, .ref b), (1, .ref (xw_ad G 0)), (2, .ref (xw_ad G 119)), (3, .int (nI i))] → W p l e room_1 s m #[Value.ref b] below meth c H locs 141 5416 (lw_Z below #[Value.ref b] s) (F0 m 1184 ls [])) (H : Heap) (locs : List Loc) (ls : Array Slot) (hP : va_P (xw_D G) xw_cl (xw_W G w) H) (hS : va_S (xw_A G) s.heap H locs) (hl : lv_has ls 4 [(0, .ref b), (1, .ref (xw_ad G 0)), (2, .ref (xw_ad G 119)), (3, .int (nI i))]) : W p l e room_1 s m #[Value.ref b] below meth c H locs 141 5416 (lw_Z below #[Value.ref b] s) (F0 m 664 ls []) := by
  have hx := hB.1
  have hb := hB.2.1
  refine lv_aload_n hx hb dL_law_664 rfl (lv_at hl 1 rfl) ?_
  refine lv_aload_n hx hb dL_law_665 rfl (lv_at hl 0 rfl) ?_
  refine lv_iload_n hx hb dL_law_666 rfl (lv_at hl 3 rfl) ?_
  refine lv_iconst (v := 1) hx hb dL_law_667 (by decide) ?_
  refine lv_iadd hx hb dL_law_668 ?_
  refine xl_ld hx hb hX hbl hbA hS hL 1 rfl (by omega) dL_law_669 ?_
  refine xw_Vl hB hK hE hS hP (As := [.int (xs (i + 1))]) (rest := []) (kX7_mean l G hG n (xs (i + 1)) w _ h1) gs_L_80 (xw_rc hK hP (C := RX7) (T := TX7) (N := 11) (xw_o7 G) rfl) 1 hv_X7_mean ⟨Nat.le_of_ble_eq_true rfl, Nat.le_of_ble_eq_true rfl⟩ rfl hl.1 (Nat.le_of_ble_eq_true rfl) rfl dL_law_670 ⟨Nat.le_of_ble_eq_true rfl, Nat.le_of_ble_eq_true rfl⟩ (fun H locs hP hS => ?_)
  refine lv_aload_n hx hb dL_law_673 rfl (lv_at hl 2 rfl) ?_
  refine lv_aload_n hx hb dL_law_674 rfl (lv_at hl 0 rfl) ?_
  refine lv_iload_n hx hb dL_law_675 rfl (lv_at hl 3 rfl) ?_
  refine lv_iconst (v := 1) hx hb dL_law_676 (by decide) ?_
  refine lv_iadd hx hb dL_law_677 ?_
  refine xl_ld hx hb hX hbl hbA hS hL 1 rfl (by omega) dL_law_678 ?_
  refine xw_Vl hB hK hE hS hP (As := [.int (xs (i + 1))]) (rest := [.long r]) (kX8_mean l G hG n (xs (i + 1)) w _ h2) gs_L_84 (xw_rc hK hP (C := RX8) (T := TX8) (N := 31) (xw_o8 G) rfl) 1 hv_X8_mean ⟨Nat.le_of_ble_eq_true rfl, Nat.le_of_ble_eq_true rfl⟩ rfl hl.1 (Nat.le_of_ble_eq_true rfl) rfl dL_law_679 ⟨Nat.le_of_ble_eq_true rfl, Nat.le_of_ble_eq_true rfl⟩ (fun H locs hP hS => ?_)
  refine W.lcmp hx hb dL_law_682 ?_
  rw [xl_cmp]
  refine lv_if_eq (tgt := 1184) hx hb dL_law_683 (by decide) (fun _ => ?_) (fun cx => absurd rfl cx)
  exact kk H locs ls hP hS hl
set_option maxHeartbeats 4000000 in
set_option maxRecDepth 100000 in
theorem law_c16 {p : Program} {l : Launch} {e : Env} {s : State} {m : MethodId} {below : List Frame} {meth : Method} {c : Code} {b L : Nat} {xs : Nat → Int32} {G : xw_G} (hG : xw_ok G) (hB : CallFix p m c code 4 s #[Value.ref b] TB RL) (hK : va_K (xw_D G) xw_cl (xw_ty G) s) (hE : xw_E G s s.heap) (hX : va_X b L xs s s.heap) (hbl : b < s.heap.size) (hbA : ¬ xw_A G b) (hL : L ≤ 3072) {i : Nat} (hi : i + 6 ≤ L) (n : Nat) {w w1 w2 : xw_M} {r : Int32} (h1 : fX7_plan (xs (i + 1)) (xs (i + 2)) w = some (r, w1)) (h2 : fX8_plan (xs (i + 1)) (xs (i + 2)) w1 = some (r, w2)) (kk : ∀ (H : Heap) (locs : List Loc) (ls : Array Slot), va_P (xw_D G) xw_cl (xw_W G w2) H → va_S (xw_A G) s.heap H locs → lv_has ls 4 [(0, .ref b), (1, .ref (xw_ad G 0)), (2, .ref (xw_ad G 119)), (3, .int (nI i))] → W p l e room_1 s m #[Value.ref b] below meth c H locs 141 5416 (lw_Z below #[Value.ref b] s) (F0 m 1184 ls [])) (H : Heap) (locs : List Loc) (ls : Array Slot) (hP : va_P (xw_D G) xw_cl (xw_W G w) H) (hS : va_S (xw_A G) s.heap H locs) (hl : lv_has ls 4 [(0, .ref b), (1, .ref (xw_ad G 0)), (2, .ref (xw_ad G 119)), (3, .int (nI i))]) : W p l e room_1 s m #[Value.ref b] below meth c H locs 141 5416 (lw_Z below #[Value.ref b] s) (F0 m 688 ls []) := by
  have hx := hB.1
  have hb := hB.2.1
  refine lv_aload_n hx hb dL_law_688 rfl (lv_at hl 1 rfl) ?_
  refine lv_aload_n hx hb dL_law_689 rfl (lv_at hl 0 rfl) ?_
  refine lv_iload_n hx hb dL_law_690 rfl (lv_at hl 3 rfl) ?_
  refine lv_iconst (v := 1) hx hb dL_law_691 (by decide) ?_
  refine lv_iadd hx hb dL_law_692 ?_
  refine xl_ld hx hb hX hbl hbA hS hL 1 rfl (by omega) dL_law_693 ?_
  refine lv_aload_n hx hb dL_law_694 rfl (lv_at hl 0 rfl) ?_
  refine lv_iload_n hx hb dL_law_695 rfl (lv_at hl 3 rfl) ?_
  refine lv_iconst (v := 2) hx hb dL_law_696 (by decide) ?_
  refine lv_iadd hx hb dL_law_697 ?_
  refine xl_ld hx hb hX hbl hbA hS hL 2 rfl (by omega) dL_law_698 ?_
  refine xw_Vi hB hK hE hS hP (As := [.int (xs (i + 1)), .int (xs (i + 2))]) (rest := []) (kX7_plan l G hG (xs (i + 1)) (xs (i + 2)) w _ _ h1) gs_L_85 (xw_rc hK hP (C := RX7) (T := TX7) (N := 11) (xw_o7 G) rfl) 2 hv_X7_plan ⟨Nat.le_of_ble_eq_true rfl, Nat.le_of_ble_eq_true rfl⟩ rfl hl.1 (Nat.le_of_ble_eq_true rfl) rfl dL_law_699 ⟨Nat.le_of_ble_eq_true rfl, Nat.le_of_ble_eq_true rfl⟩ (fun H locs hP hS => ?_)
  refine lv_aload_n hx hb dL_law_702 rfl (lv_at hl 2 rfl) ?_
  refine lv_aload_n hx hb dL_law_703 rfl (lv_at hl 0 rfl) ?_
  refine lv_iload_n hx hb dL_law_704 rfl (lv_at hl 3 rfl) ?_
  refine lv_iconst (v := 1) hx hb dL_law_705 (by decide) ?_
  refine lv_iadd hx hb dL_law_706 ?_
  refine xl_ld hx hb hX hbl hbA hS hL 1 rfl (by omega) dL_law_707 ?_
  refine lv_aload_n hx hb dL_law_708 rfl (lv_at hl 0 rfl) ?_
  refine lv_iload_n hx hb dL_law_709 rfl (lv_at hl 3 rfl) ?_
  refine lv_iconst (v := 2) hx hb dL_law_710 (by decide) ?_
  refine lv_iadd hx hb dL_law_711 ?_
  refine xl_ld hx hb hX hbl hbA hS hL 2 rfl (by omega) dL_law_712 ?_
  refine xw_Vi hB hK hE hS hP (As := [.int (xs (i + 1)), .int (xs (i + 2))]) (rest := [.int r]) (kX8_plan l G hG (xs (i + 1)) (xs (i + 2)) w1 _ _ h2) gs_L_88 (xw_rc hK hP (C := RX8) (T := TX8) (N := 31) (xw_o8 G) rfl) 2 hv_X8_plan ⟨Nat.le_of_ble_eq_true rfl, Nat.le_of_ble_eq_true rfl⟩ rfl hl.1 (Nat.le_of_ble_eq_true rfl) rfl dL_law_713 ⟨Nat.le_of_ble_eq_true rfl, Nat.le_of_ble_eq_true rfl⟩ (fun H locs hP hS => ?_)
  refine lv_icmp_eq (tgt := 1184) hx hb dL_law_716 (by decide) (fun _ => ?_) (fun cx => absurd rfl cx)
  exact kk H locs ls hP hS hl
set_option maxHeartbeats 4000000 in
set_option maxRecDepth 100000 in
theorem law_c17 {p : Program} {l : Launch} {e : Env} {s : State} {m : MethodId} {below : List Frame} {meth : Method} {c : Code} {b L : Nat} {xs : Nat → Int32} {G : xw_G} (hG : xw_ok G) (hB : CallFix p m c code 4 s #[Value.ref b] TB RL) (hK : va_K (xw_D G) xw_cl (xw_ty G) s) (hE : xw_E G s s.heap) (hX : va_X b L xs s s.heap) (hbl : b < s.heap.size) (hbA : ¬ xw_A G b) (hL : L ≤ 3072) {i : Nat} (hi : i + 6 ≤ L) (n : Nat) {w w1 w2 : xw_M} {r : Int32} (h1 : fX7_ends n (xs (i + 1)) w = some (r, w1)) (h2 : fX8_ends n (xs (i + 1)) w1 = some (r, w2)) (kk : ∀ (H : Heap) (locs : List Loc) (ls : Array Slot), va_P (xw_D G) xw_cl (xw_W G w2) H → va_S (xw_A G) s.heap H locs → lv_has ls 4 [(0, .ref b), (1, .ref (xw_ad G 0)), (2, .ref (xw_ad G 119)), (3, .int (nI i))] → W p l e room_1 s m #[Value.ref b] below meth c H locs 141 5416 (lw_Z below #[Value.ref b] s) (F0 m 1184 ls [])) (H : Heap) (locs : List Loc) (ls : Array Slot) (hP : va_P (xw_D G) xw_cl (xw_W G w) H) (hS : va_S (xw_A G) s.heap H locs) (hl : lv_has ls 4 [(0, .ref b), (1, .ref (xw_ad G 0)), (2, .ref (xw_ad G 119)), (3, .int (nI i))]) : W p l e room_1 s m #[Value.ref b] below meth c H locs 141 5416 (lw_Z below #[Value.ref b] s) (F0 m 721 ls []) := by
  have hx := hB.1
  have hb := hB.2.1
  refine lv_aload_n hx hb dL_law_721 rfl (lv_at hl 1 rfl) ?_
  refine lv_aload_n hx hb dL_law_722 rfl (lv_at hl 0 rfl) ?_
  refine lv_iload_n hx hb dL_law_723 rfl (lv_at hl 3 rfl) ?_
  refine lv_iconst (v := 1) hx hb dL_law_724 (by decide) ?_
  refine lv_iadd hx hb dL_law_725 ?_
  refine xl_ld hx hb hX hbl hbA hS hL 1 rfl (by omega) dL_law_726 ?_
  refine xw_Vi hB hK hE hS hP (As := [.int (xs (i + 1))]) (rest := []) (kX7_ends l G hG n (xs (i + 1)) w _ _ h1) gs_L_89 (xw_rc hK hP (C := RX7) (T := TX7) (N := 11) (xw_o7 G) rfl) 1 hv_X7_ends ⟨Nat.le_of_ble_eq_true rfl, Nat.le_of_ble_eq_true rfl⟩ rfl hl.1 (Nat.le_of_ble_eq_true rfl) rfl dL_law_727 ⟨Nat.le_of_ble_eq_true rfl, Nat.le_of_ble_eq_true rfl⟩ (fun H locs hP hS => ?_)
  refine lv_aload_n hx hb dL_law_730 rfl (lv_at hl 2 rfl) ?_
  refine lv_aload_n hx hb dL_law_731 rfl (lv_at hl 0 rfl) ?_
  refine lv_iload_n hx hb dL_law_732 rfl (lv_at hl 3 rfl) ?_
  refine lv_iconst (v := 1) hx hb dL_law_733 (by decide) ?_
  refine lv_iadd hx hb dL_law_734 ?_
  refine xl_ld hx hb hX hbl hbA hS hL 1 rfl (by omega) dL_law_735 ?_
  refine xw_Vi hB hK hE hS hP (As := [.int (xs (i + 1))]) (rest := [.int r]) (kX8_ends l G hG n (xs (i + 1)) w1 _ _ h2) gs_L_92 (xw_rc hK hP (C := RX8) (T := TX8) (N := 31) (xw_o8 G) rfl) 1 hv_X8_ends ⟨Nat.le_of_ble_eq_true rfl, Nat.le_of_ble_eq_true rfl⟩ rfl hl.1 (Nat.le_of_ble_eq_true rfl) rfl dL_law_736 ⟨Nat.le_of_ble_eq_true rfl, Nat.le_of_ble_eq_true rfl⟩ (fun H locs hP hS => ?_)
  refine lv_icmp_eq (tgt := 1184) hx hb dL_law_739 (by decide) (fun _ => ?_) (fun cx => absurd rfl cx)
  exact kk H locs ls hP hS hl
set_option maxHeartbeats 4000000 in
set_option maxRecDepth 100000 in
theorem law_c18 {p : Program} {l : Launch} {e : Env} {s : State} {m : MethodId} {below : List Frame} {meth : Method} {c : Code} {b L : Nat} {xs : Nat → Int32} {G : xw_G} (hG : xw_ok G) (hB : CallFix p m c code 4 s #[Value.ref b] TB RL) (hK : va_K (xw_D G) xw_cl (xw_ty G) s) (hE : xw_E G s s.heap) (hX : va_X b L xs s s.heap) (hbl : b < s.heap.size) (hbA : ¬ xw_A G b) (hL : L ≤ 3072) {i : Nat} (hi : i + 6 ≤ L) (n : Nat) {w w1 w2 : xw_M} {r : Int32} (h1 : fX7_book (xs (i + 1)) (xs (i + 2)) w = some (r, w1)) (h2 : fX8_book (xs (i + 1)) (xs (i + 2)) w1 = some (r, w2)) (kk : ∀ (H : Heap) (locs : List Loc) (ls : Array Slot), va_P (xw_D G) xw_cl (xw_W G w2) H → va_S (xw_A G) s.heap H locs → lv_has ls 4 [(0, .ref b), (1, .ref (xw_ad G 0)), (2, .ref (xw_ad G 119)), (3, .int (nI i))] → W p l e room_1 s m #[Value.ref b] below meth c H locs 141 5416 (lw_Z below #[Value.ref b] s) (F0 m 1184 ls [])) (H : Heap) (locs : List Loc) (ls : Array Slot) (hP : va_P (xw_D G) xw_cl (xw_W G w) H) (hS : va_S (xw_A G) s.heap H locs) (hl : lv_has ls 4 [(0, .ref b), (1, .ref (xw_ad G 0)), (2, .ref (xw_ad G 119)), (3, .int (nI i))]) : W p l e room_1 s m #[Value.ref b] below meth c H locs 141 5416 (lw_Z below #[Value.ref b] s) (F0 m 744 ls []) := by
  have hx := hB.1
  have hb := hB.2.1
  refine lv_aload_n hx hb dL_law_744 rfl (lv_at hl 1 rfl) ?_
  refine lv_aload_n hx hb dL_law_745 rfl (lv_at hl 0 rfl) ?_
  refine lv_iload_n hx hb dL_law_746 rfl (lv_at hl 3 rfl) ?_
  refine lv_iconst (v := 1) hx hb dL_law_747 (by decide) ?_
  refine lv_iadd hx hb dL_law_748 ?_
  refine xl_ld hx hb hX hbl hbA hS hL 1 rfl (by omega) dL_law_749 ?_
  refine lv_aload_n hx hb dL_law_750 rfl (lv_at hl 0 rfl) ?_
  refine lv_iload_n hx hb dL_law_751 rfl (lv_at hl 3 rfl) ?_
  refine lv_iconst (v := 2) hx hb dL_law_752 (by decide) ?_
  refine lv_iadd hx hb dL_law_753 ?_
  refine xl_ld hx hb hX hbl hbA hS hL 2 rfl (by omega) dL_law_754 ?_
  refine xw_Vi hB hK hE hS hP (As := [.int (xs (i + 1)), .int (xs (i + 2))]) (rest := []) (kX7_book l G hG (xs (i + 1)) (xs (i + 2)) w _ _ h1) gs_L_93 (xw_rc hK hP (C := RX7) (T := TX7) (N := 11) (xw_o7 G) rfl) 2 hv_X7_book ⟨Nat.le_of_ble_eq_true rfl, Nat.le_of_ble_eq_true rfl⟩ rfl hl.1 (Nat.le_of_ble_eq_true rfl) rfl dL_law_755 ⟨Nat.le_of_ble_eq_true rfl, Nat.le_of_ble_eq_true rfl⟩ (fun H locs hP hS => ?_)
  refine lv_aload_n hx hb dL_law_758 rfl (lv_at hl 2 rfl) ?_
  refine lv_aload_n hx hb dL_law_759 rfl (lv_at hl 0 rfl) ?_
  refine lv_iload_n hx hb dL_law_760 rfl (lv_at hl 3 rfl) ?_
  refine lv_iconst (v := 1) hx hb dL_law_761 (by decide) ?_
  refine lv_iadd hx hb dL_law_762 ?_
  refine xl_ld hx hb hX hbl hbA hS hL 1 rfl (by omega) dL_law_763 ?_
  refine lv_aload_n hx hb dL_law_764 rfl (lv_at hl 0 rfl) ?_
  refine lv_iload_n hx hb dL_law_765 rfl (lv_at hl 3 rfl) ?_
  refine lv_iconst (v := 2) hx hb dL_law_766 (by decide) ?_
  refine lv_iadd hx hb dL_law_767 ?_
  refine xl_ld hx hb hX hbl hbA hS hL 2 rfl (by omega) dL_law_768 ?_
  refine xw_Vi hB hK hE hS hP (As := [.int (xs (i + 1)), .int (xs (i + 2))]) (rest := [.int r]) (kX8_book l G hG (xs (i + 1)) (xs (i + 2)) w1 _ _ h2) gs_L_96 (xw_rc hK hP (C := RX8) (T := TX8) (N := 31) (xw_o8 G) rfl) 2 hv_X8_book ⟨Nat.le_of_ble_eq_true rfl, Nat.le_of_ble_eq_true rfl⟩ rfl hl.1 (Nat.le_of_ble_eq_true rfl) rfl dL_law_769 ⟨Nat.le_of_ble_eq_true rfl, Nat.le_of_ble_eq_true rfl⟩ (fun H locs hP hS => ?_)
  refine lv_icmp_eq (tgt := 1184) hx hb dL_law_772 (by decide) (fun _ => ?_) (fun cx => absurd rfl cx)
  exact kk H locs ls hP hS hl
set_option maxHeartbeats 4000000 in
set_option maxRecDepth 100000 in
theorem law_c19 {p : Program} {l : Launch} {e : Env} {s : State} {m : MethodId} {below : List Frame} {meth : Method} {c : Code} {b L : Nat} {xs : Nat → Int32} {G : xw_G} (hG : xw_ok G) (hB : CallFix p m c code 4 s #[Value.ref b] TB RL) (hK : va_K (xw_D G) xw_cl (xw_ty G) s) (hE : xw_E G s s.heap) (hX : va_X b L xs s s.heap) (hbl : b < s.heap.size) (hbA : ¬ xw_A G b) (hL : L ≤ 3072) {i : Nat} (hi : i + 6 ≤ L) (n : Nat) {w : xw_M} {r : Int32} (h1 : fX7_looked n w = some r) (h2 : fX8_looked n w = some r) (kk : ∀ (H : Heap) (locs : List Loc) (ls : Array Slot), va_P (xw_D G) xw_cl (xw_W G w) H → va_S (xw_A G) s.heap H locs → lv_has ls 4 [(0, .ref b), (1, .ref (xw_ad G 0)), (2, .ref (xw_ad G 119)), (3, .int (nI i))] → W p l e room_1 s m #[Value.ref b] below meth c H locs 141 5416 (lw_Z below #[Value.ref b] s) (F0 m 1184 ls [])) (H : Heap) (locs : List Loc) (ls : Array Slot) (hP : va_P (xw_D G) xw_cl (xw_W G w) H) (hS : va_S (xw_A G) s.heap H locs) (hl : lv_has ls 4 [(0, .ref b), (1, .ref (xw_ad G 0)), (2, .ref (xw_ad G 119)), (3, .int (nI i))]) : W p l e room_1 s m #[Value.ref b] below meth c H locs 141 5416 (lw_Z below #[Value.ref b] s) (F0 m 777 ls []) := by
  have hx := hB.1
  have hb := hB.2.1
  refine lv_aload_n hx hb dL_law_777 rfl (lv_at hl 1 rfl) ?_
  refine xw_Vi hB hK hE hS hP (As := []) (rest := []) (kX7_looked l G hG n w _ h1) gs_L_97 (xw_rc hK hP (C := RX7) (T := TX7) (N := 11) (xw_o7 G) rfl) 0 hv_X7_looked ⟨Nat.le_of_ble_eq_true rfl, Nat.le_of_ble_eq_true rfl⟩ rfl hl.1 (Nat.le_of_ble_eq_true rfl) rfl dL_law_778 ⟨Nat.le_of_ble_eq_true rfl, Nat.le_of_ble_eq_true rfl⟩ (fun H locs hP hS => ?_)
  refine lv_aload_n hx hb dL_law_781 rfl (lv_at hl 2 rfl) ?_
  refine xw_Vi hB hK hE hS hP (As := []) (rest := [.int r]) (kX8_looked l G hG n w _ h2) gs_L_100 (xw_rc hK hP (C := RX8) (T := TX8) (N := 31) (xw_o8 G) rfl) 0 hv_X8_looked ⟨Nat.le_of_ble_eq_true rfl, Nat.le_of_ble_eq_true rfl⟩ rfl hl.1 (Nat.le_of_ble_eq_true rfl) rfl dL_law_782 ⟨Nat.le_of_ble_eq_true rfl, Nat.le_of_ble_eq_true rfl⟩ (fun H locs hP hS => ?_)
  refine lv_icmp_eq (tgt := 1184) hx hb dL_law_785 (by decide) (fun _ => ?_) (fun cx => absurd rfl cx)
  exact kk H locs ls hP hS hl
set_option maxHeartbeats 4000000 in
set_option maxRecDepth 100000 in
theorem law_c20 {p : Program} {l : Launch} {e : Env} {s : State} {m : MethodId} {below : List Frame} {meth : Method} {c : Code} {b L : Nat} {xs : Nat → Int32} {G : xw_G} (hG : xw_ok G) (hB : CallFix p m c code 4 s #[Value.ref b] TB RL) (hK : va_K (xw_D G) xw_cl (xw_ty G) s) (hE : xw_E G s s.heap) (hX : va_X b L xs s s.heap) (hbl : b < s.heap.size) (hbA : ¬ xw_A G b) (hL : L ≤ 3072) {i : Nat} (hi : i + 6 ≤ L) (n : Nat) {w w1 w2 : xw_M} {r : Int32} (h1 : fX7_judge n (xs (i + 1)) (xs (i + 2)) w = some (r, w1)) (h2 : fX8_judge n (xs (i + 1)) (xs (i + 2)) w1 = some (r, w2)) (kk : ∀ (H : Heap) (locs : List Loc) (ls : Array Slot), va_P (xw_D G) xw_cl (xw_W G w2) H → va_S (xw_A G) s.heap H locs → lv_has ls 4 [(0, .ref b), (1, .ref (xw_ad G 0)), (2, .ref (xw_ad G 119)), (3, .int (nI i))] → W p l e room_1 s m #[Value.ref b] below meth c H locs 141 5416 (lw_Z below #[Value.ref b] s) (F0 m 1184 ls [])) (H : Heap) (locs : List Loc) (ls : Array Slot) (hP : va_P (xw_D G) xw_cl (xw_W G w) H) (hS : va_S (xw_A G) s.heap H locs) (hl : lv_has ls 4 [(0, .ref b), (1, .ref (xw_ad G 0)), (2, .ref (xw_ad G 119)), (3, .int (nI i))]) : W p l e room_1 s m #[Value.ref b] below meth c H locs 141 5416 (lw_Z below #[Value.ref b] s) (F0 m 790 ls []) := by
  have hx := hB.1
  have hb := hB.2.1
  refine lv_aload_n hx hb dL_law_790 rfl (lv_at hl 1 rfl) ?_
  refine lv_aload_n hx hb dL_law_791 rfl (lv_at hl 0 rfl) ?_
  refine lv_iload_n hx hb dL_law_792 rfl (lv_at hl 3 rfl) ?_
  refine lv_iconst (v := 1) hx hb dL_law_793 (by decide) ?_
  refine lv_iadd hx hb dL_law_794 ?_
  refine xl_ld hx hb hX hbl hbA hS hL 1 rfl (by omega) dL_law_795 ?_
  refine lv_aload_n hx hb dL_law_796 rfl (lv_at hl 0 rfl) ?_
  refine lv_iload_n hx hb dL_law_797 rfl (lv_at hl 3 rfl) ?_
  refine lv_iconst (v := 2) hx hb dL_law_798 (by decide) ?_
  refine lv_iadd hx hb dL_law_799 ?_
  refine xl_ld hx hb hX hbl hbA hS hL 2 rfl (by omega) dL_law_800 ?_
  refine xw_Vi hB hK hE hS hP (As := [.int (xs (i + 1)), .int (xs (i + 2))]) (rest := []) (kX7_judge l G hG n (xs (i + 1)) (xs (i + 2)) w _ _ h1) gs_L_101 (xw_rc hK hP (C := RX7) (T := TX7) (N := 11) (xw_o7 G) rfl) 2 hv_X7_judge ⟨Nat.le_of_ble_eq_true rfl, Nat.le_of_ble_eq_true rfl⟩ rfl hl.1 (Nat.le_of_ble_eq_true rfl) rfl dL_law_801 ⟨Nat.le_of_ble_eq_true rfl, Nat.le_of_ble_eq_true rfl⟩ (fun H locs hP hS => ?_)
  refine lv_aload_n hx hb dL_law_804 rfl (lv_at hl 2 rfl) ?_
  refine lv_aload_n hx hb dL_law_805 rfl (lv_at hl 0 rfl) ?_
  refine lv_iload_n hx hb dL_law_806 rfl (lv_at hl 3 rfl) ?_
  refine lv_iconst (v := 1) hx hb dL_law_807 (by decide) ?_
  refine lv_iadd hx hb dL_law_808 ?_
  refine xl_ld hx hb hX hbl hbA hS hL 1 rfl (by omega) dL_law_809 ?_
  refine lv_aload_n hx hb dL_law_810 rfl (lv_at hl 0 rfl) ?_
  refine lv_iload_n hx hb dL_law_811 rfl (lv_at hl 3 rfl) ?_
  refine lv_iconst (v := 2) hx hb dL_law_812 (by decide) ?_
  refine lv_iadd hx hb dL_law_813 ?_
  refine xl_ld hx hb hX hbl hbA hS hL 2 rfl (by omega) dL_law_814 ?_
  refine xw_Vi hB hK hE hS hP (As := [.int (xs (i + 1)), .int (xs (i + 2))]) (rest := [.int r]) (kX8_judge l G hG n (xs (i + 1)) (xs (i + 2)) w1 _ _ h2) gs_L_104 (xw_rc hK hP (C := RX8) (T := TX8) (N := 31) (xw_o8 G) rfl) 2 hv_X8_judge ⟨Nat.le_of_ble_eq_true rfl, Nat.le_of_ble_eq_true rfl⟩ rfl hl.1 (Nat.le_of_ble_eq_true rfl) rfl dL_law_815 ⟨Nat.le_of_ble_eq_true rfl, Nat.le_of_ble_eq_true rfl⟩ (fun H locs hP hS => ?_)
  refine lv_icmp_eq (tgt := 1184) hx hb dL_law_818 (by decide) (fun _ => ?_) (fun cx => absurd rfl cx)
  exact kk H locs ls hP hS hl
set_option maxHeartbeats 4000000 in
set_option maxRecDepth 100000 in
theorem law_c21 {p : Program} {l : Launch} {e : Env} {s : State} {m : MethodId} {below : List Frame} {meth : Method} {c : Code} {b L : Nat} {xs : Nat → Int32} {G : xw_G} (hG : xw_ok G) (hB : CallFix p m c code 4 s #[Value.ref b] TB RL) (hK : va_K (xw_D G) xw_cl (xw_ty G) s) (hE : xw_E G s s.heap) (hX : va_X b L xs s s.heap) (hbl : b < s.heap.size) (hbA : ¬ xw_A G b) (hL : L ≤ 3072) {i : Nat} (hi : i + 6 ≤ L) (n : Nat) {w w1 w2 : xw_M} {r : Int32} (h1 : fX7_image w = some (r, w1)) (h2 : fX8_image n w1 = some (r, w2)) (kk : ∀ (H : Heap) (locs : List Loc) (ls : Array Slot), va_P (xw_D G) xw_cl (xw_W G w2) H → va_S (xw_A G) s.heap H locs → lv_has ls 4 [(0, .ref b), (1, .ref (xw_ad G 0)), (2, .ref (xw_ad G 119)), (3, .int (nI i))] → W p l e room_1 s m #[Value.ref b] below meth c H locs 141 5416 (lw_Z below #[Value.ref b] s) (F0 m 1184 ls [])) (H : Heap) (locs : List Loc) (ls : Array Slot) (hP : va_P (xw_D G) xw_cl (xw_W G w) H) (hS : va_S (xw_A G) s.heap H locs) (hl : lv_has ls 4 [(0, .ref b), (1, .ref (xw_ad G 0)), (2, .ref (xw_ad G 119)), (3, .int (nI i))]) : W p l e room_1 s m #[Value.ref b] below meth c H locs 141 5416 (lw_Z below #[Value.ref b] s) (F0 m 823 ls []) := by
  have hx := hB.1
  have hb := hB.2.1
  refine lv_aload_n hx hb dL_law_823 rfl (lv_at hl 1 rfl) ?_
  refine xw_Vi hB hK hE hS hP (As := []) (rest := []) (kX7_image l G hG w _ _ h1) gs_L_105 (xw_rc hK hP (C := RX7) (T := TX7) (N := 11) (xw_o7 G) rfl) 0 hv_X7_image ⟨Nat.le_of_ble_eq_true rfl, Nat.le_of_ble_eq_true rfl⟩ rfl hl.1 (Nat.le_of_ble_eq_true rfl) rfl dL_law_824 ⟨Nat.le_of_ble_eq_true rfl, Nat.le_of_ble_eq_true rfl⟩ (fun H locs hP hS => ?_)
  refine lv_aload_n hx hb dL_law_827 rfl (lv_at hl 2 rfl) ?_
  refine xw_Vi hB hK hE hS hP (As := []) (rest := [.int r]) (kX8_image l G hG n w1 _ _ h2) gs_L_108 (xw_rc hK hP (C := RX8) (T := TX8) (N := 31) (xw_o8 G) rfl) 0 hv_X8_image ⟨Nat.le_of_ble_eq_true rfl, Nat.le_of_ble_eq_true rfl⟩ rfl hl.1 (Nat.le_of_ble_eq_true rfl) rfl dL_law_828 ⟨Nat.le_of_ble_eq_true rfl, Nat.le_of_ble_eq_true rfl⟩ (fun H locs hP hS => ?_)
  refine lv_icmp_eq (tgt := 1184) hx hb dL_law_831 (by decide) (fun _ => ?_) (fun cx => absurd rfl cx)
  exact kk H locs ls hP hS hl
set_option maxHeartbeats 4000000 in
set_option maxRecDepth 100000 in
theorem law_c22 {p : Program} {l : Launch} {e : Env} {s : State} {m : MethodId} {below : List Frame} {meth : Method} {c : Code} {b L : Nat} {xs : Nat → Int32} {G : xw_G} (hG : xw_ok G) (hB : CallFix p m c code 4 s #[Value.ref b] TB RL) (hK : va_K (xw_D G) xw_cl (xw_ty G) s) (hE : xw_E G s s.heap) (hX : va_X b L xs s s.heap) (hbl : b < s.heap.size) (hbA : ¬ xw_A G b) (hL : L ≤ 3072) {i : Nat} (hi : i + 6 ≤ L) (n : Nat) {w w1 w2 : xw_M} {r : Int32} (h1 : fX7_undo w = some (r, w1)) (h2 : fX8_undo n w1 = some (r, w2)) (kk : ∀ (H : Heap) (locs : List Loc) (ls : Array Slot), va_P (xw_D G) xw_cl (xw_W G w2) H → va_S (xw_A G) s.heap H locs → lv_has ls 4 [(0, .ref b), (1, .ref (xw_ad G 0)), (2, .ref (xw_ad G 119)), (3, .int (nI i))] → W p l e room_1 s m #[Value.ref b] below meth c H locs 141 5416 (lw_Z below #[Value.ref b] s) (F0 m 1184 ls [])) (H : Heap) (locs : List Loc) (ls : Array Slot) (hP : va_P (xw_D G) xw_cl (xw_W G w) H) (hS : va_S (xw_A G) s.heap H locs) (hl : lv_has ls 4 [(0, .ref b), (1, .ref (xw_ad G 0)), (2, .ref (xw_ad G 119)), (3, .int (nI i))]) : W p l e room_1 s m #[Value.ref b] below meth c H locs 141 5416 (lw_Z below #[Value.ref b] s) (F0 m 836 ls []) := by
  have hx := hB.1
  have hb := hB.2.1
  refine lv_aload_n hx hb dL_law_836 rfl (lv_at hl 1 rfl) ?_
  refine xw_Vi hB hK hE hS hP (As := []) (rest := []) (kX7_undo l G hG w _ _ h1) gs_L_109 (xw_rc hK hP (C := RX7) (T := TX7) (N := 11) (xw_o7 G) rfl) 0 hv_X7_undo ⟨Nat.le_of_ble_eq_true rfl, Nat.le_of_ble_eq_true rfl⟩ rfl hl.1 (Nat.le_of_ble_eq_true rfl) rfl dL_law_837 ⟨Nat.le_of_ble_eq_true rfl, Nat.le_of_ble_eq_true rfl⟩ (fun H locs hP hS => ?_)
  refine lv_aload_n hx hb dL_law_840 rfl (lv_at hl 2 rfl) ?_
  refine xw_Vi hB hK hE hS hP (As := []) (rest := [.int r]) (kX8_undo l G hG n w1 _ _ h2) gs_L_112 (xw_rc hK hP (C := RX8) (T := TX8) (N := 31) (xw_o8 G) rfl) 0 hv_X8_undo ⟨Nat.le_of_ble_eq_true rfl, Nat.le_of_ble_eq_true rfl⟩ rfl hl.1 (Nat.le_of_ble_eq_true rfl) rfl dL_law_841 ⟨Nat.le_of_ble_eq_true rfl, Nat.le_of_ble_eq_true rfl⟩ (fun H locs hP hS => ?_)
  refine lv_icmp_eq (tgt := 1184) hx hb dL_law_844 (by decide) (fun _ => ?_) (fun cx => absurd rfl cx)
  exact kk H locs ls hP hS hl
set_option maxHeartbeats 4000000 in
set_option maxRecDepth 100000 in
theorem law_c23 {p : Program} {l : Launch} {e : Env} {s : State} {m : MethodId} {below : List Frame} {meth : Method} {c : Code} {b L : Nat} {xs : Nat → Int32} {G : xw_G} (hG : xw_ok G) (hB : CallFix p m c code 4 s #[Value.ref b] TB RL) (hK : va_K (xw_D G) xw_cl (xw_ty G) s) (hE : xw_E G s s.heap) (hX : va_X b L xs s s.heap) (hbl : b < s.heap.size) (hbA : ¬ xw_A G b) (hL : L ≤ 3072) {i : Nat} (hi : i + 6 ≤ L) (n : Nat) {w w1 w2 : xw_M} {r : Int32} (h1 : fX7_act n (xs (i + 1)) (xs (i + 2)) (xs (i + 3)) w = some (r, w1)) (h2 : fX8_act n (xs (i + 1)) (xs (i + 2)) (xs (i + 3)) w1 = some (r, w2)) (kk : ∀ (H : Heap) (locs : List Loc) (ls : Array Slot), va_P (xw_D G) xw_cl (xw_W G w2) H → va_S (xw_A G) s.heap H locs → lv_has ls 4 [(0, .ref b), (1, .ref (xw_ad G 0)), (2, .ref (xw_ad G 119)), (3, .int (nI i))] → W p l e room_1 s m #[Value.ref b] below meth c H locs 141 5416 (lw_Z below #[Value.ref b] s) (F0 m 1184 ls [])) (H : Heap) (locs : List Loc) (ls : Array Slot) (hP : va_P (xw_D G) xw_cl (xw_W G w) H) (hS : va_S (xw_A G) s.heap H locs) (hl : lv_has ls 4 [(0, .ref b), (1, .ref (xw_ad G 0)), (2, .ref (xw_ad G 119)), (3, .int (nI i))]) : W p l e room_1 s m #[Value.ref b] below meth c H locs 141 5416 (lw_Z below #[Value.ref b] s) (F0 m 849 ls []) := by
  have hx := hB.1
  have hb := hB.2.1
  refine lv_aload_n hx hb dL_law_849 rfl (lv_at hl 1 rfl) ?_
  refine lv_aload_n hx hb dL_law_850 rfl (lv_at hl 0 rfl) ?_
  refine lv_iload_n hx hb dL_law_851 rfl (lv_at hl 3 rfl) ?_
  refine lv_iconst (v := 1) hx hb dL_law_852 (by decide) ?_
  refine lv_iadd hx hb dL_law_853 ?_
  refine xl_ld hx hb hX hbl hbA hS hL 1 rfl (by omega) dL_law_854 ?_
  refine lv_aload_n hx hb dL_law_855 rfl (lv_at hl 0 rfl) ?_
  refine lv_iload_n hx hb dL_law_856 rfl (lv_at hl 3 rfl) ?_
  refine lv_iconst (v := 2) hx hb dL_law_857 (by decide) ?_
  refine lv_iadd hx hb dL_law_858 ?_
  refine xl_ld hx hb hX hbl hbA hS hL 2 rfl (by omega) dL_law_859 ?_
  refine lv_aload_n hx hb dL_law_860 rfl (lv_at hl 0 rfl) ?_
  refine lv_iload_n hx hb dL_law_861 rfl (lv_at hl 3 rfl) ?_
  refine lv_iconst (v := 3) hx hb dL_law_862 (by decide) ?_
  refine lv_iadd hx hb dL_law_863 ?_
  refine xl_ld hx hb hX hbl hbA hS hL 3 rfl (by omega) dL_law_864 ?_
  refine xw_Vi hB hK hE hS hP (As := [.int (xs (i + 1)), .int (xs (i + 2)), .int (xs (i + 3))]) (rest := []) (kX7_act l G hG n (xs (i + 1)) (xs (i + 2)) (xs (i + 3)) w _ _ h1) gs_L_113 (xw_rc hK hP (C := RX7) (T := TX7) (N := 11) (xw_o7 G) rfl) 3 hv_X7_act ⟨Nat.le_of_ble_eq_true rfl, Nat.le_of_ble_eq_true rfl⟩ rfl hl.1 (Nat.le_of_ble_eq_true rfl) rfl dL_law_865 ⟨Nat.le_of_ble_eq_true rfl, Nat.le_of_ble_eq_true rfl⟩ (fun H locs hP hS => ?_)
  refine lv_aload_n hx hb dL_law_868 rfl (lv_at hl 2 rfl) ?_
  refine lv_aload_n hx hb dL_law_869 rfl (lv_at hl 0 rfl) ?_
  refine lv_iload_n hx hb dL_law_870 rfl (lv_at hl 3 rfl) ?_
  refine lv_iconst (v := 1) hx hb dL_law_871 (by decide) ?_
  refine lv_iadd hx hb dL_law_872 ?_
  refine xl_ld hx hb hX hbl hbA hS hL 1 rfl (by omega) dL_law_873 ?_
  refine lv_aload_n hx hb dL_law_874 rfl (lv_at hl 0 rfl) ?_
  refine lv_iload_n hx hb dL_law_875 rfl (lv_at hl 3 rfl) ?_
  refine lv_iconst (v := 2) hx hb dL_law_876 (by decide) ?_
  refine lv_iadd hx hb dL_law_877 ?_
  refine xl_ld hx hb hX hbl hbA hS hL 2 rfl (by omega) dL_law_878 ?_
  refine lv_aload_n hx hb dL_law_879 rfl (lv_at hl 0 rfl) ?_
  refine lv_iload_n hx hb dL_law_880 rfl (lv_at hl 3 rfl) ?_
  refine lv_iconst (v := 3) hx hb dL_law_881 (by decide) ?_
  refine lv_iadd hx hb dL_law_882 ?_
  refine xl_ld hx hb hX hbl hbA hS hL 3 rfl (by omega) dL_law_883 ?_
  refine xw_Vi hB hK hE hS hP (As := [.int (xs (i + 1)), .int (xs (i + 2)), .int (xs (i + 3))]) (rest := [.int r]) (kX8_act l G hG n (xs (i + 1)) (xs (i + 2)) (xs (i + 3)) w1 _ _ h2) gs_L_116 (xw_rc hK hP (C := RX8) (T := TX8) (N := 31) (xw_o8 G) rfl) 3 hv_X8_act ⟨Nat.le_of_ble_eq_true rfl, Nat.le_of_ble_eq_true rfl⟩ rfl hl.1 (Nat.le_of_ble_eq_true rfl) rfl dL_law_884 ⟨Nat.le_of_ble_eq_true rfl, Nat.le_of_ble_eq_true rfl⟩ (fun H locs hP hS => ?_)
  refine lv_icmp_eq (tgt := 1184) hx hb dL_law_887 (by decide) (fun _ => ?_) (fun cx => absurd rfl cx)
  exact kk H locs ls hP hS hl
set_option maxHeartbeats 4000000 in
set_option maxRecDepth 100000 in
theorem law_c24 {p : Program} {l : Launch} {e : Env} {s : State} {m : MethodId} {below : List Frame} {meth : Method} {c : Code} {b L : Nat} {xs : Nat → Int32} {G : xw_G} (hG : xw_ok G) (hB : CallFix p m c code 4 s #[Value.ref b] TB RL) (hK : va_K (xw_D G) xw_cl (xw_ty G) s) (hE : xw_E G s s.heap) (hX : va_X b L xs s s.heap) (hbl : b < s.heap.size) (hbA : ¬ xw_A G b) (hL : L ≤ 3072) {i : Nat} (hi : i + 6 ≤ L) (n : Nat) {w : xw_M} {r : Int32} (h1 : fX7_trace (xs (i + 1)) w = some r) (h2 : fX8_trace (xs (i + 1)) w = some r) (kk : ∀ (H : Heap) (locs : List Loc) (ls : Array Slot), va_P (xw_D G) xw_cl (xw_W G w) H → va_S (xw_A G) s.heap H locs → lv_has ls 4 [(0, .ref b), (1, .ref (xw_ad G 0)), (2, .ref (xw_ad G 119)), (3, .int (nI i))] → W p l e room_1 s m #[Value.ref b] below meth c H locs 141 5416 (lw_Z below #[Value.ref b] s) (F0 m 1184 ls [])) (H : Heap) (locs : List Loc) (ls : Array Slot) (hP : va_P (xw_D G) xw_cl (xw_W G w) H) (hS : va_S (xw_A G) s.heap H locs) (hl : lv_has ls 4 [(0, .ref b), (1, .ref (xw_ad G 0)), (2, .ref (xw_ad G 119)), (3, .int (nI i))]) : W p l e room_1 s m #[Value.ref b] below meth c H locs 141 5416 (lw_Z below #[Value.ref b] s) (F0 m 892 ls []) := by
  have hx := hB.1
  have hb := hB.2.1
  refine lv_aload_n hx hb dL_law_892 rfl (lv_at hl 1 rfl) ?_
  refine lv_aload_n hx hb dL_law_893 rfl (lv_at hl 0 rfl) ?_
  refine lv_iload_n hx hb dL_law_894 rfl (lv_at hl 3 rfl) ?_
  refine lv_iconst (v := 1) hx hb dL_law_895 (by decide) ?_
  refine lv_iadd hx hb dL_law_896 ?_
  refine xl_ld hx hb hX hbl hbA hS hL 1 rfl (by omega) dL_law_897 ?_
  refine xw_Vi hB hK hE hS hP (As := [.int (xs (i + 1))]) (rest := []) (kX7_trace l G hG (xs (i + 1)) w _ h1) gs_L_117 (xw_rc hK hP (C := RX7) (T := TX7) (N := 11) (xw_o7 G) rfl) 1 hv_X7_trace ⟨Nat.le_of_ble_eq_true rfl, Nat.le_of_ble_eq_true rfl⟩ rfl hl.1 (Nat.le_of_ble_eq_true rfl) rfl dL_law_898 ⟨Nat.le_of_ble_eq_true rfl, Nat.le_of_ble_eq_true rfl⟩ (fun H locs hP hS => ?_)
  refine lv_aload_n hx hb dL_law_901 rfl (lv_at hl 2 rfl) ?_
  refine lv_aload_n hx hb dL_law_902 rfl (lv_at hl 0 rfl) ?_
  refine lv_iload_n hx hb dL_law_903 rfl (lv_at hl 3 rfl) ?_
  refine lv_iconst (v := 1) hx hb dL_law_904 (by decide) ?_
  refine lv_iadd hx hb dL_law_905 ?_
  refine xl_ld hx hb hX hbl hbA hS hL 1 rfl (by omega) dL_law_906 ?_
  refine xw_Vi hB hK hE hS hP (As := [.int (xs (i + 1))]) (rest := [.int r]) (kX8_trace l G hG (xs (i + 1)) w _ h2) gs_L_120 (xw_rc hK hP (C := RX8) (T := TX8) (N := 31) (xw_o8 G) rfl) 1 hv_X8_trace ⟨Nat.le_of_ble_eq_true rfl, Nat.le_of_ble_eq_true rfl⟩ rfl hl.1 (Nat.le_of_ble_eq_true rfl) rfl dL_law_907 ⟨Nat.le_of_ble_eq_true rfl, Nat.le_of_ble_eq_true rfl⟩ (fun H locs hP hS => ?_)
  refine lv_icmp_eq (tgt := 1184) hx hb dL_law_910 (by decide) (fun _ => ?_) (fun cx => absurd rfl cx)
  exact kk H locs ls hP hS hl
set_option maxHeartbeats 4000000 in
set_option maxRecDepth 100000 in
theorem law_c25 {p : Program} {l : Launch} {e : Env} {s : State} {m : MethodId} {below : List Frame} {meth : Method} {c : Code} {b L : Nat} {xs : Nat → Int32} {G : xw_G} (hG : xw_ok G) (hB : CallFix p m c code 4 s #[Value.ref b] TB RL) (hK : va_K (xw_D G) xw_cl (xw_ty G) s) (hE : xw_E G s s.heap) (hX : va_X b L xs s s.heap) (hbl : b < s.heap.size) (hbA : ¬ xw_A G b) (hL : L ≤ 3072) {i : Nat} (hi : i + 6 ≤ L) (n : Nat) {w : xw_M} {r : Int32} (h1 : fX7_taken n (xs (i + 1)) (xs (i + 2)) w = some r) (h2 : fX8_taken n (xs (i + 1)) (xs (i + 2)) w = some r) (kk : ∀ (H : Heap) (locs : List Loc) (ls : Array Slot), va_P (xw_D G) xw_cl (xw_W G w) H → va_S (xw_A G) s.heap H locs → lv_has ls 4 [(0, .ref b), (1, .ref (xw_ad G 0)), (2, .ref (xw_ad G 119)), (3, .int (nI i))] → W p l e room_1 s m #[Value.ref b] below meth c H locs 141 5416 (lw_Z below #[Value.ref b] s) (F0 m 1184 ls [])) (H : Heap) (locs : List Loc) (ls : Array Slot) (hP : va_P (xw_D G) xw_cl (xw_W G w) H) (hS : va_S (xw_A G) s.heap H locs) (hl : lv_has ls 4 [(0, .ref b), (1, .ref (xw_ad G 0)), (2, .ref (xw_ad G 119)), (3, .int (nI i))]) : W p l e room_1 s m #[Value.ref b] below meth c H locs 141 5416 (lw_Z below #[Value.ref b] s) (F0 m 915 ls []) := by
  have hx := hB.1
  have hb := hB.2.1
  refine lv_aload_n hx hb dL_law_915 rfl (lv_at hl 1 rfl) ?_
  refine lv_aload_n hx hb dL_law_916 rfl (lv_at hl 0 rfl) ?_
  refine lv_iload_n hx hb dL_law_917 rfl (lv_at hl 3 rfl) ?_
  refine lv_iconst (v := 1) hx hb dL_law_918 (by decide) ?_
  refine lv_iadd hx hb dL_law_919 ?_
  refine xl_ld hx hb hX hbl hbA hS hL 1 rfl (by omega) dL_law_920 ?_
  refine lv_aload_n hx hb dL_law_921 rfl (lv_at hl 0 rfl) ?_
  refine lv_iload_n hx hb dL_law_922 rfl (lv_at hl 3 rfl) ?_
  refine lv_iconst (v := 2) hx hb dL_law_923 (by decide) ?_
  refine lv_iadd hx hb dL_law_924 ?_
  refine xl_ld hx hb hX hbl hbA hS hL 2 rfl (by omega) dL_law_925 ?_
  refine xw_Vi hB hK hE hS hP (As := [.int (xs (i + 1)), .int (xs (i + 2))]) (rest := []) (kX7_taken l G hG n (xs (i + 1)) (xs (i + 2)) w _ h1) gs_L_121 (xw_rc hK hP (C := RX7) (T := TX7) (N := 11) (xw_o7 G) rfl) 2 hv_X7_taken ⟨Nat.le_of_ble_eq_true rfl, Nat.le_of_ble_eq_true rfl⟩ rfl hl.1 (Nat.le_of_ble_eq_true rfl) rfl dL_law_926 ⟨Nat.le_of_ble_eq_true rfl, Nat.le_of_ble_eq_true rfl⟩ (fun H locs hP hS => ?_)
  refine lv_aload_n hx hb dL_law_929 rfl (lv_at hl 2 rfl) ?_
  refine lv_aload_n hx hb dL_law_930 rfl (lv_at hl 0 rfl) ?_
  refine lv_iload_n hx hb dL_law_931 rfl (lv_at hl 3 rfl) ?_
  refine lv_iconst (v := 1) hx hb dL_law_932 (by decide) ?_
  refine lv_iadd hx hb dL_law_933 ?_
  refine xl_ld hx hb hX hbl hbA hS hL 1 rfl (by omega) dL_law_934 ?_
  refine lv_aload_n hx hb dL_law_935 rfl (lv_at hl 0 rfl) ?_
  refine lv_iload_n hx hb dL_law_936 rfl (lv_at hl 3 rfl) ?_
  refine lv_iconst (v := 2) hx hb dL_law_937 (by decide) ?_
  refine lv_iadd hx hb dL_law_938 ?_
  refine xl_ld hx hb hX hbl hbA hS hL 2 rfl (by omega) dL_law_939 ?_
  refine xw_Vi hB hK hE hS hP (As := [.int (xs (i + 1)), .int (xs (i + 2))]) (rest := [.int r]) (kX8_taken l G hG n (xs (i + 1)) (xs (i + 2)) w _ h2) gs_L_124 (xw_rc hK hP (C := RX8) (T := TX8) (N := 31) (xw_o8 G) rfl) 2 hv_X8_taken ⟨Nat.le_of_ble_eq_true rfl, Nat.le_of_ble_eq_true rfl⟩ rfl hl.1 (Nat.le_of_ble_eq_true rfl) rfl dL_law_940 ⟨Nat.le_of_ble_eq_true rfl, Nat.le_of_ble_eq_true rfl⟩ (fun H locs hP hS => ?_)
  refine lv_icmp_eq (tgt := 1184) hx hb dL_law_943 (by decide) (fun _ => ?_) (fun cx => absurd rfl cx)
  exact kk H locs ls hP hS hl
set_option maxHeartbeats 4000000 in
set_option maxRecDepth 100000 in
theorem law_c26 {p : Program} {l : Launch} {e : Env} {s : State} {m : MethodId} {below : List Frame} {meth : Method} {c : Code} {b L : Nat} {xs : Nat → Int32} {G : xw_G} (hG : xw_ok G) (hB : CallFix p m c code 4 s #[Value.ref b] TB RL) (hK : va_K (xw_D G) xw_cl (xw_ty G) s) (hE : xw_E G s s.heap) (hX : va_X b L xs s s.heap) (hbl : b < s.heap.size) (hbA : ¬ xw_A G b) (hL : L ≤ 3072) {i : Nat} (hi : i + 6 ≤ L) (n : Nat) {w : xw_M} {r : Int32} (h1 : fX7_count (xs (i + 1)) w = some r) (h2 : fX8_count (xs (i + 1)) w = some r) (kk : ∀ (H : Heap) (locs : List Loc) (ls : Array Slot), va_P (xw_D G) xw_cl (xw_W G w) H → va_S (xw_A G) s.heap H locs → lv_has ls 4 [(0, .ref b), (1, .ref (xw_ad G 0)), (2, .ref (xw_ad G 119)), (3, .int (nI i))] → W p l e room_1 s m #[Value.ref b] below meth c H locs 141 5416 (lw_Z below #[Value.ref b] s) (F0 m 1184 ls [])) (H : Heap) (locs : List Loc) (ls : Array Slot) (hP : va_P (xw_D G) xw_cl (xw_W G w) H) (hS : va_S (xw_A G) s.heap H locs) (hl : lv_has ls 4 [(0, .ref b), (1, .ref (xw_ad G 0)), (2, .ref (xw_ad G 119)), (3, .int (nI i))]) : W p l e room_1 s m #[Value.ref b] below meth c H locs 141 5416 (lw_Z below #[Value.ref b] s) (F0 m 948 ls []) := by
  have hx := hB.1
  have hb := hB.2.1
  refine lv_aload_n hx hb dL_law_948 rfl (lv_at hl 1 rfl) ?_
  refine lv_aload_n hx hb dL_law_949 rfl (lv_at hl 0 rfl) ?_
  refine lv_iload_n hx hb dL_law_950 rfl (lv_at hl 3 rfl) ?_
  refine lv_iconst (v := 1) hx hb dL_law_951 (by decide) ?_
  refine lv_iadd hx hb dL_law_952 ?_
  refine xl_ld hx hb hX hbl hbA hS hL 1 rfl (by omega) dL_law_953 ?_
  refine xw_Vi hB hK hE hS hP (As := [.int (xs (i + 1))]) (rest := []) (kX7_count l G hG (xs (i + 1)) w _ h1) gs_L_125 (xw_rc hK hP (C := RX7) (T := TX7) (N := 11) (xw_o7 G) rfl) 1 hv_X7_count ⟨Nat.le_of_ble_eq_true rfl, Nat.le_of_ble_eq_true rfl⟩ rfl hl.1 (Nat.le_of_ble_eq_true rfl) rfl dL_law_954 ⟨Nat.le_of_ble_eq_true rfl, Nat.le_of_ble_eq_true rfl⟩ (fun H locs hP hS => ?_)
  refine lv_aload_n hx hb dL_law_957 rfl (lv_at hl 2 rfl) ?_
  refine lv_aload_n hx hb dL_law_958 rfl (lv_at hl 0 rfl) ?_
  refine lv_iload_n hx hb dL_law_959 rfl (lv_at hl 3 rfl) ?_
  refine lv_iconst (v := 1) hx hb dL_law_960 (by decide) ?_
  refine lv_iadd hx hb dL_law_961 ?_
  refine xl_ld hx hb hX hbl hbA hS hL 1 rfl (by omega) dL_law_962 ?_
  refine xw_Vi hB hK hE hS hP (As := [.int (xs (i + 1))]) (rest := [.int r]) (kX8_count l G hG (xs (i + 1)) w _ h2) gs_L_128 (xw_rc hK hP (C := RX8) (T := TX8) (N := 31) (xw_o8 G) rfl) 1 hv_X8_count ⟨Nat.le_of_ble_eq_true rfl, Nat.le_of_ble_eq_true rfl⟩ rfl hl.1 (Nat.le_of_ble_eq_true rfl) rfl dL_law_963 ⟨Nat.le_of_ble_eq_true rfl, Nat.le_of_ble_eq_true rfl⟩ (fun H locs hP hS => ?_)
  refine lv_icmp_eq (tgt := 1184) hx hb dL_law_966 (by decide) (fun _ => ?_) (fun cx => absurd rfl cx)
  exact kk H locs ls hP hS hl
set_option maxHeartbeats 4000000 in
set_option maxRecDepth 100000 in
theorem law_c27 {p : Program} {l : Launch} {e : Env} {s : State} {m : MethodId} {below : List Frame} {meth : Method} {c : Code} {b L : Nat} {xs : Nat → Int32} {G : xw_G} (hG : xw_ok G) (hB : CallFix p m c code 4 s #[Value.ref b] TB RL) (hK : va_K (xw_D G) xw_cl (xw_ty G) s) (hE : xw_E G s s.heap) (hX : va_X b L xs s s.heap) (hbl : b < s.heap.size) (hbA : ¬ xw_A G b) (hL : L ≤ 3072) {i : Nat} (hi : i + 6 ≤ L) (n : Nat) {w w1 w2 : xw_M} {r : Int32} (h1 : fX7_tape n (xs (i + 1)) (xs (i + 2)) (xs (i + 3)) w = some (r, w1)) (h2 : fX8_tape n (xs (i + 1)) (xs (i + 2)) (xs (i + 3)) w1 = some (r, w2)) (kk : ∀ (H : Heap) (locs : List Loc) (ls : Array Slot), va_P (xw_D G) xw_cl (xw_W G w2) H → va_S (xw_A G) s.heap H locs → lv_has ls 4 [(0, .ref b), (1, .ref (xw_ad G 0)), (2, .ref (xw_ad G 119)), (3, .int (nI i))] → W p l e room_1 s m #[Value.ref b] below meth c H locs 141 5416 (lw_Z below #[Value.ref b] s) (F0 m 1184 ls [])) (H : Heap) (locs : List Loc) (ls : Array Slot) (hP : va_P (xw_D G) xw_cl (xw_W G w) H) (hS : va_S (xw_A G) s.heap H locs) (hl : lv_has ls 4 [(0, .ref b), (1, .ref (xw_ad G 0)), (2, .ref (xw_ad G 119)), (3, .int (nI i))]) : W p l e room_1 s m #[Value.ref b] below meth c H locs 141 5416 (lw_Z below #[Value.ref b] s) (F0 m 971 ls []) := by
  have hx := hB.1
  have hb := hB.2.1
  refine lv_aload_n hx hb dL_law_971 rfl (lv_at hl 1 rfl) ?_
  refine lv_aload_n hx hb dL_law_972 rfl (lv_at hl 0 rfl) ?_
  refine lv_iload_n hx hb dL_law_973 rfl (lv_at hl 3 rfl) ?_
  refine lv_iconst (v := 1) hx hb dL_law_974 (by decide) ?_
  refine lv_iadd hx hb dL_law_975 ?_
  refine xl_ld hx hb hX hbl hbA hS hL 1 rfl (by omega) dL_law_976 ?_
  refine lv_aload_n hx hb dL_law_977 rfl (lv_at hl 0 rfl) ?_
  refine lv_iload_n hx hb dL_law_978 rfl (lv_at hl 3 rfl) ?_
  refine lv_iconst (v := 2) hx hb dL_law_979 (by decide) ?_
  refine lv_iadd hx hb dL_law_980 ?_
  refine xl_ld hx hb hX hbl hbA hS hL 2 rfl (by omega) dL_law_981 ?_
  refine lv_aload_n hx hb dL_law_982 rfl (lv_at hl 0 rfl) ?_
  refine lv_iload_n hx hb dL_law_983 rfl (lv_at hl 3 rfl) ?_
  refine lv_iconst (v := 3) hx hb dL_law_984 (by decide) ?_
  refine lv_iadd hx hb dL_law_985 ?_
  refine xl_ld hx hb hX hbl hbA hS hL 3 rfl (by omega) dL_law_986 ?_
  refine xw_Vi hB hK hE hS hP (As := [.int (xs (i + 1)), .int (xs (i + 2)), .int (xs (i + 3))]) (rest := []) (kX7_tape l G hG n (xs (i + 1)) (xs (i + 2)) (xs (i + 3)) w _ _ h1) gs_L_129 (xw_rc hK hP (C := RX7) (T := TX7) (N := 11) (xw_o7 G) rfl) 3 hv_X7_tape ⟨Nat.le_of_ble_eq_true rfl, Nat.le_of_ble_eq_true rfl⟩ rfl hl.1 (Nat.le_of_ble_eq_true rfl) rfl dL_law_987 ⟨Nat.le_of_ble_eq_true rfl, Nat.le_of_ble_eq_true rfl⟩ (fun H locs hP hS => ?_)
  refine lv_aload_n hx hb dL_law_990 rfl (lv_at hl 2 rfl) ?_
  refine lv_aload_n hx hb dL_law_991 rfl (lv_at hl 0 rfl) ?_
  refine lv_iload_n hx hb dL_law_992 rfl (lv_at hl 3 rfl) ?_
  refine lv_iconst (v := 1) hx hb dL_law_993 (by decide) ?_
  refine lv_iadd hx hb dL_law_994 ?_
  refine xl_ld hx hb hX hbl hbA hS hL 1 rfl (by omega) dL_law_995 ?_
  refine lv_aload_n hx hb dL_law_996 rfl (lv_at hl 0 rfl) ?_
  refine lv_iload_n hx hb dL_law_997 rfl (lv_at hl 3 rfl) ?_
  refine lv_iconst (v := 2) hx hb dL_law_998 (by decide) ?_
  refine lv_iadd hx hb dL_law_999 ?_
  refine xl_ld hx hb hX hbl hbA hS hL 2 rfl (by omega) dL_law_1000 ?_
  refine lv_aload_n hx hb dL_law_1001 rfl (lv_at hl 0 rfl) ?_
  refine lv_iload_n hx hb dL_law_1002 rfl (lv_at hl 3 rfl) ?_
  refine lv_iconst (v := 3) hx hb dL_law_1003 (by decide) ?_
  refine lv_iadd hx hb dL_law_1004 ?_
  refine xl_ld hx hb hX hbl hbA hS hL 3 rfl (by omega) dL_law_1005 ?_
  refine xw_Vi hB hK hE hS hP (As := [.int (xs (i + 1)), .int (xs (i + 2)), .int (xs (i + 3))]) (rest := [.int r]) (kX8_tape l G hG n (xs (i + 1)) (xs (i + 2)) (xs (i + 3)) w1 _ _ h2) gs_L_132 (xw_rc hK hP (C := RX8) (T := TX8) (N := 31) (xw_o8 G) rfl) 3 hv_X8_tape ⟨Nat.le_of_ble_eq_true rfl, Nat.le_of_ble_eq_true rfl⟩ rfl hl.1 (Nat.le_of_ble_eq_true rfl) rfl dL_law_1006 ⟨Nat.le_of_ble_eq_true rfl, Nat.le_of_ble_eq_true rfl⟩ (fun H locs hP hS => ?_)
  refine lv_icmp_eq (tgt := 1184) hx hb dL_law_1009 (by decide) (fun _ => ?_) (fun cx => absurd rfl cx)
  exact kk H locs ls hP hS hl
set_option maxHeartbeats 4000000 in
set_option maxRecDepth 100000 in
theorem law_c28 {p : Program} {l : Launch} {e : Env} {s : State} {m : MethodId} {below : List Frame} {meth : Method} {c : Code} {b L : Nat} {xs : Nat → Int32} {G : xw_G} (hG : xw_ok G) (hB : CallFix p m c code 4 s #[Value.ref b] TB RL) (hK : va_K (xw_D G) xw_cl (xw_ty G) s) (hE : xw_E G s s.heap) (hX : va_X b L xs s s.heap) (hbl : b < s.heap.size) (hbA : ¬ xw_A G b) (hL : L ≤ 3072) {i : Nat} (hi : i + 6 ≤ L) (n : Nat) {w w1 w2 : xw_M} {r : Int32} (h1 : fX7_item (xs (i + 1)) (xs (i + 2)) ((((xs (i + 3)).toInt64) <<< ((32 : Int32).toInt64 &&& 63)) ||| (((xs (i + 4)).toInt64) &&& (4294967295 : Int64))) w = some (r, w1)) (h2 : fX8_item (xs (i + 1)) (xs (i + 2)) ((((xs (i + 3)).toInt64) <<< ((32 : Int32).toInt64 &&& 63)) ||| (((xs (i + 4)).toInt64) &&& (4294967295 : Int64))) w1 = some (r, w2)) (kk : ∀ (H : Heap) (locs : List Loc) (ls : Array Slot), va_P (xw_D G) xw_cl (xw_W G w2) H → va_S (xw_A G) s.heap H locs → lv_has ls 4 [(0, .ref b), (1, .ref (xw_ad G 0)), (2, .ref (xw_ad G 119)), (3, .int (nI i))] → W p l e room_1 s m #[Value.ref b] below meth c H locs 141 5416 (lw_Z below #[Value.ref b] s) (F0 m 1184 ls [])) (H : Heap) (locs : List Loc) (ls : Array Slot) (hP : va_P (xw_D G) xw_cl (xw_W G w) H) (hS : va_S (xw_A G) s.heap H locs) (hl : lv_has ls 4 [(0, .ref b), (1, .ref (xw_ad G 0)), (2, .ref (xw_ad G 119)), (3, .int (nI i))]) : W p l e room_1 s m #[Value.ref b] below meth c H locs 141 5416 (lw_Z below #[Value.ref b] s) (F0 m 1014 ls []) := by
  have hx := hB.1
  have hb := hB.2.1
  refine lv_aload_n hx hb dL_law_1014 rfl (lv_at hl 1 rfl) ?_
  refine lv_aload_n hx hb dL_law_1015 rfl (lv_at hl 0 rfl) ?_
  refine lv_iload_n hx hb dL_law_1016 rfl (lv_at hl 3 rfl) ?_
  refine lv_iconst (v := 1) hx hb dL_law_1017 (by decide) ?_
  refine lv_iadd hx hb dL_law_1018 ?_
  refine xl_ld hx hb hX hbl hbA hS hL 1 rfl (by omega) dL_law_1019 ?_
  refine lv_aload_n hx hb dL_law_1020 rfl (lv_at hl 0 rfl) ?_
  refine lv_iload_n hx hb dL_law_1021 rfl (lv_at hl 3 rfl) ?_
  refine lv_iconst (v := 2) hx hb dL_law_1022 (by decide) ?_
  refine lv_iadd hx hb dL_law_1023 ?_
  refine xl_ld hx hb hX hbl hbA hS hL 2 rfl (by omega) dL_law_1024 ?_
  refine lv_aload_n hx hb dL_law_1025 rfl (lv_at hl 0 rfl) ?_
  refine lv_iload_n hx hb dL_law_1026 rfl (lv_at hl 3 rfl) ?_
  refine lv_iconst (v := 3) hx hb dL_law_1027 (by decide) ?_
  refine lv_iadd hx hb dL_law_1028 ?_
  refine xl_ld hx hb hX hbl hbA hS hL 3 rfl (by omega) dL_law_1029 ?_
  refine lv_i2l hx hb dL_law_1030 rfl ?_
  refine lv_bipush (v := 32) hx hb dL_law_1031 (by decide) ?_
  refine lv_lshl hx hb dL_law_1033 rfl ?_
  refine lv_aload_n hx hb dL_law_1034 rfl (lv_at hl 0 rfl) ?_
  refine lv_iload_n hx hb dL_law_1035 rfl (lv_at hl 3 rfl) ?_
  refine lv_iconst (v := 4) hx hb dL_law_1036 (by decide) ?_
  refine lv_iadd hx hb dL_law_1037 ?_
  refine xl_ld hx hb hX hbl hbA hS hL 4 rfl (by omega) dL_law_1038 ?_
  refine lv_i2l hx hb dL_law_1039 rfl ?_
  refine lv_ldc2 (v := 4294967295) hx hb hB.2.2.2.1 (hB.2.2.2.2 _ tw_1090) dL_law_1040 ?_
  refine lv_land hx hb dL_law_1043 ?_
  refine lv_lor hx hb dL_law_1044 ?_
  refine xw_Vi hB hK hE hS hP (As := [.int (xs (i + 1)), .int (xs (i + 2)), .long ((((xs (i + 3)).toInt64) <<< ((32 : Int32).toInt64 &&& 63)) ||| (((xs (i + 4)).toInt64) &&& (4294967295 : Int64)))]) (rest := []) (kX7_item l G hG (xs (i + 1)) (xs (i + 2)) ((((xs (i + 3)).toInt64) <<< ((32 : Int32).toInt64 &&& 63)) ||| (((xs (i + 4)).toInt64) &&& (4294967295 : Int64))) w _ _ h1) gs_L_135 (xw_rc hK hP (C := RX7) (T := TX7) (N := 11) (xw_o7 G) rfl) 3 hv_X7_item ⟨Nat.le_of_ble_eq_true rfl, Nat.le_of_ble_eq_true rfl⟩ rfl hl.1 (Nat.le_of_ble_eq_true rfl) rfl dL_law_1045 ⟨Nat.le_of_ble_eq_true rfl, Nat.le_of_ble_eq_true rfl⟩ (fun H locs hP hS => ?_)
  refine lv_aload_n hx hb dL_law_1048 rfl (lv_at hl 2 rfl) ?_
  refine lv_aload_n hx hb dL_law_1049 rfl (lv_at hl 0 rfl) ?_
  refine lv_iload_n hx hb dL_law_1050 rfl (lv_at hl 3 rfl) ?_
  refine lv_iconst (v := 1) hx hb dL_law_1051 (by decide) ?_
  refine lv_iadd hx hb dL_law_1052 ?_
  refine xl_ld hx hb hX hbl hbA hS hL 1 rfl (by omega) dL_law_1053 ?_
  refine lv_aload_n hx hb dL_law_1054 rfl (lv_at hl 0 rfl) ?_
  refine lv_iload_n hx hb dL_law_1055 rfl (lv_at hl 3 rfl) ?_
  refine lv_iconst (v := 2) hx hb dL_law_1056 (by decide) ?_
  refine lv_iadd hx hb dL_law_1057 ?_
  refine xl_ld hx hb hX hbl hbA hS hL 2 rfl (by omega) dL_law_1058 ?_
  refine lv_aload_n hx hb dL_law_1059 rfl (lv_at hl 0 rfl) ?_
  refine lv_iload_n hx hb dL_law_1060 rfl (lv_at hl 3 rfl) ?_
  refine lv_iconst (v := 3) hx hb dL_law_1061 (by decide) ?_
  refine lv_iadd hx hb dL_law_1062 ?_
  refine xl_ld hx hb hX hbl hbA hS hL 3 rfl (by omega) dL_law_1063 ?_
  refine lv_i2l hx hb dL_law_1064 rfl ?_
  refine lv_bipush (v := 32) hx hb dL_law_1065 (by decide) ?_
  refine lv_lshl hx hb dL_law_1067 rfl ?_
  refine lv_aload_n hx hb dL_law_1068 rfl (lv_at hl 0 rfl) ?_
  refine lv_iload_n hx hb dL_law_1069 rfl (lv_at hl 3 rfl) ?_
  refine lv_iconst (v := 4) hx hb dL_law_1070 (by decide) ?_
  refine lv_iadd hx hb dL_law_1071 ?_
  refine xl_ld hx hb hX hbl hbA hS hL 4 rfl (by omega) dL_law_1072 ?_
  refine lv_i2l hx hb dL_law_1073 rfl ?_
  refine lv_ldc2 (v := 4294967295) hx hb hB.2.2.2.1 (hB.2.2.2.2 _ tw_1090) dL_law_1074 ?_
  refine lv_land hx hb dL_law_1077 ?_
  refine lv_lor hx hb dL_law_1078 ?_
  refine xw_Vi hB hK hE hS hP (As := [.int (xs (i + 1)), .int (xs (i + 2)), .long ((((xs (i + 3)).toInt64) <<< ((32 : Int32).toInt64 &&& 63)) ||| (((xs (i + 4)).toInt64) &&& (4294967295 : Int64)))]) (rest := [.int r]) (kX8_item l G hG (xs (i + 1)) (xs (i + 2)) ((((xs (i + 3)).toInt64) <<< ((32 : Int32).toInt64 &&& 63)) ||| (((xs (i + 4)).toInt64) &&& (4294967295 : Int64))) w1 _ _ h2) gs_L_139 (xw_rc hK hP (C := RX8) (T := TX8) (N := 31) (xw_o8 G) rfl) 3 hv_X8_item ⟨Nat.le_of_ble_eq_true rfl, Nat.le_of_ble_eq_true rfl⟩ rfl hl.1 (Nat.le_of_ble_eq_true rfl) rfl dL_law_1079 ⟨Nat.le_of_ble_eq_true rfl, Nat.le_of_ble_eq_true rfl⟩ (fun H locs hP hS => ?_)
  refine lv_icmp_eq (tgt := 1184) hx hb dL_law_1082 (by decide) (fun _ => ?_) (fun cx => absurd rfl cx)
  exact kk H locs ls hP hS hl
set_option maxHeartbeats 4000000 in
set_option maxRecDepth 100000 in
theorem law_c29 {p : Program} {l : Launch} {e : Env} {s : State} {m : MethodId} {below : List Frame} {meth : Method} {c : Code} {b L : Nat} {xs : Nat → Int32} {G : xw_G} (hG : xw_ok G) (hB : CallFix p m c code 4 s #[Value.ref b] TB RL) (hK : va_K (xw_D G) xw_cl (xw_ty G) s) (hE : xw_E G s s.heap) (hX : va_X b L xs s s.heap) (hbl : b < s.heap.size) (hbA : ¬ xw_A G b) (hL : L ≤ 3072) {i : Nat} (hi : i + 6 ≤ L) (n : Nat) {w : xw_M} {r : Int64} (h1 : fX7_read (xs (i + 1)) (xs (i + 2)) w = some r) (h2 : fX8_read (xs (i + 1)) (xs (i + 2)) w = some r) (kk : ∀ (H : Heap) (locs : List Loc) (ls : Array Slot), va_P (xw_D G) xw_cl (xw_W G w) H → va_S (xw_A G) s.heap H locs → lv_has ls 4 [(0, .ref b), (1, .ref (xw_ad G 0)), (2, .ref (xw_ad G 119)), (3, .int (nI i))] → W p l e room_1 s m #[Value.ref b] below meth c H locs 141 5416 (lw_Z below #[Value.ref b] s) (F0 m 1184 ls [])) (H : Heap) (locs : List Loc) (ls : Array Slot) (hP : va_P (xw_D G) xw_cl (xw_W G w) H) (hS : va_S (xw_A G) s.heap H locs) (hl : lv_has ls 4 [(0, .ref b), (1, .ref (xw_ad G 0)), (2, .ref (xw_ad G 119)), (3, .int (nI i))]) : W p l e room_1 s m #[Value.ref b] below meth c H locs 141 5416 (lw_Z below #[Value.ref b] s) (F0 m 1087 ls []) := by
  have hx := hB.1
  have hb := hB.2.1
  refine lv_aload_n hx hb dL_law_1087 rfl (lv_at hl 1 rfl) ?_
  refine lv_aload_n hx hb dL_law_1088 rfl (lv_at hl 0 rfl) ?_
  refine lv_iload_n hx hb dL_law_1089 rfl (lv_at hl 3 rfl) ?_
  refine lv_iconst (v := 1) hx hb dL_law_1090 (by decide) ?_
  refine lv_iadd hx hb dL_law_1091 ?_
  refine xl_ld hx hb hX hbl hbA hS hL 1 rfl (by omega) dL_law_1092 ?_
  refine lv_aload_n hx hb dL_law_1093 rfl (lv_at hl 0 rfl) ?_
  refine lv_iload_n hx hb dL_law_1094 rfl (lv_at hl 3 rfl) ?_
  refine lv_iconst (v := 2) hx hb dL_law_1095 (by decide) ?_
  refine lv_iadd hx hb dL_law_1096 ?_
  refine xl_ld hx hb hX hbl hbA hS hL 2 rfl (by omega) dL_law_1097 ?_
  refine xw_Vl hB hK hE hS hP (As := [.int (xs (i + 1)), .int (xs (i + 2))]) (rest := []) (kX7_read l G hG (xs (i + 1)) (xs (i + 2)) w _ h1) gs_L_140 (xw_rc hK hP (C := RX7) (T := TX7) (N := 11) (xw_o7 G) rfl) 2 hv_X7_read ⟨Nat.le_of_ble_eq_true rfl, Nat.le_of_ble_eq_true rfl⟩ rfl hl.1 (Nat.le_of_ble_eq_true rfl) rfl dL_law_1098 ⟨Nat.le_of_ble_eq_true rfl, Nat.le_of_ble_eq_true rfl⟩ (fun H locs hP hS => ?_)
  refine lv_aload_n hx hb dL_law_1101 rfl (lv_at hl 2 rfl) ?_
  refine lv_aload_n hx hb dL_law_1102 rfl (lv_at hl 0 rfl) ?_
  refine lv_iload_n hx hb dL_law_1103 rfl (lv_at hl 3 rfl) ?_
  refine lv_iconst (v := 1) hx hb dL_law_1104 (by decide) ?_
  refine lv_iadd hx hb dL_law_1105 ?_
  refine xl_ld hx hb hX hbl hbA hS hL 1 rfl (by omega) dL_law_1106 ?_
  refine lv_aload_n hx hb dL_law_1107 rfl (lv_at hl 0 rfl) ?_
  refine lv_iload_n hx hb dL_law_1108 rfl (lv_at hl 3 rfl) ?_
  refine lv_iconst (v := 2) hx hb dL_law_1109 (by decide) ?_
  refine lv_iadd hx hb dL_law_1110 ?_
  refine xl_ld hx hb hX hbl hbA hS hL 2 rfl (by omega) dL_law_1111 ?_
  refine xw_Vl hB hK hE hS hP (As := [.int (xs (i + 1)), .int (xs (i + 2))]) (rest := [.long r]) (kX8_read l G hG (xs (i + 1)) (xs (i + 2)) w _ h2) gs_L_143 (xw_rc hK hP (C := RX8) (T := TX8) (N := 31) (xw_o8 G) rfl) 2 hv_X8_read ⟨Nat.le_of_ble_eq_true rfl, Nat.le_of_ble_eq_true rfl⟩ rfl hl.1 (Nat.le_of_ble_eq_true rfl) rfl dL_law_1112 ⟨Nat.le_of_ble_eq_true rfl, Nat.le_of_ble_eq_true rfl⟩ (fun H locs hP hS => ?_)
  refine W.lcmp hx hb dL_law_1115 ?_
  rw [xl_cmp]
  refine lv_if_eq (tgt := 1184) hx hb dL_law_1116 (by decide) (fun _ => ?_) (fun cx => absurd rfl cx)
  exact kk H locs ls hP hS hl
set_option maxHeartbeats 4000000 in
set_option maxRecDepth 100000 in
theorem law_c30 {p : Program} {l : Launch} {e : Env} {s : State} {m : MethodId} {below : List Frame} {meth : Method} {c : Code} {b L : Nat} {xs : Nat → Int32} {G : xw_G} (hG : xw_ok G) (hB : CallFix p m c code 4 s #[Value.ref b] TB RL) (hK : va_K (xw_D G) xw_cl (xw_ty G) s) (hE : xw_E G s s.heap) (hX : va_X b L xs s s.heap) (hbl : b < s.heap.size) (hbA : ¬ xw_A G b) (hL : L ≤ 3072) {i : Nat} (hi : i + 6 ≤ L) (n : Nat) {w w1 w2 : xw_M} {r : Int32} (h1 : fX7_shift (xs (i + 1)) (xs (i + 2)) (xs (i + 3)) (xs (i + 4)) (xs (i + 5)) w = some (r, w1)) (h2 : fX8_shift n (xs (i + 1)) (xs (i + 2)) (xs (i + 3)) (xs (i + 4)) (xs (i + 5)) w1 = some (r, w2)) (kk : ∀ (H : Heap) (locs : List Loc) (ls : Array Slot), va_P (xw_D G) xw_cl (xw_W G w2) H → va_S (xw_A G) s.heap H locs → lv_has ls 4 [(0, .ref b), (1, .ref (xw_ad G 0)), (2, .ref (xw_ad G 119)), (3, .int (nI i))] → W p l e room_1 s m #[Value.ref b] below meth c H locs 141 5416 (lw_Z below #[Value.ref b] s) (F0 m 1184 ls [])) (H : Heap) (locs : List Loc) (ls : Array Slot) (hP : va_P (xw_D G) xw_cl (xw_W G w) H) (hS : va_S (xw_A G) s.heap H locs) (hl : lv_has ls 4 [(0, .ref b), (1, .ref (xw_ad G 0)), (2, .ref (xw_ad G 119)), (3, .int (nI i))]) : W p l e room_1 s m #[Value.ref b] below meth c H locs 141 5416 (lw_Z below #[Value.ref b] s) (F0 m 1121 ls []) := by
  have hx := hB.1
  have hb := hB.2.1
  refine lv_aload_n hx hb dL_law_1121 rfl (lv_at hl 1 rfl) ?_
  refine lv_aload_n hx hb dL_law_1122 rfl (lv_at hl 0 rfl) ?_
  refine lv_iload_n hx hb dL_law_1123 rfl (lv_at hl 3 rfl) ?_
  refine lv_iconst (v := 1) hx hb dL_law_1124 (by decide) ?_
  refine lv_iadd hx hb dL_law_1125 ?_
  refine xl_ld hx hb hX hbl hbA hS hL 1 rfl (by omega) dL_law_1126 ?_
  refine lv_aload_n hx hb dL_law_1127 rfl (lv_at hl 0 rfl) ?_
  refine lv_iload_n hx hb dL_law_1128 rfl (lv_at hl 3 rfl) ?_
  refine lv_iconst (v := 2) hx hb dL_law_1129 (by decide) ?_
  refine lv_iadd hx hb dL_law_1130 ?_
  refine xl_ld hx hb hX hbl hbA hS hL 2 rfl (by omega) dL_law_1131 ?_
  refine lv_aload_n hx hb dL_law_1132 rfl (lv_at hl 0 rfl) ?_
  refine lv_iload_n hx hb dL_law_1133 rfl (lv_at hl 3 rfl) ?_
  refine lv_iconst (v := 3) hx hb dL_law_1134 (by decide) ?_
  refine lv_iadd hx hb dL_law_1135 ?_
  refine xl_ld hx hb hX hbl hbA hS hL 3 rfl (by omega) dL_law_1136 ?_
  refine lv_aload_n hx hb dL_law_1137 rfl (lv_at hl 0 rfl) ?_
  refine lv_iload_n hx hb dL_law_1138 rfl (lv_at hl 3 rfl) ?_
  refine lv_iconst (v := 4) hx hb dL_law_1139 (by decide) ?_
  refine lv_iadd hx hb dL_law_1140 ?_
  refine xl_ld hx hb hX hbl hbA hS hL 4 rfl (by omega) dL_law_1141 ?_
  refine lv_aload_n hx hb dL_law_1142 rfl (lv_at hl 0 rfl) ?_
  refine lv_iload_n hx hb dL_law_1143 rfl (lv_at hl 3 rfl) ?_
  refine lv_iconst (v := 5) hx hb dL_law_1144 (by decide) ?_
  refine lv_iadd hx hb dL_law_1145 ?_
  refine xl_ld hx hb hX hbl hbA hS hL 5 rfl (by omega) dL_law_1146 ?_
  refine xw_Vi hB hK hE hS hP (As := [.int (xs (i + 1)), .int (xs (i + 2)), .int (xs (i + 3)), .int (xs (i + 4)), .int (xs (i + 5))]) (rest := []) (kX7_shift l G hG (xs (i + 1)) (xs (i + 2)) (xs (i + 3)) (xs (i + 4)) (xs (i + 5)) w _ _ h1) gs_L_144 (xw_rc hK hP (C := RX7) (T := TX7) (N := 11) (xw_o7 G) rfl) 5 hv_X7_shift ⟨Nat.le_of_ble_eq_true rfl, Nat.le_of_ble_eq_true rfl⟩ rfl hl.1 (Nat.le_of_ble_eq_true rfl) rfl dL_law_1147 ⟨Nat.le_of_ble_eq_true rfl, Nat.le_of_ble_eq_true rfl⟩ (fun H locs hP hS => ?_)
  refine lv_aload_n hx hb dL_law_1150 rfl (lv_at hl 2 rfl) ?_
  refine lv_aload_n hx hb dL_law_1151 rfl (lv_at hl 0 rfl) ?_
  refine lv_iload_n hx hb dL_law_1152 rfl (lv_at hl 3 rfl) ?_
  refine lv_iconst (v := 1) hx hb dL_law_1153 (by decide) ?_
  refine lv_iadd hx hb dL_law_1154 ?_
  refine xl_ld hx hb hX hbl hbA hS hL 1 rfl (by omega) dL_law_1155 ?_
  refine lv_aload_n hx hb dL_law_1156 rfl (lv_at hl 0 rfl) ?_
  refine lv_iload_n hx hb dL_law_1157 rfl (lv_at hl 3 rfl) ?_
  refine lv_iconst (v := 2) hx hb dL_law_1158 (by decide) ?_
  refine lv_iadd hx hb dL_law_1159 ?_
  refine xl_ld hx hb hX hbl hbA hS hL 2 rfl (by omega) dL_law_1160 ?_
  refine lv_aload_n hx hb dL_law_1161 rfl (lv_at hl 0 rfl) ?_
  refine lv_iload_n hx hb dL_law_1162 rfl (lv_at hl 3 rfl) ?_
  refine lv_iconst (v := 3) hx hb dL_law_1163 (by decide) ?_
  refine lv_iadd hx hb dL_law_1164 ?_
  refine xl_ld hx hb hX hbl hbA hS hL 3 rfl (by omega) dL_law_1165 ?_
  refine lv_aload_n hx hb dL_law_1166 rfl (lv_at hl 0 rfl) ?_
  refine lv_iload_n hx hb dL_law_1167 rfl (lv_at hl 3 rfl) ?_
  refine lv_iconst (v := 4) hx hb dL_law_1168 (by decide) ?_
  refine lv_iadd hx hb dL_law_1169 ?_
  refine xl_ld hx hb hX hbl hbA hS hL 4 rfl (by omega) dL_law_1170 ?_
  refine lv_aload_n hx hb dL_law_1171 rfl (lv_at hl 0 rfl) ?_
  refine lv_iload_n hx hb dL_law_1172 rfl (lv_at hl 3 rfl) ?_
  refine lv_iconst (v := 5) hx hb dL_law_1173 (by decide) ?_
  refine lv_iadd hx hb dL_law_1174 ?_
  refine xl_ld hx hb hX hbl hbA hS hL 5 rfl (by omega) dL_law_1175 ?_
  refine xw_Vi hB hK hE hS hP (As := [.int (xs (i + 1)), .int (xs (i + 2)), .int (xs (i + 3)), .int (xs (i + 4)), .int (xs (i + 5))]) (rest := [.int r]) (kX8_shift l G hG n (xs (i + 1)) (xs (i + 2)) (xs (i + 3)) (xs (i + 4)) (xs (i + 5)) w1 _ _ h2) gs_L_148 (xw_rc hK hP (C := RX8) (T := TX8) (N := 31) (xw_o8 G) rfl) 5 hv_X8_shift ⟨Nat.le_of_ble_eq_true rfl, Nat.le_of_ble_eq_true rfl⟩ rfl hl.1 (Nat.le_of_ble_eq_true rfl) rfl dL_law_1176 ⟨Nat.le_of_ble_eq_true rfl, Nat.le_of_ble_eq_true rfl⟩ (fun H locs hP hS => ?_)
  refine lv_icmp_eq (tgt := 1184) hx hb dL_law_1179 (by decide) (fun _ => ?_) (fun cx => absurd rfl cx)
  exact kk H locs ls hP hS hl
