/-! ===== the law, case by case (by mklaw.py) ===== -/
theorem hdL_X10_mill : yX10_mill.cls = RX10 ∧ yX10_mill.cls ≠ "java/lang/invoke/MethodHandle" ∧ yX10_mill.cls ≠ "java/lang/invoke/VarHandle" ∧ (parseMethodDescriptor yX10_mill.desc).map (fun d => d.parameters.length) = some 3 := by decide +kernel
theorem hdL_X11_mill : yX11_mill.cls = RX11 ∧ yX11_mill.cls ≠ "java/lang/invoke/MethodHandle" ∧ yX11_mill.cls ≠ "java/lang/invoke/VarHandle" ∧ (parseMethodDescriptor yX11_mill.desc).map (fun d => d.parameters.length) = some 3 := by decide +kernel
set_option maxHeartbeats 4000000 in
set_option maxRecDepth 100000 in
theorem lc_mill {l : Launch} {k : KT} {b L j : Nat} {xs : Nat → Int32} {nc ns : Nat} {T : TS} (C : CL l k b L xs nc ns) (hL : L ≤ 3584) (hj : 7 * j + 7 ≤ L) (hI : Inv j T) (Ke : KE l k b L xs nc ns j) : GW k T 160 (lvL k.1 b (7 * j)) [] := by
  have Cy := C.y
  obtain ⟨r, T1, T2, h1, h2, hI2⟩ := eq_mill (n := 10000) (Nat.le_refl _) hI (xs (Int32.toNatClampNeg (nI (7 * j) + 1))) (xs (Int32.toNatClampNeg (nI (7 * j) + 2))) (xs (Int32.toNatClampNeg (nI (7 * j) + 3)))
  refine y_aload_n Cy dL_law_160 rfl 1 rfl ?_
  refine y_aload_n Cy dL_law_161 rfl 0 rfl ?_
  refine y_iload Cy dL_law_162 4 rfl ?_
  refine y_iconst (v := 1) Cy dL_law_164 (by decide) ?_
  refine y_iadd Cy dL_law_165 ?_
  refine L_sld C (vin 1 (by decide) hj hL) dL_law_166 ?_
  refine y_aload_n Cy dL_law_167 rfl 0 rfl ?_
  refine y_iload Cy dL_law_168 4 rfl ?_
  refine y_iconst (v := 2) Cy dL_law_170 (by decide) ?_
  refine y_iadd Cy dL_law_171 ?_
  refine L_sld C (vin 2 (by decide) hj hL) dL_law_172 ?_
  refine y_aload_n Cy dL_law_173 rfl 0 rfl ?_
  refine y_iload Cy dL_law_174 4 rfl ?_
  refine y_iconst (v := 3) Cy dL_law_176 (by decide) ?_
  refine y_iadd Cy dL_law_177 ?_
  refine L_sld C (vin 3 (by decide) hj hL) dL_law_178 ?_
  refine y_callV (st' := [.int r]) Cy dL_law_179 [.int (xs (Int32.toNatClampNeg (nI (7 * j) + 1))), .int (xs (Int32.toNatClampNeg (nI (7 * j) + 2))), .int (xs (Int32.toNatClampNeg (nI (7 * j) + 3)))] [] (mtX10_mill l _ 10000 _ _ _ _ _ _ h1) gL_law_X10_mill rfl hdL_X10_mill (by decide) (by decide) (wE_0 _ _) rfl rfl rfl (Nat.le_of_ble_eq_true rfl) rfl ?_
  refine y_aload_n Cy dL_law_182 rfl 2 rfl ?_
  refine y_aload_n Cy dL_law_183 rfl 0 rfl ?_
  refine y_iload Cy dL_law_184 4 rfl ?_
  refine y_iconst (v := 1) Cy dL_law_186 (by decide) ?_
  refine y_iadd Cy dL_law_187 ?_
  refine L_sld C (vin 1 (by decide) hj hL) dL_law_188 ?_
  refine y_aload_n Cy dL_law_189 rfl 0 rfl ?_
  refine y_iload Cy dL_law_190 4 rfl ?_
  refine y_iconst (v := 2) Cy dL_law_192 (by decide) ?_
  refine y_iadd Cy dL_law_193 ?_
  refine L_sld C (vin 2 (by decide) hj hL) dL_law_194 ?_
  refine y_aload_n Cy dL_law_195 rfl 0 rfl ?_
  refine y_iload Cy dL_law_196 4 rfl ?_
  refine y_iconst (v := 3) Cy dL_law_198 (by decide) ?_
  refine y_iadd Cy dL_law_199 ?_
  refine L_sld C (vin 3 (by decide) hj hL) dL_law_200 ?_
  refine y_callV (st' := [.int r, .int r]) Cy dL_law_201 [.int (xs (Int32.toNatClampNeg (nI (7 * j) + 1))), .int (xs (Int32.toNatClampNeg (nI (7 * j) + 2))), .int (xs (Int32.toNatClampNeg (nI (7 * j) + 3)))] [.int r] (mtX11_mill l _ 10000 _ _ _ _ _ _ h2) gL_law_X11_mill rfl hdL_X11_mill (by decide) (by decide) (wE_41 _ _) rfl rfl rfl (Nat.le_of_ble_eq_true rfl) rfl ?_
  refine y_icmp_eq (tgt := 1027) (z := ()) (A := some ()) (B := none) Cy dL_law_204 (by decide) (if_pos rfl) (fun _ _ => ?_) (fun _ q => nomatch q)
  exact Ke k T2 _ _ rfl C (Nat.le_succ _) (Nat.le_add_right _ _) hI2
theorem hdL_X10_strip : yX10_strip.cls = RX10 ∧ yX10_strip.cls ≠ "java/lang/invoke/MethodHandle" ∧ yX10_strip.cls ≠ "java/lang/invoke/VarHandle" ∧ (parseMethodDescriptor yX10_strip.desc).map (fun d => d.parameters.length) = some 2 := by decide +kernel
theorem hdL_X11_strip : yX11_strip.cls = RX11 ∧ yX11_strip.cls ≠ "java/lang/invoke/MethodHandle" ∧ yX11_strip.cls ≠ "java/lang/invoke/VarHandle" ∧ (parseMethodDescriptor yX11_strip.desc).map (fun d => d.parameters.length) = some 2 := by decide +kernel
set_option maxHeartbeats 4000000 in
set_option maxRecDepth 100000 in
theorem lc_strip {l : Launch} {k : KT} {b L j : Nat} {xs : Nat → Int32} {nc ns : Nat} {T : TS} (C : CL l k b L xs nc ns) (hL : L ≤ 3584) (hj : 7 * j + 7 ≤ L) (hI : Inv j T) (Ke : KE l k b L xs nc ns j) : GW k T 209 (lvL k.1 b (7 * j)) [] := by
  have Cy := C.y
  obtain ⟨r, T1, T2, h1, h2, hI2⟩ := eq_strip (n := 10000) hI (xs (Int32.toNatClampNeg (nI (7 * j) + 1))) (xs (Int32.toNatClampNeg (nI (7 * j) + 2)))
  refine y_aload_n Cy dL_law_209 rfl 1 rfl ?_
  refine y_aload_n Cy dL_law_210 rfl 0 rfl ?_
  refine y_iload Cy dL_law_211 4 rfl ?_
  refine y_iconst (v := 1) Cy dL_law_213 (by decide) ?_
  refine y_iadd Cy dL_law_214 ?_
  refine L_sld C (vin 1 (by decide) hj hL) dL_law_215 ?_
  refine y_aload_n Cy dL_law_216 rfl 0 rfl ?_
  refine y_iload Cy dL_law_217 4 rfl ?_
  refine y_iconst (v := 2) Cy dL_law_219 (by decide) ?_
  refine y_iadd Cy dL_law_220 ?_
  refine L_sld C (vin 2 (by decide) hj hL) dL_law_221 ?_
  refine y_callV (st' := [.int r]) Cy dL_law_222 [.int (xs (Int32.toNatClampNeg (nI (7 * j) + 1))), .int (xs (Int32.toNatClampNeg (nI (7 * j) + 2)))] [] (mtX10_strip l _ 10000 _ _ _ _ _ h1) gL_law_X10_strip rfl hdL_X10_strip (by decide) (by decide) (wE_0 _ _) rfl rfl rfl (Nat.le_of_ble_eq_true rfl) rfl ?_
  refine y_aload_n Cy dL_law_225 rfl 2 rfl ?_
  refine y_aload_n Cy dL_law_226 rfl 0 rfl ?_
  refine y_iload Cy dL_law_227 4 rfl ?_
  refine y_iconst (v := 1) Cy dL_law_229 (by decide) ?_
  refine y_iadd Cy dL_law_230 ?_
  refine L_sld C (vin 1 (by decide) hj hL) dL_law_231 ?_
  refine y_aload_n Cy dL_law_232 rfl 0 rfl ?_
  refine y_iload Cy dL_law_233 4 rfl ?_
  refine y_iconst (v := 2) Cy dL_law_235 (by decide) ?_
  refine y_iadd Cy dL_law_236 ?_
  refine L_sld C (vin 2 (by decide) hj hL) dL_law_237 ?_
  refine y_callV (st' := [.int r, .int r]) Cy dL_law_238 [.int (xs (Int32.toNatClampNeg (nI (7 * j) + 1))), .int (xs (Int32.toNatClampNeg (nI (7 * j) + 2)))] [.int r] (mtX11_strip l _ 10000 _ _ _ _ _ h2) gL_law_X11_strip rfl hdL_X11_strip (by decide) (by decide) (wE_41 _ _) rfl rfl rfl (Nat.le_of_ble_eq_true rfl) rfl ?_
  refine y_icmp_eq (tgt := 1027) (z := ()) (A := some ()) (B := none) Cy dL_law_241 (by decide) (if_pos rfl) (fun _ _ => ?_) (fun _ q => nomatch q)
  exact Ke k T2 _ _ rfl C (Nat.le_succ _) (Nat.le_add_right _ _) hI2
theorem hdL_X10_width : yX10_width.cls = RX10 ∧ yX10_width.cls ≠ "java/lang/invoke/MethodHandle" ∧ yX10_width.cls ≠ "java/lang/invoke/VarHandle" ∧ (parseMethodDescriptor yX10_width.desc).map (fun d => d.parameters.length) = some 2 := by decide +kernel
theorem hdL_X11_width : yX11_width.cls = RX11 ∧ yX11_width.cls ≠ "java/lang/invoke/MethodHandle" ∧ yX11_width.cls ≠ "java/lang/invoke/VarHandle" ∧ (parseMethodDescriptor yX11_width.desc).map (fun d => d.parameters.length) = some 2 := by decide +kernel
set_option maxHeartbeats 4000000 in
set_option maxRecDepth 100000 in
theorem lc_width {l : Launch} {k : KT} {b L j : Nat} {xs : Nat → Int32} {nc ns : Nat} {T : TS} (C : CL l k b L xs nc ns) (hL : L ≤ 3584) (hj : 7 * j + 7 ≤ L) (hI : Inv j T) (Ke : KE l k b L xs nc ns j) : GW k T 246 (lvL k.1 b (7 * j)) [] := by
  have Cy := C.y
  obtain ⟨r, T1, T2, h1, h2, hI2⟩ := eq_width (n := 10000) (Nat.le_refl _) hI (xs (Int32.toNatClampNeg (nI (7 * j) + 1))) (xs (Int32.toNatClampNeg (nI (7 * j) + 2)))
  refine y_aload_n Cy dL_law_246 rfl 1 rfl ?_
  refine y_aload_n Cy dL_law_247 rfl 0 rfl ?_
  refine y_iload Cy dL_law_248 4 rfl ?_
  refine y_iconst (v := 1) Cy dL_law_250 (by decide) ?_
  refine y_iadd Cy dL_law_251 ?_
  refine L_sld C (vin 1 (by decide) hj hL) dL_law_252 ?_
  refine y_aload_n Cy dL_law_253 rfl 0 rfl ?_
  refine y_iload Cy dL_law_254 4 rfl ?_
  refine y_iconst (v := 2) Cy dL_law_256 (by decide) ?_
  refine y_iadd Cy dL_law_257 ?_
  refine L_sld C (vin 2 (by decide) hj hL) dL_law_258 ?_
  refine y_callV (st' := [.int r]) Cy dL_law_259 [.int (xs (Int32.toNatClampNeg (nI (7 * j) + 1))), .int (xs (Int32.toNatClampNeg (nI (7 * j) + 2)))] [] (mtX10_width l _ 10000 _ _ _ _ _ h1) gL_law_X10_width rfl hdL_X10_width (by decide) (by decide) (wE_0 _ _) rfl rfl rfl (Nat.le_of_ble_eq_true rfl) rfl ?_
  refine y_aload_n Cy dL_law_262 rfl 2 rfl ?_
  refine y_aload_n Cy dL_law_263 rfl 0 rfl ?_
  refine y_iload Cy dL_law_264 4 rfl ?_
  refine y_iconst (v := 1) Cy dL_law_266 (by decide) ?_
  refine y_iadd Cy dL_law_267 ?_
  refine L_sld C (vin 1 (by decide) hj hL) dL_law_268 ?_
  refine y_aload_n Cy dL_law_269 rfl 0 rfl ?_
  refine y_iload Cy dL_law_270 4 rfl ?_
  refine y_iconst (v := 2) Cy dL_law_272 (by decide) ?_
  refine y_iadd Cy dL_law_273 ?_
  refine L_sld C (vin 2 (by decide) hj hL) dL_law_274 ?_
  refine y_callV (st' := [.int r, .int r]) Cy dL_law_275 [.int (xs (Int32.toNatClampNeg (nI (7 * j) + 1))), .int (xs (Int32.toNatClampNeg (nI (7 * j) + 2)))] [.int r] (mtX11_width l _ 10000 _ _ _ _ _ h2) gL_law_X11_width rfl hdL_X11_width (by decide) (by decide) (wE_41 _ _) rfl rfl rfl (Nat.le_of_ble_eq_true rfl) rfl ?_
  refine y_icmp_eq (tgt := 1027) (z := ()) (A := some ()) (B := none) Cy dL_law_278 (by decide) (if_pos rfl) (fun _ _ => ?_) (fun _ q => nomatch q)
  exact Ke k T2 _ _ rfl C (Nat.le_succ _) (Nat.le_add_right _ _) hI2
theorem hdL_X10_order : yX10_order.cls = RX10 ∧ yX10_order.cls ≠ "java/lang/invoke/MethodHandle" ∧ yX10_order.cls ≠ "java/lang/invoke/VarHandle" ∧ (parseMethodDescriptor yX10_order.desc).map (fun d => d.parameters.length) = some 2 := by decide +kernel
theorem hdL_X11_order : yX11_order.cls = RX11 ∧ yX11_order.cls ≠ "java/lang/invoke/MethodHandle" ∧ yX11_order.cls ≠ "java/lang/invoke/VarHandle" ∧ (parseMethodDescriptor yX11_order.desc).map (fun d => d.parameters.length) = some 2 := by decide +kernel
set_option maxHeartbeats 4000000 in
set_option maxRecDepth 100000 in
theorem lc_order {l : Launch} {k : KT} {b L j : Nat} {xs : Nat → Int32} {nc ns : Nat} {T : TS} (C : CL l k b L xs nc ns) (hL : L ≤ 3584) (hj : 7 * j + 7 ≤ L) (hI : Inv j T) (Ke : KE l k b L xs nc ns j) : GW k T 283 (lvL k.1 b (7 * j)) [] := by
  have Cy := C.y
  obtain ⟨r, T1, T2, h1, h2, hI2⟩ := eq_order (n := 10000) hI (xs (Int32.toNatClampNeg (nI (7 * j) + 1))) (xs (Int32.toNatClampNeg (nI (7 * j) + 2)))
  refine y_aload_n Cy dL_law_283 rfl 1 rfl ?_
  refine y_aload_n Cy dL_law_284 rfl 0 rfl ?_
  refine y_iload Cy dL_law_285 4 rfl ?_
  refine y_iconst (v := 1) Cy dL_law_287 (by decide) ?_
  refine y_iadd Cy dL_law_288 ?_
  refine L_sld C (vin 1 (by decide) hj hL) dL_law_289 ?_
  refine y_aload_n Cy dL_law_290 rfl 0 rfl ?_
  refine y_iload Cy dL_law_291 4 rfl ?_
  refine y_iconst (v := 2) Cy dL_law_293 (by decide) ?_
  refine y_iadd Cy dL_law_294 ?_
  refine L_sld C (vin 2 (by decide) hj hL) dL_law_295 ?_
  refine y_callV (st' := [.int r]) Cy dL_law_296 [.int (xs (Int32.toNatClampNeg (nI (7 * j) + 1))), .int (xs (Int32.toNatClampNeg (nI (7 * j) + 2)))] [] (mtX10_order l _ 10000 _ _ _ _ _ h1) gL_law_X10_order rfl hdL_X10_order (by decide) (by decide) (wE_0 _ _) rfl rfl rfl (Nat.le_of_ble_eq_true rfl) rfl ?_
  refine y_aload_n Cy dL_law_299 rfl 2 rfl ?_
  refine y_aload_n Cy dL_law_300 rfl 0 rfl ?_
  refine y_iload Cy dL_law_301 4 rfl ?_
  refine y_iconst (v := 1) Cy dL_law_303 (by decide) ?_
  refine y_iadd Cy dL_law_304 ?_
  refine L_sld C (vin 1 (by decide) hj hL) dL_law_305 ?_
  refine y_aload_n Cy dL_law_306 rfl 0 rfl ?_
  refine y_iload Cy dL_law_307 4 rfl ?_
  refine y_iconst (v := 2) Cy dL_law_309 (by decide) ?_
  refine y_iadd Cy dL_law_310 ?_
  refine L_sld C (vin 2 (by decide) hj hL) dL_law_311 ?_
  refine y_callV (st' := [.int r, .int r]) Cy dL_law_312 [.int (xs (Int32.toNatClampNeg (nI (7 * j) + 1))), .int (xs (Int32.toNatClampNeg (nI (7 * j) + 2)))] [.int r] (mtX11_order l _ 10000 _ _ _ _ _ h2) gL_law_X11_order rfl hdL_X11_order (by decide) (by decide) (wE_41 _ _) rfl rfl rfl (Nat.le_of_ble_eq_true rfl) rfl ?_
  refine y_icmp_eq (tgt := 1027) (z := ()) (A := some ()) (B := none) Cy dL_law_315 (by decide) (if_pos rfl) (fun _ _ => ?_) (fun _ q => nomatch q)
  exact Ke k T2 _ _ rfl C (Nat.le_succ _) (Nat.le_add_right _ _) hI2
theorem hdL_X10_length : yX10_length.cls = RX10 ∧ yX10_length.cls ≠ "java/lang/invoke/MethodHandle" ∧ yX10_length.cls ≠ "java/lang/invoke/VarHandle" ∧ (parseMethodDescriptor yX10_length.desc).map (fun d => d.parameters.length) = some 1 := by decide +kernel
theorem hdL_X11_length : yX11_length.cls = RX11 ∧ yX11_length.cls ≠ "java/lang/invoke/MethodHandle" ∧ yX11_length.cls ≠ "java/lang/invoke/VarHandle" ∧ (parseMethodDescriptor yX11_length.desc).map (fun d => d.parameters.length) = some 1 := by decide +kernel
set_option maxHeartbeats 4000000 in
set_option maxRecDepth 100000 in
theorem lc_length {l : Launch} {k : KT} {b L j : Nat} {xs : Nat → Int32} {nc ns : Nat} {T : TS} (C : CL l k b L xs nc ns) (hL : L ≤ 3584) (hj : 7 * j + 7 ≤ L) (hI : Inv j T) (Ke : KE l k b L xs nc ns j) : GW k T 320 (lvL k.1 b (7 * j)) [] := by
  have Cy := C.y
  obtain ⟨r, T1, T2, h1, h2, hI2⟩ := eq_length (n := 10000) (Nat.le_refl _) hI (xs (Int32.toNatClampNeg (nI (7 * j) + 1)))
  refine y_aload_n Cy dL_law_320 rfl 1 rfl ?_
  refine y_aload_n Cy dL_law_321 rfl 0 rfl ?_
  refine y_iload Cy dL_law_322 4 rfl ?_
  refine y_iconst (v := 1) Cy dL_law_324 (by decide) ?_
  refine y_iadd Cy dL_law_325 ?_
  refine L_sld C (vin 1 (by decide) hj hL) dL_law_326 ?_
  refine y_callV (st' := [.int r]) Cy dL_law_327 [.int (xs (Int32.toNatClampNeg (nI (7 * j) + 1)))] [] (mtX10_length l _ 10000 _ _ _ _ h1) gL_law_X10_length rfl hdL_X10_length (by decide) (by decide) (wE_0 _ _) rfl rfl rfl (Nat.le_of_ble_eq_true rfl) rfl ?_
  refine y_aload_n Cy dL_law_330 rfl 2 rfl ?_
  refine y_aload_n Cy dL_law_331 rfl 0 rfl ?_
  refine y_iload Cy dL_law_332 4 rfl ?_
  refine y_iconst (v := 1) Cy dL_law_334 (by decide) ?_
  refine y_iadd Cy dL_law_335 ?_
  refine L_sld C (vin 1 (by decide) hj hL) dL_law_336 ?_
  refine y_callV (st' := [.int r, .int r]) Cy dL_law_337 [.int (xs (Int32.toNatClampNeg (nI (7 * j) + 1)))] [.int r] (mtX11_length l _ 10000 _ _ _ _ h2) gL_law_X11_length rfl hdL_X11_length (by decide) (by decide) (wE_41 _ _) rfl rfl rfl (Nat.le_of_ble_eq_true rfl) rfl ?_
  refine y_icmp_eq (tgt := 1027) (z := ()) (A := some ()) (B := none) Cy dL_law_340 (by decide) (if_pos rfl) (fun _ _ => ?_) (fun _ q => nomatch q)
  exact Ke k T2 _ _ rfl C (Nat.le_succ _) (Nat.le_add_right _ _) hI2
theorem hdL_X10_about : yX10_about.cls = RX10 ∧ yX10_about.cls ≠ "java/lang/invoke/MethodHandle" ∧ yX10_about.cls ≠ "java/lang/invoke/VarHandle" ∧ (parseMethodDescriptor yX10_about.desc).map (fun d => d.parameters.length) = some 2 := by decide +kernel
theorem hdL_X11_about : yX11_about.cls = RX11 ∧ yX11_about.cls ≠ "java/lang/invoke/MethodHandle" ∧ yX11_about.cls ≠ "java/lang/invoke/VarHandle" ∧ (parseMethodDescriptor yX11_about.desc).map (fun d => d.parameters.length) = some 2 := by decide +kernel
set_option maxHeartbeats 4000000 in
set_option maxRecDepth 100000 in
theorem lc_about {l : Launch} {k : KT} {b L j : Nat} {xs : Nat → Int32} {nc ns : Nat} {T : TS} (C : CL l k b L xs nc ns) (hL : L ≤ 3584) (hj : 7 * j + 7 ≤ L) (hI : Inv j T) (Ke : KE l k b L xs nc ns j) : GW k T 345 (lvL k.1 b (7 * j)) [] := by
  have Cy := C.y
  obtain ⟨r, T1, T2, h1, h2, hI2⟩ := eq_about (n := 10000) (Nat.le_refl _) hI (xs (Int32.toNatClampNeg (nI (7 * j) + 1))) (xs (Int32.toNatClampNeg (nI (7 * j) + 2)))
  refine y_aload_n Cy dL_law_345 rfl 1 rfl ?_
  refine y_aload_n Cy dL_law_346 rfl 0 rfl ?_
  refine y_iload Cy dL_law_347 4 rfl ?_
  refine y_iconst (v := 1) Cy dL_law_349 (by decide) ?_
  refine y_iadd Cy dL_law_350 ?_
  refine L_sld C (vin 1 (by decide) hj hL) dL_law_351 ?_
  refine y_aload_n Cy dL_law_352 rfl 0 rfl ?_
  refine y_iload Cy dL_law_353 4 rfl ?_
  refine y_iconst (v := 2) Cy dL_law_355 (by decide) ?_
  refine y_iadd Cy dL_law_356 ?_
  refine L_sld C (vin 2 (by decide) hj hL) dL_law_357 ?_
  refine y_callV (st' := [.int r]) Cy dL_law_358 [.int (xs (Int32.toNatClampNeg (nI (7 * j) + 1))), .int (xs (Int32.toNatClampNeg (nI (7 * j) + 2)))] [] (mtX10_about l _ 10000 _ _ _ _ _ h1) gL_law_X10_about rfl hdL_X10_about (by decide) (by decide) (wE_0 _ _) rfl rfl rfl (Nat.le_of_ble_eq_true rfl) rfl ?_
  refine y_aload_n Cy dL_law_361 rfl 2 rfl ?_
  refine y_aload_n Cy dL_law_362 rfl 0 rfl ?_
  refine y_iload Cy dL_law_363 4 rfl ?_
  refine y_iconst (v := 1) Cy dL_law_365 (by decide) ?_
  refine y_iadd Cy dL_law_366 ?_
  refine L_sld C (vin 1 (by decide) hj hL) dL_law_367 ?_
  refine y_aload_n Cy dL_law_368 rfl 0 rfl ?_
  refine y_iload Cy dL_law_369 4 rfl ?_
  refine y_iconst (v := 2) Cy dL_law_371 (by decide) ?_
  refine y_iadd Cy dL_law_372 ?_
  refine L_sld C (vin 2 (by decide) hj hL) dL_law_373 ?_
  refine y_callV (st' := [.int r, .int r]) Cy dL_law_374 [.int (xs (Int32.toNatClampNeg (nI (7 * j) + 1))), .int (xs (Int32.toNatClampNeg (nI (7 * j) + 2)))] [.int r] (mtX11_about l _ 10000 _ _ _ _ _ h2) gL_law_X11_about rfl hdL_X11_about (by decide) (by decide) (wE_41 _ _) rfl rfl rfl (Nat.le_of_ble_eq_true rfl) rfl ?_
  refine y_icmp_eq (tgt := 1027) (z := ()) (A := some ()) (B := none) Cy dL_law_377 (by decide) (if_pos rfl) (fun _ _ => ?_) (fun _ q => nomatch q)
  exact Ke k T2 _ _ rfl C (Nat.le_succ _) (Nat.le_add_right _ _) hI2
theorem hdL_X10_patterns : yX10_patterns.cls = RX10 ∧ yX10_patterns.cls ≠ "java/lang/invoke/MethodHandle" ∧ yX10_patterns.cls ≠ "java/lang/invoke/VarHandle" ∧ (parseMethodDescriptor yX10_patterns.desc).map (fun d => d.parameters.length) = some 0 := by decide +kernel
theorem hdL_X11_patterns : yX11_patterns.cls = RX11 ∧ yX11_patterns.cls ≠ "java/lang/invoke/MethodHandle" ∧ yX11_patterns.cls ≠ "java/lang/invoke/VarHandle" ∧ (parseMethodDescriptor yX11_patterns.desc).map (fun d => d.parameters.length) = some 0 := by decide +kernel
set_option maxHeartbeats 4000000 in
set_option maxRecDepth 100000 in
theorem lc_patterns {l : Launch} {k : KT} {b L j : Nat} {xs : Nat → Int32} {nc ns : Nat} {T : TS} (C : CL l k b L xs nc ns) (hL : L ≤ 3584) (hj : 7 * j + 7 ≤ L) (hI : Inv j T) (Ke : KE l k b L xs nc ns j) : GW k T 382 (lvL k.1 b (7 * j)) [] := by
  have Cy := C.y
  obtain ⟨r, T1, T2, h1, h2, hI2⟩ := eq_patterns (n := 10000) (Nat.le_refl _) hI
  refine y_aload_n Cy dL_law_382 rfl 1 rfl ?_
  refine y_callV (st' := [.int r]) Cy dL_law_383 [] [] (mtX10_patterns l _ 10000 _ _ _ h1) gL_law_X10_patterns rfl hdL_X10_patterns (by decide) (by decide) (wE_0 _ _) rfl rfl rfl (Nat.le_of_ble_eq_true rfl) rfl ?_
  refine y_aload_n Cy dL_law_386 rfl 2 rfl ?_
  refine y_callV (st' := [.int r, .int r]) Cy dL_law_387 [] [.int r] (mtX11_patterns l _ 10000 _ _ _ h2) gL_law_X11_patterns rfl hdL_X11_patterns (by decide) (by decide) (wE_41 _ _) rfl rfl rfl (Nat.le_of_ble_eq_true rfl) rfl ?_
  refine y_icmp_eq (tgt := 1027) (z := ()) (A := some ()) (B := none) Cy dL_law_390 (by decide) (if_pos rfl) (fun _ _ => ?_) (fun _ q => nomatch q)
  exact Ke k T2 _ _ rfl C (Nat.le_succ _) (Nat.le_add_right _ _) hI2
theorem hdL_X10_pattern : yX10_pattern.cls = RX10 ∧ yX10_pattern.cls ≠ "java/lang/invoke/MethodHandle" ∧ yX10_pattern.cls ≠ "java/lang/invoke/VarHandle" ∧ (parseMethodDescriptor yX10_pattern.desc).map (fun d => d.parameters.length) = some 2 := by decide +kernel
theorem hdL_X11_pattern : yX11_pattern.cls = RX11 ∧ yX11_pattern.cls ≠ "java/lang/invoke/MethodHandle" ∧ yX11_pattern.cls ≠ "java/lang/invoke/VarHandle" ∧ (parseMethodDescriptor yX11_pattern.desc).map (fun d => d.parameters.length) = some 2 := by decide +kernel
set_option maxHeartbeats 4000000 in
set_option maxRecDepth 100000 in
theorem lc_pattern {l : Launch} {k : KT} {b L j : Nat} {xs : Nat → Int32} {nc ns : Nat} {T : TS} (C : CL l k b L xs nc ns) (hL : L ≤ 3584) (hj : 7 * j + 7 ≤ L) (hI : Inv j T) (Ke : KE l k b L xs nc ns j) : GW k T 395 (lvL k.1 b (7 * j)) [] := by
  have Cy := C.y
  obtain ⟨r, T1, T2, h1, h2, hI2⟩ := eq_pattern (n := 10000) (Nat.le_refl _) hI (xs (Int32.toNatClampNeg (nI (7 * j) + 1))) (xs (Int32.toNatClampNeg (nI (7 * j) + 2)))
  refine y_aload_n Cy dL_law_395 rfl 1 rfl ?_
  refine y_aload_n Cy dL_law_396 rfl 0 rfl ?_
  refine y_iload Cy dL_law_397 4 rfl ?_
  refine y_iconst (v := 1) Cy dL_law_399 (by decide) ?_
  refine y_iadd Cy dL_law_400 ?_
  refine L_sld C (vin 1 (by decide) hj hL) dL_law_401 ?_
  refine y_aload_n Cy dL_law_402 rfl 0 rfl ?_
  refine y_iload Cy dL_law_403 4 rfl ?_
  refine y_iconst (v := 2) Cy dL_law_405 (by decide) ?_
  refine y_iadd Cy dL_law_406 ?_
  refine L_sld C (vin 2 (by decide) hj hL) dL_law_407 ?_
  refine y_callV (st' := [.long r]) Cy dL_law_408 [.int (xs (Int32.toNatClampNeg (nI (7 * j) + 1))), .int (xs (Int32.toNatClampNeg (nI (7 * j) + 2)))] [] (mtX10_pattern l _ 10000 _ _ _ _ _ h1) gL_law_X10_pattern rfl hdL_X10_pattern (by decide) (by decide) (wE_0 _ _) rfl rfl rfl (Nat.le_of_ble_eq_true rfl) rfl ?_
  refine y_aload_n Cy dL_law_411 rfl 2 rfl ?_
  refine y_aload_n Cy dL_law_412 rfl 0 rfl ?_
  refine y_iload Cy dL_law_413 4 rfl ?_
  refine y_iconst (v := 1) Cy dL_law_415 (by decide) ?_
  refine y_iadd Cy dL_law_416 ?_
  refine L_sld C (vin 1 (by decide) hj hL) dL_law_417 ?_
  refine y_aload_n Cy dL_law_418 rfl 0 rfl ?_
  refine y_iload Cy dL_law_419 4 rfl ?_
  refine y_iconst (v := 2) Cy dL_law_421 (by decide) ?_
  refine y_iadd Cy dL_law_422 ?_
  refine L_sld C (vin 2 (by decide) hj hL) dL_law_423 ?_
  refine y_callV (st' := [.long r, .long r]) Cy dL_law_424 [.int (xs (Int32.toNatClampNeg (nI (7 * j) + 1))), .int (xs (Int32.toNatClampNeg (nI (7 * j) + 2)))] [.long r] (mtX11_pattern l _ 10000 _ _ _ _ _ h2) gL_law_X11_pattern rfl hdL_X11_pattern (by decide) (by decide) (wE_41 _ _) rfl rfl rfl (Nat.le_of_ble_eq_true rfl) rfl ?_
  refine y_lcmp Cy dL_law_427 ?_
  refine y_if_eq (tgt := 1027) (z := ()) (A := some ()) (B := none) Cy dL_law_428 (by decide) (if_pos ((lg_cmp_eq r r).mpr rfl)) (fun _ _ => ?_) (fun _ q => nomatch q)
  exact Ke k T2 _ _ rfl C (Nat.le_succ _) (Nat.le_add_right _ _) hI2
theorem hdL_X10_find : yX10_find.cls = RX10 ∧ yX10_find.cls ≠ "java/lang/invoke/MethodHandle" ∧ yX10_find.cls ≠ "java/lang/invoke/VarHandle" ∧ (parseMethodDescriptor yX10_find.desc).map (fun d => d.parameters.length) = some 6 := by decide +kernel
theorem hdL_X11_find : yX11_find.cls = RX11 ∧ yX11_find.cls ≠ "java/lang/invoke/MethodHandle" ∧ yX11_find.cls ≠ "java/lang/invoke/VarHandle" ∧ (parseMethodDescriptor yX11_find.desc).map (fun d => d.parameters.length) = some 6 := by decide +kernel
set_option maxHeartbeats 4000000 in
set_option maxRecDepth 100000 in
theorem lc_find {l : Launch} {k : KT} {b L j : Nat} {xs : Nat → Int32} {nc ns : Nat} {T : TS} (C : CL l k b L xs nc ns) (hL : L ≤ 3584) (hj : 7 * j + 7 ≤ L) (hI : Inv j T) (Ke : KE l k b L xs nc ns j) : GW k T 433 (lvL k.1 b (7 * j)) [] := by
  have Cy := C.y
  obtain ⟨r, T1, T2, h1, h2, hI2⟩ := eq_find (n := 10000) (Nat.le_refl _) hI (xs (Int32.toNatClampNeg (nI (7 * j) + 1))) (xs (Int32.toNatClampNeg (nI (7 * j) + 2))) (xs (Int32.toNatClampNeg (nI (7 * j) + 3))) (xs (Int32.toNatClampNeg (nI (7 * j) + 4))) (xs (Int32.toNatClampNeg (nI (7 * j) + 5))) (xs (Int32.toNatClampNeg (nI (7 * j) + 6)))
  refine y_aload_n Cy dL_law_433 rfl 1 rfl ?_
  refine y_aload_n Cy dL_law_434 rfl 0 rfl ?_
  refine y_iload Cy dL_law_435 4 rfl ?_
  refine y_iconst (v := 1) Cy dL_law_437 (by decide) ?_
  refine y_iadd Cy dL_law_438 ?_
  refine L_sld C (vin 1 (by decide) hj hL) dL_law_439 ?_
  refine y_aload_n Cy dL_law_440 rfl 0 rfl ?_
  refine y_iload Cy dL_law_441 4 rfl ?_
  refine y_iconst (v := 2) Cy dL_law_443 (by decide) ?_
  refine y_iadd Cy dL_law_444 ?_
  refine L_sld C (vin 2 (by decide) hj hL) dL_law_445 ?_
  refine y_aload_n Cy dL_law_446 rfl 0 rfl ?_
  refine y_iload Cy dL_law_447 4 rfl ?_
  refine y_iconst (v := 3) Cy dL_law_449 (by decide) ?_
  refine y_iadd Cy dL_law_450 ?_
  refine L_sld C (vin 3 (by decide) hj hL) dL_law_451 ?_
  refine y_aload_n Cy dL_law_452 rfl 0 rfl ?_
  refine y_iload Cy dL_law_453 4 rfl ?_
  refine y_iconst (v := 4) Cy dL_law_455 (by decide) ?_
  refine y_iadd Cy dL_law_456 ?_
  refine L_sld C (vin 4 (by decide) hj hL) dL_law_457 ?_
  refine y_aload_n Cy dL_law_458 rfl 0 rfl ?_
  refine y_iload Cy dL_law_459 4 rfl ?_
  refine y_iconst (v := 5) Cy dL_law_461 (by decide) ?_
  refine y_iadd Cy dL_law_462 ?_
  refine L_sld C (vin 5 (by decide) hj hL) dL_law_463 ?_
  refine y_aload_n Cy dL_law_464 rfl 0 rfl ?_
  refine y_iload Cy dL_law_465 4 rfl ?_
  refine y_bipush (v := 6) Cy dL_law_467 (by decide) ?_
  refine y_iadd Cy dL_law_469 ?_
  refine L_sld C (vin 6 (by decide) hj hL) dL_law_470 ?_
  refine y_callV (st' := [.int r]) Cy dL_law_471 [.int (xs (Int32.toNatClampNeg (nI (7 * j) + 1))), .int (xs (Int32.toNatClampNeg (nI (7 * j) + 2))), .int (xs (Int32.toNatClampNeg (nI (7 * j) + 3))), .int (xs (Int32.toNatClampNeg (nI (7 * j) + 4))), .int (xs (Int32.toNatClampNeg (nI (7 * j) + 5))), .int (xs (Int32.toNatClampNeg (nI (7 * j) + 6)))] [] (mtX10_find l _ 10000 _ _ _ _ _ _ _ _ _ h1) gL_law_X10_find rfl hdL_X10_find (by decide) (by decide) (wE_0 _ _) rfl rfl rfl (Nat.le_of_ble_eq_true rfl) rfl ?_
  refine y_aload_n Cy dL_law_474 rfl 2 rfl ?_
  refine y_aload_n Cy dL_law_475 rfl 0 rfl ?_
  refine y_iload Cy dL_law_476 4 rfl ?_
  refine y_iconst (v := 1) Cy dL_law_478 (by decide) ?_
  refine y_iadd Cy dL_law_479 ?_
  refine L_sld C (vin 1 (by decide) hj hL) dL_law_480 ?_
  refine y_aload_n Cy dL_law_481 rfl 0 rfl ?_
  refine y_iload Cy dL_law_482 4 rfl ?_
  refine y_iconst (v := 2) Cy dL_law_484 (by decide) ?_
  refine y_iadd Cy dL_law_485 ?_
  refine L_sld C (vin 2 (by decide) hj hL) dL_law_486 ?_
  refine y_aload_n Cy dL_law_487 rfl 0 rfl ?_
  refine y_iload Cy dL_law_488 4 rfl ?_
  refine y_iconst (v := 3) Cy dL_law_490 (by decide) ?_
  refine y_iadd Cy dL_law_491 ?_
  refine L_sld C (vin 3 (by decide) hj hL) dL_law_492 ?_
  refine y_aload_n Cy dL_law_493 rfl 0 rfl ?_
  refine y_iload Cy dL_law_494 4 rfl ?_
  refine y_iconst (v := 4) Cy dL_law_496 (by decide) ?_
  refine y_iadd Cy dL_law_497 ?_
  refine L_sld C (vin 4 (by decide) hj hL) dL_law_498 ?_
  refine y_aload_n Cy dL_law_499 rfl 0 rfl ?_
  refine y_iload Cy dL_law_500 4 rfl ?_
  refine y_iconst (v := 5) Cy dL_law_502 (by decide) ?_
  refine y_iadd Cy dL_law_503 ?_
  refine L_sld C (vin 5 (by decide) hj hL) dL_law_504 ?_
  refine y_aload_n Cy dL_law_505 rfl 0 rfl ?_
  refine y_iload Cy dL_law_506 4 rfl ?_
  refine y_bipush (v := 6) Cy dL_law_508 (by decide) ?_
  refine y_iadd Cy dL_law_510 ?_
  refine L_sld C (vin 6 (by decide) hj hL) dL_law_511 ?_
  refine y_callV (st' := [.int r, .int r]) Cy dL_law_512 [.int (xs (Int32.toNatClampNeg (nI (7 * j) + 1))), .int (xs (Int32.toNatClampNeg (nI (7 * j) + 2))), .int (xs (Int32.toNatClampNeg (nI (7 * j) + 3))), .int (xs (Int32.toNatClampNeg (nI (7 * j) + 4))), .int (xs (Int32.toNatClampNeg (nI (7 * j) + 5))), .int (xs (Int32.toNatClampNeg (nI (7 * j) + 6)))] [.int r] (mtX11_find l _ 10000 _ _ _ _ _ _ _ _ _ h2) gL_law_X11_find rfl hdL_X11_find (by decide) (by decide) (wE_41 _ _) rfl rfl rfl (Nat.le_of_ble_eq_true rfl) rfl ?_
  refine y_icmp_eq (tgt := 1027) (z := ()) (A := some ()) (B := none) Cy dL_law_515 (by decide) (if_pos rfl) (fun _ _ => ?_) (fun _ q => nomatch q)
  exact Ke k T2 _ _ rfl C (Nat.le_succ _) (Nat.le_add_right _ _) hI2
