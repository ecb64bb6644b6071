/-! ===== the law, case by case (by mklaw.py) ===== -/
theorem hdL_X10_price : yX10_price.cls = RX10 ∧ yX10_price.cls ≠ "java/lang/invoke/MethodHandle" ∧ yX10_price.cls ≠ "java/lang/invoke/VarHandle" ∧ (parseMethodDescriptor yX10_price.desc).map (fun d => d.parameters.length) = some 2 := by decide +kernel
theorem hdL_X11_price : yX11_price.cls = RX11 ∧ yX11_price.cls ≠ "java/lang/invoke/MethodHandle" ∧ yX11_price.cls ≠ "java/lang/invoke/VarHandle" ∧ (parseMethodDescriptor yX11_price.desc).map (fun d => d.parameters.length) = some 2 := by decide +kernel
set_option maxHeartbeats 4000000 in
set_option maxRecDepth 100000 in
theorem lc_price {l : Launch} {k : KT} {b L j : Nat} {xs : Nat → Int32} {nc ns : Nat} {T : TS} (C : CL l k b L xs nc ns) (hL : L ≤ 3584) (hj : 7 * j + 7 ≤ L) (hI : Inv j T) (Ke : KE l k b L xs nc ns j) : GW k T 520 (lvL k.1 b (7 * j)) [] := by
  have Cy := C.y
  obtain ⟨r, T1, T2, h1, h2, hI2⟩ := eq_price (n := 10000) hI (xs (Int32.toNatClampNeg (nI (7 * j) + 1))) (xs (Int32.toNatClampNeg (nI (7 * j) + 2)))
  refine y_aload_n Cy dL_law_520 rfl 1 rfl ?_
  refine y_aload_n Cy dL_law_521 rfl 0 rfl ?_
  refine y_iload Cy dL_law_522 4 rfl ?_
  refine y_iconst (v := 1) Cy dL_law_524 (by decide) ?_
  refine y_iadd Cy dL_law_525 ?_
  refine L_sld C (vin 1 (by decide) hj hL) dL_law_526 ?_
  refine y_aload_n Cy dL_law_527 rfl 0 rfl ?_
  refine y_iload Cy dL_law_528 4 rfl ?_
  refine y_iconst (v := 2) Cy dL_law_530 (by decide) ?_
  refine y_iadd Cy dL_law_531 ?_
  refine L_sld C (vin 2 (by decide) hj hL) dL_law_532 ?_
  refine y_callV (st' := [.int r]) Cy dL_law_533 [.int (xs (Int32.toNatClampNeg (nI (7 * j) + 1))), .int (xs (Int32.toNatClampNeg (nI (7 * j) + 2)))] [] (mtX10_price l _ 10000 _ _ _ _ _ h1) gL_law_X10_price rfl hdL_X10_price (by decide) (by decide) (wE_0 _ _) rfl rfl rfl (Nat.le_of_ble_eq_true rfl) rfl ?_
  refine y_aload_n Cy dL_law_536 rfl 2 rfl ?_
  refine y_aload_n Cy dL_law_537 rfl 0 rfl ?_
  refine y_iload Cy dL_law_538 4 rfl ?_
  refine y_iconst (v := 1) Cy dL_law_540 (by decide) ?_
  refine y_iadd Cy dL_law_541 ?_
  refine L_sld C (vin 1 (by decide) hj hL) dL_law_542 ?_
  refine y_aload_n Cy dL_law_543 rfl 0 rfl ?_
  refine y_iload Cy dL_law_544 4 rfl ?_
  refine y_iconst (v := 2) Cy dL_law_546 (by decide) ?_
  refine y_iadd Cy dL_law_547 ?_
  refine L_sld C (vin 2 (by decide) hj hL) dL_law_548 ?_
  refine y_callV (st' := [.int r, .int r]) Cy dL_law_549 [.int (xs (Int32.toNatClampNeg (nI (7 * j) + 1))), .int (xs (Int32.toNatClampNeg (nI (7 * j) + 2)))] [.int r] (mtX11_price l _ 10000 _ _ _ _ _ h2) gL_law_X11_price rfl hdL_X11_price (by decide) (by decide) (wE_41 _ _) rfl rfl rfl (Nat.le_of_ble_eq_true rfl) rfl ?_
  refine y_icmp_eq (tgt := 1027) (z := ()) (A := some ()) (B := none) Cy dL_law_552 (by decide) (if_pos rfl) (fun _ _ => ?_) (fun _ q => nomatch q)
  exact Ke k T2 _ _ rfl C (Nat.le_succ _) (Nat.le_add_right _ _) hI2
theorem hdL_X10_best : yX10_best.cls = RX10 ∧ yX10_best.cls ≠ "java/lang/invoke/MethodHandle" ∧ yX10_best.cls ≠ "java/lang/invoke/VarHandle" ∧ (parseMethodDescriptor yX10_best.desc).map (fun d => d.parameters.length) = some 0 := by decide +kernel
theorem hdL_X11_best : yX11_best.cls = RX11 ∧ yX11_best.cls ≠ "java/lang/invoke/MethodHandle" ∧ yX11_best.cls ≠ "java/lang/invoke/VarHandle" ∧ (parseMethodDescriptor yX11_best.desc).map (fun d => d.parameters.length) = some 0 := by decide +kernel
set_option maxHeartbeats 4000000 in
set_option maxRecDepth 100000 in
theorem lc_best {l : Launch} {k : KT} {b L j : Nat} {xs : Nat → Int32} {nc ns : Nat} {T : TS} (C : CL l k b L xs nc ns) (hL : L ≤ 3584) (hj : 7 * j + 7 ≤ L) (hI : Inv j T) (Ke : KE l k b L xs nc ns j) : GW k T 557 (lvL k.1 b (7 * j)) [] := by
  have Cy := C.y
  obtain ⟨r, T1, T2, h1, h2, hI2⟩ := eq_best (n := 10000) (Nat.le_refl _) hI
  refine y_aload_n Cy dL_law_557 rfl 1 rfl ?_
  refine y_callV (st' := [.int r]) Cy dL_law_558 [] [] (mtX10_best l _ 10000 _ _ _ h1) gL_law_X10_best rfl hdL_X10_best (by decide) (by decide) (wE_0 _ _) rfl rfl rfl (Nat.le_of_ble_eq_true rfl) rfl ?_
  refine y_aload_n Cy dL_law_561 rfl 2 rfl ?_
  refine y_callV (st' := [.int r, .int r]) Cy dL_law_562 [] [.int r] (mtX11_best l _ 10000 _ _ _ h2) gL_law_X11_best rfl hdL_X11_best (by decide) (by decide) (wE_41 _ _) rfl rfl rfl (Nat.le_of_ble_eq_true rfl) rfl ?_
  refine y_icmp_eq (tgt := 1027) (z := ()) (A := some ()) (B := none) Cy dL_law_565 (by decide) (if_pos rfl) (fun _ _ => ?_) (fun _ q => nomatch q)
  exact Ke k T2 _ _ rfl C (Nat.le_succ _) (Nat.le_add_right _ _) hI2
theorem hdL_X10_bound : yX10_bound.cls = RX10 ∧ yX10_bound.cls ≠ "java/lang/invoke/MethodHandle" ∧ yX10_bound.cls ≠ "java/lang/invoke/VarHandle" ∧ (parseMethodDescriptor yX10_bound.desc).map (fun d => d.parameters.length) = some 0 := by decide +kernel
theorem hdL_X11_bound : yX11_bound.cls = RX11 ∧ yX11_bound.cls ≠ "java/lang/invoke/MethodHandle" ∧ yX11_bound.cls ≠ "java/lang/invoke/VarHandle" ∧ (parseMethodDescriptor yX11_bound.desc).map (fun d => d.parameters.length) = some 0 := by decide +kernel
set_option maxHeartbeats 4000000 in
set_option maxRecDepth 100000 in
theorem lc_bound {l : Launch} {k : KT} {b L j : Nat} {xs : Nat → Int32} {nc ns : Nat} {T : TS} (C : CL l k b L xs nc ns) (hL : L ≤ 3584) (hj : 7 * j + 7 ≤ L) (hI : Inv j T) (Ke : KE l k b L xs nc ns j) : GW k T 570 (lvL k.1 b (7 * j)) [] := by
  have Cy := C.y
  obtain ⟨r, T1, T2, h1, h2, hI2⟩ := eq_bound (n := 10000) (Nat.le_refl _) (by omega) hI
  refine y_aload_n Cy dL_law_570 rfl 1 rfl ?_
  refine y_callV (st' := [.int r]) Cy dL_law_571 [] [] (mtX10_bound l _ 10000 _ _ _ h1) gL_law_X10_bound rfl hdL_X10_bound (by decide) (by decide) (wE_0 _ _) rfl rfl rfl (Nat.le_of_ble_eq_true rfl) rfl ?_
  refine y_aload_n Cy dL_law_574 rfl 2 rfl ?_
  refine y_callV (st' := [.int r, .int r]) Cy dL_law_575 [] [.int r] (mtX11_bound l _ 10000 _ _ _ h2) gL_law_X11_bound rfl hdL_X11_bound (by decide) (by decide) (wE_41 _ _) rfl rfl rfl (Nat.le_of_ble_eq_true rfl) rfl ?_
  refine y_icmp_eq (tgt := 1027) (z := ()) (A := some ()) (B := none) Cy dL_law_578 (by decide) (if_pos rfl) (fun _ _ => ?_) (fun _ q => nomatch q)
  exact Ke k T2 _ _ rfl C (Nat.le_succ _) (Nat.le_add_right _ _) hI2
theorem hdL_X10_greedy : yX10_greedy.cls = RX10 ∧ yX10_greedy.cls ≠ "java/lang/invoke/MethodHandle" ∧ yX10_greedy.cls ≠ "java/lang/invoke/VarHandle" ∧ (parseMethodDescriptor yX10_greedy.desc).map (fun d => d.parameters.length) = some 0 := by decide +kernel
theorem hdL_X11_greedy : yX11_greedy.cls = RX11 ∧ yX11_greedy.cls ≠ "java/lang/invoke/MethodHandle" ∧ yX11_greedy.cls ≠ "java/lang/invoke/VarHandle" ∧ (parseMethodDescriptor yX11_greedy.desc).map (fun d => d.parameters.length) = some 0 := by decide +kernel
set_option maxHeartbeats 4000000 in
set_option maxRecDepth 100000 in
theorem lc_greedy {l : Launch} {k : KT} {b L j : Nat} {xs : Nat → Int32} {nc ns : Nat} {T : TS} (C : CL l k b L xs nc ns) (hL : L ≤ 3584) (hj : 7 * j + 7 ≤ L) (hI : Inv j T) (Ke : KE l k b L xs nc ns j) : GW k T 583 (lvL k.1 b (7 * j)) [] := by
  have Cy := C.y
  obtain ⟨r, T1, T2, h1, h2, hI2⟩ := eq_greedy (n := 10000) (Nat.le_refl _) (by omega) hI
  refine y_aload_n Cy dL_law_583 rfl 1 rfl ?_
  refine y_callV (st' := [.int r]) Cy dL_law_584 [] [] (mtX10_greedy l _ 10000 _ _ _ h1) gL_law_X10_greedy rfl hdL_X10_greedy (by decide) (by decide) (wE_0 _ _) rfl rfl rfl (Nat.le_of_ble_eq_true rfl) rfl ?_
  refine y_aload_n Cy dL_law_587 rfl 2 rfl ?_
  refine y_callV (st' := [.int r, .int r]) Cy dL_law_588 [] [.int r] (mtX11_greedy l _ 10000 _ _ _ h2) gL_law_X11_greedy rfl hdL_X11_greedy (by decide) (by decide) (wE_41 _ _) rfl rfl rfl (Nat.le_of_ble_eq_true rfl) rfl ?_
  refine y_icmp_eq (tgt := 1027) (z := ()) (A := some ()) (B := none) Cy dL_law_591 (by decide) (if_pos rfl) (fun _ _ => ?_) (fun _ q => nomatch q)
  exact Ke k T2 _ _ rfl C (Nat.le_succ _) (Nat.le_add_right _ _) hI2
theorem hdL_X10_fewest : yX10_fewest.cls = RX10 ∧ yX10_fewest.cls ≠ "java/lang/invoke/MethodHandle" ∧ yX10_fewest.cls ≠ "java/lang/invoke/VarHandle" ∧ (parseMethodDescriptor yX10_fewest.desc).map (fun d => d.parameters.length) = some 0 := by decide +kernel
theorem hdL_X11_fewest : yX11_fewest.cls = RX11 ∧ yX11_fewest.cls ≠ "java/lang/invoke/MethodHandle" ∧ yX11_fewest.cls ≠ "java/lang/invoke/VarHandle" ∧ (parseMethodDescriptor yX11_fewest.desc).map (fun d => d.parameters.length) = some 0 := by decide +kernel
set_option maxHeartbeats 4000000 in
set_option maxRecDepth 100000 in
theorem lc_fewest {l : Launch} {k : KT} {b L j : Nat} {xs : Nat → Int32} {nc ns : Nat} {T : TS} (C : CL l k b L xs nc ns) (hL : L ≤ 3584) (hj : 7 * j + 7 ≤ L) (hI : Inv j T) (Ke : KE l k b L xs nc ns j) : GW k T 596 (lvL k.1 b (7 * j)) [] := by
  have Cy := C.y
  obtain ⟨r, T1, T2, h1, h2, hI2⟩ := eq_fewest (n := 10000) (Nat.le_refl _) (by omega) hI
  refine y_aload_n Cy dL_law_596 rfl 1 rfl ?_
  refine y_callV (st' := [.int r]) Cy dL_law_597 [] [] (mtX10_fewest l _ 10000 _ _ _ h1) gL_law_X10_fewest rfl hdL_X10_fewest (by decide) (by decide) (wE_0 _ _) rfl rfl rfl (Nat.le_of_ble_eq_true rfl) rfl ?_
  refine y_aload_n Cy dL_law_600 rfl 2 rfl ?_
  refine y_callV (st' := [.int r, .int r]) Cy dL_law_601 [] [.int r] (mtX11_fewest l _ 10000 _ _ _ h2) gL_law_X11_fewest rfl hdL_X11_fewest (by decide) (by decide) (wE_41 _ _) rfl rfl rfl (Nat.le_of_ble_eq_true rfl) rfl ?_
  refine y_icmp_eq (tgt := 1027) (z := ()) (A := some ()) (B := none) Cy dL_law_604 (by decide) (if_pos rfl) (fun _ _ => ?_) (fun _ q => nomatch q)
  exact Ke k T2 _ _ rfl C (Nat.le_succ _) (Nat.le_add_right _ _) hI2
theorem hdL_X10_slot : yX10_slot.cls = RX10 ∧ yX10_slot.cls ≠ "java/lang/invoke/MethodHandle" ∧ yX10_slot.cls ≠ "java/lang/invoke/VarHandle" ∧ (parseMethodDescriptor yX10_slot.desc).map (fun d => d.parameters.length) = some 2 := by decide +kernel
theorem hdL_X11_slot : yX11_slot.cls = RX11 ∧ yX11_slot.cls ≠ "java/lang/invoke/MethodHandle" ∧ yX11_slot.cls ≠ "java/lang/invoke/VarHandle" ∧ (parseMethodDescriptor yX11_slot.desc).map (fun d => d.parameters.length) = some 2 := by decide +kernel
set_option maxHeartbeats 4000000 in
set_option maxRecDepth 100000 in
theorem lc_slot {l : Launch} {k : KT} {b L j : Nat} {xs : Nat → Int32} {nc ns : Nat} {T : TS} (C : CL l k b L xs nc ns) (hL : L ≤ 3584) (hj : 7 * j + 7 ≤ L) (hI : Inv j T) (Ke : KE l k b L xs nc ns j) : GW k T 609 (lvL k.1 b (7 * j)) [] := by
  have Cy := C.y
  obtain ⟨r, T1, T2, h1, h2, hI2⟩ := eq_slot (n := 10000) (Nat.le_refl _) hI (xs (Int32.toNatClampNeg (nI (7 * j) + 1))) (xs (Int32.toNatClampNeg (nI (7 * j) + 2)))
  refine y_aload_n Cy dL_law_609 rfl 1 rfl ?_
  refine y_aload_n Cy dL_law_610 rfl 0 rfl ?_
  refine y_iload Cy dL_law_611 4 rfl ?_
  refine y_iconst (v := 1) Cy dL_law_613 (by decide) ?_
  refine y_iadd Cy dL_law_614 ?_
  refine L_sld C (vin 1 (by decide) hj hL) dL_law_615 ?_
  refine y_aload_n Cy dL_law_616 rfl 0 rfl ?_
  refine y_iload Cy dL_law_617 4 rfl ?_
  refine y_iconst (v := 2) Cy dL_law_619 (by decide) ?_
  refine y_iadd Cy dL_law_620 ?_
  refine L_sld C (vin 2 (by decide) hj hL) dL_law_621 ?_
  refine y_callV (st' := [.int r]) Cy dL_law_622 [.int (xs (Int32.toNatClampNeg (nI (7 * j) + 1))), .int (xs (Int32.toNatClampNeg (nI (7 * j) + 2)))] [] (mtX10_slot l _ 10000 _ _ _ _ _ h1) gL_law_X10_slot rfl hdL_X10_slot (by decide) (by decide) (wE_0 _ _) rfl rfl rfl (Nat.le_of_ble_eq_true rfl) rfl ?_
  refine y_aload_n Cy dL_law_625 rfl 2 rfl ?_
  refine y_aload_n Cy dL_law_626 rfl 0 rfl ?_
  refine y_iload Cy dL_law_627 4 rfl ?_
  refine y_iconst (v := 1) Cy dL_law_629 (by decide) ?_
  refine y_iadd Cy dL_law_630 ?_
  refine L_sld C (vin 1 (by decide) hj hL) dL_law_631 ?_
  refine y_aload_n Cy dL_law_632 rfl 0 rfl ?_
  refine y_iload Cy dL_law_633 4 rfl ?_
  refine y_iconst (v := 2) Cy dL_law_635 (by decide) ?_
  refine y_iadd Cy dL_law_636 ?_
  refine L_sld C (vin 2 (by decide) hj hL) dL_law_637 ?_
  refine y_callV (st' := [.int r, .int r]) Cy dL_law_638 [.int (xs (Int32.toNatClampNeg (nI (7 * j) + 1))), .int (xs (Int32.toNatClampNeg (nI (7 * j) + 2)))] [.int r] (mtX11_slot l _ 10000 _ _ _ _ _ h2) gL_law_X11_slot rfl hdL_X11_slot (by decide) (by decide) (wE_41 _ _) rfl rfl rfl (Nat.le_of_ble_eq_true rfl) rfl ?_
  refine y_icmp_eq (tgt := 1027) (z := ()) (A := some ()) (B := none) Cy dL_law_641 (by decide) (if_pos rfl) (fun _ _ => ?_) (fun _ q => nomatch q)
  exact Ke k T2 _ _ rfl C (Nat.le_succ _) (Nat.le_add_right _ _) hI2
theorem hdL_X10_drop : yX10_drop.cls = RX10 ∧ yX10_drop.cls ≠ "java/lang/invoke/MethodHandle" ∧ yX10_drop.cls ≠ "java/lang/invoke/VarHandle" ∧ (parseMethodDescriptor yX10_drop.desc).map (fun d => d.parameters.length) = some 1 := by decide +kernel
theorem hdL_X11_drop : yX11_drop.cls = RX11 ∧ yX11_drop.cls ≠ "java/lang/invoke/MethodHandle" ∧ yX11_drop.cls ≠ "java/lang/invoke/VarHandle" ∧ (parseMethodDescriptor yX11_drop.desc).map (fun d => d.parameters.length) = some 1 := by decide +kernel
set_option maxHeartbeats 4000000 in
set_option maxRecDepth 100000 in
theorem lc_drop {l : Launch} {k : KT} {b L j : Nat} {xs : Nat → Int32} {nc ns : Nat} {T : TS} (C : CL l k b L xs nc ns) (hL : L ≤ 3584) (hj : 7 * j + 7 ≤ L) (hI : Inv j T) (Ke : KE l k b L xs nc ns j) : GW k T 646 (lvL k.1 b (7 * j)) [] := by
  have Cy := C.y
  obtain ⟨r, T1, T2, h1, h2, hI2⟩ := eq_drop (n := 10000) (Nat.le_refl _) hI (xs (Int32.toNatClampNeg (nI (7 * j) + 1)))
  refine y_aload_n Cy dL_law_646 rfl 1 rfl ?_
  refine y_aload_n Cy dL_law_647 rfl 0 rfl ?_
  refine y_iload Cy dL_law_648 4 rfl ?_
  refine y_iconst (v := 1) Cy dL_law_650 (by decide) ?_
  refine y_iadd Cy dL_law_651 ?_
  refine L_sld C (vin 1 (by decide) hj hL) dL_law_652 ?_
  refine y_callV (st' := [.int r]) Cy dL_law_653 [.int (xs (Int32.toNatClampNeg (nI (7 * j) + 1)))] [] (mtX10_drop l _ 10000 _ _ _ _ h1) gL_law_X10_drop rfl hdL_X10_drop (by decide) (by decide) (wE_0 _ _) rfl rfl rfl (Nat.le_of_ble_eq_true rfl) rfl ?_
  refine y_aload_n Cy dL_law_656 rfl 2 rfl ?_
  refine y_aload_n Cy dL_law_657 rfl 0 rfl ?_
  refine y_iload Cy dL_law_658 4 rfl ?_
  refine y_iconst (v := 1) Cy dL_law_660 (by decide) ?_
  refine y_iadd Cy dL_law_661 ?_
  refine L_sld C (vin 1 (by decide) hj hL) dL_law_662 ?_
  refine y_callV (st' := [.int r, .int r]) Cy dL_law_663 [.int (xs (Int32.toNatClampNeg (nI (7 * j) + 1)))] [.int r] (mtX11_drop l _ 10000 _ _ _ _ h2) gL_law_X11_drop rfl hdL_X11_drop (by decide) (by decide) (wE_41 _ _) rfl rfl rfl (Nat.le_of_ble_eq_true rfl) rfl ?_
  refine y_icmp_eq (tgt := 1027) (z := ()) (A := some ()) (B := none) Cy dL_law_666 (by decide) (if_pos rfl) (fun _ _ => ?_) (fun _ q => nomatch q)
  exact Ke k T2 _ _ rfl C (Nat.le_succ _) (Nat.le_add_right _ _) hI2
theorem hdL_X10_slotted : yX10_slotted.cls = RX10 ∧ yX10_slotted.cls ≠ "java/lang/invoke/MethodHandle" ∧ yX10_slotted.cls ≠ "java/lang/invoke/VarHandle" ∧ (parseMethodDescriptor yX10_slotted.desc).map (fun d => d.parameters.length) = some 2 := by decide +kernel
theorem hdL_X11_slotted : yX11_slotted.cls = RX11 ∧ yX11_slotted.cls ≠ "java/lang/invoke/MethodHandle" ∧ yX11_slotted.cls ≠ "java/lang/invoke/VarHandle" ∧ (parseMethodDescriptor yX11_slotted.desc).map (fun d => d.parameters.length) = some 2 := by decide +kernel
set_option maxHeartbeats 4000000 in
set_option maxRecDepth 100000 in
theorem lc_slotted {l : Launch} {k : KT} {b L j : Nat} {xs : Nat → Int32} {nc ns : Nat} {T : TS} (C : CL l k b L xs nc ns) (hL : L ≤ 3584) (hj : 7 * j + 7 ≤ L) (hI : Inv j T) (Ke : KE l k b L xs nc ns j) : GW k T 671 (lvL k.1 b (7 * j)) [] := by
  have Cy := C.y
  obtain ⟨r, T1, T2, h1, h2, hI2⟩ := eq_slotted (n := 10000) (Nat.le_refl _) hI (xs (Int32.toNatClampNeg (nI (7 * j) + 1))) (xs (Int32.toNatClampNeg (nI (7 * j) + 2)))
  refine y_aload_n Cy dL_law_671 rfl 1 rfl ?_
  refine y_aload_n Cy dL_law_672 rfl 0 rfl ?_
  refine y_iload Cy dL_law_673 4 rfl ?_
  refine y_iconst (v := 1) Cy dL_law_675 (by decide) ?_
  refine y_iadd Cy dL_law_676 ?_
  refine L_sld C (vin 1 (by decide) hj hL) dL_law_677 ?_
  refine y_aload_n Cy dL_law_678 rfl 0 rfl ?_
  refine y_iload Cy dL_law_679 4 rfl ?_
  refine y_iconst (v := 2) Cy dL_law_681 (by decide) ?_
  refine y_iadd Cy dL_law_682 ?_
  refine L_sld C (vin 2 (by decide) hj hL) dL_law_683 ?_
  refine y_callV (st' := [.int r]) Cy dL_law_684 [.int (xs (Int32.toNatClampNeg (nI (7 * j) + 1))), .int (xs (Int32.toNatClampNeg (nI (7 * j) + 2)))] [] (mtX10_slotted l _ 10000 _ _ _ _ _ h1) gL_law_X10_slotted rfl hdL_X10_slotted (by decide) (by decide) (wE_0 _ _) rfl rfl rfl (Nat.le_of_ble_eq_true rfl) rfl ?_
  refine y_aload_n Cy dL_law_687 rfl 2 rfl ?_
  refine y_aload_n Cy dL_law_688 rfl 0 rfl ?_
  refine y_iload Cy dL_law_689 4 rfl ?_
  refine y_iconst (v := 1) Cy dL_law_691 (by decide) ?_
  refine y_iadd Cy dL_law_692 ?_
  refine L_sld C (vin 1 (by decide) hj hL) dL_law_693 ?_
  refine y_aload_n Cy dL_law_694 rfl 0 rfl ?_
  refine y_iload Cy dL_law_695 4 rfl ?_
  refine y_iconst (v := 2) Cy dL_law_697 (by decide) ?_
  refine y_iadd Cy dL_law_698 ?_
  refine L_sld C (vin 2 (by decide) hj hL) dL_law_699 ?_
  refine y_callV (st' := [.int r, .int r]) Cy dL_law_700 [.int (xs (Int32.toNatClampNeg (nI (7 * j) + 1))), .int (xs (Int32.toNatClampNeg (nI (7 * j) + 2)))] [.int r] (mtX11_slotted l _ 10000 _ _ _ _ _ h2) gL_law_X11_slotted rfl hdL_X11_slotted (by decide) (by decide) (wE_41 _ _) rfl rfl rfl (Nat.le_of_ble_eq_true rfl) rfl ?_
  refine y_icmp_eq (tgt := 1027) (z := ()) (A := some ()) (B := none) Cy dL_law_703 (by decide) (if_pos rfl) (fun _ _ => ?_) (fun _ q => nomatch q)
  exact Ke k T2 _ _ rfl C (Nat.le_succ _) (Nat.le_add_right _ _) hI2
theorem hdL_X10_plan : yX10_plan.cls = RX10 ∧ yX10_plan.cls ≠ "java/lang/invoke/MethodHandle" ∧ yX10_plan.cls ≠ "java/lang/invoke/VarHandle" ∧ (parseMethodDescriptor yX10_plan.desc).map (fun d => d.parameters.length) = some 1 := by decide +kernel
theorem hdL_X11_plan : yX11_plan.cls = RX11 ∧ yX11_plan.cls ≠ "java/lang/invoke/MethodHandle" ∧ yX11_plan.cls ≠ "java/lang/invoke/VarHandle" ∧ (parseMethodDescriptor yX11_plan.desc).map (fun d => d.parameters.length) = some 1 := by decide +kernel
set_option maxHeartbeats 4000000 in
set_option maxRecDepth 100000 in
theorem lc_plan {l : Launch} {k : KT} {b L j : Nat} {xs : Nat → Int32} {nc ns : Nat} {T : TS} (C : CL l k b L xs nc ns) (hL : L ≤ 3584) (hj : 7 * j + 7 ≤ L) (hI : Inv j T) (Ke : KE l k b L xs nc ns j) : GW k T 708 (lvL k.1 b (7 * j)) [] := by
  have Cy := C.y
  obtain ⟨r, T1, T2, h1, h2, hI2⟩ := eq_plan (n := 10000) (Nat.le_refl _) hI (xs (Int32.toNatClampNeg (nI (7 * j) + 1)))
  refine y_aload_n Cy dL_law_708 rfl 1 rfl ?_
  refine y_aload_n Cy dL_law_709 rfl 0 rfl ?_
  refine y_iload Cy dL_law_710 4 rfl ?_
  refine y_iconst (v := 1) Cy dL_law_712 (by decide) ?_
  refine y_iadd Cy dL_law_713 ?_
  refine L_sld C (vin 1 (by decide) hj hL) dL_law_714 ?_
  refine y_callV (st' := [.int r]) Cy dL_law_715 [.int (xs (Int32.toNatClampNeg (nI (7 * j) + 1)))] [] (mtX10_plan l _ 10000 _ _ _ _ h1) gL_law_X10_plan rfl hdL_X10_plan (by decide) (by decide) (wE_0 _ _) rfl rfl rfl (Nat.le_of_ble_eq_true rfl) rfl ?_
  refine y_aload_n Cy dL_law_718 rfl 2 rfl ?_
  refine y_aload_n Cy dL_law_719 rfl 0 rfl ?_
  refine y_iload Cy dL_law_720 4 rfl ?_
  refine y_iconst (v := 1) Cy dL_law_722 (by decide) ?_
  refine y_iadd Cy dL_law_723 ?_
  refine L_sld C (vin 1 (by decide) hj hL) dL_law_724 ?_
  refine y_callV (st' := [.int r, .int r]) Cy dL_law_725 [.int (xs (Int32.toNatClampNeg (nI (7 * j) + 1)))] [.int r] (mtX11_plan l _ 10000 _ _ _ _ h2) gL_law_X11_plan rfl hdL_X11_plan (by decide) (by decide) (wE_41 _ _) rfl rfl rfl (Nat.le_of_ble_eq_true rfl) rfl ?_
  refine y_icmp_eq (tgt := 1027) (z := ()) (A := some ()) (B := none) Cy dL_law_728 (by decide) (if_pos rfl) (fun _ _ => ?_) (fun _ q => nomatch q)
  exact Ke k T2 _ _ rfl C (Nat.le_succ _) (Nat.le_add_right _ _) hI2
