/-! ===== the constructors (by mkinit.py) ===== -/
theorem hd_X1_init : yX1_init.cls ≠ "java/lang/invoke/MethodHandle" ∧ yX1_init.cls ≠ "java/lang/invoke/VarHandle" ∧ (parseMethodDescriptor yX1_init.desc).map (fun d => d.parameters.length) = some 0 := by decide +kernel
theorem inN_X1_init : ∀ w ∈ u_ws RX1 TX1 2, w ∈ wsX1_init := by decide +kernel
set_option maxHeartbeats 4000000 in
set_option maxRecDepth 100000 in
theorem miX1 (l : Launch) (X : XT) (h0 : Nat) (wl : va_W) : Met l yX1_init wsX1_init (RN 1 1 21) (PreN X [.ref h0] (wl ++ [(h0, .inr (0, [.int 0, .null]))])) (QN X (fun q => wl ++ [(h0, .inr (0, [.int 0, .ref (q 0)])), (q 0, .inl (xI X, 21, .inl (fun _ => 0)))])) 1 21 (xA X) := by
  refine n_start (by decide) rfl (Nat.le_of_ble_eq_true rfl) ?_
  intro k hk C
  subst hk
  replace C : CZ l k 1 cX1_init RX1 wsX1_init 1 none (RN 1 1 21) _ "<init>" := C
  show NW k 0 0 _ 0 [(0, .ref h0)] []
  refine n_eq (ws2 := mw wl (h0, .inr (0, [.int 0, .null])) [] []) (by unfold mw; rw [List.append_nil]) ?_
  refine n_aload_n C dX1_init_0 rfl 0 rfl ?_
  refine n_obj C dX1_init_1 (by decide +kernel) (by decide +kernel) (List.mem_of_getElem? (i := 3) rfl) (by decide) ?_
  refine n_aload_n C dX1_init_4 rfl 0 rfl ?_
  refine n_iconst (v := 0) C dX1_init_5 (by decide) ?_
  refine n_put (j := 0) (ty := .int) (fs' := [.int 0, .null]) C dX1_init_6 rfl (by decide) (Nat.le_of_ble_eq_true rfl) tyX1 tyX1_ok nmX1 inN_X1_init rfl (by decide +kernel) (by decide +kernel) rfl rfl rfl ?_
  refine n_aload_n C dX1_init_9 rfl 0 rfl ?_
  refine n_bipush (v := 21) C dX1_init_10 (by decide) ?_
  refine n_newI (N' := 21) C dX1_init_12 (by decide +kernel) (by decide) (by decide +kernel) (by decide +kernel) (Nat.le_of_ble_eq_true rfl) (Nat.le_of_ble_eq_true rfl) (fun a0 => ?_)
  refine n_mw ?_
  refine n_put (j := 1) (ty := .array .int) (fs' := [.int 0, .ref a0]) C dX1_init_14 rfl (by decide) (Nat.le_of_ble_eq_true rfl) tyX1 tyX1_ok nmX1 inN_X1_init rfl (by decide +kernel) (by decide +kernel) rfl rfl rfl ?_
  exact n_ret C rfl dX1_init_17 (Nat.le_of_ble_eq_true rfl) (Nat.le_of_ble_eq_true rfl) (fun i => [a0].getD i 0) (by unfold mw; rw [List.append_nil] <;> rfl)
theorem hd_X2_init : yX2_init.cls ≠ "java/lang/invoke/MethodHandle" ∧ yX2_init.cls ≠ "java/lang/invoke/VarHandle" ∧ (parseMethodDescriptor yX2_init.desc).map (fun d => d.parameters.length) = some 0 := by decide +kernel
theorem inN_X2_init : ∀ w ∈ u_ws RX2 TX2 6, w ∈ wsX2_init := by decide +kernel
set_option maxHeartbeats 4000000 in
set_option maxRecDepth 100000 in
theorem miX2 (l : Launch) (X : XT) (h0 : Nat) (wl : va_W) : Met l yX2_init wsX2_init (RN 1 0 0) (PreN X [.ref h0] (wl ++ [(h0, .inr (1, [.long 0, .long 0, .long 0, .long 0, .long 0, .long 0]))])) (QN X (fun q => wl ++ [(h0, .inr (1, [.long 0, .long 0, .long 0, .long 0, .long 0, .long 0]))])) 0 0 (xA X) := by
  refine n_start (by decide) rfl (Nat.le_of_ble_eq_true rfl) ?_
  intro k hk C
  subst hk
  replace C : CZ l k 1 cX2_init RX2 wsX2_init 1 none (RN 1 0 0) _ "<init>" := C
  show NW k 0 0 _ 0 [(0, .ref h0)] []
  refine n_eq (ws2 := mw wl (h0, .inr (1, [.long 0, .long 0, .long 0, .long 0, .long 0, .long 0])) [] []) (by unfold mw; rw [List.append_nil]) ?_
  refine n_aload_n C dX2_init_0 rfl 0 rfl ?_
  refine n_obj C dX2_init_1 (by decide +kernel) (by decide +kernel) (List.mem_of_getElem? (i := 3) rfl) (by decide) ?_
  refine n_aload_n C dX2_init_4 rfl 0 rfl ?_
  refine n_lconst (v := 0) C dX2_init_5 (by decide) ?_
  refine n_put (j := 0) (ty := .long) (fs' := [.long 0, .long 0, .long 0, .long 0, .long 0, .long 0]) C dX2_init_6 rfl (by decide) (Nat.le_of_ble_eq_true rfl) tyX2 tyX2_ok nmX2 inN_X2_init rfl (by decide +kernel) (by decide +kernel) rfl rfl rfl ?_
  refine n_aload_n C dX2_init_9 rfl 0 rfl ?_
  refine n_lconst (v := 0) C dX2_init_10 (by decide) ?_
  refine n_put (j := 1) (ty := .long) (fs' := [.long 0, .long 0, .long 0, .long 0, .long 0, .long 0]) C dX2_init_11 rfl (by decide) (Nat.le_of_ble_eq_true rfl) tyX2 tyX2_ok nmX2 inN_X2_init rfl (by decide +kernel) (by decide +kernel) rfl rfl rfl ?_
  refine n_aload_n C dX2_init_14 rfl 0 rfl ?_
  refine n_lconst (v := 0) C dX2_init_15 (by decide) ?_
  refine n_put (j := 2) (ty := .long) (fs' := [.long 0, .long 0, .long 0, .long 0, .long 0, .long 0]) C dX2_init_16 rfl (by decide) (Nat.le_of_ble_eq_true rfl) tyX2 tyX2_ok nmX2 inN_X2_init rfl (by decide +kernel) (by decide +kernel) rfl rfl rfl ?_
  refine n_aload_n C dX2_init_19 rfl 0 rfl ?_
  refine n_lconst (v := 0) C dX2_init_20 (by decide) ?_
  refine n_put (j := 3) (ty := .long) (fs' := [.long 0, .long 0, .long 0, .long 0, .long 0, .long 0]) C dX2_init_21 rfl (by decide) (Nat.le_of_ble_eq_true rfl) tyX2 tyX2_ok nmX2 inN_X2_init rfl (by decide +kernel) (by decide +kernel) rfl rfl rfl ?_
  refine n_aload_n C dX2_init_24 rfl 0 rfl ?_
  refine n_lconst (v := 0) C dX2_init_25 (by decide) ?_
  refine n_put (j := 4) (ty := .long) (fs' := [.long 0, .long 0, .long 0, .long 0, .long 0, .long 0]) C dX2_init_26 rfl (by decide) (Nat.le_of_ble_eq_true rfl) tyX2 tyX2_ok nmX2 inN_X2_init rfl (by decide +kernel) (by decide +kernel) rfl rfl rfl ?_
  refine n_aload_n C dX2_init_29 rfl 0 rfl ?_
  refine n_lconst (v := 0) C dX2_init_30 (by decide) ?_
  refine n_put (j := 5) (ty := .long) (fs' := [.long 0, .long 0, .long 0, .long 0, .long 0, .long 0]) C dX2_init_31 rfl (by decide) (Nat.le_of_ble_eq_true rfl) tyX2 tyX2_ok nmX2 inN_X2_init rfl (by decide +kernel) (by decide +kernel) rfl rfl rfl ?_
  exact n_ret C rfl dX2_init_34 (Nat.le_of_ble_eq_true rfl) (Nat.le_of_ble_eq_true rfl) (fun i => [].getD i 0) (by unfold mw; rw [List.append_nil] <;> rfl)
theorem hd_X3_init : yX3_init.cls ≠ "java/lang/invoke/MethodHandle" ∧ yX3_init.cls ≠ "java/lang/invoke/VarHandle" ∧ (parseMethodDescriptor yX3_init.desc).map (fun d => d.parameters.length) = some 0 := by decide +kernel
theorem inN_X3_init : ∀ w ∈ u_ws RX3 TX3 4, w ∈ wsX3_init := by decide +kernel
set_option maxHeartbeats 4000000 in
set_option maxRecDepth 100000 in
theorem miX3 (l : Launch) (X : XT) (h0 : Nat) (wl : va_W) : Met l yX3_init wsX3_init (RN 1 3 2384) (PreN X [.ref h0] (wl ++ [(h0, .inr (2, [.int 0, .null, .null, .null]))])) (QN X (fun q => wl ++ [(h0, .inr (2, [.int 0, .ref (q 0), .ref (q 1), .ref (q 2)])), (q 0, .inl (xI X, 72, .inl (fun _ => 0))), (q 1, .inl (xI X, 2304, .inl (fun _ => 0))), (q 2, .inl (xI X, 8, .inl (fun _ => 0)))])) 3 2384 (xA X) := by
  refine n_start (by decide) rfl (Nat.le_of_ble_eq_true rfl) ?_
  intro k hk C
  subst hk
  replace C : CZ l k 1 cX3_init RX3 wsX3_init 1 none (RN 1 3 2384) _ "<init>" := C
  show NW k 0 0 _ 0 [(0, .ref h0)] []
  refine n_eq (ws2 := mw wl (h0, .inr (2, [.int 0, .null, .null, .null])) [] []) (by unfold mw; rw [List.append_nil]) ?_
  refine n_aload_n C dX3_init_0 rfl 0 rfl ?_
  refine n_obj C dX3_init_1 (by decide +kernel) (by decide +kernel) (List.mem_of_getElem? (i := 3) rfl) (by decide) ?_
  refine n_aload_n C dX3_init_4 rfl 0 rfl ?_
  refine n_iconst (v := 0) C dX3_init_5 (by decide) ?_
  refine n_put (j := 0) (ty := .int) (fs' := [.int 0, .null, .null, .null]) C dX3_init_6 rfl (by decide) (Nat.le_of_ble_eq_true rfl) tyX3 tyX3_ok nmX3 inN_X3_init rfl (by decide +kernel) (by decide +kernel) rfl rfl rfl ?_
  refine n_aload_n C dX3_init_9 rfl 0 rfl ?_
  refine n_bipush (v := 72) C dX3_init_10 (by decide) ?_
  refine n_newI (N' := 72) C dX3_init_12 (by decide +kernel) (by decide) (by decide +kernel) (by decide +kernel) (Nat.le_of_ble_eq_true rfl) (Nat.le_of_ble_eq_true rfl) (fun a0 => ?_)
  refine n_mw ?_
  refine n_put (j := 1) (ty := .array .int) (fs' := [.int 0, .ref a0, .null, .null]) C dX3_init_14 rfl (by decide) (Nat.le_of_ble_eq_true rfl) tyX3 tyX3_ok nmX3 inN_X3_init rfl (by decide +kernel) (by decide +kernel) rfl rfl rfl ?_
  refine n_aload_n C dX3_init_17 rfl 0 rfl ?_
  refine n_sipush (v := 2304) C dX3_init_18 (by decide) ?_
  refine n_newI (N' := 2304) C dX3_init_21 (by decide +kernel) (by decide) (by decide +kernel) (by decide +kernel) (Nat.le_of_ble_eq_true rfl) (Nat.le_of_ble_eq_true rfl) (fun a1 => ?_)
  refine n_mw ?_
  refine n_put (j := 2) (ty := .array .int) (fs' := [.int 0, .ref a0, .ref a1, .null]) C dX3_init_23 rfl (by decide) (Nat.le_of_ble_eq_true rfl) tyX3 tyX3_ok nmX3 inN_X3_init rfl (by decide +kernel) (by decide +kernel) rfl rfl rfl ?_
  refine n_aload_n C dX3_init_26 rfl 0 rfl ?_
  refine n_bipush (v := 8) C dX3_init_27 (by decide) ?_
  refine n_newI (N' := 8) C dX3_init_29 (by decide +kernel) (by decide) (by decide +kernel) (by decide +kernel) (Nat.le_of_ble_eq_true rfl) (Nat.le_of_ble_eq_true rfl) (fun a2 => ?_)
  refine n_mw ?_
  refine n_put (j := 3) (ty := .array .int) (fs' := [.int 0, .ref a0, .ref a1, .ref a2]) C dX3_init_31 rfl (by decide) (Nat.le_of_ble_eq_true rfl) tyX3 tyX3_ok nmX3 inN_X3_init rfl (by decide +kernel) (by decide +kernel) rfl rfl rfl ?_
  exact n_ret C rfl dX3_init_34 (Nat.le_of_ble_eq_true rfl) (Nat.le_of_ble_eq_true rfl) (fun i => [a0, a1, a2].getD i 0) (by unfold mw; rw [List.append_nil] <;> rfl)
theorem hd_X4_init : yX4_init.cls ≠ "java/lang/invoke/MethodHandle" ∧ yX4_init.cls ≠ "java/lang/invoke/VarHandle" ∧ (parseMethodDescriptor yX4_init.desc).map (fun d => d.parameters.length) = some 0 := by decide +kernel
theorem inN_X4_init : ∀ w ∈ u_ws RX4 TX4 8, w ∈ wsX4_init := by decide +kernel
set_option maxHeartbeats 4000000 in
set_option maxRecDepth 100000 in
theorem miX4 (l : Launch) (X : XT) (h0 : Nat) (wl : va_W) : Met l yX4_init wsX4_init (RN 1 2 12) (PreN X [.ref h0] (wl ++ [(h0, .inr (3, [.int 0, .int 0, .int 0, .int 0, .int 0, .int 0, .null, .null]))])) (QN X (fun q => wl ++ [(h0, .inr (3, [.int 1000, .int 0, .int 10, .int 0, .int 0, .int 0, .ref (q 0), .ref (q 1)])), (q 0, .inl (xI X, 6, .inl (fun _ => 0))), (q 1, .inl (xI X, 6, .inl (fun _ => 0)))])) 2 12 (xA X) := by
  refine n_start (by decide) rfl (Nat.le_of_ble_eq_true rfl) ?_
  intro k hk C
  subst hk
  replace C : CZ l k 1 cX4_init RX4 wsX4_init 1 none (RN 1 2 12) _ "<init>" := C
  show NW k 0 0 _ 0 [(0, .ref h0)] []
  refine n_eq (ws2 := mw wl (h0, .inr (3, [.int 0, .int 0, .int 0, .int 0, .int 0, .int 0, .null, .null])) [] []) (by unfold mw; rw [List.append_nil]) ?_
  refine n_aload_n C dX4_init_0 rfl 0 rfl ?_
  refine n_obj C dX4_init_1 (by decide +kernel) (by decide +kernel) (List.mem_of_getElem? (i := 3) rfl) (by decide) ?_
  refine n_aload_n C dX4_init_4 rfl 0 rfl ?_
  refine n_sipush (v := 1000) C dX4_init_5 (by decide) ?_
  refine n_put (j := 0) (ty := .int) (fs' := [.int 1000, .int 0, .int 0, .int 0, .int 0, .int 0, .null, .null]) C dX4_init_8 rfl (by decide) (Nat.le_of_ble_eq_true rfl) tyX4 tyX4_ok nmX4 inN_X4_init rfl (by decide +kernel) (by decide +kernel) rfl rfl rfl ?_
  refine n_aload_n C dX4_init_11 rfl 0 rfl ?_
  refine n_iconst (v := 0) C dX4_init_12 (by decide) ?_
  refine n_put (j := 1) (ty := .int) (fs' := [.int 1000, .int 0, .int 0, .int 0, .int 0, .int 0, .null, .null]) C dX4_init_13 rfl (by decide) (Nat.le_of_ble_eq_true rfl) tyX4 tyX4_ok nmX4 inN_X4_init rfl (by decide +kernel) (by decide +kernel) rfl rfl rfl ?_
  refine n_aload_n C dX4_init_16 rfl 0 rfl ?_
  refine n_bipush (v := 10) C dX4_init_17 (by decide) ?_
  refine n_put (j := 2) (ty := .int) (fs' := [.int 1000, .int 0, .int 10, .int 0, .int 0, .int 0, .null, .null]) C dX4_init_19 rfl (by decide) (Nat.le_of_ble_eq_true rfl) tyX4 tyX4_ok nmX4 inN_X4_init rfl (by decide +kernel) (by decide +kernel) rfl rfl rfl ?_
  refine n_aload_n C dX4_init_22 rfl 0 rfl ?_
  refine n_iconst (v := 0) C dX4_init_23 (by decide) ?_
  refine n_put (j := 3) (ty := .int) (fs' := [.int 1000, .int 0, .int 10, .int 0, .int 0, .int 0, .null, .null]) C dX4_init_24 rfl (by decide) (Nat.le_of_ble_eq_true rfl) tyX4 tyX4_ok nmX4 inN_X4_init rfl (by decide +kernel) (by decide +kernel) rfl rfl rfl ?_
  refine n_aload_n C dX4_init_27 rfl 0 rfl ?_
  refine n_iconst (v := 0) C dX4_init_28 (by decide) ?_
  refine n_put (j := 4) (ty := .int) (fs' := [.int 1000, .int 0, .int 10, .int 0, .int 0, .int 0, .null, .null]) C dX4_init_29 rfl (by decide) (Nat.le_of_ble_eq_true rfl) tyX4 tyX4_ok nmX4 inN_X4_init rfl (by decide +kernel) (by decide +kernel) rfl rfl rfl ?_
  refine n_aload_n C dX4_init_32 rfl 0 rfl ?_
  refine n_iconst (v := 0) C dX4_init_33 (by decide) ?_
  refine n_put (j := 5) (ty := .int) (fs' := [.int 1000, .int 0, .int 10, .int 0, .int 0, .int 0, .null, .null]) C dX4_init_34 rfl (by decide) (Nat.le_of_ble_eq_true rfl) tyX4 tyX4_ok nmX4 inN_X4_init rfl (by decide +kernel) (by decide +kernel) rfl rfl rfl ?_
  refine n_aload_n C dX4_init_37 rfl 0 rfl ?_
  refine n_bipush (v := 6) C dX4_init_38 (by decide) ?_
  refine n_newI (N' := 6) C dX4_init_40 (by decide +kernel) (by decide) (by decide +kernel) (by decide +kernel) (Nat.le_of_ble_eq_true rfl) (Nat.le_of_ble_eq_true rfl) (fun a0 => ?_)
  refine n_mw ?_
  refine n_put (j := 6) (ty := .array .int) (fs' := [.int 1000, .int 0, .int 10, .int 0, .int 0, .int 0, .ref a0, .null]) C dX4_init_42 rfl (by decide) (Nat.le_of_ble_eq_true rfl) tyX4 tyX4_ok nmX4 inN_X4_init rfl (by decide +kernel) (by decide +kernel) rfl rfl rfl ?_
  refine n_aload_n C dX4_init_45 rfl 0 rfl ?_
  refine n_bipush (v := 6) C dX4_init_46 (by decide) ?_
  refine n_newI (N' := 6) C dX4_init_48 (by decide +kernel) (by decide) (by decide +kernel) (by decide +kernel) (Nat.le_of_ble_eq_true rfl) (Nat.le_of_ble_eq_true rfl) (fun a1 => ?_)
  refine n_mw ?_
  refine n_put (j := 7) (ty := .array .int) (fs' := [.int 1000, .int 0, .int 10, .int 0, .int 0, .int 0, .ref a0, .ref a1]) C dX4_init_50 rfl (by decide) (Nat.le_of_ble_eq_true rfl) tyX4 tyX4_ok nmX4 inN_X4_init rfl (by decide +kernel) (by decide +kernel) rfl rfl rfl ?_
  exact n_ret C rfl dX4_init_53 (Nat.le_of_ble_eq_true rfl) (Nat.le_of_ble_eq_true rfl) (fun i => [a0, a1].getD i 0) (by unfold mw; rw [List.append_nil] <;> rfl)
theorem hd_X5_init : yX5_init.cls ≠ "java/lang/invoke/MethodHandle" ∧ yX5_init.cls ≠ "java/lang/invoke/VarHandle" ∧ (parseMethodDescriptor yX5_init.desc).map (fun d => d.parameters.length) = some 1 := by decide +kernel
theorem inN_X5_init : ∀ w ∈ u_ws RX5 TX5 5, w ∈ wsX5_init := by decide +kernel
set_option maxHeartbeats 4000000 in
set_option maxRecDepth 100000 in
theorem miX5 (l : Launch) (X : XT) (h0 : Nat) (hm : Nat) (wl : va_W) : Met l yX5_init wsX5_init (RN 1 1 3000) (PreN X [.ref h0, .ref hm] (wl ++ [(h0, .inr (4, [.null, .null, .int 0, .int 0, .int 0]))])) (QN X (fun q => wl ++ [(h0, .inr (4, [.ref hm, .ref (q 0), .int 0, .int 0, .int 1])), (q 0, .inl (xI X, 3000, .inl (fun _ => 0)))])) 1 3000 (xA X) := by
  refine n_start (by decide) rfl (Nat.le_of_ble_eq_true rfl) ?_
  intro k hk C
  subst hk
  replace C : CZ l k 2 cX5_init RX5 wsX5_init 1 none (RN 1 1 3000) _ "<init>" := C
  show NW k 0 0 _ 0 [(0, .ref h0), (1, .ref hm)] []
  refine n_eq (ws2 := mw wl (h0, .inr (4, [.null, .null, .int 0, .int 0, .int 0])) [] []) (by unfold mw; rw [List.append_nil]) ?_
  refine n_aload_n C dX5_init_0 rfl 0 rfl ?_
  refine n_obj C dX5_init_1 (by decide +kernel) (by decide +kernel) (List.mem_of_getElem? (i := 3) rfl) (by decide) ?_
  refine n_aload_n C dX5_init_4 rfl 0 rfl ?_
  refine n_sipush (v := 3000) C dX5_init_5 (by decide) ?_
  refine n_newI (N' := 3000) C dX5_init_8 (by decide +kernel) (by decide) (by decide +kernel) (by decide +kernel) (Nat.le_of_ble_eq_true rfl) (Nat.le_of_ble_eq_true rfl) (fun a0 => ?_)
  refine n_mw ?_
  refine n_put (j := 1) (ty := .array .int) (fs' := [.null, .ref a0, .int 0, .int 0, .int 0]) C dX5_init_10 rfl (by decide) (Nat.le_of_ble_eq_true rfl) tyX5 tyX5_ok nmX5 inN_X5_init rfl (by decide +kernel) (by decide +kernel) rfl rfl rfl ?_
  refine n_aload_n C dX5_init_13 rfl 0 rfl ?_
  refine n_iconst (v := 0) C dX5_init_14 (by decide) ?_
  refine n_put (j := 2) (ty := .int) (fs' := [.null, .ref a0, .int 0, .int 0, .int 0]) C dX5_init_15 rfl (by decide) (Nat.le_of_ble_eq_true rfl) tyX5 tyX5_ok nmX5 inN_X5_init rfl (by decide +kernel) (by decide +kernel) rfl rfl rfl ?_
  refine n_aload_n C dX5_init_18 rfl 0 rfl ?_
  refine n_iconst (v := 0) C dX5_init_19 (by decide) ?_
  refine n_put (j := 3) (ty := .boolean) (fs' := [.null, .ref a0, .int 0, .int 0, .int 0]) C dX5_init_20 rfl (by decide) (Nat.le_of_ble_eq_true rfl) tyX5 tyX5_ok nmX5 inN_X5_init rfl (by decide +kernel) (by decide +kernel) rfl rfl rfl ?_
  refine n_aload_n C dX5_init_23 rfl 0 rfl ?_
  refine n_iconst (v := 1) C dX5_init_24 (by decide) ?_
  refine n_put (j := 4) (ty := .boolean) (fs' := [.null, .ref a0, .int 0, .int 0, .int 1]) C dX5_init_25 rfl (by decide) (Nat.le_of_ble_eq_true rfl) tyX5 tyX5_ok nmX5 inN_X5_init rfl (by decide +kernel) (by decide +kernel) rfl rfl rfl ?_
  refine n_aload_n C dX5_init_28 rfl 0 rfl ?_
  refine n_aload_n C dX5_init_29 rfl 1 rfl ?_
  refine n_put (j := 0) (ty := .object "ReelSlitter$Mill") (fs' := [.ref hm, .ref a0, .int 0, .int 0, .int 1]) C dX5_init_30 rfl (by decide) (Nat.le_of_ble_eq_true rfl) tyX5 tyX5_ok nmX5 inN_X5_init rfl (by decide +kernel) (by decide +kernel) rfl rfl rfl ?_
  exact n_ret C rfl dX5_init_33 (Nat.le_of_ble_eq_true rfl) (Nat.le_of_ble_eq_true rfl) (fun i => [a0].getD i 0) (by unfold mw; rw [List.append_nil] <;> rfl)
theorem hd_X6_init : yX6_init.cls ≠ "java/lang/invoke/MethodHandle" ∧ yX6_init.cls ≠ "java/lang/invoke/VarHandle" ∧ (parseMethodDescriptor yX6_init.desc).map (fun d => d.parameters.length) = some 1 := by decide +kernel
theorem inN_X6_init : ∀ w ∈ u_ws RX6 TX6 6, w ∈ wsX6_init := by decide +kernel
set_option maxHeartbeats 4000000 in
set_option maxRecDepth 100000 in
theorem miX6 (l : Launch) (X : XT) (h0 : Nat) (hm : Nat) (wl : va_W) : Met l yX6_init wsX6_init (RN 1 4 24) (PreN X [.ref h0, .ref hm] (wl ++ [(h0, .inr (5, [.null, .null, .null, .null, .null, .int 0]))])) (QN X (fun q => wl ++ [(h0, .inr (5, [.ref hm, .ref (q 0), .ref (q 1), .ref (q 2), .ref (q 3), .int 1])), (q 0, .inl (xI X, 6, .inl (fun _ => 0))), (q 1, .inl (xI X, 6, .inl (fun _ => 0))), (q 2, .inl (xI X, 6, .inl (fun _ => 0))), (q 3, .inl (xI X, 6, .inl (fun _ => 0)))])) 4 24 (xA X) := by
  refine n_start (by decide) rfl (Nat.le_of_ble_eq_true rfl) ?_
  intro k hk C
  subst hk
  replace C : CZ l k 2 cX6_init RX6 wsX6_init 1 none (RN 1 4 24) _ "<init>" := C
  show NW k 0 0 _ 0 [(0, .ref h0), (1, .ref hm)] []
  refine n_eq (ws2 := mw wl (h0, .inr (5, [.null, .null, .null, .null, .null, .int 0])) [] []) (by unfold mw; rw [List.append_nil]) ?_
  refine n_aload_n C dX6_init_0 rfl 0 rfl ?_
  refine n_obj C dX6_init_1 (by decide +kernel) (by decide +kernel) (List.mem_of_getElem? (i := 3) rfl) (by decide) ?_
  refine n_aload_n C dX6_init_4 rfl 0 rfl ?_
  refine n_bipush (v := 6) C dX6_init_5 (by decide) ?_
  refine n_newI (N' := 6) C dX6_init_7 (by decide +kernel) (by decide) (by decide +kernel) (by decide +kernel) (Nat.le_of_ble_eq_true rfl) (Nat.le_of_ble_eq_true rfl) (fun a0 => ?_)
  refine n_mw ?_
  refine n_put (j := 1) (ty := .array .int) (fs' := [.null, .ref a0, .null, .null, .null, .int 0]) C dX6_init_9 rfl (by decide) (Nat.le_of_ble_eq_true rfl) tyX6 tyX6_ok nmX6 inN_X6_init rfl (by decide +kernel) (by decide +kernel) rfl rfl rfl ?_
  refine n_aload_n C dX6_init_12 rfl 0 rfl ?_
  refine n_bipush (v := 6) C dX6_init_13 (by decide) ?_
  refine n_newI (N' := 6) C dX6_init_15 (by decide +kernel) (by decide) (by decide +kernel) (by decide +kernel) (Nat.le_of_ble_eq_true rfl) (Nat.le_of_ble_eq_true rfl) (fun a1 => ?_)
  refine n_mw ?_
  refine n_put (j := 2) (ty := .array .int) (fs' := [.null, .ref a0, .ref a1, .null, .null, .int 0]) C dX6_init_17 rfl (by decide) (Nat.le_of_ble_eq_true rfl) tyX6 tyX6_ok nmX6 inN_X6_init rfl (by decide +kernel) (by decide +kernel) rfl rfl rfl ?_
  refine n_aload_n C dX6_init_20 rfl 0 rfl ?_
  refine n_bipush (v := 6) C dX6_init_21 (by decide) ?_
  refine n_newI (N' := 6) C dX6_init_23 (by decide +kernel) (by decide) (by decide +kernel) (by decide +kernel) (Nat.le_of_ble_eq_true rfl) (Nat.le_of_ble_eq_true rfl) (fun a2 => ?_)
  refine n_mw ?_
  refine n_put (j := 3) (ty := .array .int) (fs' := [.null, .ref a0, .ref a1, .ref a2, .null, .int 0]) C dX6_init_25 rfl (by decide) (Nat.le_of_ble_eq_true rfl) tyX6 tyX6_ok nmX6 inN_X6_init rfl (by decide +kernel) (by decide +kernel) rfl rfl rfl ?_
  refine n_aload_n C dX6_init_28 rfl 0 rfl ?_
  refine n_bipush (v := 6) C dX6_init_29 (by decide) ?_
  refine n_newI (N' := 6) C dX6_init_31 (by decide +kernel) (by decide) (by decide +kernel) (by decide +kernel) (Nat.le_of_ble_eq_true rfl) (Nat.le_of_ble_eq_true rfl) (fun a3 => ?_)
  refine n_mw ?_
  refine n_put (j := 4) (ty := .array .int) (fs' := [.null, .ref a0, .ref a1, .ref a2, .ref a3, .int 0]) C dX6_init_33 rfl (by decide) (Nat.le_of_ble_eq_true rfl) tyX6 tyX6_ok nmX6 inN_X6_init rfl (by decide +kernel) (by decide +kernel) rfl rfl rfl ?_
  refine n_aload_n C dX6_init_36 rfl 0 rfl ?_
  refine n_iconst (v := 1) C dX6_init_37 (by decide) ?_
  refine n_put (j := 5) (ty := .int) (fs' := [.null, .ref a0, .ref a1, .ref a2, .ref a3, .int 1]) C dX6_init_38 rfl (by decide) (Nat.le_of_ble_eq_true rfl) tyX6 tyX6_ok nmX6 inN_X6_init rfl (by decide +kernel) (by decide +kernel) rfl rfl rfl ?_
  refine n_aload_n C dX6_init_41 rfl 0 rfl ?_
  refine n_aload_n C dX6_init_42 rfl 1 rfl ?_
  refine n_put (j := 0) (ty := .object "ReelSlitter$Mill") (fs' := [.ref hm, .ref a0, .ref a1, .ref a2, .ref a3, .int 1]) C dX6_init_43 rfl (by decide) (Nat.le_of_ble_eq_true rfl) tyX6 tyX6_ok nmX6 inN_X6_init rfl (by decide +kernel) (by decide +kernel) rfl rfl rfl ?_
  exact n_ret C rfl dX6_init_46 (Nat.le_of_ble_eq_true rfl) (Nat.le_of_ble_eq_true rfl) (fun i => [a0, a1, a2, a3].getD i 0) (by unfold mw; rw [List.append_nil] <;> rfl)
theorem hd_X7_init : yX7_init.cls ≠ "java/lang/invoke/MethodHandle" ∧ yX7_init.cls ≠ "java/lang/invoke/VarHandle" ∧ (parseMethodDescriptor yX7_init.desc).map (fun d => d.parameters.length) = some 1 := by decide +kernel
theorem inN_X7_init : ∀ w ∈ u_ws RX7 TX7 9, w ∈ wsX7_init := by decide +kernel
set_option maxHeartbeats 4000000 in
set_option maxRecDepth 100000 in
theorem miX7 (l : Launch) (X : XT) (h0 : Nat) (hm : Nat) (wl : va_W) : Met l yX7_init wsX7_init (RN 1 5 8018) (PreN X [.ref h0, .ref hm] (wl ++ [(h0, .inr (6, [.null, .null, .null, .null, .null, .null, .int 0, .int 0, .int 0]))])) (QN X (fun q => wl ++ [(h0, .inr (6, [.ref hm, .ref (q 0), .ref (q 1), .ref (q 2), .ref (q 3), .ref (q 4), .int 1, .int 0, .int 0])), (q 0, .inl (xI X, 6, .inl (fun _ => 0))), (q 1, .inl (xI X, 6, .inl (fun _ => 0))), (q 2, .inl (xI X, 6, .inl (fun _ => 0))), (q 3, .inl (xI X, 5000, .inl (fun _ => 0))), (q 4, .inl (xI X, 3000, .inl (fun _ => 0)))])) 5 8018 (xA X) := by
  refine n_start (by decide) rfl (Nat.le_of_ble_eq_true rfl) ?_
  intro k hk C
  subst hk
  replace C : CZ l k 2 cX7_init RX7 wsX7_init 1 none (RN 1 5 8018) _ "<init>" := C
  show NW k 0 0 _ 0 [(0, .ref h0), (1, .ref hm)] []
  refine n_eq (ws2 := mw wl (h0, .inr (6, [.null, .null, .null, .null, .null, .null, .int 0, .int 0, .int 0])) [] []) (by unfold mw; rw [List.append_nil]) ?_
  refine n_aload_n C dX7_init_0 rfl 0 rfl ?_
  refine n_obj C dX7_init_1 (by decide +kernel) (by decide +kernel) (List.mem_of_getElem? (i := 3) rfl) (by decide) ?_
  refine n_aload_n C dX7_init_4 rfl 0 rfl ?_
  refine n_bipush (v := 6) C dX7_init_5 (by decide) ?_
  refine n_newI (N' := 6) C dX7_init_7 (by decide +kernel) (by decide) (by decide +kernel) (by decide +kernel) (Nat.le_of_ble_eq_true rfl) (Nat.le_of_ble_eq_true rfl) (fun a0 => ?_)
  refine n_mw ?_
  refine n_put (j := 1) (ty := .array .int) (fs' := [.null, .ref a0, .null, .null, .null, .null, .int 0, .int 0, .int 0]) C dX7_init_9 rfl (by decide) (Nat.le_of_ble_eq_true rfl) tyX7 tyX7_ok nmX7 inN_X7_init rfl (by decide +kernel) (by decide +kernel) rfl rfl rfl ?_
  refine n_aload_n C dX7_init_12 rfl 0 rfl ?_
  refine n_bipush (v := 6) C dX7_init_13 (by decide) ?_
  refine n_newI (N' := 6) C dX7_init_15 (by decide +kernel) (by decide) (by decide +kernel) (by decide +kernel) (Nat.le_of_ble_eq_true rfl) (Nat.le_of_ble_eq_true rfl) (fun a1 => ?_)
  refine n_mw ?_
  refine n_put (j := 2) (ty := .array .int) (fs' := [.null, .ref a0, .ref a1, .null, .null, .null, .int 0, .int 0, .int 0]) C dX7_init_17 rfl (by decide) (Nat.le_of_ble_eq_true rfl) tyX7 tyX7_ok nmX7 inN_X7_init rfl (by decide +kernel) (by decide +kernel) rfl rfl rfl ?_
  refine n_aload_n C dX7_init_20 rfl 0 rfl ?_
  refine n_bipush (v := 6) C dX7_init_21 (by decide) ?_
  refine n_newI (N' := 6) C dX7_init_23 (by decide +kernel) (by decide) (by decide +kernel) (by decide +kernel) (Nat.le_of_ble_eq_true rfl) (Nat.le_of_ble_eq_true rfl) (fun a2 => ?_)
  refine n_mw ?_
  refine n_put (j := 3) (ty := .array .int) (fs' := [.null, .ref a0, .ref a1, .ref a2, .null, .null, .int 0, .int 0, .int 0]) C dX7_init_25 rfl (by decide) (Nat.le_of_ble_eq_true rfl) tyX7 tyX7_ok nmX7 inN_X7_init rfl (by decide +kernel) (by decide +kernel) rfl rfl rfl ?_
  refine n_aload_n C dX7_init_28 rfl 0 rfl ?_
  refine n_sipush (v := 5000) C dX7_init_29 (by decide) ?_
  refine n_newI (N' := 5000) C dX7_init_32 (by decide +kernel) (by decide) (by decide +kernel) (by decide +kernel) (Nat.le_of_ble_eq_true rfl) (Nat.le_of_ble_eq_true rfl) (fun a3 => ?_)
  refine n_mw ?_
  refine n_put (j := 4) (ty := .array .int) (fs' := [.null, .ref a0, .ref a1, .ref a2, .ref a3, .null, .int 0, .int 0, .int 0]) C dX7_init_34 rfl (by decide) (Nat.le_of_ble_eq_true rfl) tyX7 tyX7_ok nmX7 inN_X7_init rfl (by decide +kernel) (by decide +kernel) rfl rfl rfl ?_
  refine n_aload_n C dX7_init_37 rfl 0 rfl ?_
  refine n_sipush (v := 3000) C dX7_init_38 (by decide) ?_
  refine n_newI (N' := 3000) C dX7_init_41 (by decide +kernel) (by decide) (by decide +kernel) (by decide +kernel) (Nat.le_of_ble_eq_true rfl) (Nat.le_of_ble_eq_true rfl) (fun a4 => ?_)
  refine n_mw ?_
  refine n_put (j := 5) (ty := .array .int) (fs' := [.null, .ref a0, .ref a1, .ref a2, .ref a3, .ref a4, .int 0, .int 0, .int 0]) C dX7_init_43 rfl (by decide) (Nat.le_of_ble_eq_true rfl) tyX7 tyX7_ok nmX7 inN_X7_init rfl (by decide +kernel) (by decide +kernel) rfl rfl rfl ?_
  refine n_aload_n C dX7_init_46 rfl 0 rfl ?_
  refine n_iconst (v := 1) C dX7_init_47 (by decide) ?_
  refine n_put (j := 6) (ty := .int) (fs' := [.null, .ref a0, .ref a1, .ref a2, .ref a3, .ref a4, .int 1, .int 0, .int 0]) C dX7_init_48 rfl (by decide) (Nat.le_of_ble_eq_true rfl) tyX7 tyX7_ok nmX7 inN_X7_init rfl (by decide +kernel) (by decide +kernel) rfl rfl rfl ?_
  refine n_aload_n C dX7_init_51 rfl 0 rfl ?_
  refine n_iconst (v := 0) C dX7_init_52 (by decide) ?_
  refine n_put (j := 7) (ty := .int) (fs' := [.null, .ref a0, .ref a1, .ref a2, .ref a3, .ref a4, .int 1, .int 0, .int 0]) C dX7_init_53 rfl (by decide) (Nat.le_of_ble_eq_true rfl) tyX7 tyX7_ok nmX7 inN_X7_init rfl (by decide +kernel) (by decide +kernel) rfl rfl rfl ?_
  refine n_aload_n C dX7_init_56 rfl 0 rfl ?_
  refine n_iconst (v := 0) C dX7_init_57 (by decide) ?_
  refine n_put (j := 8) (ty := .int) (fs' := [.null, .ref a0, .ref a1, .ref a2, .ref a3, .ref a4, .int 1, .int 0, .int 0]) C dX7_init_58 rfl (by decide) (Nat.le_of_ble_eq_true rfl) tyX7 tyX7_ok nmX7 inN_X7_init rfl (by decide +kernel) (by decide +kernel) rfl rfl rfl ?_
  refine n_aload_n C dX7_init_61 rfl 0 rfl ?_
  refine n_aload_n C dX7_init_62 rfl 1 rfl ?_
  refine n_put (j := 0) (ty := .object "ReelSlitter$Mill") (fs' := [.ref hm, .ref a0, .ref a1, .ref a2, .ref a3, .ref a4, .int 1, .int 0, .int 0]) C dX7_init_63 rfl (by decide) (Nat.le_of_ble_eq_true rfl) tyX7 tyX7_ok nmX7 inN_X7_init rfl (by decide +kernel) (by decide +kernel) rfl rfl rfl ?_
  exact n_ret C rfl dX7_init_66 (Nat.le_of_ble_eq_true rfl) (Nat.le_of_ble_eq_true rfl) (fun i => [a0, a1, a2, a3, a4].getD i 0) (by unfold mw; rw [List.append_nil] <;> rfl)
theorem hd_X8_init : yX8_init.cls ≠ "java/lang/invoke/MethodHandle" ∧ yX8_init.cls ≠ "java/lang/invoke/VarHandle" ∧ (parseMethodDescriptor yX8_init.desc).map (fun d => d.parameters.length) = some 0 := by decide +kernel
theorem inN_X8_init : ∀ w ∈ u_ws RX8 TX8 3, w ∈ wsX8_init := by decide +kernel
set_option maxHeartbeats 4000000 in
set_option maxRecDepth 100000 in
theorem miX8 (l : Launch) (X : XT) (h0 : Nat) (wl : va_W) : Met l yX8_init wsX8_init (RN 1 2 120) (PreN X [.ref h0] (wl ++ [(h0, .inr (7, [.int 0, .null, .null]))])) (QN X (fun q => wl ++ [(h0, .inr (7, [.int 0, .ref (q 0), .ref (q 1)])), (q 0, .inl (xI X, 60, .inl (fun _ => 0))), (q 1, .inl (xI X, 60, .inl (fun _ => 0)))])) 2 120 (xA X) := by
  refine n_start (by decide) rfl (Nat.le_of_ble_eq_true rfl) ?_
  intro k hk C
  subst hk
  replace C : CZ l k 1 cX8_init RX8 wsX8_init 1 none (RN 1 2 120) _ "<init>" := C
  show NW k 0 0 _ 0 [(0, .ref h0)] []
  refine n_eq (ws2 := mw wl (h0, .inr (7, [.int 0, .null, .null])) [] []) (by unfold mw; rw [List.append_nil]) ?_
  refine n_aload_n C dX8_init_0 rfl 0 rfl ?_
  refine n_obj C dX8_init_1 (by decide +kernel) (by decide +kernel) (List.mem_of_getElem? (i := 3) rfl) (by decide) ?_
  refine n_aload_n C dX8_init_4 rfl 0 rfl ?_
  refine n_iconst (v := 0) C dX8_init_5 (by decide) ?_
  refine n_put (j := 0) (ty := .int) (fs' := [.int 0, .null, .null]) C dX8_init_6 rfl (by decide) (Nat.le_of_ble_eq_true rfl) tyX8 tyX8_ok nmX8 inN_X8_init rfl (by decide +kernel) (by decide +kernel) rfl rfl rfl ?_
  refine n_aload_n C dX8_init_9 rfl 0 rfl ?_
  refine n_bipush (v := 60) C dX8_init_10 (by decide) ?_
  refine n_newI (N' := 60) C dX8_init_12 (by decide +kernel) (by decide) (by decide +kernel) (by decide +kernel) (Nat.le_of_ble_eq_true rfl) (Nat.le_of_ble_eq_true rfl) (fun a0 => ?_)
  refine n_mw ?_
  refine n_put (j := 1) (ty := .array .int) (fs' := [.int 0, .ref a0, .null]) C dX8_init_14 rfl (by decide) (Nat.le_of_ble_eq_true rfl) tyX8 tyX8_ok nmX8 inN_X8_init rfl (by decide +kernel) (by decide +kernel) rfl rfl rfl ?_
  refine n_aload_n C dX8_init_17 rfl 0 rfl ?_
  refine n_bipush (v := 60) C dX8_init_18 (by decide) ?_
  refine n_newI (N' := 60) C dX8_init_20 (by decide +kernel) (by decide) (by decide +kernel) (by decide +kernel) (Nat.le_of_ble_eq_true rfl) (Nat.le_of_ble_eq_true rfl) (fun a1 => ?_)
  refine n_mw ?_
  refine n_put (j := 2) (ty := .array .int) (fs' := [.int 0, .ref a0, .ref a1]) C dX8_init_22 rfl (by decide) (Nat.le_of_ble_eq_true rfl) tyX8 tyX8_ok nmX8 inN_X8_init rfl (by decide +kernel) (by decide +kernel) rfl rfl rfl ?_
  exact n_ret C rfl dX8_init_25 (Nat.le_of_ble_eq_true rfl) (Nat.le_of_ble_eq_true rfl) (fun i => [a0, a1].getD i 0) (by unfold mw; rw [List.append_nil] <;> rfl)
theorem hd_X9_init : yX9_init.cls ≠ "java/lang/invoke/MethodHandle" ∧ yX9_init.cls ≠ "java/lang/invoke/VarHandle" ∧ (parseMethodDescriptor yX9_init.desc).map (fun d => d.parameters.length) = some 0 := by decide +kernel
theorem inN_X9_init : ∀ w ∈ u_ws RX9 TX9 4, w ∈ wsX9_init := by decide +kernel
set_option maxHeartbeats 4000000 in
set_option maxRecDepth 100000 in
theorem miX9 (l : Launch) (X : XT) (h0 : Nat) (wl : va_W) : Met l yX9_init wsX9_init (RN 1 3 24) (PreN X [.ref h0] (wl ++ [(h0, .inr (8, [.int 0, .null, .null, .null]))])) (QN X (fun q => wl ++ [(h0, .inr (8, [.int 0, .ref (q 0), .ref (q 1), .ref (q 2)])), (q 0, .inl (xI X, 8, .inl (fun _ => 0))), (q 1, .inl (xI X, 8, .inl (fun _ => 0))), (q 2, .inl (xZ X, 8, .inl (fun _ => 0)))])) 3 24 (xA X) := by
  refine n_start (by decide) rfl (Nat.le_of_ble_eq_true rfl) ?_
  intro k hk C
  subst hk
  replace C : CZ l k 1 cX9_init RX9 wsX9_init 1 none (RN 1 3 24) _ "<init>" := C
  show NW k 0 0 _ 0 [(0, .ref h0)] []
  refine n_eq (ws2 := mw wl (h0, .inr (8, [.int 0, .null, .null, .null])) [] []) (by unfold mw; rw [List.append_nil]) ?_
  refine n_aload_n C dX9_init_0 rfl 0 rfl ?_
  refine n_obj C dX9_init_1 (by decide +kernel) (by decide +kernel) (List.mem_of_getElem? (i := 3) rfl) (by decide) ?_
  refine n_aload_n C dX9_init_4 rfl 0 rfl ?_
  refine n_iconst (v := 0) C dX9_init_5 (by decide) ?_
  refine n_put (j := 0) (ty := .int) (fs' := [.int 0, .null, .null, .null]) C dX9_init_6 rfl (by decide) (Nat.le_of_ble_eq_true rfl) tyX9 tyX9_ok nmX9 inN_X9_init rfl (by decide +kernel) (by decide +kernel) rfl rfl rfl ?_
  refine n_aload_n C dX9_init_9 rfl 0 rfl ?_
  refine n_bipush (v := 8) C dX9_init_10 (by decide) ?_
  refine n_newI (N' := 8) C dX9_init_12 (by decide +kernel) (by decide) (by decide +kernel) (by decide +kernel) (Nat.le_of_ble_eq_true rfl) (Nat.le_of_ble_eq_true rfl) (fun a0 => ?_)
  refine n_mw ?_
  refine n_put (j := 1) (ty := .array .int) (fs' := [.int 0, .ref a0, .null, .null]) C dX9_init_14 rfl (by decide) (Nat.le_of_ble_eq_true rfl) tyX9 tyX9_ok nmX9 inN_X9_init rfl (by decide +kernel) (by decide +kernel) rfl rfl rfl ?_
  refine n_aload_n C dX9_init_17 rfl 0 rfl ?_
  refine n_bipush (v := 8) C dX9_init_18 (by decide) ?_
  refine n_newI (N' := 8) C dX9_init_20 (by decide +kernel) (by decide) (by decide +kernel) (by decide +kernel) (Nat.le_of_ble_eq_true rfl) (Nat.le_of_ble_eq_true rfl) (fun a1 => ?_)
  refine n_mw ?_
  refine n_put (j := 2) (ty := .array .int) (fs' := [.int 0, .ref a0, .ref a1, .null]) C dX9_init_22 rfl (by decide) (Nat.le_of_ble_eq_true rfl) tyX9 tyX9_ok nmX9 inN_X9_init rfl (by decide +kernel) (by decide +kernel) rfl rfl rfl ?_
  refine n_aload_n C dX9_init_25 rfl 0 rfl ?_
  refine n_bipush (v := 8) C dX9_init_26 (by decide) ?_
  refine n_newZ (N' := 8) C dX9_init_28 (by decide +kernel) (by decide) (by decide +kernel) (by decide +kernel) (Nat.le_of_ble_eq_true rfl) (Nat.le_of_ble_eq_true rfl) (fun a2 => ?_)
  refine n_mw ?_
  refine n_put (j := 3) (ty := .array .boolean) (fs' := [.int 0, .ref a0, .ref a1, .ref a2]) C dX9_init_30 rfl (by decide) (Nat.le_of_ble_eq_true rfl) tyX9 tyX9_ok nmX9 inN_X9_init rfl (by decide +kernel) (by decide +kernel) rfl rfl rfl ?_
  exact n_ret C rfl dX9_init_33 (Nat.le_of_ble_eq_true rfl) (Nat.le_of_ble_eq_true rfl) (fun i => [a0, a1, a2].getD i 0) (by unfold mw; rw [List.append_nil] <;> rfl)
theorem hd_X10_init : yX10_init.cls ≠ "java/lang/invoke/MethodHandle" ∧ yX10_init.cls ≠ "java/lang/invoke/VarHandle" ∧ (parseMethodDescriptor yX10_init.desc).map (fun d => d.parameters.length) = some 0 := by decide +kernel
theorem inN_X10_init : ∀ w ∈ u_ws RX10 TX10 15, w ∈ wsX10_init := by decide +kernel
theorem inN_X10_init_1 : ∀ w ∈ u_ws RX1 TX1 2, w ∈ wsX10_init := by decide +kernel
theorem inN_X10_init_2 : ∀ w ∈ u_ws RX2 TX2 6, w ∈ wsX10_init := by decide +kernel
theorem inN_X10_init_3 : ∀ w ∈ u_ws RX3 TX3 4, w ∈ wsX10_init := by decide +kernel
theorem inN_X10_init_4 : ∀ w ∈ u_ws RX4 TX4 8, w ∈ wsX10_init := by decide +kernel
theorem inN_X10_init_5 : ∀ w ∈ u_ws RX5 TX5 5, w ∈ wsX10_init := by decide +kernel
theorem inN_X10_init_6 : ∀ w ∈ u_ws RX6 TX6 6, w ∈ wsX10_init := by decide +kernel
theorem inN_X10_init_7 : ∀ w ∈ u_ws RX7 TX7 9, w ∈ wsX10_init := by decide +kernel
theorem inN_X10_init_8 : ∀ w ∈ u_ws RX8 TX8 3, w ∈ wsX10_init := by decide +kernel
theorem inN_X10_init_9 : ∀ w ∈ u_ws RX9 TX9 4, w ∈ wsX10_init := by decide +kernel
/-- the class's cells, new -/
def wsC (X : XT) (h0 : Nat) (q : Nat → Nat) : va_W := [(h0, .inr (9, [.ref (q 1), .ref (q 4), .ref (q 6), .ref (q 11), .ref (q 14), .ref (q 17), .ref (q 20), .ref (q 22), .ref (q 24), .ref (q 26), .ref (q 30), .ref (q 36), .ref (q 40), .int 0, .int 100])), (q 1, .inr (3, [.int 1000, .int 0, .int 10, .int 0, .int 0, .int 0, .ref (q 2), .ref (q 3)])), (q 2, .inl (xI X, 6, .inl (fun _ => 0))), (q 3, .inl (xI X, 6, .inl (fun _ => 0))), (q 4, .inr (4, [.ref (q 1), .ref (q 5), .int 0, .int 0, .int 1])), (q 5, .inl (xI X, 3000, .inl (fun _ => 0))), (q 6, .inr (5, [.ref (q 1), .ref (q 7), .ref (q 8), .ref (q 9), .ref (q 10), .int 1])), (q 7, .inl (xI X, 6, .inl (fun _ => 0))), (q 8, .inl (xI X, 6, .inl (fun _ => 0))), (q 9, .inl (xI X, 6, .inl (fun _ => 0))), (q 10, .inl (xI X, 6, .inl (fun _ => 0))), (q 11, .inr (7, [.int 0, .ref (q 12), .ref (q 13)])), (q 12, .inl (xI X, 60, .inl (fun _ => 0))), (q 13, .inl (xI X, 60, .inl (fun _ => 0))), (q 14, .inr (7, [.int 0, .ref (q 15), .ref (q 16)])), (q 15, .inl (xI X, 60, .inl (fun _ => 0))), (q 16, .inl (xI X, 60, .inl (fun _ => 0))), (q 17, .inr (7, [.int 0, .ref (q 18), .ref (q 19)])), (q 18, .inl (xI X, 60, .inl (fun _ => 0))), (q 19, .inl (xI X, 60, .inl (fun _ => 0))), (q 20, .inr (0, [.int 0, .ref (q 21)])), (q 21, .inl (xI X, 21, .inl (fun _ => 0))), (q 22, .inr (0, [.int 0, .ref (q 23)])), (q 23, .inl (xI X, 21, .inl (fun _ => 0))), (q 24, .inr (0, [.int 0, .ref (q 25)])), (q 25, .inl (xI X, 21, .inl (fun _ => 0))), (q 26, .inr (2, [.int 0, .ref (q 27), .ref (q 28), .ref (q 29)])), (q 27, .inl (xI X, 72, .inl (fun _ => 0))), (q 28, .inl (xI X, 2304, .inl (fun _ => 0))), (q 29, .inl (xI X, 8, .inl (fun _ => 0))), (q 30, .inr (6, [.ref (q 1), .ref (q 31), .ref (q 32), .ref (q 33), .ref (q 34), .ref (q 35), .int 1, .int 0, .int 0])), (q 31, .inl (xI X, 6, .inl (fun _ => 0))), (q 32, .inl (xI X, 6, .inl (fun _ => 0))), (q 33, .inl (xI X, 6, .inl (fun _ => 0))), (q 34, .inl (xI X, 5000, .inl (fun _ => 0))), (q 35, .inl (xI X, 3000, .inl (fun _ => 0))), (q 36, .inr (8, [.int 0, .ref (q 37), .ref (q 38), .ref (q 39)])), (q 37, .inl (xI X, 8, .inl (fun _ => 0))), (q 38, .inl (xI X, 8, .inl (fun _ => 0))), (q 39, .inl (xZ X, 8, .inl (fun _ => 0))), (q 40, .inr (1, [.long 0, .long 0, .long 0, .long 0, .long 0, .long 0]))]
set_option maxHeartbeats 4000000 in
set_option maxRecDepth 100000 in
theorem miX10 (l : Launch) (X : XT) (h0 : Nat) (wl : va_W) : Met l yX10_init wsX10_init (RN 2 40 13942) (PreN X [.ref h0] (wl ++ [(h0, .inr (9, [.null, .null, .null, .null, .null, .null, .null, .null, .null, .null, .null, .null, .null, .int 0, .int 0]))])) (QN X (fun q => wl ++ wsC X h0 q)) 40 13942 (xA X) := by
  refine n_start (by decide) rfl (Nat.le_of_ble_eq_true rfl) ?_
  intro k hk C
  subst hk
  replace C : CZ l k 1 cX10_init RX10 wsX10_init 2 none (RN 2 40 13942) _ "<init>" := C
  show NW k 0 0 _ 0 [(0, .ref h0)] []
  refine n_eq (ws2 := mw wl (h0, .inr (9, [.null, .null, .null, .null, .null, .null, .null, .null, .null, .null, .null, .null, .null, .int 0, .int 0])) [] []) (by unfold mw; rw [List.append_nil]) ?_
  refine n_aload_n C dX10_init_0 rfl 0 rfl ?_
  refine n_obj C dX10_init_1 (by decide +kernel) (by decide +kernel) (List.mem_of_getElem? (i := 3) rfl) (by decide) ?_
  refine n_aload_n C dX10_init_4 rfl 0 rfl ?_
  refine n_newO (ci := 3) (fs := [.int 0, .int 0, .int 0, .int 0, .int 0, .int 0, .null, .null]) C dX10_init_5 rfl inN_X10_init_4 tyX4 tyX4_ok (by decide +kernel) (by decide +kernel) (by decide +kernel) (fun j hj => by rcases (show j = 0 ∨ j = 1 ∨ j = 2 ∨ j = 3 ∨ j = 4 ∨ j = 5 ∨ j = 6 ∨ j = 7 by omega) with rfl | rfl | rfl | rfl | rfl | rfl | rfl | rfl <;> rfl) (Nat.le_of_ble_eq_true rfl) (Nat.le_of_ble_eq_true rfl) (fun b0 => ?_)
  refine n_mw ?_
  refine n_dup C dX10_init_8 rfl ?_
  refine n_eq (mw_out _ _ _ _).symm ?_
  refine n_callN (host := RX10) C dX10_init_9 [] [.ref b0, .ref h0] (miX4 l k.1 b0 _) gX10_init_X4_init_n9 rfl (by decide +kernel) (by decide +kernel) (by decide +kernel) rfl hd_X4_init (by decide) (by decide) rfl rfl (Nat.le_of_ble_eq_true rfl) (Nat.le_of_ble_eq_true rfl) (Nat.le_of_ble_eq_true rfl) (fun q1 => ?_)
  refine n_eq (mw_out _ _ _ _) ?_
  refine n_put (j := 0) (ty := .object "ReelSlitter$Mill") (fs' := [.ref b0, .null, .null, .null, .null, .null, .null, .null, .null, .null, .null, .null, .null, .int 0, .int 0]) C dX10_init_12 rfl (by decide) (Nat.le_of_ble_eq_true rfl) tyX10 tyX10_ok nmX10 inN_X10_init rfl (by decide +kernel) (by decide +kernel) rfl rfl rfl ?_
  refine n_aload_n C dX10_init_15 rfl 0 rfl ?_
  refine n_newO (ci := 4) (fs := [.null, .null, .int 0, .int 0, .int 0]) C dX10_init_16 rfl inN_X10_init_5 tyX5 tyX5_ok (by decide +kernel) (by decide +kernel) (by decide +kernel) (fun j hj => by rcases (show j = 0 ∨ j = 1 ∨ j = 2 ∨ j = 3 ∨ j = 4 by omega) with rfl | rfl | rfl | rfl | rfl <;> rfl) (Nat.le_of_ble_eq_true rfl) (Nat.le_of_ble_eq_true rfl) (fun b2 => ?_)
  refine n_mw ?_
  refine n_dup C dX10_init_19 rfl ?_
  refine n_aload_n C dX10_init_20 rfl 0 rfl ?_
  refine n_get (j := 0) (v := .ref b0) C dX10_init_21 rfl (by decide) rfl inN_X10_init rfl (by decide +kernel) ?_
  refine n_eq (mw_out _ _ _ _).symm ?_
  refine n_callI C dX10_init_24 [.ref b0] [.ref b2, .ref h0] (miX5 l k.1 b2 b0 _) gX10_init_X5_init rfl (by decide +kernel) (by decide +kernel) (by decide +kernel) rfl hd_X5_init (by decide) (by decide) rfl rfl (Nat.le_of_ble_eq_true rfl) (Nat.le_of_ble_eq_true rfl) (Nat.le_of_ble_eq_true rfl) (fun q3 => ?_)
  refine n_eq (mw_out _ _ _ _) ?_
  refine n_put (j := 1) (ty := .object "ReelSlitter$Numbering") (fs' := [.ref b0, .ref b2, .null, .null, .null, .null, .null, .null, .null, .null, .null, .null, .null, .int 0, .int 0]) C dX10_init_27 rfl (by decide) (Nat.le_of_ble_eq_true rfl) tyX10 tyX10_ok nmX10 inN_X10_init rfl (by decide +kernel) (by decide +kernel) rfl rfl rfl ?_
  refine n_aload_n C dX10_init_30 rfl 0 rfl ?_
  refine n_newO (ci := 5) (fs := [.null, .null, .null, .null, .null, .int 0]) C dX10_init_31 rfl inN_X10_init_6 tyX6 tyX6_ok (by decide +kernel) (by decide +kernel) (by decide +kernel) (fun j hj => by rcases (show j = 0 ∨ j = 1 ∨ j = 2 ∨ j = 3 ∨ j = 4 ∨ j = 5 by omega) with rfl | rfl | rfl | rfl | rfl | rfl <;> rfl) (Nat.le_of_ble_eq_true rfl) (Nat.le_of_ble_eq_true rfl) (fun b4 => ?_)
  refine n_mw ?_
  refine n_dup C dX10_init_34 rfl ?_
  refine n_aload_n C dX10_init_35 rfl 0 rfl ?_
  refine n_get (j := 0) (v := .ref b0) C dX10_init_36 rfl (by decide) rfl inN_X10_init rfl (by decide +kernel) ?_
  refine n_eq (mw_out _ _ _ _).symm ?_
  refine n_callI C dX10_init_39 [.ref b0] [.ref b4, .ref h0] (miX6 l k.1 b4 b0 _) gX10_init_X6_init rfl (by decide +kernel) (by decide +kernel) (by decide +kernel) rfl hd_X6_init (by decide) (by decide) rfl rfl (Nat.le_of_ble_eq_true rfl) (Nat.le_of_ble_eq_true rfl) (Nat.le_of_ble_eq_true rfl) (fun q5 => ?_)
  refine n_eq (mw_out _ _ _ _) ?_
  refine n_put (j := 2) (ty := .object "ReelSlitter$Orders") (fs' := [.ref b0, .ref b2, .ref b4, .null, .null, .null, .null, .null, .null, .null, .null, .null, .null, .int 0, .int 0]) C dX10_init_42 rfl (by decide) (Nat.le_of_ble_eq_true rfl) tyX10 tyX10_ok nmX10 inN_X10_init rfl (by decide +kernel) (by decide +kernel) rfl rfl rfl ?_
  refine n_aload_n C dX10_init_45 rfl 0 rfl ?_
  refine n_newO (ci := 7) (fs := [.int 0, .null, .null]) C dX10_init_46 rfl inN_X10_init_8 tyX8 tyX8_ok (by decide +kernel) (by decide +kernel) (by decide +kernel) (fun j hj => by rcases (show j = 0 ∨ j = 1 ∨ j = 2 by omega) with rfl | rfl | rfl <;> rfl) (Nat.le_of_ble_eq_true rfl) (Nat.le_of_ble_eq_true rfl) (fun b6 => ?_)
  refine n_mw ?_
  refine n_dup C dX10_init_49 rfl ?_
  refine n_eq (mw_out _ _ _ _).symm ?_
  refine n_callN (host := RX10) C dX10_init_50 [] [.ref b6, .ref h0] (miX8 l k.1 b6 _) gX10_init_X8_init_n34 rfl (by decide +kernel) (by decide +kernel) (by decide +kernel) rfl hd_X8_init (by decide) (by decide) rfl rfl (Nat.le_of_ble_eq_true rfl) (Nat.le_of_ble_eq_true rfl) (Nat.le_of_ble_eq_true rfl) (fun q7 => ?_)
  refine n_eq (mw_out _ _ _ _) ?_
  refine n_put (j := 3) (ty := .object "ReelSlitter$Slots") (fs' := [.ref b0, .ref b2, .ref b4, .ref b6, .null, .null, .null, .null, .null, .null, .null, .null, .null, .int 0, .int 0]) C dX10_init_53 rfl (by decide) (Nat.le_of_ble_eq_true rfl) tyX10 tyX10_ok nmX10 inN_X10_init rfl (by decide +kernel) (by decide +kernel) rfl rfl rfl ?_
  refine n_aload_n C dX10_init_56 rfl 0 rfl ?_
  refine n_newO (ci := 7) (fs := [.int 0, .null, .null]) C dX10_init_57 rfl inN_X10_init_8 tyX8 tyX8_ok (by decide +kernel) (by decide +kernel) (by decide +kernel) (fun j hj => by rcases (show j = 0 ∨ j = 1 ∨ j = 2 by omega) with rfl | rfl | rfl <;> rfl) (Nat.le_of_ble_eq_true rfl) (Nat.le_of_ble_eq_true rfl) (fun b8 => ?_)
  refine n_mw ?_
  refine n_dup C dX10_init_60 rfl ?_
  refine n_eq (mw_out _ _ _ _).symm ?_
  refine n_callN (host := RX10) C dX10_init_61 [] [.ref b8, .ref h0] (miX8 l k.1 b8 _) gX10_init_X8_init_n34 rfl (by decide +kernel) (by decide +kernel) (by decide +kernel) rfl hd_X8_init (by decide) (by decide) rfl rfl (Nat.le_of_ble_eq_true rfl) (Nat.le_of_ble_eq_true rfl) (Nat.le_of_ble_eq_true rfl) (fun q9 => ?_)
  refine n_eq (mw_out _ _ _ _) ?_
  refine n_put (j := 4) (ty := .object "ReelSlitter$Slots") (fs' := [.ref b0, .ref b2, .ref b4, .ref b6, .ref b8, .null, .null, .null, .null, .null, .null, .null, .null, .int 0, .int 0]) C dX10_init_64 rfl (by decide) (Nat.le_of_ble_eq_true rfl) tyX10 tyX10_ok nmX10 inN_X10_init rfl (by decide +kernel) (by decide +kernel) rfl rfl rfl ?_
  refine n_aload_n C dX10_init_67 rfl 0 rfl ?_
  refine n_newO (ci := 7) (fs := [.int 0, .null, .null]) C dX10_init_68 rfl inN_X10_init_8 tyX8 tyX8_ok (by decide +kernel) (by decide +kernel) (by decide +kernel) (fun j hj => by rcases (show j = 0 ∨ j = 1 ∨ j = 2 by omega) with rfl | rfl | rfl <;> rfl) (Nat.le_of_ble_eq_true rfl) (Nat.le_of_ble_eq_true rfl) (fun b10 => ?_)
  refine n_mw ?_
  refine n_dup C dX10_init_71 rfl ?_
  refine n_eq (mw_out _ _ _ _).symm ?_
  refine n_callN (host := RX10) C dX10_init_72 [] [.ref b10, .ref h0] (miX8 l k.1 b10 _) gX10_init_X8_init_n34 rfl (by decide +kernel) (by decide +kernel) (by decide +kernel) rfl hd_X8_init (by decide) (by decide) rfl rfl (Nat.le_of_ble_eq_true rfl) (Nat.le_of_ble_eq_true rfl) (Nat.le_of_ble_eq_true rfl) (fun q11 => ?_)
  refine n_eq (mw_out _ _ _ _) ?_
  refine n_put (j := 5) (ty := .object "ReelSlitter$Slots") (fs' := [.ref b0, .ref b2, .ref b4, .ref b6, .ref b8, .ref b10, .null, .null, .null, .null, .null, .null, .null, .int 0, .int 0]) C dX10_init_75 rfl (by decide) (Nat.le_of_ble_eq_true rfl) tyX10 tyX10_ok nmX10 inN_X10_init rfl (by decide +kernel) (by decide +kernel) rfl rfl rfl ?_
  refine n_aload_n C dX10_init_78 rfl 0 rfl ?_
  refine n_newO (ci := 0) (fs := [.int 0, .null]) C dX10_init_79 rfl inN_X10_init_1 tyX1 tyX1_ok (by decide +kernel) (by decide +kernel) (by decide +kernel) (fun j hj => by rcases (show j = 0 ∨ j = 1 by omega) with rfl | rfl <;> rfl) (Nat.le_of_ble_eq_true rfl) (Nat.le_of_ble_eq_true rfl) (fun b12 => ?_)
  refine n_mw ?_
  refine n_dup C dX10_init_82 rfl ?_
  refine n_eq (mw_out _ _ _ _).symm ?_
  refine n_callN (host := RX10) C dX10_init_83 [] [.ref b12, .ref h0] (miX1 l k.1 b12 _) gX10_init_X1_init_n47 rfl (by decide +kernel) (by decide +kernel) (by decide +kernel) rfl hd_X1_init (by decide) (by decide) rfl rfl (Nat.le_of_ble_eq_true rfl) (Nat.le_of_ble_eq_true rfl) (Nat.le_of_ble_eq_true rfl) (fun q13 => ?_)
  refine n_eq (mw_out _ _ _ _) ?_
  refine n_put (j := 6) (ty := .object "ReelSlitter$Cuts") (fs' := [.ref b0, .ref b2, .ref b4, .ref b6, .ref b8, .ref b10, .ref b12, .null, .null, .null, .null, .null, .null, .int 0, .int 0]) C dX10_init_86 rfl (by decide) (Nat.le_of_ble_eq_true rfl) tyX10 tyX10_ok nmX10 inN_X10_init rfl (by decide +kernel) (by decide +kernel) rfl rfl rfl ?_
  refine n_aload_n C dX10_init_89 rfl 0 rfl ?_
  refine n_newO (ci := 0) (fs := [.int 0, .null]) C dX10_init_90 rfl inN_X10_init_1 tyX1 tyX1_ok (by decide +kernel) (by decide +kernel) (by decide +kernel) (fun j hj => by rcases (show j = 0 ∨ j = 1 by omega) with rfl | rfl <;> rfl) (Nat.le_of_ble_eq_true rfl) (Nat.le_of_ble_eq_true rfl) (fun b14 => ?_)
  refine n_mw ?_
  refine n_dup C dX10_init_93 rfl ?_
  refine n_eq (mw_out _ _ _ _).symm ?_
  refine n_callN (host := RX10) C dX10_init_94 [] [.ref b14, .ref h0] (miX1 l k.1 b14 _) gX10_init_X1_init_n47 rfl (by decide +kernel) (by decide +kernel) (by decide +kernel) rfl hd_X1_init (by decide) (by decide) rfl rfl (Nat.le_of_ble_eq_true rfl) (Nat.le_of_ble_eq_true rfl) (Nat.le_of_ble_eq_true rfl) (fun q15 => ?_)
  refine n_eq (mw_out _ _ _ _) ?_
  refine n_put (j := 7) (ty := .object "ReelSlitter$Cuts") (fs' := [.ref b0, .ref b2, .ref b4, .ref b6, .ref b8, .ref b10, .ref b12, .ref b14, .null, .null, .null, .null, .null, .int 0, .int 0]) C dX10_init_97 rfl (by decide) (Nat.le_of_ble_eq_true rfl) tyX10 tyX10_ok nmX10 inN_X10_init rfl (by decide +kernel) (by decide +kernel) rfl rfl rfl ?_
  refine n_aload_n C dX10_init_100 rfl 0 rfl ?_
  refine n_newO (ci := 0) (fs := [.int 0, .null]) C dX10_init_101 rfl inN_X10_init_1 tyX1 tyX1_ok (by decide +kernel) (by decide +kernel) (by decide +kernel) (fun j hj => by rcases (show j = 0 ∨ j = 1 by omega) with rfl | rfl <;> rfl) (Nat.le_of_ble_eq_true rfl) (Nat.le_of_ble_eq_true rfl) (fun b16 => ?_)
  refine n_mw ?_
  refine n_dup C dX10_init_104 rfl ?_
  refine n_eq (mw_out _ _ _ _).symm ?_
  refine n_callN (host := RX10) C dX10_init_105 [] [.ref b16, .ref h0] (miX1 l k.1 b16 _) gX10_init_X1_init_n47 rfl (by decide +kernel) (by decide +kernel) (by decide +kernel) rfl hd_X1_init (by decide) (by decide) rfl rfl (Nat.le_of_ble_eq_true rfl) (Nat.le_of_ble_eq_true rfl) (Nat.le_of_ble_eq_true rfl) (fun q17 => ?_)
  refine n_eq (mw_out _ _ _ _) ?_
  refine n_put (j := 8) (ty := .object "ReelSlitter$Cuts") (fs' := [.ref b0, .ref b2, .ref b4, .ref b6, .ref b8, .ref b10, .ref b12, .ref b14, .ref b16, .null, .null, .null, .null, .int 0, .int 0]) C dX10_init_108 rfl (by decide) (Nat.le_of_ble_eq_true rfl) tyX10 tyX10_ok nmX10 inN_X10_init rfl (by decide +kernel) (by decide +kernel) rfl rfl rfl ?_
  refine n_aload_n C dX10_init_111 rfl 0 rfl ?_
  refine n_newO (ci := 2) (fs := [.int 0, .null, .null, .null]) C dX10_init_112 rfl inN_X10_init_3 tyX3 tyX3_ok (by decide +kernel) (by decide +kernel) (by decide +kernel) (fun j hj => by rcases (show j = 0 ∨ j = 1 ∨ j = 2 ∨ j = 3 by omega) with rfl | rfl | rfl | rfl <;> rfl) (Nat.le_of_ble_eq_true rfl) (Nat.le_of_ble_eq_true rfl) (fun b18 => ?_)
  refine n_mw ?_
  refine n_dup C dX10_init_115 rfl ?_
  refine n_eq (mw_out _ _ _ _).symm ?_
  refine n_callN (host := RX10) C dX10_init_116 [] [.ref b18, .ref h0] (miX3 l k.1 b18 _) gX10_init_X3_init_n60 rfl (by decide +kernel) (by decide +kernel) (by decide +kernel) rfl hd_X3_init (by decide) (by decide) rfl rfl (Nat.le_of_ble_eq_true rfl) (Nat.le_of_ble_eq_true rfl) (Nat.le_of_ble_eq_true rfl) (fun q19 => ?_)
  refine n_eq (mw_out _ _ _ _) ?_
  refine n_put (j := 9) (ty := .object "ReelSlitter$Lining") (fs' := [.ref b0, .ref b2, .ref b4, .ref b6, .ref b8, .ref b10, .ref b12, .ref b14, .ref b16, .ref b18, .null, .null, .null, .int 0, .int 0]) C dX10_init_119 rfl (by decide) (Nat.le_of_ble_eq_true rfl) tyX10 tyX10_ok nmX10 inN_X10_init rfl (by decide +kernel) (by decide +kernel) rfl rfl rfl ?_
  refine n_aload_n C dX10_init_122 rfl 0 rfl ?_
  refine n_newO (ci := 6) (fs := [.null, .null, .null, .null, .null, .null, .int 0, .int 0, .int 0]) C dX10_init_123 rfl inN_X10_init_7 tyX7 tyX7_ok (by decide +kernel) (by decide +kernel) (by decide +kernel) (fun j hj => by rcases (show j = 0 ∨ j = 1 ∨ j = 2 ∨ j = 3 ∨ j = 4 ∨ j = 5 ∨ j = 6 ∨ j = 7 ∨ j = 8 by omega) with rfl | rfl | rfl | rfl | rfl | rfl | rfl | rfl | rfl <;> rfl) (Nat.le_of_ble_eq_true rfl) (Nat.le_of_ble_eq_true rfl) (fun b20 => ?_)
  refine n_mw ?_
  refine n_dup C dX10_init_126 rfl ?_
  refine n_aload_n C dX10_init_127 rfl 0 rfl ?_
  refine n_get (j := 0) (v := .ref b0) C dX10_init_128 rfl (by decide) rfl inN_X10_init rfl (by decide +kernel) ?_
  refine n_eq (mw_out _ _ _ _).symm ?_
  refine n_callI C dX10_init_131 [.ref b0] [.ref b20, .ref h0] (miX7 l k.1 b20 b0 _) gX10_init_X7_init rfl (by decide +kernel) (by decide +kernel) (by decide +kernel) rfl hd_X7_init (by decide) (by decide) rfl rfl (Nat.le_of_ble_eq_true rfl) (Nat.le_of_ble_eq_true rfl) (Nat.le_of_ble_eq_true rfl) (fun q21 => ?_)
  refine n_eq (mw_out _ _ _ _) ?_
  refine n_put (j := 10) (ty := .object "ReelSlitter$Search") (fs' := [.ref b0, .ref b2, .ref b4, .ref b6, .ref b8, .ref b10, .ref b12, .ref b14, .ref b16, .ref b18, .ref b20, .null, .null, .int 0, .int 0]) C dX10_init_134 rfl (by decide) (Nat.le_of_ble_eq_true rfl) tyX10 tyX10_ok nmX10 inN_X10_init rfl (by decide +kernel) (by decide +kernel) rfl rfl rfl ?_
  refine n_aload_n C dX10_init_137 rfl 0 rfl ?_
  refine n_newO (ci := 8) (fs := [.int 0, .null, .null, .null]) C dX10_init_138 rfl inN_X10_init_9 tyX9 tyX9_ok (by decide +kernel) (by decide +kernel) (by decide +kernel) (fun j hj => by rcases (show j = 0 ∨ j = 1 ∨ j = 2 ∨ j = 3 by omega) with rfl | rfl | rfl | rfl <;> rfl) (Nat.le_of_ble_eq_true rfl) (Nat.le_of_ble_eq_true rfl) (fun b22 => ?_)
  refine n_mw ?_
  refine n_dup C dX10_init_141 rfl ?_
  refine n_eq (mw_out _ _ _ _).symm ?_
  refine n_callN (host := RX10) C dX10_init_142 [] [.ref b22, .ref h0] (miX9 l k.1 b22 _) gX10_init_X9_init_n74 rfl (by decide +kernel) (by decide +kernel) (by decide +kernel) rfl hd_X9_init (by decide) (by decide) rfl rfl (Nat.le_of_ble_eq_true rfl) (Nat.le_of_ble_eq_true rfl) (Nat.le_of_ble_eq_true rfl) (fun q23 => ?_)
  refine n_eq (mw_out _ _ _ _) ?_
  refine n_put (j := 11) (ty := .object "ReelSlitter$Stock") (fs' := [.ref b0, .ref b2, .ref b4, .ref b6, .ref b8, .ref b10, .ref b12, .ref b14, .ref b16, .ref b18, .ref b20, .ref b22, .null, .int 0, .int 0]) C dX10_init_145 rfl (by decide) (Nat.le_of_ble_eq_true rfl) tyX10 tyX10_ok nmX10 inN_X10_init rfl (by decide +kernel) (by decide +kernel) rfl rfl rfl ?_
  refine n_aload_n C dX10_init_148 rfl 0 rfl ?_
  refine n_newO (ci := 1) (fs := [.long 0, .long 0, .long 0, .long 0, .long 0, .long 0]) C dX10_init_149 rfl inN_X10_init_2 tyX2 tyX2_ok (by decide +kernel) (by decide +kernel) (by decide +kernel) (fun j hj => by rcases (show j = 0 ∨ j = 1 ∨ j = 2 ∨ j = 3 ∨ j = 4 ∨ j = 5 by omega) with rfl | rfl | rfl | rfl | rfl | rfl <;> rfl) (Nat.le_of_ble_eq_true rfl) (Nat.le_of_ble_eq_true rfl) (fun b24 => ?_)
  refine n_mw ?_
  refine n_dup C dX10_init_152 rfl ?_
  refine n_eq (mw_out _ _ _ _).symm ?_
  refine n_callN (host := RX10) C dX10_init_153 [] [.ref b24, .ref h0] (miX2 l k.1 b24 _) gX10_init_X2_init_n81 rfl (by decide +kernel) (by decide +kernel) (by decide +kernel) rfl hd_X2_init (by decide) (by decide) rfl rfl (Nat.le_of_ble_eq_true rfl) (Nat.le_of_ble_eq_true rfl) (Nat.le_of_ble_eq_true rfl) (fun q25 => ?_)
  refine n_eq (mw_out _ _ _ _) ?_
  refine n_put (j := 12) (ty := .object "ReelSlitter$Ledger") (fs' := [.ref b0, .ref b2, .ref b4, .ref b6, .ref b8, .ref b10, .ref b12, .ref b14, .ref b16, .ref b18, .ref b20, .ref b22, .ref b24, .int 0, .int 0]) C dX10_init_156 rfl (by decide) (Nat.le_of_ble_eq_true rfl) tyX10 tyX10_ok nmX10 inN_X10_init rfl (by decide +kernel) (by decide +kernel) rfl rfl rfl ?_
  refine n_aload_n C dX10_init_159 rfl 0 rfl ?_
  refine n_iconst (v := 0) C dX10_init_160 (by decide) ?_
  refine n_put (j := 13) (ty := .boolean) (fs' := [.ref b0, .ref b2, .ref b4, .ref b6, .ref b8, .ref b10, .ref b12, .ref b14, .ref b16, .ref b18, .ref b20, .ref b22, .ref b24, .int 0, .int 0]) C dX10_init_161 rfl (by decide) (Nat.le_of_ble_eq_true rfl) tyX10 tyX10_ok nmX10 inN_X10_init rfl (by decide +kernel) (by decide +kernel) rfl rfl rfl ?_
  refine n_aload_n C dX10_init_164 rfl 0 rfl ?_
  refine n_bipush (v := 100) C dX10_init_165 (by decide) ?_
  refine n_put (j := 14) (ty := .int) (fs' := [.ref b0, .ref b2, .ref b4, .ref b6, .ref b8, .ref b10, .ref b12, .ref b14, .ref b16, .ref b18, .ref b20, .ref b22, .ref b24, .int 0, .int 100]) C dX10_init_167 rfl (by decide) (Nat.le_of_ble_eq_true rfl) tyX10 tyX10_ok nmX10 inN_X10_init rfl (by decide +kernel) (by decide +kernel) rfl rfl rfl ?_
  exact n_ret C rfl dX10_init_170 (Nat.le_of_ble_eq_true rfl) (Nat.le_of_ble_eq_true rfl) (fun i => [0, b0, (q1 0), (q1 1), b2, (q3 0), b4, (q5 0), (q5 1), (q5 2), (q5 3), b6, (q7 0), (q7 1), b8, (q9 0), (q9 1), b10, (q11 0), (q11 1), b12, (q13 0), b14, (q15 0), b16, (q17 0), b18, (q19 0), (q19 1), (q19 2), b20, (q21 0), (q21 1), (q21 2), (q21 3), (q21 4), b22, (q23 0), (q23 1), (q23 2), b24].getD i 0) (by unfold mw; rw [List.append_nil] <;> rfl)
