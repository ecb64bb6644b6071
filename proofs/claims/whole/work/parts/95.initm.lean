/-! ===== the reference's constructor (by mkinit.py) ===== -/
theorem hd_X11_init : yX11_init.cls ≠ "java/lang/invoke/MethodHandle" ∧ yX11_init.cls ≠ "java/lang/invoke/VarHandle" ∧ (parseMethodDescriptor yX11_init.desc).map (fun d => d.parameters.length) = some 0 := by decide +kernel
theorem inN_X11_init : ∀ w ∈ u_ws RX11 TX11 42, w ∈ wsX11_init := by decide +kernel
/-- the reference's cells, new; its rows -/
def wsM (X : XT) (h0 : Nat) (q : Nat → Nat) : va_W := [(h0, .inr (10, [.int 0, .int 1000, .int 0, .int 10, .int 0, .int 0, .int 0, .ref (q 42), .ref (q 43), .ref (q 44), .ref (q 45), .int 1, .int 100, .int 0, .int 0, .ref (q 46), .ref (q 47), .int 0, .ref (q 48), .ref (q 49), .int 0, .ref (q 50), .ref (q 51), .int 0, .int 0, .int 0, .ref (q 52), .ref (q 53), .ref (q 54), .ref (q 55), .ref (q 56), .ref (q 57), .ref (q 58), .int 0, .ref (q 59), .ref (q 60), .ref (q 61), .int 0, .ref (q 62), .ref (q 63), .ref (q 64), .ref (q 65)])), (q 42, .inl (xI X, 6, .inl (fun _ => 0))), (q 43, .inl (xI X, 6, .inl (fun _ => 0))), (q 44, .inl (xI X, 6, .inl (fun _ => 0))), (q 45, .inl (xI X, 6, .inl (fun _ => 0))), (q 46, .inl (xO X, 3000, .inr (.inr (.inr (.inr (fun i => some (q (67 + i)))))))), (q 47, .inl (xI X, 6, .inl (fun _ => 0))), (q 48, .inl (xO X, 60, .inr (.inr (.inr (.inr (fun i => some (q (3067 + i)))))))), (q 49, .inl (xI X, 60, .inl (fun _ => 0))), (q 50, .inl (xO X, 60, .inr (.inr (.inr (.inr (fun i => some (q (3127 + i)))))))), (q 51, .inl (xI X, 60, .inl (fun _ => 0))), (q 52, .inl (xO X, 60, .inr (.inr (.inr (.inr (fun i => some (q (3187 + i)))))))), (q 53, .inl (xI X, 60, .inl (fun _ => 0))), (q 54, .inl (xI X, 6, .inl (fun _ => 0))), (q 55, .inl (xI X, 6, .inl (fun _ => 0))), (q 56, .inl (xI X, 5000, .inl (fun _ => 0))), (q 57, .inl (xI X, 6, .inl (fun _ => 0))), (q 58, .inl (xI X, 21, .inl (fun _ => 0))), (q 59, .inl (xI X, 21, .inl (fun _ => 0))), (q 60, .inl (xI X, 21, .inl (fun _ => 0))), (q 61, .inl (xO X, 256, .inr (.inr (.inr (.inr (fun i => some (q (3247 + i)))))))), (q 62, .inl (xI X, 8, .inl (fun _ => 0))), (q 63, .inl (xI X, 8, .inl (fun _ => 0))), (q 64, .inl (xZ X, 8, .inl (fun _ => 0))), (q 65, .inl (xJ X, 7, .inr (.inl (fun _ => 0))))]
def wsQ (X : XT) (q : Nat → Nat) : va_W := (List.range 3436).map (fun j => (q (67 + j), .inl (xI X, al (67 + j), .inl (fun _ => 0))))
set_option maxHeartbeats 1000000 in
set_option maxRecDepth 100000 in
theorem miX11 (l : Launch) (X : XT) (h0 : Nat) (wl : va_W) : Met l yX11_init wsX11_init (RN 1 3460 30142) (PreN X [.ref h0] (wl ++ [(h0, .inr (10, [.int 0, .int 0, .int 0, .int 0, .int 0, .int 0, .int 0, .null, .null, .null, .null, .int 0, .int 0, .int 0, .int 0, .null, .null, .int 0, .null, .null, .int 0, .null, .null, .int 0, .int 0, .int 0, .null, .null, .null, .null, .null, .null, .null, .int 0, .null, .null, .null, .int 0, .null, .null, .null, .null]))])) (QN X (fun q => (wl ++ wsM X h0 q) ++ wsQ X q)) 3460 30142 (xA X) := by
  refine n_start (by decide) rfl (Nat.le_of_ble_eq_true rfl) ?_
  intro k hk C
  subst hk
  replace C : CZ l k 1 cX11_init RX11 wsX11_init 1 none (RN 1 3460 30142) _ "<init>" := C
  show NW k 0 0 _ 0 [(0, .ref h0)] []
  refine n_eq (ws2 := mw wl (h0, .inr (10, [.int 0, .int 0, .int 0, .int 0, .int 0, .int 0, .int 0, .null, .null, .null, .null, .int 0, .int 0, .int 0, .int 0, .null, .null, .int 0, .null, .null, .int 0, .null, .null, .int 0, .int 0, .int 0, .null, .null, .null, .null, .null, .null, .null, .int 0, .null, .null, .null, .int 0, .null, .null, .null, .null])) [] []) (by unfold mw; rw [List.append_nil]) ?_
  refine n_aload_n C dX11_init_0 rfl 0 rfl ?_
  refine n_obj C dX11_init_1 (by decide +kernel) (by decide +kernel) (List.mem_of_getElem? (i := 3) rfl) (by decide) ?_
  refine n_aload_n C dX11_init_4 rfl 0 rfl ?_
  refine n_sipush (v := 1000) C dX11_init_5 (by decide) ?_
  refine n_put (j := 1) (ty := .int) (fs' := [.int 0, .int 1000, .int 0, .int 0, .int 0, .int 0, .int 0, .null, .null, .null, .null, .int 0, .int 0, .int 0, .int 0, .null, .null, .int 0, .null, .null, .int 0, .null, .null, .int 0, .int 0, .int 0, .null, .null, .null, .null, .null, .null, .null, .int 0, .null, .null, .null, .int 0, .null, .null, .null, .null]) C dX11_init_8 rfl (by decide) (Nat.le_of_ble_eq_true rfl) tyX11 tyX11_ok nmX11 inN_X11_init rfl (by decide +kernel) (by decide +kernel) rfl rfl rfl ?_
  refine n_aload_n C dX11_init_11 rfl 0 rfl ?_
  refine n_bipush (v := 10) C dX11_init_12 (by decide) ?_
  refine n_put (j := 3) (ty := .int) (fs' := [.int 0, .int 1000, .int 0, .int 10, .int 0, .int 0, .int 0, .null, .null, .null, .null, .int 0, .int 0, .int 0, .int 0, .null, .null, .int 0, .null, .null, .int 0, .null, .null, .int 0, .int 0, .int 0, .null, .null, .null, .null, .null, .null, .null, .int 0, .null, .null, .null, .int 0, .null, .null, .null, .null]) C dX11_init_14 rfl (by decide) (Nat.le_of_ble_eq_true rfl) tyX11 tyX11_ok nmX11 inN_X11_init rfl (by decide +kernel) (by decide +kernel) rfl rfl rfl ?_
  refine n_aload_n C dX11_init_17 rfl 0 rfl ?_
  refine n_bipush (v := 6) C dX11_init_18 (by decide) ?_
  refine n_newI (N' := 6) C dX11_init_20 (by decide +kernel) (by decide) (by decide +kernel) (by decide +kernel) (Nat.le_of_ble_eq_true rfl) (Nat.le_of_ble_eq_true rfl) (fun a0 => ?_)
  refine n_mw ?_
  refine n_put (j := 7) (ty := .array .int) (fs' := [.int 0, .int 1000, .int 0, .int 10, .int 0, .int 0, .int 0, .ref a0, .null, .null, .null, .int 0, .int 0, .int 0, .int 0, .null, .null, .int 0, .null, .null, .int 0, .null, .null, .int 0, .int 0, .int 0, .null, .null, .null, .null, .null, .null, .null, .int 0, .null, .null, .null, .int 0, .null, .null, .null, .null]) C dX11_init_22 rfl (by decide) (Nat.le_of_ble_eq_true rfl) tyX11 tyX11_ok nmX11 inN_X11_init rfl (by decide +kernel) (by decide +kernel) rfl rfl rfl ?_
  refine n_aload_n C dX11_init_25 rfl 0 rfl ?_
  refine n_bipush (v := 6) C dX11_init_26 (by decide) ?_
  refine n_newI (N' := 6) C dX11_init_28 (by decide +kernel) (by decide) (by decide +kernel) (by decide +kernel) (Nat.le_of_ble_eq_true rfl) (Nat.le_of_ble_eq_true rfl) (fun a1 => ?_)
  refine n_mw ?_
  refine n_put (j := 8) (ty := .array .int) (fs' := [.int 0, .int 1000, .int 0, .int 10, .int 0, .int 0, .int 0, .ref a0, .ref a1, .null, .null, .int 0, .int 0, .int 0, .int 0, .null, .null, .int 0, .null, .null, .int 0, .null, .null, .int 0, .int 0, .int 0, .null, .null, .null, .null, .null, .null, .null, .int 0, .null, .null, .null, .int 0, .null, .null, .null, .null]) C dX11_init_30 rfl (by decide) (Nat.le_of_ble_eq_true rfl) tyX11 tyX11_ok nmX11 inN_X11_init rfl (by decide +kernel) (by decide +kernel) rfl rfl rfl ?_
  refine n_aload_n C dX11_init_33 rfl 0 rfl ?_
  refine n_bipush (v := 6) C dX11_init_34 (by decide) ?_
  refine n_newI (N' := 6) C dX11_init_36 (by decide +kernel) (by decide) (by decide +kernel) (by decide +kernel) (Nat.le_of_ble_eq_true rfl) (Nat.le_of_ble_eq_true rfl) (fun a2 => ?_)
  refine n_mw ?_
  refine n_put (j := 9) (ty := .array .int) (fs' := [.int 0, .int 1000, .int 0, .int 10, .int 0, .int 0, .int 0, .ref a0, .ref a1, .ref a2, .null, .int 0, .int 0, .int 0, .int 0, .null, .null, .int 0, .null, .null, .int 0, .null, .null, .int 0, .int 0, .int 0, .null, .null, .null, .null, .null, .null, .null, .int 0, .null, .null, .null, .int 0, .null, .null, .null, .null]) C dX11_init_38 rfl (by decide) (Nat.le_of_ble_eq_true rfl) tyX11 tyX11_ok nmX11 inN_X11_init rfl (by decide +kernel) (by decide +kernel) rfl rfl rfl ?_
  refine n_aload_n C dX11_init_41 rfl 0 rfl ?_
  refine n_bipush (v := 6) C dX11_init_42 (by decide) ?_
  refine n_newI (N' := 6) C dX11_init_44 (by decide +kernel) (by decide) (by decide +kernel) (by decide +kernel) (Nat.le_of_ble_eq_true rfl) (Nat.le_of_ble_eq_true rfl) (fun a3 => ?_)
  refine n_mw ?_
  refine n_put (j := 10) (ty := .array .int) (fs' := [.int 0, .int 1000, .int 0, .int 10, .int 0, .int 0, .int 0, .ref a0, .ref a1, .ref a2, .ref a3, .int 0, .int 0, .int 0, .int 0, .null, .null, .int 0, .null, .null, .int 0, .null, .null, .int 0, .int 0, .int 0, .null, .null, .null, .null, .null, .null, .null, .int 0, .null, .null, .null, .int 0, .null, .null, .null, .null]) C dX11_init_46 rfl (by decide) (Nat.le_of_ble_eq_true rfl) tyX11 tyX11_ok nmX11 inN_X11_init rfl (by decide +kernel) (by decide +kernel) rfl rfl rfl ?_
  refine n_aload_n C dX11_init_49 rfl 0 rfl ?_
  refine n_iconst (v := 1) C dX11_init_50 (by decide) ?_
  refine n_put (j := 11) (ty := .int) (fs' := [.int 0, .int 1000, .int 0, .int 10, .int 0, .int 0, .int 0, .ref a0, .ref a1, .ref a2, .ref a3, .int 1, .int 0, .int 0, .int 0, .null, .null, .int 0, .null, .null, .int 0, .null, .null, .int 0, .int 0, .int 0, .null, .null, .null, .null, .null, .null, .null, .int 0, .null, .null, .null, .int 0, .null, .null, .null, .null]) C dX11_init_51 rfl (by decide) (Nat.le_of_ble_eq_true rfl) tyX11 tyX11_ok nmX11 inN_X11_init rfl (by decide +kernel) (by decide +kernel) rfl rfl rfl ?_
  refine n_aload_n C dX11_init_54 rfl 0 rfl ?_
  refine n_bipush (v := 100) C dX11_init_55 (by decide) ?_
  refine n_put (j := 12) (ty := .int) (fs' := [.int 0, .int 1000, .int 0, .int 10, .int 0, .int 0, .int 0, .ref a0, .ref a1, .ref a2, .ref a3, .int 1, .int 100, .int 0, .int 0, .null, .null, .int 0, .null, .null, .int 0, .null, .null, .int 0, .int 0, .int 0, .null, .null, .null, .null, .null, .null, .null, .int 0, .null, .null, .null, .int 0, .null, .null, .null, .null]) C dX11_init_57 rfl (by decide) (Nat.le_of_ble_eq_true rfl) tyX11 tyX11_ok nmX11 inN_X11_init rfl (by decide +kernel) (by decide +kernel) rfl rfl rfl ?_
  refine n_aload_n C dX11_init_60 rfl 0 rfl ?_
  refine n_sipush (v := 3000) C dX11_init_61 (by decide) ?_
  refine n_bipush (v := 6) C dX11_init_64 (by decide) ?_
  refine n_mna (N' := 3000) (M' := 6) C dX11_init_66 (by decide +kernel) (by decide +kernel) (by decide) (by decide) (by decide +kernel) (by decide +kernel) (by decide +kernel) (by decide +kernel) (by decide +kernel) (Nat.le_of_ble_eq_true rfl) (Nat.le_of_ble_eq_true rfl) (fun a4 r4 => ?_)
  refine n_put (j := 15) (ty := .array (.array .int)) (fs' := [.int 0, .int 1000, .int 0, .int 10, .int 0, .int 0, .int 0, .ref a0, .ref a1, .ref a2, .ref a3, .int 1, .int 100, .int 0, .int 0, .ref a4, .null, .int 0, .null, .null, .int 0, .null, .null, .int 0, .int 0, .int 0, .null, .null, .null, .null, .null, .null, .null, .int 0, .null, .null, .null, .int 0, .null, .null, .null, .null]) C dX11_init_70 rfl (by decide) (Nat.le_of_ble_eq_true rfl) tyX11 tyX11_ok nmX11 inN_X11_init rfl (by decide +kernel) (by decide +kernel) rfl rfl rfl ?_
  refine n_aload_n C dX11_init_73 rfl 0 rfl ?_
  refine n_bipush (v := 6) C dX11_init_74 (by decide) ?_
  refine n_newI (N' := 6) C dX11_init_76 (by decide +kernel) (by decide) (by decide +kernel) (by decide +kernel) (Nat.le_of_ble_eq_true rfl) (Nat.le_of_ble_eq_true rfl) (fun a5 => ?_)
  refine n_mw ?_
  refine n_put (j := 16) (ty := .array .int) (fs' := [.int 0, .int 1000, .int 0, .int 10, .int 0, .int 0, .int 0, .ref a0, .ref a1, .ref a2, .ref a3, .int 1, .int 100, .int 0, .int 0, .ref a4, .ref a5, .int 0, .null, .null, .int 0, .null, .null, .int 0, .int 0, .int 0, .null, .null, .null, .null, .null, .null, .null, .int 0, .null, .null, .null, .int 0, .null, .null, .null, .null]) C dX11_init_78 rfl (by decide) (Nat.le_of_ble_eq_true rfl) tyX11 tyX11_ok nmX11 inN_X11_init rfl (by decide +kernel) (by decide +kernel) rfl rfl rfl ?_
  refine n_aload_n C dX11_init_81 rfl 0 rfl ?_
  refine n_bipush (v := 60) C dX11_init_82 (by decide) ?_
  refine n_bipush (v := 6) C dX11_init_84 (by decide) ?_
  refine n_mna (N' := 60) (M' := 6) C dX11_init_86 (by decide +kernel) (by decide +kernel) (by decide) (by decide) (by decide +kernel) (by decide +kernel) (by decide +kernel) (by decide +kernel) (by decide +kernel) (Nat.le_of_ble_eq_true rfl) (Nat.le_of_ble_eq_true rfl) (fun a6 r6 => ?_)
  refine n_put (j := 18) (ty := .array (.array .int)) (fs' := [.int 0, .int 1000, .int 0, .int 10, .int 0, .int 0, .int 0, .ref a0, .ref a1, .ref a2, .ref a3, .int 1, .int 100, .int 0, .int 0, .ref a4, .ref a5, .int 0, .ref a6, .null, .int 0, .null, .null, .int 0, .int 0, .int 0, .null, .null, .null, .null, .null, .null, .null, .int 0, .null, .null, .null, .int 0, .null, .null, .null, .null]) C dX11_init_90 rfl (by decide) (Nat.le_of_ble_eq_true rfl) tyX11 tyX11_ok nmX11 inN_X11_init rfl (by decide +kernel) (by decide +kernel) rfl rfl rfl ?_
  refine n_aload_n C dX11_init_93 rfl 0 rfl ?_
  refine n_bipush (v := 60) C dX11_init_94 (by decide) ?_
  refine n_newI (N' := 60) C dX11_init_96 (by decide +kernel) (by decide) (by decide +kernel) (by decide +kernel) (Nat.le_of_ble_eq_true rfl) (Nat.le_of_ble_eq_true rfl) (fun a7 => ?_)
  refine n_mw ?_
  refine n_put (j := 19) (ty := .array .int) (fs' := [.int 0, .int 1000, .int 0, .int 10, .int 0, .int 0, .int 0, .ref a0, .ref a1, .ref a2, .ref a3, .int 1, .int 100, .int 0, .int 0, .ref a4, .ref a5, .int 0, .ref a6, .ref a7, .int 0, .null, .null, .int 0, .int 0, .int 0, .null, .null, .null, .null, .null, .null, .null, .int 0, .null, .null, .null, .int 0, .null, .null, .null, .null]) C dX11_init_98 rfl (by decide) (Nat.le_of_ble_eq_true rfl) tyX11 tyX11_ok nmX11 inN_X11_init rfl (by decide +kernel) (by decide +kernel) rfl rfl rfl ?_
  refine n_aload_n C dX11_init_101 rfl 0 rfl ?_
  refine n_bipush (v := 60) C dX11_init_102 (by decide) ?_
  refine n_bipush (v := 6) C dX11_init_104 (by decide) ?_
  refine n_mna (N' := 60) (M' := 6) C dX11_init_106 (by decide +kernel) (by decide +kernel) (by decide) (by decide) (by decide +kernel) (by decide +kernel) (by decide +kernel) (by decide +kernel) (by decide +kernel) (Nat.le_of_ble_eq_true rfl) (Nat.le_of_ble_eq_true rfl) (fun a8 r8 => ?_)
  refine n_put (j := 21) (ty := .array (.array .int)) (fs' := [.int 0, .int 1000, .int 0, .int 10, .int 0, .int 0, .int 0, .ref a0, .ref a1, .ref a2, .ref a3, .int 1, .int 100, .int 0, .int 0, .ref a4, .ref a5, .int 0, .ref a6, .ref a7, .int 0, .ref a8, .null, .int 0, .int 0, .int 0, .null, .null, .null, .null, .null, .null, .null, .int 0, .null, .null, .null, .int 0, .null, .null, .null, .null]) C dX11_init_110 rfl (by decide) (Nat.le_of_ble_eq_true rfl) tyX11 tyX11_ok nmX11 inN_X11_init rfl (by decide +kernel) (by decide +kernel) rfl rfl rfl ?_
  refine n_aload_n C dX11_init_113 rfl 0 rfl ?_
  refine n_bipush (v := 60) C dX11_init_114 (by decide) ?_
  refine n_newI (N' := 60) C dX11_init_116 (by decide +kernel) (by decide) (by decide +kernel) (by decide +kernel) (Nat.le_of_ble_eq_true rfl) (Nat.le_of_ble_eq_true rfl) (fun a9 => ?_)
  refine n_mw ?_
  refine n_put (j := 22) (ty := .array .int) (fs' := [.int 0, .int 1000, .int 0, .int 10, .int 0, .int 0, .int 0, .ref a0, .ref a1, .ref a2, .ref a3, .int 1, .int 100, .int 0, .int 0, .ref a4, .ref a5, .int 0, .ref a6, .ref a7, .int 0, .ref a8, .ref a9, .int 0, .int 0, .int 0, .null, .null, .null, .null, .null, .null, .null, .int 0, .null, .null, .null, .int 0, .null, .null, .null, .null]) C dX11_init_118 rfl (by decide) (Nat.le_of_ble_eq_true rfl) tyX11 tyX11_ok nmX11 inN_X11_init rfl (by decide +kernel) (by decide +kernel) rfl rfl rfl ?_
  refine n_aload_n C dX11_init_121 rfl 0 rfl ?_
  refine n_bipush (v := 60) C dX11_init_122 (by decide) ?_
  refine n_bipush (v := 6) C dX11_init_124 (by decide) ?_
  refine n_mna (N' := 60) (M' := 6) C dX11_init_126 (by decide +kernel) (by decide +kernel) (by decide) (by decide) (by decide +kernel) (by decide +kernel) (by decide +kernel) (by decide +kernel) (by decide +kernel) (Nat.le_of_ble_eq_true rfl) (Nat.le_of_ble_eq_true rfl) (fun a10 r10 => ?_)
  refine n_put (j := 26) (ty := .array (.array .int)) (fs' := [.int 0, .int 1000, .int 0, .int 10, .int 0, .int 0, .int 0, .ref a0, .ref a1, .ref a2, .ref a3, .int 1, .int 100, .int 0, .int 0, .ref a4, .ref a5, .int 0, .ref a6, .ref a7, .int 0, .ref a8, .ref a9, .int 0, .int 0, .int 0, .ref a10, .null, .null, .null, .null, .null, .null, .int 0, .null, .null, .null, .int 0, .null, .null, .null, .null]) C dX11_init_130 rfl (by decide) (Nat.le_of_ble_eq_true rfl) tyX11 tyX11_ok nmX11 inN_X11_init rfl (by decide +kernel) (by decide +kernel) rfl rfl rfl ?_
  refine n_aload_n C dX11_init_133 rfl 0 rfl ?_
  refine n_bipush (v := 60) C dX11_init_134 (by decide) ?_
  refine n_newI (N' := 60) C dX11_init_136 (by decide +kernel) (by decide) (by decide +kernel) (by decide +kernel) (Nat.le_of_ble_eq_true rfl) (Nat.le_of_ble_eq_true rfl) (fun a11 => ?_)
  refine n_mw ?_
  refine n_put (j := 27) (ty := .array .int) (fs' := [.int 0, .int 1000, .int 0, .int 10, .int 0, .int 0, .int 0, .ref a0, .ref a1, .ref a2, .ref a3, .int 1, .int 100, .int 0, .int 0, .ref a4, .ref a5, .int 0, .ref a6, .ref a7, .int 0, .ref a8, .ref a9, .int 0, .int 0, .int 0, .ref a10, .ref a11, .null, .null, .null, .null, .null, .int 0, .null, .null, .null, .int 0, .null, .null, .null, .null]) C dX11_init_138 rfl (by decide) (Nat.le_of_ble_eq_true rfl) tyX11 tyX11_ok nmX11 inN_X11_init rfl (by decide +kernel) (by decide +kernel) rfl rfl rfl ?_
  refine n_aload_n C dX11_init_141 rfl 0 rfl ?_
  refine n_bipush (v := 6) C dX11_init_142 (by decide) ?_
  refine n_newI (N' := 6) C dX11_init_144 (by decide +kernel) (by decide) (by decide +kernel) (by decide +kernel) (Nat.le_of_ble_eq_true rfl) (Nat.le_of_ble_eq_true rfl) (fun a12 => ?_)
  refine n_mw ?_
  refine n_put (j := 28) (ty := .array .int) (fs' := [.int 0, .int 1000, .int 0, .int 10, .int 0, .int 0, .int 0, .ref a0, .ref a1, .ref a2, .ref a3, .int 1, .int 100, .int 0, .int 0, .ref a4, .ref a5, .int 0, .ref a6, .ref a7, .int 0, .ref a8, .ref a9, .int 0, .int 0, .int 0, .ref a10, .ref a11, .ref a12, .null, .null, .null, .null, .int 0, .null, .null, .null, .int 0, .null, .null, .null, .null]) C dX11_init_146 rfl (by decide) (Nat.le_of_ble_eq_true rfl) tyX11 tyX11_ok nmX11 inN_X11_init rfl (by decide +kernel) (by decide +kernel) rfl rfl rfl ?_
  refine n_aload_n C dX11_init_149 rfl 0 rfl ?_
  refine n_bipush (v := 6) C dX11_init_150 (by decide) ?_
  refine n_newI (N' := 6) C dX11_init_152 (by decide +kernel) (by decide) (by decide +kernel) (by decide +kernel) (Nat.le_of_ble_eq_true rfl) (Nat.le_of_ble_eq_true rfl) (fun a13 => ?_)
  refine n_mw ?_
  refine n_put (j := 29) (ty := .array .int) (fs' := [.int 0, .int 1000, .int 0, .int 10, .int 0, .int 0, .int 0, .ref a0, .ref a1, .ref a2, .ref a3, .int 1, .int 100, .int 0, .int 0, .ref a4, .ref a5, .int 0, .ref a6, .ref a7, .int 0, .ref a8, .ref a9, .int 0, .int 0, .int 0, .ref a10, .ref a11, .ref a12, .ref a13, .null, .null, .null, .int 0, .null, .null, .null, .int 0, .null, .null, .null, .null]) C dX11_init_154 rfl (by decide) (Nat.le_of_ble_eq_true rfl) tyX11 tyX11_ok nmX11 inN_X11_init rfl (by decide +kernel) (by decide +kernel) rfl rfl rfl ?_
  refine n_aload_n C dX11_init_157 rfl 0 rfl ?_
  refine n_sipush (v := 5000) C dX11_init_158 (by decide) ?_
  refine n_newI (N' := 5000) C dX11_init_161 (by decide +kernel) (by decide) (by decide +kernel) (by decide +kernel) (Nat.le_of_ble_eq_true rfl) (Nat.le_of_ble_eq_true rfl) (fun a14 => ?_)
  refine n_mw ?_
  refine n_put (j := 30) (ty := .array .int) (fs' := [.int 0, .int 1000, .int 0, .int 10, .int 0, .int 0, .int 0, .ref a0, .ref a1, .ref a2, .ref a3, .int 1, .int 100, .int 0, .int 0, .ref a4, .ref a5, .int 0, .ref a6, .ref a7, .int 0, .ref a8, .ref a9, .int 0, .int 0, .int 0, .ref a10, .ref a11, .ref a12, .ref a13, .ref a14, .null, .null, .int 0, .null, .null, .null, .int 0, .null, .null, .null, .null]) C dX11_init_163 rfl (by decide) (Nat.le_of_ble_eq_true rfl) tyX11 tyX11_ok nmX11 inN_X11_init rfl (by decide +kernel) (by decide +kernel) rfl rfl rfl ?_
  refine n_aload_n C dX11_init_166 rfl 0 rfl ?_
  refine n_bipush (v := 6) C dX11_init_167 (by decide) ?_
  refine n_newI (N' := 6) C dX11_init_169 (by decide +kernel) (by decide) (by decide +kernel) (by decide +kernel) (Nat.le_of_ble_eq_true rfl) (Nat.le_of_ble_eq_true rfl) (fun a15 => ?_)
  refine n_mw ?_
  refine n_put (j := 31) (ty := .array .int) (fs' := [.int 0, .int 1000, .int 0, .int 10, .int 0, .int 0, .int 0, .ref a0, .ref a1, .ref a2, .ref a3, .int 1, .int 100, .int 0, .int 0, .ref a4, .ref a5, .int 0, .ref a6, .ref a7, .int 0, .ref a8, .ref a9, .int 0, .int 0, .int 0, .ref a10, .ref a11, .ref a12, .ref a13, .ref a14, .ref a15, .null, .int 0, .null, .null, .null, .int 0, .null, .null, .null, .null]) C dX11_init_171 rfl (by decide) (Nat.le_of_ble_eq_true rfl) tyX11 tyX11_ok nmX11 inN_X11_init rfl (by decide +kernel) (by decide +kernel) rfl rfl rfl ?_
  refine n_aload_n C dX11_init_174 rfl 0 rfl ?_
  refine n_bipush (v := 21) C dX11_init_175 (by decide) ?_
  refine n_newI (N' := 21) C dX11_init_177 (by decide +kernel) (by decide) (by decide +kernel) (by decide +kernel) (Nat.le_of_ble_eq_true rfl) (Nat.le_of_ble_eq_true rfl) (fun a16 => ?_)
  refine n_mw ?_
  refine n_put (j := 32) (ty := .array .int) (fs' := [.int 0, .int 1000, .int 0, .int 10, .int 0, .int 0, .int 0, .ref a0, .ref a1, .ref a2, .ref a3, .int 1, .int 100, .int 0, .int 0, .ref a4, .ref a5, .int 0, .ref a6, .ref a7, .int 0, .ref a8, .ref a9, .int 0, .int 0, .int 0, .ref a10, .ref a11, .ref a12, .ref a13, .ref a14, .ref a15, .ref a16, .int 0, .null, .null, .null, .int 0, .null, .null, .null, .null]) C dX11_init_179 rfl (by decide) (Nat.le_of_ble_eq_true rfl) tyX11 tyX11_ok nmX11 inN_X11_init rfl (by decide +kernel) (by decide +kernel) rfl rfl rfl ?_
  refine n_aload_n C dX11_init_182 rfl 0 rfl ?_
  refine n_bipush (v := 21) C dX11_init_183 (by decide) ?_
  refine n_newI (N' := 21) C dX11_init_185 (by decide +kernel) (by decide) (by decide +kernel) (by decide +kernel) (Nat.le_of_ble_eq_true rfl) (Nat.le_of_ble_eq_true rfl) (fun a17 => ?_)
  refine n_mw ?_
  refine n_put (j := 34) (ty := .array .int) (fs' := [.int 0, .int 1000, .int 0, .int 10, .int 0, .int 0, .int 0, .ref a0, .ref a1, .ref a2, .ref a3, .int 1, .int 100, .int 0, .int 0, .ref a4, .ref a5, .int 0, .ref a6, .ref a7, .int 0, .ref a8, .ref a9, .int 0, .int 0, .int 0, .ref a10, .ref a11, .ref a12, .ref a13, .ref a14, .ref a15, .ref a16, .int 0, .ref a17, .null, .null, .int 0, .null, .null, .null, .null]) C dX11_init_187 rfl (by decide) (Nat.le_of_ble_eq_true rfl) tyX11 tyX11_ok nmX11 inN_X11_init rfl (by decide +kernel) (by decide +kernel) rfl rfl rfl ?_
  refine n_aload_n C dX11_init_190 rfl 0 rfl ?_
  refine n_bipush (v := 21) C dX11_init_191 (by decide) ?_
  refine n_newI (N' := 21) C dX11_init_193 (by decide +kernel) (by decide) (by decide +kernel) (by decide +kernel) (Nat.le_of_ble_eq_true rfl) (Nat.le_of_ble_eq_true rfl) (fun a18 => ?_)
  refine n_mw ?_
  refine n_put (j := 35) (ty := .array .int) (fs' := [.int 0, .int 1000, .int 0, .int 10, .int 0, .int 0, .int 0, .ref a0, .ref a1, .ref a2, .ref a3, .int 1, .int 100, .int 0, .int 0, .ref a4, .ref a5, .int 0, .ref a6, .ref a7, .int 0, .ref a8, .ref a9, .int 0, .int 0, .int 0, .ref a10, .ref a11, .ref a12, .ref a13, .ref a14, .ref a15, .ref a16, .int 0, .ref a17, .ref a18, .null, .int 0, .null, .null, .null, .null]) C dX11_init_195 rfl (by decide) (Nat.le_of_ble_eq_true rfl) tyX11 tyX11_ok nmX11 inN_X11_init rfl (by decide +kernel) (by decide +kernel) rfl rfl rfl ?_
  refine n_aload_n C dX11_init_198 rfl 0 rfl ?_
  refine n_sipush (v := 256) C dX11_init_199 (by decide) ?_
  refine n_bipush (v := 9) C dX11_init_202 (by decide) ?_
  refine n_mna (N' := 256) (M' := 9) C dX11_init_204 (by decide +kernel) (by decide +kernel) (by decide) (by decide) (by decide +kernel) (by decide +kernel) (by decide +kernel) (by decide +kernel) (by decide +kernel) (Nat.le_of_ble_eq_true rfl) (Nat.le_of_ble_eq_true rfl) (fun a19 r19 => ?_)
  refine n_put (j := 36) (ty := .array (.array .int)) (fs' := [.int 0, .int 1000, .int 0, .int 10, .int 0, .int 0, .int 0, .ref a0, .ref a1, .ref a2, .ref a3, .int 1, .int 100, .int 0, .int 0, .ref a4, .ref a5, .int 0, .ref a6, .ref a7, .int 0, .ref a8, .ref a9, .int 0, .int 0, .int 0, .ref a10, .ref a11, .ref a12, .ref a13, .ref a14, .ref a15, .ref a16, .int 0, .ref a17, .ref a18, .ref a19, .int 0, .null, .null, .null, .null]) C dX11_init_208 rfl (by decide) (Nat.le_of_ble_eq_true rfl) tyX11 tyX11_ok nmX11 inN_X11_init rfl (by decide +kernel) (by decide +kernel) rfl rfl rfl ?_
  refine n_aload_n C dX11_init_211 rfl 0 rfl ?_
  refine n_bipush (v := 8) C dX11_init_212 (by decide) ?_
  refine n_newI (N' := 8) C dX11_init_214 (by decide +kernel) (by decide) (by decide +kernel) (by decide +kernel) (Nat.le_of_ble_eq_true rfl) (Nat.le_of_ble_eq_true rfl) (fun a20 => ?_)
  refine n_mw ?_
  refine n_put (j := 38) (ty := .array .int) (fs' := [.int 0, .int 1000, .int 0, .int 10, .int 0, .int 0, .int 0, .ref a0, .ref a1, .ref a2, .ref a3, .int 1, .int 100, .int 0, .int 0, .ref a4, .ref a5, .int 0, .ref a6, .ref a7, .int 0, .ref a8, .ref a9, .int 0, .int 0, .int 0, .ref a10, .ref a11, .ref a12, .ref a13, .ref a14, .ref a15, .ref a16, .int 0, .ref a17, .ref a18, .ref a19, .int 0, .ref a20, .null, .null, .null]) C dX11_init_216 rfl (by decide) (Nat.le_of_ble_eq_true rfl) tyX11 tyX11_ok nmX11 inN_X11_init rfl (by decide +kernel) (by decide +kernel) rfl rfl rfl ?_
  refine n_aload_n C dX11_init_219 rfl 0 rfl ?_
  refine n_bipush (v := 8) C dX11_init_220 (by decide) ?_
  refine n_newI (N' := 8) C dX11_init_222 (by decide +kernel) (by decide) (by decide +kernel) (by decide +kernel) (Nat.le_of_ble_eq_true rfl) (Nat.le_of_ble_eq_true rfl) (fun a21 => ?_)
  refine n_mw ?_
  refine n_put (j := 39) (ty := .array .int) (fs' := [.int 0, .int 1000, .int 0, .int 10, .int 0, .int 0, .int 0, .ref a0, .ref a1, .ref a2, .ref a3, .int 1, .int 100, .int 0, .int 0, .ref a4, .ref a5, .int 0, .ref a6, .ref a7, .int 0, .ref a8, .ref a9, .int 0, .int 0, .int 0, .ref a10, .ref a11, .ref a12, .ref a13, .ref a14, .ref a15, .ref a16, .int 0, .ref a17, .ref a18, .ref a19, .int 0, .ref a20, .ref a21, .null, .null]) C dX11_init_224 rfl (by decide) (Nat.le_of_ble_eq_true rfl) tyX11 tyX11_ok nmX11 inN_X11_init rfl (by decide +kernel) (by decide +kernel) rfl rfl rfl ?_
  refine n_aload_n C dX11_init_227 rfl 0 rfl ?_
  refine n_bipush (v := 8) C dX11_init_228 (by decide) ?_
  refine n_newZ (N' := 8) C dX11_init_230 (by decide +kernel) (by decide) (by decide +kernel) (by decide +kernel) (Nat.le_of_ble_eq_true rfl) (Nat.le_of_ble_eq_true rfl) (fun a22 => ?_)
  refine n_mw ?_
  refine n_put (j := 40) (ty := .array .boolean) (fs' := [.int 0, .int 1000, .int 0, .int 10, .int 0, .int 0, .int 0, .ref a0, .ref a1, .ref a2, .ref a3, .int 1, .int 100, .int 0, .int 0, .ref a4, .ref a5, .int 0, .ref a6, .ref a7, .int 0, .ref a8, .ref a9, .int 0, .int 0, .int 0, .ref a10, .ref a11, .ref a12, .ref a13, .ref a14, .ref a15, .ref a16, .int 0, .ref a17, .ref a18, .ref a19, .int 0, .ref a20, .ref a21, .ref a22, .null]) C dX11_init_232 rfl (by decide) (Nat.le_of_ble_eq_true rfl) tyX11 tyX11_ok nmX11 inN_X11_init rfl (by decide +kernel) (by decide +kernel) rfl rfl rfl ?_
  refine n_aload_n C dX11_init_235 rfl 0 rfl ?_
  refine n_bipush (v := 7) C dX11_init_236 (by decide) ?_
  refine n_newJ (N' := 7) C dX11_init_238 (by decide +kernel) (by decide) (by decide +kernel) (by decide +kernel) (Nat.le_of_ble_eq_true rfl) (Nat.le_of_ble_eq_true rfl) (fun a23 => ?_)
  refine n_mw ?_
  refine n_put (j := 41) (ty := .array .long) (fs' := [.int 0, .int 1000, .int 0, .int 10, .int 0, .int 0, .int 0, .ref a0, .ref a1, .ref a2, .ref a3, .int 1, .int 100, .int 0, .int 0, .ref a4, .ref a5, .int 0, .ref a6, .ref a7, .int 0, .ref a8, .ref a9, .int 0, .int 0, .int 0, .ref a10, .ref a11, .ref a12, .ref a13, .ref a14, .ref a15, .ref a16, .int 0, .ref a17, .ref a18, .ref a19, .int 0, .ref a20, .ref a21, .ref a22, .ref a23]) C dX11_init_240 rfl (by decide) (Nat.le_of_ble_eq_true rfl) tyX11 tyX11_ok nmX11 inN_X11_init rfl (by decide +kernel) (by decide +kernel) rfl rfl rfl ?_
  obtain ⟨Q, hQ⟩ : ∃ Q : Nat → Nat, Q = fun k => if k < 67 then [0, 0, 0, 0, 0, 0, 0, 0, 0, 0, 0, 0, 0, 0, 0, 0, 0, 0, 0, 0, 0, 0, 0, 0, 0, 0, 0, 0, 0, 0, 0, 0, 0, 0, 0, 0, 0, 0, 0, 0, 0, 0, a0, a1, a2, a3, a4, a5, a6, a7, a8, a9, a10, a11, a12, a13, a14, a15, a16, a17, a18, a19, a20, a21, a22, a23].getD k 0 else if k < 3067 then r4 (k - 67) else if k < 3127 then r6 (k - 3067) else if k < 3187 then r8 (k - 3127) else if k < 3247 then r10 (k - 3187) else r19 (k - 3247) := ⟨_, rfl⟩
  have e67 : ∀ j, j < 3000 → Q (67 + j) = r4 j := fun j hj => by
    rw [hQ]
    show (if 67 + j < 67 then _ else _) = _
    rw [if_neg (by omega), if_pos (by omega), Nat.add_sub_cancel_left]
  have e3067 : ∀ j, j < 60 → Q (3067 + j) = r6 j := fun j hj => by
    rw [hQ]
    show (if 3067 + j < 67 then _ else _) = _
    rw [if_neg (by omega), if_neg (by omega), if_pos (by omega), Nat.add_sub_cancel_left]
  have e3127 : ∀ j, j < 60 → Q (3127 + j) = r8 j := fun j hj => by
    rw [hQ]
    show (if 3127 + j < 67 then _ else _) = _
    rw [if_neg (by omega), if_neg (by omega), if_neg (by omega), if_pos (by omega), Nat.add_sub_cancel_left]
  have e3187 : ∀ j, j < 60 → Q (3187 + j) = r10 j := fun j hj => by
    rw [hQ]
    show (if 3187 + j < 67 then _ else _) = _
    rw [if_neg (by omega), if_neg (by omega), if_neg (by omega), if_neg (by omega), if_pos (by omega), Nat.add_sub_cancel_left]
  have e3247 : ∀ j, j < 256 → Q (3247 + j) = r19 j := fun j hj => by
    rw [hQ]
    show (if 3247 + j < 67 then _ else _) = _
    rw [if_neg (by omega), if_neg (by omega), if_neg (by omega), if_neg (by omega), if_neg (by omega), Nat.add_sub_cancel_left]
  simp only [List.nil_append, List.cons_append, List.append_assoc]
  refine n_rep (i := 4) (q := a4) (N' := 3000) (c9 := xO k.1) (f := fun i => if i < 3000 then some (r4 i) else none) (g := fun i => some (Q (67 + i))) (tl' := [(a0, .inl (xI k.1, 6, .inl (fun _ => 0))), (a1, .inl (xI k.1, 6, .inl (fun _ => 0))), (a2, .inl (xI k.1, 6, .inl (fun _ => 0))), (a3, .inl (xI k.1, 6, .inl (fun _ => 0))), (a4, .inl (xO k.1, 3000, .inr (.inr (.inr (.inr (fun i => some (Q (67 + i)))))))), (a5, .inl (xI k.1, 6, .inl (fun _ => 0))), (a6, .inl (xO k.1, 60, .inr (.inr (.inr (.inr (fun i => if i < 60 then some (r6 i) else none)))))), (a7, .inl (xI k.1, 60, .inl (fun _ => 0))), (a8, .inl (xO k.1, 60, .inr (.inr (.inr (.inr (fun i => if i < 60 then some (r8 i) else none)))))), (a9, .inl (xI k.1, 60, .inl (fun _ => 0))), (a10, .inl (xO k.1, 60, .inr (.inr (.inr (.inr (fun i => if i < 60 then some (r10 i) else none)))))), (a11, .inl (xI k.1, 60, .inl (fun _ => 0))), (a12, .inl (xI k.1, 6, .inl (fun _ => 0))), (a13, .inl (xI k.1, 6, .inl (fun _ => 0))), (a14, .inl (xI k.1, 5000, .inl (fun _ => 0))), (a15, .inl (xI k.1, 6, .inl (fun _ => 0))), (a16, .inl (xI k.1, 21, .inl (fun _ => 0))), (a17, .inl (xI k.1, 21, .inl (fun _ => 0))), (a18, .inl (xI k.1, 21, .inl (fun _ => 0))), (a19, .inl (xO k.1, 256, .inr (.inr (.inr (.inr (fun i => if i < 256 then some (r19 i) else none)))))), (a20, .inl (xI k.1, 8, .inl (fun _ => 0))), (a21, .inl (xI k.1, 8, .inl (fun _ => 0))), (a22, .inl (xZ k.1, 8, .inl (fun _ => 0))), (a23, .inl (xJ k.1, 7, .inr (.inl (fun _ => 0))))]) rfl (fun j hj => by
    show (if j < 3000 then some (r4 j) else none) = some (Q (67 + j))
    rw [if_pos hj, e67 j hj]) rfl ?_
  refine n_rep (i := 6) (q := a6) (N' := 60) (c9 := xO k.1) (f := fun i => if i < 60 then some (r6 i) else none) (g := fun i => some (Q (3067 + i))) (tl' := [(a0, .inl (xI k.1, 6, .inl (fun _ => 0))), (a1, .inl (xI k.1, 6, .inl (fun _ => 0))), (a2, .inl (xI k.1, 6, .inl (fun _ => 0))), (a3, .inl (xI k.1, 6, .inl (fun _ => 0))), (a4, .inl (xO k.1, 3000, .inr (.inr (.inr (.inr (fun i => some (Q (67 + i)))))))), (a5, .inl (xI k.1, 6, .inl (fun _ => 0))), (a6, .inl (xO k.1, 60, .inr (.inr (.inr (.inr (fun i => some (Q (3067 + i)))))))), (a7, .inl (xI k.1, 60, .inl (fun _ => 0))), (a8, .inl (xO k.1, 60, .inr (.inr (.inr (.inr (fun i => if i < 60 then some (r8 i) else none)))))), (a9, .inl (xI k.1, 60, .inl (fun _ => 0))), (a10, .inl (xO k.1, 60, .inr (.inr (.inr (.inr (fun i => if i < 60 then some (r10 i) else none)))))), (a11, .inl (xI k.1, 60, .inl (fun _ => 0))), (a12, .inl (xI k.1, 6, .inl (fun _ => 0))), (a13, .inl (xI k.1, 6, .inl (fun _ => 0))), (a14, .inl (xI k.1, 5000, .inl (fun _ => 0))), (a15, .inl (xI k.1, 6, .inl (fun _ => 0))), (a16, .inl (xI k.1, 21, .inl (fun _ => 0))), (a17, .inl (xI k.1, 21, .inl (fun _ => 0))), (a18, .inl (xI k.1, 21, .inl (fun _ => 0))), (a19, .inl (xO k.1, 256, .inr (.inr (.inr (.inr (fun i => if i < 256 then some (r19 i) else none)))))), (a20, .inl (xI k.1, 8, .inl (fun _ => 0))), (a21, .inl (xI k.1, 8, .inl (fun _ => 0))), (a22, .inl (xZ k.1, 8, .inl (fun _ => 0))), (a23, .inl (xJ k.1, 7, .inr (.inl (fun _ => 0))))]) rfl (fun j hj => by
    show (if j < 60 then some (r6 j) else none) = some (Q (3067 + j))
    rw [if_pos hj, e3067 j hj]) rfl ?_
  refine n_rep (i := 8) (q := a8) (N' := 60) (c9 := xO k.1) (f := fun i => if i < 60 then some (r8 i) else none) (g := fun i => some (Q (3127 + i))) (tl' := [(a0, .inl (xI k.1, 6, .inl (fun _ => 0))), (a1, .inl (xI k.1, 6, .inl (fun _ => 0))), (a2, .inl (xI k.1, 6, .inl (fun _ => 0))), (a3, .inl (xI k.1, 6, .inl (fun _ => 0))), (a4, .inl (xO k.1, 3000, .inr (.inr (.inr (.inr (fun i => some (Q (67 + i)))))))), (a5, .inl (xI k.1, 6, .inl (fun _ => 0))), (a6, .inl (xO k.1, 60, .inr (.inr (.inr (.inr (fun i => some (Q (3067 + i)))))))), (a7, .inl (xI k.1, 60, .inl (fun _ => 0))), (a8, .inl (xO k.1, 60, .inr (.inr (.inr (.inr (fun i => some (Q (3127 + i)))))))), (a9, .inl (xI k.1, 60, .inl (fun _ => 0))), (a10, .inl (xO k.1, 60, .inr (.inr (.inr (.inr (fun i => if i < 60 then some (r10 i) else none)))))), (a11, .inl (xI k.1, 60, .inl (fun _ => 0))), (a12, .inl (xI k.1, 6, .inl (fun _ => 0))), (a13, .inl (xI k.1, 6, .inl (fun _ => 0))), (a14, .inl (xI k.1, 5000, .inl (fun _ => 0))), (a15, .inl (xI k.1, 6, .inl (fun _ => 0))), (a16, .inl (xI k.1, 21, .inl (fun _ => 0))), (a17, .inl (xI k.1, 21, .inl (fun _ => 0))), (a18, .inl (xI k.1, 21, .inl (fun _ => 0))), (a19, .inl (xO k.1, 256, .inr (.inr (.inr (.inr (fun i => if i < 256 then some (r19 i) else none)))))), (a20, .inl (xI k.1, 8, .inl (fun _ => 0))), (a21, .inl (xI k.1, 8, .inl (fun _ => 0))), (a22, .inl (xZ k.1, 8, .inl (fun _ => 0))), (a23, .inl (xJ k.1, 7, .inr (.inl (fun _ => 0))))]) rfl (fun j hj => by
    show (if j < 60 then some (r8 j) else none) = some (Q (3127 + j))
    rw [if_pos hj, e3127 j hj]) rfl ?_
  refine n_rep (i := 10) (q := a10) (N' := 60) (c9 := xO k.1) (f := fun i => if i < 60 then some (r10 i) else none) (g := fun i => some (Q (3187 + i))) (tl' := [(a0, .inl (xI k.1, 6, .inl (fun _ => 0))), (a1, .inl (xI k.1, 6, .inl (fun _ => 0))), (a2, .inl (xI k.1, 6, .inl (fun _ => 0))), (a3, .inl (xI k.1, 6, .inl (fun _ => 0))), (a4, .inl (xO k.1, 3000, .inr (.inr (.inr (.inr (fun i => some (Q (67 + i)))))))), (a5, .inl (xI k.1, 6, .inl (fun _ => 0))), (a6, .inl (xO k.1, 60, .inr (.inr (.inr (.inr (fun i => some (Q (3067 + i)))))))), (a7, .inl (xI k.1, 60, .inl (fun _ => 0))), (a8, .inl (xO k.1, 60, .inr (.inr (.inr (.inr (fun i => some (Q (3127 + i)))))))), (a9, .inl (xI k.1, 60, .inl (fun _ => 0))), (a10, .inl (xO k.1, 60, .inr (.inr (.inr (.inr (fun i => some (Q (3187 + i)))))))), (a11, .inl (xI k.1, 60, .inl (fun _ => 0))), (a12, .inl (xI k.1, 6, .inl (fun _ => 0))), (a13, .inl (xI k.1, 6, .inl (fun _ => 0))), (a14, .inl (xI k.1, 5000, .inl (fun _ => 0))), (a15, .inl (xI k.1, 6, .inl (fun _ => 0))), (a16, .inl (xI k.1, 21, .inl (fun _ => 0))), (a17, .inl (xI k.1, 21, .inl (fun _ => 0))), (a18, .inl (xI k.1, 21, .inl (fun _ => 0))), (a19, .inl (xO k.1, 256, .inr (.inr (.inr (.inr (fun i => if i < 256 then some (r19 i) else none)))))), (a20, .inl (xI k.1, 8, .inl (fun _ => 0))), (a21, .inl (xI k.1, 8, .inl (fun _ => 0))), (a22, .inl (xZ k.1, 8, .inl (fun _ => 0))), (a23, .inl (xJ k.1, 7, .inr (.inl (fun _ => 0))))]) rfl (fun j hj => by
    show (if j < 60 then some (r10 j) else none) = some (Q (3187 + j))
    rw [if_pos hj, e3187 j hj]) rfl ?_
  refine n_rep (i := 19) (q := a19) (N' := 256) (c9 := xO k.1) (f := fun i => if i < 256 then some (r19 i) else none) (g := fun i => some (Q (3247 + i))) (tl' := [(a0, .inl (xI k.1, 6, .inl (fun _ => 0))), (a1, .inl (xI k.1, 6, .inl (fun _ => 0))), (a2, .inl (xI k.1, 6, .inl (fun _ => 0))), (a3, .inl (xI k.1, 6, .inl (fun _ => 0))), (a4, .inl (xO k.1, 3000, .inr (.inr (.inr (.inr (fun i => some (Q (67 + i)))))))), (a5, .inl (xI k.1, 6, .inl (fun _ => 0))), (a6, .inl (xO k.1, 60, .inr (.inr (.inr (.inr (fun i => some (Q (3067 + i)))))))), (a7, .inl (xI k.1, 60, .inl (fun _ => 0))), (a8, .inl (xO k.1, 60, .inr (.inr (.inr (.inr (fun i => some (Q (3127 + i)))))))), (a9, .inl (xI k.1, 60, .inl (fun _ => 0))), (a10, .inl (xO k.1, 60, .inr (.inr (.inr (.inr (fun i => some (Q (3187 + i)))))))), (a11, .inl (xI k.1, 60, .inl (fun _ => 0))), (a12, .inl (xI k.1, 6, .inl (fun _ => 0))), (a13, .inl (xI k.1, 6, .inl (fun _ => 0))), (a14, .inl (xI k.1, 5000, .inl (fun _ => 0))), (a15, .inl (xI k.1, 6, .inl (fun _ => 0))), (a16, .inl (xI k.1, 21, .inl (fun _ => 0))), (a17, .inl (xI k.1, 21, .inl (fun _ => 0))), (a18, .inl (xI k.1, 21, .inl (fun _ => 0))), (a19, .inl (xO k.1, 256, .inr (.inr (.inr (.inr (fun i => some (Q (3247 + i)))))))), (a20, .inl (xI k.1, 8, .inl (fun _ => 0))), (a21, .inl (xI k.1, 8, .inl (fun _ => 0))), (a22, .inl (xZ k.1, 8, .inl (fun _ => 0))), (a23, .inl (xJ k.1, 7, .inr (.inl (fun _ => 0))))]) rfl (fun j hj => by
    show (if j < 256 then some (r19 j) else none) = some (Q (3247 + j))
    rw [if_pos hj, e3247 j hj]) rfl ?_
  refine n_ret C rfl dX11_init_243 (Nat.le_of_ble_eq_true rfl) (Nat.le_of_ble_eq_true rfl) Q ?_
  have q42 : ∀ j, j < 67 → Q j = [0, 0, 0, 0, 0, 0, 0, 0, 0, 0, 0, 0, 0, 0, 0, 0, 0, 0, 0, 0, 0, 0, 0, 0, 0, 0, 0, 0, 0, 0, 0, 0, 0, 0, 0, 0, 0, 0, 0, 0, 0, 0, a0, a1, a2, a3, a4, a5, a6, a7, a8, a9, a10, a11, a12, a13, a14, a15, a16, a17, a18, a19, a20, a21, a22, a23].getD j 0 := fun j hj => by
    rw [hQ]
    show (if j < 67 then _ else _) = _
    rw [if_pos hj]
  have hrows : ∀ Rw, Rw = wsQ k.1 Q → ∀ (E : va_W), E = wl ++ wsM k.1 h0 Q → E ++ Rw = (wl ++ wsM k.1 h0 Q) ++ wsQ k.1 Q := fun Rw h1 E h2 => by rw [h1, h2]
  refine hrows _ ?_ _ ?_
  · unfold wsQ
    rw [show 3436 = 3000+60+60+60+256 from rfl, List.range_add, List.range_add, List.range_add, List.range_add]
    simp only [List.map_append, List.map_map, List.nil_append]
    simp only [List.append_assoc]
    refine congr (congrArg _ ?_) (congr (congrArg _ ?_) (congr (congrArg _ ?_) (congr (congrArg _ ?_) ?_)))
    · refine List.map_congr_left (fun j hj => ?_)
      have hj := List.mem_range.mp hj
      rw [e67 j hj, al_6 (by omega)]
    · refine List.map_congr_left (fun j hj => ?_)
      have hj := List.mem_range.mp hj
      show _ = (Q (67 + (3000 + j)), _)
      rw [show 67 + (3000 + j) = 3067 + j by omega, e3067 j hj, al_6 (by omega)]
    · refine List.map_congr_left (fun j hj => ?_)
      have hj := List.mem_range.mp hj
      show _ = (Q (67 + (3060 + j)), _)
      rw [show 67 + (3060 + j) = 3127 + j by omega, e3127 j hj, al_6 (by omega)]
    · refine List.map_congr_left (fun j hj => ?_)
      have hj := List.mem_range.mp hj
      show _ = (Q (67 + (3120 + j)), _)
      rw [show 67 + (3120 + j) = 3187 + j by omega, e3187 j hj, al_6 (by omega)]
    · refine List.map_congr_left (fun j hj => ?_)
      have hj := List.mem_range.mp hj
      show _ = (Q (67 + (3180 + j)), _)
      rw [show 67 + (3180 + j) = 3247 + j by omega, e3247 j hj, al_9 (by omega)]
  · unfold wsM
    rw [q42 42 (by decide), q42 43 (by decide), q42 44 (by decide), q42 45 (by decide), q42 46 (by decide), q42 47 (by decide), q42 48 (by decide), q42 49 (by decide), q42 50 (by decide), q42 51 (by decide), q42 52 (by decide), q42 53 (by decide), q42 54 (by decide), q42 55 (by decide), q42 56 (by decide), q42 57 (by decide), q42 58 (by decide), q42 59 (by decide), q42 60 (by decide), q42 61 (by decide), q42 62 (by decide), q42 63 (by decide), q42 64 (by decide), q42 65 (by decide)]
    rfl
