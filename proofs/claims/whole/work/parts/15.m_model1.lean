theorem hd_X11_bestOf : yX11_bestOf.cls = RX11 ∧ yX11_bestOf.cls ≠ "java/lang/invoke/MethodHandle" ∧ yX11_bestOf.cls ≠ "java/lang/invoke/VarHandle" ∧ (parseMethodDescriptor yX11_bestOf.desc).map (fun d => d.parameters.length) = some 0 := by decide +kernel
theorem hd_X11_changes : yX11_changes.cls = RX11 ∧ yX11_changes.cls ≠ "java/lang/invoke/MethodHandle" ∧ yX11_changes.cls ≠ "java/lang/invoke/VarHandle" ∧ (parseMethodDescriptor yX11_changes.desc).map (fun d => d.parameters.length) = some 0 := by decide +kernel
theorem hd_X11_count : yX11_count.cls = RX11 ∧ yX11_count.cls ≠ "java/lang/invoke/MethodHandle" ∧ yX11_count.cls ≠ "java/lang/invoke/VarHandle" ∧ (parseMethodDescriptor yX11_count.desc).map (fun d => d.parameters.length) = some 0 := by decide +kernel
theorem hd_X11_count_ : yX11_count_.cls = RX11 ∧ yX11_count_.cls ≠ "java/lang/invoke/MethodHandle" ∧ yX11_count_.cls ≠ "java/lang/invoke/VarHandle" ∧ (parseMethodDescriptor yX11_count_.desc).map (fun d => d.parameters.length) = some 3 := by decide +kernel
theorem hd_X11_fitsFlawed : yX11_fitsFlawed.cls = RX11 ∧ yX11_fitsFlawed.cls ≠ "java/lang/invoke/MethodHandle" ∧ yX11_fitsFlawed.cls ≠ "java/lang/invoke/VarHandle" ∧ (parseMethodDescriptor yX11_fitsFlawed.desc).map (fun d => d.parameters.length) = some 1 := by decide +kernel
theorem hd_X11_in : yX11_in.cls ≠ "java/lang/invoke/MethodHandle" ∧ yX11_in.cls ≠ "java/lang/invoke/VarHandle" ∧ (parseMethodDescriptor yX11_in.desc).map (fun d => d.parameters.length) = some 3 := by decide +kernel
theorem hd_X11_isNumbered : yX11_isNumbered.cls = RX11 ∧ yX11_isNumbered.cls ≠ "java/lang/invoke/MethodHandle" ∧ yX11_isNumbered.cls ≠ "java/lang/invoke/VarHandle" ∧ (parseMethodDescriptor yX11_isNumbered.desc).map (fun d => d.parameters.length) = some 0 := by decide +kernel
theorem hd_X11_isParted : yX11_isParted.cls = RX11 ∧ yX11_isParted.cls ≠ "java/lang/invoke/MethodHandle" ∧ yX11_isParted.cls ≠ "java/lang/invoke/VarHandle" ∧ (parseMethodDescriptor yX11_isParted.desc).map (fun d => d.parameters.length) = some 4 := by decide +kernel
theorem hd_X11_isPattern : yX11_isPattern.cls = RX11 ∧ yX11_isPattern.cls ≠ "java/lang/invoke/MethodHandle" ∧ yX11_isPattern.cls ≠ "java/lang/invoke/VarHandle" ∧ (parseMethodDescriptor yX11_isPattern.desc).map (fun d => d.parameters.length) = some 1 := by decide +kernel
theorem hd_X11_isWidth : yX11_isWidth.cls = RX11 ∧ yX11_isWidth.cls ≠ "java/lang/invoke/MethodHandle" ∧ yX11_isWidth.cls ≠ "java/lang/invoke/VarHandle" ∧ (parseMethodDescriptor yX11_isWidth.desc).map (fun d => d.parameters.length) = some 1 := by decide +kernel
theorem hd_X11_planned : yX11_planned.cls = RX11 ∧ yX11_planned.cls ≠ "java/lang/invoke/MethodHandle" ∧ yX11_planned.cls ≠ "java/lang/invoke/VarHandle" ∧ (parseMethodDescriptor yX11_planned.desc).map (fun d => d.parameters.length) = some 1 := by decide +kernel
theorem hd_X11_sumOf : yX11_sumOf.cls = RX11 ∧ yX11_sumOf.cls ≠ "java/lang/invoke/MethodHandle" ∧ yX11_sumOf.cls ≠ "java/lang/invoke/VarHandle" ∧ (parseMethodDescriptor yX11_sumOf.desc).map (fun d => d.parameters.length) = some 1 := by decide +kernel
theorem hd_X11_wanted : yX11_wanted.cls = RX11 ∧ yX11_wanted.cls ≠ "java/lang/invoke/MethodHandle" ∧ yX11_wanted.cls ≠ "java/lang/invoke/VarHandle" ∧ (parseMethodDescriptor yX11_wanted.desc).map (fun d => d.parameters.length) = some 1 := by decide +kernel
theorem hd_X11_worthOf : yX11_worthOf.cls = RX11 ∧ yX11_worthOf.cls ≠ "java/lang/invoke/MethodHandle" ∧ yX11_worthOf.cls ≠ "java/lang/invoke/VarHandle" ∧ (parseMethodDescriptor yX11_worthOf.desc).map (fun d => d.parameters.length) = some 1 := by decide +kernel
theorem inn_X11_about_11 : ∀ w ∈ u_ws RX11 TX11 42, w ∈ wsX11_about := by decide +kernel
theorem inn_X11_best_11 : ∀ w ∈ u_ws RX11 TX11 42, w ∈ wsX11_best := by decide +kernel
theorem inn_X11_bestOf_11 : ∀ w ∈ u_ws RX11 TX11 42, w ∈ wsX11_bestOf := by decide +kernel
theorem inn_X11_bound_11 : ∀ w ∈ u_ws RX11 TX11 42, w ∈ wsX11_bound := by decide +kernel
theorem inn_X11_changes_11 : ∀ w ∈ u_ws RX11 TX11 42, w ∈ wsX11_changes := by decide +kernel
theorem inn_X11_count_11 : ∀ w ∈ u_ws RX11 TX11 42, w ∈ wsX11_count := by decide +kernel
theorem inn_X11_count__11 : ∀ w ∈ u_ws RX11 TX11 42, w ∈ wsX11_count_ := by decide +kernel
theorem inn_X11_find_11 : ∀ w ∈ u_ws RX11 TX11 42, w ∈ wsX11_find := by decide +kernel
theorem inn_X11_fitsFlawed_11 : ∀ w ∈ u_ws RX11 TX11 42, w ∈ wsX11_fitsFlawed := by decide +kernel
theorem inn_X11_isNumbered_11 : ∀ w ∈ u_ws RX11 TX11 42, w ∈ wsX11_isNumbered := by decide +kernel
theorem inn_X11_isParted_11 : ∀ w ∈ u_ws RX11 TX11 42, w ∈ wsX11_isParted := by decide +kernel
theorem inn_X11_isPattern_11 : ∀ w ∈ u_ws RX11 TX11 42, w ∈ wsX11_isPattern := by decide +kernel
theorem inn_X11_isWidth_11 : ∀ w ∈ u_ws RX11 TX11 42, w ∈ wsX11_isWidth := by decide +kernel
theorem inn_X11_length_11 : ∀ w ∈ u_ws RX11 TX11 42, w ∈ wsX11_length := by decide +kernel
theorem inn_X11_mill_11 : ∀ w ∈ u_ws RX11 TX11 42, w ∈ wsX11_mill := by decide +kernel
theorem inn_X11_order_11 : ∀ w ∈ u_ws RX11 TX11 42, w ∈ wsX11_order := by decide +kernel
theorem inn_X11_pattern_11 : ∀ w ∈ u_ws RX11 TX11 42, w ∈ wsX11_pattern := by decide +kernel
theorem inn_X11_patterns_11 : ∀ w ∈ u_ws RX11 TX11 42, w ∈ wsX11_patterns := by decide +kernel
theorem inn_X11_planned_11 : ∀ w ∈ u_ws RX11 TX11 42, w ∈ wsX11_planned := by decide +kernel
theorem inn_X11_price_11 : ∀ w ∈ u_ws RX11 TX11 42, w ∈ wsX11_price := by decide +kernel
theorem inn_X11_strip_11 : ∀ w ∈ u_ws RX11 TX11 42, w ∈ wsX11_strip := by decide +kernel
theorem inn_X11_sumOf_11 : ∀ w ∈ u_ws RX11 TX11 42, w ∈ wsX11_sumOf := by decide +kernel
theorem inn_X11_thrown_11 : ∀ w ∈ u_ws RX11 TX11 42, w ∈ wsX11_thrown := by decide +kernel
theorem inn_X11_wanted_11 : ∀ w ∈ u_ws RX11 TX11 42, w ∈ wsX11_wanted := by decide +kernel
theorem inn_X11_width_11 : ∀ w ∈ u_ws RX11 TX11 42, w ∈ wsX11_width := by decide +kernel
theorem inn_X11_worthOf_11 : ∀ w ∈ u_ws RX11 TX11 42, w ∈ wsX11_worthOf := by decide +kernel
def fX11_thrown (n : Nat) (T : TS) : Option (Int32 × TS) := some ((gI T 2050), T)
set_option maxHeartbeats 4000000 in
set_option maxRecDepth 100000 in
theorem mtX11_thrown (l : Launch) (X : XT) (n : Nat) (T T' : TS) (r : Int32) (h : fX11_thrown n T = some (r, T')) : Met l yX11_thrown wsX11_thrown (RM 0) (PreX X [.ref (ad X 41)] T) (QQ X (some (.int r)) T') 0 0 (xA X) := by
  refine q_start (by decide) rfl (Nat.le_of_ble_eq_true rfl) ?_
  intro k hk C
  subst hk
  show GW k T 0 [(0, .ref (ad k.1 41))] []
  unfold fX11_thrown at h
  refine q_aload_n C dX11_thrown_0 rfl 0 rfl ?_
  refine q_get (j := 0) C dX11_thrown_1 (wE_41 _ _) rfl (by decide) rfl inn_X11_thrown_11 (by decide +kernel) rfl ?_
  exact q_ireturn C dX11_thrown_4 h
def fX11_in (n : Nat) (p0 : Int32) (p1 : Int32) (p2 : Int32) (T : TS) : Option (Int32 × TS) := if p0 < p1 then rz (0 : Int32) T else if p2 < p0 then rz (0 : Int32) T else rz (1 : Int32) T
set_option maxHeartbeats 4000000 in
set_option maxRecDepth 100000 in
theorem mtX11_in (l : Launch) (X : XT) (n : Nat) (p0 : Int32) (p1 : Int32) (p2 : Int32) (T T' : TS) (r : Int32) (h : fX11_in n p0 p1 p2 T = some (r, T')) : Met l yX11_in wsX11_in (RM 0) (PreX X [.int p0, .int p1, .int p2] T) (QQ X (some (.int r)) T') 0 0 (xA X) := by
  refine q_start (by decide) rfl (Nat.le_of_ble_eq_true rfl) ?_
  intro k hk C
  subst hk
  show GW k T 0 [(0, .int p0), (1, .int p1), (2, .int p2)] []
  unfold fX11_in at h
  refine q_iload_n C dX11_in_0 rfl 0 rfl ?_
  refine q_iload_n C dX11_in_1 rfl 1 rfl ?_
  refine q_icmp_lt (tgt := 14) C dX11_in_2 (by decide) h (fun c h => ?_) (fun c h => ?_)
  · refine q_iconst (v := 0) C dX11_in_14 (by decide) ?_
    exact q_zreturn C dX11_in_15 h
  · refine q_iload_n C dX11_in_5 rfl 0 rfl ?_
    refine q_iload_n C dX11_in_6 rfl 2 rfl ?_
    refine q_icmp_gt (tgt := 14) C dX11_in_7 (by decide) h (fun c h => ?_) (fun c h => ?_)
    · refine q_iconst (v := 0) C dX11_in_14 (by decide) ?_
      exact q_zreturn C dX11_in_15 h
    · refine q_iconst (v := 1) C dX11_in_10 (by decide) ?_
      refine q_goto (tgt := 15) C dX11_in_11 (by decide) ?_
      exact q_zreturn C dX11_in_15 h
def fX11_changes (n : Nat) (T : TS) : Option (TS) := nm (uI T 2063 (0 : Int32)) (fun T_1 => nm (uI T_1 2067 (0 : Int32)) (fun T_2 => nm (uI T_2 2074 (1 : Int32)) (fun T_3 => some T_3)))
set_option maxHeartbeats 4000000 in
set_option maxRecDepth 100000 in
theorem mtX11_changes (l : Launch) (X : XT) (n : Nat) (T T' : TS) (h : fX11_changes n T = some T') : Met l yX11_changes wsX11_changes (RM 0) (PreX X [.ref (ad X 41)] T) (QQ X none T') 0 0 (xA X) := by
  refine q_start (by decide) rfl (Nat.le_of_ble_eq_true rfl) ?_
  intro k hk C
  subst hk
  show GW k T 0 [(0, .ref (ad k.1 41))] []
  unfold fX11_changes at h
  refine q_aload_n C dX11_changes_0 rfl 0 rfl ?_
  refine q_iconst (v := 0) C dX11_changes_1 (by decide) ?_
  refine q_putI (j := 13) (ty := .boolean) C dX11_changes_2 (wE_41 _ _) (wP_41_13 _ _ _) rfl (by decide) (Nat.le_of_ble_eq_true rfl) tyX11 tyX11_ok nmX11 inn_X11_changes_11 (by decide +kernel) rfl rfl (by decide +kernel) rfl rfl h (fun T_1 h => ?_)
  refine q_aload_n C dX11_changes_5 rfl 0 rfl ?_
  refine q_iconst (v := 0) C dX11_changes_6 (by decide) ?_
  refine q_putI (j := 17) (ty := .int) C dX11_changes_7 (wE_41 _ _) (wP_41_17 _ _ _) rfl (by decide) (Nat.le_of_ble_eq_true rfl) tyX11 tyX11_ok nmX11 inn_X11_changes_11 (by decide +kernel) rfl rfl (by decide +kernel) rfl rfl h (fun T_2 h => ?_)
  refine q_aload_n C dX11_changes_10 rfl 0 rfl ?_
  refine q_iconst (v := 1) C dX11_changes_11 (by decide) ?_
  refine q_putI (j := 24) (ty := .boolean) C dX11_changes_12 (wE_41 _ _) (wP_41_24 _ _ _) rfl (by decide) (Nat.le_of_ble_eq_true rfl) tyX11 tyX11_ok nmX11 inn_X11_changes_11 (by decide +kernel) rfl rfl (by decide +kernel) rfl rfl h (fun T_3 h => ?_)
  exact q_vreturn C dX11_changes_15 h
def fX11_mill_L43 (n : Nat) (y1 : Int32) (y2 : Int32) (y3 : Int32) (kk : TS → Option (Int32 × TS)) : Nat → Int32 → TS → Option (Int32 × TS)
  | 0, _, _ => none
  | fuel + 1, x4, T => if (gI T 2056) ≤ x4 then kk T else ck x4 6 (if (gA T 42 (Int32.toNatClampNeg x4)) ≤ y1 then fX11_mill_L43 n y1 y2 y3 kk fuel (x4 + 1) T else rz (0 : Int32) T)
set_option maxHeartbeats 4000000 in
set_option maxRecDepth 100000 in
theorem lpX11_mill_L43 {l : Launch} {k : KT} {n : Nat} {y1 : Int32} {y2 : Int32} {y3 : Int32} {kk : TS → Option (Int32 × TS)} {r : Int32} {T' : TS} (C : CX l k 5 cX11_mill RX11 wsX11_mill 1 (some .boolean) (some (.int r), T')) (hk : ∀ T1, kk T1 = some (r, T') → GW k T1 71 [(0, .ref (ad k.1 41)), (1, .int y1), (2, .int y2), (3, .int y3)] []) : ∀ (fuel : Nat) (x4 : Int32) (T : TS), fX11_mill_L43 n y1 y2 y3 kk fuel x4 T = some (r, T') → GW k T 43 [(0, .ref (ad k.1 41)), (1, .int y1), (2, .int y2), (3, .int y3), (4, .int x4)] [] := by
  intro fuel
  induction fuel with
  | zero => intro x4 T h; cases h
  | succ fuel ih =>
    intro x4 T h
    rw [fX11_mill_L43] at h
    refine q_iload C dX11_mill_43 4 rfl ?_
    refine q_aload_n C dX11_mill_45 rfl 0 rfl ?_
    refine q_get (j := 6) C dX11_mill_46 (wE_41 _ _) rfl (by decide) rfl inn_X11_mill_11 (by decide +kernel) rfl ?_
    refine q_icmp_ge (tgt := 71) C dX11_mill_49 (by decide) h (fun c h => ?_) (fun c h => ?_)
    · refine q_sub [0, 1, 2, 3] rfl ?_
      exact hk _ h
    · refine q_aload_n C dX11_mill_52 rfl 0 rfl ?_
      refine q_get (j := 7) C dX11_mill_53 (wE_41 _ _) rfl (by decide) rfl inn_X11_mill_11 (by decide +kernel) rfl ?_
      refine q_iload C dX11_mill_56 4 rfl ?_
      refine q_iald C dX11_mill_58 (wE_42 _ _) h (fun h => ?_)
      refine q_iload_n C dX11_mill_59 rfl 1 rfl ?_
      refine q_icmp_le (tgt := 65) C dX11_mill_60 (by decide) h (fun c h => ?_) (fun c h => ?_)
      · refine q_iinc (j := 4) (v := 1) (lv' := [(0, .ref (ad k.1 41)), (1, .int y1), (2, .int y2), (3, .int y3), (4, .int (x4 + 1))]) C dX11_mill_65 rfl (by decide) (by decide) rfl ?_
        refine q_goto (tgt := 43) C dX11_mill_68 (by decide) ?_
        refine q_sub [0, 1, 2, 3, 4] rfl ?_
        exact ih _ _ h
      · refine q_iconst (v := 0) C dX11_mill_63 (by decide) ?_
        exact q_zreturn C dX11_mill_64 h
def fX11_mill (n : Nat) (p0 : Int32) (p1 : Int32) (p2 : Int32) (T : TS) : Option (Int32 × TS) := nm (uI T 2050 (0 : Int32)) (fun T_1 => bd (fX11_in n p0 (10 : Int32) (10000 : Int32) T_1) (fun r_3 T_2 => if r_3 = 0 then rz (0 : Int32) T_2 else nz (4 : Int32) (bd (fX11_in n p1 (0 : Int32) (p0 / (4 : Int32)) T_2) (fun r_5 T_4 => if r_5 = 0 then rz (0 : Int32) T_4 else bd (fX11_in n p2 (1 : Int32) (20 : Int32) T_4) (fun r_7 T_6 => if ¬ r_7 = 0 then fX11_mill_L43 n p0 p1 p2 (fun T_8 => nm (uI T_8 2051 p0) (fun T_9 => nm (uI T_9 2052 p1) (fun T_10 => nm (uI T_10 2053 p2) (fun T_11 => nm (uI T_11 2054 (0 : Int32)) (fun T_12 => nm (uI T_12 2055 (0 : Int32)) (fun T_13 => bv (fX11_changes n T_13) (fun T_14 => rz (1 : Int32) T_14))))))) n (0 : Int32) T_6 else rz (0 : Int32) T_6)))))
set_option maxHeartbeats 4000000 in
set_option maxRecDepth 100000 in
theorem mtX11_mill (l : Launch) (X : XT) (n : Nat) (p0 : Int32) (p1 : Int32) (p2 : Int32) (T T' : TS) (r : Int32) (h : fX11_mill n p0 p1 p2 T = some (r, T')) : Met l yX11_mill wsX11_mill (RM 1) (PreX X [.ref (ad X 41), .int p0, .int p1, .int p2] T) (QQ X (some (.int r)) T') 0 0 (xA X) := by
  refine q_start (by decide) rfl (Nat.le_of_ble_eq_true rfl) ?_
  intro k hk C
  subst hk
  show GW k T 0 [(0, .ref (ad k.1 41)), (1, .int p0), (2, .int p1), (3, .int p2)] []
  unfold fX11_mill at h
  refine q_aload_n C dX11_mill_0 rfl 0 rfl ?_
  refine q_iconst (v := 0) C dX11_mill_1 (by decide) ?_
  refine q_putI (j := 0) (ty := .int) C dX11_mill_2 (wE_41 _ _) (wP_41_0 _ _ _) rfl (by decide) (Nat.le_of_ble_eq_true rfl) tyX11 tyX11_ok nmX11 inn_X11_mill_11 (by decide +kernel) rfl rfl (by decide +kernel) rfl rfl h (fun T_1 h => ?_)
  refine q_iload_n C dX11_mill_5 rfl 1 rfl ?_
  refine q_bipush (v := 10) C dX11_mill_6 (by decide) ?_
  refine q_sipush (v := 10000) C dX11_mill_8 (by decide) ?_
  obtain ⟨r_3, T_2, hc, h⟩ := bd_some h
  refine q_callS (st' := [.int r_3]) C dX11_mill_11 [.int p0, .int (10 : Int32), .int (10000 : Int32)] [] (mtX11_in l _ n _ _ _ _ _ _ hc) gX11_mill_X11_in rfl hd_X11_in (by decide) (by decide) rfl rfl (Nat.le_of_ble_eq_true rfl) rfl ?_
  clear hc
  refine q_if_eq (tgt := 38) C dX11_mill_14 (by decide) h (fun c h => ?_) (fun c h => ?_)
  · refine q_iconst (v := 0) C dX11_mill_38 (by decide) ?_
    exact q_zreturn C dX11_mill_39 h
  · refine q_iload_n C dX11_mill_17 rfl 2 rfl ?_
    refine q_iconst (v := 0) C dX11_mill_18 (by decide) ?_
    refine q_iload_n C dX11_mill_19 rfl 1 rfl ?_
    refine q_iconst (v := 4) C dX11_mill_20 (by decide) ?_
    refine q_idiv C dX11_mill_21 h (fun h => ?_)
    obtain ⟨r_5, T_4, hc, h⟩ := bd_some h
    refine q_callS (st' := [.int r_5]) C dX11_mill_22 [.int p1, .int (0 : Int32), .int (p0 / (4 : Int32))] [] (mtX11_in l _ n _ _ _ _ _ _ hc) gX11_mill_X11_in rfl hd_X11_in (by decide) (by decide) rfl rfl (Nat.le_of_ble_eq_true rfl) rfl ?_
    clear hc
    refine q_if_eq (tgt := 38) C dX11_mill_25 (by decide) h (fun c h => ?_) (fun c h => ?_)
    · refine q_iconst (v := 0) C dX11_mill_38 (by decide) ?_
      exact q_zreturn C dX11_mill_39 h
    · refine q_iload_n C dX11_mill_28 rfl 3 rfl ?_
      refine q_iconst (v := 1) C dX11_mill_29 (by decide) ?_
      refine q_bipush (v := 20) C dX11_mill_30 (by decide) ?_
      obtain ⟨r_7, T_6, hc, h⟩ := bd_some h
      refine q_callS (st' := [.int r_7]) C dX11_mill_32 [.int p2, .int (1 : Int32), .int (20 : Int32)] [] (mtX11_in l _ n _ _ _ _ _ _ hc) gX11_mill_X11_in rfl hd_X11_in (by decide) (by decide) rfl rfl (Nat.le_of_ble_eq_true rfl) rfl ?_
      clear hc
      refine q_if_ne (tgt := 40) C dX11_mill_35 (by decide) h (fun c h => ?_) (fun c h => ?_)
      · refine q_iconst (v := 0) C dX11_mill_40 (by decide) ?_
        refine q_istore (lv' := [(0, .ref (ad k.1 41)), (1, .int p0), (2, .int p1), (3, .int p2), (4, .int (0 : Int32))]) C dX11_mill_41 (by decide) rfl ?_
        refine q_sub [0, 1, 2, 3, 4] rfl ?_
        refine lpX11_mill_L43 C (fun T_8 h => ?_) _ _ _ h
        refine q_aload_n C dX11_mill_71 rfl 0 rfl ?_
        refine q_iload_n C dX11_mill_72 rfl 1 rfl ?_
        refine q_putI (j := 1) (ty := .int) C dX11_mill_73 (wE_41 _ _) (wP_41_1 _ _ _) rfl (by decide) (Nat.le_of_ble_eq_true rfl) tyX11 tyX11_ok nmX11 inn_X11_mill_11 (by decide +kernel) rfl rfl (by decide +kernel) rfl rfl h (fun T_9 h => ?_)
        refine q_aload_n C dX11_mill_76 rfl 0 rfl ?_
        refine q_iload_n C dX11_mill_77 rfl 2 rfl ?_
        refine q_putI (j := 2) (ty := .int) C dX11_mill_78 (wE_41 _ _) (wP_41_2 _ _ _) rfl (by decide) (Nat.le_of_ble_eq_true rfl) tyX11 tyX11_ok nmX11 inn_X11_mill_11 (by decide +kernel) rfl rfl (by decide +kernel) rfl rfl h (fun T_10 h => ?_)
        refine q_aload_n C dX11_mill_81 rfl 0 rfl ?_
        refine q_iload_n C dX11_mill_82 rfl 3 rfl ?_
        refine q_putI (j := 3) (ty := .int) C dX11_mill_83 (wE_41 _ _) (wP_41_3 _ _ _) rfl (by decide) (Nat.le_of_ble_eq_true rfl) tyX11 tyX11_ok nmX11 inn_X11_mill_11 (by decide +kernel) rfl rfl (by decide +kernel) rfl rfl h (fun T_11 h => ?_)
        refine q_aload_n C dX11_mill_86 rfl 0 rfl ?_
        refine q_iconst (v := 0) C dX11_mill_87 (by decide) ?_
        refine q_putI (j := 4) (ty := .int) C dX11_mill_88 (wE_41 _ _) (wP_41_4 _ _ _) rfl (by decide) (Nat.le_of_ble_eq_true rfl) tyX11 tyX11_ok nmX11 inn_X11_mill_11 (by decide +kernel) rfl rfl (by decide +kernel) rfl rfl h (fun T_12 h => ?_)
        refine q_aload_n C dX11_mill_91 rfl 0 rfl ?_
        refine q_iconst (v := 0) C dX11_mill_92 (by decide) ?_
        refine q_putI (j := 5) (ty := .int) C dX11_mill_93 (wE_41 _ _) (wP_41_5 _ _ _) rfl (by decide) (Nat.le_of_ble_eq_true rfl) tyX11 tyX11_ok nmX11 inn_X11_mill_11 (by decide +kernel) rfl rfl (by decide +kernel) rfl rfl h (fun T_13 h => ?_)
        refine q_aload_n C dX11_mill_96 rfl 0 rfl ?_
        obtain ⟨T_14, hc, h⟩ := bv_some h
        refine q_callV (st' := []) C dX11_mill_97 [] [] (mtX11_changes l _ n _ _ hc) gX11_mill_X11_changes rfl hd_X11_changes (by decide) (by decide) (wE_41 _ _) rfl rfl rfl (Nat.le_of_ble_eq_true rfl) rfl ?_
        clear hc
        refine q_iconst (v := 1) C dX11_mill_100 (by decide) ?_
        exact q_zreturn C dX11_mill_101 h
      · refine q_iconst (v := 0) C dX11_mill_38 (by decide) ?_
        exact q_zreturn C dX11_mill_39 h
def fX11_strip (n : Nat) (p0 : Int32) (p1 : Int32) (T : TS) : Option (Int32 × TS) := nm (uI T 2050 (0 : Int32)) (fun T_1 => if p0 < 0 then rz (0 : Int32) T_1 else if p1 < p0 then rz (0 : Int32) T_1 else if p1 ≤ (gI T_1 2051) then nm (uI T_1 2054 p0) (fun T_2 => nm (uI T_2 2055 p1) (fun T_3 => rz (1 : Int32) T_3)) else rz (0 : Int32) T_1)
set_option maxHeartbeats 4000000 in
set_option maxRecDepth 100000 in
theorem mtX11_strip (l : Launch) (X : XT) (n : Nat) (p0 : Int32) (p1 : Int32) (T T' : TS) (r : Int32) (h : fX11_strip n p0 p1 T = some (r, T')) : Met l yX11_strip wsX11_strip (RM 0) (PreX X [.ref (ad X 41), .int p0, .int p1] T) (QQ X (some (.int r)) T') 0 0 (xA X) := by
  refine q_start (by decide) rfl (Nat.le_of_ble_eq_true rfl) ?_
  intro k hk C
  subst hk
  show GW k T 0 [(0, .ref (ad k.1 41)), (1, .int p0), (2, .int p1)] []
  unfold fX11_strip at h
  refine q_aload_n C dX11_strip_0 rfl 0 rfl ?_
  refine q_iconst (v := 0) C dX11_strip_1 (by decide) ?_
  refine q_putI (j := 0) (ty := .int) C dX11_strip_2 (wE_41 _ _) (wP_41_0 _ _ _) rfl (by decide) (Nat.le_of_ble_eq_true rfl) tyX11 tyX11_ok nmX11 inn_X11_strip_11 (by decide +kernel) rfl rfl (by decide +kernel) rfl rfl h (fun T_1 h => ?_)
  refine q_iload_n C dX11_strip_5 rfl 1 rfl ?_
  refine q_if_lt (tgt := 22) C dX11_strip_6 (by decide) h (fun c h => ?_) (fun c h => ?_)
  · refine q_iconst (v := 0) C dX11_strip_22 (by decide) ?_
    exact q_zreturn C dX11_strip_23 h
  · refine q_iload_n C dX11_strip_9 rfl 1 rfl ?_
    refine q_iload_n C dX11_strip_10 rfl 2 rfl ?_
    refine q_icmp_gt (tgt := 22) C dX11_strip_11 (by decide) h (fun c h => ?_) (fun c h => ?_)
    · refine q_iconst (v := 0) C dX11_strip_22 (by decide) ?_
      exact q_zreturn C dX11_strip_23 h
    · refine q_iload_n C dX11_strip_14 rfl 2 rfl ?_
      refine q_aload_n C dX11_strip_15 rfl 0 rfl ?_
      refine q_get (j := 1) C dX11_strip_16 (wE_41 _ _) rfl (by decide) rfl inn_X11_strip_11 (by decide +kernel) rfl ?_
      refine q_icmp_le (tgt := 24) C dX11_strip_19 (by decide) h (fun c h => ?_) (fun c h => ?_)
      · refine q_aload_n C dX11_strip_24 rfl 0 rfl ?_
        refine q_iload_n C dX11_strip_25 rfl 1 rfl ?_
        refine q_putI (j := 4) (ty := .int) C dX11_strip_26 (wE_41 _ _) (wP_41_4 _ _ _) rfl (by decide) (Nat.le_of_ble_eq_true rfl) tyX11 tyX11_ok nmX11 inn_X11_strip_11 (by decide +kernel) rfl rfl (by decide +kernel) rfl rfl h (fun T_2 h => ?_)
        refine q_aload_n C dX11_strip_29 rfl 0 rfl ?_
        refine q_iload_n C dX11_strip_30 rfl 2 rfl ?_
        refine q_putI (j := 5) (ty := .int) C dX11_strip_31 (wE_41 _ _) (wP_41_5 _ _ _) rfl (by decide) (Nat.le_of_ble_eq_true rfl) tyX11 tyX11_ok nmX11 inn_X11_strip_11 (by decide +kernel) rfl rfl (by decide +kernel) rfl rfl h (fun T_3 h => ?_)
        refine q_iconst (v := 1) C dX11_strip_34 (by decide) ?_
        exact q_zreturn C dX11_strip_35 h
      · refine q_iconst (v := 0) C dX11_strip_22 (by decide) ?_
        exact q_zreturn C dX11_strip_23 h
def fX11_width_L40 (n : Nat) (y1 : Int32) (y2 : Int32) (kk : TS → Option (Int32 × TS)) : Nat → Int32 → TS → Option (Int32 × TS)
  | 0, _, _ => none
  | fuel + 1, x3, T => if (gI T 2056) ≤ x3 then kk T else ck x3 6 (if ¬ (gA T 42 (Int32.toNatClampNeg x3)) = y1 then fX11_width_L40 n y1 y2 kk fuel (x3 + 1) T else some ((-1 : Int32), T))
set_option maxHeartbeats 4000000 in
set_option maxRecDepth 100000 in
theorem lpX11_width_L40 {l : Launch} {k : KT} {n : Nat} {y1 : Int32} {y2 : Int32} {kk : TS → Option (Int32 × TS)} {r : Int32} {T' : TS} (C : CX l k 4 cX11_width RX11 wsX11_width 1 (some .int) (some (.int r), T')) (hk : ∀ T1, kk T1 = some (r, T') → GW k T1 66 [(0, .ref (ad k.1 41)), (1, .int y1), (2, .int y2)] []) : ∀ (fuel : Nat) (x3 : Int32) (T : TS), fX11_width_L40 n y1 y2 kk fuel x3 T = some (r, T') → GW k T 40 [(0, .ref (ad k.1 41)), (1, .int y1), (2, .int y2), (3, .int x3)] [] := by
  intro fuel
  induction fuel with
  | zero => intro x3 T h; cases h
  | succ fuel ih =>
    intro x3 T h
    rw [fX11_width_L40] at h
    refine q_iload_n C dX11_width_40 rfl 3 rfl ?_
    refine q_aload_n C dX11_width_41 rfl 0 rfl ?_
    refine q_get (j := 6) C dX11_width_42 (wE_41 _ _) rfl (by decide) rfl inn_X11_width_11 (by decide +kernel) rfl ?_
    refine q_icmp_ge (tgt := 66) C dX11_width_45 (by decide) h (fun c h => ?_) (fun c h => ?_)
    · refine q_sub [0, 1, 2] rfl ?_
      exact hk _ h
    · refine q_aload_n C dX11_width_48 rfl 0 rfl ?_
      refine q_get (j := 7) C dX11_width_49 (wE_41 _ _) rfl (by decide) rfl inn_X11_width_11 (by decide +kernel) rfl ?_
      refine q_iload_n C dX11_width_52 rfl 3 rfl ?_
      refine q_iald C dX11_width_53 (wE_42 _ _) h (fun h => ?_)
      refine q_iload_n C dX11_width_54 rfl 1 rfl ?_
      refine q_icmp_ne (tgt := 60) C dX11_width_55 (by decide) h (fun c h => ?_) (fun c h => ?_)
      · refine q_iinc (j := 3) (v := 1) (lv' := [(0, .ref (ad k.1 41)), (1, .int y1), (2, .int y2), (3, .int (x3 + 1))]) C dX11_width_60 rfl (by decide) (by decide) rfl ?_
        refine q_goto (tgt := 40) C dX11_width_63 (by decide) ?_
        refine q_sub [0, 1, 2, 3] rfl ?_
        exact ih _ _ h
      · refine q_iconst (v := -1) C dX11_width_58 (by decide) ?_
        exact q_ireturn C dX11_width_59 h
def fX11_width (n : Nat) (p0 : Int32) (p1 : Int32) (T : TS) : Option (Int32 × TS) := nm (uI T 2050 (0 : Int32)) (fun T_1 => bd (fX11_in n p0 (1 : Int32) (gI T_1 2051) T_1) (fun r_3 T_2 => if r_3 = 0 then some ((-1 : Int32), T_2) else bd (fX11_in n p1 (0 : Int32) (40 : Int32) T_2) (fun r_5 T_4 => if r_5 = 0 then some ((-1 : Int32), T_4) else if ¬ (gI T_4 2056) = (6 : Int32) then fX11_width_L40 n p0 p1 (fun T_6 => ck (gI T_6 2056) 6 (nm (sA T_6 42 (gI T_6 2056) p0) (fun T_7 => ck (gI T_7 2056) 6 (nm (sA T_7 43 (gI T_7 2056) p1) (fun T_8 => nm (uI T_8 2056 ((gI T_8 2056) + (1 : Int32))) (fun T_9 => bv (fX11_changes n T_9) (fun T_10 => some (((gI T_10 2056) - (1 : Int32)), T_10)))))))) n (0 : Int32) T_4 else some ((-1 : Int32), T_4))))
set_option maxHeartbeats 4000000 in
set_option maxRecDepth 100000 in
theorem mtX11_width (l : Launch) (X : XT) (n : Nat) (p0 : Int32) (p1 : Int32) (T T' : TS) (r : Int32) (h : fX11_width n p0 p1 T = some (r, T')) : Met l yX11_width wsX11_width (RM 1) (PreX X [.ref (ad X 41), .int p0, .int p1] T) (QQ X (some (.int r)) T') 0 0 (xA X) := by
  refine q_start (by decide) rfl (Nat.le_of_ble_eq_true rfl) ?_
  intro k hk C
  subst hk
  show GW k T 0 [(0, .ref (ad k.1 41)), (1, .int p0), (2, .int p1)] []
  unfold fX11_width at h
  refine q_aload_n C dX11_width_0 rfl 0 rfl ?_
  refine q_iconst (v := 0) C dX11_width_1 (by decide) ?_
  refine q_putI (j := 0) (ty := .int) C dX11_width_2 (wE_41 _ _) (wP_41_0 _ _ _) rfl (by decide) (Nat.le_of_ble_eq_true rfl) tyX11 tyX11_ok nmX11 inn_X11_width_11 (by decide +kernel) rfl rfl (by decide +kernel) rfl rfl h (fun T_1 h => ?_)
  refine q_iload_n C dX11_width_5 rfl 1 rfl ?_
  refine q_iconst (v := 1) C dX11_width_6 (by decide) ?_
  refine q_aload_n C dX11_width_7 rfl 0 rfl ?_
  refine q_get (j := 1) C dX11_width_8 (wE_41 _ _) rfl (by decide) rfl inn_X11_width_11 (by decide +kernel) rfl ?_
  obtain ⟨r_3, T_2, hc, h⟩ := bd_some h
  refine q_callS (st' := [.int r_3]) C dX11_width_11 [.int p0, .int (1 : Int32), .int (gI T_1 2051)] [] (mtX11_in l _ n _ _ _ _ _ _ hc) gX11_width_X11_in rfl hd_X11_in (by decide) (by decide) rfl rfl (Nat.le_of_ble_eq_true rfl) rfl ?_
  clear hc
  refine q_if_eq (tgt := 36) C dX11_width_14 (by decide) h (fun c h => ?_) (fun c h => ?_)
  · refine q_iconst (v := -1) C dX11_width_36 (by decide) ?_
    exact q_ireturn C dX11_width_37 h
  · refine q_iload_n C dX11_width_17 rfl 2 rfl ?_
    refine q_iconst (v := 0) C dX11_width_18 (by decide) ?_
    refine q_bipush (v := 40) C dX11_width_19 (by decide) ?_
    obtain ⟨r_5, T_4, hc, h⟩ := bd_some h
    refine q_callS (st' := [.int r_5]) C dX11_width_21 [.int p1, .int (0 : Int32), .int (40 : Int32)] [] (mtX11_in l _ n _ _ _ _ _ _ hc) gX11_width_X11_in rfl hd_X11_in (by decide) (by decide) rfl rfl (Nat.le_of_ble_eq_true rfl) rfl ?_
    clear hc
    refine q_if_eq (tgt := 36) C dX11_width_24 (by decide) h (fun c h => ?_) (fun c h => ?_)
    · refine q_iconst (v := -1) C dX11_width_36 (by decide) ?_
      exact q_ireturn C dX11_width_37 h
    · refine q_aload_n C dX11_width_27 rfl 0 rfl ?_
      refine q_get (j := 6) C dX11_width_28 (wE_41 _ _) rfl (by decide) rfl inn_X11_width_11 (by decide +kernel) rfl ?_
      refine q_bipush (v := 6) C dX11_width_31 (by decide) ?_
      refine q_icmp_ne (tgt := 38) C dX11_width_33 (by decide) h (fun c h => ?_) (fun c h => ?_)
      · refine q_iconst (v := 0) C dX11_width_38 (by decide) ?_
        refine q_istore_n (lv' := [(0, .ref (ad k.1 41)), (1, .int p0), (2, .int p1), (3, .int (0 : Int32))]) C dX11_width_39 rfl (by decide) rfl ?_
        refine q_sub [0, 1, 2, 3] rfl ?_
        refine lpX11_width_L40 C (fun T_6 h => ?_) _ _ _ h
        refine q_aload_n C dX11_width_66 rfl 0 rfl ?_
        refine q_get (j := 7) C dX11_width_67 (wE_41 _ _) rfl (by decide) rfl inn_X11_width_11 (by decide +kernel) rfl ?_
        refine q_aload_n C dX11_width_70 rfl 0 rfl ?_
        refine q_get (j := 6) C dX11_width_71 (wE_41 _ _) rfl (by decide) rfl inn_X11_width_11 (by decide +kernel) rfl ?_
        refine q_iload_n C dX11_width_74 rfl 1 rfl ?_
        refine q_iast C dX11_width_75 (wE_42 _ _) (wS_42 _ _) h (fun T_7 h => ?_)
        refine q_aload_n C dX11_width_76 rfl 0 rfl ?_
        refine q_get (j := 8) C dX11_width_77 (wE_41 _ _) rfl (by decide) rfl inn_X11_width_11 (by decide +kernel) rfl ?_
        refine q_aload_n C dX11_width_80 rfl 0 rfl ?_
        refine q_get (j := 6) C dX11_width_81 (wE_41 _ _) rfl (by decide) rfl inn_X11_width_11 (by decide +kernel) rfl ?_
        refine q_iload_n C dX11_width_84 rfl 2 rfl ?_
        refine q_iast C dX11_width_85 (wE_43 _ _) (wS_43 _ _) h (fun T_8 h => ?_)
        refine q_aload_n C dX11_width_86 rfl 0 rfl ?_
        refine q_dup C dX11_width_87 rfl ?_
        refine q_get (j := 6) C dX11_width_88 (wE_41 _ _) rfl (by decide) rfl inn_X11_width_11 (by decide +kernel) rfl ?_
        refine q_iconst (v := 1) C dX11_width_91 (by decide) ?_
        refine q_iadd C dX11_width_92 ?_
        refine q_putI (j := 6) (ty := .int) C dX11_width_93 (wE_41 _ _) (wP_41_6 _ _ _) rfl (by decide) (Nat.le_of_ble_eq_true rfl) tyX11 tyX11_ok nmX11 inn_X11_width_11 (by decide +kernel) rfl rfl (by decide +kernel) rfl rfl h (fun T_9 h => ?_)
        refine q_aload_n C dX11_width_96 rfl 0 rfl ?_
        obtain ⟨T_10, hc, h⟩ := bv_some h
        refine q_callV (st' := []) C dX11_width_97 [] [] (mtX11_changes l _ n _ _ hc) gX11_width_X11_changes rfl hd_X11_changes (by decide) (by decide) (wE_41 _ _) rfl rfl rfl (Nat.le_of_ble_eq_true rfl) rfl ?_
        clear hc
        refine q_aload_n C dX11_width_100 rfl 0 rfl ?_
        refine q_get (j := 6) C dX11_width_101 (wE_41 _ _) rfl (by decide) rfl inn_X11_width_11 (by decide +kernel) rfl ?_
        refine q_iconst (v := 1) C dX11_width_104 (by decide) ?_
        refine q_isub C dX11_width_105 ?_
        exact q_ireturn C dX11_width_106 h
      · refine q_iconst (v := -1) C dX11_width_36 (by decide) ?_
        exact q_ireturn C dX11_width_37 h
def fX11_isWidth (n : Nat) (p0 : Int32) (T : TS) : Option (Int32 × TS) := bd (fX11_in n p0 (0 : Int32) ((gI T 2056) - (1 : Int32)) T) (fun r_2 T_1 => rz r_2 T_1)
set_option maxHeartbeats 4000000 in
set_option maxRecDepth 100000 in
theorem mtX11_isWidth (l : Launch) (X : XT) (n : Nat) (p0 : Int32) (T T' : TS) (r : Int32) (h : fX11_isWidth n p0 T = some (r, T')) : Met l yX11_isWidth wsX11_isWidth (RM 1) (PreX X [.ref (ad X 41), .int p0] T) (QQ X (some (.int r)) T') 0 0 (xA X) := by
  refine q_start (by decide) rfl (Nat.le_of_ble_eq_true rfl) ?_
  intro k hk C
  subst hk
  show GW k T 0 [(0, .ref (ad k.1 41)), (1, .int p0)] []
  unfold fX11_isWidth at h
  refine q_iload_n C dX11_isWidth_0 rfl 1 rfl ?_
  refine q_iconst (v := 0) C dX11_isWidth_1 (by decide) ?_
  refine q_aload_n C dX11_isWidth_2 rfl 0 rfl ?_
  refine q_get (j := 6) C dX11_isWidth_3 (wE_41 _ _) rfl (by decide) rfl inn_X11_isWidth_11 (by decide +kernel) rfl ?_
  refine q_iconst (v := 1) C dX11_isWidth_6 (by decide) ?_
  refine q_isub C dX11_isWidth_7 ?_
  obtain ⟨r_2, T_1, hc, h⟩ := bd_some h
  refine q_callS (st' := [.int r_2]) C dX11_isWidth_8 [.int p0, .int (0 : Int32), .int ((gI T 2056) - (1 : Int32))] [] (mtX11_in l _ n _ _ _ _ _ _ hc) gX11_isWidth_X11_in rfl hd_X11_in (by decide) (by decide) rfl rfl (Nat.le_of_ble_eq_true rfl) rfl ?_
  clear hc
  exact q_zreturn C dX11_isWidth_11 h
def fX11_order (n : Nat) (p0 : Int32) (p1 : Int32) (T : TS) : Option (Int32 × TS) := nm (uI T 2050 (0 : Int32)) (fun T_1 => bd (fX11_isWidth n p0 T_1) (fun r_3 T_2 => if r_3 = 0 then rz (0 : Int32) T_2 else bd (fX11_in n p1 (0 : Int32) (40 : Int32) T_2) (fun r_5 T_4 => if ¬ r_5 = 0 then ck p0 6 (nm (sA T_4 43 p0 p1) (fun T_6 => rz (1 : Int32) T_6)) else rz (0 : Int32) T_4)))
set_option maxHeartbeats 4000000 in
set_option maxRecDepth 100000 in
theorem mtX11_order (l : Launch) (X : XT) (n : Nat) (p0 : Int32) (p1 : Int32) (T T' : TS) (r : Int32) (h : fX11_order n p0 p1 T = some (r, T')) : Met l yX11_order wsX11_order (RM 2) (PreX X [.ref (ad X 41), .int p0, .int p1] T) (QQ X (some (.int r)) T') 0 0 (xA X) := by
  refine q_start (by decide) rfl (Nat.le_of_ble_eq_true rfl) ?_
  intro k hk C
  subst hk
  show GW k T 0 [(0, .ref (ad k.1 41)), (1, .int p0), (2, .int p1)] []
  unfold fX11_order at h
  refine q_aload_n C dX11_order_0 rfl 0 rfl ?_
  refine q_iconst (v := 0) C dX11_order_1 (by decide) ?_
  refine q_putI (j := 0) (ty := .int) C dX11_order_2 (wE_41 _ _) (wP_41_0 _ _ _) rfl (by decide) (Nat.le_of_ble_eq_true rfl) tyX11 tyX11_ok nmX11 inn_X11_order_11 (by decide +kernel) rfl rfl (by decide +kernel) rfl rfl h (fun T_1 h => ?_)
  refine q_aload_n C dX11_order_5 rfl 0 rfl ?_
  refine q_iload_n C dX11_order_6 rfl 1 rfl ?_
  obtain ⟨r_3, T_2, hc, h⟩ := bd_some h
  refine q_callV (st' := [.int r_3]) C dX11_order_7 [.int p0] [] (mtX11_isWidth l _ n _ _ _ _ hc) gX11_order_X11_isWidth rfl hd_X11_isWidth (by decide) (by decide) (wE_41 _ _) rfl rfl rfl (Nat.le_of_ble_eq_true rfl) rfl ?_
  clear hc
  refine q_if_eq (tgt := 23) C dX11_order_10 (by decide) h (fun c h => ?_) (fun c h => ?_)
  · refine q_iconst (v := 0) C dX11_order_23 (by decide) ?_
    exact q_zreturn C dX11_order_24 h
  · refine q_iload_n C dX11_order_13 rfl 2 rfl ?_
    refine q_iconst (v := 0) C dX11_order_14 (by decide) ?_
    refine q_bipush (v := 40) C dX11_order_15 (by decide) ?_
    obtain ⟨r_5, T_4, hc, h⟩ := bd_some h
    refine q_callS (st' := [.int r_5]) C dX11_order_17 [.int p1, .int (0 : Int32), .int (40 : Int32)] [] (mtX11_in l _ n _ _ _ _ _ _ hc) gX11_order_X11_in rfl hd_X11_in (by decide) (by decide) rfl rfl (Nat.le_of_ble_eq_true rfl) rfl ?_
    clear hc
    refine q_if_ne (tgt := 25) C dX11_order_20 (by decide) h (fun c h => ?_) (fun c h => ?_)
    · refine q_aload_n C dX11_order_25 rfl 0 rfl ?_
      refine q_get (j := 8) C dX11_order_26 (wE_41 _ _) rfl (by decide) rfl inn_X11_order_11 (by decide +kernel) rfl ?_
      refine q_iload_n C dX11_order_29 rfl 1 rfl ?_
      refine q_iload_n C dX11_order_30 rfl 2 rfl ?_
      refine q_iast C dX11_order_31 (wE_43 _ _) (wS_43 _ _) h (fun T_6 h => ?_)
      refine q_iconst (v := 1) C dX11_order_32 (by decide) ?_
      exact q_zreturn C dX11_order_33 h
    · refine q_iconst (v := 0) C dX11_order_23 (by decide) ?_
      exact q_zreturn C dX11_order_24 h
def fX11_length_L20 (n : Nat) (y1 : Int32) (kk : TS → Option (Int32 × TS)) : Nat → Int32 → TS → Option (Int32 × TS)
  | 0, _, _ => none
  | fuel + 1, x2, T => if (gI T 2056) ≤ x2 then kk T else ck x2 6 (if (gA T 44 (Int32.toNatClampNeg x2)) ≤ 0 then fX11_length_L20 n y1 kk fuel (x2 + 1) T else rz (0 : Int32) T)
set_option maxHeartbeats 4000000 in
set_option maxRecDepth 100000 in
theorem lpX11_length_L20 {l : Launch} {k : KT} {n : Nat} {y1 : Int32} {kk : TS → Option (Int32 × TS)} {r : Int32} {T' : TS} (C : CX l k 3 cX11_length RX11 wsX11_length 1 (some .boolean) (some (.int r), T')) (hk : ∀ T1, kk T1 = some (r, T') → GW k T1 45 [(0, .ref (ad k.1 41)), (1, .int y1)] []) : ∀ (fuel : Nat) (x2 : Int32) (T : TS), fX11_length_L20 n y1 kk fuel x2 T = some (r, T') → GW k T 20 [(0, .ref (ad k.1 41)), (1, .int y1), (2, .int x2)] [] := by
  intro fuel
  induction fuel with
  | zero => intro x2 T h; cases h
  | succ fuel ih =>
    intro x2 T h
    rw [fX11_length_L20] at h
    refine q_iload_n C dX11_length_20 rfl 2 rfl ?_
    refine q_aload_n C dX11_length_21 rfl 0 rfl ?_
    refine q_get (j := 6) C dX11_length_22 (wE_41 _ _) rfl (by decide) rfl inn_X11_length_11 (by decide +kernel) rfl ?_
    refine q_icmp_ge (tgt := 45) C dX11_length_25 (by decide) h (fun c h => ?_) (fun c h => ?_)
    · refine q_sub [0, 1] rfl ?_
      exact hk _ h
    · refine q_aload_n C dX11_length_28 rfl 0 rfl ?_
      refine q_get (j := 9) C dX11_length_29 (wE_41 _ _) rfl (by decide) rfl inn_X11_length_11 (by decide +kernel) rfl ?_
      refine q_iload_n C dX11_length_32 rfl 2 rfl ?_
      refine q_iald C dX11_length_33 (wE_44 _ _) h (fun h => ?_)
      refine q_if_le (tgt := 39) C dX11_length_34 (by decide) h (fun c h => ?_) (fun c h => ?_)
      · refine q_iinc (j := 2) (v := 1) (lv' := [(0, .ref (ad k.1 41)), (1, .int y1), (2, .int (x2 + 1))]) C dX11_length_39 rfl (by decide) (by decide) rfl ?_
        refine q_goto (tgt := 20) C dX11_length_42 (by decide) ?_
        refine q_sub [0, 1, 2] rfl ?_
        exact ih _ _ h
      · refine q_iconst (v := 0) C dX11_length_37 (by decide) ?_
        exact q_zreturn C dX11_length_38 h
def fX11_length (n : Nat) (p0 : Int32) (T : TS) : Option (Int32 × TS) := nm (uI T 2050 (0 : Int32)) (fun T_1 => bd (fX11_in n p0 (1 : Int32) (10000 : Int32) T_1) (fun r_3 T_2 => if ¬ r_3 = 0 then fX11_length_L20 n p0 (fun T_4 => nm (uI T_4 2062 p0) (fun T_5 => rz (1 : Int32) T_5)) n (0 : Int32) T_2 else rz (0 : Int32) T_2))
set_option maxHeartbeats 4000000 in
set_option maxRecDepth 100000 in
theorem mtX11_length (l : Launch) (X : XT) (n : Nat) (p0 : Int32) (T T' : TS) (r : Int32) (h : fX11_length n p0 T = some (r, T')) : Met l yX11_length wsX11_length (RM 1) (PreX X [.ref (ad X 41), .int p0] T) (QQ X (some (.int r)) T') 0 0 (xA X) := by
  refine q_start (by decide) rfl (Nat.le_of_ble_eq_true rfl) ?_
  intro k hk C
  subst hk
  show GW k T 0 [(0, .ref (ad k.1 41)), (1, .int p0)] []
  unfold fX11_length at h
  refine q_aload_n C dX11_length_0 rfl 0 rfl ?_
  refine q_iconst (v := 0) C dX11_length_1 (by decide) ?_
  refine q_putI (j := 0) (ty := .int) C dX11_length_2 (wE_41 _ _) (wP_41_0 _ _ _) rfl (by decide) (Nat.le_of_ble_eq_true rfl) tyX11 tyX11_ok nmX11 inn_X11_length_11 (by decide +kernel) rfl rfl (by decide +kernel) rfl rfl h (fun T_1 h => ?_)
  refine q_iload_n C dX11_length_5 rfl 1 rfl ?_
  refine q_iconst (v := 1) C dX11_length_6 (by decide) ?_
  refine q_sipush (v := 10000) C dX11_length_7 (by decide) ?_
  obtain ⟨r_3, T_2, hc, h⟩ := bd_some h
  refine q_callS (st' := [.int r_3]) C dX11_length_10 [.int p0, .int (1 : Int32), .int (10000 : Int32)] [] (mtX11_in l _ n _ _ _ _ _ _ hc) gX11_length_X11_in rfl hd_X11_in (by decide) (by decide) rfl rfl (Nat.le_of_ble_eq_true rfl) rfl ?_
  clear hc
  refine q_if_ne (tgt := 18) C dX11_length_13 (by decide) h (fun c h => ?_) (fun c h => ?_)
  · refine q_iconst (v := 0) C dX11_length_18 (by decide) ?_
    refine q_istore_n (lv' := [(0, .ref (ad k.1 41)), (1, .int p0), (2, .int (0 : Int32))]) C dX11_length_19 rfl (by decide) rfl ?_
    refine q_sub [0, 1, 2] rfl ?_
    refine lpX11_length_L20 C (fun T_4 h => ?_) _ _ _ h
    refine q_aload_n C dX11_length_45 rfl 0 rfl ?_
    refine q_iload_n C dX11_length_46 rfl 1 rfl ?_
    refine q_putI (j := 12) (ty := .int) C dX11_length_47 (wE_41 _ _) (wP_41_12 _ _ _) rfl (by decide) (Nat.le_of_ble_eq_true rfl) tyX11 tyX11_ok nmX11 inn_X11_length_11 (by decide +kernel) rfl rfl (by decide +kernel) rfl rfl h (fun T_5 h => ?_)
    refine q_iconst (v := 1) C dX11_length_50 (by decide) ?_
    exact q_zreturn C dX11_length_51 h
  · refine q_iconst (v := 0) C dX11_length_16 (by decide) ?_
    exact q_zreturn C dX11_length_17 h
def fX11_wanted (n : Nat) (p0 : Int32) (T : TS) : Option (Int32 × TS) := ck p0 6 (ck p0 6 (some ((imax (0 : Int32) ((gA T 43 (Int32.toNatClampNeg p0)) - (gA T 44 (Int32.toNatClampNeg p0)))), T)))
set_option maxHeartbeats 4000000 in
set_option maxRecDepth 100000 in
theorem mtX11_wanted (l : Launch) (X : XT) (n : Nat) (p0 : Int32) (T T' : TS) (r : Int32) (h : fX11_wanted n p0 T = some (r, T')) : Met l yX11_wanted wsX11_wanted (RM 1) (PreX X [.ref (ad X 41), .int p0] T) (QQ X (some (.int r)) T') 0 0 (xA X) := by
  refine q_start (by decide) rfl (Nat.le_of_ble_eq_true rfl) ?_
  intro k hk C
  subst hk
  show GW k T 0 [(0, .ref (ad k.1 41)), (1, .int p0)] []
  unfold fX11_wanted at h
  refine q_iconst (v := 0) C dX11_wanted_0 (by decide) ?_
  refine q_aload_n C dX11_wanted_1 rfl 0 rfl ?_
  refine q_get (j := 8) C dX11_wanted_2 (wE_41 _ _) rfl (by decide) rfl inn_X11_wanted_11 (by decide +kernel) rfl ?_
  refine q_iload_n C dX11_wanted_5 rfl 1 rfl ?_
  refine q_iald C dX11_wanted_6 (wE_43 _ _) h (fun h => ?_)
  refine q_aload_n C dX11_wanted_7 rfl 0 rfl ?_
  refine q_get (j := 9) C dX11_wanted_8 (wE_41 _ _) rfl (by decide) rfl inn_X11_wanted_11 (by decide +kernel) rfl ?_
  refine q_iload_n C dX11_wanted_11 rfl 1 rfl ?_
  refine q_iald C dX11_wanted_12 (wE_44 _ _) h (fun h => ?_)
  refine q_isub C dX11_wanted_13 ?_
  refine q_mmax C dX11_wanted_14 (by decide +kernel) (by decide +kernel) (by decide +kernel) (by decide +kernel) (by decide) (Nat.le_of_ble_eq_true rfl) ?_
  exact q_ireturn C dX11_wanted_17 h
def fX11_planned_L4 (n : Nat) (y1 : Int32) (kk : Int32 → TS → Option (Int32 × TS)) : Nat → Int32 → Int32 → TS → Option (Int32 × TS)
  | 0, _, _, _ => none
  | fuel + 1, x2, x3, T => if (gI T 2067) ≤ x3 then kk x2 T else ck x3 60 (ak (gO T 48 (Int32.toNatClampNeg x3)) (ck y1 (al (gO T 48 (Int32.toNatClampNeg x3))) (ck x3 60 (nm (x2 + ((gA T (gO T 48 (Int32.toNatClampNeg x3)) (Int32.toNatClampNeg y1)) * (gA T 49 (Int32.toNatClampNeg x3)))) (fun x2_1 => fX11_planned_L4 n y1 kk fuel x2_1 (x3 + 1) T)))))
set_option maxHeartbeats 4000000 in
set_option maxRecDepth 100000 in
theorem lpX11_planned_L4 {l : Launch} {k : KT} {n : Nat} {y1 : Int32} {kk : Int32 → TS → Option (Int32 × TS)} {r : Int32} {T' : TS} (C : CX l k 4 cX11_planned RX11 wsX11_planned 0 (some .int) (some (.int r), T')) (hk : ∀ e2 T1, kk e2 T1 = some (r, T') → GW k T1 36 [(2, .int e2)] []) : ∀ (fuel : Nat) (x2 : Int32) (x3 : Int32) (T : TS), fX11_planned_L4 n y1 kk fuel x2 x3 T = some (r, T') → GW k T 4 [(0, .ref (ad k.1 41)), (1, .int y1), (2, .int x2), (3, .int x3)] [] := by
  intro fuel
  induction fuel with
  | zero => intro x2 x3 T h; cases h
  | succ fuel ih =>
    intro x2 x3 T h
    rw [fX11_planned_L4] at h
    refine q_iload_n C dX11_planned_4 rfl 3 rfl ?_
    refine q_aload_n C dX11_planned_5 rfl 0 rfl ?_
    refine q_get (j := 17) C dX11_planned_6 (wE_41 _ _) rfl (by decide) rfl inn_X11_planned_11 (by decide +kernel) rfl ?_
    refine q_icmp_ge (tgt := 36) C dX11_planned_9 (by decide) h (fun c h => ?_) (fun c h => ?_)
    · refine q_sub [2] rfl ?_
      exact hk _ _ h
    · refine q_iload_n C dX11_planned_12 rfl 2 rfl ?_
      refine q_aload_n C dX11_planned_13 rfl 0 rfl ?_
      refine q_get (j := 18) C dX11_planned_14 (wE_41 _ _) rfl (by decide) rfl inn_X11_planned_11 (by decide +kernel) rfl ?_
      refine q_iload_n C dX11_planned_17 rfl 3 rfl ?_
      refine q_aald C dX11_planned_18 (wE_48 _ _) h (fun h => ?_)
      refine q_iload_n C dX11_planned_19 rfl 1 rfl ?_
      refine q_ialdG C dX11_planned_20 h (fun h => ?_)
      refine q_aload_n C dX11_planned_21 rfl 0 rfl ?_
      refine q_get (j := 19) C dX11_planned_22 (wE_41 _ _) rfl (by decide) rfl inn_X11_planned_11 (by decide +kernel) rfl ?_
      refine q_iload_n C dX11_planned_25 rfl 3 rfl ?_
      refine q_iald C dX11_planned_26 (wE_49 _ _) h (fun h => ?_)
      refine q_imul C dX11_planned_27 ?_
      refine q_iadd C dX11_planned_28 ?_
      refine q_nm h (fun x2_1 h => ?_)
      refine q_istore_n (lv' := [(0, .ref (ad k.1 41)), (1, .int y1), (2, .int x2_1), (3, .int x3)]) C dX11_planned_29 rfl (by decide) rfl ?_
      refine q_iinc (j := 3) (v := 1) (lv' := [(0, .ref (ad k.1 41)), (1, .int y1), (2, .int x2_1), (3, .int (x3 + 1))]) C dX11_planned_30 rfl (by decide) (by decide) rfl ?_
      refine q_goto (tgt := 4) C dX11_planned_33 (by decide) ?_
      refine q_sub [0, 1, 2, 3] rfl ?_
      exact ih _ _ _ h
def fX11_planned (n : Nat) (p0 : Int32) (T : TS) : Option (Int32 × TS) := fX11_planned_L4 n p0 (fun e2_2 T_3 => some (e2_2, T_3)) n (0 : Int32) (0 : Int32) T
set_option maxHeartbeats 4000000 in
set_option maxRecDepth 100000 in
theorem mtX11_planned (l : Launch) (X : XT) (n : Nat) (p0 : Int32) (T T' : TS) (r : Int32) (h : fX11_planned n p0 T = some (r, T')) : Met l yX11_planned wsX11_planned (RM 0) (PreX X [.ref (ad X 41), .int p0] T) (QQ X (some (.int r)) T') 0 0 (xA X) := by
  refine q_start (by decide) rfl (Nat.le_of_ble_eq_true rfl) ?_
  intro k hk C
  subst hk
  show GW k T 0 [(0, .ref (ad k.1 41)), (1, .int p0)] []
  unfold fX11_planned at h
  refine q_iconst (v := 0) C dX11_planned_0 (by decide) ?_
  refine q_istore_n (lv' := [(0, .ref (ad k.1 41)), (1, .int p0), (2, .int (0 : Int32))]) C dX11_planned_1 rfl (by decide) rfl ?_
  refine q_iconst (v := 0) C dX11_planned_2 (by decide) ?_
  refine q_istore_n (lv' := [(0, .ref (ad k.1 41)), (1, .int p0), (2, .int (0 : Int32)), (3, .int (0 : Int32))]) C dX11_planned_3 rfl (by decide) rfl ?_
  refine q_sub [0, 1, 2, 3] rfl ?_
  refine lpX11_planned_L4 C (fun e2_2 T_3 h => ?_) _ _ _ _ h
  refine q_iload_n C dX11_planned_36 rfl 0 rfl ?_
  exact q_ireturn C dX11_planned_37 h
def fX11_about (n : Nat) (p0 : Int32) (p1 : Int32) (T : TS) : Option (Int32 × TS) := nm (uI T 2050 (0 : Int32)) (fun T_1 => bd (fX11_isWidth n p0 T_1) (fun r_3 T_2 => if ¬ r_3 = 0 then if p1 = 0 then ck p0 6 (some ((gA T_2 42 (Int32.toNatClampNeg p0)), T_2)) else if p1 = 1 then ck p0 6 (some ((gA T_2 43 (Int32.toNatClampNeg p0)), T_2)) else if p1 = 2 then ck p0 6 (some ((gA T_2 44 (Int32.toNatClampNeg p0)), T_2)) else if p1 = 3 then bd (fX11_wanted n p0 T_2) (fun r_5 T_4 => some (r_5, T_4)) else if p1 = 4 then ck p0 6 (some ((gA T_2 45 (Int32.toNatClampNeg p0)), T_2)) else if p1 = 5 then bd (fX11_planned n p0 T_2) (fun r_7 T_6 => some (r_7, T_6)) else some ((-1 : Int32), T_2) else some ((-1 : Int32), T_2)))
set_option maxHeartbeats 4000000 in
set_option maxRecDepth 100000 in
theorem mtX11_about (l : Launch) (X : XT) (n : Nat) (p0 : Int32) (p1 : Int32) (T T' : TS) (r : Int32) (h : fX11_about n p0 p1 T = some (r, T')) : Met l yX11_about wsX11_about (RM 2) (PreX X [.ref (ad X 41), .int p0, .int p1] T) (QQ X (some (.int r)) T') 0 0 (xA X) := by
  refine q_start (by decide) rfl (Nat.le_of_ble_eq_true rfl) ?_
  intro k hk C
  subst hk
  show GW k T 0 [(0, .ref (ad k.1 41)), (1, .int p0), (2, .int p1)] []
  unfold fX11_about at h
  refine q_aload_n C dX11_about_0 rfl 0 rfl ?_
  refine q_iconst (v := 0) C dX11_about_1 (by decide) ?_
  refine q_putI (j := 0) (ty := .int) C dX11_about_2 (wE_41 _ _) (wP_41_0 _ _ _) rfl (by decide) (Nat.le_of_ble_eq_true rfl) tyX11 tyX11_ok nmX11 inn_X11_about_11 (by decide +kernel) rfl rfl (by decide +kernel) rfl rfl h (fun T_1 h => ?_)
  refine q_aload_n C dX11_about_5 rfl 0 rfl ?_
  refine q_iload_n C dX11_about_6 rfl 1 rfl ?_
  obtain ⟨r_3, T_2, hc, h⟩ := bd_some h
  refine q_callV (st' := [.int r_3]) C dX11_about_7 [.int p0] [] (mtX11_isWidth l _ n _ _ _ _ hc) gX11_about_X11_isWidth rfl hd_X11_isWidth (by decide) (by decide) (wE_41 _ _) rfl rfl rfl (Nat.le_of_ble_eq_true rfl) rfl ?_
  clear hc
  refine q_if_ne (tgt := 15) C dX11_about_10 (by decide) h (fun c h => ?_) (fun c h => ?_)
  · refine q_iload_n C dX11_about_15 rfl 2 rfl ?_
    refine q_case (v := 0) h (fun e h => ?_) (fun c0 h => ?_)
    · refine q_tswIn (tgt := 56) C dX11_about_16 e (by decide) (by decide) (by rfl) (by decide) ?_
      refine q_aload_n C dX11_about_56 rfl 0 rfl ?_
      refine q_get (j := 7) C dX11_about_57 (wE_41 _ _) rfl (by decide) rfl inn_X11_about_11 (by decide +kernel) rfl ?_
      refine q_iload_n C dX11_about_60 rfl 1 rfl ?_
      refine q_iald C dX11_about_61 (wE_42 _ _) h (fun h => ?_)
      exact q_ireturn C dX11_about_62 h
    refine q_case (v := 1) h (fun e h => ?_) (fun c1 h => ?_)
    · refine q_tswIn (tgt := 63) C dX11_about_16 e (by decide) (by decide) (by rfl) (by decide) ?_
      refine q_aload_n C dX11_about_63 rfl 0 rfl ?_
      refine q_get (j := 8) C dX11_about_64 (wE_41 _ _) rfl (by decide) rfl inn_X11_about_11 (by decide +kernel) rfl ?_
      refine q_iload_n C dX11_about_67 rfl 1 rfl ?_
      refine q_iald C dX11_about_68 (wE_43 _ _) h (fun h => ?_)
      exact q_ireturn C dX11_about_69 h
    refine q_case (v := 2) h (fun e h => ?_) (fun c2 h => ?_)
    · refine q_tswIn (tgt := 70) C dX11_about_16 e (by decide) (by decide) (by rfl) (by decide) ?_
      refine q_aload_n C dX11_about_70 rfl 0 rfl ?_
      refine q_get (j := 9) C dX11_about_71 (wE_41 _ _) rfl (by decide) rfl inn_X11_about_11 (by decide +kernel) rfl ?_
      refine q_iload_n C dX11_about_74 rfl 1 rfl ?_
      refine q_iald C dX11_about_75 (wE_44 _ _) h (fun h => ?_)
      exact q_ireturn C dX11_about_76 h
    refine q_case (v := 3) h (fun e h => ?_) (fun c3 h => ?_)
    · refine q_tswIn (tgt := 77) C dX11_about_16 e (by decide) (by decide) (by rfl) (by decide) ?_
      refine q_aload_n C dX11_about_77 rfl 0 rfl ?_
      refine q_iload_n C dX11_about_78 rfl 1 rfl ?_
      obtain ⟨r_5, T_4, hc, h⟩ := bd_some h
      refine q_callV (st' := [.int r_5]) C dX11_about_79 [.int p0] [] (mtX11_wanted l _ n _ _ _ _ hc) gX11_about_X11_wanted rfl hd_X11_wanted (by decide) (by decide) (wE_41 _ _) rfl rfl rfl (Nat.le_of_ble_eq_true rfl) rfl ?_
      clear hc
      exact q_ireturn C dX11_about_82 h
    refine q_case (v := 4) h (fun e h => ?_) (fun c4 h => ?_)
    · refine q_tswIn (tgt := 83) C dX11_about_16 e (by decide) (by decide) (by rfl) (by decide) ?_
      refine q_aload_n C dX11_about_83 rfl 0 rfl ?_
      refine q_get (j := 10) C dX11_about_84 (wE_41 _ _) rfl (by decide) rfl inn_X11_about_11 (by decide +kernel) rfl ?_
      refine q_iload_n C dX11_about_87 rfl 1 rfl ?_
      refine q_iald C dX11_about_88 (wE_45 _ _) h (fun h => ?_)
      exact q_ireturn C dX11_about_89 h
    refine q_case (v := 5) h (fun e h => ?_) (fun c5 h => ?_)
    · refine q_tswIn (tgt := 90) C dX11_about_16 e (by decide) (by decide) (by rfl) (by decide) ?_
      refine q_aload_n C dX11_about_90 rfl 0 rfl ?_
      refine q_iload_n C dX11_about_91 rfl 1 rfl ?_
      obtain ⟨r_7, T_6, hc, h⟩ := bd_some h
      refine q_callV (st' := [.int r_7]) C dX11_about_92 [.int p0] [] (mtX11_planned l _ n _ _ _ _ hc) gX11_about_X11_planned rfl hd_X11_planned (by decide) (by decide) (wE_41 _ _) rfl rfl rfl (Nat.le_of_ble_eq_true rfl) rfl ?_
      clear hc
      exact q_ireturn C dX11_about_95 h
    refine q_tswOut (tgt := 96) C dX11_about_16 (by have w0 := c0; simp only [show ((0 : Int32)).toInt = 0 from rfl] at c0; simp only [show ((1 : Int32)).toInt = 1 from rfl] at c1; simp only [show ((2 : Int32)).toInt = 2 from rfl] at c2; simp only [show ((3 : Int32)).toInt = 3 from rfl] at c3; simp only [show ((4 : Int32)).toInt = 4 from rfl] at c4; simp only [show ((5 : Int32)).toInt = 5 from rfl] at c5; omega) (by decide) ?_
    refine q_iconst (v := -1) C dX11_about_96 (by decide) ?_
    exact q_ireturn C dX11_about_97 h
  · refine q_iconst (v := -1) C dX11_about_13 (by decide) ?_
    exact q_ireturn C dX11_about_14 h
def fX11_count__L111 (n : Nat) (rc : Int32 → Int32 → Int32 → TS → Option (TS)) (y1 : Int32) (y2 : Int32) (y3 : Int32) (kk : TS → Option (TS)) : Nat → Int32 → TS → Option (TS)
  | 0, _, _ => none
  | fuel + 1, x4, T => if x4 < 0 then kk T else ck y1 6 (nm (sA T 47 y1 x4) (fun T_2 => ck y1 6 (bv (rc (y1 + (1 : Int32)) (y2 - (x4 * (gA T_2 42 (Int32.toNatClampNeg y1)))) (y3 - x4) T_2) (fun T_3 => fX11_count__L111 n rc y1 y2 y3 kk fuel (x4 + (-1)) T_3))))
set_option maxHeartbeats 4000000 in
set_option maxRecDepth 100000 in
theorem lpX11_count__L111 {l : Launch} {k : KT} {n : Nat} {rc : Int32 → Int32 → Int32 → TS → Option (TS)} {y1 : Int32} {y2 : Int32} {y3 : Int32} {kk : TS → Option (TS)} {T' : TS} {lv0 : Nat} (C : CX l k 5 cX11_count_ RX11 wsX11_count_ (lv0 + 1) none (none, T')) (hrc : ∀ p0 p1 p2 T T', rc p0 p1 p2 T = some T' → Met l yX11_count_ wsX11_count_ (RM lv0) (PreX k.1 [.ref (ad k.1 41), .int p0, .int p1, .int p2] T) (QQ k.1 none T') 0 0 (xA k.1)) (hl0 : 1 ≤ lv0) (hk : ∀ T1, kk T1 = some T' → GW k T1 152 [] []) : ∀ (fuel : Nat) (x4 : Int32) (T : TS), fX11_count__L111 n rc y1 y2 y3 kk fuel x4 T = some T' → GW k T 111 [(0, .ref (ad k.1 41)), (1, .int y1), (2, .int y2), (3, .int y3), (4, .int x4)] [] := by
  intro fuel
  induction fuel with
  | zero => intro x4 T h; cases h
  | succ fuel ih =>
    intro x4 T h
    rw [fX11_count__L111] at h
    refine q_iload C dX11_count__111 4 rfl ?_
    refine q_if_lt (tgt := 152) C dX11_count__113 (by decide) h (fun c h => ?_) (fun c h => ?_)
    · refine q_sub [] rfl ?_
      exact hk _ h
    · refine q_aload_n C dX11_count__116 rfl 0 rfl ?_
      refine q_get (j := 16) C dX11_count__117 (wE_41 _ _) rfl (by decide) rfl inn_X11_count__11 (by decide +kernel) rfl ?_
      refine q_iload_n C dX11_count__120 rfl 1 rfl ?_
      refine q_iload C dX11_count__121 4 rfl ?_
      refine q_iast C dX11_count__123 (wE_47 _ _) (wS_47 _ _) h (fun T_2 h => ?_)
      refine q_aload_n C dX11_count__124 rfl 0 rfl ?_
      refine q_iload_n C dX11_count__125 rfl 1 rfl ?_
      refine q_iconst (v := 1) C dX11_count__126 (by decide) ?_
      refine q_iadd C dX11_count__127 ?_
      refine q_iload_n C dX11_count__128 rfl 2 rfl ?_
      refine q_iload C dX11_count__129 4 rfl ?_
      refine q_aload_n C dX11_count__131 rfl 0 rfl ?_
      refine q_get (j := 7) C dX11_count__132 (wE_41 _ _) rfl (by decide) rfl inn_X11_count__11 (by decide +kernel) rfl ?_
      refine q_iload_n C dX11_count__135 rfl 1 rfl ?_
      refine q_iald C dX11_count__136 (wE_42 _ _) h (fun h => ?_)
      refine q_imul C dX11_count__137 ?_
      refine q_isub C dX11_count__138 ?_
      refine q_iload_n C dX11_count__139 rfl 3 rfl ?_
      refine q_iload C dX11_count__140 4 rfl ?_
      refine q_isub C dX11_count__142 ?_
      obtain ⟨T_3, hc, h⟩ := bv_some h
      refine q_callV (st' := []) C dX11_count__143 [.int (y1 + (1 : Int32)), .int (y2 - (x4 * (gA T_2 42 (Int32.toNatClampNeg y1)))), .int (y3 - x4)] [] (hrc _ _ _ _ _ hc) gX11_count__X11_count_ rfl hd_X11_count_ (Nat.le_refl _) (by decide) (wE_41 _ _) rfl rfl rfl (Nat.le_of_ble_eq_true rfl) rfl ?_
      clear hc
      refine q_iinc (j := 4) (v := -1) (lv' := [(0, .ref (ad k.1 41)), (1, .int y1), (2, .int y2), (3, .int y3), (4, .int (x4 + (-1)))]) C dX11_count__146 rfl (by decide) (by decide) rfl ?_
      refine q_goto (tgt := 111) C dX11_count__149 (by decide) ?_
      refine q_sub [0, 1, 2, 3, 4] rfl ?_
      exact ih _ _ h
def fX11_count__L31 (n : Nat) (rc : Int32 → Int32 → Int32 → TS → Option (TS)) (kk : TS → Option (TS)) : Nat → Int32 → TS → Option (TS)
  | 0, _, _ => none
  | fuel + 1, x4, T => if (6 : Int32) ≤ x4 then kk T else if (3000 : Int32) ≤ (gI T 2064) then kk T else ck (gI T 2064) 3000 (if (gI T 2056) ≤ x4 then ak (gO T 46 (Int32.toNatClampNeg (gI T 2064))) (ck x4 (al (gO T 46 (Int32.toNatClampNeg (gI T 2064)))) (nm (sA T (gO T 46 (Int32.toNatClampNeg (gI T 2064))) x4 (0 : Int32)) (fun T_6 => fX11_count__L31 n rc kk fuel (x4 + 1) T_6))) else ck x4 6 (ak (gO T 46 (Int32.toNatClampNeg (gI T 2064))) (ck x4 (al (gO T 46 (Int32.toNatClampNeg (gI T 2064)))) (nm (sA T (gO T 46 (Int32.toNatClampNeg (gI T 2064))) x4 (gA T 47 (Int32.toNatClampNeg x4))) (fun T_7 => fX11_count__L31 n rc kk fuel (x4 + 1) T_7)))))
set_option maxHeartbeats 4000000 in
set_option maxRecDepth 100000 in
theorem lpX11_count__L31 {l : Launch} {k : KT} {n : Nat} {rc : Int32 → Int32 → Int32 → TS → Option (TS)} {kk : TS → Option (TS)} {T' : TS} {lv0 : Nat} (C : CX l k 5 cX11_count_ RX11 wsX11_count_ (lv0 + 1) none (none, T')) (hrc : ∀ p0 p1 p2 T T', rc p0 p1 p2 T = some T' → Met l yX11_count_ wsX11_count_ (RM lv0) (PreX k.1 [.ref (ad k.1 41), .int p0, .int p1, .int p2] T) (QQ k.1 none T') 0 0 (xA k.1)) (hl0 : 1 ≤ lv0) (hk : ∀ T1, kk T1 = some T' → GW k T1 86 [(0, .ref (ad k.1 41))] []) : ∀ (fuel : Nat) (x4 : Int32) (T : TS), fX11_count__L31 n rc kk fuel x4 T = some T' → GW k T 31 [(0, .ref (ad k.1 41)), (4, .int x4)] [] := by
  intro fuel
  induction fuel with
  | zero => intro x4 T h; cases h
  | succ fuel ih =>
    intro x4 T h
    rw [fX11_count__L31] at h
    refine q_iload C dX11_count__31 1 rfl ?_
    refine q_bipush (v := 6) C dX11_count__33 (by decide) ?_
    refine q_icmp_ge (tgt := 86) C dX11_count__35 (by decide) h (fun c h => ?_) (fun c h => ?_)
    · refine q_sub [0] rfl ?_
      exact hk _ h
    · refine q_aload_n C dX11_count__38 rfl 0 rfl ?_
      refine q_get (j := 14) C dX11_count__39 (wE_41 _ _) rfl (by decide) rfl inn_X11_count__11 (by decide +kernel) rfl ?_
      refine q_sipush (v := 3000) C dX11_count__42 (by decide) ?_
      refine q_icmp_ge (tgt := 86) C dX11_count__45 (by decide) h (fun c h => ?_) (fun c h => ?_)
      · refine q_sub [0] rfl ?_
        exact hk _ h
      · refine q_aload_n C dX11_count__48 rfl 0 rfl ?_
        refine q_get (j := 15) C dX11_count__49 (wE_41 _ _) rfl (by decide) rfl inn_X11_count__11 (by decide +kernel) rfl ?_
        refine q_aload_n C dX11_count__52 rfl 0 rfl ?_
        refine q_get (j := 14) C dX11_count__53 (wE_41 _ _) rfl (by decide) rfl inn_X11_count__11 (by decide +kernel) rfl ?_
        refine q_aald C dX11_count__56 (wE_46 _ _) h (fun h => ?_)
        refine q_iload C dX11_count__57 1 rfl ?_
        refine q_iload C dX11_count__59 1 rfl ?_
        refine q_aload_n C dX11_count__61 rfl 0 rfl ?_
        refine q_get (j := 6) C dX11_count__62 (wE_41 _ _) rfl (by decide) rfl inn_X11_count__11 (by decide +kernel) rfl ?_
        refine q_icmp_ge (tgt := 78) C dX11_count__65 (by decide) h (fun c h => ?_) (fun c h => ?_)
        · refine q_iconst (v := 0) C dX11_count__78 (by decide) ?_
          refine q_iastG C dX11_count__79 h (fun T_6 h => ?_)
          refine q_iinc (j := 1) (v := 1) (lv' := [(0, .ref (ad k.1 41)), (4, .int (x4 + 1))]) C dX11_count__80 rfl (by decide) (by decide) rfl ?_
          refine q_goto (tgt := 31) C dX11_count__83 (by decide) ?_
          refine q_sub [0, 1] rfl ?_
          exact ih _ _ h
        · refine q_aload_n C dX11_count__68 rfl 0 rfl ?_
          refine q_get (j := 16) C dX11_count__69 (wE_41 _ _) rfl (by decide) rfl inn_X11_count__11 (by decide +kernel) rfl ?_
          refine q_iload C dX11_count__72 1 rfl ?_
          refine q_iald C dX11_count__74 (wE_47 _ _) h (fun h => ?_)
          refine q_goto (tgt := 79) C dX11_count__75 (by decide) ?_
          refine q_iastG C dX11_count__79 h (fun T_7 h => ?_)
          refine q_iinc (j := 1) (v := 1) (lv' := [(0, .ref (ad k.1 41)), (4, .int (x4 + 1))]) C dX11_count__80 rfl (by decide) (by decide) rfl ?_
          refine q_goto (tgt := 31) C dX11_count__83 (by decide) ?_
          refine q_sub [0, 1] rfl ?_
          exact ih _ _ h
def fX11_count__B (n : Nat) (rc : Int32 → Int32 → Int32 → TS → Option (TS)) (p0 : Int32) (p1 : Int32) (p2 : Int32) (T : TS) : Option (TS) := if (gI T 2064) ≤ (3000 : Int32) then if ¬ p0 = (gI T 2056) then ck p0 6 (nz (gA T 42 (Int32.toNatClampNeg p0)) (nm (imin p2 (p1 / (gA T 42 (Int32.toNatClampNeg p0)))) (fun x4_1 => fX11_count__L111 n rc p0 p1 p2 (fun T_5 => some T_5) n x4_1 T))) else if ¬ p2 = (gI T 2053) then fX11_count__L31 n rc (fun T_8 => nm (uI T_8 2064 ((gI T_8 2064) + (1 : Int32))) (fun T_9 => some T_9)) n (0 : Int32) T else some T else some T
set_option maxHeartbeats 4000000 in
set_option maxRecDepth 100000 in
theorem mbX11_count_ (l : Launch) (X : XT) (n : Nat) (rc : Int32 → Int32 → Int32 → TS → Option (TS)) (lv0 : Nat) (hl0 : 1 ≤ lv0) (hrc : ∀ p0 p1 p2 T T', rc p0 p1 p2 T = some T' → Met l yX11_count_ wsX11_count_ (RM lv0) (PreX X [.ref (ad X 41), .int p0, .int p1, .int p2] T) (QQ X none T') 0 0 (xA X)) (p0 : Int32) (p1 : Int32) (p2 : Int32) (T T' : TS) (h : fX11_count__B n rc p0 p1 p2 T = some T') : Met l yX11_count_ wsX11_count_ (RM (lv0 + 1)) (PreX X [.ref (ad X 41), .int p0, .int p1, .int p2] T) (QQ X none T') 0 0 (xA X) := by
  refine q_start (by decide) rfl (Nat.le_of_ble_eq_true rfl) ?_
  intro k hk C
  subst hk
  show GW k T 0 [(0, .ref (ad k.1 41)), (1, .int p0), (2, .int p1), (3, .int p2)] []
  unfold fX11_count__B at h
  refine q_aload_n C dX11_count__0 rfl 0 rfl ?_
  refine q_get (j := 14) C dX11_count__1 (wE_41 _ _) rfl (by decide) rfl inn_X11_count__11 (by decide +kernel) rfl ?_
  refine q_sipush (v := 3000) C dX11_count__4 (by decide) ?_
  refine q_icmp_le (tgt := 11) C dX11_count__7 (by decide) h (fun c h => ?_) (fun c h => ?_)
  · refine q_iload_n C dX11_count__11 rfl 1 rfl ?_
    refine q_aload_n C dX11_count__12 rfl 0 rfl ?_
    refine q_get (j := 6) C dX11_count__13 (wE_41 _ _) rfl (by decide) rfl inn_X11_count__11 (by decide +kernel) rfl ?_
    refine q_icmp_ne (tgt := 97) C dX11_count__16 (by decide) h (fun c h => ?_) (fun c h => ?_)
    · refine q_iload_n C dX11_count__97 rfl 3 rfl ?_
      refine q_iload_n C dX11_count__98 rfl 2 rfl ?_
      refine q_aload_n C dX11_count__99 rfl 0 rfl ?_
      refine q_get (j := 7) C dX11_count__100 (wE_41 _ _) rfl (by decide) rfl inn_X11_count__11 (by decide +kernel) rfl ?_
      refine q_iload_n C dX11_count__103 rfl 1 rfl ?_
      refine q_iald C dX11_count__104 (wE_42 _ _) h (fun h => ?_)
      refine q_idiv C dX11_count__105 h (fun h => ?_)
      refine q_mmin C dX11_count__106 (by decide +kernel) (by decide +kernel) (by decide +kernel) (by decide +kernel) (by omega) (Nat.le_of_ble_eq_true rfl) ?_
      refine q_nm h (fun x4_1 h => ?_)
      refine q_istore (lv' := [(0, .ref (ad k.1 41)), (1, .int p0), (2, .int p1), (3, .int p2), (4, .int x4_1)]) C dX11_count__109 (by decide) rfl ?_
      refine q_sub [0, 1, 2, 3, 4] rfl ?_
      refine lpX11_count__L111 C hrc hl0 (fun T_5 h => ?_) _ _ _ h
      exact q_vreturn C dX11_count__152 h
    · refine q_iload_n C dX11_count__19 rfl 3 rfl ?_
      refine q_aload_n C dX11_count__20 rfl 0 rfl ?_
      refine q_get (j := 3) C dX11_count__21 (wE_41 _ _) rfl (by decide) rfl inn_X11_count__11 (by decide +kernel) rfl ?_
      refine q_icmp_ne (tgt := 28) C dX11_count__24 (by decide) h (fun c h => ?_) (fun c h => ?_)
      · refine q_iconst (v := 0) C dX11_count__28 (by decide) ?_
        refine q_istore (lv' := [(0, .ref (ad k.1 41)), (1, .int p0), (2, .int p1), (3, .int p2), (4, .int (0 : Int32))]) C dX11_count__29 (by decide) rfl ?_
        refine q_sub [0, 4] rfl ?_
        refine lpX11_count__L31 C hrc hl0 (fun T_8 h => ?_) _ _ _ h
        refine q_aload_n C dX11_count__86 rfl 0 rfl ?_
        refine q_dup C dX11_count__87 rfl ?_
        refine q_get (j := 14) C dX11_count__88 (wE_41 _ _) rfl (by decide) rfl inn_X11_count__11 (by decide +kernel) rfl ?_
        refine q_iconst (v := 1) C dX11_count__91 (by decide) ?_
        refine q_iadd C dX11_count__92 ?_
        refine q_putI (j := 14) (ty := .int) C dX11_count__93 (wE_41 _ _) (wP_41_14 _ _ _) rfl (by decide) (Nat.le_of_ble_eq_true rfl) tyX11 tyX11_ok nmX11 inn_X11_count__11 (by decide +kernel) rfl rfl (by decide +kernel) rfl rfl h (fun T_9 h => ?_)
        exact q_vreturn C dX11_count__96 h
      · exact q_vreturn C dX11_count__27 h
  · exact q_vreturn C dX11_count__10 h
def fX11_count_ (n : Nat) : Nat → Int32 → Int32 → Int32 → TS → Option (TS)
  | 0, _, _, _, _ => none
  | d + 1, p0, p1, p2, T => fX11_count__B n (fX11_count_ n d) p0 p1 p2 T
set_option maxHeartbeats 4000000 in
set_option maxRecDepth 100000 in
theorem mtX11_count_ (l : Launch) (X : XT) (n : Nat) : ∀ (d : Nat) (p0 : Int32) (p1 : Int32) (p2 : Int32) (T T' : TS), fX11_count_ n d p0 p1 p2 T = some T' → Met l yX11_count_ wsX11_count_ (RM (1 + d)) (PreX X [.ref (ad X 41), .int p0, .int p1, .int p2] T) (QQ X none T') 0 0 (xA X)
  | 0, _, _, _, _, _, h => by cases h
  | d + 1, p0, p1, p2, T, T', h => mbX11_count_ l X n (fX11_count_ n d) (1 + d) (by omega) (fun _ _ _ _ _ h => mtX11_count_ l X n d _ _ _ _ _ h) p0 p1 p2 T T' h
def fX11_count (n : Nat) (T : TS) : Option (TS) := if (gI T 2063) = 0 then nm (uI T 2063 (1 : Int32)) (fun T_1 => nm (uI T_1 2064 (0 : Int32)) (fun T_2 => bv (fX11_count_ n 8 (0 : Int32) ((gI T_2 2051) - ((2 : Int32) * (gI T_2 2052))) (gI T_2 2053) T_2) (fun T_3 => some T_3))) else some T
set_option maxHeartbeats 4000000 in
set_option maxRecDepth 100000 in
theorem mtX11_count (l : Launch) (X : XT) (n : Nat) (T T' : TS) (h : fX11_count n T = some T') : Met l yX11_count wsX11_count (RM 10) (PreX X [.ref (ad X 41)] T) (QQ X none T') 0 0 (xA X) := by
  refine q_start (by decide) rfl (Nat.le_of_ble_eq_true rfl) ?_
  intro k hk C
  subst hk
  show GW k T 0 [(0, .ref (ad k.1 41))] []
  unfold fX11_count at h
  refine q_aload_n C dX11_count_0 rfl 0 rfl ?_
  refine q_get (j := 13) C dX11_count_1 (wE_41 _ _) rfl (by decide) rfl inn_X11_count_11 (by decide +kernel) rfl ?_
  refine q_if_eq (tgt := 8) C dX11_count_4 (by decide) h (fun c h => ?_) (fun c h => ?_)
  · refine q_aload_n C dX11_count_8 rfl 0 rfl ?_
    refine q_iconst (v := 1) C dX11_count_9 (by decide) ?_
    refine q_putI (j := 13) (ty := .boolean) C dX11_count_10 (wE_41 _ _) (wP_41_13 _ _ _) rfl (by decide) (Nat.le_of_ble_eq_true rfl) tyX11 tyX11_ok nmX11 inn_X11_count_11 (by decide +kernel) rfl rfl (by decide +kernel) rfl rfl h (fun T_1 h => ?_)
    refine q_aload_n C dX11_count_13 rfl 0 rfl ?_
    refine q_iconst (v := 0) C dX11_count_14 (by decide) ?_
    refine q_putI (j := 14) (ty := .int) C dX11_count_15 (wE_41 _ _) (wP_41_14 _ _ _) rfl (by decide) (Nat.le_of_ble_eq_true rfl) tyX11 tyX11_ok nmX11 inn_X11_count_11 (by decide +kernel) rfl rfl (by decide +kernel) rfl rfl h (fun T_2 h => ?_)
    refine q_aload_n C dX11_count_18 rfl 0 rfl ?_
    refine q_iconst (v := 0) C dX11_count_19 (by decide) ?_
    refine q_aload_n C dX11_count_20 rfl 0 rfl ?_
    refine q_get (j := 1) C dX11_count_21 (wE_41 _ _) rfl (by decide) rfl inn_X11_count_11 (by decide +kernel) rfl ?_
    refine q_iconst (v := 2) C dX11_count_24 (by decide) ?_
    refine q_aload_n C dX11_count_25 rfl 0 rfl ?_
    refine q_get (j := 2) C dX11_count_26 (wE_41 _ _) rfl (by decide) rfl inn_X11_count_11 (by decide +kernel) rfl ?_
    refine q_imul C dX11_count_29 ?_
    refine q_isub C dX11_count_30 ?_
    refine q_aload_n C dX11_count_31 rfl 0 rfl ?_
    refine q_get (j := 3) C dX11_count_32 (wE_41 _ _) rfl (by decide) rfl inn_X11_count_11 (by decide +kernel) rfl ?_
    obtain ⟨T_3, hc, h⟩ := bv_some h
    refine q_callV (st' := []) C dX11_count_35 [.int (0 : Int32), .int ((gI T_2 2051) - ((2 : Int32) * (gI T_2 2052))), .int (gI T_2 2053)] [] (mtX11_count_ l _ n 8 _ _ _ _ _ hc) gX11_count_X11_count_ rfl hd_X11_count_ (by decide) (by decide) (wE_41 _ _) rfl rfl rfl (Nat.le_of_ble_eq_true rfl) rfl ?_
    clear hc
    exact q_vreturn C dX11_count_38 h
  · exact q_vreturn C dX11_count_7 h
def fX11_isNumbered (n : Nat) (T : TS) : Option (Int32 × TS) := bv (fX11_count n T) (fun T_1 => if (3000 : Int32) < (gI T_1 2064) then rz (0 : Int32) T_1 else rz (1 : Int32) T_1)
set_option maxHeartbeats 4000000 in
set_option maxRecDepth 100000 in
theorem mtX11_isNumbered (l : Launch) (X : XT) (n : Nat) (T T' : TS) (r : Int32) (h : fX11_isNumbered n T = some (r, T')) : Met l yX11_isNumbered wsX11_isNumbered (RM 11) (PreX X [.ref (ad X 41)] T) (QQ X (some (.int r)) T') 0 0 (xA X) := by
  refine q_start (by decide) rfl (Nat.le_of_ble_eq_true rfl) ?_
  intro k hk C
  subst hk
  show GW k T 0 [(0, .ref (ad k.1 41))] []
  unfold fX11_isNumbered at h
  refine q_aload_n C dX11_isNumbered_0 rfl 0 rfl ?_
  obtain ⟨T_1, hc, h⟩ := bv_some h
  refine q_callV (st' := []) C dX11_isNumbered_1 [] [] (mtX11_count l _ n _ _ hc) gX11_isNumbered_X11_count rfl hd_X11_count (by decide) (by decide) (wE_41 _ _) rfl rfl rfl (Nat.le_of_ble_eq_true rfl) rfl ?_
  clear hc
  refine q_aload_n C dX11_isNumbered_4 rfl 0 rfl ?_
  refine q_get (j := 14) C dX11_isNumbered_5 (wE_41 _ _) rfl (by decide) rfl inn_X11_isNumbered_11 (by decide +kernel) rfl ?_
  refine q_sipush (v := 3000) C dX11_isNumbered_8 (by decide) ?_
  refine q_icmp_gt (tgt := 18) C dX11_isNumbered_11 (by decide) h (fun c h => ?_) (fun c h => ?_)
  · refine q_iconst (v := 0) C dX11_isNumbered_18 (by decide) ?_
    exact q_zreturn C dX11_isNumbered_19 h
  · refine q_iconst (v := 1) C dX11_isNumbered_14 (by decide) ?_
    refine q_goto (tgt := 19) C dX11_isNumbered_15 (by decide) ?_
    exact q_zreturn C dX11_isNumbered_19 h
def fX11_patterns (n : Nat) (T : TS) : Option (Int32 × TS) := nm (uI T 2050 (0 : Int32)) (fun T_1 => bd (fX11_isNumbered n T_1) (fun r_3 T_2 => if r_3 = 0 then some ((-2 : Int32), T_2) else some ((gI T_2 2064), T_2)))
set_option maxHeartbeats 4000000 in
set_option maxRecDepth 100000 in
theorem mtX11_patterns (l : Launch) (X : XT) (n : Nat) (T T' : TS) (r : Int32) (h : fX11_patterns n T = some (r, T')) : Met l yX11_patterns wsX11_patterns (RM 12) (PreX X [.ref (ad X 41)] T) (QQ X (some (.int r)) T') 0 0 (xA X) := by
  refine q_start (by decide) rfl (Nat.le_of_ble_eq_true rfl) ?_
  intro k hk C
  subst hk
  show GW k T 0 [(0, .ref (ad k.1 41))] []
  unfold fX11_patterns at h
  refine q_aload_n C dX11_patterns_0 rfl 0 rfl ?_
  refine q_iconst (v := 0) C dX11_patterns_1 (by decide) ?_
  refine q_putI (j := 0) (ty := .int) C dX11_patterns_2 (wE_41 _ _) (wP_41_0 _ _ _) rfl (by decide) (Nat.le_of_ble_eq_true rfl) tyX11 tyX11_ok nmX11 inn_X11_patterns_11 (by decide +kernel) rfl rfl (by decide +kernel) rfl rfl h (fun T_1 h => ?_)
  refine q_aload_n C dX11_patterns_5 rfl 0 rfl ?_
  obtain ⟨r_3, T_2, hc, h⟩ := bd_some h
  refine q_callV (st' := [.int r_3]) C dX11_patterns_6 [] [] (mtX11_isNumbered l _ n _ _ _ hc) gX11_patterns_X11_isNumbered rfl hd_X11_isNumbered (by decide) (by decide) (wE_41 _ _) rfl rfl rfl (Nat.le_of_ble_eq_true rfl) rfl ?_
  clear hc
  refine q_if_eq (tgt := 19) C dX11_patterns_9 (by decide) h (fun c h => ?_) (fun c h => ?_)
  · refine q_bipush (v := -2) C dX11_patterns_19 (by decide) ?_
    exact q_ireturn C dX11_patterns_21 h
  · refine q_aload_n C dX11_patterns_12 rfl 0 rfl ?_
    refine q_get (j := 14) C dX11_patterns_13 (wE_41 _ _) rfl (by decide) rfl inn_X11_patterns_11 (by decide +kernel) rfl ?_
    refine q_goto (tgt := 21) C dX11_patterns_16 (by decide) ?_
    exact q_ireturn C dX11_patterns_21 h
def fX11_isPattern (n : Nat) (p0 : Int32) (T : TS) : Option (Int32 × TS) := bd (fX11_isNumbered n T) (fun r_2 T_1 => if r_2 = 0 then rz (0 : Int32) T_1 else bd (fX11_in n p0 (0 : Int32) ((gI T_1 2064) - (1 : Int32)) T_1) (fun r_4 T_3 => if r_4 = 0 then rz (0 : Int32) T_3 else rz (1 : Int32) T_3))
set_option maxHeartbeats 4000000 in
set_option maxRecDepth 100000 in
theorem mtX11_isPattern (l : Launch) (X : XT) (n : Nat) (p0 : Int32) (T T' : TS) (r : Int32) (h : fX11_isPattern n p0 T = some (r, T')) : Met l yX11_isPattern wsX11_isPattern (RM 12) (PreX X [.ref (ad X 41), .int p0] T) (QQ X (some (.int r)) T') 0 0 (xA X) := by
  refine q_start (by decide) rfl (Nat.le_of_ble_eq_true rfl) ?_
  intro k hk C
  subst hk
  show GW k T 0 [(0, .ref (ad k.1 41)), (1, .int p0)] []
  unfold fX11_isPattern at h
  refine q_aload_n C dX11_isPattern_0 rfl 0 rfl ?_
  obtain ⟨r_2, T_1, hc, h⟩ := bd_some h
  refine q_callV (st' := [.int r_2]) C dX11_isPattern_1 [] [] (mtX11_isNumbered l _ n _ _ _ hc) gX11_isPattern_X11_isNumbered rfl hd_X11_isNumbered (by decide) (by decide) (wE_41 _ _) rfl rfl rfl (Nat.le_of_ble_eq_true rfl) rfl ?_
  clear hc
  refine q_if_eq (tgt := 25) C dX11_isPattern_4 (by decide) h (fun c h => ?_) (fun c h => ?_)
  · refine q_iconst (v := 0) C dX11_isPattern_25 (by decide) ?_
    exact q_zreturn C dX11_isPattern_26 h
  · refine q_iload_n C dX11_isPattern_7 rfl 1 rfl ?_
    refine q_iconst (v := 0) C dX11_isPattern_8 (by decide) ?_
    refine q_aload_n C dX11_isPattern_9 rfl 0 rfl ?_
    refine q_get (j := 14) C dX11_isPattern_10 (wE_41 _ _) rfl (by decide) rfl inn_X11_isPattern_11 (by decide +kernel) rfl ?_
    refine q_iconst (v := 1) C dX11_isPattern_13 (by decide) ?_
    refine q_isub C dX11_isPattern_14 ?_
    obtain ⟨r_4, T_3, hc, h⟩ := bd_some h
    refine q_callS (st' := [.int r_4]) C dX11_isPattern_15 [.int p0, .int (0 : Int32), .int ((gI T_1 2064) - (1 : Int32))] [] (mtX11_in l _ n _ _ _ _ _ _ hc) gX11_isPattern_X11_in rfl hd_X11_in (by decide) (by decide) rfl rfl (Nat.le_of_ble_eq_true rfl) rfl ?_
    clear hc
    refine q_if_eq (tgt := 25) C dX11_isPattern_18 (by decide) h (fun c h => ?_) (fun c h => ?_)
    · refine q_iconst (v := 0) C dX11_isPattern_25 (by decide) ?_
      exact q_zreturn C dX11_isPattern_26 h
    · refine q_iconst (v := 1) C dX11_isPattern_21 (by decide) ?_
      refine q_goto (tgt := 26) C dX11_isPattern_22 (by decide) ?_
      exact q_zreturn C dX11_isPattern_26 h
def fX11_isParted_L27 (n : Nat) (rc : Nat → Int32 → Int32 → Int32 → TS → Option (Int32 × TS)) (y1 : Nat) (y2 : Int32) (y3 : Int32) (y4 : Int32) (kk : Int32 → TS → Option (Int32 × TS)) : Nat → Int32 → Int32 → TS → Option (Int32 × TS)
  | 0, _, _, _ => none
  | fuel + 1, x5, x6, T => ak y1 (ck y2 (al y1) (if (gA T y1 (Int32.toNatClampNeg y2)) < x6 then kk x5 T else if ¬ x5 = 0 then kk x5 T else ck y2 6 (ak y1 (ck y2 (al y1) (ck y2 6 (bd (rc y1 (y2 + (1 : Int32)) (y3 - (x6 * (gA T 42 (Int32.toNatClampNeg y2)))) (y4 - (((gA T y1 (Int32.toNatClampNeg y2)) - x6) * (gA T 42 (Int32.toNatClampNeg y2)))) T) (fun r_2 T_1 => fX11_isParted_L27 n rc y1 y2 y3 y4 kk fuel r_2 (x6 + 1) T_1)))))))
set_option maxHeartbeats 4000000 in
set_option maxRecDepth 100000 in
theorem lpX11_isParted_L27 {l : Launch} {k : KT} {n : Nat} {rc : Nat → Int32 → Int32 → Int32 → TS → Option (Int32 × TS)} {y1 : Nat} {y2 : Int32} {y3 : Int32} {y4 : Int32} {kk : Int32 → TS → Option (Int32 × TS)} {r : Int32} {T' : TS} {lv0 : Nat} (C : CX l k 7 cX11_isParted RX11 wsX11_isParted (lv0 + 1) (some .boolean) (some (.int r), T')) (hrc : ∀ q0 p1 p2 p3 T T' r, rc q0 p1 p2 p3 T = some (r, T') → Met l yX11_isParted wsX11_isParted (RM lv0) (PreX k.1 [.ref (ad k.1 41), .ref (ad k.1 q0), .int p1, .int p2, .int p3] T) (QQ k.1 (some (.int r)) T') 0 0 (xA k.1)) (hl0 : 0 ≤ lv0) (hk : ∀ e5 T1, kk e5 T1 = some (r, T') → GW k T1 83 [(5, .int e5)] []) : ∀ (fuel : Nat) (x5 : Int32) (x6 : Int32) (T : TS), fX11_isParted_L27 n rc y1 y2 y3 y4 kk fuel x5 x6 T = some (r, T') → GW k T 27 [(0, .ref (ad k.1 41)), (1, .ref (ad k.1 y1)), (2, .int y2), (3, .int y3), (4, .int y4), (5, .int x5), (6, .int x6)] [] := by
  intro fuel
  induction fuel with
  | zero => intro x5 x6 T h; cases h
  | succ fuel ih =>
    intro x5 x6 T h
    rw [fX11_isParted_L27] at h
    refine q_iload C dX11_isParted_27 6 rfl ?_
    refine q_aload_n C dX11_isParted_29 rfl 1 rfl ?_
    refine q_iload_n C dX11_isParted_30 rfl 2 rfl ?_
    refine q_ialdG C dX11_isParted_31 h (fun h => ?_)
    refine q_icmp_gt (tgt := 83) C dX11_isParted_32 (by decide) h (fun c h => ?_) (fun c h => ?_)
    · refine q_sub [5] rfl ?_
      exact hk _ _ h
    · refine q_iload C dX11_isParted_35 5 rfl ?_
      refine q_if_ne (tgt := 83) C dX11_isParted_37 (by decide) h (fun c h => ?_) (fun c h => ?_)
      · refine q_sub [5] rfl ?_
        exact hk _ _ h
      · refine q_aload_n C dX11_isParted_40 rfl 0 rfl ?_
        refine q_aload_n C dX11_isParted_41 rfl 1 rfl ?_
        refine q_iload_n C dX11_isParted_42 rfl 2 rfl ?_
        refine q_iconst (v := 1) C dX11_isParted_43 (by decide) ?_
        refine q_iadd C dX11_isParted_44 ?_
        refine q_iload_n C dX11_isParted_45 rfl 3 rfl ?_
        refine q_iload C dX11_isParted_46 6 rfl ?_
        refine q_aload_n C dX11_isParted_48 rfl 0 rfl ?_
        refine q_get (j := 7) C dX11_isParted_49 (wE_41 _ _) rfl (by decide) rfl inn_X11_isParted_11 (by decide +kernel) rfl ?_
        refine q_iload_n C dX11_isParted_52 rfl 2 rfl ?_
        refine q_iald C dX11_isParted_53 (wE_42 _ _) h (fun h => ?_)
        refine q_imul C dX11_isParted_54 ?_
        refine q_isub C dX11_isParted_55 ?_
        refine q_iload C dX11_isParted_56 4 rfl ?_
        refine q_aload_n C dX11_isParted_58 rfl 1 rfl ?_
        refine q_iload_n C dX11_isParted_59 rfl 2 rfl ?_
        refine q_ialdG C dX11_isParted_60 h (fun h => ?_)
        refine q_iload C dX11_isParted_61 6 rfl ?_
        refine q_isub C dX11_isParted_63 ?_
        refine q_aload_n C dX11_isParted_64 rfl 0 rfl ?_
        refine q_get (j := 7) C dX11_isParted_65 (wE_41 _ _) rfl (by decide) rfl inn_X11_isParted_11 (by decide +kernel) rfl ?_
        refine q_iload_n C dX11_isParted_68 rfl 2 rfl ?_
        refine q_iald C dX11_isParted_69 (wE_42 _ _) h (fun h => ?_)
        refine q_imul C dX11_isParted_70 ?_
        refine q_isub C dX11_isParted_71 ?_
        obtain ⟨r_2, T_1, hc, h⟩ := bd_some h
        refine q_callV (st' := [.int r_2]) C dX11_isParted_72 [.ref (ad k.1 y1), .int (y2 + (1 : Int32)), .int (y3 - (x6 * (gA T 42 (Int32.toNatClampNeg y2)))), .int (y4 - (((gA T y1 (Int32.toNatClampNeg y2)) - x6) * (gA T 42 (Int32.toNatClampNeg y2))))] [] (hrc _ _ _ _ _ _ _ hc) gX11_isParted_X11_isParted rfl hd_X11_isParted (Nat.le_refl _) (by decide) (wE_41 _ _) rfl rfl rfl (Nat.le_of_ble_eq_true rfl) rfl ?_
        clear hc
        refine q_istore (lv' := [(0, .ref (ad k.1 41)), (1, .ref (ad k.1 y1)), (2, .int y2), (3, .int y3), (4, .int y4), (5, .int r_2), (6, .int x6)]) C dX11_isParted_75 (by decide) rfl ?_
        refine q_iinc (j := 6) (v := 1) (lv' := [(0, .ref (ad k.1 41)), (1, .ref (ad k.1 y1)), (2, .int y2), (3, .int y3), (4, .int y4), (5, .int r_2), (6, .int (x6 + 1))]) C dX11_isParted_77 rfl (by decide) (by decide) rfl ?_
        refine q_goto (tgt := 27) C dX11_isParted_80 (by decide) ?_
        refine q_sub [0, 1, 2, 3, 4, 5, 6] rfl ?_
        exact ih _ _ _ h
def fX11_isParted_B (n : Nat) (rc : Nat → Int32 → Int32 → Int32 → TS → Option (Int32 × TS)) (q0 : Nat) (p1 : Int32) (p2 : Int32) (p3 : Int32) (T : TS) : Option (Int32 × TS) := if p2 < 0 then rz (0 : Int32) T else if 0 ≤ p3 then if ¬ p1 = (gI T 2056) then fX11_isParted_L27 n rc q0 p1 p2 p3 (fun e5_3 T_4 => rz e5_3 T_4) n (0 : Int32) (0 : Int32) T else rz (1 : Int32) T else rz (0 : Int32) T
set_option maxHeartbeats 4000000 in
set_option maxRecDepth 100000 in
theorem mbX11_isParted (l : Launch) (X : XT) (n : Nat) (rc : Nat → Int32 → Int32 → Int32 → TS → Option (Int32 × TS)) (lv0 : Nat) (hl0 : 0 ≤ lv0) (hrc : ∀ q0 p1 p2 p3 T T' r, rc q0 p1 p2 p3 T = some (r, T') → Met l yX11_isParted wsX11_isParted (RM lv0) (PreX X [.ref (ad X 41), .ref (ad X q0), .int p1, .int p2, .int p3] T) (QQ X (some (.int r)) T') 0 0 (xA X)) (q0 : Nat) (p1 : Int32) (p2 : Int32) (p3 : Int32) (T T' : TS) (r : Int32) (h : fX11_isParted_B n rc q0 p1 p2 p3 T = some (r, T')) : Met l yX11_isParted wsX11_isParted (RM (lv0 + 1)) (PreX X [.ref (ad X 41), .ref (ad X q0), .int p1, .int p2, .int p3] T) (QQ X (some (.int r)) T') 0 0 (xA X) := by
  refine q_start (by decide) rfl (Nat.le_of_ble_eq_true rfl) ?_
  intro k hk C
  subst hk
  show GW k T 0 [(0, .ref (ad k.1 41)), (1, .ref (ad k.1 q0)), (2, .int p1), (3, .int p2), (4, .int p3)] []
  unfold fX11_isParted_B at h
  refine q_iload_n C dX11_isParted_0 rfl 3 rfl ?_
  refine q_if_lt (tgt := 9) C dX11_isParted_1 (by decide) h (fun c h => ?_) (fun c h => ?_)
  · refine q_iconst (v := 0) C dX11_isParted_9 (by decide) ?_
    exact q_zreturn C dX11_isParted_10 h
  · refine q_iload C dX11_isParted_4 4 rfl ?_
    refine q_if_ge (tgt := 11) C dX11_isParted_6 (by decide) h (fun c h => ?_) (fun c h => ?_)
    · refine q_iload_n C dX11_isParted_11 rfl 2 rfl ?_
      refine q_aload_n C dX11_isParted_12 rfl 0 rfl ?_
      refine q_get (j := 6) C dX11_isParted_13 (wE_41 _ _) rfl (by decide) rfl inn_X11_isParted_11 (by decide +kernel) rfl ?_
      refine q_icmp_ne (tgt := 21) C dX11_isParted_16 (by decide) h (fun c h => ?_) (fun c h => ?_)
      · refine q_iconst (v := 0) C dX11_isParted_21 (by decide) ?_
        refine q_istore (lv' := [(0, .ref (ad k.1 41)), (1, .ref (ad k.1 q0)), (2, .int p1), (3, .int p2), (4, .int p3), (5, .int (0 : Int32))]) C dX11_isParted_22 (by decide) rfl ?_
        refine q_iconst (v := 0) C dX11_isParted_24 (by decide) ?_
        refine q_istore (lv' := [(0, .ref (ad k.1 41)), (1, .ref (ad k.1 q0)), (2, .int p1), (3, .int p2), (4, .int p3), (5, .int (0 : Int32)), (6, .int (0 : Int32))]) C dX11_isParted_25 (by decide) rfl ?_
        refine q_sub [0, 1, 2, 3, 4, 5, 6] rfl ?_
        refine lpX11_isParted_L27 C hrc hl0 (fun e5_3 T_4 h => ?_) _ _ _ _ h
        refine q_iload C dX11_isParted_83 0 rfl ?_
        exact q_zreturn C dX11_isParted_85 h
      · refine q_iconst (v := 1) C dX11_isParted_19 (by decide) ?_
        exact q_zreturn C dX11_isParted_20 h
    · refine q_iconst (v := 0) C dX11_isParted_9 (by decide) ?_
      exact q_zreturn C dX11_isParted_10 h
def fX11_isParted (n : Nat) : Nat → Nat → Int32 → Int32 → Int32 → TS → Option (Int32 × TS)
  | 0, _, _, _, _, _ => none
  | d + 1, q0, p1, p2, p3, T => fX11_isParted_B n (fX11_isParted n d) q0 p1 p2 p3 T
set_option maxHeartbeats 4000000 in
set_option maxRecDepth 100000 in
theorem mtX11_isParted (l : Launch) (X : XT) (n : Nat) : ∀ (d : Nat) (q0 : Nat) (p1 : Int32) (p2 : Int32) (p3 : Int32) (T T' : TS) (r : Int32), fX11_isParted n d q0 p1 p2 p3 T = some (r, T') → Met l yX11_isParted wsX11_isParted (RM (0 + d)) (PreX X [.ref (ad X 41), .ref (ad X q0), .int p1, .int p2, .int p3] T) (QQ X (some (.int r)) T') 0 0 (xA X)
  | 0, _, _, _, _, _, _, _, h => by cases h
  | d + 1, q0, p1, p2, p3, T, T', r, h => mbX11_isParted l X n (fX11_isParted n d) (0 + d) (by omega) (fun _ _ _ _ _ _ _ h => mtX11_isParted l X n d _ _ _ _ _ _ _ h) q0 p1 p2 p3 T T' r h
def fX11_fitsFlawed (n : Nat) (q0 : Nat) (T : TS) : Option (Int32 × TS) := if (gI T 2054) < (gI T 2055) then nm (imax (0 : Int32) ((imin (gI T 2054) ((gI T 2051) - (gI T 2052))) - (gI T 2052))) (fun x2_1 => nm (imax (0 : Int32) (((gI T 2051) - (gI T 2052)) - (imax (gI T 2055) (gI T 2052)))) (fun x3_2 => bd (fX11_isParted n 8 q0 (0 : Int32) x2_1 x3_2 T) (fun r_4 T_3 => rz r_4 T_3))) else rz (1 : Int32) T
set_option maxHeartbeats 4000000 in
set_option maxRecDepth 100000 in
theorem mtX11_fitsFlawed (l : Launch) (X : XT) (n : Nat) (q0 : Nat) (T T' : TS) (r : Int32) (h : fX11_fitsFlawed n q0 T = some (r, T')) : Met l yX11_fitsFlawed wsX11_fitsFlawed (RM 9) (PreX X [.ref (ad X 41), .ref (ad X q0)] T) (QQ X (some (.int r)) T') 0 0 (xA X) := by
  refine q_start (by decide) rfl (Nat.le_of_ble_eq_true rfl) ?_
  intro k hk C
  subst hk
  show GW k T 0 [(0, .ref (ad k.1 41)), (1, .ref (ad k.1 q0))] []
  unfold fX11_fitsFlawed at h
  refine q_aload_n C dX11_fitsFlawed_0 rfl 0 rfl ?_
  refine q_get (j := 4) C dX11_fitsFlawed_1 (wE_41 _ _) rfl (by decide) rfl inn_X11_fitsFlawed_11 (by decide +kernel) rfl ?_
  refine q_aload_n C dX11_fitsFlawed_4 rfl 0 rfl ?_
  refine q_get (j := 5) C dX11_fitsFlawed_5 (wE_41 _ _) rfl (by decide) rfl inn_X11_fitsFlawed_11 (by decide +kernel) rfl ?_
  refine q_icmp_lt (tgt := 13) C dX11_fitsFlawed_8 (by decide) h (fun c h => ?_) (fun c h => ?_)
  · refine q_iconst (v := 0) C dX11_fitsFlawed_13 (by decide) ?_
    refine q_aload_n C dX11_fitsFlawed_14 rfl 0 rfl ?_
    refine q_get (j := 4) C dX11_fitsFlawed_15 (wE_41 _ _) rfl (by decide) rfl inn_X11_fitsFlawed_11 (by decide +kernel) rfl ?_
    refine q_aload_n C dX11_fitsFlawed_18 rfl 0 rfl ?_
    refine q_get (j := 1) C dX11_fitsFlawed_19 (wE_41 _ _) rfl (by decide) rfl inn_X11_fitsFlawed_11 (by decide +kernel) rfl ?_
    refine q_aload_n C dX11_fitsFlawed_22 rfl 0 rfl ?_
    refine q_get (j := 2) C dX11_fitsFlawed_23 (wE_41 _ _) rfl (by decide) rfl inn_X11_fitsFlawed_11 (by decide +kernel) rfl ?_
    refine q_isub C dX11_fitsFlawed_26 ?_
    refine q_mmin C dX11_fitsFlawed_27 (by decide +kernel) (by decide +kernel) (by decide +kernel) (by decide +kernel) (by decide) (Nat.le_of_ble_eq_true rfl) ?_
    refine q_aload_n C dX11_fitsFlawed_30 rfl 0 rfl ?_
    refine q_get (j := 2) C dX11_fitsFlawed_31 (wE_41 _ _) rfl (by decide) rfl inn_X11_fitsFlawed_11 (by decide +kernel) rfl ?_
    refine q_isub C dX11_fitsFlawed_34 ?_
    refine q_mmax C dX11_fitsFlawed_35 (by decide +kernel) (by decide +kernel) (by decide +kernel) (by decide +kernel) (by decide) (Nat.le_of_ble_eq_true rfl) ?_
    refine q_nm h (fun x2_1 h => ?_)
    refine q_istore_n (lv' := [(0, .ref (ad k.1 41)), (1, .ref (ad k.1 q0)), (2, .int x2_1)]) C dX11_fitsFlawed_38 rfl (by decide) rfl ?_
    refine q_iconst (v := 0) C dX11_fitsFlawed_39 (by decide) ?_
    refine q_aload_n C dX11_fitsFlawed_40 rfl 0 rfl ?_
    refine q_get (j := 1) C dX11_fitsFlawed_41 (wE_41 _ _) rfl (by decide) rfl inn_X11_fitsFlawed_11 (by decide +kernel) rfl ?_
    refine q_aload_n C dX11_fitsFlawed_44 rfl 0 rfl ?_
    refine q_get (j := 2) C dX11_fitsFlawed_45 (wE_41 _ _) rfl (by decide) rfl inn_X11_fitsFlawed_11 (by decide +kernel) rfl ?_
    refine q_isub C dX11_fitsFlawed_48 ?_
    refine q_aload_n C dX11_fitsFlawed_49 rfl 0 rfl ?_
    refine q_get (j := 5) C dX11_fitsFlawed_50 (wE_41 _ _) rfl (by decide) rfl inn_X11_fitsFlawed_11 (by decide +kernel) rfl ?_
    refine q_aload_n C dX11_fitsFlawed_53 rfl 0 rfl ?_
    refine q_get (j := 2) C dX11_fitsFlawed_54 (wE_41 _ _) rfl (by decide) rfl inn_X11_fitsFlawed_11 (by decide +kernel) rfl ?_
    refine q_mmax C dX11_fitsFlawed_57 (by decide +kernel) (by decide +kernel) (by decide +kernel) (by decide +kernel) (by decide) (Nat.le_of_ble_eq_true rfl) ?_
    refine q_isub C dX11_fitsFlawed_60 ?_
    refine q_mmax C dX11_fitsFlawed_61 (by decide +kernel) (by decide +kernel) (by decide +kernel) (by decide +kernel) (by decide) (Nat.le_of_ble_eq_true rfl) ?_
    refine q_nm h (fun x3_2 h => ?_)
    refine q_istore_n (lv' := [(0, .ref (ad k.1 41)), (1, .ref (ad k.1 q0)), (2, .int x2_1), (3, .int x3_2)]) C dX11_fitsFlawed_64 rfl (by decide) rfl ?_
    refine q_aload_n C dX11_fitsFlawed_65 rfl 0 rfl ?_
    refine q_aload_n C dX11_fitsFlawed_66 rfl 1 rfl ?_
    refine q_iconst (v := 0) C dX11_fitsFlawed_67 (by decide) ?_
    refine q_iload_n C dX11_fitsFlawed_68 rfl 2 rfl ?_
    refine q_iload_n C dX11_fitsFlawed_69 rfl 3 rfl ?_
    obtain ⟨r_4, T_3, hc, h⟩ := bd_some h
    refine q_callV (st' := [.int r_4]) C dX11_fitsFlawed_70 [.ref (ad k.1 q0), .int (0 : Int32), .int x2_1, .int x3_2] [] (mtX11_isParted l _ n 8 _ _ _ _ _ _ _ hc) gX11_fitsFlawed_X11_isParted rfl hd_X11_isParted (by decide) (by decide) (wE_41 _ _) rfl rfl rfl (Nat.le_of_ble_eq_true rfl) rfl ?_
    clear hc
    exact q_zreturn C dX11_fitsFlawed_73 h
  · refine q_iconst (v := 1) C dX11_fitsFlawed_11 (by decide) ?_
    exact q_zreturn C dX11_fitsFlawed_12 h
def fX11_worthOf_L5 (n : Nat) (y1 : Nat) (kk : Int64 → TS → Option (Int64 × TS)) : Nat → Int64 → Int32 → TS → Option (Int64 × TS)
  | 0, _, _, _ => none
  | fuel + 1, x2, x4, T => if (gI T 2056) ≤ x4 then kk x2 T else ak y1 (ck x4 (al y1) (ck x4 6 (nm (x2 + ((Int32.toInt64 (gA T y1 (Int32.toNatClampNeg x4))) * (Int32.toInt64 (gA T 45 (Int32.toNatClampNeg x4))))) (fun x2_1 => fX11_worthOf_L5 n y1 kk fuel x2_1 (x4 + 1) T))))
set_option maxHeartbeats 4000000 in
set_option maxRecDepth 100000 in
theorem lpX11_worthOf_L5 {l : Launch} {k : KT} {n : Nat} {y1 : Nat} {kk : Int64 → TS → Option (Int64 × TS)} {r : Int64} {T' : TS} (C : CX l k 5 cX11_worthOf RX11 wsX11_worthOf 0 (some .long) (some (.long r), T')) (hk : ∀ e2 T1, kk e2 T1 = some (r, T') → GW k T1 37 [(2, .long e2)] []) : ∀ (fuel : Nat) (x2 : Int64) (x4 : Int32) (T : TS), fX11_worthOf_L5 n y1 kk fuel x2 x4 T = some (r, T') → GW k T 5 [(0, .ref (ad k.1 41)), (1, .ref (ad k.1 y1)), (2, .long x2), (4, .int x4)] [] := by
  intro fuel
  induction fuel with
  | zero => intro x2 x4 T h; cases h
  | succ fuel ih =>
    intro x2 x4 T h
    rw [fX11_worthOf_L5] at h
    refine q_iload C dX11_worthOf_5 3 rfl ?_
    refine q_aload_n C dX11_worthOf_7 rfl 0 rfl ?_
    refine q_get (j := 6) C dX11_worthOf_8 (wE_41 _ _) rfl (by decide) rfl inn_X11_worthOf_11 (by decide +kernel) rfl ?_
    refine q_icmp_ge (tgt := 37) C dX11_worthOf_11 (by decide) h (fun c h => ?_) (fun c h => ?_)
    · refine q_sub [2] rfl ?_
      exact hk _ _ h
    · refine q_lload_n C dX11_worthOf_14 rfl 2 rfl ?_
      refine q_aload_n C dX11_worthOf_15 rfl 1 rfl ?_
      refine q_iload C dX11_worthOf_16 3 rfl ?_
      refine q_ialdG C dX11_worthOf_18 h (fun h => ?_)
      refine q_i2l C dX11_worthOf_19 ?_
      refine q_aload_n C dX11_worthOf_20 rfl 0 rfl ?_
      refine q_get (j := 10) C dX11_worthOf_21 (wE_41 _ _) rfl (by decide) rfl inn_X11_worthOf_11 (by decide +kernel) rfl ?_
      refine q_iload C dX11_worthOf_24 3 rfl ?_
      refine q_iald C dX11_worthOf_26 (wE_45 _ _) h (fun h => ?_)
      refine q_i2l C dX11_worthOf_27 ?_
      refine q_lmul C dX11_worthOf_28 ?_
      refine q_ladd C dX11_worthOf_29 ?_
      refine q_nml h (fun x2_1 h => ?_)
      refine q_lstore_n (lv' := [(0, .ref (ad k.1 41)), (1, .ref (ad k.1 y1)), (2, .long x2_1), (4, .int x4)]) C dX11_worthOf_30 rfl (by decide) rfl ?_
      refine q_iinc (j := 3) (v := 1) (lv' := [(0, .ref (ad k.1 41)), (1, .ref (ad k.1 y1)), (2, .long x2_1), (4, .int (x4 + 1))]) C dX11_worthOf_31 rfl (by decide) (by decide) rfl ?_
      refine q_goto (tgt := 5) C dX11_worthOf_34 (by decide) ?_
      refine q_sub [0, 1, 2, 3] rfl ?_
      exact ih _ _ _ h
def fX11_worthOf (n : Nat) (q0 : Nat) (T : TS) : Option (Int64 × TS) := fX11_worthOf_L5 n q0 (fun e2_2 T_3 => some (e2_2, T_3)) n (0 : Int64) (0 : Int32) T
set_option maxHeartbeats 4000000 in
set_option maxRecDepth 100000 in
theorem mtX11_worthOf (l : Launch) (X : XT) (n : Nat) (q0 : Nat) (T T' : TS) (r : Int64) (h : fX11_worthOf n q0 T = some (r, T')) : Met l yX11_worthOf wsX11_worthOf (RM 0) (PreX X [.ref (ad X 41), .ref (ad X q0)] T) (QQ X (some (.long r)) T') 0 0 (xA X) := by
  refine q_start (by decide) rfl (Nat.le_of_ble_eq_true rfl) ?_
  intro k hk C
  subst hk
  show GW k T 0 [(0, .ref (ad k.1 41)), (1, .ref (ad k.1 q0))] []
  unfold fX11_worthOf at h
  refine q_lconst (v := 0) C dX11_worthOf_0 (by decide) ?_
  refine q_lstore_n (lv' := [(0, .ref (ad k.1 41)), (1, .ref (ad k.1 q0)), (2, .long (0 : Int64))]) C dX11_worthOf_1 rfl (by decide) rfl ?_
  refine q_iconst (v := 0) C dX11_worthOf_2 (by decide) ?_
  refine q_istore (lv' := [(0, .ref (ad k.1 41)), (1, .ref (ad k.1 q0)), (2, .long (0 : Int64)), (4, .int (0 : Int32))]) C dX11_worthOf_3 (by decide) rfl ?_
  refine q_sub [0, 1, 2, 3] rfl ?_
  refine lpX11_worthOf_L5 C (fun e2_2 T_3 h => ?_) _ _ _ _ h
  refine q_lload_n C dX11_worthOf_37 rfl 0 rfl ?_
  exact q_lreturn C dX11_worthOf_38 h
def fX11_sumOf_L4 (n : Nat) (y1 : Nat) (kk : Int32 → TS → Option (Int32 × TS)) : Nat → Int32 → Int32 → TS → Option (Int32 × TS)
  | 0, _, _, _ => none
  | fuel + 1, x2, x3, T => if (gI T 2056) ≤ x3 then kk x2 T else ak y1 (ck x3 (al y1) (ck x3 6 (nm (x2 + ((gA T y1 (Int32.toNatClampNeg x3)) * (gA T 42 (Int32.toNatClampNeg x3)))) (fun x2_1 => fX11_sumOf_L4 n y1 kk fuel x2_1 (x3 + 1) T))))
set_option maxHeartbeats 4000000 in
set_option maxRecDepth 100000 in
theorem lpX11_sumOf_L4 {l : Launch} {k : KT} {n : Nat} {y1 : Nat} {kk : Int32 → TS → Option (Int32 × TS)} {r : Int32} {T' : TS} (C : CX l k 4 cX11_sumOf RX11 wsX11_sumOf 0 (some .int) (some (.int r), T')) (hk : ∀ e2 T1, kk e2 T1 = some (r, T') → GW k T1 31 [(2, .int e2)] []) : ∀ (fuel : Nat) (x2 : Int32) (x3 : Int32) (T : TS), fX11_sumOf_L4 n y1 kk fuel x2 x3 T = some (r, T') → GW k T 4 [(0, .ref (ad k.1 41)), (1, .ref (ad k.1 y1)), (2, .int x2), (3, .int x3)] [] := by
  intro fuel
  induction fuel with
  | zero => intro x2 x3 T h; cases h
  | succ fuel ih =>
    intro x2 x3 T h
    rw [fX11_sumOf_L4] at h
    refine q_iload_n C dX11_sumOf_4 rfl 3 rfl ?_
    refine q_aload_n C dX11_sumOf_5 rfl 0 rfl ?_
    refine q_get (j := 6) C dX11_sumOf_6 (wE_41 _ _) rfl (by decide) rfl inn_X11_sumOf_11 (by decide +kernel) rfl ?_
    refine q_icmp_ge (tgt := 31) C dX11_sumOf_9 (by decide) h (fun c h => ?_) (fun c h => ?_)
    · refine q_sub [2] rfl ?_
      exact hk _ _ h
    · refine q_iload_n C dX11_sumOf_12 rfl 2 rfl ?_
      refine q_aload_n C dX11_sumOf_13 rfl 1 rfl ?_
      refine q_iload_n C dX11_sumOf_14 rfl 3 rfl ?_
      refine q_ialdG C dX11_sumOf_15 h (fun h => ?_)
      refine q_aload_n C dX11_sumOf_16 rfl 0 rfl ?_
      refine q_get (j := 7) C dX11_sumOf_17 (wE_41 _ _) rfl (by decide) rfl inn_X11_sumOf_11 (by decide +kernel) rfl ?_
      refine q_iload_n C dX11_sumOf_20 rfl 3 rfl ?_
      refine q_iald C dX11_sumOf_21 (wE_42 _ _) h (fun h => ?_)
      refine q_imul C dX11_sumOf_22 ?_
      refine q_iadd C dX11_sumOf_23 ?_
      refine q_nm h (fun x2_1 h => ?_)
      refine q_istore_n (lv' := [(0, .ref (ad k.1 41)), (1, .ref (ad k.1 y1)), (2, .int x2_1), (3, .int x3)]) C dX11_sumOf_24 rfl (by decide) rfl ?_
      refine q_iinc (j := 3) (v := 1) (lv' := [(0, .ref (ad k.1 41)), (1, .ref (ad k.1 y1)), (2, .int x2_1), (3, .int (x3 + 1))]) C dX11_sumOf_25 rfl (by decide) (by decide) rfl ?_
      refine q_goto (tgt := 4) C dX11_sumOf_28 (by decide) ?_
      refine q_sub [0, 1, 2, 3] rfl ?_
      exact ih _ _ _ h
def fX11_sumOf (n : Nat) (q0 : Nat) (T : TS) : Option (Int32 × TS) := fX11_sumOf_L4 n q0 (fun e2_2 T_3 => some (e2_2, T_3)) n (0 : Int32) (0 : Int32) T
set_option maxHeartbeats 4000000 in
set_option maxRecDepth 100000 in
theorem mtX11_sumOf (l : Launch) (X : XT) (n : Nat) (q0 : Nat) (T T' : TS) (r : Int32) (h : fX11_sumOf n q0 T = some (r, T')) : Met l yX11_sumOf wsX11_sumOf (RM 0) (PreX X [.ref (ad X 41), .ref (ad X q0)] T) (QQ X (some (.int r)) T') 0 0 (xA X) := by
  refine q_start (by decide) rfl (Nat.le_of_ble_eq_true rfl) ?_
  intro k hk C
  subst hk
  show GW k T 0 [(0, .ref (ad k.1 41)), (1, .ref (ad k.1 q0))] []
  unfold fX11_sumOf at h
  refine q_iconst (v := 0) C dX11_sumOf_0 (by decide) ?_
  refine q_istore_n (lv' := [(0, .ref (ad k.1 41)), (1, .ref (ad k.1 q0)), (2, .int (0 : Int32))]) C dX11_sumOf_1 rfl (by decide) rfl ?_
  refine q_iconst (v := 0) C dX11_sumOf_2 (by decide) ?_
  refine q_istore_n (lv' := [(0, .ref (ad k.1 41)), (1, .ref (ad k.1 q0)), (2, .int (0 : Int32)), (3, .int (0 : Int32))]) C dX11_sumOf_3 rfl (by decide) rfl ?_
  refine q_sub [0, 1, 2, 3] rfl ?_
  refine lpX11_sumOf_L4 C (fun e2_2 T_3 h => ?_) _ _ _ _ h
  refine q_iload_n C dX11_sumOf_31 rfl 0 rfl ?_
  exact q_ireturn C dX11_sumOf_32 h
def fX11_pattern (n : Nat) (p0 : Int32) (p1 : Int32) (T : TS) : Option (Int64 × TS) := nm (uI T 2050 (0 : Int32)) (fun T_1 => bd (fX11_isPattern n p0 T_1) (fun r_3 T_2 => if ¬ r_3 = 0 then bd (fX11_isWidth n p1 T_2) (fun r_5 T_4 => if r_5 = 0 then if p1 = (-3) then ck p0 3000 (bd (fX11_fitsFlawed n (gO T_4 46 (Int32.toNatClampNeg p0)) T_4) (fun r_7 T_6 => if r_7 = 0 then some ((0 : Int64), T_6) else some ((1 : Int64), T_6))) else if p1 = (-2) then ck p0 3000 (bd (fX11_worthOf n (gO T_4 46 (Int32.toNatClampNeg p0)) T_4) (fun r_9 T_8 => some (r_9, T_8))) else if p1 = (-1) then ck p0 3000 (bd (fX11_sumOf n (gO T_4 46 (Int32.toNatClampNeg p0)) T_4) (fun r_11 T_10 => some ((Int32.toInt64 ((gI T_4 2051) - r_11)), T_10))) else some ((-1000 : Int64), T_4) else ck p0 3000 (ak (gO T_4 46 (Int32.toNatClampNeg p0)) (ck p1 (al (gO T_4 46 (Int32.toNatClampNeg p0))) (some ((Int32.toInt64 (gA T_4 (gO T_4 46 (Int32.toNatClampNeg p0)) (Int32.toNatClampNeg p1))), T_4))))) else some ((-1000 : Int64), T_2)))
set_option maxHeartbeats 4000000 in
set_option maxRecDepth 100000 in
theorem mtX11_pattern (l : Launch) (X : XT) (n : Nat) (p0 : Int32) (p1 : Int32) (T T' : TS) (r : Int64) (h : fX11_pattern n p0 p1 T = some (r, T')) : Met l yX11_pattern wsX11_pattern (RM 13) (PreX X [.ref (ad X 41), .int p0, .int p1] T) (QQ X (some (.long r)) T') 0 0 (xA X) := by
  refine q_start (by decide) rfl (Nat.le_of_ble_eq_true rfl) ?_
  intro k hk C
  subst hk
  show GW k T 0 [(0, .ref (ad k.1 41)), (1, .int p0), (2, .int p1)] []
  unfold fX11_pattern at h
  refine q_aload_n C dX11_pattern_0 rfl 0 rfl ?_
  refine q_iconst (v := 0) C dX11_pattern_1 (by decide) ?_
  refine q_putI (j := 0) (ty := .int) C dX11_pattern_2 (wE_41 _ _) (wP_41_0 _ _ _) rfl (by decide) (Nat.le_of_ble_eq_true rfl) tyX11 tyX11_ok nmX11 inn_X11_pattern_11 (by decide +kernel) rfl rfl (by decide +kernel) rfl rfl h (fun T_1 h => ?_)
  refine q_aload_n C dX11_pattern_5 rfl 0 rfl ?_
  refine q_iload_n C dX11_pattern_6 rfl 1 rfl ?_
  obtain ⟨r_3, T_2, hc, h⟩ := bd_some h
  refine q_callV (st' := [.int r_3]) C dX11_pattern_7 [.int p0] [] (mtX11_isPattern l _ n _ _ _ _ hc) gX11_pattern_X11_isPattern rfl hd_X11_isPattern (by decide) (by decide) (wE_41 _ _) rfl rfl rfl (Nat.le_of_ble_eq_true rfl) rfl ?_
  clear hc
  refine q_if_ne (tgt := 17) C dX11_pattern_10 (by decide) h (fun c h => ?_) (fun c h => ?_)
  · refine q_aload_n C dX11_pattern_17 rfl 0 rfl ?_
    refine q_iload_n C dX11_pattern_18 rfl 2 rfl ?_
    obtain ⟨r_5, T_4, hc, h⟩ := bd_some h
    refine q_callV (st' := [.int r_5]) C dX11_pattern_19 [.int p1] [] (mtX11_isWidth l _ n _ _ _ _ hc) gX11_pattern_X11_isWidth rfl hd_X11_isWidth (by decide) (by decide) (wE_41 _ _) rfl rfl rfl (Nat.le_of_ble_eq_true rfl) rfl ?_
    clear hc
    refine q_if_eq (tgt := 35) C dX11_pattern_22 (by decide) h (fun c h => ?_) (fun c h => ?_)
    · refine q_iload_n C dX11_pattern_35 rfl 2 rfl ?_
      refine q_case (v := -3) h (fun e h => ?_) (fun c0 h => ?_)
      · refine q_tswIn (tgt := 92) C dX11_pattern_36 e (by decide) (by decide) (by rfl) (by decide) ?_
        refine q_aload_n C dX11_pattern_92 rfl 0 rfl ?_
        refine q_aload_n C dX11_pattern_93 rfl 0 rfl ?_
        refine q_get (j := 15) C dX11_pattern_94 (wE_41 _ _) rfl (by decide) rfl inn_X11_pattern_11 (by decide +kernel) rfl ?_
        refine q_iload_n C dX11_pattern_97 rfl 1 rfl ?_
        refine q_aald C dX11_pattern_98 (wE_46 _ _) h (fun h => ?_)
        obtain ⟨r_7, T_6, hc, h⟩ := bd_some h
        refine q_callV (st' := [.int r_7]) C dX11_pattern_99 [.ref (ad k.1 (gO T_4 46 (Int32.toNatClampNeg p0)))] [] (mtX11_fitsFlawed l _ n _ _ _ _ hc) gX11_pattern_X11_fitsFlawed rfl hd_X11_fitsFlawed (by decide) (by decide) (wE_41 _ _) rfl rfl rfl (Nat.le_of_ble_eq_true rfl) rfl ?_
        clear hc
        refine q_if_eq (tgt := 109) C dX11_pattern_102 (by decide) h (fun c h => ?_) (fun c h => ?_)
        · refine q_lconst (v := 0) C dX11_pattern_109 (by decide) ?_
          exact q_lreturn C dX11_pattern_110 h
        · refine q_lconst (v := 1) C dX11_pattern_105 (by decide) ?_
          refine q_goto (tgt := 110) C dX11_pattern_106 (by decide) ?_
          exact q_lreturn C dX11_pattern_110 h
      refine q_case (v := -2) h (fun e h => ?_) (fun c1 h => ?_)
      · refine q_tswIn (tgt := 81) C dX11_pattern_36 e (by decide) (by decide) (by rfl) (by decide) ?_
        refine q_aload_n C dX11_pattern_81 rfl 0 rfl ?_
        refine q_aload_n C dX11_pattern_82 rfl 0 rfl ?_
        refine q_get (j := 15) C dX11_pattern_83 (wE_41 _ _) rfl (by decide) rfl inn_X11_pattern_11 (by decide +kernel) rfl ?_
        refine q_iload_n C dX11_pattern_86 rfl 1 rfl ?_
        refine q_aald C dX11_pattern_87 (wE_46 _ _) h (fun h => ?_)
        obtain ⟨r_9, T_8, hc, h⟩ := bd_some h
        refine q_callV (st' := [.long r_9]) C dX11_pattern_88 [.ref (ad k.1 (gO T_4 46 (Int32.toNatClampNeg p0)))] [] (mtX11_worthOf l _ n _ _ _ _ hc) gX11_pattern_X11_worthOf rfl hd_X11_worthOf (by decide) (by decide) (wE_41 _ _) rfl rfl rfl (Nat.le_of_ble_eq_true rfl) rfl ?_
        clear hc
        exact q_lreturn C dX11_pattern_91 h
      refine q_case (v := -1) h (fun e h => ?_) (fun c2 h => ?_)
      · refine q_tswIn (tgt := 64) C dX11_pattern_36 e (by decide) (by decide) (by rfl) (by decide) ?_
        refine q_aload_n C dX11_pattern_64 rfl 0 rfl ?_
        refine q_get (j := 1) C dX11_pattern_65 (wE_41 _ _) rfl (by decide) rfl inn_X11_pattern_11 (by decide +kernel) rfl ?_
        refine q_aload_n C dX11_pattern_68 rfl 0 rfl ?_
        refine q_aload_n C dX11_pattern_69 rfl 0 rfl ?_
        refine q_get (j := 15) C dX11_pattern_70 (wE_41 _ _) rfl (by decide) rfl inn_X11_pattern_11 (by decide +kernel) rfl ?_
        refine q_iload_n C dX11_pattern_73 rfl 1 rfl ?_
        refine q_aald C dX11_pattern_74 (wE_46 _ _) h (fun h => ?_)
        obtain ⟨r_11, T_10, hc, h⟩ := bd_some h
        refine q_callV (st' := [.int r_11, .int (gI T_4 2051)]) C dX11_pattern_75 [.ref (ad k.1 (gO T_4 46 (Int32.toNatClampNeg p0)))] [.int (gI T_4 2051)] (mtX11_sumOf l _ n _ _ _ _ hc) gX11_pattern_X11_sumOf rfl hd_X11_sumOf (by decide) (by decide) (wE_41 _ _) rfl rfl rfl (Nat.le_of_ble_eq_true rfl) rfl ?_
        clear hc
        refine q_isub C dX11_pattern_78 ?_
        refine q_i2l C dX11_pattern_79 ?_
        exact q_lreturn C dX11_pattern_80 h
      refine q_tswOut (tgt := 111) C dX11_pattern_36 (by have w0 := c0; simp only [show ((-3 : Int32)).toInt = -3 from rfl] at c0; simp only [show ((-2 : Int32)).toInt = -2 from rfl] at c1; simp only [show ((-1 : Int32)).toInt = -1 from rfl] at c2; omega) (by decide) ?_
      refine q_ldc2 (v := -1000) C dX11_pattern_111 (by decide +kernel) ?_
      exact q_lreturn C dX11_pattern_114 h
    · refine q_aload_n C dX11_pattern_25 rfl 0 rfl ?_
      refine q_get (j := 15) C dX11_pattern_26 (wE_41 _ _) rfl (by decide) rfl inn_X11_pattern_11 (by decide +kernel) rfl ?_
      refine q_iload_n C dX11_pattern_29 rfl 1 rfl ?_
      refine q_aald C dX11_pattern_30 (wE_46 _ _) h (fun h => ?_)
      refine q_iload_n C dX11_pattern_31 rfl 2 rfl ?_
      refine q_ialdG C dX11_pattern_32 h (fun h => ?_)
      refine q_i2l C dX11_pattern_33 ?_
      exact q_lreturn C dX11_pattern_34 h
  · refine q_ldc2 (v := -1000) C dX11_pattern_13 (by decide +kernel) ?_
    exact q_lreturn C dX11_pattern_16 h
def fX11_find_L17 (n : Nat) (y1 : Int32) (y2 : Int32) (y3 : Int32) (y4 : Int32) (y5 : Int32) (y6 : Int32) (kk : TS → Option (Int32 × TS)) : Nat → Int32 → TS → Option (Int32 × TS)
  | 0, _, _ => none
  | fuel + 1, x7, T => if (gI T 2064) ≤ x7 then kk T else ck x7 3000 (ak (gO T 46 (Int32.toNatClampNeg x7)) (ck (0 : Int32) (al (gO T 46 (Int32.toNatClampNeg x7))) (if ¬ (gA T (gO T 46 (Int32.toNatClampNeg x7)) (Int32.toNatClampNeg (0 : Int32))) = y1 then fX11_find_L17 n y1 y2 y3 y4 y5 y6 kk fuel (x7 + 1) T else ak (gO T 46 (Int32.toNatClampNeg x7)) (ck (1 : Int32) (al (gO T 46 (Int32.toNatClampNeg x7))) (if ¬ (gA T (gO T 46 (Int32.toNatClampNeg x7)) (Int32.toNatClampNeg (1 : Int32))) = y2 then fX11_find_L17 n y1 y2 y3 y4 y5 y6 kk fuel (x7 + 1) T else ak (gO T 46 (Int32.toNatClampNeg x7)) (ck (2 : Int32) (al (gO T 46 (Int32.toNatClampNeg x7))) (if ¬ (gA T (gO T 46 (Int32.toNatClampNeg x7)) (Int32.toNatClampNeg (2 : Int32))) = y3 then fX11_find_L17 n y1 y2 y3 y4 y5 y6 kk fuel (x7 + 1) T else ak (gO T 46 (Int32.toNatClampNeg x7)) (ck (3 : Int32) (al (gO T 46 (Int32.toNatClampNeg x7))) (if ¬ (gA T (gO T 46 (Int32.toNatClampNeg x7)) (Int32.toNatClampNeg (3 : Int32))) = y4 then fX11_find_L17 n y1 y2 y3 y4 y5 y6 kk fuel (x7 + 1) T else ak (gO T 46 (Int32.toNatClampNeg x7)) (ck (4 : Int32) (al (gO T 46 (Int32.toNatClampNeg x7))) (if ¬ (gA T (gO T 46 (Int32.toNatClampNeg x7)) (Int32.toNatClampNeg (4 : Int32))) = y5 then fX11_find_L17 n y1 y2 y3 y4 y5 y6 kk fuel (x7 + 1) T else ak (gO T 46 (Int32.toNatClampNeg x7)) (ck (5 : Int32) (al (gO T 46 (Int32.toNatClampNeg x7))) (if ¬ (gA T (gO T 46 (Int32.toNatClampNeg x7)) (Int32.toNatClampNeg (5 : Int32))) = y6 then fX11_find_L17 n y1 y2 y3 y4 y5 y6 kk fuel (x7 + 1) T else some (x7, T))))))))))))))
set_option maxHeartbeats 4000000 in
set_option maxRecDepth 100000 in
theorem lpX11_find_L17 {l : Launch} {k : KT} {n : Nat} {y1 : Int32} {y2 : Int32} {y3 : Int32} {y4 : Int32} {y5 : Int32} {y6 : Int32} {kk : TS → Option (Int32 × TS)} {r : Int32} {T' : TS} (C : CX l k 9 cX11_find RX11 wsX11_find 12 (some .int) (some (.int r), T')) (hk : ∀ T1, kk T1 = some (r, T') → GW k T1 95 [] []) : ∀ (fuel : Nat) (x7 : Int32) (T : TS), fX11_find_L17 n y1 y2 y3 y4 y5 y6 kk fuel x7 T = some (r, T') → GW k T 17 [(0, .ref (ad k.1 41)), (1, .int y1), (2, .int y2), (3, .int y3), (4, .int y4), (5, .int y5), (6, .int y6), (7, .int x7)] [] := by
  intro fuel
  induction fuel with
  | zero => intro x7 T h; cases h
  | succ fuel ih =>
    intro x7 T h
    rw [fX11_find_L17] at h
    refine q_iload C dX11_find_17 7 rfl ?_
    refine q_aload_n C dX11_find_19 rfl 0 rfl ?_
    refine q_get (j := 14) C dX11_find_20 (wE_41 _ _) rfl (by decide) rfl inn_X11_find_11 (by decide +kernel) rfl ?_
    refine q_icmp_ge (tgt := 95) C dX11_find_23 (by decide) h (fun c h => ?_) (fun c h => ?_)
    · refine q_sub [] rfl ?_
      exact hk _ h
    · refine q_aload_n C dX11_find_26 rfl 0 rfl ?_
      refine q_get (j := 15) C dX11_find_27 (wE_41 _ _) rfl (by decide) rfl inn_X11_find_11 (by decide +kernel) rfl ?_
      refine q_iload C dX11_find_30 7 rfl ?_
      refine q_aald C dX11_find_32 (wE_46 _ _) h (fun h => ?_)
      refine q_astore (lv' := [(0, .ref (ad k.1 41)), (1, .int y1), (2, .int y2), (3, .int y3), (4, .int y4), (5, .int y5), (6, .int y6), (7, .int x7), (8, .ref (ad k.1 (gO T 46 (Int32.toNatClampNeg x7))))]) C dX11_find_33 (by decide) rfl ?_
      refine q_aload C dX11_find_35 8 rfl ?_
      refine q_iconst (v := 0) C dX11_find_37 (by decide) ?_
      refine q_ialdG C dX11_find_38 h (fun h => ?_)
      refine q_iload_n C dX11_find_39 rfl 1 rfl ?_
      refine q_icmp_ne (tgt := 89) C dX11_find_40 (by decide) h (fun c h => ?_) (fun c h => ?_)
      · refine q_iinc (j := 7) (v := 1) (lv' := [(0, .ref (ad k.1 41)), (1, .int y1), (2, .int y2), (3, .int y3), (4, .int y4), (5, .int y5), (6, .int y6), (7, .int (x7 + 1)), (8, .ref (ad k.1 (gO T 46 (Int32.toNatClampNeg x7))))]) C dX11_find_89 rfl (by decide) (by decide) rfl ?_
        refine q_goto (tgt := 17) C dX11_find_92 (by decide) ?_
        refine q_sub [0, 1, 2, 3, 4, 5, 6, 7] rfl ?_
        exact ih _ _ h
      · refine q_aload C dX11_find_43 8 rfl ?_
        refine q_iconst (v := 1) C dX11_find_45 (by decide) ?_
        refine q_ialdG C dX11_find_46 h (fun h => ?_)
        refine q_iload_n C dX11_find_47 rfl 2 rfl ?_
        refine q_icmp_ne (tgt := 89) C dX11_find_48 (by decide) h (fun c h => ?_) (fun c h => ?_)
        · refine q_iinc (j := 7) (v := 1) (lv' := [(0, .ref (ad k.1 41)), (1, .int y1), (2, .int y2), (3, .int y3), (4, .int y4), (5, .int y5), (6, .int y6), (7, .int (x7 + 1)), (8, .ref (ad k.1 (gO T 46 (Int32.toNatClampNeg x7))))]) C dX11_find_89 rfl (by decide) (by decide) rfl ?_
          refine q_goto (tgt := 17) C dX11_find_92 (by decide) ?_
          refine q_sub [0, 1, 2, 3, 4, 5, 6, 7] rfl ?_
          exact ih _ _ h
        · refine q_aload C dX11_find_51 8 rfl ?_
          refine q_iconst (v := 2) C dX11_find_53 (by decide) ?_
          refine q_ialdG C dX11_find_54 h (fun h => ?_)
          refine q_iload_n C dX11_find_55 rfl 3 rfl ?_
          refine q_icmp_ne (tgt := 89) C dX11_find_56 (by decide) h (fun c h => ?_) (fun c h => ?_)
          · refine q_iinc (j := 7) (v := 1) (lv' := [(0, .ref (ad k.1 41)), (1, .int y1), (2, .int y2), (3, .int y3), (4, .int y4), (5, .int y5), (6, .int y6), (7, .int (x7 + 1)), (8, .ref (ad k.1 (gO T 46 (Int32.toNatClampNeg x7))))]) C dX11_find_89 rfl (by decide) (by decide) rfl ?_
            refine q_goto (tgt := 17) C dX11_find_92 (by decide) ?_
            refine q_sub [0, 1, 2, 3, 4, 5, 6, 7] rfl ?_
            exact ih _ _ h
          · refine q_aload C dX11_find_59 8 rfl ?_
            refine q_iconst (v := 3) C dX11_find_61 (by decide) ?_
            refine q_ialdG C dX11_find_62 h (fun h => ?_)
            refine q_iload C dX11_find_63 4 rfl ?_
            refine q_icmp_ne (tgt := 89) C dX11_find_65 (by decide) h (fun c h => ?_) (fun c h => ?_)
            · refine q_iinc (j := 7) (v := 1) (lv' := [(0, .ref (ad k.1 41)), (1, .int y1), (2, .int y2), (3, .int y3), (4, .int y4), (5, .int y5), (6, .int y6), (7, .int (x7 + 1)), (8, .ref (ad k.1 (gO T 46 (Int32.toNatClampNeg x7))))]) C dX11_find_89 rfl (by decide) (by decide) rfl ?_
              refine q_goto (tgt := 17) C dX11_find_92 (by decide) ?_
              refine q_sub [0, 1, 2, 3, 4, 5, 6, 7] rfl ?_
              exact ih _ _ h
            · refine q_aload C dX11_find_68 8 rfl ?_
              refine q_iconst (v := 4) C dX11_find_70 (by decide) ?_
              refine q_ialdG C dX11_find_71 h (fun h => ?_)
              refine q_iload C dX11_find_72 5 rfl ?_
              refine q_icmp_ne (tgt := 89) C dX11_find_74 (by decide) h (fun c h => ?_) (fun c h => ?_)
              · refine q_iinc (j := 7) (v := 1) (lv' := [(0, .ref (ad k.1 41)), (1, .int y1), (2, .int y2), (3, .int y3), (4, .int y4), (5, .int y5), (6, .int y6), (7, .int (x7 + 1)), (8, .ref (ad k.1 (gO T 46 (Int32.toNatClampNeg x7))))]) C dX11_find_89 rfl (by decide) (by decide) rfl ?_
                refine q_goto (tgt := 17) C dX11_find_92 (by decide) ?_
                refine q_sub [0, 1, 2, 3, 4, 5, 6, 7] rfl ?_
                exact ih _ _ h
              · refine q_aload C dX11_find_77 8 rfl ?_
                refine q_iconst (v := 5) C dX11_find_79 (by decide) ?_
                refine q_ialdG C dX11_find_80 h (fun h => ?_)
                refine q_iload C dX11_find_81 6 rfl ?_
                refine q_icmp_ne (tgt := 89) C dX11_find_83 (by decide) h (fun c h => ?_) (fun c h => ?_)
                · refine q_iinc (j := 7) (v := 1) (lv' := [(0, .ref (ad k.1 41)), (1, .int y1), (2, .int y2), (3, .int y3), (4, .int y4), (5, .int y5), (6, .int y6), (7, .int (x7 + 1)), (8, .ref (ad k.1 (gO T 46 (Int32.toNatClampNeg x7))))]) C dX11_find_89 rfl (by decide) (by decide) rfl ?_
                  refine q_goto (tgt := 17) C dX11_find_92 (by decide) ?_
                  refine q_sub [0, 1, 2, 3, 4, 5, 6, 7] rfl ?_
                  exact ih _ _ h
                · refine q_iload C dX11_find_86 7 rfl ?_
                  exact q_ireturn C dX11_find_88 h
def fX11_find (n : Nat) (p0 : Int32) (p1 : Int32) (p2 : Int32) (p3 : Int32) (p4 : Int32) (p5 : Int32) (T : TS) : Option (Int32 × TS) := nm (uI T 2050 (0 : Int32)) (fun T_1 => bd (fX11_isNumbered n T_1) (fun r_3 T_2 => if ¬ r_3 = 0 then fX11_find_L17 n p0 p1 p2 p3 p4 p5 (fun T_4 => some ((-1 : Int32), T_4)) n (0 : Int32) T_2 else some ((-1 : Int32), T_2)))
set_option maxHeartbeats 4000000 in
set_option maxRecDepth 100000 in
theorem mtX11_find (l : Launch) (X : XT) (n : Nat) (p0 : Int32) (p1 : Int32) (p2 : Int32) (p3 : Int32) (p4 : Int32) (p5 : Int32) (T T' : TS) (r : Int32) (h : fX11_find n p0 p1 p2 p3 p4 p5 T = some (r, T')) : Met l yX11_find wsX11_find (RM 12) (PreX X [.ref (ad X 41), .int p0, .int p1, .int p2, .int p3, .int p4, .int p5] T) (QQ X (some (.int r)) T') 0 0 (xA X) := by
  refine q_start (by decide) rfl (Nat.le_of_ble_eq_true rfl) ?_
  intro k hk C
  subst hk
  show GW k T 0 [(0, .ref (ad k.1 41)), (1, .int p0), (2, .int p1), (3, .int p2), (4, .int p3), (5, .int p4), (6, .int p5)] []
  unfold fX11_find at h
  refine q_aload_n C dX11_find_0 rfl 0 rfl ?_
  refine q_iconst (v := 0) C dX11_find_1 (by decide) ?_
  refine q_putI (j := 0) (ty := .int) C dX11_find_2 (wE_41 _ _) (wP_41_0 _ _ _) rfl (by decide) (Nat.le_of_ble_eq_true rfl) tyX11 tyX11_ok nmX11 inn_X11_find_11 (by decide +kernel) rfl rfl (by decide +kernel) rfl rfl h (fun T_1 h => ?_)
  refine q_aload_n C dX11_find_5 rfl 0 rfl ?_
  obtain ⟨r_3, T_2, hc, h⟩ := bd_some h
  refine q_callV (st' := [.int r_3]) C dX11_find_6 [] [] (mtX11_isNumbered l _ n _ _ _ hc) gX11_find_X11_isNumbered rfl hd_X11_isNumbered (by decide) (by decide) (wE_41 _ _) rfl rfl rfl (Nat.le_of_ble_eq_true rfl) rfl ?_
  clear hc
  refine q_if_ne (tgt := 14) C dX11_find_9 (by decide) h (fun c h => ?_) (fun c h => ?_)
  · refine q_iconst (v := 0) C dX11_find_14 (by decide) ?_
    refine q_istore (lv' := [(0, .ref (ad k.1 41)), (1, .int p0), (2, .int p1), (3, .int p2), (4, .int p3), (5, .int p4), (6, .int p5), (7, .int (0 : Int32))]) C dX11_find_15 (by decide) rfl ?_
    refine q_sub [0, 1, 2, 3, 4, 5, 6, 7] rfl ?_
    refine lpX11_find_L17 C (fun T_4 h => ?_) _ _ _ h
    refine q_iconst (v := -1) C dX11_find_95 (by decide) ?_
    exact q_ireturn C dX11_find_96 h
  · refine q_iconst (v := -1) C dX11_find_12 (by decide) ?_
    exact q_ireturn C dX11_find_13 h
def fX11_price (n : Nat) (p0 : Int32) (p1 : Int32) (T : TS) : Option (Int32 × TS) := nm (uI T 2050 (0 : Int32)) (fun T_1 => if ¬ p0 = (-1 : Int32) then bd (fX11_isWidth n p0 T_1) (fun r_3 T_2 => if r_3 = 0 then rz (0 : Int32) T_2 else bd (fX11_in n p1 (0 : Int32) (1000000 : Int32) T_2) (fun r_5 T_4 => if ¬ r_5 = 0 then ck p0 6 (nm (sA T_4 45 p0 p1) (fun T_6 => rz (1 : Int32) T_6)) else rz (0 : Int32) T_4)) else bd (fX11_in n p1 (1 : Int32) (1000000 : Int32) T_1) (fun r_8 T_7 => if ¬ r_8 = 0 then nm (uI T_7 2061 p1) (fun T_9 => rz (1 : Int32) T_9) else rz (0 : Int32) T_7))
set_option maxHeartbeats 4000000 in
set_option maxRecDepth 100000 in
theorem mtX11_price (l : Launch) (X : XT) (n : Nat) (p0 : Int32) (p1 : Int32) (T T' : TS) (r : Int32) (h : fX11_price n p0 p1 T = some (r, T')) : Met l yX11_price wsX11_price (RM 2) (PreX X [.ref (ad X 41), .int p0, .int p1] T) (QQ X (some (.int r)) T') 0 0 (xA X) := by
  refine q_start (by decide) rfl (Nat.le_of_ble_eq_true rfl) ?_
  intro k hk C
  subst hk
  show GW k T 0 [(0, .ref (ad k.1 41)), (1, .int p0), (2, .int p1)] []
  unfold fX11_price at h
  refine q_aload_n C dX11_price_0 rfl 0 rfl ?_
  refine q_iconst (v := 0) C dX11_price_1 (by decide) ?_
  refine q_putI (j := 0) (ty := .int) C dX11_price_2 (wE_41 _ _) (wP_41_0 _ _ _) rfl (by decide) (Nat.le_of_ble_eq_true rfl) tyX11 tyX11_ok nmX11 inn_X11_price_11 (by decide +kernel) rfl rfl (by decide +kernel) rfl rfl h (fun T_1 h => ?_)
  refine q_iload_n C dX11_price_5 rfl 1 rfl ?_
  refine q_iconst (v := -1) C dX11_price_6 (by decide) ?_
  refine q_icmp_ne (tgt := 29) C dX11_price_7 (by decide) h (fun c h => ?_) (fun c h => ?_)
  · refine q_aload_n C dX11_price_29 rfl 0 rfl ?_
    refine q_iload_n C dX11_price_30 rfl 1 rfl ?_
    obtain ⟨r_3, T_2, hc, h⟩ := bd_some h
    refine q_callV (st' := [.int r_3]) C dX11_price_31 [.int p0] [] (mtX11_isWidth l _ n _ _ _ _ hc) gX11_price_X11_isWidth rfl hd_X11_isWidth (by decide) (by decide) (wE_41 _ _) rfl rfl rfl (Nat.le_of_ble_eq_true rfl) rfl ?_
    clear hc
    refine q_if_eq (tgt := 47) C dX11_price_34 (by decide) h (fun c h => ?_) (fun c h => ?_)
    · refine q_iconst (v := 0) C dX11_price_47 (by decide) ?_
      exact q_zreturn C dX11_price_48 h
    · refine q_iload_n C dX11_price_37 rfl 2 rfl ?_
      refine q_iconst (v := 0) C dX11_price_38 (by decide) ?_
      refine q_ldc (v := 1000000) C dX11_price_39 (by decide +kernel) ?_
      obtain ⟨r_5, T_4, hc, h⟩ := bd_some h
      refine q_callS (st' := [.int r_5]) C dX11_price_41 [.int p1, .int (0 : Int32), .int (1000000 : Int32)] [] (mtX11_in l _ n _ _ _ _ _ _ hc) gX11_price_X11_in rfl hd_X11_in (by decide) (by decide) rfl rfl (Nat.le_of_ble_eq_true rfl) rfl ?_
      clear hc
      refine q_if_ne (tgt := 49) C dX11_price_44 (by decide) h (fun c h => ?_) (fun c h => ?_)
      · refine q_aload_n C dX11_price_49 rfl 0 rfl ?_
        refine q_get (j := 10) C dX11_price_50 (wE_41 _ _) rfl (by decide) rfl inn_X11_price_11 (by decide +kernel) rfl ?_
        refine q_iload_n C dX11_price_53 rfl 1 rfl ?_
        refine q_iload_n C dX11_price_54 rfl 2 rfl ?_
        refine q_iast C dX11_price_55 (wE_45 _ _) (wS_45 _ _) h (fun T_6 h => ?_)
        refine q_iconst (v := 1) C dX11_price_56 (by decide) ?_
        exact q_zreturn C dX11_price_57 h
      · refine q_iconst (v := 0) C dX11_price_47 (by decide) ?_
        exact q_zreturn C dX11_price_48 h
  · refine q_iload_n C dX11_price_10 rfl 2 rfl ?_
    refine q_iconst (v := 1) C dX11_price_11 (by decide) ?_
    refine q_ldc (v := 1000000) C dX11_price_12 (by decide +kernel) ?_
    obtain ⟨r_8, T_7, hc, h⟩ := bd_some h
    refine q_callS (st' := [.int r_8]) C dX11_price_14 [.int p1, .int (1 : Int32), .int (1000000 : Int32)] [] (mtX11_in l _ n _ _ _ _ _ _ hc) gX11_price_X11_in rfl hd_X11_in (by decide) (by decide) rfl rfl (Nat.le_of_ble_eq_true rfl) rfl ?_
    clear hc
    refine q_if_ne (tgt := 22) C dX11_price_17 (by decide) h (fun c h => ?_) (fun c h => ?_)
    · refine q_aload_n C dX11_price_22 rfl 0 rfl ?_
      refine q_iload_n C dX11_price_23 rfl 2 rfl ?_
      refine q_putI (j := 11) (ty := .int) C dX11_price_24 (wE_41 _ _) (wP_41_11 _ _ _) rfl (by decide) (Nat.le_of_ble_eq_true rfl) tyX11 tyX11_ok nmX11 inn_X11_price_11 (by decide +kernel) rfl rfl (by decide +kernel) rfl rfl h (fun T_9 h => ?_)
      refine q_iconst (v := 1) C dX11_price_27 (by decide) ?_
      exact q_zreturn C dX11_price_28 h
    · refine q_iconst (v := 0) C dX11_price_20 (by decide) ?_
      exact q_zreturn C dX11_price_21 h
def fX11_bestOf_L4 (n : Nat) (kk : Int32 → TS → Option (Int32 × TS)) : Nat → Int32 → Int32 → TS → Option (Int32 × TS)
  | 0, _, _, _ => none
  | fuel + 1, x1, x2, T => if (gI T 2064) ≤ x2 then kk x1 T else if x1 = (-1 : Int32) then fX11_bestOf_L4 n kk fuel x2 (x2 + 1) T else ck x2 3000 (bd (fX11_worthOf n (gO T 46 (Int32.toNatClampNeg x2)) T) (fun r_2 T_1 => ck x1 3000 (bd (fX11_worthOf n (gO T_1 46 (Int32.toNatClampNeg x1)) T_1) (fun r_4 T_3 => if (lg_cmp r_2 r_4) ≤ 0 then fX11_bestOf_L4 n kk fuel x1 (x2 + 1) T_3 else fX11_bestOf_L4 n kk fuel x2 (x2 + 1) T_3))))
set_option maxHeartbeats 4000000 in
set_option maxRecDepth 100000 in
theorem lpX11_bestOf_L4 {l : Launch} {k : KT} {n : Nat} {kk : Int32 → TS → Option (Int32 × TS)} {r : Int32} {T' : TS} (C : CX l k 3 cX11_bestOf RX11 wsX11_bestOf 1 (some .int) (some (.int r), T')) (hk : ∀ e1 T1, kk e1 T1 = some (r, T') → GW k T1 49 [(1, .int e1)] []) : ∀ (fuel : Nat) (x1 : Int32) (x2 : Int32) (T : TS), fX11_bestOf_L4 n kk fuel x1 x2 T = some (r, T') → GW k T 4 [(0, .ref (ad k.1 41)), (1, .int x1), (2, .int x2)] [] := by
  intro fuel
  induction fuel with
  | zero => intro x1 x2 T h; cases h
  | succ fuel ih =>
    intro x1 x2 T h
    rw [fX11_bestOf_L4] at h
    refine q_iload_n C dX11_bestOf_4 rfl 2 rfl ?_
    refine q_aload_n C dX11_bestOf_5 rfl 0 rfl ?_
    refine q_get (j := 14) C dX11_bestOf_6 (wE_41 _ _) rfl (by decide) rfl inn_X11_bestOf_11 (by decide +kernel) rfl ?_
    refine q_icmp_ge (tgt := 49) C dX11_bestOf_9 (by decide) h (fun c h => ?_) (fun c h => ?_)
    · refine q_sub [1] rfl ?_
      exact hk _ _ h
    · refine q_iload_n C dX11_bestOf_12 rfl 1 rfl ?_
      refine q_iconst (v := -1) C dX11_bestOf_13 (by decide) ?_
      refine q_icmp_eq (tgt := 41) C dX11_bestOf_14 (by decide) h (fun c h => ?_) (fun c h => ?_)
      · refine q_iload_n C dX11_bestOf_41 rfl 2 rfl ?_
        refine q_istore_n (lv' := [(0, .ref (ad k.1 41)), (1, .int x2), (2, .int x2)]) C dX11_bestOf_42 rfl (by decide) rfl ?_
        refine q_iinc (j := 2) (v := 1) (lv' := [(0, .ref (ad k.1 41)), (1, .int x2), (2, .int (x2 + 1))]) C dX11_bestOf_43 rfl (by decide) (by decide) rfl ?_
        refine q_goto (tgt := 4) C dX11_bestOf_46 (by decide) ?_
        refine q_sub [0, 1, 2] rfl ?_
        exact ih _ _ _ h
      · refine q_aload_n C dX11_bestOf_17 rfl 0 rfl ?_
        refine q_aload_n C dX11_bestOf_18 rfl 0 rfl ?_
        refine q_get (j := 15) C dX11_bestOf_19 (wE_41 _ _) rfl (by decide) rfl inn_X11_bestOf_11 (by decide +kernel) rfl ?_
        refine q_iload_n C dX11_bestOf_22 rfl 2 rfl ?_
        refine q_aald C dX11_bestOf_23 (wE_46 _ _) h (fun h => ?_)
        obtain ⟨r_2, T_1, hc, h⟩ := bd_some h
        refine q_callV (st' := [.long r_2]) C dX11_bestOf_24 [.ref (ad k.1 (gO T 46 (Int32.toNatClampNeg x2)))] [] (mtX11_worthOf l _ n _ _ _ _ hc) gX11_bestOf_X11_worthOf rfl hd_X11_worthOf (by decide) (by decide) (wE_41 _ _) rfl rfl rfl (Nat.le_of_ble_eq_true rfl) rfl ?_
        clear hc
        refine q_aload_n C dX11_bestOf_27 rfl 0 rfl ?_
        refine q_aload_n C dX11_bestOf_28 rfl 0 rfl ?_
        refine q_get (j := 15) C dX11_bestOf_29 (wE_41 _ _) rfl (by decide) rfl inn_X11_bestOf_11 (by decide +kernel) rfl ?_
        refine q_iload_n C dX11_bestOf_32 rfl 1 rfl ?_
        refine q_aald C dX11_bestOf_33 (wE_46 _ _) h (fun h => ?_)
        obtain ⟨r_4, T_3, hc, h⟩ := bd_some h
        refine q_callV (st' := [.long r_4, .long r_2]) C dX11_bestOf_34 [.ref (ad k.1 (gO T_1 46 (Int32.toNatClampNeg x1)))] [.long r_2] (mtX11_worthOf l _ n _ _ _ _ hc) gX11_bestOf_X11_worthOf rfl hd_X11_worthOf (by decide) (by decide) (wE_41 _ _) rfl rfl rfl (Nat.le_of_ble_eq_true rfl) rfl ?_
        clear hc
        refine q_lcmp C dX11_bestOf_37 ?_
        refine q_if_le (tgt := 43) C dX11_bestOf_38 (by decide) h (fun c h => ?_) (fun c h => ?_)
        · refine q_iinc (j := 2) (v := 1) (lv' := [(0, .ref (ad k.1 41)), (1, .int x1), (2, .int (x2 + 1))]) C dX11_bestOf_43 rfl (by decide) (by decide) rfl ?_
          refine q_goto (tgt := 4) C dX11_bestOf_46 (by decide) ?_
          refine q_sub [0, 1, 2] rfl ?_
          exact ih _ _ _ h
        · refine q_iload_n C dX11_bestOf_41 rfl 2 rfl ?_
          refine q_istore_n (lv' := [(0, .ref (ad k.1 41)), (1, .int x2), (2, .int x2)]) C dX11_bestOf_42 rfl (by decide) rfl ?_
          refine q_iinc (j := 2) (v := 1) (lv' := [(0, .ref (ad k.1 41)), (1, .int x2), (2, .int (x2 + 1))]) C dX11_bestOf_43 rfl (by decide) (by decide) rfl ?_
          refine q_goto (tgt := 4) C dX11_bestOf_46 (by decide) ?_
          refine q_sub [0, 1, 2] rfl ?_
          exact ih _ _ _ h
def fX11_bestOf (n : Nat) (T : TS) : Option (Int32 × TS) := fX11_bestOf_L4 n (fun e1_5 T_6 => some (e1_5, T_6)) n (-1 : Int32) (0 : Int32) T
set_option maxHeartbeats 4000000 in
set_option maxRecDepth 100000 in
theorem mtX11_bestOf (l : Launch) (X : XT) (n : Nat) (T T' : TS) (r : Int32) (h : fX11_bestOf n T = some (r, T')) : Met l yX11_bestOf wsX11_bestOf (RM 1) (PreX X [.ref (ad X 41)] T) (QQ X (some (.int r)) T') 0 0 (xA X) := by
  refine q_start (by decide) rfl (Nat.le_of_ble_eq_true rfl) ?_
  intro k hk C
  subst hk
  show GW k T 0 [(0, .ref (ad k.1 41))] []
  unfold fX11_bestOf at h
  refine q_iconst (v := -1) C dX11_bestOf_0 (by decide) ?_
  refine q_istore_n (lv' := [(0, .ref (ad k.1 41)), (1, .int (-1 : Int32))]) C dX11_bestOf_1 rfl (by decide) rfl ?_
  refine q_iconst (v := 0) C dX11_bestOf_2 (by decide) ?_
  refine q_istore_n (lv' := [(0, .ref (ad k.1 41)), (1, .int (-1 : Int32)), (2, .int (0 : Int32))]) C dX11_bestOf_3 rfl (by decide) rfl ?_
  refine q_sub [0, 1, 2] rfl ?_
  refine lpX11_bestOf_L4 C (fun e1_5 T_6 h => ?_) _ _ _ _ h
  refine q_iload_n C dX11_bestOf_49 rfl 0 rfl ?_
  exact q_ireturn C dX11_bestOf_50 h
def fX11_best (n : Nat) (T : TS) : Option (Int32 × TS) := nm (uI T 2050 (0 : Int32)) (fun T_1 => bd (fX11_isNumbered n T_1) (fun r_3 T_2 => if r_3 = 0 then some ((-1 : Int32), T_2) else bd (fX11_bestOf n T_2) (fun r_5 T_4 => some (r_5, T_4))))
set_option maxHeartbeats 4000000 in
set_option maxRecDepth 100000 in
theorem mtX11_best (l : Launch) (X : XT) (n : Nat) (T T' : TS) (r : Int32) (h : fX11_best n T = some (r, T')) : Met l yX11_best wsX11_best (RM 12) (PreX X [.ref (ad X 41)] T) (QQ X (some (.int r)) T') 0 0 (xA X) := by
  refine q_start (by decide) rfl (Nat.le_of_ble_eq_true rfl) ?_
  intro k hk C
  subst hk
  show GW k T 0 [(0, .ref (ad k.1 41))] []
  unfold fX11_best at h
  refine q_aload_n C dX11_best_0 rfl 0 rfl ?_
  refine q_iconst (v := 0) C dX11_best_1 (by decide) ?_
  refine q_putI (j := 0) (ty := .int) C dX11_best_2 (wE_41 _ _) (wP_41_0 _ _ _) rfl (by decide) (Nat.le_of_ble_eq_true rfl) tyX11 tyX11_ok nmX11 inn_X11_best_11 (by decide +kernel) rfl rfl (by decide +kernel) rfl rfl h (fun T_1 h => ?_)
  refine q_aload_n C dX11_best_5 rfl 0 rfl ?_
  obtain ⟨r_3, T_2, hc, h⟩ := bd_some h
  refine q_callV (st' := [.int r_3]) C dX11_best_6 [] [] (mtX11_isNumbered l _ n _ _ _ hc) gX11_best_X11_isNumbered rfl hd_X11_isNumbered (by decide) (by decide) (wE_41 _ _) rfl rfl rfl (Nat.le_of_ble_eq_true rfl) rfl ?_
  clear hc
  refine q_if_eq (tgt := 19) C dX11_best_9 (by decide) h (fun c h => ?_) (fun c h => ?_)
  · refine q_iconst (v := -1) C dX11_best_19 (by decide) ?_
    exact q_ireturn C dX11_best_20 h
  · refine q_aload_n C dX11_best_12 rfl 0 rfl ?_
    obtain ⟨r_5, T_4, hc, h⟩ := bd_some h
    refine q_callV (st' := [.int r_5]) C dX11_best_13 [] [] (mtX11_bestOf l _ n _ _ _ hc) gX11_best_X11_bestOf rfl hd_X11_bestOf (by decide) (by decide) (wE_41 _ _) rfl rfl rfl (Nat.le_of_ble_eq_true rfl) rfl ?_
    clear hc
    refine q_goto (tgt := 20) C dX11_best_16 (by decide) ?_
    exact q_ireturn C dX11_best_20 h
def fX11_bound_L50 (n : Nat) (kk : Int64 → TS → Option (Int32 × TS)) : Nat → Int64 → Int32 → TS → Option (Int32 × TS)
  | 0, _, _, _ => none
  | fuel + 1, x2, x4, T => if (gI T 2056) ≤ x4 then kk x2 T else bd (fX11_wanted n x4 T) (fun r_7 T_6 => ck x4 6 (nm (x2 + ((Int32.toInt64 r_7) * (Int32.toInt64 (gA T_6 45 (Int32.toNatClampNeg x4))))) (fun x2_8 => fX11_bound_L50 n kk fuel x2_8 (x4 + 1) T_6)))
set_option maxHeartbeats 4000000 in
set_option maxRecDepth 100000 in
theorem lpX11_bound_L50 {l : Launch} {k : KT} {n : Nat} {kk : Int64 → TS → Option (Int32 × TS)} {r : Int32} {T' : TS} (C : CX l k 5 cX11_bound RX11 wsX11_bound 12 (some .int) (some (.int r), T')) (hk : ∀ e2 T1, kk e2 T1 = some (r, T') → GW k T1 84 [(0, .ref (ad k.1 41)), (2, .long e2)] []) : ∀ (fuel : Nat) (x2 : Int64) (x4 : Int32) (T : TS), fX11_bound_L50 n kk fuel x2 x4 T = some (r, T') → GW k T 50 [(0, .ref (ad k.1 41)), (2, .long x2), (4, .int x4)] [] := by
  intro fuel
  induction fuel with
  | zero => intro x2 x4 T h; cases h
  | succ fuel ih =>
    intro x2 x4 T h
    rw [fX11_bound_L50] at h
    refine q_iload C dX11_bound_50 2 rfl ?_
    refine q_aload_n C dX11_bound_52 rfl 0 rfl ?_
    refine q_get (j := 6) C dX11_bound_53 (wE_41 _ _) rfl (by decide) rfl inn_X11_bound_11 (by decide +kernel) rfl ?_
    refine q_icmp_ge (tgt := 84) C dX11_bound_56 (by decide) h (fun c h => ?_) (fun c h => ?_)
    · refine q_sub [0, 1] rfl ?_
      exact hk _ _ h
    · refine q_lload_n C dX11_bound_59 rfl 1 rfl ?_
      refine q_aload_n C dX11_bound_60 rfl 0 rfl ?_
      refine q_iload C dX11_bound_61 2 rfl ?_
      obtain ⟨r_7, T_6, hc, h⟩ := bd_some h
      refine q_callV (st' := [.int r_7, .long x2]) C dX11_bound_63 [.int x4] [.long x2] (mtX11_wanted l _ n _ _ _ _ hc) gX11_bound_X11_wanted rfl hd_X11_wanted (by decide) (by decide) (wE_41 _ _) rfl rfl rfl (Nat.le_of_ble_eq_true rfl) rfl ?_
      clear hc
      refine q_i2l C dX11_bound_66 ?_
      refine q_aload_n C dX11_bound_67 rfl 0 rfl ?_
      refine q_get (j := 10) C dX11_bound_68 (wE_41 _ _) rfl (by decide) rfl inn_X11_bound_11 (by decide +kernel) rfl ?_
      refine q_iload C dX11_bound_71 2 rfl ?_
      refine q_iald C dX11_bound_73 (wE_45 _ _) h (fun h => ?_)
      refine q_i2l C dX11_bound_74 ?_
      refine q_lmul C dX11_bound_75 ?_
      refine q_ladd C dX11_bound_76 ?_
      refine q_nml h (fun x2_8 h => ?_)
      refine q_lstore_n (lv' := [(0, .ref (ad k.1 41)), (2, .long x2_8), (4, .int x4)]) C dX11_bound_77 rfl (by decide) rfl ?_
      refine q_iinc (j := 2) (v := 1) (lv' := [(0, .ref (ad k.1 41)), (2, .long x2_8), (4, .int (x4 + 1))]) C dX11_bound_78 rfl (by decide) (by decide) rfl ?_
      refine q_goto (tgt := 50) C dX11_bound_81 (by decide) ?_
      refine q_sub [0, 1, 2] rfl ?_
      exact ih _ _ _ h
def fX11_bound (n : Nat) (T : TS) : Option (Int32 × TS) := nm (uI T 2050 (0 : Int32)) (fun T_1 => bd (fX11_isNumbered n T_1) (fun r_3 T_2 => if ¬ r_3 = 0 then bd (fX11_bestOf n T_2) (fun r_5 T_4 => if r_5 = (-1 : Int32) then fX11_bound_L50 n (fun e2_9 T_10 => nzl (Int32.toInt64 (gI T_10 2061)) (some ((Int64.toInt32 (((e2_9 + (Int32.toInt64 (gI T_10 2061))) - (1 : Int64)) / (Int32.toInt64 (gI T_10 2061)))), T_10))) n (0 : Int64) (0 : Int32) T_4 else ck r_5 3000 (bd (fX11_worthOf n (gO T_4 46 (Int32.toNatClampNeg r_5)) T_4) (fun r_12 T_11 => if (lg_cmp r_12 (Int32.toInt64 (gI T_11 2061))) ≤ 0 then fX11_bound_L50 n (fun e2_13 T_14 => nzl (Int32.toInt64 (gI T_14 2061)) (some ((Int64.toInt32 (((e2_13 + (Int32.toInt64 (gI T_14 2061))) - (1 : Int64)) / (Int32.toInt64 (gI T_14 2061)))), T_14))) n (0 : Int64) (0 : Int32) T_11 else some ((-1 : Int32), T_11)))) else some ((-1 : Int32), T_2)))
set_option maxHeartbeats 4000000 in
set_option maxRecDepth 100000 in
theorem mtX11_bound (l : Launch) (X : XT) (n : Nat) (T T' : TS) (r : Int32) (h : fX11_bound n T = some (r, T')) : Met l yX11_bound wsX11_bound (RM 12) (PreX X [.ref (ad X 41)] T) (QQ X (some (.int r)) T') 0 0 (xA X) := by
  refine q_start (by decide) rfl (Nat.le_of_ble_eq_true rfl) ?_
  intro k hk C
  subst hk
  show GW k T 0 [(0, .ref (ad k.1 41))] []
  unfold fX11_bound at h
  refine q_aload_n C dX11_bound_0 rfl 0 rfl ?_
  refine q_iconst (v := 0) C dX11_bound_1 (by decide) ?_
  refine q_putI (j := 0) (ty := .int) C dX11_bound_2 (wE_41 _ _) (wP_41_0 _ _ _) rfl (by decide) (Nat.le_of_ble_eq_true rfl) tyX11 tyX11_ok nmX11 inn_X11_bound_11 (by decide +kernel) rfl rfl (by decide +kernel) rfl rfl h (fun T_1 h => ?_)
  refine q_aload_n C dX11_bound_5 rfl 0 rfl ?_
  obtain ⟨r_3, T_2, hc, h⟩ := bd_some h
  refine q_callV (st' := [.int r_3]) C dX11_bound_6 [] [] (mtX11_isNumbered l _ n _ _ _ hc) gX11_bound_X11_isNumbered rfl hd_X11_isNumbered (by decide) (by decide) (wE_41 _ _) rfl rfl rfl (Nat.le_of_ble_eq_true rfl) rfl ?_
  clear hc
  refine q_if_ne (tgt := 14) C dX11_bound_9 (by decide) h (fun c h => ?_) (fun c h => ?_)
  · refine q_aload_n C dX11_bound_14 rfl 0 rfl ?_
    obtain ⟨r_5, T_4, hc, h⟩ := bd_some h
    refine q_callV (st' := [.int r_5]) C dX11_bound_15 [] [] (mtX11_bestOf l _ n _ _ _ hc) gX11_bound_X11_bestOf rfl hd_X11_bestOf (by decide) (by decide) (wE_41 _ _) rfl rfl rfl (Nat.le_of_ble_eq_true rfl) rfl ?_
    clear hc
    refine q_istore_n (lv' := [(0, .ref (ad k.1 41)), (1, .int r_5)]) C dX11_bound_18 rfl (by decide) rfl ?_
    refine q_iload_n C dX11_bound_19 rfl 1 rfl ?_
    refine q_iconst (v := -1) C dX11_bound_20 (by decide) ?_
    refine q_icmp_eq (tgt := 45) C dX11_bound_21 (by decide) h (fun c h => ?_) (fun c h => ?_)
    · refine q_lconst (v := 0) C dX11_bound_45 (by decide) ?_
      refine q_lstore_n (lv' := [(0, .ref (ad k.1 41)), (1, .int r_5), (2, .long (0 : Int64))]) C dX11_bound_46 rfl (by decide) rfl ?_
      refine q_iconst (v := 0) C dX11_bound_47 (by decide) ?_
      refine q_istore (lv' := [(0, .ref (ad k.1 41)), (1, .int r_5), (2, .long (0 : Int64)), (4, .int (0 : Int32))]) C dX11_bound_48 (by decide) rfl ?_
      refine q_sub [0, 2, 3] rfl ?_
      refine lpX11_bound_L50 C (fun e2_9 T_10 h => ?_) _ _ _ _ h
      refine q_lload_n C dX11_bound_84 rfl 1 rfl ?_
      refine q_aload_n C dX11_bound_85 rfl 0 rfl ?_
      refine q_get (j := 11) C dX11_bound_86 (wE_41 _ _) rfl (by decide) rfl inn_X11_bound_11 (by decide +kernel) rfl ?_
      refine q_i2l C dX11_bound_89 ?_
      refine q_ladd C dX11_bound_90 ?_
      refine q_lconst (v := 1) C dX11_bound_91 (by decide) ?_
      refine q_lsub C dX11_bound_92 ?_
      refine q_aload_n C dX11_bound_93 rfl 0 rfl ?_
      refine q_get (j := 11) C dX11_bound_94 (wE_41 _ _) rfl (by decide) rfl inn_X11_bound_11 (by decide +kernel) rfl ?_
      refine q_i2l C dX11_bound_97 ?_
      refine q_ldiv C dX11_bound_98 h (fun h => ?_)
      refine q_l2i C dX11_bound_99 ?_
      exact q_ireturn C dX11_bound_100 h
    · refine q_aload_n C dX11_bound_24 rfl 0 rfl ?_
      refine q_aload_n C dX11_bound_25 rfl 0 rfl ?_
      refine q_get (j := 15) C dX11_bound_26 (wE_41 _ _) rfl (by decide) rfl inn_X11_bound_11 (by decide +kernel) rfl ?_
      refine q_iload_n C dX11_bound_29 rfl 1 rfl ?_
      refine q_aald C dX11_bound_30 (wE_46 _ _) h (fun h => ?_)
      obtain ⟨r_12, T_11, hc, h⟩ := bd_some h
      refine q_callV (st' := [.long r_12]) C dX11_bound_31 [.ref (ad k.1 (gO T_4 46 (Int32.toNatClampNeg r_5)))] [] (mtX11_worthOf l _ n _ _ _ _ hc) gX11_bound_X11_worthOf rfl hd_X11_worthOf (by decide) (by decide) (wE_41 _ _) rfl rfl rfl (Nat.le_of_ble_eq_true rfl) rfl ?_
      clear hc
      refine q_aload_n C dX11_bound_34 rfl 0 rfl ?_
      refine q_get (j := 11) C dX11_bound_35 (wE_41 _ _) rfl (by decide) rfl inn_X11_bound_11 (by decide +kernel) rfl ?_
      refine q_i2l C dX11_bound_38 ?_
      refine q_lcmp C dX11_bound_39 ?_
      refine q_if_le (tgt := 45) C dX11_bound_40 (by decide) h (fun c h => ?_) (fun c h => ?_)
      · refine q_lconst (v := 0) C dX11_bound_45 (by decide) ?_
        refine q_lstore_n (lv' := [(0, .ref (ad k.1 41)), (1, .int r_5), (2, .long (0 : Int64))]) C dX11_bound_46 rfl (by decide) rfl ?_
        refine q_iconst (v := 0) C dX11_bound_47 (by decide) ?_
        refine q_istore (lv' := [(0, .ref (ad k.1 41)), (1, .int r_5), (2, .long (0 : Int64)), (4, .int (0 : Int32))]) C dX11_bound_48 (by decide) rfl ?_
        refine q_sub [0, 2, 3] rfl ?_
        refine lpX11_bound_L50 C (fun e2_13 T_14 h => ?_) _ _ _ _ h
        refine q_lload_n C dX11_bound_84 rfl 1 rfl ?_
        refine q_aload_n C dX11_bound_85 rfl 0 rfl ?_
        refine q_get (j := 11) C dX11_bound_86 (wE_41 _ _) rfl (by decide) rfl inn_X11_bound_11 (by decide +kernel) rfl ?_
        refine q_i2l C dX11_bound_89 ?_
        refine q_ladd C dX11_bound_90 ?_
        refine q_lconst (v := 1) C dX11_bound_91 (by decide) ?_
        refine q_lsub C dX11_bound_92 ?_
        refine q_aload_n C dX11_bound_93 rfl 0 rfl ?_
        refine q_get (j := 11) C dX11_bound_94 (wE_41 _ _) rfl (by decide) rfl inn_X11_bound_11 (by decide +kernel) rfl ?_
        refine q_i2l C dX11_bound_97 ?_
        refine q_ldiv C dX11_bound_98 h (fun h => ?_)
        refine q_l2i C dX11_bound_99 ?_
        exact q_ireturn C dX11_bound_100 h
      · refine q_iconst (v := -1) C dX11_bound_43 (by decide) ?_
        exact q_ireturn C dX11_bound_44 h
  · refine q_iconst (v := -1) C dX11_bound_12 (by decide) ?_
    exact q_ireturn C dX11_bound_13 h
