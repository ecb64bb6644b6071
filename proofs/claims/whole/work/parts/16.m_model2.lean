theorem hd_X11_becomes : yX11_becomes.cls = RX11 ∧ yX11_becomes.cls ≠ "java/lang/invoke/MethodHandle" ∧ yX11_becomes.cls ≠ "java/lang/invoke/VarHandle" ∧ (parseMethodDescriptor yX11_becomes.desc).map (fun d => d.parameters.length) = some 0 := by decide +kernel
theorem hd_X11_behind : yX11_behind.cls = RX11 ∧ yX11_behind.cls ≠ "java/lang/invoke/MethodHandle" ∧ yX11_behind.cls ≠ "java/lang/invoke/VarHandle" ∧ (parseMethodDescriptor yX11_behind.desc).map (fun d => d.parameters.length) = some 2 := by decide +kernel
theorem hd_X11_copy : yX11_copy.cls ≠ "java/lang/invoke/MethodHandle" ∧ yX11_copy.cls ≠ "java/lang/invoke/VarHandle" ∧ (parseMethodDescriptor yX11_copy.desc).map (fun d => d.parameters.length) = some 5 := by decide +kernel
theorem hd_X11_cutsOf : yX11_cutsOf.cls = RX11 ∧ yX11_cutsOf.cls ≠ "java/lang/invoke/MethodHandle" ∧ yX11_cutsOf.cls ≠ "java/lang/invoke/VarHandle" ∧ (parseMethodDescriptor yX11_cutsOf.desc).map (fun d => d.parameters.length) = some 2 := by decide +kernel
theorem hd_X11_goes : yX11_goes.cls = RX11 ∧ yX11_goes.cls ≠ "java/lang/invoke/MethodHandle" ∧ yX11_goes.cls ≠ "java/lang/invoke/VarHandle" ∧ (parseMethodDescriptor yX11_goes.desc).map (fun d => d.parameters.length) = some 1 := by decide +kernel
theorem hd_X11_isSlot : yX11_isSlot.cls = RX11 ∧ yX11_isSlot.cls ≠ "java/lang/invoke/MethodHandle" ∧ yX11_isSlot.cls ≠ "java/lang/invoke/VarHandle" ∧ (parseMethodDescriptor yX11_isSlot.desc).map (fun d => d.parameters.length) = some 1 := by decide +kernel
theorem hd_X11_isTooWide : yX11_isTooWide.cls = RX11 ∧ yX11_isTooWide.cls ≠ "java/lang/invoke/MethodHandle" ∧ yX11_isTooWide.cls ≠ "java/lang/invoke/VarHandle" ∧ (parseMethodDescriptor yX11_isTooWide.desc).map (fun d => d.parameters.length) = some 0 := by decide +kernel
theorem hd_X11_moves : yX11_moves.cls = RX11 ∧ yX11_moves.cls ≠ "java/lang/invoke/MethodHandle" ∧ yX11_moves.cls ≠ "java/lang/invoke/VarHandle" ∧ (parseMethodDescriptor yX11_moves.desc).map (fun d => d.parameters.length) = some 2 := by decide +kernel
theorem hd_X11_piecesOf : yX11_piecesOf.cls = RX11 ∧ yX11_piecesOf.cls ≠ "java/lang/invoke/MethodHandle" ∧ yX11_piecesOf.cls ≠ "java/lang/invoke/VarHandle" ∧ (parseMethodDescriptor yX11_piecesOf.desc).map (fun d => d.parameters.length) = some 1 := by decide +kernel
theorem hd_X11_rolls : yX11_rolls.cls = RX11 ∧ yX11_rolls.cls ≠ "java/lang/invoke/MethodHandle" ∧ yX11_rolls.cls ≠ "java/lang/invoke/VarHandle" ∧ (parseMethodDescriptor yX11_rolls.desc).map (fun d => d.parameters.length) = some 1 := by decide +kernel
theorem hd_X11_unlike : yX11_unlike.cls ≠ "java/lang/invoke/MethodHandle" ∧ yX11_unlike.cls ≠ "java/lang/invoke/VarHandle" ∧ (parseMethodDescriptor yX11_unlike.desc).map (fun d => d.parameters.length) = some 4 := by decide +kernel
theorem hd_X11_widest : yX11_widest.cls = RX11 ∧ yX11_widest.cls ≠ "java/lang/invoke/MethodHandle" ∧ yX11_widest.cls ≠ "java/lang/invoke/VarHandle" ∧ (parseMethodDescriptor yX11_widest.desc).map (fun d => d.parameters.length) = some 1 := by decide +kernel
theorem inn_X11_area_11 : ∀ w ∈ u_ws RX11 TX11 42, w ∈ wsX11_area := by decide +kernel
theorem inn_X11_becomes_11 : ∀ w ∈ u_ws RX11 TX11 42, w ∈ wsX11_becomes := by decide +kernel
theorem inn_X11_behind_11 : ∀ w ∈ u_ws RX11 TX11 42, w ∈ wsX11_behind := by decide +kernel
theorem inn_X11_cut_11 : ∀ w ∈ u_ws RX11 TX11 42, w ∈ wsX11_cut := by decide +kernel
theorem inn_X11_cutsOf_11 : ∀ w ∈ u_ws RX11 TX11 42, w ∈ wsX11_cutsOf := by decide +kernel
theorem inn_X11_drop_11 : ∀ w ∈ u_ws RX11 TX11 42, w ∈ wsX11_drop := by decide +kernel
theorem inn_X11_fewest_11 : ∀ w ∈ u_ws RX11 TX11 42, w ∈ wsX11_fewest := by decide +kernel
theorem inn_X11_goes_11 : ∀ w ∈ u_ws RX11 TX11 42, w ∈ wsX11_goes := by decide +kernel
theorem inn_X11_greedy_11 : ∀ w ∈ u_ws RX11 TX11 42, w ∈ wsX11_greedy := by decide +kernel
theorem inn_X11_isSlot_11 : ∀ w ∈ u_ws RX11 TX11 42, w ∈ wsX11_isSlot := by decide +kernel
theorem inn_X11_isTooWide_11 : ∀ w ∈ u_ws RX11 TX11 42, w ∈ wsX11_isTooWide := by decide +kernel
theorem inn_X11_keep_11 : ∀ w ∈ u_ws RX11 TX11 42, w ∈ wsX11_keep := by decide +kernel
theorem inn_X11_lot_11 : ∀ w ∈ u_ws RX11 TX11 42, w ∈ wsX11_lot := by decide +kernel
theorem inn_X11_lotted_11 : ∀ w ∈ u_ws RX11 TX11 42, w ∈ wsX11_lotted := by decide +kernel
theorem inn_X11_moves_11 : ∀ w ∈ u_ws RX11 TX11 42, w ∈ wsX11_moves := by decide +kernel
theorem inn_X11_piecesOf_11 : ∀ w ∈ u_ws RX11 TX11 42, w ∈ wsX11_piecesOf := by decide +kernel
theorem inn_X11_plan_11 : ∀ w ∈ u_ws RX11 TX11 42, w ∈ wsX11_plan := by decide +kernel
theorem inn_X11_rolls_11 : ∀ w ∈ u_ws RX11 TX11 42, w ∈ wsX11_rolls := by decide +kernel
theorem inn_X11_share_11 : ∀ w ∈ u_ws RX11 TX11 42, w ∈ wsX11_share := by decide +kernel
theorem inn_X11_slot_11 : ∀ w ∈ u_ws RX11 TX11 42, w ∈ wsX11_slot := by decide +kernel
theorem inn_X11_slotted_11 : ∀ w ∈ u_ws RX11 TX11 42, w ∈ wsX11_slotted := by decide +kernel
theorem inn_X11_undo_11 : ∀ w ∈ u_ws RX11 TX11 42, w ∈ wsX11_undo := by decide +kernel
theorem inn_X11_widest_11 : ∀ w ∈ u_ws RX11 TX11 42, w ∈ wsX11_widest := by decide +kernel
def fX11_isTooWide_L4 (n : Nat) (kk : Int32 → TS → Option (Int32 × TS)) : Nat → Int32 → Int32 → TS → Option (Int32 × TS)
  | 0, _, _, _ => none
  | fuel + 1, x1, x2, T => if (gI T 2056) ≤ x2 then kk x1 T else if ¬ x1 = 0 then fX11_isTooWide_L4 n kk fuel (1 : Int32) (x2 + 1) T else bd (fX11_wanted n x2 T) (fun r_2 T_1 => if r_2 ≤ 0 then fX11_isTooWide_L4 n kk fuel (0 : Int32) (x2 + 1) T_1 else ck x2 6 (if (gA T_1 42 (Int32.toNatClampNeg x2)) ≤ ((gI T_1 2051) - ((2 : Int32) * (gI T_1 2052))) then fX11_isTooWide_L4 n kk fuel (0 : Int32) (x2 + 1) T_1 else fX11_isTooWide_L4 n kk fuel (1 : Int32) (x2 + 1) T_1))
set_option maxHeartbeats 4000000 in
set_option maxRecDepth 100000 in
theorem lpX11_isTooWide_L4 {l : Launch} {k : KT} {n : Nat} {kk : Int32 → TS → Option (Int32 × TS)} {r : Int32} {T' : TS} (C : CX l k 3 cX11_isTooWide RX11 wsX11_isTooWide 2 (some .boolean) (some (.int r), T')) (hk : ∀ e1 T1, kk e1 T1 = some (r, T') → GW k T1 56 [(1, .int e1)] []) : ∀ (fuel : Nat) (x1 : Int32) (x2 : Int32) (T : TS), fX11_isTooWide_L4 n kk fuel x1 x2 T = some (r, T') → GW k T 4 [(0, .ref (ad k.1 41)), (1, .int x1), (2, .int x2)] [] := by
  intro fuel
  induction fuel with
  | zero => intro x1 x2 T h; cases h
  | succ fuel ih =>
    intro x1 x2 T h
    rw [fX11_isTooWide_L4] at h
    refine q_iload_n C dX11_isTooWide_4 rfl 2 rfl ?_
    refine q_aload_n C dX11_isTooWide_5 rfl 0 rfl ?_
    refine q_get (j := 6) C dX11_isTooWide_6 (wE_41 _ _) rfl (by decide) rfl inn_X11_isTooWide_11 (by decide +kernel) rfl ?_
    refine q_icmp_ge (tgt := 56) C dX11_isTooWide_9 (by decide) h (fun c h => ?_) (fun c h => ?_)
    · refine q_sub [1] rfl ?_
      exact hk _ _ h
    · refine q_iload_n C dX11_isTooWide_12 rfl 1 rfl ?_
      refine q_if_ne (tgt := 44) C dX11_isTooWide_13 (by decide) h (fun c h => ?_) (fun c h => ?_)
      · refine q_iconst (v := 1) C dX11_isTooWide_44 (by decide) ?_
        refine q_goto (tgt := 49) C dX11_isTooWide_45 (by decide) ?_
        refine q_istore_n (lv' := [(0, .ref (ad k.1 41)), (1, .int (1 : Int32)), (2, .int x2)]) C dX11_isTooWide_49 rfl (by decide) rfl ?_
        refine q_iinc (j := 2) (v := 1) (lv' := [(0, .ref (ad k.1 41)), (1, .int (1 : Int32)), (2, .int (x2 + 1))]) C dX11_isTooWide_50 rfl (by decide) (by decide) rfl ?_
        refine q_goto (tgt := 4) C dX11_isTooWide_53 (by decide) ?_
        refine q_sub [0, 1, 2] rfl ?_
        exact ih _ _ _ h
      · refine q_aload_n C dX11_isTooWide_16 rfl 0 rfl ?_
        refine q_iload_n C dX11_isTooWide_17 rfl 2 rfl ?_
        obtain ⟨r_2, T_1, hc, h⟩ := bd_some h
        refine q_callV (st' := [.int r_2]) C dX11_isTooWide_18 [.int x2] [] (mtX11_wanted l _ n _ _ _ _ hc) gX11_isTooWide_X11_wanted rfl hd_X11_wanted (by decide) (by decide) (wE_41 _ _) rfl rfl rfl (Nat.le_of_ble_eq_true rfl) rfl ?_
        clear hc
        refine q_if_le (tgt := 48) C dX11_isTooWide_21 (by decide) h (fun c h => ?_) (fun c h => ?_)
        · refine q_iconst (v := 0) C dX11_isTooWide_48 (by decide) ?_
          refine q_istore_n (lv' := [(0, .ref (ad k.1 41)), (1, .int (0 : Int32)), (2, .int x2)]) C dX11_isTooWide_49 rfl (by decide) rfl ?_
          refine q_iinc (j := 2) (v := 1) (lv' := [(0, .ref (ad k.1 41)), (1, .int (0 : Int32)), (2, .int (x2 + 1))]) C dX11_isTooWide_50 rfl (by decide) (by decide) rfl ?_
          refine q_goto (tgt := 4) C dX11_isTooWide_53 (by decide) ?_
          refine q_sub [0, 1, 2] rfl ?_
          exact ih _ _ _ h
        · refine q_aload_n C dX11_isTooWide_24 rfl 0 rfl ?_
          refine q_get (j := 7) C dX11_isTooWide_25 (wE_41 _ _) rfl (by decide) rfl inn_X11_isTooWide_11 (by decide +kernel) rfl ?_
          refine q_iload_n C dX11_isTooWide_28 rfl 2 rfl ?_
          refine q_iald C dX11_isTooWide_29 (wE_42 _ _) h (fun h => ?_)
          refine q_aload_n C dX11_isTooWide_30 rfl 0 rfl ?_
          refine q_get (j := 1) C dX11_isTooWide_31 (wE_41 _ _) rfl (by decide) rfl inn_X11_isTooWide_11 (by decide +kernel) rfl ?_
          refine q_iconst (v := 2) C dX11_isTooWide_34 (by decide) ?_
          refine q_aload_n C dX11_isTooWide_35 rfl 0 rfl ?_
          refine q_get (j := 2) C dX11_isTooWide_36 (wE_41 _ _) rfl (by decide) rfl inn_X11_isTooWide_11 (by decide +kernel) rfl ?_
          refine q_imul C dX11_isTooWide_39 ?_
          refine q_isub C dX11_isTooWide_40 ?_
          refine q_icmp_le (tgt := 48) C dX11_isTooWide_41 (by decide) h (fun c h => ?_) (fun c h => ?_)
          · refine q_iconst (v := 0) C dX11_isTooWide_48 (by decide) ?_
            refine q_istore_n (lv' := [(0, .ref (ad k.1 41)), (1, .int (0 : Int32)), (2, .int x2)]) C dX11_isTooWide_49 rfl (by decide) rfl ?_
            refine q_iinc (j := 2) (v := 1) (lv' := [(0, .ref (ad k.1 41)), (1, .int (0 : Int32)), (2, .int (x2 + 1))]) C dX11_isTooWide_50 rfl (by decide) (by decide) rfl ?_
            refine q_goto (tgt := 4) C dX11_isTooWide_53 (by decide) ?_
            refine q_sub [0, 1, 2] rfl ?_
            exact ih _ _ _ h
          · refine q_iconst (v := 1) C dX11_isTooWide_44 (by decide) ?_
            refine q_goto (tgt := 49) C dX11_isTooWide_45 (by decide) ?_
            refine q_istore_n (lv' := [(0, .ref (ad k.1 41)), (1, .int (1 : Int32)), (2, .int x2)]) C dX11_isTooWide_49 rfl (by decide) rfl ?_
            refine q_iinc (j := 2) (v := 1) (lv' := [(0, .ref (ad k.1 41)), (1, .int (1 : Int32)), (2, .int (x2 + 1))]) C dX11_isTooWide_50 rfl (by decide) (by decide) rfl ?_
            refine q_goto (tgt := 4) C dX11_isTooWide_53 (by decide) ?_
            refine q_sub [0, 1, 2] rfl ?_
            exact ih _ _ _ h
def fX11_isTooWide (n : Nat) (T : TS) : Option (Int32 × TS) := fX11_isTooWide_L4 n (fun e1_3 T_4 => rz e1_3 T_4) n (0 : Int32) (0 : Int32) T
set_option maxHeartbeats 4000000 in
set_option maxRecDepth 100000 in
theorem mtX11_isTooWide (l : Launch) (X : XT) (n : Nat) (T T' : TS) (r : Int32) (h : fX11_isTooWide n T = some (r, T')) : Met l yX11_isTooWide wsX11_isTooWide (RM 2) (PreX X [.ref (ad X 41)] T) (QQ X (some (.int r)) T') 0 0 (xA X) := by
  refine q_start (by decide) rfl (Nat.le_of_ble_eq_true rfl) ?_
  intro k hk C
  subst hk
  show GW k T 0 [(0, .ref (ad k.1 41))] []
  unfold fX11_isTooWide at h
  refine q_iconst (v := 0) C dX11_isTooWide_0 (by decide) ?_
  refine q_istore_n (lv' := [(0, .ref (ad k.1 41)), (1, .int (0 : Int32))]) C dX11_isTooWide_1 rfl (by decide) rfl ?_
  refine q_iconst (v := 0) C dX11_isTooWide_2 (by decide) ?_
  refine q_istore_n (lv' := [(0, .ref (ad k.1 41)), (1, .int (0 : Int32)), (2, .int (0 : Int32))]) C dX11_isTooWide_3 rfl (by decide) rfl ?_
  refine q_sub [0, 1, 2] rfl ?_
  refine lpX11_isTooWide_L4 C (fun e1_3 T_4 h => ?_) _ _ _ _ h
  refine q_iload_n C dX11_isTooWide_56 rfl 0 rfl ?_
  exact q_zreturn C dX11_isTooWide_57 h
def fX11_widest_L4 (n : Nat) (y1 : Int32) (kk : Int32 → TS → Option (Int32 × TS)) : Nat → Int32 → Int32 → TS → Option (Int32 × TS)
  | 0, _, _, _ => none
  | fuel + 1, x2, x3, T => if (gI T 2056) ≤ x3 then kk x2 T else ck x3 6 (if y1 ≤ (gA T 42 (Int32.toNatClampNeg x3)) then fX11_widest_L4 n y1 kk fuel x2 (x3 + 1) T else if x2 = (-1 : Int32) then fX11_widest_L4 n y1 kk fuel x3 (x3 + 1) T else ck x3 6 (ck x2 6 (if (gA T 42 (Int32.toNatClampNeg x3)) ≤ (gA T 42 (Int32.toNatClampNeg x2)) then fX11_widest_L4 n y1 kk fuel x2 (x3 + 1) T else fX11_widest_L4 n y1 kk fuel x3 (x3 + 1) T)))
set_option maxHeartbeats 4000000 in
set_option maxRecDepth 100000 in
theorem lpX11_widest_L4 {l : Launch} {k : KT} {n : Nat} {y1 : Int32} {kk : Int32 → TS → Option (Int32 × TS)} {r : Int32} {T' : TS} (C : CX l k 4 cX11_widest RX11 wsX11_widest 0 (some .int) (some (.int r), T')) (hk : ∀ e2 T1, kk e2 T1 = some (r, T') → GW k T1 50 [(2, .int e2)] []) : ∀ (fuel : Nat) (x2 : Int32) (x3 : Int32) (T : TS), fX11_widest_L4 n y1 kk fuel x2 x3 T = some (r, T') → GW k T 4 [(0, .ref (ad k.1 41)), (1, .int y1), (2, .int x2), (3, .int x3)] [] := by
  intro fuel
  induction fuel with
  | zero => intro x2 x3 T h; cases h
  | succ fuel ih =>
    intro x2 x3 T h
    rw [fX11_widest_L4] at h
    refine q_iload_n C dX11_widest_4 rfl 3 rfl ?_
    refine q_aload_n C dX11_widest_5 rfl 0 rfl ?_
    refine q_get (j := 6) C dX11_widest_6 (wE_41 _ _) rfl (by decide) rfl inn_X11_widest_11 (by decide +kernel) rfl ?_
    refine q_icmp_ge (tgt := 50) C dX11_widest_9 (by decide) h (fun c h => ?_) (fun c h => ?_)
    · refine q_sub [2] rfl ?_
      exact hk _ _ h
    · refine q_aload_n C dX11_widest_12 rfl 0 rfl ?_
      refine q_get (j := 7) C dX11_widest_13 (wE_41 _ _) rfl (by decide) rfl inn_X11_widest_11 (by decide +kernel) rfl ?_
      refine q_iload_n C dX11_widest_16 rfl 3 rfl ?_
      refine q_iald C dX11_widest_17 (wE_42 _ _) h (fun h => ?_)
      refine q_iload_n C dX11_widest_18 rfl 1 rfl ?_
      refine q_icmp_ge (tgt := 44) C dX11_widest_19 (by decide) h (fun c h => ?_) (fun c h => ?_)
      · refine q_iinc (j := 3) (v := 1) (lv' := [(0, .ref (ad k.1 41)), (1, .int y1), (2, .int x2), (3, .int (x3 + 1))]) C dX11_widest_44 rfl (by decide) (by decide) rfl ?_
        refine q_goto (tgt := 4) C dX11_widest_47 (by decide) ?_
        refine q_sub [0, 1, 2, 3] rfl ?_
        exact ih _ _ _ h
      · refine q_iload_n C dX11_widest_22 rfl 2 rfl ?_
        refine q_iconst (v := -1) C dX11_widest_23 (by decide) ?_
        refine q_icmp_eq (tgt := 42) C dX11_widest_24 (by decide) h (fun c h => ?_) (fun c h => ?_)
        · refine q_iload_n C dX11_widest_42 rfl 3 rfl ?_
          refine q_istore_n (lv' := [(0, .ref (ad k.1 41)), (1, .int y1), (2, .int x3), (3, .int x3)]) C dX11_widest_43 rfl (by decide) rfl ?_
          refine q_iinc (j := 3) (v := 1) (lv' := [(0, .ref (ad k.1 41)), (1, .int y1), (2, .int x3), (3, .int (x3 + 1))]) C dX11_widest_44 rfl (by decide) (by decide) rfl ?_
          refine q_goto (tgt := 4) C dX11_widest_47 (by decide) ?_
          refine q_sub [0, 1, 2, 3] rfl ?_
          exact ih _ _ _ h
        · refine q_aload_n C dX11_widest_27 rfl 0 rfl ?_
          refine q_get (j := 7) C dX11_widest_28 (wE_41 _ _) rfl (by decide) rfl inn_X11_widest_11 (by decide +kernel) rfl ?_
          refine q_iload_n C dX11_widest_31 rfl 3 rfl ?_
          refine q_iald C dX11_widest_32 (wE_42 _ _) h (fun h => ?_)
          refine q_aload_n C dX11_widest_33 rfl 0 rfl ?_
          refine q_get (j := 7) C dX11_widest_34 (wE_41 _ _) rfl (by decide) rfl inn_X11_widest_11 (by decide +kernel) rfl ?_
          refine q_iload_n C dX11_widest_37 rfl 2 rfl ?_
          refine q_iald C dX11_widest_38 (wE_42 _ _) h (fun h => ?_)
          refine q_icmp_le (tgt := 44) C dX11_widest_39 (by decide) h (fun c h => ?_) (fun c h => ?_)
          · refine q_iinc (j := 3) (v := 1) (lv' := [(0, .ref (ad k.1 41)), (1, .int y1), (2, .int x2), (3, .int (x3 + 1))]) C dX11_widest_44 rfl (by decide) (by decide) rfl ?_
            refine q_goto (tgt := 4) C dX11_widest_47 (by decide) ?_
            refine q_sub [0, 1, 2, 3] rfl ?_
            exact ih _ _ _ h
          · refine q_iload_n C dX11_widest_42 rfl 3 rfl ?_
            refine q_istore_n (lv' := [(0, .ref (ad k.1 41)), (1, .int y1), (2, .int x3), (3, .int x3)]) C dX11_widest_43 rfl (by decide) rfl ?_
            refine q_iinc (j := 3) (v := 1) (lv' := [(0, .ref (ad k.1 41)), (1, .int y1), (2, .int x3), (3, .int (x3 + 1))]) C dX11_widest_44 rfl (by decide) (by decide) rfl ?_
            refine q_goto (tgt := 4) C dX11_widest_47 (by decide) ?_
            refine q_sub [0, 1, 2, 3] rfl ?_
            exact ih _ _ _ h
def fX11_widest (n : Nat) (p0 : Int32) (T : TS) : Option (Int32 × TS) := fX11_widest_L4 n p0 (fun e2_1 T_2 => some (e2_1, T_2)) n (-1 : Int32) (0 : Int32) T
set_option maxHeartbeats 4000000 in
set_option maxRecDepth 100000 in
theorem mtX11_widest (l : Launch) (X : XT) (n : Nat) (p0 : Int32) (T T' : TS) (r : Int32) (h : fX11_widest n p0 T = some (r, T')) : Met l yX11_widest wsX11_widest (RM 0) (PreX X [.ref (ad X 41), .int p0] T) (QQ X (some (.int r)) T') 0 0 (xA X) := by
  refine q_start (by decide) rfl (Nat.le_of_ble_eq_true rfl) ?_
  intro k hk C
  subst hk
  show GW k T 0 [(0, .ref (ad k.1 41)), (1, .int p0)] []
  unfold fX11_widest at h
  refine q_iconst (v := -1) C dX11_widest_0 (by decide) ?_
  refine q_istore_n (lv' := [(0, .ref (ad k.1 41)), (1, .int p0), (2, .int (-1 : Int32))]) C dX11_widest_1 rfl (by decide) rfl ?_
  refine q_iconst (v := 0) C dX11_widest_2 (by decide) ?_
  refine q_istore_n (lv' := [(0, .ref (ad k.1 41)), (1, .int p0), (2, .int (-1 : Int32)), (3, .int (0 : Int32))]) C dX11_widest_3 rfl (by decide) rfl ?_
  refine q_sub [0, 1, 2, 3] rfl ?_
  refine lpX11_widest_L4 C (fun e2_1 T_2 h => ?_) _ _ _ _ h
  refine q_iload_n C dX11_widest_50 rfl 0 rfl ?_
  exact q_ireturn C dX11_widest_51 h
def fX11_rolls_L15 (n : Nat) (y1 : Nat) (kk : Int32 → TS → Option (Int32 × TS)) : Nat → Int32 → Int32 → TS → Option (Int32 × TS)
  | 0, _, _, _ => none
  | fuel + 1, x2, x3, T => if (6 : Int32) ≤ x3 then kk x2 T else if x2 = 0 then kk x2 T else ck ((gI T 2070) - (1 : Int32)) 60 (ak (gO T 50 (Int32.toNatClampNeg ((gI T 2070) - (1 : Int32)))) (ck x3 (al (gO T 50 (Int32.toNatClampNeg ((gI T 2070) - (1 : Int32))))) (ak y1 (ck x3 (al y1) (if ¬ (gA T (gO T 50 (Int32.toNatClampNeg ((gI T 2070) - (1 : Int32)))) (Int32.toNatClampNeg x3)) = (gA T y1 (Int32.toNatClampNeg x3)) then fX11_rolls_L15 n y1 kk fuel (0 : Int32) (x3 + 1) T else fX11_rolls_L15 n y1 kk fuel (1 : Int32) (x3 + 1) T)))))
set_option maxHeartbeats 4000000 in
set_option maxRecDepth 100000 in
theorem lpX11_rolls_L15 {l : Launch} {k : KT} {n : Nat} {y1 : Nat} {kk : Int32 → TS → Option (Int32 × TS)} {r : Int32} {T' : TS} (C : CX l k 4 cX11_rolls RX11 wsX11_rolls 0 (some .boolean) (some (.int r), T')) (hk : ∀ e2 T1, kk e2 T1 = some (r, T') → GW k T1 56 [(0, .ref (ad k.1 41)), (1, .ref (ad k.1 y1)), (2, .int e2)] []) : ∀ (fuel : Nat) (x2 : Int32) (x3 : Int32) (T : TS), fX11_rolls_L15 n y1 kk fuel x2 x3 T = some (r, T') → GW k T 15 [(0, .ref (ad k.1 41)), (1, .ref (ad k.1 y1)), (2, .int x2), (3, .int x3)] [] := by
  intro fuel
  induction fuel with
  | zero => intro x2 x3 T h; cases h
  | succ fuel ih =>
    intro x2 x3 T h
    rw [fX11_rolls_L15] at h
    refine q_iload_n C dX11_rolls_15 rfl 3 rfl ?_
    refine q_bipush (v := 6) C dX11_rolls_16 (by decide) ?_
    refine q_icmp_ge (tgt := 56) C dX11_rolls_18 (by decide) h (fun c h => ?_) (fun c h => ?_)
    · refine q_sub [0, 1, 2] rfl ?_
      exact hk _ _ h
    · refine q_iload_n C dX11_rolls_21 rfl 2 rfl ?_
      refine q_if_eq (tgt := 56) C dX11_rolls_22 (by decide) h (fun c h => ?_) (fun c h => ?_)
      · refine q_sub [0, 1, 2] rfl ?_
        exact hk _ _ h
      · refine q_aload_n C dX11_rolls_25 rfl 0 rfl ?_
        refine q_get (j := 21) C dX11_rolls_26 (wE_41 _ _) rfl (by decide) rfl inn_X11_rolls_11 (by decide +kernel) rfl ?_
        refine q_aload_n C dX11_rolls_29 rfl 0 rfl ?_
        refine q_get (j := 20) C dX11_rolls_30 (wE_41 _ _) rfl (by decide) rfl inn_X11_rolls_11 (by decide +kernel) rfl ?_
        refine q_iconst (v := 1) C dX11_rolls_33 (by decide) ?_
        refine q_isub C dX11_rolls_34 ?_
        refine q_aald C dX11_rolls_35 (wE_50 _ _) h (fun h => ?_)
        refine q_iload_n C dX11_rolls_36 rfl 3 rfl ?_
        refine q_ialdG C dX11_rolls_37 h (fun h => ?_)
        refine q_aload_n C dX11_rolls_38 rfl 1 rfl ?_
        refine q_iload_n C dX11_rolls_39 rfl 3 rfl ?_
        refine q_ialdG C dX11_rolls_40 h (fun h => ?_)
        refine q_icmp_ne (tgt := 48) C dX11_rolls_41 (by decide) h (fun c h => ?_) (fun c h => ?_)
        · refine q_iconst (v := 0) C dX11_rolls_48 (by decide) ?_
          refine q_istore_n (lv' := [(0, .ref (ad k.1 41)), (1, .ref (ad k.1 y1)), (2, .int (0 : Int32)), (3, .int x3)]) C dX11_rolls_49 rfl (by decide) rfl ?_
          refine q_iinc (j := 3) (v := 1) (lv' := [(0, .ref (ad k.1 41)), (1, .ref (ad k.1 y1)), (2, .int (0 : Int32)), (3, .int (x3 + 1))]) C dX11_rolls_50 rfl (by decide) (by decide) rfl ?_
          refine q_goto (tgt := 15) C dX11_rolls_53 (by decide) ?_
          refine q_sub [0, 1, 2, 3] rfl ?_
          exact ih _ _ _ h
        · refine q_iconst (v := 1) C dX11_rolls_44 (by decide) ?_
          refine q_goto (tgt := 49) C dX11_rolls_45 (by decide) ?_
          refine q_istore_n (lv' := [(0, .ref (ad k.1 41)), (1, .ref (ad k.1 y1)), (2, .int (1 : Int32)), (3, .int x3)]) C dX11_rolls_49 rfl (by decide) rfl ?_
          refine q_iinc (j := 3) (v := 1) (lv' := [(0, .ref (ad k.1 41)), (1, .ref (ad k.1 y1)), (2, .int (1 : Int32)), (3, .int (x3 + 1))]) C dX11_rolls_50 rfl (by decide) (by decide) rfl ?_
          refine q_goto (tgt := 15) C dX11_rolls_53 (by decide) ?_
          refine q_sub [0, 1, 2, 3] rfl ?_
          exact ih _ _ _ h
def fX11_rolls_L73 (n : Nat) (y1 : Nat) (kk : TS → Option (Int32 × TS)) : Nat → Int32 → TS → Option (Int32 × TS)
  | 0, _, _ => none
  | fuel + 1, x3, T => if (6 : Int32) ≤ x3 then kk T else ck (gI T 2070) 60 (ak y1 (ck x3 (al y1) (ak (gO T 50 (Int32.toNatClampNeg (gI T 2070))) (ck x3 (al (gO T 50 (Int32.toNatClampNeg (gI T 2070)))) (nm (sA T (gO T 50 (Int32.toNatClampNeg (gI T 2070))) x3 (gA T y1 (Int32.toNatClampNeg x3))) (fun T_4 => fX11_rolls_L73 n y1 kk fuel (x3 + 1) T_4))))))
set_option maxHeartbeats 4000000 in
set_option maxRecDepth 100000 in
theorem lpX11_rolls_L73 {l : Launch} {k : KT} {n : Nat} {y1 : Nat} {kk : TS → Option (Int32 × TS)} {r : Int32} {T' : TS} (C : CX l k 4 cX11_rolls RX11 wsX11_rolls 0 (some .boolean) (some (.int r), T')) (hk : ∀ T1, kk T1 = some (r, T') → GW k T1 99 [(0, .ref (ad k.1 41))] []) : ∀ (fuel : Nat) (x3 : Int32) (T : TS), fX11_rolls_L73 n y1 kk fuel x3 T = some (r, T') → GW k T 73 [(0, .ref (ad k.1 41)), (1, .ref (ad k.1 y1)), (3, .int x3)] [] := by
  intro fuel
  induction fuel with
  | zero => intro x3 T h; cases h
  | succ fuel ih =>
    intro x3 T h
    rw [fX11_rolls_L73] at h
    refine q_iload_n C dX11_rolls_73 rfl 2 rfl ?_
    refine q_bipush (v := 6) C dX11_rolls_74 (by decide) ?_
    refine q_icmp_ge (tgt := 99) C dX11_rolls_76 (by decide) h (fun c h => ?_) (fun c h => ?_)
    · refine q_sub [0] rfl ?_
      exact hk _ h
    · refine q_aload_n C dX11_rolls_79 rfl 0 rfl ?_
      refine q_get (j := 21) C dX11_rolls_80 (wE_41 _ _) rfl (by decide) rfl inn_X11_rolls_11 (by decide +kernel) rfl ?_
      refine q_aload_n C dX11_rolls_83 rfl 0 rfl ?_
      refine q_get (j := 20) C dX11_rolls_84 (wE_41 _ _) rfl (by decide) rfl inn_X11_rolls_11 (by decide +kernel) rfl ?_
      refine q_aald C dX11_rolls_87 (wE_50 _ _) h (fun h => ?_)
      refine q_iload_n C dX11_rolls_88 rfl 2 rfl ?_
      refine q_aload_n C dX11_rolls_89 rfl 1 rfl ?_
      refine q_iload_n C dX11_rolls_90 rfl 2 rfl ?_
      refine q_ialdG C dX11_rolls_91 h (fun h => ?_)
      refine q_iastG C dX11_rolls_92 h (fun T_4 h => ?_)
      refine q_iinc (j := 2) (v := 1) (lv' := [(0, .ref (ad k.1 41)), (1, .ref (ad k.1 y1)), (3, .int (x3 + 1))]) C dX11_rolls_93 rfl (by decide) (by decide) rfl ?_
      refine q_goto (tgt := 73) C dX11_rolls_96 (by decide) ?_
      refine q_sub [0, 1, 2] rfl ?_
      exact ih _ _ h
def fX11_rolls (n : Nat) (q0 : Nat) (T : TS) : Option (Int32 × TS) := if (gI T 2070) ≤ 0 then fX11_rolls_L15 n q0 (fun e2_1 T_2 => if ¬ e2_1 = 0 then ck ((gI T_2 2070) - (1 : Int32)) 60 (ck ((gI T_2 2070) - (1 : Int32)) 60 (nm (sA T_2 51 ((gI T_2 2070) - (1 : Int32)) ((gA T_2 51 (Int32.toNatClampNeg ((gI T_2 2070) - (1 : Int32)))) + (1 : Int32))) (fun T_3 => rz (1 : Int32) T_3))) else if ¬ (gI T_2 2070) = (60 : Int32) then fX11_rolls_L73 n q0 (fun T_5 => ck (gI T_5 2070) 60 (nm (sA T_5 51 (gI T_5 2070) (0 : Int32)) (fun T_6 => nm (uI T_6 2070 ((gI T_6 2070) + (1 : Int32))) (fun T_7 => ck ((gI T_7 2070) - (1 : Int32)) 60 (ck ((gI T_7 2070) - (1 : Int32)) 60 (nm (sA T_7 51 ((gI T_7 2070) - (1 : Int32)) ((gA T_7 51 (Int32.toNatClampNeg ((gI T_7 2070) - (1 : Int32)))) + (1 : Int32))) (fun T_8 => rz (1 : Int32) T_8))))))) n (0 : Int32) T_2 else rz (0 : Int32) T_2) n (0 : Int32) (0 : Int32) T else fX11_rolls_L15 n q0 (fun e2_9 T_10 => if ¬ e2_9 = 0 then ck ((gI T_10 2070) - (1 : Int32)) 60 (ck ((gI T_10 2070) - (1 : Int32)) 60 (nm (sA T_10 51 ((gI T_10 2070) - (1 : Int32)) ((gA T_10 51 (Int32.toNatClampNeg ((gI T_10 2070) - (1 : Int32)))) + (1 : Int32))) (fun T_11 => rz (1 : Int32) T_11))) else if ¬ (gI T_10 2070) = (60 : Int32) then fX11_rolls_L73 n q0 (fun T_12 => ck (gI T_12 2070) 60 (nm (sA T_12 51 (gI T_12 2070) (0 : Int32)) (fun T_13 => nm (uI T_13 2070 ((gI T_13 2070) + (1 : Int32))) (fun T_14 => ck ((gI T_14 2070) - (1 : Int32)) 60 (ck ((gI T_14 2070) - (1 : Int32)) 60 (nm (sA T_14 51 ((gI T_14 2070) - (1 : Int32)) ((gA T_14 51 (Int32.toNatClampNeg ((gI T_14 2070) - (1 : Int32)))) + (1 : Int32))) (fun T_15 => rz (1 : Int32) T_15))))))) n (0 : Int32) T_10 else rz (0 : Int32) T_10) n (1 : Int32) (0 : Int32) T
set_option maxHeartbeats 4000000 in
set_option maxRecDepth 100000 in
theorem mtX11_rolls (l : Launch) (X : XT) (n : Nat) (q0 : Nat) (T T' : TS) (r : Int32) (h : fX11_rolls n q0 T = some (r, T')) : Met l yX11_rolls wsX11_rolls (RM 0) (PreX X [.ref (ad X 41), .ref (ad X q0)] T) (QQ X (some (.int r)) T') 0 0 (xA X) := by
  refine q_start (by decide) rfl (Nat.le_of_ble_eq_true rfl) ?_
  intro k hk C
  subst hk
  show GW k T 0 [(0, .ref (ad k.1 41)), (1, .ref (ad k.1 q0))] []
  unfold fX11_rolls at h
  refine q_aload_n C dX11_rolls_0 rfl 0 rfl ?_
  refine q_get (j := 20) C dX11_rolls_1 (wE_41 _ _) rfl (by decide) rfl inn_X11_rolls_11 (by decide +kernel) rfl ?_
  refine q_if_le (tgt := 11) C dX11_rolls_4 (by decide) h (fun c h => ?_) (fun c h => ?_)
  · refine q_iconst (v := 0) C dX11_rolls_11 (by decide) ?_
    refine q_istore_n (lv' := [(0, .ref (ad k.1 41)), (1, .ref (ad k.1 q0)), (2, .int (0 : Int32))]) C dX11_rolls_12 rfl (by decide) rfl ?_
    refine q_iconst (v := 0) C dX11_rolls_13 (by decide) ?_
    refine q_istore_n (lv' := [(0, .ref (ad k.1 41)), (1, .ref (ad k.1 q0)), (2, .int (0 : Int32)), (3, .int (0 : Int32))]) C dX11_rolls_14 rfl (by decide) rfl ?_
    refine q_sub [0, 1, 2, 3] rfl ?_
    refine lpX11_rolls_L15 C (fun e2_1 T_2 h => ?_) _ _ _ _ h
    refine q_iload_n C dX11_rolls_56 rfl 2 rfl ?_
    refine q_if_ne (tgt := 119) C dX11_rolls_57 (by decide) h (fun c h => ?_) (fun c h => ?_)
    · refine q_aload_n C dX11_rolls_119 rfl 0 rfl ?_
      refine q_get (j := 22) C dX11_rolls_120 (wE_41 _ _) rfl (by decide) rfl inn_X11_rolls_11 (by decide +kernel) rfl ?_
      refine q_aload_n C dX11_rolls_123 rfl 0 rfl ?_
      refine q_get (j := 20) C dX11_rolls_124 (wE_41 _ _) rfl (by decide) rfl inn_X11_rolls_11 (by decide +kernel) rfl ?_
      refine q_iconst (v := 1) C dX11_rolls_127 (by decide) ?_
      refine q_isub C dX11_rolls_128 ?_
      refine q_dup2 C dX11_rolls_129 rfl rfl ?_
      refine q_iald C dX11_rolls_130 (wE_51 _ _) h (fun h => ?_)
      refine q_iconst (v := 1) C dX11_rolls_131 (by decide) ?_
      refine q_iadd C dX11_rolls_132 ?_
      refine q_iast C dX11_rolls_133 (wE_51 _ _) (wS_51 _ _) h (fun T_3 h => ?_)
      refine q_iconst (v := 1) C dX11_rolls_134 (by decide) ?_
      exact q_zreturn C dX11_rolls_135 h
    · refine q_aload_n C dX11_rolls_60 rfl 0 rfl ?_
      refine q_get (j := 20) C dX11_rolls_61 (wE_41 _ _) rfl (by decide) rfl inn_X11_rolls_11 (by decide +kernel) rfl ?_
      refine q_bipush (v := 60) C dX11_rolls_64 (by decide) ?_
      refine q_icmp_ne (tgt := 71) C dX11_rolls_66 (by decide) h (fun c h => ?_) (fun c h => ?_)
      · refine q_iconst (v := 0) C dX11_rolls_71 (by decide) ?_
        refine q_istore_n (lv' := [(0, .ref (ad k.1 41)), (1, .ref (ad k.1 q0)), (2, .int e2_1), (3, .int (0 : Int32))]) C dX11_rolls_72 rfl (by decide) rfl ?_
        refine q_sub [0, 1, 3] rfl ?_
        refine lpX11_rolls_L73 C (fun T_5 h => ?_) _ _ _ h
        refine q_aload_n C dX11_rolls_99 rfl 0 rfl ?_
        refine q_get (j := 22) C dX11_rolls_100 (wE_41 _ _) rfl (by decide) rfl inn_X11_rolls_11 (by decide +kernel) rfl ?_
        refine q_aload_n C dX11_rolls_103 rfl 0 rfl ?_
        refine q_get (j := 20) C dX11_rolls_104 (wE_41 _ _) rfl (by decide) rfl inn_X11_rolls_11 (by decide +kernel) rfl ?_
        refine q_iconst (v := 0) C dX11_rolls_107 (by decide) ?_
        refine q_iast C dX11_rolls_108 (wE_51 _ _) (wS_51 _ _) h (fun T_6 h => ?_)
        refine q_aload_n C dX11_rolls_109 rfl 0 rfl ?_
        refine q_dup C dX11_rolls_110 rfl ?_
        refine q_get (j := 20) C dX11_rolls_111 (wE_41 _ _) rfl (by decide) rfl inn_X11_rolls_11 (by decide +kernel) rfl ?_
        refine q_iconst (v := 1) C dX11_rolls_114 (by decide) ?_
        refine q_iadd C dX11_rolls_115 ?_
        refine q_putI (j := 20) (ty := .int) C dX11_rolls_116 (wE_41 _ _) (wP_41_20 _ _ _) rfl (by decide) (Nat.le_of_ble_eq_true rfl) tyX11 tyX11_ok nmX11 inn_X11_rolls_11 (by decide +kernel) rfl rfl (by decide +kernel) rfl rfl h (fun T_7 h => ?_)
        refine q_aload_n C dX11_rolls_119 rfl 0 rfl ?_
        refine q_get (j := 22) C dX11_rolls_120 (wE_41 _ _) rfl (by decide) rfl inn_X11_rolls_11 (by decide +kernel) rfl ?_
        refine q_aload_n C dX11_rolls_123 rfl 0 rfl ?_
        refine q_get (j := 20) C dX11_rolls_124 (wE_41 _ _) rfl (by decide) rfl inn_X11_rolls_11 (by decide +kernel) rfl ?_
        refine q_iconst (v := 1) C dX11_rolls_127 (by decide) ?_
        refine q_isub C dX11_rolls_128 ?_
        refine q_dup2 C dX11_rolls_129 rfl rfl ?_
        refine q_iald C dX11_rolls_130 (wE_51 _ _) h (fun h => ?_)
        refine q_iconst (v := 1) C dX11_rolls_131 (by decide) ?_
        refine q_iadd C dX11_rolls_132 ?_
        refine q_iast C dX11_rolls_133 (wE_51 _ _) (wS_51 _ _) h (fun T_8 h => ?_)
        refine q_iconst (v := 1) C dX11_rolls_134 (by decide) ?_
        exact q_zreturn C dX11_rolls_135 h
      · refine q_iconst (v := 0) C dX11_rolls_69 (by decide) ?_
        exact q_zreturn C dX11_rolls_70 h
  · refine q_iconst (v := 1) C dX11_rolls_7 (by decide) ?_
    refine q_goto (tgt := 12) C dX11_rolls_8 (by decide) ?_
    refine q_istore_n (lv' := [(0, .ref (ad k.1 41)), (1, .ref (ad k.1 q0)), (2, .int (1 : Int32))]) C dX11_rolls_12 rfl (by decide) rfl ?_
    refine q_iconst (v := 0) C dX11_rolls_13 (by decide) ?_
    refine q_istore_n (lv' := [(0, .ref (ad k.1 41)), (1, .ref (ad k.1 q0)), (2, .int (1 : Int32)), (3, .int (0 : Int32))]) C dX11_rolls_14 rfl (by decide) rfl ?_
    refine q_sub [0, 1, 2, 3] rfl ?_
    refine lpX11_rolls_L15 C (fun e2_9 T_10 h => ?_) _ _ _ _ h
    refine q_iload_n C dX11_rolls_56 rfl 2 rfl ?_
    refine q_if_ne (tgt := 119) C dX11_rolls_57 (by decide) h (fun c h => ?_) (fun c h => ?_)
    · refine q_aload_n C dX11_rolls_119 rfl 0 rfl ?_
      refine q_get (j := 22) C dX11_rolls_120 (wE_41 _ _) rfl (by decide) rfl inn_X11_rolls_11 (by decide +kernel) rfl ?_
      refine q_aload_n C dX11_rolls_123 rfl 0 rfl ?_
      refine q_get (j := 20) C dX11_rolls_124 (wE_41 _ _) rfl (by decide) rfl inn_X11_rolls_11 (by decide +kernel) rfl ?_
      refine q_iconst (v := 1) C dX11_rolls_127 (by decide) ?_
      refine q_isub C dX11_rolls_128 ?_
      refine q_dup2 C dX11_rolls_129 rfl rfl ?_
      refine q_iald C dX11_rolls_130 (wE_51 _ _) h (fun h => ?_)
      refine q_iconst (v := 1) C dX11_rolls_131 (by decide) ?_
      refine q_iadd C dX11_rolls_132 ?_
      refine q_iast C dX11_rolls_133 (wE_51 _ _) (wS_51 _ _) h (fun T_11 h => ?_)
      refine q_iconst (v := 1) C dX11_rolls_134 (by decide) ?_
      exact q_zreturn C dX11_rolls_135 h
    · refine q_aload_n C dX11_rolls_60 rfl 0 rfl ?_
      refine q_get (j := 20) C dX11_rolls_61 (wE_41 _ _) rfl (by decide) rfl inn_X11_rolls_11 (by decide +kernel) rfl ?_
      refine q_bipush (v := 60) C dX11_rolls_64 (by decide) ?_
      refine q_icmp_ne (tgt := 71) C dX11_rolls_66 (by decide) h (fun c h => ?_) (fun c h => ?_)
      · refine q_iconst (v := 0) C dX11_rolls_71 (by decide) ?_
        refine q_istore_n (lv' := [(0, .ref (ad k.1 41)), (1, .ref (ad k.1 q0)), (2, .int e2_9), (3, .int (0 : Int32))]) C dX11_rolls_72 rfl (by decide) rfl ?_
        refine q_sub [0, 1, 3] rfl ?_
        refine lpX11_rolls_L73 C (fun T_12 h => ?_) _ _ _ h
        refine q_aload_n C dX11_rolls_99 rfl 0 rfl ?_
        refine q_get (j := 22) C dX11_rolls_100 (wE_41 _ _) rfl (by decide) rfl inn_X11_rolls_11 (by decide +kernel) rfl ?_
        refine q_aload_n C dX11_rolls_103 rfl 0 rfl ?_
        refine q_get (j := 20) C dX11_rolls_104 (wE_41 _ _) rfl (by decide) rfl inn_X11_rolls_11 (by decide +kernel) rfl ?_
        refine q_iconst (v := 0) C dX11_rolls_107 (by decide) ?_
        refine q_iast C dX11_rolls_108 (wE_51 _ _) (wS_51 _ _) h (fun T_13 h => ?_)
        refine q_aload_n C dX11_rolls_109 rfl 0 rfl ?_
        refine q_dup C dX11_rolls_110 rfl ?_
        refine q_get (j := 20) C dX11_rolls_111 (wE_41 _ _) rfl (by decide) rfl inn_X11_rolls_11 (by decide +kernel) rfl ?_
        refine q_iconst (v := 1) C dX11_rolls_114 (by decide) ?_
        refine q_iadd C dX11_rolls_115 ?_
        refine q_putI (j := 20) (ty := .int) C dX11_rolls_116 (wE_41 _ _) (wP_41_20 _ _ _) rfl (by decide) (Nat.le_of_ble_eq_true rfl) tyX11 tyX11_ok nmX11 inn_X11_rolls_11 (by decide +kernel) rfl rfl (by decide +kernel) rfl rfl h (fun T_14 h => ?_)
        refine q_aload_n C dX11_rolls_119 rfl 0 rfl ?_
        refine q_get (j := 22) C dX11_rolls_120 (wE_41 _ _) rfl (by decide) rfl inn_X11_rolls_11 (by decide +kernel) rfl ?_
        refine q_aload_n C dX11_rolls_123 rfl 0 rfl ?_
        refine q_get (j := 20) C dX11_rolls_124 (wE_41 _ _) rfl (by decide) rfl inn_X11_rolls_11 (by decide +kernel) rfl ?_
        refine q_iconst (v := 1) C dX11_rolls_127 (by decide) ?_
        refine q_isub C dX11_rolls_128 ?_
        refine q_dup2 C dX11_rolls_129 rfl rfl ?_
        refine q_iald C dX11_rolls_130 (wE_51 _ _) h (fun h => ?_)
        refine q_iconst (v := 1) C dX11_rolls_131 (by decide) ?_
        refine q_iadd C dX11_rolls_132 ?_
        refine q_iast C dX11_rolls_133 (wE_51 _ _) (wS_51 _ _) h (fun T_15 h => ?_)
        refine q_iconst (v := 1) C dX11_rolls_134 (by decide) ?_
        exact q_zreturn C dX11_rolls_135 h
      · refine q_iconst (v := 0) C dX11_rolls_69 (by decide) ?_
        exact q_zreturn C dX11_rolls_70 h
def fX11_copy_50_51_48_49_L12 (n : Nat) (y2 : Int32) (y5 : Int32) (kk : TS → Option (TS)) : Nat → Int32 → TS → Option (TS)
  | 0, _, _ => none
  | fuel + 1, x6, T => if (6 : Int32) ≤ x6 then kk T else ck y5 60 (ck y5 60 (ak (gO T 50 (Int32.toNatClampNeg y5)) (ck x6 (al (gO T 50 (Int32.toNatClampNeg y5))) (ak (gO T 48 (Int32.toNatClampNeg y5)) (ck x6 (al (gO T 48 (Int32.toNatClampNeg y5))) (nm (sA T (gO T 48 (Int32.toNatClampNeg y5)) x6 (gA T (gO T 50 (Int32.toNatClampNeg y5)) (Int32.toNatClampNeg x6))) (fun T_1 => fX11_copy_50_51_48_49_L12 n y2 y5 kk fuel (x6 + 1) T_1)))))))
set_option maxHeartbeats 4000000 in
set_option maxRecDepth 100000 in
theorem lpX11_copy_50_51_48_49_L12 {l : Launch} {k : KT} {n : Nat} {y2 : Int32} {y5 : Int32} {kk : TS → Option (TS)} {T' : TS} (C : CX l k 7 cX11_copy RX11 wsX11_copy 0 none (none, T')) (hk : ∀ T1, kk T1 = some T' → GW k T1 39 [(0, .ref (ad k.1 50)), (1, .ref (ad k.1 51)), (2, .int y2), (3, .ref (ad k.1 48)), (4, .ref (ad k.1 49)), (5, .int y5)] []) : ∀ (fuel : Nat) (x6 : Int32) (T : TS), fX11_copy_50_51_48_49_L12 n y2 y5 kk fuel x6 T = some T' → GW k T 12 [(0, .ref (ad k.1 50)), (1, .ref (ad k.1 51)), (2, .int y2), (3, .ref (ad k.1 48)), (4, .ref (ad k.1 49)), (5, .int y5), (6, .int x6)] [] := by
  intro fuel
  induction fuel with
  | zero => intro x6 T h; cases h
  | succ fuel ih =>
    intro x6 T h
    rw [fX11_copy_50_51_48_49_L12] at h
    refine q_iload C dX11_copy_12 6 rfl ?_
    refine q_bipush (v := 6) C dX11_copy_14 (by decide) ?_
    refine q_icmp_ge (tgt := 39) C dX11_copy_16 (by decide) h (fun c h => ?_) (fun c h => ?_)
    · refine q_sub [0, 1, 2, 3, 4, 5] rfl ?_
      exact hk _ h
    · refine q_aload_n C dX11_copy_19 rfl 3 rfl ?_
      refine q_iload C dX11_copy_20 5 rfl ?_
      refine q_aald C dX11_copy_22 (wE_48 _ _) h (fun h => ?_)
      refine q_iload C dX11_copy_23 6 rfl ?_
      refine q_aload_n C dX11_copy_25 rfl 0 rfl ?_
      refine q_iload C dX11_copy_26 5 rfl ?_
      refine q_aald C dX11_copy_28 (wE_50 _ _) h (fun h => ?_)
      refine q_iload C dX11_copy_29 6 rfl ?_
      refine q_ialdG C dX11_copy_31 h (fun h => ?_)
      refine q_iastG C dX11_copy_32 h (fun T_1 h => ?_)
      refine q_iinc (j := 6) (v := 1) (lv' := [(0, .ref (ad k.1 50)), (1, .ref (ad k.1 51)), (2, .int y2), (3, .ref (ad k.1 48)), (4, .ref (ad k.1 49)), (5, .int y5), (6, .int (x6 + 1))]) C dX11_copy_33 rfl (by decide) (by decide) rfl ?_
      refine q_goto (tgt := 12) C dX11_copy_36 (by decide) ?_
      refine q_sub [0, 1, 2, 3, 4, 5, 6] rfl ?_
      exact ih _ _ h
def fX11_copy_50_51_48_49_L3 (n : Nat) (y2 : Int32) (kk : TS → Option (TS)) : Nat → Int32 → TS → Option (TS)
  | 0, _, _ => none
  | fuel + 1, x5, T => if y2 ≤ x5 then kk T else fX11_copy_50_51_48_49_L12 n y2 x5 (fun T_2 => ck x5 60 (ck x5 60 (nm (sA T_2 49 x5 (gA T_2 51 (Int32.toNatClampNeg x5))) (fun T_3 => fX11_copy_50_51_48_49_L3 n y2 kk fuel (x5 + 1) T_3)))) n (0 : Int32) T
set_option maxHeartbeats 4000000 in
set_option maxRecDepth 100000 in
theorem lpX11_copy_50_51_48_49_L3 {l : Launch} {k : KT} {n : Nat} {y2 : Int32} {kk : TS → Option (TS)} {T' : TS} (C : CX l k 7 cX11_copy RX11 wsX11_copy 0 none (none, T')) (hk : ∀ T1, kk T1 = some T' → GW k T1 54 [] []) : ∀ (fuel : Nat) (x5 : Int32) (T : TS), fX11_copy_50_51_48_49_L3 n y2 kk fuel x5 T = some T' → GW k T 3 [(0, .ref (ad k.1 50)), (1, .ref (ad k.1 51)), (2, .int y2), (3, .ref (ad k.1 48)), (4, .ref (ad k.1 49)), (5, .int x5)] [] := by
  intro fuel
  induction fuel with
  | zero => intro x5 T h; cases h
  | succ fuel ih =>
    intro x5 T h
    rw [fX11_copy_50_51_48_49_L3] at h
    refine q_iload C dX11_copy_3 5 rfl ?_
    refine q_iload_n C dX11_copy_5 rfl 2 rfl ?_
    refine q_icmp_ge (tgt := 54) C dX11_copy_6 (by decide) h (fun c h => ?_) (fun c h => ?_)
    · refine q_sub [] rfl ?_
      exact hk _ h
    · refine q_iconst (v := 0) C dX11_copy_9 (by decide) ?_
      refine q_istore (lv' := [(0, .ref (ad k.1 50)), (1, .ref (ad k.1 51)), (2, .int y2), (3, .ref (ad k.1 48)), (4, .ref (ad k.1 49)), (5, .int x5), (6, .int (0 : Int32))]) C dX11_copy_10 (by decide) rfl ?_
      refine q_sub [0, 1, 2, 3, 4, 5, 6] rfl ?_
      refine lpX11_copy_50_51_48_49_L12 C (fun T_2 h => ?_) _ _ _ h
      refine q_aload C dX11_copy_39 4 rfl ?_
      refine q_iload C dX11_copy_41 5 rfl ?_
      refine q_aload_n C dX11_copy_43 rfl 1 rfl ?_
      refine q_iload C dX11_copy_44 5 rfl ?_
      refine q_iald C dX11_copy_46 (wE_51 _ _) h (fun h => ?_)
      refine q_iast C dX11_copy_47 (wE_49 _ _) (wS_49 _ _) h (fun T_3 h => ?_)
      refine q_iinc (j := 5) (v := 1) (lv' := [(0, .ref (ad k.1 50)), (1, .ref (ad k.1 51)), (2, .int y2), (3, .ref (ad k.1 48)), (4, .ref (ad k.1 49)), (5, .int (x5 + 1))]) C dX11_copy_48 rfl (by decide) (by decide) rfl ?_
      refine q_goto (tgt := 3) C dX11_copy_51 (by decide) ?_
      refine q_sub [0, 1, 2, 3, 4, 5] rfl ?_
      exact ih _ _ h
def fX11_copy_50_51_48_49 (n : Nat) (p2 : Int32) (T : TS) : Option (TS) := fX11_copy_50_51_48_49_L3 n p2 (fun T_4 => some T_4) n (0 : Int32) T
set_option maxHeartbeats 4000000 in
set_option maxRecDepth 100000 in
theorem mtX11_copy_50_51_48_49 (l : Launch) (X : XT) (n : Nat) (p2 : Int32) (T T' : TS) (h : fX11_copy_50_51_48_49 n p2 T = some T') : Met l yX11_copy wsX11_copy (RM 0) (PreX X [.ref (ad X 50), .ref (ad X 51), .int p2, .ref (ad X 48), .ref (ad X 49)] T) (QQ X none T') 0 0 (xA X) := by
  refine q_start (by decide) rfl (Nat.le_of_ble_eq_true rfl) ?_
  intro k hk C
  subst hk
  show GW k T 0 [(0, .ref (ad k.1 50)), (1, .ref (ad k.1 51)), (2, .int p2), (3, .ref (ad k.1 48)), (4, .ref (ad k.1 49))] []
  unfold fX11_copy_50_51_48_49 at h
  refine q_iconst (v := 0) C dX11_copy_0 (by decide) ?_
  refine q_istore (lv' := [(0, .ref (ad k.1 50)), (1, .ref (ad k.1 51)), (2, .int p2), (3, .ref (ad k.1 48)), (4, .ref (ad k.1 49)), (5, .int (0 : Int32))]) C dX11_copy_1 (by decide) rfl ?_
  refine q_sub [0, 1, 2, 3, 4, 5] rfl ?_
  refine lpX11_copy_50_51_48_49_L3 C (fun T_4 h => ?_) _ _ _ h
  exact q_vreturn C dX11_copy_54 h
def fX11_becomes_L35 (n : Nat) (kk : Int32 → TS → Option (Int32 × TS)) : Nat → Int32 → Int32 → TS → Option (Int32 × TS)
  | 0, _, _, _ => none
  | fuel + 1, x1, x2, T => if (gI T 2067) ≤ x2 then kk x1 T else ck x2 60 (nm (x1 + (gA T 49 (Int32.toNatClampNeg x2))) (fun x1_4 => fX11_becomes_L35 n kk fuel x1_4 (x2 + 1) T))
set_option maxHeartbeats 4000000 in
set_option maxRecDepth 100000 in
theorem lpX11_becomes_L35 {l : Launch} {k : KT} {n : Nat} {kk : Int32 → TS → Option (Int32 × TS)} {r : Int32} {T' : TS} (C : CX l k 3 cX11_becomes RX11 wsX11_becomes 1 (some .int) (some (.int r), T')) (hk : ∀ e1 T1, kk e1 T1 = some (r, T') → GW k T1 58 [(1, .int e1)] []) : ∀ (fuel : Nat) (x1 : Int32) (x2 : Int32) (T : TS), fX11_becomes_L35 n kk fuel x1 x2 T = some (r, T') → GW k T 35 [(0, .ref (ad k.1 41)), (1, .int x1), (2, .int x2)] [] := by
  intro fuel
  induction fuel with
  | zero => intro x1 x2 T h; cases h
  | succ fuel ih =>
    intro x1 x2 T h
    rw [fX11_becomes_L35] at h
    refine q_iload_n C dX11_becomes_35 rfl 2 rfl ?_
    refine q_aload_n C dX11_becomes_36 rfl 0 rfl ?_
    refine q_get (j := 17) C dX11_becomes_37 (wE_41 _ _) rfl (by decide) rfl inn_X11_becomes_11 (by decide +kernel) rfl ?_
    refine q_icmp_ge (tgt := 58) C dX11_becomes_40 (by decide) h (fun c h => ?_) (fun c h => ?_)
    · refine q_sub [1] rfl ?_
      exact hk _ _ h
    · refine q_iload_n C dX11_becomes_43 rfl 1 rfl ?_
      refine q_aload_n C dX11_becomes_44 rfl 0 rfl ?_
      refine q_get (j := 19) C dX11_becomes_45 (wE_41 _ _) rfl (by decide) rfl inn_X11_becomes_11 (by decide +kernel) rfl ?_
      refine q_iload_n C dX11_becomes_48 rfl 2 rfl ?_
      refine q_iald C dX11_becomes_49 (wE_49 _ _) h (fun h => ?_)
      refine q_iadd C dX11_becomes_50 ?_
      refine q_nm h (fun x1_4 h => ?_)
      refine q_istore_n (lv' := [(0, .ref (ad k.1 41)), (1, .int x1_4), (2, .int x2)]) C dX11_becomes_51 rfl (by decide) rfl ?_
      refine q_iinc (j := 2) (v := 1) (lv' := [(0, .ref (ad k.1 41)), (1, .int x1_4), (2, .int (x2 + 1))]) C dX11_becomes_52 rfl (by decide) (by decide) rfl ?_
      refine q_goto (tgt := 35) C dX11_becomes_55 (by decide) ?_
      refine q_sub [0, 1, 2] rfl ?_
      exact ih _ _ _ h
def fX11_becomes (n : Nat) (T : TS) : Option (Int32 × TS) := bv (fX11_copy_50_51_48_49 n (gI T 2070) T) (fun T_1 => nm (uI T_1 2067 (gI T_1 2070)) (fun T_3 => fX11_becomes_L35 n (fun e1_5 T_6 => some (e1_5, T_6)) n (0 : Int32) (0 : Int32) T_3))
set_option maxHeartbeats 4000000 in
set_option maxRecDepth 100000 in
theorem mtX11_becomes (l : Launch) (X : XT) (n : Nat) (T T' : TS) (r : Int32) (h : fX11_becomes n T = some (r, T')) : Met l yX11_becomes wsX11_becomes (RM 1) (PreX X [.ref (ad X 41)] T) (QQ X (some (.int r)) T') 0 0 (xA X) := by
  refine q_start (by decide) rfl (Nat.le_of_ble_eq_true rfl) ?_
  intro k hk C
  subst hk
  show GW k T 0 [(0, .ref (ad k.1 41))] []
  unfold fX11_becomes at h
  refine q_aload_n C dX11_becomes_0 rfl 0 rfl ?_
  refine q_get (j := 21) C dX11_becomes_1 (wE_41 _ _) rfl (by decide) rfl inn_X11_becomes_11 (by decide +kernel) rfl ?_
  refine q_aload_n C dX11_becomes_4 rfl 0 rfl ?_
  refine q_get (j := 22) C dX11_becomes_5 (wE_41 _ _) rfl (by decide) rfl inn_X11_becomes_11 (by decide +kernel) rfl ?_
  refine q_aload_n C dX11_becomes_8 rfl 0 rfl ?_
  refine q_get (j := 20) C dX11_becomes_9 (wE_41 _ _) rfl (by decide) rfl inn_X11_becomes_11 (by decide +kernel) rfl ?_
  refine q_aload_n C dX11_becomes_12 rfl 0 rfl ?_
  refine q_get (j := 18) C dX11_becomes_13 (wE_41 _ _) rfl (by decide) rfl inn_X11_becomes_11 (by decide +kernel) rfl ?_
  refine q_aload_n C dX11_becomes_16 rfl 0 rfl ?_
  refine q_get (j := 19) C dX11_becomes_17 (wE_41 _ _) rfl (by decide) rfl inn_X11_becomes_11 (by decide +kernel) rfl ?_
  obtain ⟨T_1, hc, h⟩ := bv_some h
  refine q_callS (st' := []) C dX11_becomes_20 [.ref (ad k.1 50), .ref (ad k.1 51), .int (gI T 2070), .ref (ad k.1 48), .ref (ad k.1 49)] [] (mtX11_copy_50_51_48_49 l _ n _ _ _ hc) gX11_becomes_X11_copy rfl hd_X11_copy (by decide) (by decide) rfl rfl (Nat.le_of_ble_eq_true rfl) rfl ?_
  clear hc
  refine q_aload_n C dX11_becomes_23 rfl 0 rfl ?_
  refine q_aload_n C dX11_becomes_24 rfl 0 rfl ?_
  refine q_get (j := 20) C dX11_becomes_25 (wE_41 _ _) rfl (by decide) rfl inn_X11_becomes_11 (by decide +kernel) rfl ?_
  refine q_putI (j := 17) (ty := .int) C dX11_becomes_28 (wE_41 _ _) (wP_41_17 _ _ _) rfl (by decide) (Nat.le_of_ble_eq_true rfl) tyX11 tyX11_ok nmX11 inn_X11_becomes_11 (by decide +kernel) rfl rfl (by decide +kernel) rfl rfl h (fun T_3 h => ?_)
  refine q_iconst (v := 0) C dX11_becomes_31 (by decide) ?_
  refine q_istore_n (lv' := [(0, .ref (ad k.1 41)), (1, .int (0 : Int32))]) C dX11_becomes_32 rfl (by decide) rfl ?_
  refine q_iconst (v := 0) C dX11_becomes_33 (by decide) ?_
  refine q_istore_n (lv' := [(0, .ref (ad k.1 41)), (1, .int (0 : Int32)), (2, .int (0 : Int32))]) C dX11_becomes_34 rfl (by decide) rfl ?_
  refine q_sub [0, 1, 2] rfl ?_
  refine lpX11_becomes_L35 C (fun e1_5 T_6 h => ?_) _ _ _ _ h
  refine q_iload_n C dX11_becomes_58 rfl 0 rfl ?_
  exact q_ireturn C dX11_becomes_59 h
def fX11_greedy_L24 (n : Nat) (kk : Int32 → TS → Option (Int32 × TS)) : Nat → Int32 → Int32 → TS → Option (Int32 × TS)
  | 0, _, _, _ => none
  | fuel + 1, x1, x2, T => if (6 : Int32) ≤ x2 then kk x1 T else if (gI T 2056) ≤ x2 then ck x2 6 (nm (sA T 54 x2 (0 : Int32)) (fun T_5 => ck x2 6 (nm (x1 + (gA T_5 54 (Int32.toNatClampNeg x2))) (fun x1_6 => fX11_greedy_L24 n kk fuel x1_6 (x2 + 1) T_5)))) else bd (fX11_wanted n x2 T) (fun r_8 T_7 => ck x2 6 (nm (sA T_7 54 x2 r_8) (fun T_9 => ck x2 6 (nm (x1 + (gA T_9 54 (Int32.toNatClampNeg x2))) (fun x1_10 => fX11_greedy_L24 n kk fuel x1_10 (x2 + 1) T_9)))))
set_option maxHeartbeats 4000000 in
set_option maxRecDepth 100000 in
theorem lpX11_greedy_L24 {l : Launch} {k : KT} {n : Nat} {kk : Int32 → TS → Option (Int32 × TS)} {r : Int32} {T' : TS} (C : CX l k 5 cX11_greedy RX11 wsX11_greedy 3 (some .int) (some (.int r), T')) (hk : ∀ e1 T1, kk e1 T1 = some (r, T') → GW k T1 68 [(0, .ref (ad k.1 41)), (1, .int e1)] []) : ∀ (fuel : Nat) (x1 : Int32) (x2 : Int32) (T : TS), fX11_greedy_L24 n kk fuel x1 x2 T = some (r, T') → GW k T 24 [(0, .ref (ad k.1 41)), (1, .int x1), (2, .int x2)] [] := by
  intro fuel
  induction fuel with
  | zero => intro x1 x2 T h; cases h
  | succ fuel ih =>
    intro x1 x2 T h
    rw [fX11_greedy_L24] at h
    refine q_iload_n C dX11_greedy_24 rfl 2 rfl ?_
    refine q_bipush (v := 6) C dX11_greedy_25 (by decide) ?_
    refine q_icmp_ge (tgt := 68) C dX11_greedy_27 (by decide) h (fun c h => ?_) (fun c h => ?_)
    · refine q_sub [0, 1] rfl ?_
      exact hk _ _ h
    · refine q_aload_n C dX11_greedy_30 rfl 0 rfl ?_
      refine q_get (j := 28) C dX11_greedy_31 (wE_41 _ _) rfl (by decide) rfl inn_X11_greedy_11 (by decide +kernel) rfl ?_
      refine q_iload_n C dX11_greedy_34 rfl 2 rfl ?_
      refine q_iload_n C dX11_greedy_35 rfl 2 rfl ?_
      refine q_aload_n C dX11_greedy_36 rfl 0 rfl ?_
      refine q_get (j := 6) C dX11_greedy_37 (wE_41 _ _) rfl (by decide) rfl inn_X11_greedy_11 (by decide +kernel) rfl ?_
      refine q_icmp_ge (tgt := 51) C dX11_greedy_40 (by decide) h (fun c h => ?_) (fun c h => ?_)
      · refine q_iconst (v := 0) C dX11_greedy_51 (by decide) ?_
        refine q_iast C dX11_greedy_52 (wE_54 _ _) (wS_54 _ _) h (fun T_5 h => ?_)
        refine q_iload_n C dX11_greedy_53 rfl 1 rfl ?_
        refine q_aload_n C dX11_greedy_54 rfl 0 rfl ?_
        refine q_get (j := 28) C dX11_greedy_55 (wE_41 _ _) rfl (by decide) rfl inn_X11_greedy_11 (by decide +kernel) rfl ?_
        refine q_iload_n C dX11_greedy_58 rfl 2 rfl ?_
        refine q_iald C dX11_greedy_59 (wE_54 _ _) h (fun h => ?_)
        refine q_iadd C dX11_greedy_60 ?_
        refine q_nm h (fun x1_6 h => ?_)
        refine q_istore_n (lv' := [(0, .ref (ad k.1 41)), (1, .int x1_6), (2, .int x2)]) C dX11_greedy_61 rfl (by decide) rfl ?_
        refine q_iinc (j := 2) (v := 1) (lv' := [(0, .ref (ad k.1 41)), (1, .int x1_6), (2, .int (x2 + 1))]) C dX11_greedy_62 rfl (by decide) (by decide) rfl ?_
        refine q_goto (tgt := 24) C dX11_greedy_65 (by decide) ?_
        refine q_sub [0, 1, 2] rfl ?_
        exact ih _ _ _ h
      · refine q_aload_n C dX11_greedy_43 rfl 0 rfl ?_
        refine q_iload_n C dX11_greedy_44 rfl 2 rfl ?_
        obtain ⟨r_8, T_7, hc, h⟩ := bd_some h
        refine q_callV (st' := [.int r_8, .int x2, .ref (ad k.1 54)]) C dX11_greedy_45 [.int x2] [.int x2, .ref (ad k.1 54)] (mtX11_wanted l _ n _ _ _ _ hc) gX11_greedy_X11_wanted rfl hd_X11_wanted (by decide) (by decide) (wE_41 _ _) rfl rfl rfl (Nat.le_of_ble_eq_true rfl) rfl ?_
        clear hc
        refine q_goto (tgt := 52) C dX11_greedy_48 (by decide) ?_
        refine q_iast C dX11_greedy_52 (wE_54 _ _) (wS_54 _ _) h (fun T_9 h => ?_)
        refine q_iload_n C dX11_greedy_53 rfl 1 rfl ?_
        refine q_aload_n C dX11_greedy_54 rfl 0 rfl ?_
        refine q_get (j := 28) C dX11_greedy_55 (wE_41 _ _) rfl (by decide) rfl inn_X11_greedy_11 (by decide +kernel) rfl ?_
        refine q_iload_n C dX11_greedy_58 rfl 2 rfl ?_
        refine q_iald C dX11_greedy_59 (wE_54 _ _) h (fun h => ?_)
        refine q_iadd C dX11_greedy_60 ?_
        refine q_nm h (fun x1_10 h => ?_)
        refine q_istore_n (lv' := [(0, .ref (ad k.1 41)), (1, .int x1_10), (2, .int x2)]) C dX11_greedy_61 rfl (by decide) rfl ?_
        refine q_iinc (j := 2) (v := 1) (lv' := [(0, .ref (ad k.1 41)), (1, .int x1_10), (2, .int (x2 + 1))]) C dX11_greedy_62 rfl (by decide) (by decide) rfl ?_
        refine q_goto (tgt := 24) C dX11_greedy_65 (by decide) ?_
        refine q_sub [0, 1, 2] rfl ?_
        exact ih _ _ _ h
def fX11_greedy_L74 (n : Nat) (y1 : Int32) (kk : TS → Option (Int32 × TS)) : Nat → Int32 → TS → Option (Int32 × TS)
  | 0, _, _ => none
  | fuel + 1, x2, T => if (6 : Int32) ≤ x2 then kk T else ck x2 6 (nm (sA T 55 x2 (0 : Int32)) (fun T_13 => fX11_greedy_L74 n y1 kk fuel (x2 + 1) T_13))
set_option maxHeartbeats 4000000 in
set_option maxRecDepth 100000 in
theorem lpX11_greedy_L74 {l : Launch} {k : KT} {n : Nat} {y1 : Int32} {kk : TS → Option (Int32 × TS)} {r : Int32} {T' : TS} (C : CX l k 5 cX11_greedy RX11 wsX11_greedy 3 (some .int) (some (.int r), T')) (hk : ∀ T1, kk T1 = some (r, T') → GW k T1 93 [(0, .ref (ad k.1 41)), (1, .int y1)] []) : ∀ (fuel : Nat) (x2 : Int32) (T : TS), fX11_greedy_L74 n y1 kk fuel x2 T = some (r, T') → GW k T 74 [(0, .ref (ad k.1 41)), (1, .int y1), (2, .int x2)] [] := by
  intro fuel
  induction fuel with
  | zero => intro x2 T h; cases h
  | succ fuel ih =>
    intro x2 T h
    rw [fX11_greedy_L74] at h
    refine q_iload_n C dX11_greedy_74 rfl 2 rfl ?_
    refine q_bipush (v := 6) C dX11_greedy_75 (by decide) ?_
    refine q_icmp_ge (tgt := 93) C dX11_greedy_77 (by decide) h (fun c h => ?_) (fun c h => ?_)
    · refine q_sub [0, 1] rfl ?_
      exact hk _ h
    · refine q_aload_n C dX11_greedy_80 rfl 0 rfl ?_
      refine q_get (j := 29) C dX11_greedy_81 (wE_41 _ _) rfl (by decide) rfl inn_X11_greedy_11 (by decide +kernel) rfl ?_
      refine q_iload_n C dX11_greedy_84 rfl 2 rfl ?_
      refine q_iconst (v := 0) C dX11_greedy_85 (by decide) ?_
      refine q_iast C dX11_greedy_86 (wE_55 _ _) (wS_55 _ _) h (fun T_13 h => ?_)
      refine q_iinc (j := 2) (v := 1) (lv' := [(0, .ref (ad k.1 41)), (1, .int y1), (2, .int (x2 + 1))]) C dX11_greedy_87 rfl (by decide) (by decide) rfl ?_
      refine q_goto (tgt := 74) C dX11_greedy_90 (by decide) ?_
      refine q_sub [0, 1, 2] rfl ?_
      exact ih _ _ h
def fX11_greedy_L119 (n : Nat) (kk : Int32 → TS → Option (Int32 × TS)) : Nat → Int32 → Int32 → Int32 → Int32 → TS → Option (Int32 × TS)
  | 0, _, _, _, _, _ => none
  | fuel + 1, x1, x2, x3, x4, T => if x4 = (-1 : Int32) then kk x1 T else ck x4 6 (ck x4 6 (nz (gA T 42 (Int32.toNatClampNeg x4)) (ck x4 6 (nm (sA T 55 x4 (imin (gA T 54 (Int32.toNatClampNeg x4)) (imin x3 (x2 / (gA T 42 (Int32.toNatClampNeg x4)))))) (fun T_19 => ck x4 6 (ck x4 6 (ck x4 6 (nm (sA T_19 54 x4 ((gA T_19 54 (Int32.toNatClampNeg x4)) - (gA T_19 55 (Int32.toNatClampNeg x4)))) (fun T_20 => ck x4 6 (nm (x1 - (gA T_20 55 (Int32.toNatClampNeg x4))) (fun x1_21 => ck x4 6 (nm (x3 - (gA T_20 55 (Int32.toNatClampNeg x4))) (fun x3_22 => ck x4 6 (ck x4 6 (nm (x2 - ((gA T_20 55 (Int32.toNatClampNeg x4)) * (gA T_20 42 (Int32.toNatClampNeg x4)))) (fun x2_23 => ck x4 6 (bd (fX11_widest n (gA T_20 42 (Int32.toNatClampNeg x4)) T_20) (fun r_25 T_24 => fX11_greedy_L119 n kk fuel x1_21 x2_23 x3_22 r_25 T_24))))))))))))))))))
set_option maxHeartbeats 4000000 in
set_option maxRecDepth 100000 in
theorem lpX11_greedy_L119 {l : Launch} {k : KT} {n : Nat} {kk : Int32 → TS → Option (Int32 × TS)} {r : Int32} {T' : TS} (C : CX l k 5 cX11_greedy RX11 wsX11_greedy 3 (some .int) (some (.int r), T')) (hk : ∀ e1 T1, kk e1 T1 = some (r, T') → GW k T1 226 [(0, .ref (ad k.1 41)), (1, .int e1)] []) : ∀ (fuel : Nat) (x1 : Int32) (x2 : Int32) (x3 : Int32) (x4 : Int32) (T : TS), fX11_greedy_L119 n kk fuel x1 x2 x3 x4 T = some (r, T') → GW k T 119 [(0, .ref (ad k.1 41)), (1, .int x1), (2, .int x2), (3, .int x3), (4, .int x4)] [] := by
  intro fuel
  induction fuel with
  | zero => intro x1 x2 x3 x4 T h; cases h
  | succ fuel ih =>
    intro x1 x2 x3 x4 T h
    rw [fX11_greedy_L119] at h
    refine q_iload C dX11_greedy_119 4 rfl ?_
    refine q_iconst (v := -1) C dX11_greedy_121 (by decide) ?_
    refine q_icmp_eq (tgt := 226) C dX11_greedy_122 (by decide) h (fun c h => ?_) (fun c h => ?_)
    · refine q_sub [0, 1] rfl ?_
      exact hk _ _ h
    · refine q_aload_n C dX11_greedy_125 rfl 0 rfl ?_
      refine q_get (j := 29) C dX11_greedy_126 (wE_41 _ _) rfl (by decide) rfl inn_X11_greedy_11 (by decide +kernel) rfl ?_
      refine q_iload C dX11_greedy_129 4 rfl ?_
      refine q_aload_n C dX11_greedy_131 rfl 0 rfl ?_
      refine q_get (j := 28) C dX11_greedy_132 (wE_41 _ _) rfl (by decide) rfl inn_X11_greedy_11 (by decide +kernel) rfl ?_
      refine q_iload C dX11_greedy_135 4 rfl ?_
      refine q_iald C dX11_greedy_137 (wE_54 _ _) h (fun h => ?_)
      refine q_iload_n C dX11_greedy_138 rfl 3 rfl ?_
      refine q_iload_n C dX11_greedy_139 rfl 2 rfl ?_
      refine q_aload_n C dX11_greedy_140 rfl 0 rfl ?_
      refine q_get (j := 7) C dX11_greedy_141 (wE_41 _ _) rfl (by decide) rfl inn_X11_greedy_11 (by decide +kernel) rfl ?_
      refine q_iload C dX11_greedy_144 4 rfl ?_
      refine q_iald C dX11_greedy_146 (wE_42 _ _) h (fun h => ?_)
      refine q_idiv C dX11_greedy_147 h (fun h => ?_)
      refine q_mmin C dX11_greedy_148 (by decide +kernel) (by decide +kernel) (by decide +kernel) (by decide +kernel) (by decide) (Nat.le_of_ble_eq_true rfl) ?_
      refine q_mmin C dX11_greedy_151 (by decide +kernel) (by decide +kernel) (by decide +kernel) (by decide +kernel) (by decide) (Nat.le_of_ble_eq_true rfl) ?_
      refine q_iast C dX11_greedy_154 (wE_55 _ _) (wS_55 _ _) h (fun T_19 h => ?_)
      refine q_aload_n C dX11_greedy_155 rfl 0 rfl ?_
      refine q_get (j := 28) C dX11_greedy_156 (wE_41 _ _) rfl (by decide) rfl inn_X11_greedy_11 (by decide +kernel) rfl ?_
      refine q_iload C dX11_greedy_159 4 rfl ?_
      refine q_dup2 C dX11_greedy_161 rfl rfl ?_
      refine q_iald C dX11_greedy_162 (wE_54 _ _) h (fun h => ?_)
      refine q_aload_n C dX11_greedy_163 rfl 0 rfl ?_
      refine q_get (j := 29) C dX11_greedy_164 (wE_41 _ _) rfl (by decide) rfl inn_X11_greedy_11 (by decide +kernel) rfl ?_
      refine q_iload C dX11_greedy_167 4 rfl ?_
      refine q_iald C dX11_greedy_169 (wE_55 _ _) h (fun h => ?_)
      refine q_isub C dX11_greedy_170 ?_
      refine q_iast C dX11_greedy_171 (wE_54 _ _) (wS_54 _ _) h (fun T_20 h => ?_)
      refine q_iload_n C dX11_greedy_172 rfl 1 rfl ?_
      refine q_aload_n C dX11_greedy_173 rfl 0 rfl ?_
      refine q_get (j := 29) C dX11_greedy_174 (wE_41 _ _) rfl (by decide) rfl inn_X11_greedy_11 (by decide +kernel) rfl ?_
      refine q_iload C dX11_greedy_177 4 rfl ?_
      refine q_iald C dX11_greedy_179 (wE_55 _ _) h (fun h => ?_)
      refine q_isub C dX11_greedy_180 ?_
      refine q_nm h (fun x1_21 h => ?_)
      refine q_istore_n (lv' := [(0, .ref (ad k.1 41)), (1, .int x1_21), (2, .int x2), (3, .int x3), (4, .int x4)]) C dX11_greedy_181 rfl (by decide) rfl ?_
      refine q_iload_n C dX11_greedy_182 rfl 3 rfl ?_
      refine q_aload_n C dX11_greedy_183 rfl 0 rfl ?_
      refine q_get (j := 29) C dX11_greedy_184 (wE_41 _ _) rfl (by decide) rfl inn_X11_greedy_11 (by decide +kernel) rfl ?_
      refine q_iload C dX11_greedy_187 4 rfl ?_
      refine q_iald C dX11_greedy_189 (wE_55 _ _) h (fun h => ?_)
      refine q_isub C dX11_greedy_190 ?_
      refine q_nm h (fun x3_22 h => ?_)
      refine q_istore_n (lv' := [(0, .ref (ad k.1 41)), (1, .int x1_21), (2, .int x2), (3, .int x3_22), (4, .int x4)]) C dX11_greedy_191 rfl (by decide) rfl ?_
      refine q_iload_n C dX11_greedy_192 rfl 2 rfl ?_
      refine q_aload_n C dX11_greedy_193 rfl 0 rfl ?_
      refine q_get (j := 29) C dX11_greedy_194 (wE_41 _ _) rfl (by decide) rfl inn_X11_greedy_11 (by decide +kernel) rfl ?_
      refine q_iload C dX11_greedy_197 4 rfl ?_
      refine q_iald C dX11_greedy_199 (wE_55 _ _) h (fun h => ?_)
      refine q_aload_n C dX11_greedy_200 rfl 0 rfl ?_
      refine q_get (j := 7) C dX11_greedy_201 (wE_41 _ _) rfl (by decide) rfl inn_X11_greedy_11 (by decide +kernel) rfl ?_
      refine q_iload C dX11_greedy_204 4 rfl ?_
      refine q_iald C dX11_greedy_206 (wE_42 _ _) h (fun h => ?_)
      refine q_imul C dX11_greedy_207 ?_
      refine q_isub C dX11_greedy_208 ?_
      refine q_nm h (fun x2_23 h => ?_)
      refine q_istore_n (lv' := [(0, .ref (ad k.1 41)), (1, .int x1_21), (2, .int x2_23), (3, .int x3_22), (4, .int x4)]) C dX11_greedy_209 rfl (by decide) rfl ?_
      refine q_aload_n C dX11_greedy_210 rfl 0 rfl ?_
      refine q_aload_n C dX11_greedy_211 rfl 0 rfl ?_
      refine q_get (j := 7) C dX11_greedy_212 (wE_41 _ _) rfl (by decide) rfl inn_X11_greedy_11 (by decide +kernel) rfl ?_
      refine q_iload C dX11_greedy_215 4 rfl ?_
      refine q_iald C dX11_greedy_217 (wE_42 _ _) h (fun h => ?_)
      obtain ⟨r_25, T_24, hc, h⟩ := bd_some h
      refine q_callV (st' := [.int r_25]) C dX11_greedy_218 [.int (gA T_20 42 (Int32.toNatClampNeg x4))] [] (mtX11_widest l _ n _ _ _ _ hc) gX11_greedy_X11_widest rfl hd_X11_widest (by decide) (by decide) (wE_41 _ _) rfl rfl rfl (Nat.le_of_ble_eq_true rfl) rfl ?_
      clear hc
      refine q_istore (lv' := [(0, .ref (ad k.1 41)), (1, .int x1_21), (2, .int x2_23), (3, .int x3_22), (4, .int r_25)]) C dX11_greedy_221 (by decide) rfl ?_
      refine q_goto (tgt := 119) C dX11_greedy_223 (by decide) ?_
      refine q_sub [0, 1, 2, 3, 4] rfl ?_
      exact ih _ _ _ _ _ h
def fX11_greedy_L68 (n : Nat) (kk : TS → Option (Int32 × TS)) : Nat → Int32 → TS → Option (Int32 × TS)
  | 0, _, _ => none
  | fuel + 1, x1, T => if x1 ≤ 0 then kk T else fX11_greedy_L74 n x1 (fun T_14 => nm ((gI T_14 2051) - ((2 : Int32) * (gI T_14 2052))) (fun x2_15 => nm (gI T_14 2053) (fun x3_16 => bd (fX11_widest n (10001 : Int32) T_14) (fun r_18 T_17 => fX11_greedy_L119 n (fun e1_26 T_27 => bd (fX11_rolls n (55) T_27) (fun r_29 T_28 => if ¬ r_29 = 0 then fX11_greedy_L68 n kk fuel e1_26 T_28 else some ((-3 : Int32), T_28))) n x1 x2_15 x3_16 r_18 T_17)))) n (0 : Int32) T
set_option maxHeartbeats 4000000 in
set_option maxRecDepth 100000 in
theorem lpX11_greedy_L68 {l : Launch} {k : KT} {n : Nat} {kk : TS → Option (Int32 × TS)} {r : Int32} {T' : TS} (C : CX l k 5 cX11_greedy RX11 wsX11_greedy 3 (some .int) (some (.int r), T')) (hk : ∀ T1, kk T1 = some (r, T') → GW k T1 243 [(0, .ref (ad k.1 41))] []) : ∀ (fuel : Nat) (x1 : Int32) (T : TS), fX11_greedy_L68 n kk fuel x1 T = some (r, T') → GW k T 68 [(0, .ref (ad k.1 41)), (1, .int x1)] [] := by
  intro fuel
  induction fuel with
  | zero => intro x1 T h; cases h
  | succ fuel ih =>
    intro x1 T h
    rw [fX11_greedy_L68] at h
    refine q_iload_n C dX11_greedy_68 rfl 1 rfl ?_
    refine q_if_le (tgt := 243) C dX11_greedy_69 (by decide) h (fun c h => ?_) (fun c h => ?_)
    · refine q_sub [0] rfl ?_
      exact hk _ h
    · refine q_iconst (v := 0) C dX11_greedy_72 (by decide) ?_
      refine q_istore_n (lv' := [(0, .ref (ad k.1 41)), (1, .int x1), (2, .int (0 : Int32))]) C dX11_greedy_73 rfl (by decide) rfl ?_
      refine q_sub [0, 1, 2] rfl ?_
      refine lpX11_greedy_L74 C (fun T_14 h => ?_) _ _ _ h
      refine q_aload_n C dX11_greedy_93 rfl 0 rfl ?_
      refine q_get (j := 1) C dX11_greedy_94 (wE_41 _ _) rfl (by decide) rfl inn_X11_greedy_11 (by decide +kernel) rfl ?_
      refine q_iconst (v := 2) C dX11_greedy_97 (by decide) ?_
      refine q_aload_n C dX11_greedy_98 rfl 0 rfl ?_
      refine q_get (j := 2) C dX11_greedy_99 (wE_41 _ _) rfl (by decide) rfl inn_X11_greedy_11 (by decide +kernel) rfl ?_
      refine q_imul C dX11_greedy_102 ?_
      refine q_isub C dX11_greedy_103 ?_
      refine q_nm h (fun x2_15 h => ?_)
      refine q_istore_n (lv' := [(0, .ref (ad k.1 41)), (1, .int x1), (2, .int x2_15)]) C dX11_greedy_104 rfl (by decide) rfl ?_
      refine q_aload_n C dX11_greedy_105 rfl 0 rfl ?_
      refine q_get (j := 3) C dX11_greedy_106 (wE_41 _ _) rfl (by decide) rfl inn_X11_greedy_11 (by decide +kernel) rfl ?_
      refine q_nm h (fun x3_16 h => ?_)
      refine q_istore_n (lv' := [(0, .ref (ad k.1 41)), (1, .int x1), (2, .int x2_15), (3, .int x3_16)]) C dX11_greedy_109 rfl (by decide) rfl ?_
      refine q_aload_n C dX11_greedy_110 rfl 0 rfl ?_
      refine q_sipush (v := 10001) C dX11_greedy_111 (by decide) ?_
      obtain ⟨r_18, T_17, hc, h⟩ := bd_some h
      refine q_callV (st' := [.int r_18]) C dX11_greedy_114 [.int (10001 : Int32)] [] (mtX11_widest l _ n _ _ _ _ hc) gX11_greedy_X11_widest rfl hd_X11_widest (by decide) (by decide) (wE_41 _ _) rfl rfl rfl (Nat.le_of_ble_eq_true rfl) rfl ?_
      clear hc
      refine q_istore (lv' := [(0, .ref (ad k.1 41)), (1, .int x1), (2, .int x2_15), (3, .int x3_16), (4, .int r_18)]) C dX11_greedy_117 (by decide) rfl ?_
      refine q_sub [0, 1, 2, 3, 4] rfl ?_
      refine lpX11_greedy_L119 C (fun e1_26 T_27 h => ?_) _ _ _ _ _ _ h
      refine q_aload_n C dX11_greedy_226 rfl 0 rfl ?_
      refine q_aload_n C dX11_greedy_227 rfl 0 rfl ?_
      refine q_get (j := 29) C dX11_greedy_228 (wE_41 _ _) rfl (by decide) rfl inn_X11_greedy_11 (by decide +kernel) rfl ?_
      obtain ⟨r_29, T_28, hc, h⟩ := bd_some h
      refine q_callV (st' := [.int r_29]) C dX11_greedy_231 [.ref (ad k.1 55)] [] (mtX11_rolls l _ n _ _ _ _ hc) gX11_greedy_X11_rolls rfl hd_X11_rolls (by decide) (by decide) (wE_41 _ _) rfl rfl rfl (Nat.le_of_ble_eq_true rfl) rfl ?_
      clear hc
      refine q_if_ne (tgt := 240) C dX11_greedy_234 (by decide) h (fun c h => ?_) (fun c h => ?_)
      · refine q_goto (tgt := 68) C dX11_greedy_240 (by decide) ?_
        refine q_sub [0, 1] rfl ?_
        exact ih _ _ h
      · refine q_bipush (v := -3) C dX11_greedy_237 (by decide) ?_
        exact q_ireturn C dX11_greedy_239 h
def fX11_greedy (n : Nat) (T : TS) : Option (Int32 × TS) := nm (uI T 2050 (0 : Int32)) (fun T_1 => bd (fX11_isTooWide n T_1) (fun r_3 T_2 => if r_3 = 0 then nm (uI T_2 2070 (0 : Int32)) (fun T_4 => fX11_greedy_L24 n (fun e1_11 T_12 => fX11_greedy_L68 n (fun T_30 => bd (fX11_becomes n T_30) (fun r_32 T_31 => some (r_32, T_31))) n e1_11 T_12) n (0 : Int32) (0 : Int32) T_4) else some ((-2 : Int32), T_2)))
set_option maxHeartbeats 4000000 in
set_option maxRecDepth 100000 in
theorem mtX11_greedy (l : Launch) (X : XT) (n : Nat) (T T' : TS) (r : Int32) (h : fX11_greedy n T = some (r, T')) : Met l yX11_greedy wsX11_greedy (RM 3) (PreX X [.ref (ad X 41)] T) (QQ X (some (.int r)) T') 0 0 (xA X) := by
  refine q_start (by decide) rfl (Nat.le_of_ble_eq_true rfl) ?_
  intro k hk C
  subst hk
  show GW k T 0 [(0, .ref (ad k.1 41))] []
  unfold fX11_greedy at h
  refine q_aload_n C dX11_greedy_0 rfl 0 rfl ?_
  refine q_iconst (v := 0) C dX11_greedy_1 (by decide) ?_
  refine q_putI (j := 0) (ty := .int) C dX11_greedy_2 (wE_41 _ _) (wP_41_0 _ _ _) rfl (by decide) (Nat.le_of_ble_eq_true rfl) tyX11 tyX11_ok nmX11 inn_X11_greedy_11 (by decide +kernel) rfl rfl (by decide +kernel) rfl rfl h (fun T_1 h => ?_)
  refine q_aload_n C dX11_greedy_5 rfl 0 rfl ?_
  obtain ⟨r_3, T_2, hc, h⟩ := bd_some h
  refine q_callV (st' := [.int r_3]) C dX11_greedy_6 [] [] (mtX11_isTooWide l _ n _ _ _ hc) gX11_greedy_X11_isTooWide rfl hd_X11_isTooWide (by decide) (by decide) (wE_41 _ _) rfl rfl rfl (Nat.le_of_ble_eq_true rfl) rfl ?_
  clear hc
  refine q_if_eq (tgt := 15) C dX11_greedy_9 (by decide) h (fun c h => ?_) (fun c h => ?_)
  · refine q_aload_n C dX11_greedy_15 rfl 0 rfl ?_
    refine q_iconst (v := 0) C dX11_greedy_16 (by decide) ?_
    refine q_putI (j := 20) (ty := .int) C dX11_greedy_17 (wE_41 _ _) (wP_41_20 _ _ _) rfl (by decide) (Nat.le_of_ble_eq_true rfl) tyX11 tyX11_ok nmX11 inn_X11_greedy_11 (by decide +kernel) rfl rfl (by decide +kernel) rfl rfl h (fun T_4 h => ?_)
    refine q_iconst (v := 0) C dX11_greedy_20 (by decide) ?_
    refine q_istore_n (lv' := [(0, .ref (ad k.1 41)), (1, .int (0 : Int32))]) C dX11_greedy_21 rfl (by decide) rfl ?_
    refine q_iconst (v := 0) C dX11_greedy_22 (by decide) ?_
    refine q_istore_n (lv' := [(0, .ref (ad k.1 41)), (1, .int (0 : Int32)), (2, .int (0 : Int32))]) C dX11_greedy_23 rfl (by decide) rfl ?_
    refine q_sub [0, 1, 2] rfl ?_
    refine lpX11_greedy_L24 C (fun e1_11 T_12 h => ?_) _ _ _ _ h
    refine q_sub [0, 1] rfl ?_
    refine lpX11_greedy_L68 C (fun T_30 h => ?_) _ _ _ h
    refine q_aload_n C dX11_greedy_243 rfl 0 rfl ?_
    obtain ⟨r_32, T_31, hc, h⟩ := bd_some h
    refine q_callV (st' := [.int r_32]) C dX11_greedy_244 [] [] (mtX11_becomes l _ n _ _ _ hc) gX11_greedy_X11_becomes rfl hd_X11_becomes (by decide) (by decide) (wE_41 _ _) rfl rfl rfl (Nat.le_of_ble_eq_true rfl) rfl ?_
    clear hc
    exact q_ireturn C dX11_greedy_247 h
  · refine q_bipush (v := -2) C dX11_greedy_12 (by decide) ?_
    exact q_ireturn C dX11_greedy_14 h
def fX11_behind_L5 (n : Nat) (y1 : Int32) (y2 : Nat) (kk : Int32 → TS → Option (Int32 × TS)) : Nat → Int32 → Int32 → TS → Option (Int32 × TS)
  | 0, _, _, _ => none
  | fuel + 1, x3, x4, T => if (gI T 2056) ≤ x4 then kk x3 T else ck x4 6 (ck x4 6 (nz (gA T 57 (Int32.toNatClampNeg x4)) (bd (fX11_wanted n x4 T) (fun r_2 T_1 => nz (r_2 + (1 : Int32)) (ak y2 (ck x4 (al y2) (nm (x3 + ((gA T 57 (Int32.toNatClampNeg x4)) * (imax (0 : Int32) (((y1 / (gA T 57 (Int32.toNatClampNeg x4))) - (y1 / (gA T 57 (Int32.toNatClampNeg x4))) / (r_2 + (1 : Int32)) * (r_2 + (1 : Int32))) - (gA T_1 y2 (Int32.toNatClampNeg x4)))))) (fun x3_3 => fX11_behind_L5 n y1 y2 kk fuel x3_3 (x4 + 1) T_1))))))))
set_option maxHeartbeats 4000000 in
set_option maxRecDepth 100000 in
theorem lpX11_behind_L5 {l : Launch} {k : KT} {n : Nat} {y1 : Int32} {y2 : Nat} {kk : Int32 → TS → Option (Int32 × TS)} {r : Int32} {T' : TS} (C : CX l k 5 cX11_behind RX11 wsX11_behind 2 (some .int) (some (.int r), T')) (hk : ∀ e3 T1, kk e3 T1 = some (r, T') → GW k T1 58 [(3, .int e3)] []) : ∀ (fuel : Nat) (x3 : Int32) (x4 : Int32) (T : TS), fX11_behind_L5 n y1 y2 kk fuel x3 x4 T = some (r, T') → GW k T 5 [(0, .ref (ad k.1 41)), (1, .int y1), (2, .ref (ad k.1 y2)), (3, .int x3), (4, .int x4)] [] := by
  intro fuel
  induction fuel with
  | zero => intro x3 x4 T h; cases h
  | succ fuel ih =>
    intro x3 x4 T h
    rw [fX11_behind_L5] at h
    refine q_iload C dX11_behind_5 4 rfl ?_
    refine q_aload_n C dX11_behind_7 rfl 0 rfl ?_
    refine q_get (j := 6) C dX11_behind_8 (wE_41 _ _) rfl (by decide) rfl inn_X11_behind_11 (by decide +kernel) rfl ?_
    refine q_icmp_ge (tgt := 58) C dX11_behind_11 (by decide) h (fun c h => ?_) (fun c h => ?_)
    · refine q_sub [3] rfl ?_
      exact hk _ _ h
    · refine q_iload_n C dX11_behind_14 rfl 3 rfl ?_
      refine q_aload_n C dX11_behind_15 rfl 0 rfl ?_
      refine q_get (j := 31) C dX11_behind_16 (wE_41 _ _) rfl (by decide) rfl inn_X11_behind_11 (by decide +kernel) rfl ?_
      refine q_iload C dX11_behind_19 4 rfl ?_
      refine q_iald C dX11_behind_21 (wE_57 _ _) h (fun h => ?_)
      refine q_iconst (v := 0) C dX11_behind_22 (by decide) ?_
      refine q_iload_n C dX11_behind_23 rfl 1 rfl ?_
      refine q_aload_n C dX11_behind_24 rfl 0 rfl ?_
      refine q_get (j := 31) C dX11_behind_25 (wE_41 _ _) rfl (by decide) rfl inn_X11_behind_11 (by decide +kernel) rfl ?_
      refine q_iload C dX11_behind_28 4 rfl ?_
      refine q_iald C dX11_behind_30 (wE_57 _ _) h (fun h => ?_)
      refine q_idiv C dX11_behind_31 h (fun h => ?_)
      refine q_aload_n C dX11_behind_32 rfl 0 rfl ?_
      refine q_iload C dX11_behind_33 4 rfl ?_
      obtain ⟨r_2, T_1, hc, h⟩ := bd_some h
      refine q_callV (st' := [.int r_2, .int (y1 / (gA T 57 (Int32.toNatClampNeg x4))), .int (0 : Int32), .int (gA T 57 (Int32.toNatClampNeg x4)), .int x3]) C dX11_behind_35 [.int x4] [.int (y1 / (gA T 57 (Int32.toNatClampNeg x4))), .int (0 : Int32), .int (gA T 57 (Int32.toNatClampNeg x4)), .int x3] (mtX11_wanted l _ n _ _ _ _ hc) gX11_behind_X11_wanted rfl hd_X11_wanted (by decide) (by decide) (wE_41 _ _) rfl rfl rfl (Nat.le_of_ble_eq_true rfl) rfl ?_
      clear hc
      refine q_iconst (v := 1) C dX11_behind_38 (by decide) ?_
      refine q_iadd C dX11_behind_39 ?_
      refine q_irem C dX11_behind_40 h (fun h => ?_)
      refine q_aload_n C dX11_behind_41 rfl 2 rfl ?_
      refine q_iload C dX11_behind_42 4 rfl ?_
      refine q_ialdG C dX11_behind_44 h (fun h => ?_)
      refine q_isub C dX11_behind_45 ?_
      refine q_mmax C dX11_behind_46 (by decide +kernel) (by decide +kernel) (by decide +kernel) (by decide +kernel) (by decide) (Nat.le_of_ble_eq_true rfl) ?_
      refine q_imul C dX11_behind_49 ?_
      refine q_iadd C dX11_behind_50 ?_
      refine q_nm h (fun x3_3 h => ?_)
      refine q_istore_n (lv' := [(0, .ref (ad k.1 41)), (1, .int y1), (2, .ref (ad k.1 y2)), (3, .int x3_3), (4, .int x4)]) C dX11_behind_51 rfl (by decide) rfl ?_
      refine q_iinc (j := 4) (v := 1) (lv' := [(0, .ref (ad k.1 41)), (1, .int y1), (2, .ref (ad k.1 y2)), (3, .int x3_3), (4, .int (x4 + 1))]) C dX11_behind_52 rfl (by decide) (by decide) rfl ?_
      refine q_goto (tgt := 5) C dX11_behind_55 (by decide) ?_
      refine q_sub [0, 1, 2, 3, 4] rfl ?_
      exact ih _ _ _ h
def fX11_behind (n : Nat) (p0 : Int32) (q1 : Nat) (T : TS) : Option (Int32 × TS) := fX11_behind_L5 n p0 q1 (fun e3_4 T_5 => some (e3_4, T_5)) n (0 : Int32) (0 : Int32) T
set_option maxHeartbeats 4000000 in
set_option maxRecDepth 100000 in
theorem mtX11_behind (l : Launch) (X : XT) (n : Nat) (p0 : Int32) (q1 : Nat) (T T' : TS) (r : Int32) (h : fX11_behind n p0 q1 T = some (r, T')) : Met l yX11_behind wsX11_behind (RM 2) (PreX X [.ref (ad X 41), .int p0, .ref (ad X q1)] T) (QQ X (some (.int r)) T') 0 0 (xA X) := by
  refine q_start (by decide) rfl (Nat.le_of_ble_eq_true rfl) ?_
  intro k hk C
  subst hk
  show GW k T 0 [(0, .ref (ad k.1 41)), (1, .int p0), (2, .ref (ad k.1 q1))] []
  unfold fX11_behind at h
  refine q_iconst (v := 0) C dX11_behind_0 (by decide) ?_
  refine q_istore_n (lv' := [(0, .ref (ad k.1 41)), (1, .int p0), (2, .ref (ad k.1 q1)), (3, .int (0 : Int32))]) C dX11_behind_1 rfl (by decide) rfl ?_
  refine q_iconst (v := 0) C dX11_behind_2 (by decide) ?_
  refine q_istore (lv' := [(0, .ref (ad k.1 41)), (1, .int p0), (2, .ref (ad k.1 q1)), (3, .int (0 : Int32)), (4, .int (0 : Int32))]) C dX11_behind_3 (by decide) rfl ?_
  refine q_sub [0, 1, 2, 3, 4] rfl ?_
  refine lpX11_behind_L5 C (fun e3_4 T_5 h => ?_) _ _ _ _ h
  refine q_iload_n C dX11_behind_58 rfl 0 rfl ?_
  exact q_ireturn C dX11_behind_59 h
def fX11_fewest_L19 (n : Nat) (kk : Int64 → TS → Option (Int32 × TS)) : Nat → Int64 → Int32 → TS → Option (Int32 × TS)
  | 0, _, _, _ => none
  | fuel + 1, x1, x3, T => if (gI T 2056) ≤ x3 then kk x1 T else ck x3 6 (nm (sA T 57 x3 (Int64.toInt32 (lmin x1 (10000 : Int64)))) (fun T_4 => bd (fX11_wanted n x3 T_4) (fun r_6 T_5 => nm (lmin (10000000 : Int64) (x1 * (Int32.toInt64 (r_6 + (1 : Int32))))) (fun x1_7 => fX11_fewest_L19 n kk fuel x1_7 (x3 + 1) T_5))))
set_option maxHeartbeats 4000000 in
set_option maxRecDepth 100000 in
theorem lpX11_fewest_L19 {l : Launch} {k : KT} {n : Nat} {kk : Int64 → TS → Option (Int32 × TS)} {r : Int32} {T' : TS} (C : CX l k 6 cX11_fewest RX11 wsX11_fewest 12 (some .int) (some (.int r), T')) (hk : ∀ e1 T1, kk e1 T1 = some (r, T') → GW k T1 64 [(0, .ref (ad k.1 41)), (1, .long e1)] []) : ∀ (fuel : Nat) (x1 : Int64) (x3 : Int32) (T : TS), fX11_fewest_L19 n kk fuel x1 x3 T = some (r, T') → GW k T 19 [(0, .ref (ad k.1 41)), (1, .long x1), (3, .int x3)] [] := by
  intro fuel
  induction fuel with
  | zero => intro x1 x3 T h; cases h
  | succ fuel ih =>
    intro x1 x3 T h
    rw [fX11_fewest_L19] at h
    refine q_iload_n C dX11_fewest_19 rfl 2 rfl ?_
    refine q_aload_n C dX11_fewest_20 rfl 0 rfl ?_
    refine q_get (j := 6) C dX11_fewest_21 (wE_41 _ _) rfl (by decide) rfl inn_X11_fewest_11 (by decide +kernel) rfl ?_
    refine q_icmp_ge (tgt := 64) C dX11_fewest_24 (by decide) h (fun c h => ?_) (fun c h => ?_)
    · refine q_sub [0, 1] rfl ?_
      exact hk _ _ h
    · refine q_aload_n C dX11_fewest_27 rfl 0 rfl ?_
      refine q_get (j := 31) C dX11_fewest_28 (wE_41 _ _) rfl (by decide) rfl inn_X11_fewest_11 (by decide +kernel) rfl ?_
      refine q_iload_n C dX11_fewest_31 rfl 2 rfl ?_
      refine q_lload_n C dX11_fewest_32 rfl 1 rfl ?_
      refine q_ldc2 (v := 10000) C dX11_fewest_33 (by decide +kernel) ?_
      refine q_mminL C dX11_fewest_36 (by decide +kernel) (by decide +kernel) (by decide +kernel) (by decide +kernel) (by decide) (Nat.le_of_ble_eq_true rfl) ?_
      refine q_l2i C dX11_fewest_39 ?_
      refine q_iast C dX11_fewest_40 (wE_57 _ _) (wS_57 _ _) h (fun T_4 h => ?_)
      refine q_ldc2 (v := 10000000) C dX11_fewest_41 (by decide +kernel) ?_
      refine q_lload_n C dX11_fewest_44 rfl 1 rfl ?_
      refine q_aload_n C dX11_fewest_45 rfl 0 rfl ?_
      refine q_iload_n C dX11_fewest_46 rfl 2 rfl ?_
      obtain ⟨r_6, T_5, hc, h⟩ := bd_some h
      refine q_callV (st' := [.int r_6, .long x1, .long (10000000 : Int64)]) C dX11_fewest_47 [.int x3] [.long x1, .long (10000000 : Int64)] (mtX11_wanted l _ n _ _ _ _ hc) gX11_fewest_X11_wanted rfl hd_X11_wanted (by decide) (by decide) (wE_41 _ _) rfl rfl rfl (Nat.le_of_ble_eq_true rfl) rfl ?_
      clear hc
      refine q_iconst (v := 1) C dX11_fewest_50 (by decide) ?_
      refine q_iadd C dX11_fewest_51 ?_
      refine q_i2l C dX11_fewest_52 ?_
      refine q_lmul C dX11_fewest_53 ?_
      refine q_mminL C dX11_fewest_54 (by decide +kernel) (by decide +kernel) (by decide +kernel) (by decide +kernel) (by decide) (Nat.le_of_ble_eq_true rfl) ?_
      refine q_nml h (fun x1_7 h => ?_)
      refine q_lstore_n (lv' := [(0, .ref (ad k.1 41)), (1, .long x1_7), (3, .int x3)]) C dX11_fewest_57 rfl (by decide) rfl ?_
      refine q_iinc (j := 2) (v := 1) (lv' := [(0, .ref (ad k.1 41)), (1, .long x1_7), (3, .int (x3 + 1))]) C dX11_fewest_58 rfl (by decide) (by decide) rfl ?_
      refine q_goto (tgt := 19) C dX11_fewest_61 (by decide) ?_
      refine q_sub [0, 1, 2] rfl ?_
      exact ih _ _ _ h
def fX11_fewest_L127 (n : Nat) (y1 : Int64) (y3 : Int32) (kk : TS → Option (Int32 × TS)) : Nat → Int32 → TS → Option (Int32 × TS)
  | 0, _, _ => none
  | fuel + 1, x4, T => if (gI T 2064) ≤ x4 then kk T else ck x4 3000 (bd (fX11_behind n y3 (gO T 46 (Int32.toNatClampNeg x4)) T) (fun r_15 T_14 => if y3 ≤ r_15 then fX11_fewest_L127 n y1 y3 kk fuel (x4 + 1) T_14 else ck y3 5000 (ck r_15 5000 (ck y3 5000 (nm (sA T_14 56 y3 (imin (gA T_14 56 (Int32.toNatClampNeg y3)) ((gA T_14 56 (Int32.toNatClampNeg r_15)) + (1 : Int32)))) (fun T_16 => fX11_fewest_L127 n y1 y3 kk fuel (x4 + 1) T_16))))))
set_option maxHeartbeats 4000000 in
set_option maxRecDepth 100000 in
theorem lpX11_fewest_L127 {l : Launch} {k : KT} {n : Nat} {y1 : Int64} {y3 : Int32} {kk : TS → Option (Int32 × TS)} {r : Int32} {T' : TS} (C : CX l k 6 cX11_fewest RX11 wsX11_fewest 12 (some .int) (some (.int r), T')) (hk : ∀ T1, kk T1 = some (r, T') → GW k T1 186 [(0, .ref (ad k.1 41)), (1, .long y1), (3, .int y3)] []) : ∀ (fuel : Nat) (x4 : Int32) (T : TS), fX11_fewest_L127 n y1 y3 kk fuel x4 T = some (r, T') → GW k T 127 [(0, .ref (ad k.1 41)), (1, .long y1), (3, .int y3), (4, .int x4)] [] := by
  intro fuel
  induction fuel with
  | zero => intro x4 T h; cases h
  | succ fuel ih =>
    intro x4 T h
    rw [fX11_fewest_L127] at h
    refine q_iload C dX11_fewest_127 3 rfl ?_
    refine q_aload_n C dX11_fewest_129 rfl 0 rfl ?_
    refine q_get (j := 14) C dX11_fewest_130 (wE_41 _ _) rfl (by decide) rfl inn_X11_fewest_11 (by decide +kernel) rfl ?_
    refine q_icmp_ge (tgt := 186) C dX11_fewest_133 (by decide) h (fun c h => ?_) (fun c h => ?_)
    · refine q_sub [0, 1, 2] rfl ?_
      exact hk _ h
    · refine q_aload_n C dX11_fewest_136 rfl 0 rfl ?_
      refine q_iload_n C dX11_fewest_137 rfl 2 rfl ?_
      refine q_aload_n C dX11_fewest_138 rfl 0 rfl ?_
      refine q_get (j := 15) C dX11_fewest_139 (wE_41 _ _) rfl (by decide) rfl inn_X11_fewest_11 (by decide +kernel) rfl ?_
      refine q_iload C dX11_fewest_142 3 rfl ?_
      refine q_aald C dX11_fewest_144 (wE_46 _ _) h (fun h => ?_)
      obtain ⟨r_15, T_14, hc, h⟩ := bd_some h
      refine q_callV (st' := [.int r_15]) C dX11_fewest_145 [.int y3, .ref (ad k.1 (gO T 46 (Int32.toNatClampNeg x4)))] [] (mtX11_behind l _ n _ _ _ _ _ hc) gX11_fewest_X11_behind rfl hd_X11_behind (by decide) (by decide) (wE_41 _ _) rfl rfl rfl (Nat.le_of_ble_eq_true rfl) rfl ?_
      clear hc
      refine q_istore (lv' := [(0, .ref (ad k.1 41)), (1, .long y1), (3, .int y3), (4, .int x4), (5, .int r_15)]) C dX11_fewest_148 (by decide) rfl ?_
      refine q_iload C dX11_fewest_150 4 rfl ?_
      refine q_iload_n C dX11_fewest_152 rfl 2 rfl ?_
      refine q_icmp_ge (tgt := 180) C dX11_fewest_153 (by decide) h (fun c h => ?_) (fun c h => ?_)
      · refine q_iinc (j := 3) (v := 1) (lv' := [(0, .ref (ad k.1 41)), (1, .long y1), (3, .int y3), (4, .int (x4 + 1)), (5, .int r_15)]) C dX11_fewest_180 rfl (by decide) (by decide) rfl ?_
        refine q_goto (tgt := 127) C dX11_fewest_183 (by decide) ?_
        refine q_sub [0, 1, 2, 3] rfl ?_
        exact ih _ _ h
      · refine q_aload_n C dX11_fewest_156 rfl 0 rfl ?_
        refine q_get (j := 30) C dX11_fewest_157 (wE_41 _ _) rfl (by decide) rfl inn_X11_fewest_11 (by decide +kernel) rfl ?_
        refine q_iload_n C dX11_fewest_160 rfl 2 rfl ?_
        refine q_aload_n C dX11_fewest_161 rfl 0 rfl ?_
        refine q_get (j := 30) C dX11_fewest_162 (wE_41 _ _) rfl (by decide) rfl inn_X11_fewest_11 (by decide +kernel) rfl ?_
        refine q_iload_n C dX11_fewest_165 rfl 2 rfl ?_
        refine q_iald C dX11_fewest_166 (wE_56 _ _) h (fun h => ?_)
        refine q_aload_n C dX11_fewest_167 rfl 0 rfl ?_
        refine q_get (j := 30) C dX11_fewest_168 (wE_41 _ _) rfl (by decide) rfl inn_X11_fewest_11 (by decide +kernel) rfl ?_
        refine q_iload C dX11_fewest_171 4 rfl ?_
        refine q_iald C dX11_fewest_173 (wE_56 _ _) h (fun h => ?_)
        refine q_iconst (v := 1) C dX11_fewest_174 (by decide) ?_
        refine q_iadd C dX11_fewest_175 ?_
        refine q_mmin C dX11_fewest_176 (by decide +kernel) (by decide +kernel) (by decide +kernel) (by decide +kernel) (by decide) (Nat.le_of_ble_eq_true rfl) ?_
        refine q_iast C dX11_fewest_179 (wE_56 _ _) (wS_56 _ _) h (fun T_16 h => ?_)
        refine q_iinc (j := 3) (v := 1) (lv' := [(0, .ref (ad k.1 41)), (1, .long y1), (3, .int y3), (4, .int (x4 + 1)), (5, .int r_15)]) C dX11_fewest_180 rfl (by decide) (by decide) rfl ?_
        refine q_goto (tgt := 127) C dX11_fewest_183 (by decide) ?_
        refine q_sub [0, 1, 2, 3] rfl ?_
        exact ih _ _ h
def fX11_fewest_L108 (n : Nat) (y1 : Int64) (kk : TS → Option (Int32 × TS)) : Nat → Int32 → TS → Option (Int32 × TS)
  | 0, _, _ => none
  | fuel + 1, x3, T => if 0 ≤ (lg_cmp (Int32.toInt64 x3) y1) then kk T else ck x3 5000 (nm (sA T 56 x3 (1000 : Int32)) (fun T_13 => fX11_fewest_L127 n y1 x3 (fun T_17 => fX11_fewest_L108 n y1 kk fuel (x3 + 1) T_17) n (0 : Int32) T_13))
set_option maxHeartbeats 4000000 in
set_option maxRecDepth 100000 in
theorem lpX11_fewest_L108 {l : Launch} {k : KT} {n : Nat} {y1 : Int64} {kk : TS → Option (Int32 × TS)} {r : Int32} {T' : TS} (C : CX l k 6 cX11_fewest RX11 wsX11_fewest 12 (some .int) (some (.int r), T')) (hk : ∀ T1, kk T1 = some (r, T') → GW k T1 192 [(0, .ref (ad k.1 41)), (1, .long y1)] []) : ∀ (fuel : Nat) (x3 : Int32) (T : TS), fX11_fewest_L108 n y1 kk fuel x3 T = some (r, T') → GW k T 108 [(0, .ref (ad k.1 41)), (1, .long y1), (3, .int x3)] [] := by
  intro fuel
  induction fuel with
  | zero => intro x3 T h; cases h
  | succ fuel ih =>
    intro x3 T h
    rw [fX11_fewest_L108] at h
    refine q_iload_n C dX11_fewest_108 rfl 2 rfl ?_
    refine q_i2l C dX11_fewest_109 ?_
    refine q_lload_n C dX11_fewest_110 rfl 1 rfl ?_
    refine q_lcmp C dX11_fewest_111 ?_
    refine q_if_ge (tgt := 192) C dX11_fewest_112 (by decide) h (fun c h => ?_) (fun c h => ?_)
    · refine q_sub [0, 1] rfl ?_
      exact hk _ h
    · refine q_aload_n C dX11_fewest_115 rfl 0 rfl ?_
      refine q_get (j := 30) C dX11_fewest_116 (wE_41 _ _) rfl (by decide) rfl inn_X11_fewest_11 (by decide +kernel) rfl ?_
      refine q_iload_n C dX11_fewest_119 rfl 2 rfl ?_
      refine q_sipush (v := 1000) C dX11_fewest_120 (by decide) ?_
      refine q_iast C dX11_fewest_123 (wE_56 _ _) (wS_56 _ _) h (fun T_13 h => ?_)
      refine q_iconst (v := 0) C dX11_fewest_124 (by decide) ?_
      refine q_istore (lv' := [(0, .ref (ad k.1 41)), (1, .long y1), (3, .int x3), (4, .int (0 : Int32))]) C dX11_fewest_125 (by decide) rfl ?_
      refine q_sub [0, 1, 2, 3] rfl ?_
      refine lpX11_fewest_L127 C (fun T_17 h => ?_) _ _ _ h
      refine q_iinc (j := 2) (v := 1) (lv' := [(0, .ref (ad k.1 41)), (1, .long y1), (3, .int (x3 + 1))]) C dX11_fewest_186 rfl (by decide) (by decide) rfl ?_
      refine q_goto (tgt := 108) C dX11_fewest_189 (by decide) ?_
      refine q_sub [0, 1, 2] rfl ?_
      exact ih _ _ h
def fX11_fewest_L209 (n : Nat) (y3 : Int32) (kk : Int32 → TS → Option (Int32 × TS)) : Nat → Int32 → TS → Option (Int32 × TS)
  | 0, _, _ => none
  | fuel + 1, x4, T => ck x4 3000 (bd (fX11_behind n y3 (gO T 46 (Int32.toNatClampNeg x4)) T) (fun r_22 T_21 => if y3 ≤ r_22 then fX11_fewest_L209 n y3 kk fuel (x4 + 1) T_21 else ck x4 3000 (bd (fX11_behind n y3 (gO T_21 46 (Int32.toNatClampNeg x4)) T_21) (fun r_24 T_23 => ck r_24 5000 (ck y3 5000 (if (gA T_23 56 (Int32.toNatClampNeg r_24)) = ((gA T_23 56 (Int32.toNatClampNeg y3)) - (1 : Int32)) then kk x4 T_23 else fX11_fewest_L209 n y3 kk fuel (x4 + 1) T_23))))))
set_option maxHeartbeats 4000000 in
set_option maxRecDepth 100000 in
theorem lpX11_fewest_L209 {l : Launch} {k : KT} {n : Nat} {y3 : Int32} {kk : Int32 → TS → Option (Int32 × TS)} {r : Int32} {T' : TS} (C : CX l k 6 cX11_fewest RX11 wsX11_fewest 12 (some .int) (some (.int r), T')) (hk : ∀ e4 T1, kk e4 T1 = some (r, T') → GW k T1 259 [(0, .ref (ad k.1 41)), (3, .int y3), (4, .int e4)] []) : ∀ (fuel : Nat) (x4 : Int32) (T : TS), fX11_fewest_L209 n y3 kk fuel x4 T = some (r, T') → GW k T 209 [(0, .ref (ad k.1 41)), (3, .int y3), (4, .int x4)] [] := by
  intro fuel
  induction fuel with
  | zero => intro x4 T h; cases h
  | succ fuel ih =>
    intro x4 T h
    rw [fX11_fewest_L209] at h
    refine q_aload_n C dX11_fewest_209 rfl 0 rfl ?_
    refine q_iload_n C dX11_fewest_210 rfl 1 rfl ?_
    refine q_aload_n C dX11_fewest_211 rfl 0 rfl ?_
    refine q_get (j := 15) C dX11_fewest_212 (wE_41 _ _) rfl (by decide) rfl inn_X11_fewest_11 (by decide +kernel) rfl ?_
    refine q_iload C dX11_fewest_215 2 rfl ?_
    refine q_aald C dX11_fewest_217 (wE_46 _ _) h (fun h => ?_)
    obtain ⟨r_22, T_21, hc, h⟩ := bd_some h
    refine q_callV (st' := [.int r_22]) C dX11_fewest_218 [.int y3, .ref (ad k.1 (gO T 46 (Int32.toNatClampNeg x4)))] [] (mtX11_behind l _ n _ _ _ _ _ hc) gX11_fewest_X11_behind rfl hd_X11_behind (by decide) (by decide) (wE_41 _ _) rfl rfl rfl (Nat.le_of_ble_eq_true rfl) rfl ?_
    clear hc
    refine q_iload_n C dX11_fewest_221 rfl 1 rfl ?_
    refine q_icmp_ge (tgt := 253) C dX11_fewest_222 (by decide) h (fun c h => ?_) (fun c h => ?_)
    · refine q_iinc (j := 2) (v := 1) (lv' := [(0, .ref (ad k.1 41)), (3, .int y3), (4, .int (x4 + 1))]) C dX11_fewest_253 rfl (by decide) (by decide) rfl ?_
      refine q_goto (tgt := 209) C dX11_fewest_256 (by decide) ?_
      refine q_sub [0, 1, 2] rfl ?_
      exact ih _ _ h
    · refine q_aload_n C dX11_fewest_225 rfl 0 rfl ?_
      refine q_get (j := 30) C dX11_fewest_226 (wE_41 _ _) rfl (by decide) rfl inn_X11_fewest_11 (by decide +kernel) rfl ?_
      refine q_aload_n C dX11_fewest_229 rfl 0 rfl ?_
      refine q_iload_n C dX11_fewest_230 rfl 1 rfl ?_
      refine q_aload_n C dX11_fewest_231 rfl 0 rfl ?_
      refine q_get (j := 15) C dX11_fewest_232 (wE_41 _ _) rfl (by decide) rfl inn_X11_fewest_11 (by decide +kernel) rfl ?_
      refine q_iload C dX11_fewest_235 2 rfl ?_
      refine q_aald C dX11_fewest_237 (wE_46 _ _) h (fun h => ?_)
      obtain ⟨r_24, T_23, hc, h⟩ := bd_some h
      refine q_callV (st' := [.int r_24, .ref (ad k.1 56)]) C dX11_fewest_238 [.int y3, .ref (ad k.1 (gO T_21 46 (Int32.toNatClampNeg x4)))] [.ref (ad k.1 56)] (mtX11_behind l _ n _ _ _ _ _ hc) gX11_fewest_X11_behind rfl hd_X11_behind (by decide) (by decide) (wE_41 _ _) rfl rfl rfl (Nat.le_of_ble_eq_true rfl) rfl ?_
      clear hc
      refine q_iald C dX11_fewest_241 (wE_56 _ _) h (fun h => ?_)
      refine q_aload_n C dX11_fewest_242 rfl 0 rfl ?_
      refine q_get (j := 30) C dX11_fewest_243 (wE_41 _ _) rfl (by decide) rfl inn_X11_fewest_11 (by decide +kernel) rfl ?_
      refine q_iload_n C dX11_fewest_246 rfl 1 rfl ?_
      refine q_iald C dX11_fewest_247 (wE_56 _ _) h (fun h => ?_)
      refine q_iconst (v := 1) C dX11_fewest_248 (by decide) ?_
      refine q_isub C dX11_fewest_249 ?_
      refine q_icmp_eq (tgt := 259) C dX11_fewest_250 (by decide) h (fun c h => ?_) (fun c h => ?_)
      · refine q_sub [0, 1, 2] rfl ?_
        exact hk _ _ h
      · refine q_iinc (j := 2) (v := 1) (lv' := [(0, .ref (ad k.1 41)), (3, .int y3), (4, .int (x4 + 1))]) C dX11_fewest_253 rfl (by decide) (by decide) rfl ?_
        refine q_goto (tgt := 209) C dX11_fewest_256 (by decide) ?_
        refine q_sub [0, 1, 2] rfl ?_
        exact ih _ _ h
def fX11_fewest_L202 (n : Nat) (kk : TS → Option (Int32 × TS)) : Nat → Int32 → TS → Option (Int32 × TS)
  | 0, _, _ => none
  | fuel + 1, x3, T => if x3 ≤ 0 then kk T else fX11_fewest_L209 n x3 (fun e4_25 T_26 => ck e4_25 3000 (bd (fX11_rolls n (gO T_26 46 (Int32.toNatClampNeg e4_25)) T_26) (fun r_28 T_27 => if ¬ r_28 = 0 then ck e4_25 3000 (bd (fX11_behind n x3 (gO T_27 46 (Int32.toNatClampNeg e4_25)) T_27) (fun r_30 T_29 => fX11_fewest_L202 n kk fuel r_30 T_29)) else some ((-3 : Int32), T_27)))) n (0 : Int32) T
set_option maxHeartbeats 4000000 in
set_option maxRecDepth 100000 in
theorem lpX11_fewest_L202 {l : Launch} {k : KT} {n : Nat} {kk : TS → Option (Int32 × TS)} {r : Int32} {T' : TS} (C : CX l k 6 cX11_fewest RX11 wsX11_fewest 12 (some .int) (some (.int r), T')) (hk : ∀ T1, kk T1 = some (r, T') → GW k T1 292 [(0, .ref (ad k.1 41))] []) : ∀ (fuel : Nat) (x3 : Int32) (T : TS), fX11_fewest_L202 n kk fuel x3 T = some (r, T') → GW k T 202 [(0, .ref (ad k.1 41)), (3, .int x3)] [] := by
  intro fuel
  induction fuel with
  | zero => intro x3 T h; cases h
  | succ fuel ih =>
    intro x3 T h
    rw [fX11_fewest_L202] at h
    refine q_iload_n C dX11_fewest_202 rfl 1 rfl ?_
    refine q_if_le (tgt := 292) C dX11_fewest_203 (by decide) h (fun c h => ?_) (fun c h => ?_)
    · refine q_sub [0] rfl ?_
      exact hk _ h
    · refine q_iconst (v := 0) C dX11_fewest_206 (by decide) ?_
      refine q_istore (lv' := [(0, .ref (ad k.1 41)), (3, .int x3), (4, .int (0 : Int32))]) C dX11_fewest_207 (by decide) rfl ?_
      refine q_sub [0, 1, 2] rfl ?_
      refine lpX11_fewest_L209 C (fun e4_25 T_26 h => ?_) _ _ _ h
      refine q_aload_n C dX11_fewest_259 rfl 0 rfl ?_
      refine q_aload_n C dX11_fewest_260 rfl 0 rfl ?_
      refine q_get (j := 15) C dX11_fewest_261 (wE_41 _ _) rfl (by decide) rfl inn_X11_fewest_11 (by decide +kernel) rfl ?_
      refine q_iload C dX11_fewest_264 2 rfl ?_
      refine q_aald C dX11_fewest_266 (wE_46 _ _) h (fun h => ?_)
      obtain ⟨r_28, T_27, hc, h⟩ := bd_some h
      refine q_callV (st' := [.int r_28]) C dX11_fewest_267 [.ref (ad k.1 (gO T_26 46 (Int32.toNatClampNeg e4_25)))] [] (mtX11_rolls l _ n _ _ _ _ hc) gX11_fewest_X11_rolls rfl hd_X11_rolls (by decide) (by decide) (wE_41 _ _) rfl rfl rfl (Nat.le_of_ble_eq_true rfl) rfl ?_
      clear hc
      refine q_if_ne (tgt := 276) C dX11_fewest_270 (by decide) h (fun c h => ?_) (fun c h => ?_)
      · refine q_aload_n C dX11_fewest_276 rfl 0 rfl ?_
        refine q_iload_n C dX11_fewest_277 rfl 1 rfl ?_
        refine q_aload_n C dX11_fewest_278 rfl 0 rfl ?_
        refine q_get (j := 15) C dX11_fewest_279 (wE_41 _ _) rfl (by decide) rfl inn_X11_fewest_11 (by decide +kernel) rfl ?_
        refine q_iload C dX11_fewest_282 2 rfl ?_
        refine q_aald C dX11_fewest_284 (wE_46 _ _) h (fun h => ?_)
        obtain ⟨r_30, T_29, hc, h⟩ := bd_some h
        refine q_callV (st' := [.int r_30]) C dX11_fewest_285 [.int x3, .ref (ad k.1 (gO T_27 46 (Int32.toNatClampNeg e4_25)))] [] (mtX11_behind l _ n _ _ _ _ _ hc) gX11_fewest_X11_behind rfl hd_X11_behind (by decide) (by decide) (wE_41 _ _) rfl rfl rfl (Nat.le_of_ble_eq_true rfl) rfl ?_
        clear hc
        refine q_istore_n (lv' := [(0, .ref (ad k.1 41)), (3, .int r_30), (4, .int e4_25)]) C dX11_fewest_288 rfl (by decide) rfl ?_
        refine q_goto (tgt := 202) C dX11_fewest_289 (by decide) ?_
        refine q_sub [0, 1] rfl ?_
        exact ih _ _ h
      · refine q_bipush (v := -3) C dX11_fewest_273 (by decide) ?_
        exact q_ireturn C dX11_fewest_275 h
def fX11_fewest (n : Nat) (T : TS) : Option (Int32 × TS) := nm (uI T 2050 (0 : Int32)) (fun T_1 => bd (fX11_isNumbered n T_1) (fun r_3 T_2 => if ¬ r_3 = 0 then fX11_fewest_L19 n (fun e1_8 T_9 => if 0 < (lg_cmp e1_8 (5000 : Int64)) then some ((-4 : Int32), T_9) else if (lg_cmp (e1_8 * (Int32.toInt64 (gI T_9 2064))) (2000000 : Int64)) ≤ 0 then bd (fX11_isTooWide n T_9) (fun r_11 T_10 => if r_11 = 0 then ck (0 : Int32) 5000 (nm (sA T_10 56 (0 : Int32) (0 : Int32)) (fun T_12 => fX11_fewest_L108 n e1_8 (fun T_18 => nm (uI T_18 2070 (0 : Int32)) (fun T_19 => nm ((Int64.toInt32 e1_8) - (1 : Int32)) (fun x3_20 => fX11_fewest_L202 n (fun T_31 => bd (fX11_becomes n T_31) (fun r_33 T_32 => some (r_33, T_32))) n x3_20 T_19))) n (1 : Int32) T_12)) else some ((-2 : Int32), T_10)) else some ((-4 : Int32), T_9)) n (1 : Int64) (0 : Int32) T_2 else some ((-4 : Int32), T_2)))
set_option maxHeartbeats 4000000 in
set_option maxRecDepth 100000 in
theorem mtX11_fewest (l : Launch) (X : XT) (n : Nat) (T T' : TS) (r : Int32) (h : fX11_fewest n T = some (r, T')) : Met l yX11_fewest wsX11_fewest (RM 12) (PreX X [.ref (ad X 41)] T) (QQ X (some (.int r)) T') 0 0 (xA X) := by
  refine q_start (by decide) rfl (Nat.le_of_ble_eq_true rfl) ?_
  intro k hk C
  subst hk
  show GW k T 0 [(0, .ref (ad k.1 41))] []
  unfold fX11_fewest at h
  refine q_aload_n C dX11_fewest_0 rfl 0 rfl ?_
  refine q_iconst (v := 0) C dX11_fewest_1 (by decide) ?_
  refine q_putI (j := 0) (ty := .int) C dX11_fewest_2 (wE_41 _ _) (wP_41_0 _ _ _) rfl (by decide) (Nat.le_of_ble_eq_true rfl) tyX11 tyX11_ok nmX11 inn_X11_fewest_11 (by decide +kernel) rfl rfl (by decide +kernel) rfl rfl h (fun T_1 h => ?_)
  refine q_aload_n C dX11_fewest_5 rfl 0 rfl ?_
  obtain ⟨r_3, T_2, hc, h⟩ := bd_some h
  refine q_callV (st' := [.int r_3]) C dX11_fewest_6 [] [] (mtX11_isNumbered l _ n _ _ _ hc) gX11_fewest_X11_isNumbered rfl hd_X11_isNumbered (by decide) (by decide) (wE_41 _ _) rfl rfl rfl (Nat.le_of_ble_eq_true rfl) rfl ?_
  clear hc
  refine q_if_ne (tgt := 15) C dX11_fewest_9 (by decide) h (fun c h => ?_) (fun c h => ?_)
  · refine q_lconst (v := 1) C dX11_fewest_15 (by decide) ?_
    refine q_lstore_n (lv' := [(0, .ref (ad k.1 41)), (1, .long (1 : Int64))]) C dX11_fewest_16 rfl (by decide) rfl ?_
    refine q_iconst (v := 0) C dX11_fewest_17 (by decide) ?_
    refine q_istore_n (lv' := [(0, .ref (ad k.1 41)), (1, .long (1 : Int64)), (3, .int (0 : Int32))]) C dX11_fewest_18 rfl (by decide) rfl ?_
    refine q_sub [0, 1, 2] rfl ?_
    refine lpX11_fewest_L19 C (fun e1_8 T_9 h => ?_) _ _ _ _ h
    refine q_lload_n C dX11_fewest_64 rfl 1 rfl ?_
    refine q_ldc2 (v := 5000) C dX11_fewest_65 (by decide +kernel) ?_
    refine q_lcmp C dX11_fewest_68 ?_
    refine q_if_gt (tgt := 86) C dX11_fewest_69 (by decide) h (fun c h => ?_) (fun c h => ?_)
    · refine q_bipush (v := -4) C dX11_fewest_86 (by decide) ?_
      exact q_ireturn C dX11_fewest_88 h
    · refine q_lload_n C dX11_fewest_72 rfl 1 rfl ?_
      refine q_aload_n C dX11_fewest_73 rfl 0 rfl ?_
      refine q_get (j := 14) C dX11_fewest_74 (wE_41 _ _) rfl (by decide) rfl inn_X11_fewest_11 (by decide +kernel) rfl ?_
      refine q_i2l C dX11_fewest_77 ?_
      refine q_lmul C dX11_fewest_78 ?_
      refine q_ldc2 (v := 2000000) C dX11_fewest_79 (by decide +kernel) ?_
      refine q_lcmp C dX11_fewest_82 ?_
      refine q_if_le (tgt := 89) C dX11_fewest_83 (by decide) h (fun c h => ?_) (fun c h => ?_)
      · refine q_aload_n C dX11_fewest_89 rfl 0 rfl ?_
        obtain ⟨r_11, T_10, hc, h⟩ := bd_some h
        refine q_callV (st' := [.int r_11]) C dX11_fewest_90 [] [] (mtX11_isTooWide l _ n _ _ _ hc) gX11_fewest_X11_isTooWide rfl hd_X11_isTooWide (by decide) (by decide) (wE_41 _ _) rfl rfl rfl (Nat.le_of_ble_eq_true rfl) rfl ?_
        clear hc
        refine q_if_eq (tgt := 99) C dX11_fewest_93 (by decide) h (fun c h => ?_) (fun c h => ?_)
        · refine q_aload_n C dX11_fewest_99 rfl 0 rfl ?_
          refine q_get (j := 30) C dX11_fewest_100 (wE_41 _ _) rfl (by decide) rfl inn_X11_fewest_11 (by decide +kernel) rfl ?_
          refine q_iconst (v := 0) C dX11_fewest_103 (by decide) ?_
          refine q_iconst (v := 0) C dX11_fewest_104 (by decide) ?_
          refine q_iast C dX11_fewest_105 (wE_56 _ _) (wS_56 _ _) h (fun T_12 h => ?_)
          refine q_iconst (v := 1) C dX11_fewest_106 (by decide) ?_
          refine q_istore_n (lv' := [(0, .ref (ad k.1 41)), (1, .long e1_8), (3, .int (1 : Int32))]) C dX11_fewest_107 rfl (by decide) rfl ?_
          refine q_sub [0, 1, 2] rfl ?_
          refine lpX11_fewest_L108 C (fun T_18 h => ?_) _ _ _ h
          refine q_aload_n C dX11_fewest_192 rfl 0 rfl ?_
          refine q_iconst (v := 0) C dX11_fewest_193 (by decide) ?_
          refine q_putI (j := 20) (ty := .int) C dX11_fewest_194 (wE_41 _ _) (wP_41_20 _ _ _) rfl (by decide) (Nat.le_of_ble_eq_true rfl) tyX11 tyX11_ok nmX11 inn_X11_fewest_11 (by decide +kernel) rfl rfl (by decide +kernel) rfl rfl h (fun T_19 h => ?_)
          refine q_lload_n C dX11_fewest_197 rfl 1 rfl ?_
          refine q_l2i C dX11_fewest_198 ?_
          refine q_iconst (v := 1) C dX11_fewest_199 (by decide) ?_
          refine q_isub C dX11_fewest_200 ?_
          refine q_nm h (fun x3_20 h => ?_)
          refine q_istore_n (lv' := [(0, .ref (ad k.1 41)), (1, .long e1_8), (3, .int x3_20)]) C dX11_fewest_201 rfl (by decide) rfl ?_
          refine q_sub [0, 2] rfl ?_
          refine lpX11_fewest_L202 C (fun T_31 h => ?_) _ _ _ h
          refine q_aload_n C dX11_fewest_292 rfl 0 rfl ?_
          obtain ⟨r_33, T_32, hc, h⟩ := bd_some h
          refine q_callV (st' := [.int r_33]) C dX11_fewest_293 [] [] (mtX11_becomes l _ n _ _ _ hc) gX11_fewest_X11_becomes rfl hd_X11_becomes (by decide) (by decide) (wE_41 _ _) rfl rfl rfl (Nat.le_of_ble_eq_true rfl) rfl ?_
          clear hc
          exact q_ireturn C dX11_fewest_296 h
        · refine q_bipush (v := -2) C dX11_fewest_96 (by decide) ?_
          exact q_ireturn C dX11_fewest_98 h
      · refine q_bipush (v := -4) C dX11_fewest_86 (by decide) ?_
        exact q_ireturn C dX11_fewest_88 h
  · refine q_bipush (v := -4) C dX11_fewest_12 (by decide) ?_
    exact q_ireturn C dX11_fewest_14 h
def fX11_slot_L37 (n : Nat) (y1 : Int32) (y2 : Int32) (kk : TS → Option (Int32 × TS)) : Nat → Int32 → TS → Option (Int32 × TS)
  | 0, _, _ => none
  | fuel + 1, x3, T => if (6 : Int32) ≤ x3 then kk T else ck (gI T 2067) 60 (ck y1 3000 (ak (gO T 46 (Int32.toNatClampNeg y1)) (ck x3 (al (gO T 46 (Int32.toNatClampNeg y1))) (ak (gO T 48 (Int32.toNatClampNeg (gI T 2067))) (ck x3 (al (gO T 48 (Int32.toNatClampNeg (gI T 2067)))) (nm (sA T (gO T 48 (Int32.toNatClampNeg (gI T 2067))) x3 (gA T (gO T 46 (Int32.toNatClampNeg y1)) (Int32.toNatClampNeg x3))) (fun T_6 => fX11_slot_L37 n y1 y2 kk fuel (x3 + 1) T_6)))))))
set_option maxHeartbeats 4000000 in
set_option maxRecDepth 100000 in
theorem lpX11_slot_L37 {l : Launch} {k : KT} {n : Nat} {y1 : Int32} {y2 : Int32} {kk : TS → Option (Int32 × TS)} {r : Int32} {T' : TS} (C : CX l k 4 cX11_slot RX11 wsX11_slot 13 (some .int) (some (.int r), T')) (hk : ∀ T1, kk T1 = some (r, T') → GW k T1 68 [(0, .ref (ad k.1 41)), (2, .int y2)] []) : ∀ (fuel : Nat) (x3 : Int32) (T : TS), fX11_slot_L37 n y1 y2 kk fuel x3 T = some (r, T') → GW k T 37 [(0, .ref (ad k.1 41)), (1, .int y1), (2, .int y2), (3, .int x3)] [] := by
  intro fuel
  induction fuel with
  | zero => intro x3 T h; cases h
  | succ fuel ih =>
    intro x3 T h
    rw [fX11_slot_L37] at h
    refine q_iload_n C dX11_slot_37 rfl 3 rfl ?_
    refine q_bipush (v := 6) C dX11_slot_38 (by decide) ?_
    refine q_icmp_ge (tgt := 68) C dX11_slot_40 (by decide) h (fun c h => ?_) (fun c h => ?_)
    · refine q_sub [0, 2] rfl ?_
      exact hk _ h
    · refine q_aload_n C dX11_slot_43 rfl 0 rfl ?_
      refine q_get (j := 18) C dX11_slot_44 (wE_41 _ _) rfl (by decide) rfl inn_X11_slot_11 (by decide +kernel) rfl ?_
      refine q_aload_n C dX11_slot_47 rfl 0 rfl ?_
      refine q_get (j := 17) C dX11_slot_48 (wE_41 _ _) rfl (by decide) rfl inn_X11_slot_11 (by decide +kernel) rfl ?_
      refine q_aald C dX11_slot_51 (wE_48 _ _) h (fun h => ?_)
      refine q_iload_n C dX11_slot_52 rfl 3 rfl ?_
      refine q_aload_n C dX11_slot_53 rfl 0 rfl ?_
      refine q_get (j := 15) C dX11_slot_54 (wE_41 _ _) rfl (by decide) rfl inn_X11_slot_11 (by decide +kernel) rfl ?_
      refine q_iload_n C dX11_slot_57 rfl 1 rfl ?_
      refine q_aald C dX11_slot_58 (wE_46 _ _) h (fun h => ?_)
      refine q_iload_n C dX11_slot_59 rfl 3 rfl ?_
      refine q_ialdG C dX11_slot_60 h (fun h => ?_)
      refine q_iastG C dX11_slot_61 h (fun T_6 h => ?_)
      refine q_iinc (j := 3) (v := 1) (lv' := [(0, .ref (ad k.1 41)), (1, .int y1), (2, .int y2), (3, .int (x3 + 1))]) C dX11_slot_62 rfl (by decide) (by decide) rfl ?_
      refine q_goto (tgt := 37) C dX11_slot_65 (by decide) ?_
      refine q_sub [0, 1, 2, 3] rfl ?_
      exact ih _ _ h
def fX11_slot (n : Nat) (p0 : Int32) (p1 : Int32) (T : TS) : Option (Int32 × TS) := nm (uI T 2050 (0 : Int32)) (fun T_1 => bd (fX11_isPattern n p0 T_1) (fun r_3 T_2 => if r_3 = 0 then some ((-1 : Int32), T_2) else bd (fX11_in n p1 (1 : Int32) (1000 : Int32) T_2) (fun r_5 T_4 => if r_5 = 0 then some ((-1 : Int32), T_4) else if ¬ (gI T_4 2067) = (60 : Int32) then fX11_slot_L37 n p0 p1 (fun T_7 => ck (gI T_7 2067) 60 (nm (sA T_7 49 (gI T_7 2067) p1) (fun T_8 => nm (uI T_8 2067 ((gI T_8 2067) + (1 : Int32))) (fun T_9 => some (((gI T_9 2067) - (1 : Int32)), T_9))))) n (0 : Int32) T_4 else some ((-1 : Int32), T_4))))
set_option maxHeartbeats 4000000 in
set_option maxRecDepth 100000 in
theorem mtX11_slot (l : Launch) (X : XT) (n : Nat) (p0 : Int32) (p1 : Int32) (T T' : TS) (r : Int32) (h : fX11_slot n p0 p1 T = some (r, T')) : Met l yX11_slot wsX11_slot (RM 13) (PreX X [.ref (ad X 41), .int p0, .int p1] T) (QQ X (some (.int r)) T') 0 0 (xA X) := by
  refine q_start (by decide) rfl (Nat.le_of_ble_eq_true rfl) ?_
  intro k hk C
  subst hk
  show GW k T 0 [(0, .ref (ad k.1 41)), (1, .int p0), (2, .int p1)] []
  unfold fX11_slot at h
  refine q_aload_n C dX11_slot_0 rfl 0 rfl ?_
  refine q_iconst (v := 0) C dX11_slot_1 (by decide) ?_
  refine q_putI (j := 0) (ty := .int) C dX11_slot_2 (wE_41 _ _) (wP_41_0 _ _ _) rfl (by decide) (Nat.le_of_ble_eq_true rfl) tyX11 tyX11_ok nmX11 inn_X11_slot_11 (by decide +kernel) rfl rfl (by decide +kernel) rfl rfl h (fun T_1 h => ?_)
  refine q_aload_n C dX11_slot_5 rfl 0 rfl ?_
  refine q_iload_n C dX11_slot_6 rfl 1 rfl ?_
  obtain ⟨r_3, T_2, hc, h⟩ := bd_some h
  refine q_callV (st' := [.int r_3]) C dX11_slot_7 [.int p0] [] (mtX11_isPattern l _ n _ _ _ _ hc) gX11_slot_X11_isPattern rfl hd_X11_isPattern (by decide) (by decide) (wE_41 _ _) rfl rfl rfl (Nat.le_of_ble_eq_true rfl) rfl ?_
  clear hc
  refine q_if_eq (tgt := 33) C dX11_slot_10 (by decide) h (fun c h => ?_) (fun c h => ?_)
  · refine q_iconst (v := -1) C dX11_slot_33 (by decide) ?_
    exact q_ireturn C dX11_slot_34 h
  · refine q_iload_n C dX11_slot_13 rfl 2 rfl ?_
    refine q_iconst (v := 1) C dX11_slot_14 (by decide) ?_
    refine q_sipush (v := 1000) C dX11_slot_15 (by decide) ?_
    obtain ⟨r_5, T_4, hc, h⟩ := bd_some h
    refine q_callS (st' := [.int r_5]) C dX11_slot_18 [.int p1, .int (1 : Int32), .int (1000 : Int32)] [] (mtX11_in l _ n _ _ _ _ _ _ hc) gX11_slot_X11_in rfl hd_X11_in (by decide) (by decide) rfl rfl (Nat.le_of_ble_eq_true rfl) rfl ?_
    clear hc
    refine q_if_eq (tgt := 33) C dX11_slot_21 (by decide) h (fun c h => ?_) (fun c h => ?_)
    · refine q_iconst (v := -1) C dX11_slot_33 (by decide) ?_
      exact q_ireturn C dX11_slot_34 h
    · refine q_aload_n C dX11_slot_24 rfl 0 rfl ?_
      refine q_get (j := 17) C dX11_slot_25 (wE_41 _ _) rfl (by decide) rfl inn_X11_slot_11 (by decide +kernel) rfl ?_
      refine q_bipush (v := 60) C dX11_slot_28 (by decide) ?_
      refine q_icmp_ne (tgt := 35) C dX11_slot_30 (by decide) h (fun c h => ?_) (fun c h => ?_)
      · refine q_iconst (v := 0) C dX11_slot_35 (by decide) ?_
        refine q_istore_n (lv' := [(0, .ref (ad k.1 41)), (1, .int p0), (2, .int p1), (3, .int (0 : Int32))]) C dX11_slot_36 rfl (by decide) rfl ?_
        refine q_sub [0, 1, 2, 3] rfl ?_
        refine lpX11_slot_L37 C (fun T_7 h => ?_) _ _ _ h
        refine q_aload_n C dX11_slot_68 rfl 0 rfl ?_
        refine q_get (j := 19) C dX11_slot_69 (wE_41 _ _) rfl (by decide) rfl inn_X11_slot_11 (by decide +kernel) rfl ?_
        refine q_aload_n C dX11_slot_72 rfl 0 rfl ?_
        refine q_get (j := 17) C dX11_slot_73 (wE_41 _ _) rfl (by decide) rfl inn_X11_slot_11 (by decide +kernel) rfl ?_
        refine q_iload_n C dX11_slot_76 rfl 1 rfl ?_
        refine q_iast C dX11_slot_77 (wE_49 _ _) (wS_49 _ _) h (fun T_8 h => ?_)
        refine q_aload_n C dX11_slot_78 rfl 0 rfl ?_
        refine q_dup C dX11_slot_79 rfl ?_
        refine q_get (j := 17) C dX11_slot_80 (wE_41 _ _) rfl (by decide) rfl inn_X11_slot_11 (by decide +kernel) rfl ?_
        refine q_iconst (v := 1) C dX11_slot_83 (by decide) ?_
        refine q_iadd C dX11_slot_84 ?_
        refine q_putI (j := 17) (ty := .int) C dX11_slot_85 (wE_41 _ _) (wP_41_17 _ _ _) rfl (by decide) (Nat.le_of_ble_eq_true rfl) tyX11 tyX11_ok nmX11 inn_X11_slot_11 (by decide +kernel) rfl rfl (by decide +kernel) rfl rfl h (fun T_9 h => ?_)
        refine q_aload_n C dX11_slot_88 rfl 0 rfl ?_
        refine q_get (j := 17) C dX11_slot_89 (wE_41 _ _) rfl (by decide) rfl inn_X11_slot_11 (by decide +kernel) rfl ?_
        refine q_iconst (v := 1) C dX11_slot_92 (by decide) ?_
        refine q_isub C dX11_slot_93 ?_
        exact q_ireturn C dX11_slot_94 h
      · refine q_iconst (v := -1) C dX11_slot_33 (by decide) ?_
        exact q_ireturn C dX11_slot_34 h
def fX11_isSlot (n : Nat) (p0 : Int32) (T : TS) : Option (Int32 × TS) := bd (fX11_in n p0 (0 : Int32) ((gI T 2067) - (1 : Int32)) T) (fun r_2 T_1 => rz r_2 T_1)
set_option maxHeartbeats 4000000 in
set_option maxRecDepth 100000 in
theorem mtX11_isSlot (l : Launch) (X : XT) (n : Nat) (p0 : Int32) (T T' : TS) (r : Int32) (h : fX11_isSlot n p0 T = some (r, T')) : Met l yX11_isSlot wsX11_isSlot (RM 1) (PreX X [.ref (ad X 41), .int p0] T) (QQ X (some (.int r)) T') 0 0 (xA X) := by
  refine q_start (by decide) rfl (Nat.le_of_ble_eq_true rfl) ?_
  intro k hk C
  subst hk
  show GW k T 0 [(0, .ref (ad k.1 41)), (1, .int p0)] []
  unfold fX11_isSlot at h
  refine q_iload_n C dX11_isSlot_0 rfl 1 rfl ?_
  refine q_iconst (v := 0) C dX11_isSlot_1 (by decide) ?_
  refine q_aload_n C dX11_isSlot_2 rfl 0 rfl ?_
  refine q_get (j := 17) C dX11_isSlot_3 (wE_41 _ _) rfl (by decide) rfl inn_X11_isSlot_11 (by decide +kernel) rfl ?_
  refine q_iconst (v := 1) C dX11_isSlot_6 (by decide) ?_
  refine q_isub C dX11_isSlot_7 ?_
  obtain ⟨r_2, T_1, hc, h⟩ := bd_some h
  refine q_callS (st' := [.int r_2]) C dX11_isSlot_8 [.int p0, .int (0 : Int32), .int ((gI T 2067) - (1 : Int32))] [] (mtX11_in l _ n _ _ _ _ _ _ hc) gX11_isSlot_X11_in rfl hd_X11_in (by decide) (by decide) rfl rfl (Nat.le_of_ble_eq_true rfl) rfl ?_
  clear hc
  exact q_zreturn C dX11_isSlot_11 h
def fX11_goes_L9 (n : Nat) (y2 : Nat) (kk : TS → Option (TS)) : Nat → Int32 → TS → Option (TS)
  | 0, _, _ => none
  | fuel + 1, x3, T => if (gI T 2067) ≤ (x3 + (1 : Int32)) then kk T else ck (x3 + (1 : Int32)) 60 (ak (gO T 48 (Int32.toNatClampNeg (x3 + (1 : Int32)))) (ck x3 60 (nm (sO T 48 x3 (gO T 48 (Int32.toNatClampNeg (x3 + (1 : Int32))))) (fun T_1 => ck (x3 + (1 : Int32)) 60 (ck x3 60 (nm (sA T_1 49 x3 (gA T_1 49 (Int32.toNatClampNeg (x3 + (1 : Int32))))) (fun T_2 => fX11_goes_L9 n y2 kk fuel (x3 + 1) T_2)))))))
set_option maxHeartbeats 4000000 in
set_option maxRecDepth 100000 in
theorem lpX11_goes_L9 {l : Launch} {k : KT} {n : Nat} {y2 : Nat} {kk : TS → Option (TS)} {T' : TS} (C : CX l k 4 cX11_goes RX11 wsX11_goes 0 none (none, T')) (hk : ∀ T1, kk T1 = some T' → GW k T1 53 [(0, .ref (ad k.1 41)), (2, .ref (ad k.1 y2))] []) : ∀ (fuel : Nat) (x3 : Int32) (T : TS), fX11_goes_L9 n y2 kk fuel x3 T = some T' → GW k T 9 [(0, .ref (ad k.1 41)), (2, .ref (ad k.1 y2)), (3, .int x3)] [] := by
  intro fuel
  induction fuel with
  | zero => intro x3 T h; cases h
  | succ fuel ih =>
    intro x3 T h
    rw [fX11_goes_L9] at h
    refine q_iload_n C dX11_goes_9 rfl 2 rfl ?_
    refine q_iconst (v := 1) C dX11_goes_10 (by decide) ?_
    refine q_iadd C dX11_goes_11 ?_
    refine q_aload_n C dX11_goes_12 rfl 0 rfl ?_
    refine q_get (j := 17) C dX11_goes_13 (wE_41 _ _) rfl (by decide) rfl inn_X11_goes_11 (by decide +kernel) rfl ?_
    refine q_icmp_ge (tgt := 53) C dX11_goes_16 (by decide) h (fun c h => ?_) (fun c h => ?_)
    · refine q_sub [0, 1] rfl ?_
      exact hk _ h
    · refine q_aload_n C dX11_goes_19 rfl 0 rfl ?_
      refine q_get (j := 18) C dX11_goes_20 (wE_41 _ _) rfl (by decide) rfl inn_X11_goes_11 (by decide +kernel) rfl ?_
      refine q_iload_n C dX11_goes_23 rfl 2 rfl ?_
      refine q_aload_n C dX11_goes_24 rfl 0 rfl ?_
      refine q_get (j := 18) C dX11_goes_25 (wE_41 _ _) rfl (by decide) rfl inn_X11_goes_11 (by decide +kernel) rfl ?_
      refine q_iload_n C dX11_goes_28 rfl 2 rfl ?_
      refine q_iconst (v := 1) C dX11_goes_29 (by decide) ?_
      refine q_iadd C dX11_goes_30 ?_
      refine q_aald C dX11_goes_31 (wE_48 _ _) h (fun h => ?_)
      refine q_aast C dX11_goes_32 (wE_48 _ _) (wS_48 _ _) h (fun T_1 h => ?_)
      refine q_aload_n C dX11_goes_33 rfl 0 rfl ?_
      refine q_get (j := 19) C dX11_goes_34 (wE_41 _ _) rfl (by decide) rfl inn_X11_goes_11 (by decide +kernel) rfl ?_
      refine q_iload_n C dX11_goes_37 rfl 2 rfl ?_
      refine q_aload_n C dX11_goes_38 rfl 0 rfl ?_
      refine q_get (j := 19) C dX11_goes_39 (wE_41 _ _) rfl (by decide) rfl inn_X11_goes_11 (by decide +kernel) rfl ?_
      refine q_iload_n C dX11_goes_42 rfl 2 rfl ?_
      refine q_iconst (v := 1) C dX11_goes_43 (by decide) ?_
      refine q_iadd C dX11_goes_44 ?_
      refine q_iald C dX11_goes_45 (wE_49 _ _) h (fun h => ?_)
      refine q_iast C dX11_goes_46 (wE_49 _ _) (wS_49 _ _) h (fun T_2 h => ?_)
      refine q_iinc (j := 2) (v := 1) (lv' := [(0, .ref (ad k.1 41)), (2, .ref (ad k.1 y2)), (3, .int (x3 + 1))]) C dX11_goes_47 rfl (by decide) (by decide) rfl ?_
      refine q_goto (tgt := 9) C dX11_goes_50 (by decide) ?_
      refine q_sub [0, 1, 2] rfl ?_
      exact ih _ _ h
def fX11_goes (n : Nat) (p0 : Int32) (T : TS) : Option (TS) := ck p0 60 (fX11_goes_L9 n (gO T 48 (Int32.toNatClampNeg p0)) (fun T_3 => nm (uI T_3 2067 ((gI T_3 2067) - (1 : Int32))) (fun T_4 => ak (gO T 48 (Int32.toNatClampNeg p0)) (ck (gI T_4 2067) 60 (nm (sO T_4 48 (gI T_4 2067) (gO T 48 (Int32.toNatClampNeg p0))) (fun T_5 => some T_5))))) n p0 T)
set_option maxHeartbeats 4000000 in
set_option maxRecDepth 100000 in
theorem mtX11_goes (l : Launch) (X : XT) (n : Nat) (p0 : Int32) (T T' : TS) (h : fX11_goes n p0 T = some T') : Met l yX11_goes wsX11_goes (RM 0) (PreX X [.ref (ad X 41), .int p0] T) (QQ X none T') 0 0 (xA X) := by
  refine q_start (by decide) rfl (Nat.le_of_ble_eq_true rfl) ?_
  intro k hk C
  subst hk
  show GW k T 0 [(0, .ref (ad k.1 41)), (1, .int p0)] []
  unfold fX11_goes at h
  refine q_aload_n C dX11_goes_0 rfl 0 rfl ?_
  refine q_get (j := 18) C dX11_goes_1 (wE_41 _ _) rfl (by decide) rfl inn_X11_goes_11 (by decide +kernel) rfl ?_
  refine q_iload_n C dX11_goes_4 rfl 1 rfl ?_
  refine q_aald C dX11_goes_5 (wE_48 _ _) h (fun h => ?_)
  refine q_astore_n (lv' := [(0, .ref (ad k.1 41)), (1, .int p0), (2, .ref (ad k.1 (gO T 48 (Int32.toNatClampNeg p0))))]) C dX11_goes_6 rfl (by decide) rfl ?_
  refine q_iload_n C dX11_goes_7 rfl 1 rfl ?_
  refine q_istore_n (lv' := [(0, .ref (ad k.1 41)), (1, .int p0), (2, .ref (ad k.1 (gO T 48 (Int32.toNatClampNeg p0)))), (3, .int p0)]) C dX11_goes_8 rfl (by decide) rfl ?_
  refine q_sub [0, 2, 3] rfl ?_
  refine lpX11_goes_L9 C (fun T_3 h => ?_) _ _ _ h
  refine q_aload_n C dX11_goes_53 rfl 0 rfl ?_
  refine q_dup C dX11_goes_54 rfl ?_
  refine q_get (j := 17) C dX11_goes_55 (wE_41 _ _) rfl (by decide) rfl inn_X11_goes_11 (by decide +kernel) rfl ?_
  refine q_iconst (v := 1) C dX11_goes_58 (by decide) ?_
  refine q_isub C dX11_goes_59 ?_
  refine q_putI (j := 17) (ty := .int) C dX11_goes_60 (wE_41 _ _) (wP_41_17 _ _ _) rfl (by decide) (Nat.le_of_ble_eq_true rfl) tyX11 tyX11_ok nmX11 inn_X11_goes_11 (by decide +kernel) rfl rfl (by decide +kernel) rfl rfl h (fun T_4 h => ?_)
  refine q_aload_n C dX11_goes_63 rfl 0 rfl ?_
  refine q_get (j := 18) C dX11_goes_64 (wE_41 _ _) rfl (by decide) rfl inn_X11_goes_11 (by decide +kernel) rfl ?_
  refine q_aload_n C dX11_goes_67 rfl 0 rfl ?_
  refine q_get (j := 17) C dX11_goes_68 (wE_41 _ _) rfl (by decide) rfl inn_X11_goes_11 (by decide +kernel) rfl ?_
  refine q_aload_n C dX11_goes_71 rfl 1 rfl ?_
  refine q_aast C dX11_goes_72 (wE_48 _ _) (wS_48 _ _) h (fun T_5 h => ?_)
  exact q_vreturn C dX11_goes_73 h
def fX11_drop (n : Nat) (p0 : Int32) (T : TS) : Option (Int32 × TS) := nm (uI T 2050 (0 : Int32)) (fun T_1 => if ¬ p0 = (-1 : Int32) then bd (fX11_isSlot n p0 T_1) (fun r_3 T_2 => if ¬ r_3 = 0 then bv (fX11_goes n p0 T_2) (fun T_4 => rz (1 : Int32) T_4) else rz (0 : Int32) T_2) else nm (uI T_1 2067 (0 : Int32)) (fun T_6 => rz (1 : Int32) T_6))
set_option maxHeartbeats 4000000 in
set_option maxRecDepth 100000 in
theorem mtX11_drop (l : Launch) (X : XT) (n : Nat) (p0 : Int32) (T T' : TS) (r : Int32) (h : fX11_drop n p0 T = some (r, T')) : Met l yX11_drop wsX11_drop (RM 2) (PreX X [.ref (ad X 41), .int p0] T) (QQ X (some (.int r)) T') 0 0 (xA X) := by
  refine q_start (by decide) rfl (Nat.le_of_ble_eq_true rfl) ?_
  intro k hk C
  subst hk
  show GW k T 0 [(0, .ref (ad k.1 41)), (1, .int p0)] []
  unfold fX11_drop at h
  refine q_aload_n C dX11_drop_0 rfl 0 rfl ?_
  refine q_iconst (v := 0) C dX11_drop_1 (by decide) ?_
  refine q_putI (j := 0) (ty := .int) C dX11_drop_2 (wE_41 _ _) (wP_41_0 _ _ _) rfl (by decide) (Nat.le_of_ble_eq_true rfl) tyX11 tyX11_ok nmX11 inn_X11_drop_11 (by decide +kernel) rfl rfl (by decide +kernel) rfl rfl h (fun T_1 h => ?_)
  refine q_iload_n C dX11_drop_5 rfl 1 rfl ?_
  refine q_iconst (v := -1) C dX11_drop_6 (by decide) ?_
  refine q_icmp_ne (tgt := 17) C dX11_drop_7 (by decide) h (fun c h => ?_) (fun c h => ?_)
  · refine q_aload_n C dX11_drop_17 rfl 0 rfl ?_
    refine q_iload_n C dX11_drop_18 rfl 1 rfl ?_
    obtain ⟨r_3, T_2, hc, h⟩ := bd_some h
    refine q_callV (st' := [.int r_3]) C dX11_drop_19 [.int p0] [] (mtX11_isSlot l _ n _ _ _ _ hc) gX11_drop_X11_isSlot rfl hd_X11_isSlot (by decide) (by decide) (wE_41 _ _) rfl rfl rfl (Nat.le_of_ble_eq_true rfl) rfl ?_
    clear hc
    refine q_if_ne (tgt := 27) C dX11_drop_22 (by decide) h (fun c h => ?_) (fun c h => ?_)
    · refine q_aload_n C dX11_drop_27 rfl 0 rfl ?_
      refine q_iload_n C dX11_drop_28 rfl 1 rfl ?_
      obtain ⟨T_4, hc, h⟩ := bv_some h
      refine q_callV (st' := []) C dX11_drop_29 [.int p0] [] (mtX11_goes l _ n _ _ _ hc) gX11_drop_X11_goes rfl hd_X11_goes (by decide) (by decide) (wE_41 _ _) rfl rfl rfl (Nat.le_of_ble_eq_true rfl) rfl ?_
      clear hc
      refine q_iconst (v := 1) C dX11_drop_32 (by decide) ?_
      exact q_zreturn C dX11_drop_33 h
    · refine q_iconst (v := 0) C dX11_drop_25 (by decide) ?_
      exact q_zreturn C dX11_drop_26 h
  · refine q_aload_n C dX11_drop_10 rfl 0 rfl ?_
    refine q_iconst (v := 0) C dX11_drop_11 (by decide) ?_
    refine q_putI (j := 17) (ty := .int) C dX11_drop_12 (wE_41 _ _) (wP_41_17 _ _ _) rfl (by decide) (Nat.le_of_ble_eq_true rfl) tyX11 tyX11_ok nmX11 inn_X11_drop_11 (by decide +kernel) rfl rfl (by decide +kernel) rfl rfl h (fun T_6 h => ?_)
    refine q_iconst (v := 1) C dX11_drop_15 (by decide) ?_
    exact q_zreturn C dX11_drop_16 h
def fX11_cutsOf_60_L31 (n : Nat) (y1 : Nat) (y5 : Int32) (kk : Int32 → Int32 → TS → Option (Int32 × TS)) : Nat → Int32 → Int32 → Int32 → TS → Option (Int32 × TS)
  | 0, _, _, _, _ => none
  | fuel + 1, x3, x4, x6, T => ak y1 (ck y5 (al y1) (if (gA T y1 (Int32.toNatClampNeg y5)) ≤ x6 then kk x3 x4 T else ck y5 6 (nm (x3 + (gA T 42 (Int32.toNatClampNeg y5))) (fun x3_3 => ck x4 21 (nm (sA T 60 x4 x3_3) (fun T_4 => fX11_cutsOf_60_L31 n y1 y5 kk fuel x3_3 (x4 + 1) (x6 + 1) T_4))))))
set_option maxHeartbeats 4000000 in
set_option maxRecDepth 100000 in
theorem lpX11_cutsOf_60_L31 {l : Launch} {k : KT} {n : Nat} {y1 : Nat} {y5 : Int32} {kk : Int32 → Int32 → TS → Option (Int32 × TS)} {r : Int32} {T' : TS} (C : CX l k 7 cX11_cutsOf RX11 wsX11_cutsOf 0 (some .int) (some (.int r), T')) (hk : ∀ e3 e4 T1, kk e3 e4 T1 = some (r, T') → GW k T1 64 [(0, .ref (ad k.1 41)), (1, .ref (ad k.1 y1)), (2, .ref (ad k.1 60)), (3, .int e3), (4, .int e4), (5, .int y5)] []) : ∀ (fuel : Nat) (x3 : Int32) (x4 : Int32) (x6 : Int32) (T : TS), fX11_cutsOf_60_L31 n y1 y5 kk fuel x3 x4 x6 T = some (r, T') → GW k T 31 [(0, .ref (ad k.1 41)), (1, .ref (ad k.1 y1)), (2, .ref (ad k.1 60)), (3, .int x3), (4, .int x4), (5, .int y5), (6, .int x6)] [] := by
  intro fuel
  induction fuel with
  | zero => intro x3 x4 x6 T h; cases h
  | succ fuel ih =>
    intro x3 x4 x6 T h
    rw [fX11_cutsOf_60_L31] at h
    refine q_iload C dX11_cutsOf_31 6 rfl ?_
    refine q_aload_n C dX11_cutsOf_33 rfl 1 rfl ?_
    refine q_iload C dX11_cutsOf_34 5 rfl ?_
    refine q_ialdG C dX11_cutsOf_36 h (fun h => ?_)
    refine q_icmp_ge (tgt := 64) C dX11_cutsOf_37 (by decide) h (fun c h => ?_) (fun c h => ?_)
    · refine q_sub [0, 1, 2, 3, 4, 5] rfl ?_
      exact hk _ _ _ h
    · refine q_iload_n C dX11_cutsOf_40 rfl 3 rfl ?_
      refine q_aload_n C dX11_cutsOf_41 rfl 0 rfl ?_
      refine q_get (j := 7) C dX11_cutsOf_42 (wE_41 _ _) rfl (by decide) rfl inn_X11_cutsOf_11 (by decide +kernel) rfl ?_
      refine q_iload C dX11_cutsOf_45 5 rfl ?_
      refine q_iald C dX11_cutsOf_47 (wE_42 _ _) h (fun h => ?_)
      refine q_iadd C dX11_cutsOf_48 ?_
      refine q_nm h (fun x3_3 h => ?_)
      refine q_istore_n (lv' := [(0, .ref (ad k.1 41)), (1, .ref (ad k.1 y1)), (2, .ref (ad k.1 60)), (3, .int x3_3), (4, .int x4), (5, .int y5), (6, .int x6)]) C dX11_cutsOf_49 rfl (by decide) rfl ?_
      refine q_aload_n C dX11_cutsOf_50 rfl 2 rfl ?_
      refine q_iload C dX11_cutsOf_51 4 rfl ?_
      refine q_iload_n C dX11_cutsOf_53 rfl 3 rfl ?_
      refine q_iast C dX11_cutsOf_54 (wE_60 _ _) (wS_60 _ _) h (fun T_4 h => ?_)
      refine q_iinc (j := 4) (v := 1) (lv' := [(0, .ref (ad k.1 41)), (1, .ref (ad k.1 y1)), (2, .ref (ad k.1 60)), (3, .int x3_3), (4, .int (x4 + 1)), (5, .int y5), (6, .int x6)]) C dX11_cutsOf_55 rfl (by decide) (by decide) rfl ?_
      refine q_iinc (j := 6) (v := 1) (lv' := [(0, .ref (ad k.1 41)), (1, .ref (ad k.1 y1)), (2, .ref (ad k.1 60)), (3, .int x3_3), (4, .int (x4 + 1)), (5, .int y5), (6, .int (x6 + 1))]) C dX11_cutsOf_58 rfl (by decide) (by decide) rfl ?_
      refine q_goto (tgt := 31) C dX11_cutsOf_61 (by decide) ?_
      refine q_sub [0, 1, 2, 3, 4, 5, 6] rfl ?_
      exact ih _ _ _ _ h
def fX11_cutsOf_60_L19 (n : Nat) (y1 : Nat) (kk : Int32 → TS → Option (Int32 × TS)) : Nat → Int32 → Int32 → Int32 → TS → Option (Int32 × TS)
  | 0, _, _, _, _ => none
  | fuel + 1, x3, x4, x5, T => if (gI T 2056) ≤ x5 then kk x4 T else fX11_cutsOf_60_L31 n y1 x5 (fun e3_5 e4_6 T_7 => fX11_cutsOf_60_L19 n y1 kk fuel e3_5 e4_6 (x5 + 1) T_7) n x3 x4 (0 : Int32) T
set_option maxHeartbeats 4000000 in
set_option maxRecDepth 100000 in
theorem lpX11_cutsOf_60_L19 {l : Launch} {k : KT} {n : Nat} {y1 : Nat} {kk : Int32 → TS → Option (Int32 × TS)} {r : Int32} {T' : TS} (C : CX l k 7 cX11_cutsOf RX11 wsX11_cutsOf 0 (some .int) (some (.int r), T')) (hk : ∀ e4 T1, kk e4 T1 = some (r, T') → GW k T1 70 [(4, .int e4)] []) : ∀ (fuel : Nat) (x3 : Int32) (x4 : Int32) (x5 : Int32) (T : TS), fX11_cutsOf_60_L19 n y1 kk fuel x3 x4 x5 T = some (r, T') → GW k T 19 [(0, .ref (ad k.1 41)), (1, .ref (ad k.1 y1)), (2, .ref (ad k.1 60)), (3, .int x3), (4, .int x4), (5, .int x5)] [] := by
  intro fuel
  induction fuel with
  | zero => intro x3 x4 x5 T h; cases h
  | succ fuel ih =>
    intro x3 x4 x5 T h
    rw [fX11_cutsOf_60_L19] at h
    refine q_iload C dX11_cutsOf_19 5 rfl ?_
    refine q_aload_n C dX11_cutsOf_21 rfl 0 rfl ?_
    refine q_get (j := 6) C dX11_cutsOf_22 (wE_41 _ _) rfl (by decide) rfl inn_X11_cutsOf_11 (by decide +kernel) rfl ?_
    refine q_icmp_ge (tgt := 70) C dX11_cutsOf_25 (by decide) h (fun c h => ?_) (fun c h => ?_)
    · refine q_sub [4] rfl ?_
      exact hk _ _ h
    · refine q_iconst (v := 0) C dX11_cutsOf_28 (by decide) ?_
      refine q_istore (lv' := [(0, .ref (ad k.1 41)), (1, .ref (ad k.1 y1)), (2, .ref (ad k.1 60)), (3, .int x3), (4, .int x4), (5, .int x5), (6, .int (0 : Int32))]) C dX11_cutsOf_29 (by decide) rfl ?_
      refine q_sub [0, 1, 2, 3, 4, 5, 6] rfl ?_
      refine lpX11_cutsOf_60_L31 C (fun e3_5 e4_6 T_7 h => ?_) _ _ _ _ _ h
      refine q_iinc (j := 5) (v := 1) (lv' := [(0, .ref (ad k.1 41)), (1, .ref (ad k.1 y1)), (2, .ref (ad k.1 60)), (3, .int e3_5), (4, .int e4_6), (5, .int (x5 + 1))]) C dX11_cutsOf_64 rfl (by decide) (by decide) rfl ?_
      refine q_goto (tgt := 19) C dX11_cutsOf_67 (by decide) ?_
      refine q_sub [0, 1, 2, 3, 4, 5] rfl ?_
      exact ih _ _ _ _ h
def fX11_cutsOf_60 (n : Nat) (q0 : Nat) (T : TS) : Option (Int32 × TS) := nm (gI T 2052) (fun x3_1 => ck (0 : Int32) 21 (nm (sA T 60 (0 : Int32) x3_1) (fun T_2 => fX11_cutsOf_60_L19 n q0 (fun e4_8 T_9 => some (e4_8, T_9)) n x3_1 ((0 : Int32) + 1) (0 : Int32) T_2)))
set_option maxHeartbeats 4000000 in
set_option maxRecDepth 100000 in
theorem mtX11_cutsOf_60 (l : Launch) (X : XT) (n : Nat) (q0 : Nat) (T T' : TS) (r : Int32) (h : fX11_cutsOf_60 n q0 T = some (r, T')) : Met l yX11_cutsOf wsX11_cutsOf (RM 0) (PreX X [.ref (ad X 41), .ref (ad X q0), .ref (ad X 60)] T) (QQ X (some (.int r)) T') 0 0 (xA X) := by
  refine q_start (by decide) rfl (Nat.le_of_ble_eq_true rfl) ?_
  intro k hk C
  subst hk
  show GW k T 0 [(0, .ref (ad k.1 41)), (1, .ref (ad k.1 q0)), (2, .ref (ad k.1 60))] []
  unfold fX11_cutsOf_60 at h
  refine q_aload_n C dX11_cutsOf_0 rfl 0 rfl ?_
  refine q_get (j := 2) C dX11_cutsOf_1 (wE_41 _ _) rfl (by decide) rfl inn_X11_cutsOf_11 (by decide +kernel) rfl ?_
  refine q_nm h (fun x3_1 h => ?_)
  refine q_istore_n (lv' := [(0, .ref (ad k.1 41)), (1, .ref (ad k.1 q0)), (2, .ref (ad k.1 60)), (3, .int x3_1)]) C dX11_cutsOf_4 rfl (by decide) rfl ?_
  refine q_iconst (v := 0) C dX11_cutsOf_5 (by decide) ?_
  refine q_istore (lv' := [(0, .ref (ad k.1 41)), (1, .ref (ad k.1 q0)), (2, .ref (ad k.1 60)), (3, .int x3_1), (4, .int (0 : Int32))]) C dX11_cutsOf_6 (by decide) rfl ?_
  refine q_aload_n C dX11_cutsOf_8 rfl 2 rfl ?_
  refine q_iload C dX11_cutsOf_9 4 rfl ?_
  refine q_iload_n C dX11_cutsOf_11 rfl 3 rfl ?_
  refine q_iast C dX11_cutsOf_12 (wE_60 _ _) (wS_60 _ _) h (fun T_2 h => ?_)
  refine q_iinc (j := 4) (v := 1) (lv' := [(0, .ref (ad k.1 41)), (1, .ref (ad k.1 q0)), (2, .ref (ad k.1 60)), (3, .int x3_1), (4, .int ((0 : Int32) + 1))]) C dX11_cutsOf_13 rfl (by decide) (by decide) rfl ?_
  refine q_iconst (v := 0) C dX11_cutsOf_16 (by decide) ?_
  refine q_istore (lv' := [(0, .ref (ad k.1 41)), (1, .ref (ad k.1 q0)), (2, .ref (ad k.1 60)), (3, .int x3_1), (4, .int ((0 : Int32) + 1)), (5, .int (0 : Int32))]) C dX11_cutsOf_17 (by decide) rfl ?_
  refine q_sub [0, 1, 2, 3, 4, 5] rfl ?_
  refine lpX11_cutsOf_60_L19 C (fun e4_8 T_9 h => ?_) _ _ _ _ _ h
  refine q_iload C dX11_cutsOf_70 0 rfl ?_
  exact q_ireturn C dX11_cutsOf_72 h
def fX11_cutsOf_59_L31 (n : Nat) (y1 : Nat) (y5 : Int32) (kk : Int32 → Int32 → TS → Option (Int32 × TS)) : Nat → Int32 → Int32 → Int32 → TS → Option (Int32 × TS)
  | 0, _, _, _, _ => none
  | fuel + 1, x3, x4, x6, T => ak y1 (ck y5 (al y1) (if (gA T y1 (Int32.toNatClampNeg y5)) ≤ x6 then kk x3 x4 T else ck y5 6 (nm (x3 + (gA T 42 (Int32.toNatClampNeg y5))) (fun x3_3 => ck x4 21 (nm (sA T 59 x4 x3_3) (fun T_4 => fX11_cutsOf_59_L31 n y1 y5 kk fuel x3_3 (x4 + 1) (x6 + 1) T_4))))))
set_option maxHeartbeats 4000000 in
set_option maxRecDepth 100000 in
theorem lpX11_cutsOf_59_L31 {l : Launch} {k : KT} {n : Nat} {y1 : Nat} {y5 : Int32} {kk : Int32 → Int32 → TS → Option (Int32 × TS)} {r : Int32} {T' : TS} (C : CX l k 7 cX11_cutsOf RX11 wsX11_cutsOf 0 (some .int) (some (.int r), T')) (hk : ∀ e3 e4 T1, kk e3 e4 T1 = some (r, T') → GW k T1 64 [(0, .ref (ad k.1 41)), (1, .ref (ad k.1 y1)), (2, .ref (ad k.1 59)), (3, .int e3), (4, .int e4), (5, .int y5)] []) : ∀ (fuel : Nat) (x3 : Int32) (x4 : Int32) (x6 : Int32) (T : TS), fX11_cutsOf_59_L31 n y1 y5 kk fuel x3 x4 x6 T = some (r, T') → GW k T 31 [(0, .ref (ad k.1 41)), (1, .ref (ad k.1 y1)), (2, .ref (ad k.1 59)), (3, .int x3), (4, .int x4), (5, .int y5), (6, .int x6)] [] := by
  intro fuel
  induction fuel with
  | zero => intro x3 x4 x6 T h; cases h
  | succ fuel ih =>
    intro x3 x4 x6 T h
    rw [fX11_cutsOf_59_L31] at h
    refine q_iload C dX11_cutsOf_31 6 rfl ?_
    refine q_aload_n C dX11_cutsOf_33 rfl 1 rfl ?_
    refine q_iload C dX11_cutsOf_34 5 rfl ?_
    refine q_ialdG C dX11_cutsOf_36 h (fun h => ?_)
    refine q_icmp_ge (tgt := 64) C dX11_cutsOf_37 (by decide) h (fun c h => ?_) (fun c h => ?_)
    · refine q_sub [0, 1, 2, 3, 4, 5] rfl ?_
      exact hk _ _ _ h
    · refine q_iload_n C dX11_cutsOf_40 rfl 3 rfl ?_
      refine q_aload_n C dX11_cutsOf_41 rfl 0 rfl ?_
      refine q_get (j := 7) C dX11_cutsOf_42 (wE_41 _ _) rfl (by decide) rfl inn_X11_cutsOf_11 (by decide +kernel) rfl ?_
      refine q_iload C dX11_cutsOf_45 5 rfl ?_
      refine q_iald C dX11_cutsOf_47 (wE_42 _ _) h (fun h => ?_)
      refine q_iadd C dX11_cutsOf_48 ?_
      refine q_nm h (fun x3_3 h => ?_)
      refine q_istore_n (lv' := [(0, .ref (ad k.1 41)), (1, .ref (ad k.1 y1)), (2, .ref (ad k.1 59)), (3, .int x3_3), (4, .int x4), (5, .int y5), (6, .int x6)]) C dX11_cutsOf_49 rfl (by decide) rfl ?_
      refine q_aload_n C dX11_cutsOf_50 rfl 2 rfl ?_
      refine q_iload C dX11_cutsOf_51 4 rfl ?_
      refine q_iload_n C dX11_cutsOf_53 rfl 3 rfl ?_
      refine q_iast C dX11_cutsOf_54 (wE_59 _ _) (wS_59 _ _) h (fun T_4 h => ?_)
      refine q_iinc (j := 4) (v := 1) (lv' := [(0, .ref (ad k.1 41)), (1, .ref (ad k.1 y1)), (2, .ref (ad k.1 59)), (3, .int x3_3), (4, .int (x4 + 1)), (5, .int y5), (6, .int x6)]) C dX11_cutsOf_55 rfl (by decide) (by decide) rfl ?_
      refine q_iinc (j := 6) (v := 1) (lv' := [(0, .ref (ad k.1 41)), (1, .ref (ad k.1 y1)), (2, .ref (ad k.1 59)), (3, .int x3_3), (4, .int (x4 + 1)), (5, .int y5), (6, .int (x6 + 1))]) C dX11_cutsOf_58 rfl (by decide) (by decide) rfl ?_
      refine q_goto (tgt := 31) C dX11_cutsOf_61 (by decide) ?_
      refine q_sub [0, 1, 2, 3, 4, 5, 6] rfl ?_
      exact ih _ _ _ _ h
def fX11_cutsOf_59_L19 (n : Nat) (y1 : Nat) (kk : Int32 → TS → Option (Int32 × TS)) : Nat → Int32 → Int32 → Int32 → TS → Option (Int32 × TS)
  | 0, _, _, _, _ => none
  | fuel + 1, x3, x4, x5, T => if (gI T 2056) ≤ x5 then kk x4 T else fX11_cutsOf_59_L31 n y1 x5 (fun e3_5 e4_6 T_7 => fX11_cutsOf_59_L19 n y1 kk fuel e3_5 e4_6 (x5 + 1) T_7) n x3 x4 (0 : Int32) T
set_option maxHeartbeats 4000000 in
set_option maxRecDepth 100000 in
theorem lpX11_cutsOf_59_L19 {l : Launch} {k : KT} {n : Nat} {y1 : Nat} {kk : Int32 → TS → Option (Int32 × TS)} {r : Int32} {T' : TS} (C : CX l k 7 cX11_cutsOf RX11 wsX11_cutsOf 0 (some .int) (some (.int r), T')) (hk : ∀ e4 T1, kk e4 T1 = some (r, T') → GW k T1 70 [(4, .int e4)] []) : ∀ (fuel : Nat) (x3 : Int32) (x4 : Int32) (x5 : Int32) (T : TS), fX11_cutsOf_59_L19 n y1 kk fuel x3 x4 x5 T = some (r, T') → GW k T 19 [(0, .ref (ad k.1 41)), (1, .ref (ad k.1 y1)), (2, .ref (ad k.1 59)), (3, .int x3), (4, .int x4), (5, .int x5)] [] := by
  intro fuel
  induction fuel with
  | zero => intro x3 x4 x5 T h; cases h
  | succ fuel ih =>
    intro x3 x4 x5 T h
    rw [fX11_cutsOf_59_L19] at h
    refine q_iload C dX11_cutsOf_19 5 rfl ?_
    refine q_aload_n C dX11_cutsOf_21 rfl 0 rfl ?_
    refine q_get (j := 6) C dX11_cutsOf_22 (wE_41 _ _) rfl (by decide) rfl inn_X11_cutsOf_11 (by decide +kernel) rfl ?_
    refine q_icmp_ge (tgt := 70) C dX11_cutsOf_25 (by decide) h (fun c h => ?_) (fun c h => ?_)
    · refine q_sub [4] rfl ?_
      exact hk _ _ h
    · refine q_iconst (v := 0) C dX11_cutsOf_28 (by decide) ?_
      refine q_istore (lv' := [(0, .ref (ad k.1 41)), (1, .ref (ad k.1 y1)), (2, .ref (ad k.1 59)), (3, .int x3), (4, .int x4), (5, .int x5), (6, .int (0 : Int32))]) C dX11_cutsOf_29 (by decide) rfl ?_
      refine q_sub [0, 1, 2, 3, 4, 5, 6] rfl ?_
      refine lpX11_cutsOf_59_L31 C (fun e3_5 e4_6 T_7 h => ?_) _ _ _ _ _ h
      refine q_iinc (j := 5) (v := 1) (lv' := [(0, .ref (ad k.1 41)), (1, .ref (ad k.1 y1)), (2, .ref (ad k.1 59)), (3, .int e3_5), (4, .int e4_6), (5, .int (x5 + 1))]) C dX11_cutsOf_64 rfl (by decide) (by decide) rfl ?_
      refine q_goto (tgt := 19) C dX11_cutsOf_67 (by decide) ?_
      refine q_sub [0, 1, 2, 3, 4, 5] rfl ?_
      exact ih _ _ _ _ h
def fX11_cutsOf_59 (n : Nat) (q0 : Nat) (T : TS) : Option (Int32 × TS) := nm (gI T 2052) (fun x3_1 => ck (0 : Int32) 21 (nm (sA T 59 (0 : Int32) x3_1) (fun T_2 => fX11_cutsOf_59_L19 n q0 (fun e4_8 T_9 => some (e4_8, T_9)) n x3_1 ((0 : Int32) + 1) (0 : Int32) T_2)))
set_option maxHeartbeats 4000000 in
set_option maxRecDepth 100000 in
theorem mtX11_cutsOf_59 (l : Launch) (X : XT) (n : Nat) (q0 : Nat) (T T' : TS) (r : Int32) (h : fX11_cutsOf_59 n q0 T = some (r, T')) : Met l yX11_cutsOf wsX11_cutsOf (RM 0) (PreX X [.ref (ad X 41), .ref (ad X q0), .ref (ad X 59)] T) (QQ X (some (.int r)) T') 0 0 (xA X) := by
  refine q_start (by decide) rfl (Nat.le_of_ble_eq_true rfl) ?_
  intro k hk C
  subst hk
  show GW k T 0 [(0, .ref (ad k.1 41)), (1, .ref (ad k.1 q0)), (2, .ref (ad k.1 59))] []
  unfold fX11_cutsOf_59 at h
  refine q_aload_n C dX11_cutsOf_0 rfl 0 rfl ?_
  refine q_get (j := 2) C dX11_cutsOf_1 (wE_41 _ _) rfl (by decide) rfl inn_X11_cutsOf_11 (by decide +kernel) rfl ?_
  refine q_nm h (fun x3_1 h => ?_)
  refine q_istore_n (lv' := [(0, .ref (ad k.1 41)), (1, .ref (ad k.1 q0)), (2, .ref (ad k.1 59)), (3, .int x3_1)]) C dX11_cutsOf_4 rfl (by decide) rfl ?_
  refine q_iconst (v := 0) C dX11_cutsOf_5 (by decide) ?_
  refine q_istore (lv' := [(0, .ref (ad k.1 41)), (1, .ref (ad k.1 q0)), (2, .ref (ad k.1 59)), (3, .int x3_1), (4, .int (0 : Int32))]) C dX11_cutsOf_6 (by decide) rfl ?_
  refine q_aload_n C dX11_cutsOf_8 rfl 2 rfl ?_
  refine q_iload C dX11_cutsOf_9 4 rfl ?_
  refine q_iload_n C dX11_cutsOf_11 rfl 3 rfl ?_
  refine q_iast C dX11_cutsOf_12 (wE_59 _ _) (wS_59 _ _) h (fun T_2 h => ?_)
  refine q_iinc (j := 4) (v := 1) (lv' := [(0, .ref (ad k.1 41)), (1, .ref (ad k.1 q0)), (2, .ref (ad k.1 59)), (3, .int x3_1), (4, .int ((0 : Int32) + 1))]) C dX11_cutsOf_13 rfl (by decide) (by decide) rfl ?_
  refine q_iconst (v := 0) C dX11_cutsOf_16 (by decide) ?_
  refine q_istore (lv' := [(0, .ref (ad k.1 41)), (1, .ref (ad k.1 q0)), (2, .ref (ad k.1 59)), (3, .int x3_1), (4, .int ((0 : Int32) + 1)), (5, .int (0 : Int32))]) C dX11_cutsOf_17 (by decide) rfl ?_
  refine q_sub [0, 1, 2, 3, 4, 5] rfl ?_
  refine lpX11_cutsOf_59_L19 C (fun e4_8 T_9 h => ?_) _ _ _ _ _ h
  refine q_iload C dX11_cutsOf_70 0 rfl ?_
  exact q_ireturn C dX11_cutsOf_72 h
def fX11_unlike_59_60_L18 (n : Nat) (y1 : Int32) (y3 : Int32) (y4 : Int32) (y5 : Int32) (kk : Int32 → TS → Option (Int32 × TS)) : Nat → Int32 → Int32 → TS → Option (Int32 × TS)
  | 0, _, _, _ => none
  | fuel + 1, x6, x7, T => if y1 ≤ x7 then kk x6 T else if ¬ x6 = 0 then fX11_unlike_59_60_L18 n y1 y3 y4 y5 kk fuel (1 : Int32) (x7 + 1) T else ck x7 21 (ck y5 21 (if ¬ (gA T 59 (Int32.toNatClampNeg x7)) = (gA T 60 (Int32.toNatClampNeg y5)) then fX11_unlike_59_60_L18 n y1 y3 y4 y5 kk fuel (0 : Int32) (x7 + 1) T else fX11_unlike_59_60_L18 n y1 y3 y4 y5 kk fuel (1 : Int32) (x7 + 1) T))
set_option maxHeartbeats 4000000 in
set_option maxRecDepth 100000 in
theorem lpX11_unlike_59_60_L18 {l : Launch} {k : KT} {n : Nat} {y1 : Int32} {y3 : Int32} {y4 : Int32} {y5 : Int32} {kk : Int32 → TS → Option (Int32 × TS)} {r : Int32} {T' : TS} (C : CX l k 8 cX11_unlike RX11 wsX11_unlike 0 (some .int) (some (.int r), T')) (hk : ∀ e6 T1, kk e6 T1 = some (r, T') → GW k T1 53 [(0, .ref (ad k.1 59)), (1, .int y1), (2, .ref (ad k.1 60)), (3, .int y3), (4, .int y4), (5, .int y5), (6, .int e6)] []) : ∀ (fuel : Nat) (x6 : Int32) (x7 : Int32) (T : TS), fX11_unlike_59_60_L18 n y1 y3 y4 y5 kk fuel x6 x7 T = some (r, T') → GW k T 18 [(0, .ref (ad k.1 59)), (1, .int y1), (2, .ref (ad k.1 60)), (3, .int y3), (4, .int y4), (5, .int y5), (6, .int x6), (7, .int x7)] [] := by
  intro fuel
  induction fuel with
  | zero => intro x6 x7 T h; cases h
  | succ fuel ih =>
    intro x6 x7 T h
    rw [fX11_unlike_59_60_L18] at h
    refine q_iload C dX11_unlike_18 7 rfl ?_
    refine q_iload_n C dX11_unlike_20 rfl 1 rfl ?_
    refine q_icmp_ge (tgt := 53) C dX11_unlike_21 (by decide) h (fun c h => ?_) (fun c h => ?_)
    · refine q_sub [0, 1, 2, 3, 4, 5, 6] rfl ?_
      exact hk _ _ h
    · refine q_iload C dX11_unlike_24 6 rfl ?_
      refine q_if_ne (tgt := 40) C dX11_unlike_26 (by decide) h (fun c h => ?_) (fun c h => ?_)
      · refine q_iconst (v := 1) C dX11_unlike_40 (by decide) ?_
        refine q_goto (tgt := 45) C dX11_unlike_41 (by decide) ?_
        refine q_istore (lv' := [(0, .ref (ad k.1 59)), (1, .int y1), (2, .ref (ad k.1 60)), (3, .int y3), (4, .int y4), (5, .int y5), (6, .int (1 : Int32)), (7, .int x7)]) C dX11_unlike_45 (by decide) rfl ?_
        refine q_iinc (j := 7) (v := 1) (lv' := [(0, .ref (ad k.1 59)), (1, .int y1), (2, .ref (ad k.1 60)), (3, .int y3), (4, .int y4), (5, .int y5), (6, .int (1 : Int32)), (7, .int (x7 + 1))]) C dX11_unlike_47 rfl (by decide) (by decide) rfl ?_
        refine q_goto (tgt := 18) C dX11_unlike_50 (by decide) ?_
        refine q_sub [0, 1, 2, 3, 4, 5, 6, 7] rfl ?_
        exact ih _ _ _ h
      · refine q_aload_n C dX11_unlike_29 rfl 0 rfl ?_
        refine q_iload C dX11_unlike_30 7 rfl ?_
        refine q_iald C dX11_unlike_32 (wE_59 _ _) h (fun h => ?_)
        refine q_aload_n C dX11_unlike_33 rfl 2 rfl ?_
        refine q_iload C dX11_unlike_34 5 rfl ?_
        refine q_iald C dX11_unlike_36 (wE_60 _ _) h (fun h => ?_)
        refine q_icmp_ne (tgt := 44) C dX11_unlike_37 (by decide) h (fun c h => ?_) (fun c h => ?_)
        · refine q_iconst (v := 0) C dX11_unlike_44 (by decide) ?_
          refine q_istore (lv' := [(0, .ref (ad k.1 59)), (1, .int y1), (2, .ref (ad k.1 60)), (3, .int y3), (4, .int y4), (5, .int y5), (6, .int (0 : Int32)), (7, .int x7)]) C dX11_unlike_45 (by decide) rfl ?_
          refine q_iinc (j := 7) (v := 1) (lv' := [(0, .ref (ad k.1 59)), (1, .int y1), (2, .ref (ad k.1 60)), (3, .int y3), (4, .int y4), (5, .int y5), (6, .int (0 : Int32)), (7, .int (x7 + 1))]) C dX11_unlike_47 rfl (by decide) (by decide) rfl ?_
          refine q_goto (tgt := 18) C dX11_unlike_50 (by decide) ?_
          refine q_sub [0, 1, 2, 3, 4, 5, 6, 7] rfl ?_
          exact ih _ _ _ h
        · refine q_iconst (v := 1) C dX11_unlike_40 (by decide) ?_
          refine q_goto (tgt := 45) C dX11_unlike_41 (by decide) ?_
          refine q_istore (lv' := [(0, .ref (ad k.1 59)), (1, .int y1), (2, .ref (ad k.1 60)), (3, .int y3), (4, .int y4), (5, .int y5), (6, .int (1 : Int32)), (7, .int x7)]) C dX11_unlike_45 (by decide) rfl ?_
          refine q_iinc (j := 7) (v := 1) (lv' := [(0, .ref (ad k.1 59)), (1, .int y1), (2, .ref (ad k.1 60)), (3, .int y3), (4, .int y4), (5, .int y5), (6, .int (1 : Int32)), (7, .int (x7 + 1))]) C dX11_unlike_47 rfl (by decide) (by decide) rfl ?_
          refine q_goto (tgt := 18) C dX11_unlike_50 (by decide) ?_
          refine q_sub [0, 1, 2, 3, 4, 5, 6, 7] rfl ?_
          exact ih _ _ _ h
def fX11_unlike_59_60_L6 (n : Nat) (y1 : Int32) (y3 : Int32) (kk : Int32 → TS → Option (Int32 × TS)) : Nat → Int32 → Int32 → TS → Option (Int32 × TS)
  | 0, _, _, _ => none
  | fuel + 1, x4, x5, T => if y3 ≤ x5 then kk x4 T else fX11_unlike_59_60_L18 n y1 y3 x4 x5 (fun e6_1 T_2 => if e6_1 = 0 then nm (x4 + (1 : Int32)) (fun x4_3 => fX11_unlike_59_60_L6 n y1 y3 kk fuel x4_3 (x5 + 1) T_2) else nm (x4 + (0 : Int32)) (fun x4_4 => fX11_unlike_59_60_L6 n y1 y3 kk fuel x4_4 (x5 + 1) T_2)) n (0 : Int32) (0 : Int32) T
set_option maxHeartbeats 4000000 in
set_option maxRecDepth 100000 in
theorem lpX11_unlike_59_60_L6 {l : Launch} {k : KT} {n : Nat} {y1 : Int32} {y3 : Int32} {kk : Int32 → TS → Option (Int32 × TS)} {r : Int32} {T' : TS} (C : CX l k 8 cX11_unlike RX11 wsX11_unlike 0 (some .int) (some (.int r), T')) (hk : ∀ e4 T1, kk e4 T1 = some (r, T') → GW k T1 74 [(4, .int e4)] []) : ∀ (fuel : Nat) (x4 : Int32) (x5 : Int32) (T : TS), fX11_unlike_59_60_L6 n y1 y3 kk fuel x4 x5 T = some (r, T') → GW k T 6 [(0, .ref (ad k.1 59)), (1, .int y1), (2, .ref (ad k.1 60)), (3, .int y3), (4, .int x4), (5, .int x5)] [] := by
  intro fuel
  induction fuel with
  | zero => intro x4 x5 T h; cases h
  | succ fuel ih =>
    intro x4 x5 T h
    rw [fX11_unlike_59_60_L6] at h
    refine q_iload C dX11_unlike_6 5 rfl ?_
    refine q_iload_n C dX11_unlike_8 rfl 3 rfl ?_
    refine q_icmp_ge (tgt := 74) C dX11_unlike_9 (by decide) h (fun c h => ?_) (fun c h => ?_)
    · refine q_sub [4] rfl ?_
      exact hk _ _ h
    · refine q_iconst (v := 0) C dX11_unlike_12 (by decide) ?_
      refine q_istore (lv' := [(0, .ref (ad k.1 59)), (1, .int y1), (2, .ref (ad k.1 60)), (3, .int y3), (4, .int x4), (5, .int x5), (6, .int (0 : Int32))]) C dX11_unlike_13 (by decide) rfl ?_
      refine q_iconst (v := 0) C dX11_unlike_15 (by decide) ?_
      refine q_istore (lv' := [(0, .ref (ad k.1 59)), (1, .int y1), (2, .ref (ad k.1 60)), (3, .int y3), (4, .int x4), (5, .int x5), (6, .int (0 : Int32)), (7, .int (0 : Int32))]) C dX11_unlike_16 (by decide) rfl ?_
      refine q_sub [0, 1, 2, 3, 4, 5, 6, 7] rfl ?_
      refine lpX11_unlike_59_60_L18 C (fun e6_1 T_2 h => ?_) _ _ _ _ h
      refine q_iload C dX11_unlike_53 4 rfl ?_
      refine q_iload C dX11_unlike_55 6 rfl ?_
      refine q_if_eq (tgt := 64) C dX11_unlike_57 (by decide) h (fun c h => ?_) (fun c h => ?_)
      · refine q_iconst (v := 1) C dX11_unlike_64 (by decide) ?_
        refine q_iadd C dX11_unlike_65 ?_
        refine q_nm h (fun x4_3 h => ?_)
        refine q_istore (lv' := [(0, .ref (ad k.1 59)), (1, .int y1), (2, .ref (ad k.1 60)), (3, .int y3), (4, .int x4_3), (5, .int x5), (6, .int e6_1)]) C dX11_unlike_66 (by decide) rfl ?_
        refine q_iinc (j := 5) (v := 1) (lv' := [(0, .ref (ad k.1 59)), (1, .int y1), (2, .ref (ad k.1 60)), (3, .int y3), (4, .int x4_3), (5, .int (x5 + 1)), (6, .int e6_1)]) C dX11_unlike_68 rfl (by decide) (by decide) rfl ?_
        refine q_goto (tgt := 6) C dX11_unlike_71 (by decide) ?_
        refine q_sub [0, 1, 2, 3, 4, 5] rfl ?_
        exact ih _ _ _ h
      · refine q_iconst (v := 0) C dX11_unlike_60 (by decide) ?_
        refine q_goto (tgt := 65) C dX11_unlike_61 (by decide) ?_
        refine q_iadd C dX11_unlike_65 ?_
        refine q_nm h (fun x4_4 h => ?_)
        refine q_istore (lv' := [(0, .ref (ad k.1 59)), (1, .int y1), (2, .ref (ad k.1 60)), (3, .int y3), (4, .int x4_4), (5, .int x5), (6, .int e6_1)]) C dX11_unlike_66 (by decide) rfl ?_
        refine q_iinc (j := 5) (v := 1) (lv' := [(0, .ref (ad k.1 59)), (1, .int y1), (2, .ref (ad k.1 60)), (3, .int y3), (4, .int x4_4), (5, .int (x5 + 1)), (6, .int e6_1)]) C dX11_unlike_68 rfl (by decide) (by decide) rfl ?_
        refine q_goto (tgt := 6) C dX11_unlike_71 (by decide) ?_
        refine q_sub [0, 1, 2, 3, 4, 5] rfl ?_
        exact ih _ _ _ h
def fX11_unlike_59_60 (n : Nat) (p1 : Int32) (p3 : Int32) (T : TS) : Option (Int32 × TS) := fX11_unlike_59_60_L6 n p1 p3 (fun e4_5 T_6 => some (e4_5, T_6)) n (0 : Int32) (0 : Int32) T
set_option maxHeartbeats 4000000 in
set_option maxRecDepth 100000 in
theorem mtX11_unlike_59_60 (l : Launch) (X : XT) (n : Nat) (p1 : Int32) (p3 : Int32) (T T' : TS) (r : Int32) (h : fX11_unlike_59_60 n p1 p3 T = some (r, T')) : Met l yX11_unlike wsX11_unlike (RM 0) (PreX X [.ref (ad X 59), .int p1, .ref (ad X 60), .int p3] T) (QQ X (some (.int r)) T') 0 0 (xA X) := by
  refine q_start (by decide) rfl (Nat.le_of_ble_eq_true rfl) ?_
  intro k hk C
  subst hk
  show GW k T 0 [(0, .ref (ad k.1 59)), (1, .int p1), (2, .ref (ad k.1 60)), (3, .int p3)] []
  unfold fX11_unlike_59_60 at h
  refine q_iconst (v := 0) C dX11_unlike_0 (by decide) ?_
  refine q_istore (lv' := [(0, .ref (ad k.1 59)), (1, .int p1), (2, .ref (ad k.1 60)), (3, .int p3), (4, .int (0 : Int32))]) C dX11_unlike_1 (by decide) rfl ?_
  refine q_iconst (v := 0) C dX11_unlike_3 (by decide) ?_
  refine q_istore (lv' := [(0, .ref (ad k.1 59)), (1, .int p1), (2, .ref (ad k.1 60)), (3, .int p3), (4, .int (0 : Int32)), (5, .int (0 : Int32))]) C dX11_unlike_4 (by decide) rfl ?_
  refine q_sub [0, 1, 2, 3, 4, 5] rfl ?_
  refine lpX11_unlike_59_60_L6 C (fun e4_5 T_6 h => ?_) _ _ _ _ h
  refine q_iload C dX11_unlike_74 0 rfl ?_
  exact q_ireturn C dX11_unlike_76 h
def fX11_unlike_58_60_L18 (n : Nat) (y1 : Int32) (y3 : Int32) (y4 : Int32) (y5 : Int32) (kk : Int32 → TS → Option (Int32 × TS)) : Nat → Int32 → Int32 → TS → Option (Int32 × TS)
  | 0, _, _, _ => none
  | fuel + 1, x6, x7, T => if y1 ≤ x7 then kk x6 T else if ¬ x6 = 0 then fX11_unlike_58_60_L18 n y1 y3 y4 y5 kk fuel (1 : Int32) (x7 + 1) T else ck x7 21 (ck y5 21 (if ¬ (gA T 58 (Int32.toNatClampNeg x7)) = (gA T 60 (Int32.toNatClampNeg y5)) then fX11_unlike_58_60_L18 n y1 y3 y4 y5 kk fuel (0 : Int32) (x7 + 1) T else fX11_unlike_58_60_L18 n y1 y3 y4 y5 kk fuel (1 : Int32) (x7 + 1) T))
set_option maxHeartbeats 4000000 in
set_option maxRecDepth 100000 in
theorem lpX11_unlike_58_60_L18 {l : Launch} {k : KT} {n : Nat} {y1 : Int32} {y3 : Int32} {y4 : Int32} {y5 : Int32} {kk : Int32 → TS → Option (Int32 × TS)} {r : Int32} {T' : TS} (C : CX l k 8 cX11_unlike RX11 wsX11_unlike 0 (some .int) (some (.int r), T')) (hk : ∀ e6 T1, kk e6 T1 = some (r, T') → GW k T1 53 [(0, .ref (ad k.1 58)), (1, .int y1), (2, .ref (ad k.1 60)), (3, .int y3), (4, .int y4), (5, .int y5), (6, .int e6)] []) : ∀ (fuel : Nat) (x6 : Int32) (x7 : Int32) (T : TS), fX11_unlike_58_60_L18 n y1 y3 y4 y5 kk fuel x6 x7 T = some (r, T') → GW k T 18 [(0, .ref (ad k.1 58)), (1, .int y1), (2, .ref (ad k.1 60)), (3, .int y3), (4, .int y4), (5, .int y5), (6, .int x6), (7, .int x7)] [] := by
  intro fuel
  induction fuel with
  | zero => intro x6 x7 T h; cases h
  | succ fuel ih =>
    intro x6 x7 T h
    rw [fX11_unlike_58_60_L18] at h
    refine q_iload C dX11_unlike_18 7 rfl ?_
    refine q_iload_n C dX11_unlike_20 rfl 1 rfl ?_
    refine q_icmp_ge (tgt := 53) C dX11_unlike_21 (by decide) h (fun c h => ?_) (fun c h => ?_)
    · refine q_sub [0, 1, 2, 3, 4, 5, 6] rfl ?_
      exact hk _ _ h
    · refine q_iload C dX11_unlike_24 6 rfl ?_
      refine q_if_ne (tgt := 40) C dX11_unlike_26 (by decide) h (fun c h => ?_) (fun c h => ?_)
      · refine q_iconst (v := 1) C dX11_unlike_40 (by decide) ?_
        refine q_goto (tgt := 45) C dX11_unlike_41 (by decide) ?_
        refine q_istore (lv' := [(0, .ref (ad k.1 58)), (1, .int y1), (2, .ref (ad k.1 60)), (3, .int y3), (4, .int y4), (5, .int y5), (6, .int (1 : Int32)), (7, .int x7)]) C dX11_unlike_45 (by decide) rfl ?_
        refine q_iinc (j := 7) (v := 1) (lv' := [(0, .ref (ad k.1 58)), (1, .int y1), (2, .ref (ad k.1 60)), (3, .int y3), (4, .int y4), (5, .int y5), (6, .int (1 : Int32)), (7, .int (x7 + 1))]) C dX11_unlike_47 rfl (by decide) (by decide) rfl ?_
        refine q_goto (tgt := 18) C dX11_unlike_50 (by decide) ?_
        refine q_sub [0, 1, 2, 3, 4, 5, 6, 7] rfl ?_
        exact ih _ _ _ h
      · refine q_aload_n C dX11_unlike_29 rfl 0 rfl ?_
        refine q_iload C dX11_unlike_30 7 rfl ?_
        refine q_iald C dX11_unlike_32 (wE_58 _ _) h (fun h => ?_)
        refine q_aload_n C dX11_unlike_33 rfl 2 rfl ?_
        refine q_iload C dX11_unlike_34 5 rfl ?_
        refine q_iald C dX11_unlike_36 (wE_60 _ _) h (fun h => ?_)
        refine q_icmp_ne (tgt := 44) C dX11_unlike_37 (by decide) h (fun c h => ?_) (fun c h => ?_)
        · refine q_iconst (v := 0) C dX11_unlike_44 (by decide) ?_
          refine q_istore (lv' := [(0, .ref (ad k.1 58)), (1, .int y1), (2, .ref (ad k.1 60)), (3, .int y3), (4, .int y4), (5, .int y5), (6, .int (0 : Int32)), (7, .int x7)]) C dX11_unlike_45 (by decide) rfl ?_
          refine q_iinc (j := 7) (v := 1) (lv' := [(0, .ref (ad k.1 58)), (1, .int y1), (2, .ref (ad k.1 60)), (3, .int y3), (4, .int y4), (5, .int y5), (6, .int (0 : Int32)), (7, .int (x7 + 1))]) C dX11_unlike_47 rfl (by decide) (by decide) rfl ?_
          refine q_goto (tgt := 18) C dX11_unlike_50 (by decide) ?_
          refine q_sub [0, 1, 2, 3, 4, 5, 6, 7] rfl ?_
          exact ih _ _ _ h
        · refine q_iconst (v := 1) C dX11_unlike_40 (by decide) ?_
          refine q_goto (tgt := 45) C dX11_unlike_41 (by decide) ?_
          refine q_istore (lv' := [(0, .ref (ad k.1 58)), (1, .int y1), (2, .ref (ad k.1 60)), (3, .int y3), (4, .int y4), (5, .int y5), (6, .int (1 : Int32)), (7, .int x7)]) C dX11_unlike_45 (by decide) rfl ?_
          refine q_iinc (j := 7) (v := 1) (lv' := [(0, .ref (ad k.1 58)), (1, .int y1), (2, .ref (ad k.1 60)), (3, .int y3), (4, .int y4), (5, .int y5), (6, .int (1 : Int32)), (7, .int (x7 + 1))]) C dX11_unlike_47 rfl (by decide) (by decide) rfl ?_
          refine q_goto (tgt := 18) C dX11_unlike_50 (by decide) ?_
          refine q_sub [0, 1, 2, 3, 4, 5, 6, 7] rfl ?_
          exact ih _ _ _ h
def fX11_unlike_58_60_L6 (n : Nat) (y1 : Int32) (y3 : Int32) (kk : Int32 → TS → Option (Int32 × TS)) : Nat → Int32 → Int32 → TS → Option (Int32 × TS)
  | 0, _, _, _ => none
  | fuel + 1, x4, x5, T => if y3 ≤ x5 then kk x4 T else fX11_unlike_58_60_L18 n y1 y3 x4 x5 (fun e6_1 T_2 => if e6_1 = 0 then nm (x4 + (1 : Int32)) (fun x4_3 => fX11_unlike_58_60_L6 n y1 y3 kk fuel x4_3 (x5 + 1) T_2) else nm (x4 + (0 : Int32)) (fun x4_4 => fX11_unlike_58_60_L6 n y1 y3 kk fuel x4_4 (x5 + 1) T_2)) n (0 : Int32) (0 : Int32) T
set_option maxHeartbeats 4000000 in
set_option maxRecDepth 100000 in
theorem lpX11_unlike_58_60_L6 {l : Launch} {k : KT} {n : Nat} {y1 : Int32} {y3 : Int32} {kk : Int32 → TS → Option (Int32 × TS)} {r : Int32} {T' : TS} (C : CX l k 8 cX11_unlike RX11 wsX11_unlike 0 (some .int) (some (.int r), T')) (hk : ∀ e4 T1, kk e4 T1 = some (r, T') → GW k T1 74 [(4, .int e4)] []) : ∀ (fuel : Nat) (x4 : Int32) (x5 : Int32) (T : TS), fX11_unlike_58_60_L6 n y1 y3 kk fuel x4 x5 T = some (r, T') → GW k T 6 [(0, .ref (ad k.1 58)), (1, .int y1), (2, .ref (ad k.1 60)), (3, .int y3), (4, .int x4), (5, .int x5)] [] := by
  intro fuel
  induction fuel with
  | zero => intro x4 x5 T h; cases h
  | succ fuel ih =>
    intro x4 x5 T h
    rw [fX11_unlike_58_60_L6] at h
    refine q_iload C dX11_unlike_6 5 rfl ?_
    refine q_iload_n C dX11_unlike_8 rfl 3 rfl ?_
    refine q_icmp_ge (tgt := 74) C dX11_unlike_9 (by decide) h (fun c h => ?_) (fun c h => ?_)
    · refine q_sub [4] rfl ?_
      exact hk _ _ h
    · refine q_iconst (v := 0) C dX11_unlike_12 (by decide) ?_
      refine q_istore (lv' := [(0, .ref (ad k.1 58)), (1, .int y1), (2, .ref (ad k.1 60)), (3, .int y3), (4, .int x4), (5, .int x5), (6, .int (0 : Int32))]) C dX11_unlike_13 (by decide) rfl ?_
      refine q_iconst (v := 0) C dX11_unlike_15 (by decide) ?_
      refine q_istore (lv' := [(0, .ref (ad k.1 58)), (1, .int y1), (2, .ref (ad k.1 60)), (3, .int y3), (4, .int x4), (5, .int x5), (6, .int (0 : Int32)), (7, .int (0 : Int32))]) C dX11_unlike_16 (by decide) rfl ?_
      refine q_sub [0, 1, 2, 3, 4, 5, 6, 7] rfl ?_
      refine lpX11_unlike_58_60_L18 C (fun e6_1 T_2 h => ?_) _ _ _ _ h
      refine q_iload C dX11_unlike_53 4 rfl ?_
      refine q_iload C dX11_unlike_55 6 rfl ?_
      refine q_if_eq (tgt := 64) C dX11_unlike_57 (by decide) h (fun c h => ?_) (fun c h => ?_)
      · refine q_iconst (v := 1) C dX11_unlike_64 (by decide) ?_
        refine q_iadd C dX11_unlike_65 ?_
        refine q_nm h (fun x4_3 h => ?_)
        refine q_istore (lv' := [(0, .ref (ad k.1 58)), (1, .int y1), (2, .ref (ad k.1 60)), (3, .int y3), (4, .int x4_3), (5, .int x5), (6, .int e6_1)]) C dX11_unlike_66 (by decide) rfl ?_
        refine q_iinc (j := 5) (v := 1) (lv' := [(0, .ref (ad k.1 58)), (1, .int y1), (2, .ref (ad k.1 60)), (3, .int y3), (4, .int x4_3), (5, .int (x5 + 1)), (6, .int e6_1)]) C dX11_unlike_68 rfl (by decide) (by decide) rfl ?_
        refine q_goto (tgt := 6) C dX11_unlike_71 (by decide) ?_
        refine q_sub [0, 1, 2, 3, 4, 5] rfl ?_
        exact ih _ _ _ h
      · refine q_iconst (v := 0) C dX11_unlike_60 (by decide) ?_
        refine q_goto (tgt := 65) C dX11_unlike_61 (by decide) ?_
        refine q_iadd C dX11_unlike_65 ?_
        refine q_nm h (fun x4_4 h => ?_)
        refine q_istore (lv' := [(0, .ref (ad k.1 58)), (1, .int y1), (2, .ref (ad k.1 60)), (3, .int y3), (4, .int x4_4), (5, .int x5), (6, .int e6_1)]) C dX11_unlike_66 (by decide) rfl ?_
        refine q_iinc (j := 5) (v := 1) (lv' := [(0, .ref (ad k.1 58)), (1, .int y1), (2, .ref (ad k.1 60)), (3, .int y3), (4, .int x4_4), (5, .int (x5 + 1)), (6, .int e6_1)]) C dX11_unlike_68 rfl (by decide) (by decide) rfl ?_
        refine q_goto (tgt := 6) C dX11_unlike_71 (by decide) ?_
        refine q_sub [0, 1, 2, 3, 4, 5] rfl ?_
        exact ih _ _ _ h
def fX11_unlike_58_60 (n : Nat) (p1 : Int32) (p3 : Int32) (T : TS) : Option (Int32 × TS) := fX11_unlike_58_60_L6 n p1 p3 (fun e4_5 T_6 => some (e4_5, T_6)) n (0 : Int32) (0 : Int32) T
set_option maxHeartbeats 4000000 in
set_option maxRecDepth 100000 in
theorem mtX11_unlike_58_60 (l : Launch) (X : XT) (n : Nat) (p1 : Int32) (p3 : Int32) (T T' : TS) (r : Int32) (h : fX11_unlike_58_60 n p1 p3 T = some (r, T')) : Met l yX11_unlike wsX11_unlike (RM 0) (PreX X [.ref (ad X 58), .int p1, .ref (ad X 60), .int p3] T) (QQ X (some (.int r)) T') 0 0 (xA X) := by
  refine q_start (by decide) rfl (Nat.le_of_ble_eq_true rfl) ?_
  intro k hk C
  subst hk
  show GW k T 0 [(0, .ref (ad k.1 58)), (1, .int p1), (2, .ref (ad k.1 60)), (3, .int p3)] []
  unfold fX11_unlike_58_60 at h
  refine q_iconst (v := 0) C dX11_unlike_0 (by decide) ?_
  refine q_istore (lv' := [(0, .ref (ad k.1 58)), (1, .int p1), (2, .ref (ad k.1 60)), (3, .int p3), (4, .int (0 : Int32))]) C dX11_unlike_1 (by decide) rfl ?_
  refine q_iconst (v := 0) C dX11_unlike_3 (by decide) ?_
  refine q_istore (lv' := [(0, .ref (ad k.1 58)), (1, .int p1), (2, .ref (ad k.1 60)), (3, .int p3), (4, .int (0 : Int32)), (5, .int (0 : Int32))]) C dX11_unlike_4 (by decide) rfl ?_
  refine q_sub [0, 1, 2, 3, 4, 5] rfl ?_
  refine lpX11_unlike_58_60_L6 C (fun e4_5 T_6 h => ?_) _ _ _ _ h
  refine q_iload C dX11_unlike_74 0 rfl ?_
  exact q_ireturn C dX11_unlike_76 h
def fX11_moves (n : Nat) (p0 : Int32) (p1 : Int32) (T : TS) : Option (Int32 × TS) := ck p1 60 (bd (fX11_cutsOf_60 n (gO T 48 (Int32.toNatClampNeg p1)) T) (fun r_2 T_1 => if ¬ p0 = (-1 : Int32) then ck p0 60 (bd (fX11_cutsOf_59 n (gO T_1 48 (Int32.toNatClampNeg p0)) T_1) (fun r_4 T_3 => bd (fX11_unlike_59_60 n r_4 r_2 T_3) (fun r_6 T_5 => some (r_6, T_5)))) else bd (fX11_unlike_58_60 n (gI T_1 2083) r_2 T_1) (fun r_8 T_7 => some (r_8, T_7))))
set_option maxHeartbeats 4000000 in
set_option maxRecDepth 100000 in
theorem mtX11_moves (l : Launch) (X : XT) (n : Nat) (p0 : Int32) (p1 : Int32) (T T' : TS) (r : Int32) (h : fX11_moves n p0 p1 T = some (r, T')) : Met l yX11_moves wsX11_moves (RM 1) (PreX X [.ref (ad X 41), .int p0, .int p1] T) (QQ X (some (.int r)) T') 0 0 (xA X) := by
  refine q_start (by decide) rfl (Nat.le_of_ble_eq_true rfl) ?_
  intro k hk C
  subst hk
  show GW k T 0 [(0, .ref (ad k.1 41)), (1, .int p0), (2, .int p1)] []
  unfold fX11_moves at h
  refine q_aload_n C dX11_moves_0 rfl 0 rfl ?_
  refine q_aload_n C dX11_moves_1 rfl 0 rfl ?_
  refine q_get (j := 18) C dX11_moves_2 (wE_41 _ _) rfl (by decide) rfl inn_X11_moves_11 (by decide +kernel) rfl ?_
  refine q_iload_n C dX11_moves_5 rfl 2 rfl ?_
  refine q_aald C dX11_moves_6 (wE_48 _ _) h (fun h => ?_)
  refine q_aload_n C dX11_moves_7 rfl 0 rfl ?_
  refine q_get (j := 35) C dX11_moves_8 (wE_41 _ _) rfl (by decide) rfl inn_X11_moves_11 (by decide +kernel) rfl ?_
  obtain ⟨r_2, T_1, hc, h⟩ := bd_some h
  refine q_callV (st' := [.int r_2]) C dX11_moves_11 [.ref (ad k.1 (gO T 48 (Int32.toNatClampNeg p1))), .ref (ad k.1 60)] [] (mtX11_cutsOf_60 l _ n _ _ _ _ hc) gX11_moves_X11_cutsOf rfl hd_X11_cutsOf (by decide) (by decide) (wE_41 _ _) rfl rfl rfl (Nat.le_of_ble_eq_true rfl) rfl ?_
  clear hc
  refine q_istore_n (lv' := [(0, .ref (ad k.1 41)), (1, .int p0), (2, .int p1), (3, .int r_2)]) C dX11_moves_14 rfl (by decide) rfl ?_
  refine q_iload_n C dX11_moves_15 rfl 1 rfl ?_
  refine q_iconst (v := -1) C dX11_moves_16 (by decide) ?_
  refine q_icmp_ne (tgt := 37) C dX11_moves_17 (by decide) h (fun c h => ?_) (fun c h => ?_)
  · refine q_aload_n C dX11_moves_37 rfl 0 rfl ?_
    refine q_aload_n C dX11_moves_38 rfl 0 rfl ?_
    refine q_get (j := 18) C dX11_moves_39 (wE_41 _ _) rfl (by decide) rfl inn_X11_moves_11 (by decide +kernel) rfl ?_
    refine q_iload_n C dX11_moves_42 rfl 1 rfl ?_
    refine q_aald C dX11_moves_43 (wE_48 _ _) h (fun h => ?_)
    refine q_aload_n C dX11_moves_44 rfl 0 rfl ?_
    refine q_get (j := 34) C dX11_moves_45 (wE_41 _ _) rfl (by decide) rfl inn_X11_moves_11 (by decide +kernel) rfl ?_
    obtain ⟨r_4, T_3, hc, h⟩ := bd_some h
    refine q_callV (st' := [.int r_4]) C dX11_moves_48 [.ref (ad k.1 (gO T_1 48 (Int32.toNatClampNeg p0))), .ref (ad k.1 59)] [] (mtX11_cutsOf_59 l _ n _ _ _ _ hc) gX11_moves_X11_cutsOf rfl hd_X11_cutsOf (by decide) (by decide) (wE_41 _ _) rfl rfl rfl (Nat.le_of_ble_eq_true rfl) rfl ?_
    clear hc
    refine q_istore (lv' := [(0, .ref (ad k.1 41)), (1, .int p0), (2, .int p1), (3, .int r_2), (4, .int r_4)]) C dX11_moves_51 (by decide) rfl ?_
    refine q_aload_n C dX11_moves_53 rfl 0 rfl ?_
    refine q_get (j := 34) C dX11_moves_54 (wE_41 _ _) rfl (by decide) rfl inn_X11_moves_11 (by decide +kernel) rfl ?_
    refine q_iload C dX11_moves_57 4 rfl ?_
    refine q_aload_n C dX11_moves_59 rfl 0 rfl ?_
    refine q_get (j := 35) C dX11_moves_60 (wE_41 _ _) rfl (by decide) rfl inn_X11_moves_11 (by decide +kernel) rfl ?_
    refine q_iload_n C dX11_moves_63 rfl 3 rfl ?_
    obtain ⟨r_6, T_5, hc, h⟩ := bd_some h
    refine q_callS (st' := [.int r_6]) C dX11_moves_64 [.ref (ad k.1 59), .int r_4, .ref (ad k.1 60), .int r_2] [] (mtX11_unlike_59_60 l _ n _ _ _ _ _ hc) gX11_moves_X11_unlike rfl hd_X11_unlike (by decide) (by decide) rfl rfl (Nat.le_of_ble_eq_true rfl) rfl ?_
    clear hc
    exact q_ireturn C dX11_moves_67 h
  · refine q_aload_n C dX11_moves_20 rfl 0 rfl ?_
    refine q_get (j := 32) C dX11_moves_21 (wE_41 _ _) rfl (by decide) rfl inn_X11_moves_11 (by decide +kernel) rfl ?_
    refine q_aload_n C dX11_moves_24 rfl 0 rfl ?_
    refine q_get (j := 33) C dX11_moves_25 (wE_41 _ _) rfl (by decide) rfl inn_X11_moves_11 (by decide +kernel) rfl ?_
    refine q_aload_n C dX11_moves_28 rfl 0 rfl ?_
    refine q_get (j := 35) C dX11_moves_29 (wE_41 _ _) rfl (by decide) rfl inn_X11_moves_11 (by decide +kernel) rfl ?_
    refine q_iload_n C dX11_moves_32 rfl 3 rfl ?_
    obtain ⟨r_8, T_7, hc, h⟩ := bd_some h
    refine q_callS (st' := [.int r_8]) C dX11_moves_33 [.ref (ad k.1 58), .int (gI T_1 2083), .ref (ad k.1 60), .int r_2] [] (mtX11_unlike_58_60 l _ n _ _ _ _ _ hc) gX11_moves_X11_unlike rfl hd_X11_unlike (by decide) (by decide) rfl rfl (Nat.le_of_ble_eq_true rfl) rfl ?_
    clear hc
    exact q_ireturn C dX11_moves_36 h
def fX11_piecesOf_L4 (n : Nat) (y1 : Nat) (kk : Int32 → TS → Option (Int32 × TS)) : Nat → Int32 → Int32 → TS → Option (Int32 × TS)
  | 0, _, _, _ => none
  | fuel + 1, x2, x3, T => if (gI T 2056) ≤ x3 then kk x2 T else ak y1 (ck x3 (al y1) (nm (x2 + (gA T y1 (Int32.toNatClampNeg x3))) (fun x2_1 => fX11_piecesOf_L4 n y1 kk fuel x2_1 (x3 + 1) T)))
set_option maxHeartbeats 4000000 in
set_option maxRecDepth 100000 in
theorem lpX11_piecesOf_L4 {l : Launch} {k : KT} {n : Nat} {y1 : Nat} {kk : Int32 → TS → Option (Int32 × TS)} {r : Int32} {T' : TS} (C : CX l k 4 cX11_piecesOf RX11 wsX11_piecesOf 0 (some .int) (some (.int r), T')) (hk : ∀ e2 T1, kk e2 T1 = some (r, T') → GW k T1 24 [(2, .int e2)] []) : ∀ (fuel : Nat) (x2 : Int32) (x3 : Int32) (T : TS), fX11_piecesOf_L4 n y1 kk fuel x2 x3 T = some (r, T') → GW k T 4 [(0, .ref (ad k.1 41)), (1, .ref (ad k.1 y1)), (2, .int x2), (3, .int x3)] [] := by
  intro fuel
  induction fuel with
  | zero => intro x2 x3 T h; cases h
  | succ fuel ih =>
    intro x2 x3 T h
    rw [fX11_piecesOf_L4] at h
    refine q_iload_n C dX11_piecesOf_4 rfl 3 rfl ?_
    refine q_aload_n C dX11_piecesOf_5 rfl 0 rfl ?_
    refine q_get (j := 6) C dX11_piecesOf_6 (wE_41 _ _) rfl (by decide) rfl inn_X11_piecesOf_11 (by decide +kernel) rfl ?_
    refine q_icmp_ge (tgt := 24) C dX11_piecesOf_9 (by decide) h (fun c h => ?_) (fun c h => ?_)
    · refine q_sub [2] rfl ?_
      exact hk _ _ h
    · refine q_iload_n C dX11_piecesOf_12 rfl 2 rfl ?_
      refine q_aload_n C dX11_piecesOf_13 rfl 1 rfl ?_
      refine q_iload_n C dX11_piecesOf_14 rfl 3 rfl ?_
      refine q_ialdG C dX11_piecesOf_15 h (fun h => ?_)
      refine q_iadd C dX11_piecesOf_16 ?_
      refine q_nm h (fun x2_1 h => ?_)
      refine q_istore_n (lv' := [(0, .ref (ad k.1 41)), (1, .ref (ad k.1 y1)), (2, .int x2_1), (3, .int x3)]) C dX11_piecesOf_17 rfl (by decide) rfl ?_
      refine q_iinc (j := 3) (v := 1) (lv' := [(0, .ref (ad k.1 41)), (1, .ref (ad k.1 y1)), (2, .int x2_1), (3, .int (x3 + 1))]) C dX11_piecesOf_18 rfl (by decide) (by decide) rfl ?_
      refine q_goto (tgt := 4) C dX11_piecesOf_21 (by decide) ?_
      refine q_sub [0, 1, 2, 3] rfl ?_
      exact ih _ _ _ h
def fX11_piecesOf (n : Nat) (q0 : Nat) (T : TS) : Option (Int32 × TS) := fX11_piecesOf_L4 n q0 (fun e2_2 T_3 => some (e2_2, T_3)) n (0 : Int32) (0 : Int32) T
set_option maxHeartbeats 4000000 in
set_option maxRecDepth 100000 in
theorem mtX11_piecesOf (l : Launch) (X : XT) (n : Nat) (q0 : Nat) (T T' : TS) (r : Int32) (h : fX11_piecesOf n q0 T = some (r, T')) : Met l yX11_piecesOf wsX11_piecesOf (RM 0) (PreX X [.ref (ad X 41), .ref (ad X q0)] T) (QQ X (some (.int r)) T') 0 0 (xA X) := by
  refine q_start (by decide) rfl (Nat.le_of_ble_eq_true rfl) ?_
  intro k hk C
  subst hk
  show GW k T 0 [(0, .ref (ad k.1 41)), (1, .ref (ad k.1 q0))] []
  unfold fX11_piecesOf at h
  refine q_iconst (v := 0) C dX11_piecesOf_0 (by decide) ?_
  refine q_istore_n (lv' := [(0, .ref (ad k.1 41)), (1, .ref (ad k.1 q0)), (2, .int (0 : Int32))]) C dX11_piecesOf_1 rfl (by decide) rfl ?_
  refine q_iconst (v := 0) C dX11_piecesOf_2 (by decide) ?_
  refine q_istore_n (lv' := [(0, .ref (ad k.1 41)), (1, .ref (ad k.1 q0)), (2, .int (0 : Int32)), (3, .int (0 : Int32))]) C dX11_piecesOf_3 rfl (by decide) rfl ?_
  refine q_sub [0, 1, 2, 3] rfl ?_
  refine lpX11_piecesOf_L4 C (fun e2_2 T_3 h => ?_) _ _ _ _ h
  refine q_iload_n C dX11_piecesOf_24 rfl 0 rfl ?_
  exact q_ireturn C dX11_piecesOf_25 h
def fX11_slotted (n : Nat) (p0 : Int32) (p1 : Int32) (T : TS) : Option (Int32 × TS) := nm (uI T 2050 (0 : Int32)) (fun T_1 => bd (fX11_isSlot n p0 T_1) (fun r_3 T_2 => if ¬ r_3 = 0 then bd (fX11_isWidth n (p1 - (10 : Int32)) T_2) (fun r_5 T_4 => if r_5 = 0 then if p1 = 0 then ck p0 60 (some ((gA T_4 49 (Int32.toNatClampNeg p0)), T_4)) else if p1 = 1 then ck p0 60 (bd (fX11_sumOf n (gO T_4 48 (Int32.toNatClampNeg p0)) T_4) (fun r_7 T_6 => some (((gI T_4 2051) - r_7), T_6))) else if p1 = 2 then bd (fX11_moves n (p0 - (1 : Int32)) p0 T_4) (fun r_9 T_8 => some (r_9, T_8)) else if p1 = 3 then ck p0 60 (bd (fX11_piecesOf n (gO T_4 48 (Int32.toNatClampNeg p0)) T_4) (fun r_11 T_10 => some (r_11, T_10))) else some ((-1 : Int32), T_4) else ck p0 60 (ak (gO T_4 48 (Int32.toNatClampNeg p0)) (ck (p1 - (10 : Int32)) (al (gO T_4 48 (Int32.toNatClampNeg p0))) (some ((gA T_4 (gO T_4 48 (Int32.toNatClampNeg p0)) (Int32.toNatClampNeg (p1 - (10 : Int32)))), T_4))))) else some ((-1 : Int32), T_2)))
set_option maxHeartbeats 4000000 in
set_option maxRecDepth 100000 in
theorem mtX11_slotted (l : Launch) (X : XT) (n : Nat) (p0 : Int32) (p1 : Int32) (T T' : TS) (r : Int32) (h : fX11_slotted n p0 p1 T = some (r, T')) : Met l yX11_slotted wsX11_slotted (RM 2) (PreX X [.ref (ad X 41), .int p0, .int p1] T) (QQ X (some (.int r)) T') 0 0 (xA X) := by
  refine q_start (by decide) rfl (Nat.le_of_ble_eq_true rfl) ?_
  intro k hk C
  subst hk
  show GW k T 0 [(0, .ref (ad k.1 41)), (1, .int p0), (2, .int p1)] []
  unfold fX11_slotted at h
  refine q_aload_n C dX11_slotted_0 rfl 0 rfl ?_
  refine q_iconst (v := 0) C dX11_slotted_1 (by decide) ?_
  refine q_putI (j := 0) (ty := .int) C dX11_slotted_2 (wE_41 _ _) (wP_41_0 _ _ _) rfl (by decide) (Nat.le_of_ble_eq_true rfl) tyX11 tyX11_ok nmX11 inn_X11_slotted_11 (by decide +kernel) rfl rfl (by decide +kernel) rfl rfl h (fun T_1 h => ?_)
  refine q_aload_n C dX11_slotted_5 rfl 0 rfl ?_
  refine q_iload_n C dX11_slotted_6 rfl 1 rfl ?_
  obtain ⟨r_3, T_2, hc, h⟩ := bd_some h
  refine q_callV (st' := [.int r_3]) C dX11_slotted_7 [.int p0] [] (mtX11_isSlot l _ n _ _ _ _ hc) gX11_slotted_X11_isSlot rfl hd_X11_isSlot (by decide) (by decide) (wE_41 _ _) rfl rfl rfl (Nat.le_of_ble_eq_true rfl) rfl ?_
  clear hc
  refine q_if_ne (tgt := 15) C dX11_slotted_10 (by decide) h (fun c h => ?_) (fun c h => ?_)
  · refine q_aload_n C dX11_slotted_15 rfl 0 rfl ?_
    refine q_iload_n C dX11_slotted_16 rfl 2 rfl ?_
    refine q_bipush (v := 10) C dX11_slotted_17 (by decide) ?_
    refine q_isub C dX11_slotted_19 ?_
    obtain ⟨r_5, T_4, hc, h⟩ := bd_some h
    refine q_callV (st' := [.int r_5]) C dX11_slotted_20 [.int (p1 - (10 : Int32))] [] (mtX11_isWidth l _ n _ _ _ _ hc) gX11_slotted_X11_isWidth rfl hd_X11_isWidth (by decide) (by decide) (wE_41 _ _) rfl rfl rfl (Nat.le_of_ble_eq_true rfl) rfl ?_
    clear hc
    refine q_if_eq (tgt := 38) C dX11_slotted_23 (by decide) h (fun c h => ?_) (fun c h => ?_)
    · refine q_iload_n C dX11_slotted_38 rfl 2 rfl ?_
      refine q_case (v := 0) h (fun e h => ?_) (fun c0 h => ?_)
      · refine q_tswIn (tgt := 68) C dX11_slotted_39 e (by decide) (by decide) (by rfl) (by decide) ?_
        refine q_aload_n C dX11_slotted_68 rfl 0 rfl ?_
        refine q_get (j := 19) C dX11_slotted_69 (wE_41 _ _) rfl (by decide) rfl inn_X11_slotted_11 (by decide +kernel) rfl ?_
        refine q_iload_n C dX11_slotted_72 rfl 1 rfl ?_
        refine q_iald C dX11_slotted_73 (wE_49 _ _) h (fun h => ?_)
        exact q_ireturn C dX11_slotted_74 h
      refine q_case (v := 1) h (fun e h => ?_) (fun c1 h => ?_)
      · refine q_tswIn (tgt := 75) C dX11_slotted_39 e (by decide) (by decide) (by rfl) (by decide) ?_
        refine q_aload_n C dX11_slotted_75 rfl 0 rfl ?_
        refine q_get (j := 1) C dX11_slotted_76 (wE_41 _ _) rfl (by decide) rfl inn_X11_slotted_11 (by decide +kernel) rfl ?_
        refine q_aload_n C dX11_slotted_79 rfl 0 rfl ?_
        refine q_aload_n C dX11_slotted_80 rfl 0 rfl ?_
        refine q_get (j := 18) C dX11_slotted_81 (wE_41 _ _) rfl (by decide) rfl inn_X11_slotted_11 (by decide +kernel) rfl ?_
        refine q_iload_n C dX11_slotted_84 rfl 1 rfl ?_
        refine q_aald C dX11_slotted_85 (wE_48 _ _) h (fun h => ?_)
        obtain ⟨r_7, T_6, hc, h⟩ := bd_some h
        refine q_callV (st' := [.int r_7, .int (gI T_4 2051)]) C dX11_slotted_86 [.ref (ad k.1 (gO T_4 48 (Int32.toNatClampNeg p0)))] [.int (gI T_4 2051)] (mtX11_sumOf l _ n _ _ _ _ hc) gX11_slotted_X11_sumOf rfl hd_X11_sumOf (by decide) (by decide) (wE_41 _ _) rfl rfl rfl (Nat.le_of_ble_eq_true rfl) rfl ?_
        clear hc
        refine q_isub C dX11_slotted_89 ?_
        exact q_ireturn C dX11_slotted_90 h
      refine q_case (v := 2) h (fun e h => ?_) (fun c2 h => ?_)
      · refine q_tswIn (tgt := 91) C dX11_slotted_39 e (by decide) (by decide) (by rfl) (by decide) ?_
        refine q_aload_n C dX11_slotted_91 rfl 0 rfl ?_
        refine q_iload_n C dX11_slotted_92 rfl 1 rfl ?_
        refine q_iconst (v := 1) C dX11_slotted_93 (by decide) ?_
        refine q_isub C dX11_slotted_94 ?_
        refine q_iload_n C dX11_slotted_95 rfl 1 rfl ?_
        obtain ⟨r_9, T_8, hc, h⟩ := bd_some h
        refine q_callV (st' := [.int r_9]) C dX11_slotted_96 [.int (p0 - (1 : Int32)), .int p0] [] (mtX11_moves l _ n _ _ _ _ _ hc) gX11_slotted_X11_moves rfl hd_X11_moves (by decide) (by decide) (wE_41 _ _) rfl rfl rfl (Nat.le_of_ble_eq_true rfl) rfl ?_
        clear hc
        exact q_ireturn C dX11_slotted_99 h
      refine q_case (v := 3) h (fun e h => ?_) (fun c3 h => ?_)
      · refine q_tswIn (tgt := 100) C dX11_slotted_39 e (by decide) (by decide) (by rfl) (by decide) ?_
        refine q_aload_n C dX11_slotted_100 rfl 0 rfl ?_
        refine q_aload_n C dX11_slotted_101 rfl 0 rfl ?_
        refine q_get (j := 18) C dX11_slotted_102 (wE_41 _ _) rfl (by decide) rfl inn_X11_slotted_11 (by decide +kernel) rfl ?_
        refine q_iload_n C dX11_slotted_105 rfl 1 rfl ?_
        refine q_aald C dX11_slotted_106 (wE_48 _ _) h (fun h => ?_)
        obtain ⟨r_11, T_10, hc, h⟩ := bd_some h
        refine q_callV (st' := [.int r_11]) C dX11_slotted_107 [.ref (ad k.1 (gO T_4 48 (Int32.toNatClampNeg p0)))] [] (mtX11_piecesOf l _ n _ _ _ _ hc) gX11_slotted_X11_piecesOf rfl hd_X11_piecesOf (by decide) (by decide) (wE_41 _ _) rfl rfl rfl (Nat.le_of_ble_eq_true rfl) rfl ?_
        clear hc
        exact q_ireturn C dX11_slotted_110 h
      refine q_tswOut (tgt := 111) C dX11_slotted_39 (by have w0 := c0; simp only [show ((0 : Int32)).toInt = 0 from rfl] at c0; simp only [show ((1 : Int32)).toInt = 1 from rfl] at c1; simp only [show ((2 : Int32)).toInt = 2 from rfl] at c2; simp only [show ((3 : Int32)).toInt = 3 from rfl] at c3; omega) (by decide) ?_
      refine q_iconst (v := -1) C dX11_slotted_111 (by decide) ?_
      exact q_ireturn C dX11_slotted_112 h
    · refine q_aload_n C dX11_slotted_26 rfl 0 rfl ?_
      refine q_get (j := 18) C dX11_slotted_27 (wE_41 _ _) rfl (by decide) rfl inn_X11_slotted_11 (by decide +kernel) rfl ?_
      refine q_iload_n C dX11_slotted_30 rfl 1 rfl ?_
      refine q_aald C dX11_slotted_31 (wE_48 _ _) h (fun h => ?_)
      refine q_iload_n C dX11_slotted_32 rfl 2 rfl ?_
      refine q_bipush (v := 10) C dX11_slotted_33 (by decide) ?_
      refine q_isub C dX11_slotted_35 ?_
      refine q_ialdG C dX11_slotted_36 h (fun h => ?_)
      exact q_ireturn C dX11_slotted_37 h
  · refine q_iconst (v := -1) C dX11_slotted_13 (by decide) ?_
    exact q_ireturn C dX11_slotted_14 h
def fX11_plan_L55 (n : Nat) (kk : Int32 → TS → Option (Int32 × TS)) : Nat → Int32 → Int32 → TS → Option (Int32 × TS)
  | 0, _, _, _ => none
  | fuel + 1, x2, x3, T => if (gI T 2067) ≤ x3 then kk x2 T else ck x3 60 (nm (x2 + (gA T 49 (Int32.toNatClampNeg x3))) (fun x2_2 => fX11_plan_L55 n kk fuel x2_2 (x3 + 1) T))
set_option maxHeartbeats 4000000 in
set_option maxRecDepth 100000 in
theorem lpX11_plan_L55 {l : Launch} {k : KT} {n : Nat} {kk : Int32 → TS → Option (Int32 × TS)} {r : Int32} {T' : TS} (C : CX l k 4 cX11_plan RX11 wsX11_plan 2 (some .int) (some (.int r), T')) (hk : ∀ e2 T1, kk e2 T1 = some (r, T') → GW k T1 78 [(2, .int e2)] []) : ∀ (fuel : Nat) (x2 : Int32) (x3 : Int32) (T : TS), fX11_plan_L55 n kk fuel x2 x3 T = some (r, T') → GW k T 55 [(0, .ref (ad k.1 41)), (2, .int x2), (3, .int x3)] [] := by
  intro fuel
  induction fuel with
  | zero => intro x2 x3 T h; cases h
  | succ fuel ih =>
    intro x2 x3 T h
    rw [fX11_plan_L55] at h
    refine q_iload_n C dX11_plan_55 rfl 2 rfl ?_
    refine q_aload_n C dX11_plan_56 rfl 0 rfl ?_
    refine q_get (j := 17) C dX11_plan_57 (wE_41 _ _) rfl (by decide) rfl inn_X11_plan_11 (by decide +kernel) rfl ?_
    refine q_icmp_ge (tgt := 78) C dX11_plan_60 (by decide) h (fun c h => ?_) (fun c h => ?_)
    · refine q_sub [1] rfl ?_
      exact hk _ _ h
    · refine q_iload_n C dX11_plan_63 rfl 1 rfl ?_
      refine q_aload_n C dX11_plan_64 rfl 0 rfl ?_
      refine q_get (j := 19) C dX11_plan_65 (wE_41 _ _) rfl (by decide) rfl inn_X11_plan_11 (by decide +kernel) rfl ?_
      refine q_iload_n C dX11_plan_68 rfl 2 rfl ?_
      refine q_iald C dX11_plan_69 (wE_49 _ _) h (fun h => ?_)
      refine q_iadd C dX11_plan_70 ?_
      refine q_nm h (fun x2_2 h => ?_)
      refine q_istore_n (lv' := [(0, .ref (ad k.1 41)), (2, .int x2_2), (3, .int x3)]) C dX11_plan_71 rfl (by decide) rfl ?_
      refine q_iinc (j := 2) (v := 1) (lv' := [(0, .ref (ad k.1 41)), (2, .int x2_2), (3, .int (x3 + 1))]) C dX11_plan_72 rfl (by decide) (by decide) rfl ?_
      refine q_goto (tgt := 55) C dX11_plan_75 (by decide) ?_
      refine q_sub [0, 1, 2] rfl ?_
      exact ih _ _ _ h
def fX11_plan_L82 (n : Nat) (kk : Int32 → TS → Option (Int32 × TS)) : Nat → Int32 → Int32 → TS → Option (Int32 × TS)
  | 0, _, _, _ => none
  | fuel + 1, x2, x3, T => if (gI T 2067) ≤ x3 then kk x2 T else ck x3 60 (ck x3 60 (bd (fX11_sumOf n (gO T 48 (Int32.toNatClampNeg x3)) T) (fun r_6 T_5 => nm (x2 + ((gA T 49 (Int32.toNatClampNeg x3)) * ((gI T 2051) - r_6))) (fun x2_7 => fX11_plan_L82 n kk fuel x2_7 (x3 + 1) T_5))))
set_option maxHeartbeats 4000000 in
set_option maxRecDepth 100000 in
theorem lpX11_plan_L82 {l : Launch} {k : KT} {n : Nat} {kk : Int32 → TS → Option (Int32 × TS)} {r : Int32} {T' : TS} (C : CX l k 4 cX11_plan RX11 wsX11_plan 2 (some .int) (some (.int r), T')) (hk : ∀ e2 T1, kk e2 T1 = some (r, T') → GW k T1 121 [(2, .int e2)] []) : ∀ (fuel : Nat) (x2 : Int32) (x3 : Int32) (T : TS), fX11_plan_L82 n kk fuel x2 x3 T = some (r, T') → GW k T 82 [(0, .ref (ad k.1 41)), (2, .int x2), (3, .int x3)] [] := by
  intro fuel
  induction fuel with
  | zero => intro x2 x3 T h; cases h
  | succ fuel ih =>
    intro x2 x3 T h
    rw [fX11_plan_L82] at h
    refine q_iload_n C dX11_plan_82 rfl 2 rfl ?_
    refine q_aload_n C dX11_plan_83 rfl 0 rfl ?_
    refine q_get (j := 17) C dX11_plan_84 (wE_41 _ _) rfl (by decide) rfl inn_X11_plan_11 (by decide +kernel) rfl ?_
    refine q_icmp_ge (tgt := 121) C dX11_plan_87 (by decide) h (fun c h => ?_) (fun c h => ?_)
    · refine q_sub [1] rfl ?_
      exact hk _ _ h
    · refine q_iload_n C dX11_plan_90 rfl 1 rfl ?_
      refine q_aload_n C dX11_plan_91 rfl 0 rfl ?_
      refine q_get (j := 19) C dX11_plan_92 (wE_41 _ _) rfl (by decide) rfl inn_X11_plan_11 (by decide +kernel) rfl ?_
      refine q_iload_n C dX11_plan_95 rfl 2 rfl ?_
      refine q_iald C dX11_plan_96 (wE_49 _ _) h (fun h => ?_)
      refine q_aload_n C dX11_plan_97 rfl 0 rfl ?_
      refine q_get (j := 1) C dX11_plan_98 (wE_41 _ _) rfl (by decide) rfl inn_X11_plan_11 (by decide +kernel) rfl ?_
      refine q_aload_n C dX11_plan_101 rfl 0 rfl ?_
      refine q_aload_n C dX11_plan_102 rfl 0 rfl ?_
      refine q_get (j := 18) C dX11_plan_103 (wE_41 _ _) rfl (by decide) rfl inn_X11_plan_11 (by decide +kernel) rfl ?_
      refine q_iload_n C dX11_plan_106 rfl 2 rfl ?_
      refine q_aald C dX11_plan_107 (wE_48 _ _) h (fun h => ?_)
      obtain ⟨r_6, T_5, hc, h⟩ := bd_some h
      refine q_callV (st' := [.int r_6, .int (gI T 2051), .int (gA T 49 (Int32.toNatClampNeg x3)), .int x2]) C dX11_plan_108 [.ref (ad k.1 (gO T 48 (Int32.toNatClampNeg x3)))] [.int (gI T 2051), .int (gA T 49 (Int32.toNatClampNeg x3)), .int x2] (mtX11_sumOf l _ n _ _ _ _ hc) gX11_plan_X11_sumOf rfl hd_X11_sumOf (by decide) (by decide) (wE_41 _ _) rfl rfl rfl (Nat.le_of_ble_eq_true rfl) rfl ?_
      clear hc
      refine q_isub C dX11_plan_111 ?_
      refine q_imul C dX11_plan_112 ?_
      refine q_iadd C dX11_plan_113 ?_
      refine q_nm h (fun x2_7 h => ?_)
      refine q_istore_n (lv' := [(0, .ref (ad k.1 41)), (2, .int x2_7), (3, .int x3)]) C dX11_plan_114 rfl (by decide) rfl ?_
      refine q_iinc (j := 2) (v := 1) (lv' := [(0, .ref (ad k.1 41)), (2, .int x2_7), (3, .int (x3 + 1))]) C dX11_plan_115 rfl (by decide) (by decide) rfl ?_
      refine q_goto (tgt := 82) C dX11_plan_118 (by decide) ?_
      refine q_sub [0, 1, 2] rfl ?_
      exact ih _ _ _ h
def fX11_plan_L125 (n : Nat) (kk : Int32 → TS → Option (Int32 × TS)) : Nat → Int32 → Int32 → TS → Option (Int32 × TS)
  | 0, _, _, _ => none
  | fuel + 1, x2, x3, T => if (gI T 2067) ≤ x3 then kk x2 T else bd (fX11_moves n (x3 - (1 : Int32)) x3 T) (fun r_11 T_10 => nm (x2 + r_11) (fun x2_12 => fX11_plan_L125 n kk fuel x2_12 (x3 + 1) T_10))
set_option maxHeartbeats 4000000 in
set_option maxRecDepth 100000 in
theorem lpX11_plan_L125 {l : Launch} {k : KT} {n : Nat} {kk : Int32 → TS → Option (Int32 × TS)} {r : Int32} {T' : TS} (C : CX l k 4 cX11_plan RX11 wsX11_plan 2 (some .int) (some (.int r), T')) (hk : ∀ e2 T1, kk e2 T1 = some (r, T') → GW k T1 150 [(2, .int e2)] []) : ∀ (fuel : Nat) (x2 : Int32) (x3 : Int32) (T : TS), fX11_plan_L125 n kk fuel x2 x3 T = some (r, T') → GW k T 125 [(0, .ref (ad k.1 41)), (2, .int x2), (3, .int x3)] [] := by
  intro fuel
  induction fuel with
  | zero => intro x2 x3 T h; cases h
  | succ fuel ih =>
    intro x2 x3 T h
    rw [fX11_plan_L125] at h
    refine q_iload_n C dX11_plan_125 rfl 2 rfl ?_
    refine q_aload_n C dX11_plan_126 rfl 0 rfl ?_
    refine q_get (j := 17) C dX11_plan_127 (wE_41 _ _) rfl (by decide) rfl inn_X11_plan_11 (by decide +kernel) rfl ?_
    refine q_icmp_ge (tgt := 150) C dX11_plan_130 (by decide) h (fun c h => ?_) (fun c h => ?_)
    · refine q_sub [1] rfl ?_
      exact hk _ _ h
    · refine q_iload_n C dX11_plan_133 rfl 1 rfl ?_
      refine q_aload_n C dX11_plan_134 rfl 0 rfl ?_
      refine q_iload_n C dX11_plan_135 rfl 2 rfl ?_
      refine q_iconst (v := 1) C dX11_plan_136 (by decide) ?_
      refine q_isub C dX11_plan_137 ?_
      refine q_iload_n C dX11_plan_138 rfl 2 rfl ?_
      obtain ⟨r_11, T_10, hc, h⟩ := bd_some h
      refine q_callV (st' := [.int r_11, .int x2]) C dX11_plan_139 [.int (x3 - (1 : Int32)), .int x3] [.int x2] (mtX11_moves l _ n _ _ _ _ _ hc) gX11_plan_X11_moves rfl hd_X11_moves (by decide) (by decide) (wE_41 _ _) rfl rfl rfl (Nat.le_of_ble_eq_true rfl) rfl ?_
      clear hc
      refine q_iadd C dX11_plan_142 ?_
      refine q_nm h (fun x2_12 h => ?_)
      refine q_istore_n (lv' := [(0, .ref (ad k.1 41)), (2, .int x2_12), (3, .int x3)]) C dX11_plan_143 rfl (by decide) rfl ?_
      refine q_iinc (j := 2) (v := 1) (lv' := [(0, .ref (ad k.1 41)), (2, .int x2_12), (3, .int (x3 + 1))]) C dX11_plan_144 rfl (by decide) (by decide) rfl ?_
      refine q_goto (tgt := 125) C dX11_plan_147 (by decide) ?_
      refine q_sub [0, 1, 2] rfl ?_
      exact ih _ _ _ h
def fX11_plan_L154 (n : Nat) (kk : Int32 → TS → Option (Int32 × TS)) : Nat → Int32 → Int32 → TS → Option (Int32 × TS)
  | 0, _, _, _ => none
  | fuel + 1, x2, x3, T => if (gI T 2056) ≤ x3 then kk x2 T else bd (fX11_wanted n x3 T) (fun r_16 T_15 => bd (fX11_planned n x3 T_15) (fun r_18 T_17 => nm (x2 + (imax (0 : Int32) (r_16 - r_18))) (fun x2_19 => fX11_plan_L154 n kk fuel x2_19 (x3 + 1) T_17)))
set_option maxHeartbeats 4000000 in
set_option maxRecDepth 100000 in
theorem lpX11_plan_L154 {l : Launch} {k : KT} {n : Nat} {kk : Int32 → TS → Option (Int32 × TS)} {r : Int32} {T' : TS} (C : CX l k 4 cX11_plan RX11 wsX11_plan 2 (some .int) (some (.int r), T')) (hk : ∀ e2 T1, kk e2 T1 = some (r, T') → GW k T1 186 [(2, .int e2)] []) : ∀ (fuel : Nat) (x2 : Int32) (x3 : Int32) (T : TS), fX11_plan_L154 n kk fuel x2 x3 T = some (r, T') → GW k T 154 [(0, .ref (ad k.1 41)), (2, .int x2), (3, .int x3)] [] := by
  intro fuel
  induction fuel with
  | zero => intro x2 x3 T h; cases h
  | succ fuel ih =>
    intro x2 x3 T h
    rw [fX11_plan_L154] at h
    refine q_iload_n C dX11_plan_154 rfl 2 rfl ?_
    refine q_aload_n C dX11_plan_155 rfl 0 rfl ?_
    refine q_get (j := 6) C dX11_plan_156 (wE_41 _ _) rfl (by decide) rfl inn_X11_plan_11 (by decide +kernel) rfl ?_
    refine q_icmp_ge (tgt := 186) C dX11_plan_159 (by decide) h (fun c h => ?_) (fun c h => ?_)
    · refine q_sub [1] rfl ?_
      exact hk _ _ h
    · refine q_iload_n C dX11_plan_162 rfl 1 rfl ?_
      refine q_iconst (v := 0) C dX11_plan_163 (by decide) ?_
      refine q_aload_n C dX11_plan_164 rfl 0 rfl ?_
      refine q_iload_n C dX11_plan_165 rfl 2 rfl ?_
      obtain ⟨r_16, T_15, hc, h⟩ := bd_some h
      refine q_callV (st' := [.int r_16, .int (0 : Int32), .int x2]) C dX11_plan_166 [.int x3] [.int (0 : Int32), .int x2] (mtX11_wanted l _ n _ _ _ _ hc) gX11_plan_X11_wanted rfl hd_X11_wanted (by decide) (by decide) (wE_41 _ _) rfl rfl rfl (Nat.le_of_ble_eq_true rfl) rfl ?_
      clear hc
      refine q_aload_n C dX11_plan_169 rfl 0 rfl ?_
      refine q_iload_n C dX11_plan_170 rfl 2 rfl ?_
      obtain ⟨r_18, T_17, hc, h⟩ := bd_some h
      refine q_callV (st' := [.int r_18, .int r_16, .int (0 : Int32), .int x2]) C dX11_plan_171 [.int x3] [.int r_16, .int (0 : Int32), .int x2] (mtX11_planned l _ n _ _ _ _ hc) gX11_plan_X11_planned rfl hd_X11_planned (by decide) (by decide) (wE_41 _ _) rfl rfl rfl (Nat.le_of_ble_eq_true rfl) rfl ?_
      clear hc
      refine q_isub C dX11_plan_174 ?_
      refine q_mmax C dX11_plan_175 (by decide +kernel) (by decide +kernel) (by decide +kernel) (by decide +kernel) (by decide) (Nat.le_of_ble_eq_true rfl) ?_
      refine q_iadd C dX11_plan_178 ?_
      refine q_nm h (fun x2_19 h => ?_)
      refine q_istore_n (lv' := [(0, .ref (ad k.1 41)), (2, .int x2_19), (3, .int x3)]) C dX11_plan_179 rfl (by decide) rfl ?_
      refine q_iinc (j := 2) (v := 1) (lv' := [(0, .ref (ad k.1 41)), (2, .int x2_19), (3, .int (x3 + 1))]) C dX11_plan_180 rfl (by decide) (by decide) rfl ?_
      refine q_goto (tgt := 154) C dX11_plan_183 (by decide) ?_
      refine q_sub [0, 1, 2] rfl ?_
      exact ih _ _ _ h
def fX11_plan_L190 (n : Nat) (kk : Int32 → TS → Option (Int32 × TS)) : Nat → Int32 → Int32 → TS → Option (Int32 × TS)
  | 0, _, _, _ => none
  | fuel + 1, x2, x3, T => if (gI T 2056) ≤ x3 then kk x2 T else bd (fX11_planned n x3 T) (fun r_23 T_22 => bd (fX11_wanted n x3 T_22) (fun r_25 T_24 => nm (x2 + (imax (0 : Int32) (r_23 - r_25))) (fun x2_26 => fX11_plan_L190 n kk fuel x2_26 (x3 + 1) T_24)))
set_option maxHeartbeats 4000000 in
set_option maxRecDepth 100000 in
theorem lpX11_plan_L190 {l : Launch} {k : KT} {n : Nat} {kk : Int32 → TS → Option (Int32 × TS)} {r : Int32} {T' : TS} (C : CX l k 4 cX11_plan RX11 wsX11_plan 2 (some .int) (some (.int r), T')) (hk : ∀ e2 T1, kk e2 T1 = some (r, T') → GW k T1 222 [(2, .int e2)] []) : ∀ (fuel : Nat) (x2 : Int32) (x3 : Int32) (T : TS), fX11_plan_L190 n kk fuel x2 x3 T = some (r, T') → GW k T 190 [(0, .ref (ad k.1 41)), (2, .int x2), (3, .int x3)] [] := by
  intro fuel
  induction fuel with
  | zero => intro x2 x3 T h; cases h
  | succ fuel ih =>
    intro x2 x3 T h
    rw [fX11_plan_L190] at h
    refine q_iload_n C dX11_plan_190 rfl 2 rfl ?_
    refine q_aload_n C dX11_plan_191 rfl 0 rfl ?_
    refine q_get (j := 6) C dX11_plan_192 (wE_41 _ _) rfl (by decide) rfl inn_X11_plan_11 (by decide +kernel) rfl ?_
    refine q_icmp_ge (tgt := 222) C dX11_plan_195 (by decide) h (fun c h => ?_) (fun c h => ?_)
    · refine q_sub [1] rfl ?_
      exact hk _ _ h
    · refine q_iload_n C dX11_plan_198 rfl 1 rfl ?_
      refine q_iconst (v := 0) C dX11_plan_199 (by decide) ?_
      refine q_aload_n C dX11_plan_200 rfl 0 rfl ?_
      refine q_iload_n C dX11_plan_201 rfl 2 rfl ?_
      obtain ⟨r_23, T_22, hc, h⟩ := bd_some h
      refine q_callV (st' := [.int r_23, .int (0 : Int32), .int x2]) C dX11_plan_202 [.int x3] [.int (0 : Int32), .int x2] (mtX11_planned l _ n _ _ _ _ hc) gX11_plan_X11_planned rfl hd_X11_planned (by decide) (by decide) (wE_41 _ _) rfl rfl rfl (Nat.le_of_ble_eq_true rfl) rfl ?_
      clear hc
      refine q_aload_n C dX11_plan_205 rfl 0 rfl ?_
      refine q_iload_n C dX11_plan_206 rfl 2 rfl ?_
      obtain ⟨r_25, T_24, hc, h⟩ := bd_some h
      refine q_callV (st' := [.int r_25, .int r_23, .int (0 : Int32), .int x2]) C dX11_plan_207 [.int x3] [.int r_23, .int (0 : Int32), .int x2] (mtX11_wanted l _ n _ _ _ _ hc) gX11_plan_X11_wanted rfl hd_X11_wanted (by decide) (by decide) (wE_41 _ _) rfl rfl rfl (Nat.le_of_ble_eq_true rfl) rfl ?_
      clear hc
      refine q_isub C dX11_plan_210 ?_
      refine q_mmax C dX11_plan_211 (by decide +kernel) (by decide +kernel) (by decide +kernel) (by decide +kernel) (by decide) (Nat.le_of_ble_eq_true rfl) ?_
      refine q_iadd C dX11_plan_214 ?_
      refine q_nm h (fun x2_26 h => ?_)
      refine q_istore_n (lv' := [(0, .ref (ad k.1 41)), (2, .int x2_26), (3, .int x3)]) C dX11_plan_215 rfl (by decide) rfl ?_
      refine q_iinc (j := 2) (v := 1) (lv' := [(0, .ref (ad k.1 41)), (2, .int x2_26), (3, .int (x3 + 1))]) C dX11_plan_216 rfl (by decide) (by decide) rfl ?_
      refine q_goto (tgt := 190) C dX11_plan_219 (by decide) ?_
      refine q_sub [0, 1, 2] rfl ?_
      exact ih _ _ _ h
def fX11_plan (n : Nat) (p0 : Int32) (T : TS) : Option (Int32 × TS) := nm (uI T 2050 (0 : Int32)) (fun T_1 => if p0 = 0 then some ((gI T_1 2067), T_1) else if p0 = 1 then fX11_plan_L55 n (fun e2_3 T_4 => some (e2_3, T_4)) n (0 : Int32) (0 : Int32) T_1 else if p0 = 2 then fX11_plan_L82 n (fun e2_8 T_9 => some (e2_8, T_9)) n (0 : Int32) (0 : Int32) T_1 else if p0 = 3 then fX11_plan_L125 n (fun e2_13 T_14 => some (e2_13, T_14)) n (0 : Int32) (0 : Int32) T_1 else if p0 = 4 then fX11_plan_L154 n (fun e2_20 T_21 => some (e2_20, T_21)) n (0 : Int32) (0 : Int32) T_1 else if p0 = 5 then fX11_plan_L190 n (fun e2_27 T_28 => some (e2_27, T_28)) n (0 : Int32) (0 : Int32) T_1 else some ((-1 : Int32), T_1))
set_option maxHeartbeats 4000000 in
set_option maxRecDepth 100000 in
theorem mtX11_plan (l : Launch) (X : XT) (n : Nat) (p0 : Int32) (T T' : TS) (r : Int32) (h : fX11_plan n p0 T = some (r, T')) : Met l yX11_plan wsX11_plan (RM 2) (PreX X [.ref (ad X 41), .int p0] T) (QQ X (some (.int r)) T') 0 0 (xA X) := by
  refine q_start (by decide) rfl (Nat.le_of_ble_eq_true rfl) ?_
  intro k hk C
  subst hk
  show GW k T 0 [(0, .ref (ad k.1 41)), (1, .int p0)] []
  unfold fX11_plan at h
  refine q_aload_n C dX11_plan_0 rfl 0 rfl ?_
  refine q_iconst (v := 0) C dX11_plan_1 (by decide) ?_
  refine q_putI (j := 0) (ty := .int) C dX11_plan_2 (wE_41 _ _) (wP_41_0 _ _ _) rfl (by decide) (Nat.le_of_ble_eq_true rfl) tyX11 tyX11_ok nmX11 inn_X11_plan_11 (by decide +kernel) rfl rfl (by decide +kernel) rfl rfl h (fun T_1 h => ?_)
  refine q_iconst (v := 0) C dX11_plan_5 (by decide) ?_
  refine q_istore_n (lv' := [(0, .ref (ad k.1 41)), (1, .int p0), (2, .int (0 : Int32))]) C dX11_plan_6 rfl (by decide) rfl ?_
  refine q_iload_n C dX11_plan_7 rfl 1 rfl ?_
  refine q_case (v := 0) h (fun e h => ?_) (fun c0 h => ?_)
  · refine q_tswIn (tgt := 48) C dX11_plan_8 e (by decide) (by decide) (by rfl) (by decide) ?_
    refine q_aload_n C dX11_plan_48 rfl 0 rfl ?_
    refine q_get (j := 17) C dX11_plan_49 (wE_41 _ _) rfl (by decide) rfl inn_X11_plan_11 (by decide +kernel) rfl ?_
    exact q_ireturn C dX11_plan_52 h
  refine q_case (v := 1) h (fun e h => ?_) (fun c1 h => ?_)
  · refine q_tswIn (tgt := 53) C dX11_plan_8 e (by decide) (by decide) (by rfl) (by decide) ?_
    refine q_iconst (v := 0) C dX11_plan_53 (by decide) ?_
    refine q_istore_n (lv' := [(0, .ref (ad k.1 41)), (1, .int p0), (2, .int (0 : Int32)), (3, .int (0 : Int32))]) C dX11_plan_54 rfl (by decide) rfl ?_
    refine q_sub [0, 2, 3] rfl ?_
    refine lpX11_plan_L55 C (fun e2_3 T_4 h => ?_) _ _ _ _ h
    refine q_iload_n C dX11_plan_78 rfl 0 rfl ?_
    exact q_ireturn C dX11_plan_79 h
  refine q_case (v := 2) h (fun e h => ?_) (fun c2 h => ?_)
  · refine q_tswIn (tgt := 80) C dX11_plan_8 e (by decide) (by decide) (by rfl) (by decide) ?_
    refine q_iconst (v := 0) C dX11_plan_80 (by decide) ?_
    refine q_istore_n (lv' := [(0, .ref (ad k.1 41)), (1, .int p0), (2, .int (0 : Int32)), (3, .int (0 : Int32))]) C dX11_plan_81 rfl (by decide) rfl ?_
    refine q_sub [0, 2, 3] rfl ?_
    refine lpX11_plan_L82 C (fun e2_8 T_9 h => ?_) _ _ _ _ h
    refine q_iload_n C dX11_plan_121 rfl 0 rfl ?_
    exact q_ireturn C dX11_plan_122 h
  refine q_case (v := 3) h (fun e h => ?_) (fun c3 h => ?_)
  · refine q_tswIn (tgt := 123) C dX11_plan_8 e (by decide) (by decide) (by rfl) (by decide) ?_
    refine q_iconst (v := 0) C dX11_plan_123 (by decide) ?_
    refine q_istore_n (lv' := [(0, .ref (ad k.1 41)), (1, .int p0), (2, .int (0 : Int32)), (3, .int (0 : Int32))]) C dX11_plan_124 rfl (by decide) rfl ?_
    refine q_sub [0, 2, 3] rfl ?_
    refine lpX11_plan_L125 C (fun e2_13 T_14 h => ?_) _ _ _ _ h
    refine q_iload_n C dX11_plan_150 rfl 0 rfl ?_
    exact q_ireturn C dX11_plan_151 h
  refine q_case (v := 4) h (fun e h => ?_) (fun c4 h => ?_)
  · refine q_tswIn (tgt := 152) C dX11_plan_8 e (by decide) (by decide) (by rfl) (by decide) ?_
    refine q_iconst (v := 0) C dX11_plan_152 (by decide) ?_
    refine q_istore_n (lv' := [(0, .ref (ad k.1 41)), (1, .int p0), (2, .int (0 : Int32)), (3, .int (0 : Int32))]) C dX11_plan_153 rfl (by decide) rfl ?_
    refine q_sub [0, 2, 3] rfl ?_
    refine lpX11_plan_L154 C (fun e2_20 T_21 h => ?_) _ _ _ _ h
    refine q_iload_n C dX11_plan_186 rfl 0 rfl ?_
    exact q_ireturn C dX11_plan_187 h
  refine q_case (v := 5) h (fun e h => ?_) (fun c5 h => ?_)
  · refine q_tswIn (tgt := 188) C dX11_plan_8 e (by decide) (by decide) (by rfl) (by decide) ?_
    refine q_iconst (v := 0) C dX11_plan_188 (by decide) ?_
    refine q_istore_n (lv' := [(0, .ref (ad k.1 41)), (1, .int p0), (2, .int (0 : Int32)), (3, .int (0 : Int32))]) C dX11_plan_189 rfl (by decide) rfl ?_
    refine q_sub [0, 2, 3] rfl ?_
    refine lpX11_plan_L190 C (fun e2_27 T_28 h => ?_) _ _ _ _ h
    refine q_iload_n C dX11_plan_222 rfl 0 rfl ?_
    exact q_ireturn C dX11_plan_223 h
  refine q_tswOut (tgt := 224) C dX11_plan_8 (by have w0 := c0; simp only [show ((0 : Int32)).toInt = 0 from rfl] at c0; simp only [show ((1 : Int32)).toInt = 1 from rfl] at c1; simp only [show ((2 : Int32)).toInt = 2 from rfl] at c2; simp only [show ((3 : Int32)).toInt = 3 from rfl] at c3; simp only [show ((4 : Int32)).toInt = 4 from rfl] at c4; simp only [show ((5 : Int32)).toInt = 5 from rfl] at c5; omega) (by decide) ?_
  refine q_iconst (v := -1) C dX11_plan_224 (by decide) ?_
  exact q_ireturn C dX11_plan_225 h
def fX11_lot (n : Nat) (p0 : Int32) (p1 : Int32) (p2 : Int32) (T : TS) : Option (Int32 × TS) := nm (uI T 2050 (0 : Int32)) (fun T_1 => bd (fX11_in n p0 (1 : Int32) (100000 : Int32) T_1) (fun r_3 T_2 => if r_3 = 0 then some ((-1 : Int32), T_2) else bd (fX11_in n p1 (0 : Int32) (1000 : Int32) T_2) (fun r_5 T_4 => if r_5 = 0 then some ((-1 : Int32), T_4) else if ¬ (gI T_4 2087) = (8 : Int32) then ck (gI T_4 2087) 8 (nm (sA T_4 62 (gI T_4 2087) p0) (fun T_6 => ck (gI T_6 2087) 8 (nm (sA T_6 63 (gI T_6 2087) p1) (fun T_7 => ck (gI T_7 2087) 8 (nm (sZ T_7 64 (gI T_7 2087) p2) (fun T_8 => nm (uI T_8 2087 ((gI T_8 2087) + (1 : Int32))) (fun T_9 => some (((gI T_9 2087) - (1 : Int32)), T_9)))))))) else some ((-1 : Int32), T_4))))
set_option maxHeartbeats 4000000 in
set_option maxRecDepth 100000 in
theorem mtX11_lot (l : Launch) (X : XT) (n : Nat) (p0 : Int32) (p1 : Int32) (p2 : Int32) (T T' : TS) (r : Int32) (h : fX11_lot n p0 p1 p2 T = some (r, T')) : Met l yX11_lot wsX11_lot (RM 1) (PreX X [.ref (ad X 41), .int p0, .int p1, .int p2] T) (QQ X (some (.int r)) T') 0 0 (xA X) := by
  refine q_start (by decide) rfl (Nat.le_of_ble_eq_true rfl) ?_
  intro k hk C
  subst hk
  show GW k T 0 [(0, .ref (ad k.1 41)), (1, .int p0), (2, .int p1), (3, .int p2)] []
  unfold fX11_lot at h
  refine q_aload_n C dX11_lot_0 rfl 0 rfl ?_
  refine q_iconst (v := 0) C dX11_lot_1 (by decide) ?_
  refine q_putI (j := 0) (ty := .int) C dX11_lot_2 (wE_41 _ _) (wP_41_0 _ _ _) rfl (by decide) (Nat.le_of_ble_eq_true rfl) tyX11 tyX11_ok nmX11 inn_X11_lot_11 (by decide +kernel) rfl rfl (by decide +kernel) rfl rfl h (fun T_1 h => ?_)
  refine q_iload_n C dX11_lot_5 rfl 1 rfl ?_
  refine q_iconst (v := 1) C dX11_lot_6 (by decide) ?_
  refine q_ldc (v := 100000) C dX11_lot_7 (by decide +kernel) ?_
  obtain ⟨r_3, T_2, hc, h⟩ := bd_some h
  refine q_callS (st' := [.int r_3]) C dX11_lot_9 [.int p0, .int (1 : Int32), .int (100000 : Int32)] [] (mtX11_in l _ n _ _ _ _ _ _ hc) gX11_lot_X11_in rfl hd_X11_in (by decide) (by decide) rfl rfl (Nat.le_of_ble_eq_true rfl) rfl ?_
  clear hc
  refine q_if_eq (tgt := 35) C dX11_lot_12 (by decide) h (fun c h => ?_) (fun c h => ?_)
  · refine q_iconst (v := -1) C dX11_lot_35 (by decide) ?_
    exact q_ireturn C dX11_lot_36 h
  · refine q_iload_n C dX11_lot_15 rfl 2 rfl ?_
    refine q_iconst (v := 0) C dX11_lot_16 (by decide) ?_
    refine q_sipush (v := 1000) C dX11_lot_17 (by decide) ?_
    obtain ⟨r_5, T_4, hc, h⟩ := bd_some h
    refine q_callS (st' := [.int r_5]) C dX11_lot_20 [.int p1, .int (0 : Int32), .int (1000 : Int32)] [] (mtX11_in l _ n _ _ _ _ _ _ hc) gX11_lot_X11_in rfl hd_X11_in (by decide) (by decide) rfl rfl (Nat.le_of_ble_eq_true rfl) rfl ?_
    clear hc
    refine q_if_eq (tgt := 35) C dX11_lot_23 (by decide) h (fun c h => ?_) (fun c h => ?_)
    · refine q_iconst (v := -1) C dX11_lot_35 (by decide) ?_
      exact q_ireturn C dX11_lot_36 h
    · refine q_aload_n C dX11_lot_26 rfl 0 rfl ?_
      refine q_get (j := 37) C dX11_lot_27 (wE_41 _ _) rfl (by decide) rfl inn_X11_lot_11 (by decide +kernel) rfl ?_
      refine q_bipush (v := 8) C dX11_lot_30 (by decide) ?_
      refine q_icmp_ne (tgt := 37) C dX11_lot_32 (by decide) h (fun c h => ?_) (fun c h => ?_)
      · refine q_aload_n C dX11_lot_37 rfl 0 rfl ?_
        refine q_get (j := 38) C dX11_lot_38 (wE_41 _ _) rfl (by decide) rfl inn_X11_lot_11 (by decide +kernel) rfl ?_
        refine q_aload_n C dX11_lot_41 rfl 0 rfl ?_
        refine q_get (j := 37) C dX11_lot_42 (wE_41 _ _) rfl (by decide) rfl inn_X11_lot_11 (by decide +kernel) rfl ?_
        refine q_iload_n C dX11_lot_45 rfl 1 rfl ?_
        refine q_iast C dX11_lot_46 (wE_62 _ _) (wS_62 _ _) h (fun T_6 h => ?_)
        refine q_aload_n C dX11_lot_47 rfl 0 rfl ?_
        refine q_get (j := 39) C dX11_lot_48 (wE_41 _ _) rfl (by decide) rfl inn_X11_lot_11 (by decide +kernel) rfl ?_
        refine q_aload_n C dX11_lot_51 rfl 0 rfl ?_
        refine q_get (j := 37) C dX11_lot_52 (wE_41 _ _) rfl (by decide) rfl inn_X11_lot_11 (by decide +kernel) rfl ?_
        refine q_iload_n C dX11_lot_55 rfl 2 rfl ?_
        refine q_iast C dX11_lot_56 (wE_63 _ _) (wS_63 _ _) h (fun T_7 h => ?_)
        refine q_aload_n C dX11_lot_57 rfl 0 rfl ?_
        refine q_get (j := 40) C dX11_lot_58 (wE_41 _ _) rfl (by decide) rfl inn_X11_lot_11 (by decide +kernel) rfl ?_
        refine q_aload_n C dX11_lot_61 rfl 0 rfl ?_
        refine q_get (j := 37) C dX11_lot_62 (wE_41 _ _) rfl (by decide) rfl inn_X11_lot_11 (by decide +kernel) rfl ?_
        refine q_iload_n C dX11_lot_65 rfl 3 rfl ?_
        refine q_zast C dX11_lot_66 (wE_64 _ _) (wS_64 _ _) h (fun T_8 h => ?_)
        refine q_aload_n C dX11_lot_67 rfl 0 rfl ?_
        refine q_dup C dX11_lot_68 rfl ?_
        refine q_get (j := 37) C dX11_lot_69 (wE_41 _ _) rfl (by decide) rfl inn_X11_lot_11 (by decide +kernel) rfl ?_
        refine q_iconst (v := 1) C dX11_lot_72 (by decide) ?_
        refine q_iadd C dX11_lot_73 ?_
        refine q_putI (j := 37) (ty := .int) C dX11_lot_74 (wE_41 _ _) (wP_41_37 _ _ _) rfl (by decide) (Nat.le_of_ble_eq_true rfl) tyX11 tyX11_ok nmX11 inn_X11_lot_11 (by decide +kernel) rfl rfl (by decide +kernel) rfl rfl h (fun T_9 h => ?_)
        refine q_aload_n C dX11_lot_77 rfl 0 rfl ?_
        refine q_get (j := 37) C dX11_lot_78 (wE_41 _ _) rfl (by decide) rfl inn_X11_lot_11 (by decide +kernel) rfl ?_
        refine q_iconst (v := 1) C dX11_lot_81 (by decide) ?_
        refine q_isub C dX11_lot_82 ?_
        exact q_ireturn C dX11_lot_83 h
      · refine q_iconst (v := -1) C dX11_lot_35 (by decide) ?_
        exact q_ireturn C dX11_lot_36 h
def fX11_lotted (n : Nat) (p0 : Int32) (p1 : Int32) (T : TS) : Option (Int32 × TS) := nm (uI T 2050 (0 : Int32)) (fun T_1 => bd (fX11_in n p0 (0 : Int32) ((gI T_1 2087) - (1 : Int32)) T_1) (fun r_3 T_2 => if ¬ r_3 = 0 then if ¬ p1 = 0 then if ¬ p1 = (1 : Int32) then if ¬ p1 = (2 : Int32) then some ((-1 : Int32), T_2) else ck p0 8 (if (gA T_2 64 (Int32.toNatClampNeg p0)) = 0 then some ((0 : Int32), T_2) else some ((1 : Int32), T_2)) else ck p0 8 (some ((gA T_2 63 (Int32.toNatClampNeg p0)), T_2)) else ck p0 8 (some ((gA T_2 62 (Int32.toNatClampNeg p0)), T_2)) else some ((-1 : Int32), T_2)))
set_option maxHeartbeats 4000000 in
set_option maxRecDepth 100000 in
theorem mtX11_lotted (l : Launch) (X : XT) (n : Nat) (p0 : Int32) (p1 : Int32) (T T' : TS) (r : Int32) (h : fX11_lotted n p0 p1 T = some (r, T')) : Met l yX11_lotted wsX11_lotted (RM 1) (PreX X [.ref (ad X 41), .int p0, .int p1] T) (QQ X (some (.int r)) T') 0 0 (xA X) := by
  refine q_start (by decide) rfl (Nat.le_of_ble_eq_true rfl) ?_
  intro k hk C
  subst hk
  show GW k T 0 [(0, .ref (ad k.1 41)), (1, .int p0), (2, .int p1)] []
  unfold fX11_lotted at h
  refine q_aload_n C dX11_lotted_0 rfl 0 rfl ?_
  refine q_iconst (v := 0) C dX11_lotted_1 (by decide) ?_
  refine q_putI (j := 0) (ty := .int) C dX11_lotted_2 (wE_41 _ _) (wP_41_0 _ _ _) rfl (by decide) (Nat.le_of_ble_eq_true rfl) tyX11 tyX11_ok nmX11 inn_X11_lotted_11 (by decide +kernel) rfl rfl (by decide +kernel) rfl rfl h (fun T_1 h => ?_)
  refine q_iload_n C dX11_lotted_5 rfl 1 rfl ?_
  refine q_iconst (v := 0) C dX11_lotted_6 (by decide) ?_
  refine q_aload_n C dX11_lotted_7 rfl 0 rfl ?_
  refine q_get (j := 37) C dX11_lotted_8 (wE_41 _ _) rfl (by decide) rfl inn_X11_lotted_11 (by decide +kernel) rfl ?_
  refine q_iconst (v := 1) C dX11_lotted_11 (by decide) ?_
  refine q_isub C dX11_lotted_12 ?_
  obtain ⟨r_3, T_2, hc, h⟩ := bd_some h
  refine q_callS (st' := [.int r_3]) C dX11_lotted_13 [.int p0, .int (0 : Int32), .int ((gI T_1 2087) - (1 : Int32))] [] (mtX11_in l _ n _ _ _ _ _ _ hc) gX11_lotted_X11_in rfl hd_X11_in (by decide) (by decide) rfl rfl (Nat.le_of_ble_eq_true rfl) rfl ?_
  clear hc
  refine q_if_ne (tgt := 21) C dX11_lotted_16 (by decide) h (fun c h => ?_) (fun c h => ?_)
  · refine q_iload_n C dX11_lotted_21 rfl 2 rfl ?_
    refine q_if_ne (tgt := 34) C dX11_lotted_22 (by decide) h (fun c h => ?_) (fun c h => ?_)
    · refine q_iload_n C dX11_lotted_34 rfl 2 rfl ?_
      refine q_iconst (v := 1) C dX11_lotted_35 (by decide) ?_
      refine q_icmp_ne (tgt := 48) C dX11_lotted_36 (by decide) h (fun c h => ?_) (fun c h => ?_)
      · refine q_iload_n C dX11_lotted_48 rfl 2 rfl ?_
        refine q_iconst (v := 2) C dX11_lotted_49 (by decide) ?_
        refine q_icmp_ne (tgt := 70) C dX11_lotted_50 (by decide) h (fun c h => ?_) (fun c h => ?_)
        · refine q_iconst (v := -1) C dX11_lotted_70 (by decide) ?_
          exact q_ireturn C dX11_lotted_71 h
        · refine q_aload_n C dX11_lotted_53 rfl 0 rfl ?_
          refine q_get (j := 40) C dX11_lotted_54 (wE_41 _ _) rfl (by decide) rfl inn_X11_lotted_11 (by decide +kernel) rfl ?_
          refine q_iload_n C dX11_lotted_57 rfl 1 rfl ?_
          refine q_zald C dX11_lotted_58 (wE_64 _ _) h (fun h => ?_)
          refine q_if_eq (tgt := 66) C dX11_lotted_59 (by decide) h (fun c h => ?_) (fun c h => ?_)
          · refine q_iconst (v := 0) C dX11_lotted_66 (by decide) ?_
            refine q_goto (tgt := 71) C dX11_lotted_67 (by decide) ?_
            exact q_ireturn C dX11_lotted_71 h
          · refine q_iconst (v := 1) C dX11_lotted_62 (by decide) ?_
            refine q_goto (tgt := 71) C dX11_lotted_63 (by decide) ?_
            exact q_ireturn C dX11_lotted_71 h
      · refine q_aload_n C dX11_lotted_39 rfl 0 rfl ?_
        refine q_get (j := 39) C dX11_lotted_40 (wE_41 _ _) rfl (by decide) rfl inn_X11_lotted_11 (by decide +kernel) rfl ?_
        refine q_iload_n C dX11_lotted_43 rfl 1 rfl ?_
        refine q_iald C dX11_lotted_44 (wE_63 _ _) h (fun h => ?_)
        refine q_goto (tgt := 71) C dX11_lotted_45 (by decide) ?_
        exact q_ireturn C dX11_lotted_71 h
    · refine q_aload_n C dX11_lotted_25 rfl 0 rfl ?_
      refine q_get (j := 38) C dX11_lotted_26 (wE_41 _ _) rfl (by decide) rfl inn_X11_lotted_11 (by decide +kernel) rfl ?_
      refine q_iload_n C dX11_lotted_29 rfl 1 rfl ?_
      refine q_iald C dX11_lotted_30 (wE_62 _ _) h (fun h => ?_)
      refine q_goto (tgt := 71) C dX11_lotted_31 (by decide) ?_
      exact q_ireturn C dX11_lotted_71 h
  · refine q_iconst (v := -1) C dX11_lotted_19 (by decide) ?_
    exact q_ireturn C dX11_lotted_20 h
def fX11_cutsOf_58_L31 (n : Nat) (y1 : Nat) (y5 : Int32) (kk : Int32 → Int32 → TS → Option (Int32 × TS)) : Nat → Int32 → Int32 → Int32 → TS → Option (Int32 × TS)
  | 0, _, _, _, _ => none
  | fuel + 1, x3, x4, x6, T => ak y1 (ck y5 (al y1) (if (gA T y1 (Int32.toNatClampNeg y5)) ≤ x6 then kk x3 x4 T else ck y5 6 (nm (x3 + (gA T 42 (Int32.toNatClampNeg y5))) (fun x3_3 => ck x4 21 (nm (sA T 58 x4 x3_3) (fun T_4 => fX11_cutsOf_58_L31 n y1 y5 kk fuel x3_3 (x4 + 1) (x6 + 1) T_4))))))
set_option maxHeartbeats 4000000 in
set_option maxRecDepth 100000 in
theorem lpX11_cutsOf_58_L31 {l : Launch} {k : KT} {n : Nat} {y1 : Nat} {y5 : Int32} {kk : Int32 → Int32 → TS → Option (Int32 × TS)} {r : Int32} {T' : TS} (C : CX l k 7 cX11_cutsOf RX11 wsX11_cutsOf 0 (some .int) (some (.int r), T')) (hk : ∀ e3 e4 T1, kk e3 e4 T1 = some (r, T') → GW k T1 64 [(0, .ref (ad k.1 41)), (1, .ref (ad k.1 y1)), (2, .ref (ad k.1 58)), (3, .int e3), (4, .int e4), (5, .int y5)] []) : ∀ (fuel : Nat) (x3 : Int32) (x4 : Int32) (x6 : Int32) (T : TS), fX11_cutsOf_58_L31 n y1 y5 kk fuel x3 x4 x6 T = some (r, T') → GW k T 31 [(0, .ref (ad k.1 41)), (1, .ref (ad k.1 y1)), (2, .ref (ad k.1 58)), (3, .int x3), (4, .int x4), (5, .int y5), (6, .int x6)] [] := by
  intro fuel
  induction fuel with
  | zero => intro x3 x4 x6 T h; cases h
  | succ fuel ih =>
    intro x3 x4 x6 T h
    rw [fX11_cutsOf_58_L31] at h
    refine q_iload C dX11_cutsOf_31 6 rfl ?_
    refine q_aload_n C dX11_cutsOf_33 rfl 1 rfl ?_
    refine q_iload C dX11_cutsOf_34 5 rfl ?_
    refine q_ialdG C dX11_cutsOf_36 h (fun h => ?_)
    refine q_icmp_ge (tgt := 64) C dX11_cutsOf_37 (by decide) h (fun c h => ?_) (fun c h => ?_)
    · refine q_sub [0, 1, 2, 3, 4, 5] rfl ?_
      exact hk _ _ _ h
    · refine q_iload_n C dX11_cutsOf_40 rfl 3 rfl ?_
      refine q_aload_n C dX11_cutsOf_41 rfl 0 rfl ?_
      refine q_get (j := 7) C dX11_cutsOf_42 (wE_41 _ _) rfl (by decide) rfl inn_X11_cutsOf_11 (by decide +kernel) rfl ?_
      refine q_iload C dX11_cutsOf_45 5 rfl ?_
      refine q_iald C dX11_cutsOf_47 (wE_42 _ _) h (fun h => ?_)
      refine q_iadd C dX11_cutsOf_48 ?_
      refine q_nm h (fun x3_3 h => ?_)
      refine q_istore_n (lv' := [(0, .ref (ad k.1 41)), (1, .ref (ad k.1 y1)), (2, .ref (ad k.1 58)), (3, .int x3_3), (4, .int x4), (5, .int y5), (6, .int x6)]) C dX11_cutsOf_49 rfl (by decide) rfl ?_
      refine q_aload_n C dX11_cutsOf_50 rfl 2 rfl ?_
      refine q_iload C dX11_cutsOf_51 4 rfl ?_
      refine q_iload_n C dX11_cutsOf_53 rfl 3 rfl ?_
      refine q_iast C dX11_cutsOf_54 (wE_58 _ _) (wS_58 _ _) h (fun T_4 h => ?_)
      refine q_iinc (j := 4) (v := 1) (lv' := [(0, .ref (ad k.1 41)), (1, .ref (ad k.1 y1)), (2, .ref (ad k.1 58)), (3, .int x3_3), (4, .int (x4 + 1)), (5, .int y5), (6, .int x6)]) C dX11_cutsOf_55 rfl (by decide) (by decide) rfl ?_
      refine q_iinc (j := 6) (v := 1) (lv' := [(0, .ref (ad k.1 41)), (1, .ref (ad k.1 y1)), (2, .ref (ad k.1 58)), (3, .int x3_3), (4, .int (x4 + 1)), (5, .int y5), (6, .int (x6 + 1))]) C dX11_cutsOf_58 rfl (by decide) (by decide) rfl ?_
      refine q_goto (tgt := 31) C dX11_cutsOf_61 (by decide) ?_
      refine q_sub [0, 1, 2, 3, 4, 5, 6] rfl ?_
      exact ih _ _ _ _ h
def fX11_cutsOf_58_L19 (n : Nat) (y1 : Nat) (kk : Int32 → TS → Option (Int32 × TS)) : Nat → Int32 → Int32 → Int32 → TS → Option (Int32 × TS)
  | 0, _, _, _, _ => none
  | fuel + 1, x3, x4, x5, T => if (gI T 2056) ≤ x5 then kk x4 T else fX11_cutsOf_58_L31 n y1 x5 (fun e3_5 e4_6 T_7 => fX11_cutsOf_58_L19 n y1 kk fuel e3_5 e4_6 (x5 + 1) T_7) n x3 x4 (0 : Int32) T
set_option maxHeartbeats 4000000 in
set_option maxRecDepth 100000 in
theorem lpX11_cutsOf_58_L19 {l : Launch} {k : KT} {n : Nat} {y1 : Nat} {kk : Int32 → TS → Option (Int32 × TS)} {r : Int32} {T' : TS} (C : CX l k 7 cX11_cutsOf RX11 wsX11_cutsOf 0 (some .int) (some (.int r), T')) (hk : ∀ e4 T1, kk e4 T1 = some (r, T') → GW k T1 70 [(4, .int e4)] []) : ∀ (fuel : Nat) (x3 : Int32) (x4 : Int32) (x5 : Int32) (T : TS), fX11_cutsOf_58_L19 n y1 kk fuel x3 x4 x5 T = some (r, T') → GW k T 19 [(0, .ref (ad k.1 41)), (1, .ref (ad k.1 y1)), (2, .ref (ad k.1 58)), (3, .int x3), (4, .int x4), (5, .int x5)] [] := by
  intro fuel
  induction fuel with
  | zero => intro x3 x4 x5 T h; cases h
  | succ fuel ih =>
    intro x3 x4 x5 T h
    rw [fX11_cutsOf_58_L19] at h
    refine q_iload C dX11_cutsOf_19 5 rfl ?_
    refine q_aload_n C dX11_cutsOf_21 rfl 0 rfl ?_
    refine q_get (j := 6) C dX11_cutsOf_22 (wE_41 _ _) rfl (by decide) rfl inn_X11_cutsOf_11 (by decide +kernel) rfl ?_
    refine q_icmp_ge (tgt := 70) C dX11_cutsOf_25 (by decide) h (fun c h => ?_) (fun c h => ?_)
    · refine q_sub [4] rfl ?_
      exact hk _ _ h
    · refine q_iconst (v := 0) C dX11_cutsOf_28 (by decide) ?_
      refine q_istore (lv' := [(0, .ref (ad k.1 41)), (1, .ref (ad k.1 y1)), (2, .ref (ad k.1 58)), (3, .int x3), (4, .int x4), (5, .int x5), (6, .int (0 : Int32))]) C dX11_cutsOf_29 (by decide) rfl ?_
      refine q_sub [0, 1, 2, 3, 4, 5, 6] rfl ?_
      refine lpX11_cutsOf_58_L31 C (fun e3_5 e4_6 T_7 h => ?_) _ _ _ _ _ h
      refine q_iinc (j := 5) (v := 1) (lv' := [(0, .ref (ad k.1 41)), (1, .ref (ad k.1 y1)), (2, .ref (ad k.1 58)), (3, .int e3_5), (4, .int e4_6), (5, .int (x5 + 1))]) C dX11_cutsOf_64 rfl (by decide) (by decide) rfl ?_
      refine q_goto (tgt := 19) C dX11_cutsOf_67 (by decide) ?_
      refine q_sub [0, 1, 2, 3, 4, 5] rfl ?_
      exact ih _ _ _ _ h
def fX11_cutsOf_58 (n : Nat) (q0 : Nat) (T : TS) : Option (Int32 × TS) := nm (gI T 2052) (fun x3_1 => ck (0 : Int32) 21 (nm (sA T 58 (0 : Int32) x3_1) (fun T_2 => fX11_cutsOf_58_L19 n q0 (fun e4_8 T_9 => some (e4_8, T_9)) n x3_1 ((0 : Int32) + 1) (0 : Int32) T_2)))
set_option maxHeartbeats 4000000 in
set_option maxRecDepth 100000 in
theorem mtX11_cutsOf_58 (l : Launch) (X : XT) (n : Nat) (q0 : Nat) (T T' : TS) (r : Int32) (h : fX11_cutsOf_58 n q0 T = some (r, T')) : Met l yX11_cutsOf wsX11_cutsOf (RM 0) (PreX X [.ref (ad X 41), .ref (ad X q0), .ref (ad X 58)] T) (QQ X (some (.int r)) T') 0 0 (xA X) := by
  refine q_start (by decide) rfl (Nat.le_of_ble_eq_true rfl) ?_
  intro k hk C
  subst hk
  show GW k T 0 [(0, .ref (ad k.1 41)), (1, .ref (ad k.1 q0)), (2, .ref (ad k.1 58))] []
  unfold fX11_cutsOf_58 at h
  refine q_aload_n C dX11_cutsOf_0 rfl 0 rfl ?_
  refine q_get (j := 2) C dX11_cutsOf_1 (wE_41 _ _) rfl (by decide) rfl inn_X11_cutsOf_11 (by decide +kernel) rfl ?_
  refine q_nm h (fun x3_1 h => ?_)
  refine q_istore_n (lv' := [(0, .ref (ad k.1 41)), (1, .ref (ad k.1 q0)), (2, .ref (ad k.1 58)), (3, .int x3_1)]) C dX11_cutsOf_4 rfl (by decide) rfl ?_
  refine q_iconst (v := 0) C dX11_cutsOf_5 (by decide) ?_
  refine q_istore (lv' := [(0, .ref (ad k.1 41)), (1, .ref (ad k.1 q0)), (2, .ref (ad k.1 58)), (3, .int x3_1), (4, .int (0 : Int32))]) C dX11_cutsOf_6 (by decide) rfl ?_
  refine q_aload_n C dX11_cutsOf_8 rfl 2 rfl ?_
  refine q_iload C dX11_cutsOf_9 4 rfl ?_
  refine q_iload_n C dX11_cutsOf_11 rfl 3 rfl ?_
  refine q_iast C dX11_cutsOf_12 (wE_58 _ _) (wS_58 _ _) h (fun T_2 h => ?_)
  refine q_iinc (j := 4) (v := 1) (lv' := [(0, .ref (ad k.1 41)), (1, .ref (ad k.1 q0)), (2, .ref (ad k.1 58)), (3, .int x3_1), (4, .int ((0 : Int32) + 1))]) C dX11_cutsOf_13 rfl (by decide) (by decide) rfl ?_
  refine q_iconst (v := 0) C dX11_cutsOf_16 (by decide) ?_
  refine q_istore (lv' := [(0, .ref (ad k.1 41)), (1, .ref (ad k.1 q0)), (2, .ref (ad k.1 58)), (3, .int x3_1), (4, .int ((0 : Int32) + 1)), (5, .int (0 : Int32))]) C dX11_cutsOf_17 (by decide) rfl ?_
  refine q_sub [0, 1, 2, 3, 4, 5] rfl ?_
  refine lpX11_cutsOf_58_L19 C (fun e4_8 T_9 h => ?_) _ _ _ _ _ h
  refine q_iload C dX11_cutsOf_70 0 rfl ?_
  exact q_ireturn C dX11_cutsOf_72 h
def fX11_cut_L97 (n : Nat) (y1 : Int32) (y2 : Int32) (y3 : Int32) (y4 : Nat) (y5 : Int32) (kk : TS → Option (Int32 × TS)) : Nat → Int32 → TS → Option (Int32 × TS)
  | 0, _, _ => none
  | fuel + 1, x6, T => if (gI T 2056) ≤ x6 then kk T else ck x6 6 (ak y4 (ck x6 (al y4) (ck x6 6 (nm (sA T 44 x6 ((gA T 44 (Int32.toNatClampNeg x6)) + ((gA T y4 (Int32.toNatClampNeg x6)) * y5))) (fun T_9 => fX11_cut_L97 n y1 y2 y3 y4 y5 kk fuel (x6 + 1) T_9)))))
set_option maxHeartbeats 4000000 in
set_option maxRecDepth 100000 in
theorem lpX11_cut_L97 {l : Launch} {k : KT} {n : Nat} {y1 : Int32} {y2 : Int32} {y3 : Int32} {y4 : Nat} {y5 : Int32} {kk : TS → Option (Int32 × TS)} {r : Int32} {T' : TS} (C : CX l k 7 cX11_cut RX11 wsX11_cut 10 (some .int) (some (.int r), T')) (hk : ∀ T1, kk T1 = some (r, T') → GW k T1 130 [(0, .ref (ad k.1 41)), (1, .int y1), (2, .int y2), (3, .int y3), (4, .ref (ad k.1 y4)), (5, .int y5)] []) : ∀ (fuel : Nat) (x6 : Int32) (T : TS), fX11_cut_L97 n y1 y2 y3 y4 y5 kk fuel x6 T = some (r, T') → GW k T 97 [(0, .ref (ad k.1 41)), (1, .int y1), (2, .int y2), (3, .int y3), (4, .ref (ad k.1 y4)), (5, .int y5), (6, .int x6)] [] := by
  intro fuel
  induction fuel with
  | zero => intro x6 T h; cases h
  | succ fuel ih =>
    intro x6 T h
    rw [fX11_cut_L97] at h
    refine q_iload C dX11_cut_97 6 rfl ?_
    refine q_aload_n C dX11_cut_99 rfl 0 rfl ?_
    refine q_get (j := 6) C dX11_cut_100 (wE_41 _ _) rfl (by decide) rfl inn_X11_cut_11 (by decide +kernel) rfl ?_
    refine q_icmp_ge (tgt := 130) C dX11_cut_103 (by decide) h (fun c h => ?_) (fun c h => ?_)
    · refine q_sub [0, 1, 2, 3, 4, 5] rfl ?_
      exact hk _ h
    · refine q_aload_n C dX11_cut_106 rfl 0 rfl ?_
      refine q_get (j := 9) C dX11_cut_107 (wE_41 _ _) rfl (by decide) rfl inn_X11_cut_11 (by decide +kernel) rfl ?_
      refine q_iload C dX11_cut_110 6 rfl ?_
      refine q_dup2 C dX11_cut_112 rfl rfl ?_
      refine q_iald C dX11_cut_113 (wE_44 _ _) h (fun h => ?_)
      refine q_aload C dX11_cut_114 4 rfl ?_
      refine q_iload C dX11_cut_116 6 rfl ?_
      refine q_ialdG C dX11_cut_118 h (fun h => ?_)
      refine q_iload C dX11_cut_119 5 rfl ?_
      refine q_imul C dX11_cut_121 ?_
      refine q_iadd C dX11_cut_122 ?_
      refine q_iast C dX11_cut_123 (wE_44 _ _) (wS_44 _ _) h (fun T_9 h => ?_)
      refine q_iinc (j := 6) (v := 1) (lv' := [(0, .ref (ad k.1 41)), (1, .int y1), (2, .int y2), (3, .int y3), (4, .ref (ad k.1 y4)), (5, .int y5), (6, .int (x6 + 1))]) C dX11_cut_124 rfl (by decide) (by decide) rfl ?_
      refine q_goto (tgt := 97) C dX11_cut_127 (by decide) ?_
      refine q_sub [0, 1, 2, 3, 4, 5, 6] rfl ?_
      exact ih _ _ h
def fX11_cut (n : Nat) (p0 : Int32) (p1 : Int32) (p2 : Int32) (T : TS) : Option (Int32 × TS) := nm (uI T 2050 (0 : Int32)) (fun T_1 => bd (fX11_isSlot n p0 T_1) (fun r_3 T_2 => if ¬ r_3 = 0 then bd (fX11_in n p1 (0 : Int32) ((gI T_2 2087) - (1 : Int32)) T_2) (fun r_5 T_4 => if ¬ r_5 = 0 then ck p1 8 (if ¬ (gA T_4 63 (Int32.toNatClampNeg p1)) = 0 then ck p1 8 (bd (fX11_in n p2 (1 : Int32) (gA T_4 62 (Int32.toNatClampNeg p1)) T_4) (fun r_7 T_6 => if ¬ r_7 = 0 then ck p0 60 (ck p1 8 (if (gA T_6 64 (Int32.toNatClampNeg p1)) = 0 then nz (gI T_6 2062) (nm (p2 / (gI T_6 2062)) (fun x5_8 => fX11_cut_L97 n p0 p1 p2 (gO T_6 48 (Int32.toNatClampNeg p0)) x5_8 (fun T_10 => ck (0 : Int32) 7 (ck p1 8 (ck (0 : Int32) 7 (nm (sL T_10 65 (0 : Int32) ((gL T_10 65 (Int32.toNatClampNeg (0 : Int32))) + ((Int32.toInt64 (gI T_10 2051)) * (Int32.toInt64 (gA T_10 62 (Int32.toNatClampNeg p1)))))) (fun T_11 => ck (1 : Int32) 7 (bd (fX11_sumOf n (gO T_6 48 (Int32.toNatClampNeg p0)) T_11) (fun r_13 T_12 => ck (1 : Int32) 7 (nm (sL T_12 65 (1 : Int32) ((gL T_11 65 (Int32.toNatClampNeg (1 : Int32))) + (((Int32.toInt64 (gI T_11 2062)) * (Int32.toInt64 x5_8)) * (Int32.toInt64 r_13)))) (fun T_14 => ck (4 : Int32) 7 (ck (4 : Int32) 7 (nm (sL T_14 65 (4 : Int32) ((gL T_14 65 (Int32.toNatClampNeg (4 : Int32))) + (1 : Int64))) (fun T_15 => ck (5 : Int32) 7 (ck (5 : Int32) 7 (nm (sL T_15 65 (5 : Int32) ((gL T_15 65 (Int32.toNatClampNeg (5 : Int32))) + (Int32.toInt64 x5_8))) (fun T_16 => ck (6 : Int32) 7 (bd (fX11_moves n (-1 : Int32) p0 T_16) (fun r_18 T_17 => ck (6 : Int32) 7 (nm (sL T_17 65 (6 : Int32) ((gL T_16 65 (Int32.toNatClampNeg (6 : Int32))) + (Int32.toInt64 r_18))) (fun T_19 => bd (fX11_cutsOf_58 n (gO T_6 48 (Int32.toNatClampNeg p0)) T_19) (fun r_21 T_20 => nm (uI T_20 2083 r_21) (fun T_22 => ck p1 8 (ck p1 8 (nm (sA T_22 63 p1 ((gA T_22 63 (Int32.toNatClampNeg p1)) - (1 : Int32))) (fun T_23 => ck p1 8 (nm ((gA T_23 62 (Int32.toNatClampNeg p1)) - p2) (fun x6_24 => if x6_24 < (gI T_23 2062) then ck (0 : Int32) 7 (ck (1 : Int32) 7 (ck (2 : Int32) 7 (ck (3 : Int32) 7 (nm (sL T_23 65 (3 : Int32) (((gL T_23 65 (Int32.toNatClampNeg (0 : Int32))) - (gL T_23 65 (Int32.toNatClampNeg (1 : Int32)))) - (gL T_23 65 (Int32.toNatClampNeg (2 : Int32))))) (fun T_25 => ck p0 60 (ck p0 60 (nm (sA T_25 49 p0 ((gA T_25 49 (Int32.toNatClampNeg p0)) - (1 : Int32))) (fun T_26 => ck p0 60 (if ¬ (gA T_26 49 (Int32.toNatClampNeg p0)) = 0 then some ((0 : Int32), T_26) else bv (fX11_goes n p0 T_26) (fun T_27 => some ((0 : Int32), T_27))))))))))) else if (8 : Int32) ≤ (gI T_23 2087) then ck (0 : Int32) 7 (ck (1 : Int32) 7 (ck (2 : Int32) 7 (ck (3 : Int32) 7 (nm (sL T_23 65 (3 : Int32) (((gL T_23 65 (Int32.toNatClampNeg (0 : Int32))) - (gL T_23 65 (Int32.toNatClampNeg (1 : Int32)))) - (gL T_23 65 (Int32.toNatClampNeg (2 : Int32))))) (fun T_29 => ck p0 60 (ck p0 60 (nm (sA T_29 49 p0 ((gA T_29 49 (Int32.toNatClampNeg p0)) - (1 : Int32))) (fun T_30 => ck p0 60 (if ¬ (gA T_30 49 (Int32.toNatClampNeg p0)) = 0 then some ((0 : Int32), T_30) else bv (fX11_goes n p0 T_30) (fun T_31 => some ((0 : Int32), T_31))))))))))) else ck (2 : Int32) 7 (ck (2 : Int32) 7 (nm (sL T_23 65 (2 : Int32) ((gL T_23 65 (Int32.toNatClampNeg (2 : Int32))) + ((Int32.toInt64 (gI T_23 2051)) * (Int32.toInt64 x6_24)))) (fun T_33 => ck (gI T_33 2087) 8 (nm (sA T_33 62 (gI T_33 2087) x6_24) (fun T_34 => ck (gI T_34 2087) 8 (nm (sA T_34 63 (gI T_34 2087) (1 : Int32)) (fun T_35 => ck p1 8 (ck (gI T_35 2087) 8 (nm (sZ T_35 64 (gI T_35 2087) (gA T_35 64 (Int32.toNatClampNeg p1))) (fun T_36 => nm (uI T_36 2087 ((gI T_36 2087) + (1 : Int32))) (fun T_37 => ck (0 : Int32) 7 (ck (1 : Int32) 7 (ck (2 : Int32) 7 (ck (3 : Int32) 7 (nm (sL T_37 65 (3 : Int32) (((gL T_37 65 (Int32.toNatClampNeg (0 : Int32))) - (gL T_37 65 (Int32.toNatClampNeg (1 : Int32)))) - (gL T_37 65 (Int32.toNatClampNeg (2 : Int32))))) (fun T_38 => ck p0 60 (ck p0 60 (nm (sA T_38 49 p0 ((gA T_38 49 (Int32.toNatClampNeg p0)) - (1 : Int32))) (fun T_39 => ck p0 60 (if ¬ (gA T_39 49 (Int32.toNatClampNeg p0)) = 0 then some ((0 : Int32), T_39) else bv (fX11_goes n p0 T_39) (fun T_40 => some ((0 : Int32), T_40)))))))))))))))))))))))))))))))))))))))))))))))) n (0 : Int32) T_6)) else bd (fX11_fitsFlawed n (gO T_6 48 (Int32.toNatClampNeg p0)) T_6) (fun r_43 T_42 => if ¬ r_43 = 0 then nz (gI T_42 2062) (nm (p2 / (gI T_42 2062)) (fun x5_44 => fX11_cut_L97 n p0 p1 p2 (gO T_6 48 (Int32.toNatClampNeg p0)) x5_44 (fun T_45 => ck (0 : Int32) 7 (ck p1 8 (ck (0 : Int32) 7 (nm (sL T_45 65 (0 : Int32) ((gL T_45 65 (Int32.toNatClampNeg (0 : Int32))) + ((Int32.toInt64 (gI T_45 2051)) * (Int32.toInt64 (gA T_45 62 (Int32.toNatClampNeg p1)))))) (fun T_46 => ck (1 : Int32) 7 (bd (fX11_sumOf n (gO T_6 48 (Int32.toNatClampNeg p0)) T_46) (fun r_48 T_47 => ck (1 : Int32) 7 (nm (sL T_47 65 (1 : Int32) ((gL T_46 65 (Int32.toNatClampNeg (1 : Int32))) + (((Int32.toInt64 (gI T_46 2062)) * (Int32.toInt64 x5_44)) * (Int32.toInt64 r_48)))) (fun T_49 => ck (4 : Int32) 7 (ck (4 : Int32) 7 (nm (sL T_49 65 (4 : Int32) ((gL T_49 65 (Int32.toNatClampNeg (4 : Int32))) + (1 : Int64))) (fun T_50 => ck (5 : Int32) 7 (ck (5 : Int32) 7 (nm (sL T_50 65 (5 : Int32) ((gL T_50 65 (Int32.toNatClampNeg (5 : Int32))) + (Int32.toInt64 x5_44))) (fun T_51 => ck (6 : Int32) 7 (bd (fX11_moves n (-1 : Int32) p0 T_51) (fun r_53 T_52 => ck (6 : Int32) 7 (nm (sL T_52 65 (6 : Int32) ((gL T_51 65 (Int32.toNatClampNeg (6 : Int32))) + (Int32.toInt64 r_53))) (fun T_54 => bd (fX11_cutsOf_58 n (gO T_6 48 (Int32.toNatClampNeg p0)) T_54) (fun r_56 T_55 => nm (uI T_55 2083 r_56) (fun T_57 => ck p1 8 (ck p1 8 (nm (sA T_57 63 p1 ((gA T_57 63 (Int32.toNatClampNeg p1)) - (1 : Int32))) (fun T_58 => ck p1 8 (nm ((gA T_58 62 (Int32.toNatClampNeg p1)) - p2) (fun x6_59 => if x6_59 < (gI T_58 2062) then ck (0 : Int32) 7 (ck (1 : Int32) 7 (ck (2 : Int32) 7 (ck (3 : Int32) 7 (nm (sL T_58 65 (3 : Int32) (((gL T_58 65 (Int32.toNatClampNeg (0 : Int32))) - (gL T_58 65 (Int32.toNatClampNeg (1 : Int32)))) - (gL T_58 65 (Int32.toNatClampNeg (2 : Int32))))) (fun T_60 => ck p0 60 (ck p0 60 (nm (sA T_60 49 p0 ((gA T_60 49 (Int32.toNatClampNeg p0)) - (1 : Int32))) (fun T_61 => ck p0 60 (if ¬ (gA T_61 49 (Int32.toNatClampNeg p0)) = 0 then some ((0 : Int32), T_61) else bv (fX11_goes n p0 T_61) (fun T_62 => some ((0 : Int32), T_62))))))))))) else if (8 : Int32) ≤ (gI T_58 2087) then ck (0 : Int32) 7 (ck (1 : Int32) 7 (ck (2 : Int32) 7 (ck (3 : Int32) 7 (nm (sL T_58 65 (3 : Int32) (((gL T_58 65 (Int32.toNatClampNeg (0 : Int32))) - (gL T_58 65 (Int32.toNatClampNeg (1 : Int32)))) - (gL T_58 65 (Int32.toNatClampNeg (2 : Int32))))) (fun T_64 => ck p0 60 (ck p0 60 (nm (sA T_64 49 p0 ((gA T_64 49 (Int32.toNatClampNeg p0)) - (1 : Int32))) (fun T_65 => ck p0 60 (if ¬ (gA T_65 49 (Int32.toNatClampNeg p0)) = 0 then some ((0 : Int32), T_65) else bv (fX11_goes n p0 T_65) (fun T_66 => some ((0 : Int32), T_66))))))))))) else ck (2 : Int32) 7 (ck (2 : Int32) 7 (nm (sL T_58 65 (2 : Int32) ((gL T_58 65 (Int32.toNatClampNeg (2 : Int32))) + ((Int32.toInt64 (gI T_58 2051)) * (Int32.toInt64 x6_59)))) (fun T_68 => ck (gI T_68 2087) 8 (nm (sA T_68 62 (gI T_68 2087) x6_59) (fun T_69 => ck (gI T_69 2087) 8 (nm (sA T_69 63 (gI T_69 2087) (1 : Int32)) (fun T_70 => ck p1 8 (ck (gI T_70 2087) 8 (nm (sZ T_70 64 (gI T_70 2087) (gA T_70 64 (Int32.toNatClampNeg p1))) (fun T_71 => nm (uI T_71 2087 ((gI T_71 2087) + (1 : Int32))) (fun T_72 => ck (0 : Int32) 7 (ck (1 : Int32) 7 (ck (2 : Int32) 7 (ck (3 : Int32) 7 (nm (sL T_72 65 (3 : Int32) (((gL T_72 65 (Int32.toNatClampNeg (0 : Int32))) - (gL T_72 65 (Int32.toNatClampNeg (1 : Int32)))) - (gL T_72 65 (Int32.toNatClampNeg (2 : Int32))))) (fun T_73 => ck p0 60 (ck p0 60 (nm (sA T_73 49 p0 ((gA T_73 49 (Int32.toNatClampNeg p0)) - (1 : Int32))) (fun T_74 => ck p0 60 (if ¬ (gA T_74 49 (Int32.toNatClampNeg p0)) = 0 then some ((0 : Int32), T_74) else bv (fX11_goes n p0 T_74) (fun T_75 => some ((0 : Int32), T_75)))))))))))))))))))))))))))))))))))))))))))))))) n (0 : Int32) T_42)) else some ((5 : Int32), T_42)))) else some ((4 : Int32), T_6))) else some ((3 : Int32), T_4)) else some ((2 : Int32), T_4)) else some ((1 : Int32), T_2)))
set_option maxHeartbeats 4000000 in
set_option maxRecDepth 100000 in
theorem mtX11_cut (l : Launch) (X : XT) (n : Nat) (p0 : Int32) (p1 : Int32) (p2 : Int32) (T T' : TS) (r : Int32) (h : fX11_cut n p0 p1 p2 T = some (r, T')) : Met l yX11_cut wsX11_cut (RM 10) (PreX X [.ref (ad X 41), .int p0, .int p1, .int p2] T) (QQ X (some (.int r)) T') 0 0 (xA X) := by
  refine q_start (by decide) rfl (Nat.le_of_ble_eq_true rfl) ?_
  intro k hk C
  subst hk
  show GW k T 0 [(0, .ref (ad k.1 41)), (1, .int p0), (2, .int p1), (3, .int p2)] []
  unfold fX11_cut at h
  refine q_aload_n C dX11_cut_0 rfl 0 rfl ?_
  refine q_iconst (v := 0) C dX11_cut_1 (by decide) ?_
  refine q_putI (j := 0) (ty := .int) C dX11_cut_2 (wE_41 _ _) (wP_41_0 _ _ _) rfl (by decide) (Nat.le_of_ble_eq_true rfl) tyX11 tyX11_ok nmX11 inn_X11_cut_11 (by decide +kernel) rfl rfl (by decide +kernel) rfl rfl h (fun T_1 h => ?_)
  refine q_aload_n C dX11_cut_5 rfl 0 rfl ?_
  refine q_iload_n C dX11_cut_6 rfl 1 rfl ?_
  obtain ⟨r_3, T_2, hc, h⟩ := bd_some h
  refine q_callV (st' := [.int r_3]) C dX11_cut_7 [.int p0] [] (mtX11_isSlot l _ n _ _ _ _ hc) gX11_cut_X11_isSlot rfl hd_X11_isSlot (by decide) (by decide) (wE_41 _ _) rfl rfl rfl (Nat.le_of_ble_eq_true rfl) rfl ?_
  clear hc
  refine q_if_ne (tgt := 15) C dX11_cut_10 (by decide) h (fun c h => ?_) (fun c h => ?_)
  · refine q_iload_n C dX11_cut_15 rfl 2 rfl ?_
    refine q_iconst (v := 0) C dX11_cut_16 (by decide) ?_
    refine q_aload_n C dX11_cut_17 rfl 0 rfl ?_
    refine q_get (j := 37) C dX11_cut_18 (wE_41 _ _) rfl (by decide) rfl inn_X11_cut_11 (by decide +kernel) rfl ?_
    refine q_iconst (v := 1) C dX11_cut_21 (by decide) ?_
    refine q_isub C dX11_cut_22 ?_
    obtain ⟨r_5, T_4, hc, h⟩ := bd_some h
    refine q_callS (st' := [.int r_5]) C dX11_cut_23 [.int p1, .int (0 : Int32), .int ((gI T_2 2087) - (1 : Int32))] [] (mtX11_in l _ n _ _ _ _ _ _ hc) gX11_cut_X11_in rfl hd_X11_in (by decide) (by decide) rfl rfl (Nat.le_of_ble_eq_true rfl) rfl ?_
    clear hc
    refine q_if_ne (tgt := 31) C dX11_cut_26 (by decide) h (fun c h => ?_) (fun c h => ?_)
    · refine q_aload_n C dX11_cut_31 rfl 0 rfl ?_
      refine q_get (j := 39) C dX11_cut_32 (wE_41 _ _) rfl (by decide) rfl inn_X11_cut_11 (by decide +kernel) rfl ?_
      refine q_iload_n C dX11_cut_35 rfl 2 rfl ?_
      refine q_iald C dX11_cut_36 (wE_63 _ _) h (fun h => ?_)
      refine q_if_ne (tgt := 42) C dX11_cut_37 (by decide) h (fun c h => ?_) (fun c h => ?_)
      · refine q_iload_n C dX11_cut_42 rfl 3 rfl ?_
        refine q_iconst (v := 1) C dX11_cut_43 (by decide) ?_
        refine q_aload_n C dX11_cut_44 rfl 0 rfl ?_
        refine q_get (j := 38) C dX11_cut_45 (wE_41 _ _) rfl (by decide) rfl inn_X11_cut_11 (by decide +kernel) rfl ?_
        refine q_iload_n C dX11_cut_48 rfl 2 rfl ?_
        refine q_iald C dX11_cut_49 (wE_62 _ _) h (fun h => ?_)
        obtain ⟨r_7, T_6, hc, h⟩ := bd_some h
        refine q_callS (st' := [.int r_7]) C dX11_cut_50 [.int p2, .int (1 : Int32), .int (gA T_4 62 (Int32.toNatClampNeg p1))] [] (mtX11_in l _ n _ _ _ _ _ _ hc) gX11_cut_X11_in rfl hd_X11_in (by decide) (by decide) rfl rfl (Nat.le_of_ble_eq_true rfl) rfl ?_
        clear hc
        refine q_if_ne (tgt := 58) C dX11_cut_53 (by decide) h (fun c h => ?_) (fun c h => ?_)
        · refine q_aload_n C dX11_cut_58 rfl 0 rfl ?_
          refine q_get (j := 18) C dX11_cut_59 (wE_41 _ _) rfl (by decide) rfl inn_X11_cut_11 (by decide +kernel) rfl ?_
          refine q_iload_n C dX11_cut_62 rfl 1 rfl ?_
          refine q_aald C dX11_cut_63 (wE_48 _ _) h (fun h => ?_)
          refine q_astore (lv' := [(0, .ref (ad k.1 41)), (1, .int p0), (2, .int p1), (3, .int p2), (4, .ref (ad k.1 (gO T_6 48 (Int32.toNatClampNeg p0))))]) C dX11_cut_64 (by decide) rfl ?_
          refine q_aload_n C dX11_cut_66 rfl 0 rfl ?_
          refine q_get (j := 40) C dX11_cut_67 (wE_41 _ _) rfl (by decide) rfl inn_X11_cut_11 (by decide +kernel) rfl ?_
          refine q_iload_n C dX11_cut_70 rfl 2 rfl ?_
          refine q_zald C dX11_cut_71 (wE_64 _ _) h (fun h => ?_)
          refine q_if_eq (tgt := 86) C dX11_cut_72 (by decide) h (fun c h => ?_) (fun c h => ?_)
          · refine q_iload_n C dX11_cut_86 rfl 3 rfl ?_
            refine q_aload_n C dX11_cut_87 rfl 0 rfl ?_
            refine q_get (j := 12) C dX11_cut_88 (wE_41 _ _) rfl (by decide) rfl inn_X11_cut_11 (by decide +kernel) rfl ?_
            refine q_idiv C dX11_cut_91 h (fun h => ?_)
            refine q_nm h (fun x5_8 h => ?_)
            refine q_istore (lv' := [(0, .ref (ad k.1 41)), (1, .int p0), (2, .int p1), (3, .int p2), (4, .ref (ad k.1 (gO T_6 48 (Int32.toNatClampNeg p0)))), (5, .int x5_8)]) C dX11_cut_92 (by decide) rfl ?_
            refine q_iconst (v := 0) C dX11_cut_94 (by decide) ?_
            refine q_istore (lv' := [(0, .ref (ad k.1 41)), (1, .int p0), (2, .int p1), (3, .int p2), (4, .ref (ad k.1 (gO T_6 48 (Int32.toNatClampNeg p0)))), (5, .int x5_8), (6, .int (0 : Int32))]) C dX11_cut_95 (by decide) rfl ?_
            refine q_sub [0, 1, 2, 3, 4, 5, 6] rfl ?_
            refine lpX11_cut_L97 C (fun T_10 h => ?_) _ _ _ h
            refine q_aload_n C dX11_cut_130 rfl 0 rfl ?_
            refine q_get (j := 41) C dX11_cut_131 (wE_41 _ _) rfl (by decide) rfl inn_X11_cut_11 (by decide +kernel) rfl ?_
            refine q_iconst (v := 0) C dX11_cut_134 (by decide) ?_
            refine q_dup2 C dX11_cut_135 rfl rfl ?_
            refine q_lald C dX11_cut_136 (wE_65 _ _) h (fun h => ?_)
            refine q_aload_n C dX11_cut_137 rfl 0 rfl ?_
            refine q_get (j := 1) C dX11_cut_138 (wE_41 _ _) rfl (by decide) rfl inn_X11_cut_11 (by decide +kernel) rfl ?_
            refine q_i2l C dX11_cut_141 ?_
            refine q_aload_n C dX11_cut_142 rfl 0 rfl ?_
            refine q_get (j := 38) C dX11_cut_143 (wE_41 _ _) rfl (by decide) rfl inn_X11_cut_11 (by decide +kernel) rfl ?_
            refine q_iload_n C dX11_cut_146 rfl 2 rfl ?_
            refine q_iald C dX11_cut_147 (wE_62 _ _) h (fun h => ?_)
            refine q_i2l C dX11_cut_148 ?_
            refine q_lmul C dX11_cut_149 ?_
            refine q_ladd C dX11_cut_150 ?_
            refine q_last C dX11_cut_151 (wE_65 _ _) (wS_65 _ _) h (fun T_11 h => ?_)
            refine q_aload_n C dX11_cut_152 rfl 0 rfl ?_
            refine q_get (j := 41) C dX11_cut_153 (wE_41 _ _) rfl (by decide) rfl inn_X11_cut_11 (by decide +kernel) rfl ?_
            refine q_iconst (v := 1) C dX11_cut_156 (by decide) ?_
            refine q_dup2 C dX11_cut_157 rfl rfl ?_
            refine q_lald C dX11_cut_158 (wE_65 _ _) h (fun h => ?_)
            refine q_aload_n C dX11_cut_159 rfl 0 rfl ?_
            refine q_get (j := 12) C dX11_cut_160 (wE_41 _ _) rfl (by decide) rfl inn_X11_cut_11 (by decide +kernel) rfl ?_
            refine q_i2l C dX11_cut_163 ?_
            refine q_iload C dX11_cut_164 5 rfl ?_
            refine q_i2l C dX11_cut_166 ?_
            refine q_lmul C dX11_cut_167 ?_
            refine q_aload_n C dX11_cut_168 rfl 0 rfl ?_
            refine q_aload C dX11_cut_169 4 rfl ?_
            obtain ⟨r_13, T_12, hc, h⟩ := bd_some h
            refine q_callV (st' := [.int r_13, .long ((Int32.toInt64 (gI T_11 2062)) * (Int32.toInt64 x5_8)), .long (gL T_11 65 (Int32.toNatClampNeg (1 : Int32))), .int (1 : Int32), .ref (ad k.1 65)]) C dX11_cut_171 [.ref (ad k.1 (gO T_6 48 (Int32.toNatClampNeg p0)))] [.long ((Int32.toInt64 (gI T_11 2062)) * (Int32.toInt64 x5_8)), .long (gL T_11 65 (Int32.toNatClampNeg (1 : Int32))), .int (1 : Int32), .ref (ad k.1 65)] (mtX11_sumOf l _ n _ _ _ _ hc) gX11_cut_X11_sumOf rfl hd_X11_sumOf (by decide) (by decide) (wE_41 _ _) rfl rfl rfl (Nat.le_of_ble_eq_true rfl) rfl ?_
            clear hc
            refine q_i2l C dX11_cut_174 ?_
            refine q_lmul C dX11_cut_175 ?_
            refine q_ladd C dX11_cut_176 ?_
            refine q_last C dX11_cut_177 (wE_65 _ _) (wS_65 _ _) h (fun T_14 h => ?_)
            refine q_aload_n C dX11_cut_178 rfl 0 rfl ?_
            refine q_get (j := 41) C dX11_cut_179 (wE_41 _ _) rfl (by decide) rfl inn_X11_cut_11 (by decide +kernel) rfl ?_
            refine q_iconst (v := 4) C dX11_cut_182 (by decide) ?_
            refine q_dup2 C dX11_cut_183 rfl rfl ?_
            refine q_lald C dX11_cut_184 (wE_65 _ _) h (fun h => ?_)
            refine q_lconst (v := 1) C dX11_cut_185 (by decide) ?_
            refine q_ladd C dX11_cut_186 ?_
            refine q_last C dX11_cut_187 (wE_65 _ _) (wS_65 _ _) h (fun T_15 h => ?_)
            refine q_aload_n C dX11_cut_188 rfl 0 rfl ?_
            refine q_get (j := 41) C dX11_cut_189 (wE_41 _ _) rfl (by decide) rfl inn_X11_cut_11 (by decide +kernel) rfl ?_
            refine q_iconst (v := 5) C dX11_cut_192 (by decide) ?_
            refine q_dup2 C dX11_cut_193 rfl rfl ?_
            refine q_lald C dX11_cut_194 (wE_65 _ _) h (fun h => ?_)
            refine q_iload C dX11_cut_195 5 rfl ?_
            refine q_i2l C dX11_cut_197 ?_
            refine q_ladd C dX11_cut_198 ?_
            refine q_last C dX11_cut_199 (wE_65 _ _) (wS_65 _ _) h (fun T_16 h => ?_)
            refine q_aload_n C dX11_cut_200 rfl 0 rfl ?_
            refine q_get (j := 41) C dX11_cut_201 (wE_41 _ _) rfl (by decide) rfl inn_X11_cut_11 (by decide +kernel) rfl ?_
            refine q_bipush (v := 6) C dX11_cut_204 (by decide) ?_
            refine q_dup2 C dX11_cut_206 rfl rfl ?_
            refine q_lald C dX11_cut_207 (wE_65 _ _) h (fun h => ?_)
            refine q_aload_n C dX11_cut_208 rfl 0 rfl ?_
            refine q_iconst (v := -1) C dX11_cut_209 (by decide) ?_
            refine q_iload_n C dX11_cut_210 rfl 1 rfl ?_
            obtain ⟨r_18, T_17, hc, h⟩ := bd_some h
            refine q_callV (st' := [.int r_18, .long (gL T_16 65 (Int32.toNatClampNeg (6 : Int32))), .int (6 : Int32), .ref (ad k.1 65)]) C dX11_cut_211 [.int (-1 : Int32), .int p0] [.long (gL T_16 65 (Int32.toNatClampNeg (6 : Int32))), .int (6 : Int32), .ref (ad k.1 65)] (mtX11_moves l _ n _ _ _ _ _ hc) gX11_cut_X11_moves rfl hd_X11_moves (by decide) (by decide) (wE_41 _ _) rfl rfl rfl (Nat.le_of_ble_eq_true rfl) rfl ?_
            clear hc
            refine q_i2l C dX11_cut_214 ?_
            refine q_ladd C dX11_cut_215 ?_
            refine q_last C dX11_cut_216 (wE_65 _ _) (wS_65 _ _) h (fun T_19 h => ?_)
            refine q_aload_n C dX11_cut_217 rfl 0 rfl ?_
            refine q_aload_n C dX11_cut_218 rfl 0 rfl ?_
            refine q_aload C dX11_cut_219 4 rfl ?_
            refine q_aload_n C dX11_cut_221 rfl 0 rfl ?_
            refine q_get (j := 32) C dX11_cut_222 (wE_41 _ _) rfl (by decide) rfl inn_X11_cut_11 (by decide +kernel) rfl ?_
            obtain ⟨r_21, T_20, hc, h⟩ := bd_some h
            refine q_callV (st' := [.int r_21, .ref (ad k.1 41)]) C dX11_cut_225 [.ref (ad k.1 (gO T_6 48 (Int32.toNatClampNeg p0))), .ref (ad k.1 58)] [.ref (ad k.1 41)] (mtX11_cutsOf_58 l _ n _ _ _ _ hc) gX11_cut_X11_cutsOf rfl hd_X11_cutsOf (by decide) (by decide) (wE_41 _ _) rfl rfl rfl (Nat.le_of_ble_eq_true rfl) rfl ?_
            clear hc
            refine q_putI (j := 33) (ty := .int) C dX11_cut_228 (wE_41 _ _) (wP_41_33 _ _ _) rfl (by decide) (Nat.le_of_ble_eq_true rfl) tyX11 tyX11_ok nmX11 inn_X11_cut_11 (by decide +kernel) rfl rfl (by decide +kernel) rfl rfl h (fun T_22 h => ?_)
            refine q_aload_n C dX11_cut_231 rfl 0 rfl ?_
            refine q_get (j := 39) C dX11_cut_232 (wE_41 _ _) rfl (by decide) rfl inn_X11_cut_11 (by decide +kernel) rfl ?_
            refine q_iload_n C dX11_cut_235 rfl 2 rfl ?_
            refine q_dup2 C dX11_cut_236 rfl rfl ?_
            refine q_iald C dX11_cut_237 (wE_63 _ _) h (fun h => ?_)
            refine q_iconst (v := 1) C dX11_cut_238 (by decide) ?_
            refine q_isub C dX11_cut_239 ?_
            refine q_iast C dX11_cut_240 (wE_63 _ _) (wS_63 _ _) h (fun T_23 h => ?_)
            refine q_aload_n C dX11_cut_241 rfl 0 rfl ?_
            refine q_get (j := 38) C dX11_cut_242 (wE_41 _ _) rfl (by decide) rfl inn_X11_cut_11 (by decide +kernel) rfl ?_
            refine q_iload_n C dX11_cut_245 rfl 2 rfl ?_
            refine q_iald C dX11_cut_246 (wE_62 _ _) h (fun h => ?_)
            refine q_iload_n C dX11_cut_247 rfl 3 rfl ?_
            refine q_isub C dX11_cut_248 ?_
            refine q_nm h (fun x6_24 h => ?_)
            refine q_istore (lv' := [(0, .ref (ad k.1 41)), (1, .int p0), (2, .int p1), (3, .int p2), (4, .ref (ad k.1 (gO T_6 48 (Int32.toNatClampNeg p0)))), (5, .int x5_8), (6, .int x6_24)]) C dX11_cut_249 (by decide) rfl ?_
            refine q_iload C dX11_cut_251 6 rfl ?_
            refine q_aload_n C dX11_cut_253 rfl 0 rfl ?_
            refine q_get (j := 12) C dX11_cut_254 (wE_41 _ _) rfl (by decide) rfl inn_X11_cut_11 (by decide +kernel) rfl ?_
            refine q_icmp_lt (tgt := 333) C dX11_cut_257 (by decide) h (fun c h => ?_) (fun c h => ?_)
            · refine q_aload_n C dX11_cut_333 rfl 0 rfl ?_
              refine q_get (j := 41) C dX11_cut_334 (wE_41 _ _) rfl (by decide) rfl inn_X11_cut_11 (by decide +kernel) rfl ?_
              refine q_iconst (v := 3) C dX11_cut_337 (by decide) ?_
              refine q_aload_n C dX11_cut_338 rfl 0 rfl ?_
              refine q_get (j := 41) C dX11_cut_339 (wE_41 _ _) rfl (by decide) rfl inn_X11_cut_11 (by decide +kernel) rfl ?_
              refine q_iconst (v := 0) C dX11_cut_342 (by decide) ?_
              refine q_lald C dX11_cut_343 (wE_65 _ _) h (fun h => ?_)
              refine q_aload_n C dX11_cut_344 rfl 0 rfl ?_
              refine q_get (j := 41) C dX11_cut_345 (wE_41 _ _) rfl (by decide) rfl inn_X11_cut_11 (by decide +kernel) rfl ?_
              refine q_iconst (v := 1) C dX11_cut_348 (by decide) ?_
              refine q_lald C dX11_cut_349 (wE_65 _ _) h (fun h => ?_)
              refine q_lsub C dX11_cut_350 ?_
              refine q_aload_n C dX11_cut_351 rfl 0 rfl ?_
              refine q_get (j := 41) C dX11_cut_352 (wE_41 _ _) rfl (by decide) rfl inn_X11_cut_11 (by decide +kernel) rfl ?_
              refine q_iconst (v := 2) C dX11_cut_355 (by decide) ?_
              refine q_lald C dX11_cut_356 (wE_65 _ _) h (fun h => ?_)
              refine q_lsub C dX11_cut_357 ?_
              refine q_last C dX11_cut_358 (wE_65 _ _) (wS_65 _ _) h (fun T_25 h => ?_)
              refine q_aload_n C dX11_cut_359 rfl 0 rfl ?_
              refine q_get (j := 19) C dX11_cut_360 (wE_41 _ _) rfl (by decide) rfl inn_X11_cut_11 (by decide +kernel) rfl ?_
              refine q_iload_n C dX11_cut_363 rfl 1 rfl ?_
              refine q_dup2 C dX11_cut_364 rfl rfl ?_
              refine q_iald C dX11_cut_365 (wE_49 _ _) h (fun h => ?_)
              refine q_iconst (v := 1) C dX11_cut_366 (by decide) ?_
              refine q_isub C dX11_cut_367 ?_
              refine q_iast C dX11_cut_368 (wE_49 _ _) (wS_49 _ _) h (fun T_26 h => ?_)
              refine q_aload_n C dX11_cut_369 rfl 0 rfl ?_
              refine q_get (j := 19) C dX11_cut_370 (wE_41 _ _) rfl (by decide) rfl inn_X11_cut_11 (by decide +kernel) rfl ?_
              refine q_iload_n C dX11_cut_373 rfl 1 rfl ?_
              refine q_iald C dX11_cut_374 (wE_49 _ _) h (fun h => ?_)
              refine q_if_ne (tgt := 383) C dX11_cut_375 (by decide) h (fun c h => ?_) (fun c h => ?_)
              · refine q_iconst (v := 0) C dX11_cut_383 (by decide) ?_
                exact q_ireturn C dX11_cut_384 h
              · refine q_aload_n C dX11_cut_378 rfl 0 rfl ?_
                refine q_iload_n C dX11_cut_379 rfl 1 rfl ?_
                obtain ⟨T_27, hc, h⟩ := bv_some h
                refine q_callV (st' := []) C dX11_cut_380 [.int p0] [] (mtX11_goes l _ n _ _ _ hc) gX11_cut_X11_goes rfl hd_X11_goes (by decide) (by decide) (wE_41 _ _) rfl rfl rfl (Nat.le_of_ble_eq_true rfl) rfl ?_
                clear hc
                refine q_iconst (v := 0) C dX11_cut_383 (by decide) ?_
                exact q_ireturn C dX11_cut_384 h
            · refine q_aload_n C dX11_cut_260 rfl 0 rfl ?_
              refine q_get (j := 37) C dX11_cut_261 (wE_41 _ _) rfl (by decide) rfl inn_X11_cut_11 (by decide +kernel) rfl ?_
              refine q_bipush (v := 8) C dX11_cut_264 (by decide) ?_
              refine q_icmp_ge (tgt := 333) C dX11_cut_266 (by decide) h (fun c h => ?_) (fun c h => ?_)
              · refine q_aload_n C dX11_cut_333 rfl 0 rfl ?_
                refine q_get (j := 41) C dX11_cut_334 (wE_41 _ _) rfl (by decide) rfl inn_X11_cut_11 (by decide +kernel) rfl ?_
                refine q_iconst (v := 3) C dX11_cut_337 (by decide) ?_
                refine q_aload_n C dX11_cut_338 rfl 0 rfl ?_
                refine q_get (j := 41) C dX11_cut_339 (wE_41 _ _) rfl (by decide) rfl inn_X11_cut_11 (by decide +kernel) rfl ?_
                refine q_iconst (v := 0) C dX11_cut_342 (by decide) ?_
                refine q_lald C dX11_cut_343 (wE_65 _ _) h (fun h => ?_)
                refine q_aload_n C dX11_cut_344 rfl 0 rfl ?_
                refine q_get (j := 41) C dX11_cut_345 (wE_41 _ _) rfl (by decide) rfl inn_X11_cut_11 (by decide +kernel) rfl ?_
                refine q_iconst (v := 1) C dX11_cut_348 (by decide) ?_
                refine q_lald C dX11_cut_349 (wE_65 _ _) h (fun h => ?_)
                refine q_lsub C dX11_cut_350 ?_
                refine q_aload_n C dX11_cut_351 rfl 0 rfl ?_
                refine q_get (j := 41) C dX11_cut_352 (wE_41 _ _) rfl (by decide) rfl inn_X11_cut_11 (by decide +kernel) rfl ?_
                refine q_iconst (v := 2) C dX11_cut_355 (by decide) ?_
                refine q_lald C dX11_cut_356 (wE_65 _ _) h (fun h => ?_)
                refine q_lsub C dX11_cut_357 ?_
                refine q_last C dX11_cut_358 (wE_65 _ _) (wS_65 _ _) h (fun T_29 h => ?_)
                refine q_aload_n C dX11_cut_359 rfl 0 rfl ?_
                refine q_get (j := 19) C dX11_cut_360 (wE_41 _ _) rfl (by decide) rfl inn_X11_cut_11 (by decide +kernel) rfl ?_
                refine q_iload_n C dX11_cut_363 rfl 1 rfl ?_
                refine q_dup2 C dX11_cut_364 rfl rfl ?_
                refine q_iald C dX11_cut_365 (wE_49 _ _) h (fun h => ?_)
                refine q_iconst (v := 1) C dX11_cut_366 (by decide) ?_
                refine q_isub C dX11_cut_367 ?_
                refine q_iast C dX11_cut_368 (wE_49 _ _) (wS_49 _ _) h (fun T_30 h => ?_)
                refine q_aload_n C dX11_cut_369 rfl 0 rfl ?_
                refine q_get (j := 19) C dX11_cut_370 (wE_41 _ _) rfl (by decide) rfl inn_X11_cut_11 (by decide +kernel) rfl ?_
                refine q_iload_n C dX11_cut_373 rfl 1 rfl ?_
                refine q_iald C dX11_cut_374 (wE_49 _ _) h (fun h => ?_)
                refine q_if_ne (tgt := 383) C dX11_cut_375 (by decide) h (fun c h => ?_) (fun c h => ?_)
                · refine q_iconst (v := 0) C dX11_cut_383 (by decide) ?_
                  exact q_ireturn C dX11_cut_384 h
                · refine q_aload_n C dX11_cut_378 rfl 0 rfl ?_
                  refine q_iload_n C dX11_cut_379 rfl 1 rfl ?_
                  obtain ⟨T_31, hc, h⟩ := bv_some h
                  refine q_callV (st' := []) C dX11_cut_380 [.int p0] [] (mtX11_goes l _ n _ _ _ hc) gX11_cut_X11_goes rfl hd_X11_goes (by decide) (by decide) (wE_41 _ _) rfl rfl rfl (Nat.le_of_ble_eq_true rfl) rfl ?_
                  clear hc
                  refine q_iconst (v := 0) C dX11_cut_383 (by decide) ?_
                  exact q_ireturn C dX11_cut_384 h
              · refine q_aload_n C dX11_cut_269 rfl 0 rfl ?_
                refine q_get (j := 41) C dX11_cut_270 (wE_41 _ _) rfl (by decide) rfl inn_X11_cut_11 (by decide +kernel) rfl ?_
                refine q_iconst (v := 2) C dX11_cut_273 (by decide) ?_
                refine q_dup2 C dX11_cut_274 rfl rfl ?_
                refine q_lald C dX11_cut_275 (wE_65 _ _) h (fun h => ?_)
                refine q_aload_n C dX11_cut_276 rfl 0 rfl ?_
                refine q_get (j := 1) C dX11_cut_277 (wE_41 _ _) rfl (by decide) rfl inn_X11_cut_11 (by decide +kernel) rfl ?_
                refine q_i2l C dX11_cut_280 ?_
                refine q_iload C dX11_cut_281 6 rfl ?_
                refine q_i2l C dX11_cut_283 ?_
                refine q_lmul C dX11_cut_284 ?_
                refine q_ladd C dX11_cut_285 ?_
                refine q_last C dX11_cut_286 (wE_65 _ _) (wS_65 _ _) h (fun T_33 h => ?_)
                refine q_aload_n C dX11_cut_287 rfl 0 rfl ?_
                refine q_get (j := 38) C dX11_cut_288 (wE_41 _ _) rfl (by decide) rfl inn_X11_cut_11 (by decide +kernel) rfl ?_
                refine q_aload_n C dX11_cut_291 rfl 0 rfl ?_
                refine q_get (j := 37) C dX11_cut_292 (wE_41 _ _) rfl (by decide) rfl inn_X11_cut_11 (by decide +kernel) rfl ?_
                refine q_iload C dX11_cut_295 6 rfl ?_
                refine q_iast C dX11_cut_297 (wE_62 _ _) (wS_62 _ _) h (fun T_34 h => ?_)
                refine q_aload_n C dX11_cut_298 rfl 0 rfl ?_
                refine q_get (j := 39) C dX11_cut_299 (wE_41 _ _) rfl (by decide) rfl inn_X11_cut_11 (by decide +kernel) rfl ?_
                refine q_aload_n C dX11_cut_302 rfl 0 rfl ?_
                refine q_get (j := 37) C dX11_cut_303 (wE_41 _ _) rfl (by decide) rfl inn_X11_cut_11 (by decide +kernel) rfl ?_
                refine q_iconst (v := 1) C dX11_cut_306 (by decide) ?_
                refine q_iast C dX11_cut_307 (wE_63 _ _) (wS_63 _ _) h (fun T_35 h => ?_)
                refine q_aload_n C dX11_cut_308 rfl 0 rfl ?_
                refine q_get (j := 40) C dX11_cut_309 (wE_41 _ _) rfl (by decide) rfl inn_X11_cut_11 (by decide +kernel) rfl ?_
                refine q_aload_n C dX11_cut_312 rfl 0 rfl ?_
                refine q_get (j := 37) C dX11_cut_313 (wE_41 _ _) rfl (by decide) rfl inn_X11_cut_11 (by decide +kernel) rfl ?_
                refine q_aload_n C dX11_cut_316 rfl 0 rfl ?_
                refine q_get (j := 40) C dX11_cut_317 (wE_41 _ _) rfl (by decide) rfl inn_X11_cut_11 (by decide +kernel) rfl ?_
                refine q_iload_n C dX11_cut_320 rfl 2 rfl ?_
                refine q_zald C dX11_cut_321 (wE_64 _ _) h (fun h => ?_)
                refine q_zast C dX11_cut_322 (wE_64 _ _) (wS_64 _ _) h (fun T_36 h => ?_)
                refine q_aload_n C dX11_cut_323 rfl 0 rfl ?_
                refine q_dup C dX11_cut_324 rfl ?_
                refine q_get (j := 37) C dX11_cut_325 (wE_41 _ _) rfl (by decide) rfl inn_X11_cut_11 (by decide +kernel) rfl ?_
                refine q_iconst (v := 1) C dX11_cut_328 (by decide) ?_
                refine q_iadd C dX11_cut_329 ?_
                refine q_putI (j := 37) (ty := .int) C dX11_cut_330 (wE_41 _ _) (wP_41_37 _ _ _) rfl (by decide) (Nat.le_of_ble_eq_true rfl) tyX11 tyX11_ok nmX11 inn_X11_cut_11 (by decide +kernel) rfl rfl (by decide +kernel) rfl rfl h (fun T_37 h => ?_)
                refine q_aload_n C dX11_cut_333 rfl 0 rfl ?_
                refine q_get (j := 41) C dX11_cut_334 (wE_41 _ _) rfl (by decide) rfl inn_X11_cut_11 (by decide +kernel) rfl ?_
                refine q_iconst (v := 3) C dX11_cut_337 (by decide) ?_
                refine q_aload_n C dX11_cut_338 rfl 0 rfl ?_
                refine q_get (j := 41) C dX11_cut_339 (wE_41 _ _) rfl (by decide) rfl inn_X11_cut_11 (by decide +kernel) rfl ?_
                refine q_iconst (v := 0) C dX11_cut_342 (by decide) ?_
                refine q_lald C dX11_cut_343 (wE_65 _ _) h (fun h => ?_)
                refine q_aload_n C dX11_cut_344 rfl 0 rfl ?_
                refine q_get (j := 41) C dX11_cut_345 (wE_41 _ _) rfl (by decide) rfl inn_X11_cut_11 (by decide +kernel) rfl ?_
                refine q_iconst (v := 1) C dX11_cut_348 (by decide) ?_
                refine q_lald C dX11_cut_349 (wE_65 _ _) h (fun h => ?_)
                refine q_lsub C dX11_cut_350 ?_
                refine q_aload_n C dX11_cut_351 rfl 0 rfl ?_
                refine q_get (j := 41) C dX11_cut_352 (wE_41 _ _) rfl (by decide) rfl inn_X11_cut_11 (by decide +kernel) rfl ?_
                refine q_iconst (v := 2) C dX11_cut_355 (by decide) ?_
                refine q_lald C dX11_cut_356 (wE_65 _ _) h (fun h => ?_)
                refine q_lsub C dX11_cut_357 ?_
                refine q_last C dX11_cut_358 (wE_65 _ _) (wS_65 _ _) h (fun T_38 h => ?_)
                refine q_aload_n C dX11_cut_359 rfl 0 rfl ?_
                refine q_get (j := 19) C dX11_cut_360 (wE_41 _ _) rfl (by decide) rfl inn_X11_cut_11 (by decide +kernel) rfl ?_
                refine q_iload_n C dX11_cut_363 rfl 1 rfl ?_
                refine q_dup2 C dX11_cut_364 rfl rfl ?_
                refine q_iald C dX11_cut_365 (wE_49 _ _) h (fun h => ?_)
                refine q_iconst (v := 1) C dX11_cut_366 (by decide) ?_
                refine q_isub C dX11_cut_367 ?_
                refine q_iast C dX11_cut_368 (wE_49 _ _) (wS_49 _ _) h (fun T_39 h => ?_)
                refine q_aload_n C dX11_cut_369 rfl 0 rfl ?_
                refine q_get (j := 19) C dX11_cut_370 (wE_41 _ _) rfl (by decide) rfl inn_X11_cut_11 (by decide +kernel) rfl ?_
                refine q_iload_n C dX11_cut_373 rfl 1 rfl ?_
                refine q_iald C dX11_cut_374 (wE_49 _ _) h (fun h => ?_)
                refine q_if_ne (tgt := 383) C dX11_cut_375 (by decide) h (fun c h => ?_) (fun c h => ?_)
                · refine q_iconst (v := 0) C dX11_cut_383 (by decide) ?_
                  exact q_ireturn C dX11_cut_384 h
                · refine q_aload_n C dX11_cut_378 rfl 0 rfl ?_
                  refine q_iload_n C dX11_cut_379 rfl 1 rfl ?_
                  obtain ⟨T_40, hc, h⟩ := bv_some h
                  refine q_callV (st' := []) C dX11_cut_380 [.int p0] [] (mtX11_goes l _ n _ _ _ hc) gX11_cut_X11_goes rfl hd_X11_goes (by decide) (by decide) (wE_41 _ _) rfl rfl rfl (Nat.le_of_ble_eq_true rfl) rfl ?_
                  clear hc
                  refine q_iconst (v := 0) C dX11_cut_383 (by decide) ?_
                  exact q_ireturn C dX11_cut_384 h
          · refine q_aload_n C dX11_cut_75 rfl 0 rfl ?_
            refine q_aload C dX11_cut_76 4 rfl ?_
            obtain ⟨r_43, T_42, hc, h⟩ := bd_some h
            refine q_callV (st' := [.int r_43]) C dX11_cut_78 [.ref (ad k.1 (gO T_6 48 (Int32.toNatClampNeg p0)))] [] (mtX11_fitsFlawed l _ n _ _ _ _ hc) gX11_cut_X11_fitsFlawed rfl hd_X11_fitsFlawed (by decide) (by decide) (wE_41 _ _) rfl rfl rfl (Nat.le_of_ble_eq_true rfl) rfl ?_
            clear hc
            refine q_if_ne (tgt := 86) C dX11_cut_81 (by decide) h (fun c h => ?_) (fun c h => ?_)
            · refine q_iload_n C dX11_cut_86 rfl 3 rfl ?_
              refine q_aload_n C dX11_cut_87 rfl 0 rfl ?_
              refine q_get (j := 12) C dX11_cut_88 (wE_41 _ _) rfl (by decide) rfl inn_X11_cut_11 (by decide +kernel) rfl ?_
              refine q_idiv C dX11_cut_91 h (fun h => ?_)
              refine q_nm h (fun x5_44 h => ?_)
              refine q_istore (lv' := [(0, .ref (ad k.1 41)), (1, .int p0), (2, .int p1), (3, .int p2), (4, .ref (ad k.1 (gO T_6 48 (Int32.toNatClampNeg p0)))), (5, .int x5_44)]) C dX11_cut_92 (by decide) rfl ?_
              refine q_iconst (v := 0) C dX11_cut_94 (by decide) ?_
              refine q_istore (lv' := [(0, .ref (ad k.1 41)), (1, .int p0), (2, .int p1), (3, .int p2), (4, .ref (ad k.1 (gO T_6 48 (Int32.toNatClampNeg p0)))), (5, .int x5_44), (6, .int (0 : Int32))]) C dX11_cut_95 (by decide) rfl ?_
              refine q_sub [0, 1, 2, 3, 4, 5, 6] rfl ?_
              refine lpX11_cut_L97 C (fun T_45 h => ?_) _ _ _ h
              refine q_aload_n C dX11_cut_130 rfl 0 rfl ?_
              refine q_get (j := 41) C dX11_cut_131 (wE_41 _ _) rfl (by decide) rfl inn_X11_cut_11 (by decide +kernel) rfl ?_
              refine q_iconst (v := 0) C dX11_cut_134 (by decide) ?_
              refine q_dup2 C dX11_cut_135 rfl rfl ?_
              refine q_lald C dX11_cut_136 (wE_65 _ _) h (fun h => ?_)
              refine q_aload_n C dX11_cut_137 rfl 0 rfl ?_
              refine q_get (j := 1) C dX11_cut_138 (wE_41 _ _) rfl (by decide) rfl inn_X11_cut_11 (by decide +kernel) rfl ?_
              refine q_i2l C dX11_cut_141 ?_
              refine q_aload_n C dX11_cut_142 rfl 0 rfl ?_
              refine q_get (j := 38) C dX11_cut_143 (wE_41 _ _) rfl (by decide) rfl inn_X11_cut_11 (by decide +kernel) rfl ?_
              refine q_iload_n C dX11_cut_146 rfl 2 rfl ?_
              refine q_iald C dX11_cut_147 (wE_62 _ _) h (fun h => ?_)
              refine q_i2l C dX11_cut_148 ?_
              refine q_lmul C dX11_cut_149 ?_
              refine q_ladd C dX11_cut_150 ?_
              refine q_last C dX11_cut_151 (wE_65 _ _) (wS_65 _ _) h (fun T_46 h => ?_)
              refine q_aload_n C dX11_cut_152 rfl 0 rfl ?_
              refine q_get (j := 41) C dX11_cut_153 (wE_41 _ _) rfl (by decide) rfl inn_X11_cut_11 (by decide +kernel) rfl ?_
              refine q_iconst (v := 1) C dX11_cut_156 (by decide) ?_
              refine q_dup2 C dX11_cut_157 rfl rfl ?_
              refine q_lald C dX11_cut_158 (wE_65 _ _) h (fun h => ?_)
              refine q_aload_n C dX11_cut_159 rfl 0 rfl ?_
              refine q_get (j := 12) C dX11_cut_160 (wE_41 _ _) rfl (by decide) rfl inn_X11_cut_11 (by decide +kernel) rfl ?_
              refine q_i2l C dX11_cut_163 ?_
              refine q_iload C dX11_cut_164 5 rfl ?_
              refine q_i2l C dX11_cut_166 ?_
              refine q_lmul C dX11_cut_167 ?_
              refine q_aload_n C dX11_cut_168 rfl 0 rfl ?_
              refine q_aload C dX11_cut_169 4 rfl ?_
              obtain ⟨r_48, T_47, hc, h⟩ := bd_some h
              refine q_callV (st' := [.int r_48, .long ((Int32.toInt64 (gI T_46 2062)) * (Int32.toInt64 x5_44)), .long (gL T_46 65 (Int32.toNatClampNeg (1 : Int32))), .int (1 : Int32), .ref (ad k.1 65)]) C dX11_cut_171 [.ref (ad k.1 (gO T_6 48 (Int32.toNatClampNeg p0)))] [.long ((Int32.toInt64 (gI T_46 2062)) * (Int32.toInt64 x5_44)), .long (gL T_46 65 (Int32.toNatClampNeg (1 : Int32))), .int (1 : Int32), .ref (ad k.1 65)] (mtX11_sumOf l _ n _ _ _ _ hc) gX11_cut_X11_sumOf rfl hd_X11_sumOf (by decide) (by decide) (wE_41 _ _) rfl rfl rfl (Nat.le_of_ble_eq_true rfl) rfl ?_
              clear hc
              refine q_i2l C dX11_cut_174 ?_
              refine q_lmul C dX11_cut_175 ?_
              refine q_ladd C dX11_cut_176 ?_
              refine q_last C dX11_cut_177 (wE_65 _ _) (wS_65 _ _) h (fun T_49 h => ?_)
              refine q_aload_n C dX11_cut_178 rfl 0 rfl ?_
              refine q_get (j := 41) C dX11_cut_179 (wE_41 _ _) rfl (by decide) rfl inn_X11_cut_11 (by decide +kernel) rfl ?_
              refine q_iconst (v := 4) C dX11_cut_182 (by decide) ?_
              refine q_dup2 C dX11_cut_183 rfl rfl ?_
              refine q_lald C dX11_cut_184 (wE_65 _ _) h (fun h => ?_)
              refine q_lconst (v := 1) C dX11_cut_185 (by decide) ?_
              refine q_ladd C dX11_cut_186 ?_
              refine q_last C dX11_cut_187 (wE_65 _ _) (wS_65 _ _) h (fun T_50 h => ?_)
              refine q_aload_n C dX11_cut_188 rfl 0 rfl ?_
              refine q_get (j := 41) C dX11_cut_189 (wE_41 _ _) rfl (by decide) rfl inn_X11_cut_11 (by decide +kernel) rfl ?_
              refine q_iconst (v := 5) C dX11_cut_192 (by decide) ?_
              refine q_dup2 C dX11_cut_193 rfl rfl ?_
              refine q_lald C dX11_cut_194 (wE_65 _ _) h (fun h => ?_)
              refine q_iload C dX11_cut_195 5 rfl ?_
              refine q_i2l C dX11_cut_197 ?_
              refine q_ladd C dX11_cut_198 ?_
              refine q_last C dX11_cut_199 (wE_65 _ _) (wS_65 _ _) h (fun T_51 h => ?_)
              refine q_aload_n C dX11_cut_200 rfl 0 rfl ?_
              refine q_get (j := 41) C dX11_cut_201 (wE_41 _ _) rfl (by decide) rfl inn_X11_cut_11 (by decide +kernel) rfl ?_
              refine q_bipush (v := 6) C dX11_cut_204 (by decide) ?_
              refine q_dup2 C dX11_cut_206 rfl rfl ?_
              refine q_lald C dX11_cut_207 (wE_65 _ _) h (fun h => ?_)
              refine q_aload_n C dX11_cut_208 rfl 0 rfl ?_
              refine q_iconst (v := -1) C dX11_cut_209 (by decide) ?_
              refine q_iload_n C dX11_cut_210 rfl 1 rfl ?_
              obtain ⟨r_53, T_52, hc, h⟩ := bd_some h
              refine q_callV (st' := [.int r_53, .long (gL T_51 65 (Int32.toNatClampNeg (6 : Int32))), .int (6 : Int32), .ref (ad k.1 65)]) C dX11_cut_211 [.int (-1 : Int32), .int p0] [.long (gL T_51 65 (Int32.toNatClampNeg (6 : Int32))), .int (6 : Int32), .ref (ad k.1 65)] (mtX11_moves l _ n _ _ _ _ _ hc) gX11_cut_X11_moves rfl hd_X11_moves (by decide) (by decide) (wE_41 _ _) rfl rfl rfl (Nat.le_of_ble_eq_true rfl) rfl ?_
              clear hc
              refine q_i2l C dX11_cut_214 ?_
              refine q_ladd C dX11_cut_215 ?_
              refine q_last C dX11_cut_216 (wE_65 _ _) (wS_65 _ _) h (fun T_54 h => ?_)
              refine q_aload_n C dX11_cut_217 rfl 0 rfl ?_
              refine q_aload_n C dX11_cut_218 rfl 0 rfl ?_
              refine q_aload C dX11_cut_219 4 rfl ?_
              refine q_aload_n C dX11_cut_221 rfl 0 rfl ?_
              refine q_get (j := 32) C dX11_cut_222 (wE_41 _ _) rfl (by decide) rfl inn_X11_cut_11 (by decide +kernel) rfl ?_
              obtain ⟨r_56, T_55, hc, h⟩ := bd_some h
              refine q_callV (st' := [.int r_56, .ref (ad k.1 41)]) C dX11_cut_225 [.ref (ad k.1 (gO T_6 48 (Int32.toNatClampNeg p0))), .ref (ad k.1 58)] [.ref (ad k.1 41)] (mtX11_cutsOf_58 l _ n _ _ _ _ hc) gX11_cut_X11_cutsOf rfl hd_X11_cutsOf (by decide) (by decide) (wE_41 _ _) rfl rfl rfl (Nat.le_of_ble_eq_true rfl) rfl ?_
              clear hc
              refine q_putI (j := 33) (ty := .int) C dX11_cut_228 (wE_41 _ _) (wP_41_33 _ _ _) rfl (by decide) (Nat.le_of_ble_eq_true rfl) tyX11 tyX11_ok nmX11 inn_X11_cut_11 (by decide +kernel) rfl rfl (by decide +kernel) rfl rfl h (fun T_57 h => ?_)
              refine q_aload_n C dX11_cut_231 rfl 0 rfl ?_
              refine q_get (j := 39) C dX11_cut_232 (wE_41 _ _) rfl (by decide) rfl inn_X11_cut_11 (by decide +kernel) rfl ?_
              refine q_iload_n C dX11_cut_235 rfl 2 rfl ?_
              refine q_dup2 C dX11_cut_236 rfl rfl ?_
              refine q_iald C dX11_cut_237 (wE_63 _ _) h (fun h => ?_)
              refine q_iconst (v := 1) C dX11_cut_238 (by decide) ?_
              refine q_isub C dX11_cut_239 ?_
              refine q_iast C dX11_cut_240 (wE_63 _ _) (wS_63 _ _) h (fun T_58 h => ?_)
              refine q_aload_n C dX11_cut_241 rfl 0 rfl ?_
              refine q_get (j := 38) C dX11_cut_242 (wE_41 _ _) rfl (by decide) rfl inn_X11_cut_11 (by decide +kernel) rfl ?_
              refine q_iload_n C dX11_cut_245 rfl 2 rfl ?_
              refine q_iald C dX11_cut_246 (wE_62 _ _) h (fun h => ?_)
              refine q_iload_n C dX11_cut_247 rfl 3 rfl ?_
              refine q_isub C dX11_cut_248 ?_
              refine q_nm h (fun x6_59 h => ?_)
              refine q_istore (lv' := [(0, .ref (ad k.1 41)), (1, .int p0), (2, .int p1), (3, .int p2), (4, .ref (ad k.1 (gO T_6 48 (Int32.toNatClampNeg p0)))), (5, .int x5_44), (6, .int x6_59)]) C dX11_cut_249 (by decide) rfl ?_
              refine q_iload C dX11_cut_251 6 rfl ?_
              refine q_aload_n C dX11_cut_253 rfl 0 rfl ?_
              refine q_get (j := 12) C dX11_cut_254 (wE_41 _ _) rfl (by decide) rfl inn_X11_cut_11 (by decide +kernel) rfl ?_
              refine q_icmp_lt (tgt := 333) C dX11_cut_257 (by decide) h (fun c h => ?_) (fun c h => ?_)
              · refine q_aload_n C dX11_cut_333 rfl 0 rfl ?_
                refine q_get (j := 41) C dX11_cut_334 (wE_41 _ _) rfl (by decide) rfl inn_X11_cut_11 (by decide +kernel) rfl ?_
                refine q_iconst (v := 3) C dX11_cut_337 (by decide) ?_
                refine q_aload_n C dX11_cut_338 rfl 0 rfl ?_
                refine q_get (j := 41) C dX11_cut_339 (wE_41 _ _) rfl (by decide) rfl inn_X11_cut_11 (by decide +kernel) rfl ?_
                refine q_iconst (v := 0) C dX11_cut_342 (by decide) ?_
                refine q_lald C dX11_cut_343 (wE_65 _ _) h (fun h => ?_)
                refine q_aload_n C dX11_cut_344 rfl 0 rfl ?_
                refine q_get (j := 41) C dX11_cut_345 (wE_41 _ _) rfl (by decide) rfl inn_X11_cut_11 (by decide +kernel) rfl ?_
                refine q_iconst (v := 1) C dX11_cut_348 (by decide) ?_
                refine q_lald C dX11_cut_349 (wE_65 _ _) h (fun h => ?_)
                refine q_lsub C dX11_cut_350 ?_
                refine q_aload_n C dX11_cut_351 rfl 0 rfl ?_
                refine q_get (j := 41) C dX11_cut_352 (wE_41 _ _) rfl (by decide) rfl inn_X11_cut_11 (by decide +kernel) rfl ?_
                refine q_iconst (v := 2) C dX11_cut_355 (by decide) ?_
                refine q_lald C dX11_cut_356 (wE_65 _ _) h (fun h => ?_)
                refine q_lsub C dX11_cut_357 ?_
                refine q_last C dX11_cut_358 (wE_65 _ _) (wS_65 _ _) h (fun T_60 h => ?_)
                refine q_aload_n C dX11_cut_359 rfl 0 rfl ?_
                refine q_get (j := 19) C dX11_cut_360 (wE_41 _ _) rfl (by decide) rfl inn_X11_cut_11 (by decide +kernel) rfl ?_
                refine q_iload_n C dX11_cut_363 rfl 1 rfl ?_
                refine q_dup2 C dX11_cut_364 rfl rfl ?_
                refine q_iald C dX11_cut_365 (wE_49 _ _) h (fun h => ?_)
                refine q_iconst (v := 1) C dX11_cut_366 (by decide) ?_
                refine q_isub C dX11_cut_367 ?_
                refine q_iast C dX11_cut_368 (wE_49 _ _) (wS_49 _ _) h (fun T_61 h => ?_)
                refine q_aload_n C dX11_cut_369 rfl 0 rfl ?_
                refine q_get (j := 19) C dX11_cut_370 (wE_41 _ _) rfl (by decide) rfl inn_X11_cut_11 (by decide +kernel) rfl ?_
                refine q_iload_n C dX11_cut_373 rfl 1 rfl ?_
                refine q_iald C dX11_cut_374 (wE_49 _ _) h (fun h => ?_)
                refine q_if_ne (tgt := 383) C dX11_cut_375 (by decide) h (fun c h => ?_) (fun c h => ?_)
                · refine q_iconst (v := 0) C dX11_cut_383 (by decide) ?_
                  exact q_ireturn C dX11_cut_384 h
                · refine q_aload_n C dX11_cut_378 rfl 0 rfl ?_
                  refine q_iload_n C dX11_cut_379 rfl 1 rfl ?_
                  obtain ⟨T_62, hc, h⟩ := bv_some h
                  refine q_callV (st' := []) C dX11_cut_380 [.int p0] [] (mtX11_goes l _ n _ _ _ hc) gX11_cut_X11_goes rfl hd_X11_goes (by decide) (by decide) (wE_41 _ _) rfl rfl rfl (Nat.le_of_ble_eq_true rfl) rfl ?_
                  clear hc
                  refine q_iconst (v := 0) C dX11_cut_383 (by decide) ?_
                  exact q_ireturn C dX11_cut_384 h
              · refine q_aload_n C dX11_cut_260 rfl 0 rfl ?_
                refine q_get (j := 37) C dX11_cut_261 (wE_41 _ _) rfl (by decide) rfl inn_X11_cut_11 (by decide +kernel) rfl ?_
                refine q_bipush (v := 8) C dX11_cut_264 (by decide) ?_
                refine q_icmp_ge (tgt := 333) C dX11_cut_266 (by decide) h (fun c h => ?_) (fun c h => ?_)
                · refine q_aload_n C dX11_cut_333 rfl 0 rfl ?_
                  refine q_get (j := 41) C dX11_cut_334 (wE_41 _ _) rfl (by decide) rfl inn_X11_cut_11 (by decide +kernel) rfl ?_
                  refine q_iconst (v := 3) C dX11_cut_337 (by decide) ?_
                  refine q_aload_n C dX11_cut_338 rfl 0 rfl ?_
                  refine q_get (j := 41) C dX11_cut_339 (wE_41 _ _) rfl (by decide) rfl inn_X11_cut_11 (by decide +kernel) rfl ?_
                  refine q_iconst (v := 0) C dX11_cut_342 (by decide) ?_
                  refine q_lald C dX11_cut_343 (wE_65 _ _) h (fun h => ?_)
                  refine q_aload_n C dX11_cut_344 rfl 0 rfl ?_
                  refine q_get (j := 41) C dX11_cut_345 (wE_41 _ _) rfl (by decide) rfl inn_X11_cut_11 (by decide +kernel) rfl ?_
                  refine q_iconst (v := 1) C dX11_cut_348 (by decide) ?_
                  refine q_lald C dX11_cut_349 (wE_65 _ _) h (fun h => ?_)
                  refine q_lsub C dX11_cut_350 ?_
                  refine q_aload_n C dX11_cut_351 rfl 0 rfl ?_
                  refine q_get (j := 41) C dX11_cut_352 (wE_41 _ _) rfl (by decide) rfl inn_X11_cut_11 (by decide +kernel) rfl ?_
                  refine q_iconst (v := 2) C dX11_cut_355 (by decide) ?_
                  refine q_lald C dX11_cut_356 (wE_65 _ _) h (fun h => ?_)
                  refine q_lsub C dX11_cut_357 ?_
                  refine q_last C dX11_cut_358 (wE_65 _ _) (wS_65 _ _) h (fun T_64 h => ?_)
                  refine q_aload_n C dX11_cut_359 rfl 0 rfl ?_
                  refine q_get (j := 19) C dX11_cut_360 (wE_41 _ _) rfl (by decide) rfl inn_X11_cut_11 (by decide +kernel) rfl ?_
                  refine q_iload_n C dX11_cut_363 rfl 1 rfl ?_
                  refine q_dup2 C dX11_cut_364 rfl rfl ?_
                  refine q_iald C dX11_cut_365 (wE_49 _ _) h (fun h => ?_)
                  refine q_iconst (v := 1) C dX11_cut_366 (by decide) ?_
                  refine q_isub C dX11_cut_367 ?_
                  refine q_iast C dX11_cut_368 (wE_49 _ _) (wS_49 _ _) h (fun T_65 h => ?_)
                  refine q_aload_n C dX11_cut_369 rfl 0 rfl ?_
                  refine q_get (j := 19) C dX11_cut_370 (wE_41 _ _) rfl (by decide) rfl inn_X11_cut_11 (by decide +kernel) rfl ?_
                  refine q_iload_n C dX11_cut_373 rfl 1 rfl ?_
                  refine q_iald C dX11_cut_374 (wE_49 _ _) h (fun h => ?_)
                  refine q_if_ne (tgt := 383) C dX11_cut_375 (by decide) h (fun c h => ?_) (fun c h => ?_)
                  · refine q_iconst (v := 0) C dX11_cut_383 (by decide) ?_
                    exact q_ireturn C dX11_cut_384 h
                  · refine q_aload_n C dX11_cut_378 rfl 0 rfl ?_
                    refine q_iload_n C dX11_cut_379 rfl 1 rfl ?_
                    obtain ⟨T_66, hc, h⟩ := bv_some h
                    refine q_callV (st' := []) C dX11_cut_380 [.int p0] [] (mtX11_goes l _ n _ _ _ hc) gX11_cut_X11_goes rfl hd_X11_goes (by decide) (by decide) (wE_41 _ _) rfl rfl rfl (Nat.le_of_ble_eq_true rfl) rfl ?_
                    clear hc
                    refine q_iconst (v := 0) C dX11_cut_383 (by decide) ?_
                    exact q_ireturn C dX11_cut_384 h
                · refine q_aload_n C dX11_cut_269 rfl 0 rfl ?_
                  refine q_get (j := 41) C dX11_cut_270 (wE_41 _ _) rfl (by decide) rfl inn_X11_cut_11 (by decide +kernel) rfl ?_
                  refine q_iconst (v := 2) C dX11_cut_273 (by decide) ?_
                  refine q_dup2 C dX11_cut_274 rfl rfl ?_
                  refine q_lald C dX11_cut_275 (wE_65 _ _) h (fun h => ?_)
                  refine q_aload_n C dX11_cut_276 rfl 0 rfl ?_
                  refine q_get (j := 1) C dX11_cut_277 (wE_41 _ _) rfl (by decide) rfl inn_X11_cut_11 (by decide +kernel) rfl ?_
                  refine q_i2l C dX11_cut_280 ?_
                  refine q_iload C dX11_cut_281 6 rfl ?_
                  refine q_i2l C dX11_cut_283 ?_
                  refine q_lmul C dX11_cut_284 ?_
                  refine q_ladd C dX11_cut_285 ?_
                  refine q_last C dX11_cut_286 (wE_65 _ _) (wS_65 _ _) h (fun T_68 h => ?_)
                  refine q_aload_n C dX11_cut_287 rfl 0 rfl ?_
                  refine q_get (j := 38) C dX11_cut_288 (wE_41 _ _) rfl (by decide) rfl inn_X11_cut_11 (by decide +kernel) rfl ?_
                  refine q_aload_n C dX11_cut_291 rfl 0 rfl ?_
                  refine q_get (j := 37) C dX11_cut_292 (wE_41 _ _) rfl (by decide) rfl inn_X11_cut_11 (by decide +kernel) rfl ?_
                  refine q_iload C dX11_cut_295 6 rfl ?_
                  refine q_iast C dX11_cut_297 (wE_62 _ _) (wS_62 _ _) h (fun T_69 h => ?_)
                  refine q_aload_n C dX11_cut_298 rfl 0 rfl ?_
                  refine q_get (j := 39) C dX11_cut_299 (wE_41 _ _) rfl (by decide) rfl inn_X11_cut_11 (by decide +kernel) rfl ?_
                  refine q_aload_n C dX11_cut_302 rfl 0 rfl ?_
                  refine q_get (j := 37) C dX11_cut_303 (wE_41 _ _) rfl (by decide) rfl inn_X11_cut_11 (by decide +kernel) rfl ?_
                  refine q_iconst (v := 1) C dX11_cut_306 (by decide) ?_
                  refine q_iast C dX11_cut_307 (wE_63 _ _) (wS_63 _ _) h (fun T_70 h => ?_)
                  refine q_aload_n C dX11_cut_308 rfl 0 rfl ?_
                  refine q_get (j := 40) C dX11_cut_309 (wE_41 _ _) rfl (by decide) rfl inn_X11_cut_11 (by decide +kernel) rfl ?_
                  refine q_aload_n C dX11_cut_312 rfl 0 rfl ?_
                  refine q_get (j := 37) C dX11_cut_313 (wE_41 _ _) rfl (by decide) rfl inn_X11_cut_11 (by decide +kernel) rfl ?_
                  refine q_aload_n C dX11_cut_316 rfl 0 rfl ?_
                  refine q_get (j := 40) C dX11_cut_317 (wE_41 _ _) rfl (by decide) rfl inn_X11_cut_11 (by decide +kernel) rfl ?_
                  refine q_iload_n C dX11_cut_320 rfl 2 rfl ?_
                  refine q_zald C dX11_cut_321 (wE_64 _ _) h (fun h => ?_)
                  refine q_zast C dX11_cut_322 (wE_64 _ _) (wS_64 _ _) h (fun T_71 h => ?_)
                  refine q_aload_n C dX11_cut_323 rfl 0 rfl ?_
                  refine q_dup C dX11_cut_324 rfl ?_
                  refine q_get (j := 37) C dX11_cut_325 (wE_41 _ _) rfl (by decide) rfl inn_X11_cut_11 (by decide +kernel) rfl ?_
                  refine q_iconst (v := 1) C dX11_cut_328 (by decide) ?_
                  refine q_iadd C dX11_cut_329 ?_
                  refine q_putI (j := 37) (ty := .int) C dX11_cut_330 (wE_41 _ _) (wP_41_37 _ _ _) rfl (by decide) (Nat.le_of_ble_eq_true rfl) tyX11 tyX11_ok nmX11 inn_X11_cut_11 (by decide +kernel) rfl rfl (by decide +kernel) rfl rfl h (fun T_72 h => ?_)
                  refine q_aload_n C dX11_cut_333 rfl 0 rfl ?_
                  refine q_get (j := 41) C dX11_cut_334 (wE_41 _ _) rfl (by decide) rfl inn_X11_cut_11 (by decide +kernel) rfl ?_
                  refine q_iconst (v := 3) C dX11_cut_337 (by decide) ?_
                  refine q_aload_n C dX11_cut_338 rfl 0 rfl ?_
                  refine q_get (j := 41) C dX11_cut_339 (wE_41 _ _) rfl (by decide) rfl inn_X11_cut_11 (by decide +kernel) rfl ?_
                  refine q_iconst (v := 0) C dX11_cut_342 (by decide) ?_
                  refine q_lald C dX11_cut_343 (wE_65 _ _) h (fun h => ?_)
                  refine q_aload_n C dX11_cut_344 rfl 0 rfl ?_
                  refine q_get (j := 41) C dX11_cut_345 (wE_41 _ _) rfl (by decide) rfl inn_X11_cut_11 (by decide +kernel) rfl ?_
                  refine q_iconst (v := 1) C dX11_cut_348 (by decide) ?_
                  refine q_lald C dX11_cut_349 (wE_65 _ _) h (fun h => ?_)
                  refine q_lsub C dX11_cut_350 ?_
                  refine q_aload_n C dX11_cut_351 rfl 0 rfl ?_
                  refine q_get (j := 41) C dX11_cut_352 (wE_41 _ _) rfl (by decide) rfl inn_X11_cut_11 (by decide +kernel) rfl ?_
                  refine q_iconst (v := 2) C dX11_cut_355 (by decide) ?_
                  refine q_lald C dX11_cut_356 (wE_65 _ _) h (fun h => ?_)
                  refine q_lsub C dX11_cut_357 ?_
                  refine q_last C dX11_cut_358 (wE_65 _ _) (wS_65 _ _) h (fun T_73 h => ?_)
                  refine q_aload_n C dX11_cut_359 rfl 0 rfl ?_
                  refine q_get (j := 19) C dX11_cut_360 (wE_41 _ _) rfl (by decide) rfl inn_X11_cut_11 (by decide +kernel) rfl ?_
                  refine q_iload_n C dX11_cut_363 rfl 1 rfl ?_
                  refine q_dup2 C dX11_cut_364 rfl rfl ?_
                  refine q_iald C dX11_cut_365 (wE_49 _ _) h (fun h => ?_)
                  refine q_iconst (v := 1) C dX11_cut_366 (by decide) ?_
                  refine q_isub C dX11_cut_367 ?_
                  refine q_iast C dX11_cut_368 (wE_49 _ _) (wS_49 _ _) h (fun T_74 h => ?_)
                  refine q_aload_n C dX11_cut_369 rfl 0 rfl ?_
                  refine q_get (j := 19) C dX11_cut_370 (wE_41 _ _) rfl (by decide) rfl inn_X11_cut_11 (by decide +kernel) rfl ?_
                  refine q_iload_n C dX11_cut_373 rfl 1 rfl ?_
                  refine q_iald C dX11_cut_374 (wE_49 _ _) h (fun h => ?_)
                  refine q_if_ne (tgt := 383) C dX11_cut_375 (by decide) h (fun c h => ?_) (fun c h => ?_)
                  · refine q_iconst (v := 0) C dX11_cut_383 (by decide) ?_
                    exact q_ireturn C dX11_cut_384 h
                  · refine q_aload_n C dX11_cut_378 rfl 0 rfl ?_
                    refine q_iload_n C dX11_cut_379 rfl 1 rfl ?_
                    obtain ⟨T_75, hc, h⟩ := bv_some h
                    refine q_callV (st' := []) C dX11_cut_380 [.int p0] [] (mtX11_goes l _ n _ _ _ hc) gX11_cut_X11_goes rfl hd_X11_goes (by decide) (by decide) (wE_41 _ _) rfl rfl rfl (Nat.le_of_ble_eq_true rfl) rfl ?_
                    clear hc
                    refine q_iconst (v := 0) C dX11_cut_383 (by decide) ?_
                    exact q_ireturn C dX11_cut_384 h
            · refine q_iconst (v := 5) C dX11_cut_84 (by decide) ?_
              exact q_ireturn C dX11_cut_85 h
        · refine q_iconst (v := 4) C dX11_cut_56 (by decide) ?_
          exact q_ireturn C dX11_cut_57 h
      · refine q_iconst (v := 3) C dX11_cut_40 (by decide) ?_
        exact q_ireturn C dX11_cut_41 h
    · refine q_iconst (v := 2) C dX11_cut_29 (by decide) ?_
      exact q_ireturn C dX11_cut_30 h
  · refine q_iconst (v := 1) C dX11_cut_13 (by decide) ?_
    exact q_ireturn C dX11_cut_14 h
def fX11_area (n : Nat) (p0 : Int32) (T : TS) : Option (Int64 × TS) := nm (uI T 2050 (0 : Int32)) (fun T_1 => bd (fX11_in n p0 (0 : Int32) (6 : Int32) T_1) (fun r_3 T_2 => if r_3 = 0 then some ((-1 : Int64), T_2) else ck p0 7 (some ((gL T_2 65 (Int32.toNatClampNeg p0)), T_2))))
set_option maxHeartbeats 4000000 in
set_option maxRecDepth 100000 in
theorem mtX11_area (l : Launch) (X : XT) (n : Nat) (p0 : Int32) (T T' : TS) (r : Int64) (h : fX11_area n p0 T = some (r, T')) : Met l yX11_area wsX11_area (RM 1) (PreX X [.ref (ad X 41), .int p0] T) (QQ X (some (.long r)) T') 0 0 (xA X) := by
  refine q_start (by decide) rfl (Nat.le_of_ble_eq_true rfl) ?_
  intro k hk C
  subst hk
  show GW k T 0 [(0, .ref (ad k.1 41)), (1, .int p0)] []
  unfold fX11_area at h
  refine q_aload_n C dX11_area_0 rfl 0 rfl ?_
  refine q_iconst (v := 0) C dX11_area_1 (by decide) ?_
  refine q_putI (j := 0) (ty := .int) C dX11_area_2 (wE_41 _ _) (wP_41_0 _ _ _) rfl (by decide) (Nat.le_of_ble_eq_true rfl) tyX11 tyX11_ok nmX11 inn_X11_area_11 (by decide +kernel) rfl rfl (by decide +kernel) rfl rfl h (fun T_1 h => ?_)
  refine q_iload_n C dX11_area_5 rfl 1 rfl ?_
  refine q_iconst (v := 0) C dX11_area_6 (by decide) ?_
  refine q_bipush (v := 6) C dX11_area_7 (by decide) ?_
  obtain ⟨r_3, T_2, hc, h⟩ := bd_some h
  refine q_callS (st' := [.int r_3]) C dX11_area_9 [.int p0, .int (0 : Int32), .int (6 : Int32)] [] (mtX11_in l _ n _ _ _ _ _ _ hc) gX11_area_X11_in rfl hd_X11_in (by decide) (by decide) rfl rfl (Nat.le_of_ble_eq_true rfl) rfl ?_
  clear hc
  refine q_if_eq (tgt := 24) C dX11_area_12 (by decide) h (fun c h => ?_) (fun c h => ?_)
  · refine q_ldc2 (v := -1) C dX11_area_24 (by decide +kernel) ?_
    exact q_lreturn C dX11_area_27 h
  · refine q_aload_n C dX11_area_15 rfl 0 rfl ?_
    refine q_get (j := 41) C dX11_area_16 (wE_41 _ _) rfl (by decide) rfl inn_X11_area_11 (by decide +kernel) rfl ?_
    refine q_iload_n C dX11_area_19 rfl 1 rfl ?_
    refine q_lald C dX11_area_20 (wE_65 _ _) h (fun h => ?_)
    refine q_goto (tgt := 27) C dX11_area_21 (by decide) ?_
    exact q_lreturn C dX11_area_27 h
def fX11_copy_48_49_52_53_L12 (n : Nat) (y2 : Int32) (y5 : Int32) (kk : TS → Option (TS)) : Nat → Int32 → TS → Option (TS)
  | 0, _, _ => none
  | fuel + 1, x6, T => if (6 : Int32) ≤ x6 then kk T else ck y5 60 (ck y5 60 (ak (gO T 48 (Int32.toNatClampNeg y5)) (ck x6 (al (gO T 48 (Int32.toNatClampNeg y5))) (ak (gO T 52 (Int32.toNatClampNeg y5)) (ck x6 (al (gO T 52 (Int32.toNatClampNeg y5))) (nm (sA T (gO T 52 (Int32.toNatClampNeg y5)) x6 (gA T (gO T 48 (Int32.toNatClampNeg y5)) (Int32.toNatClampNeg x6))) (fun T_1 => fX11_copy_48_49_52_53_L12 n y2 y5 kk fuel (x6 + 1) T_1)))))))
set_option maxHeartbeats 4000000 in
set_option maxRecDepth 100000 in
theorem lpX11_copy_48_49_52_53_L12 {l : Launch} {k : KT} {n : Nat} {y2 : Int32} {y5 : Int32} {kk : TS → Option (TS)} {T' : TS} (C : CX l k 7 cX11_copy RX11 wsX11_copy 0 none (none, T')) (hk : ∀ T1, kk T1 = some T' → GW k T1 39 [(0, .ref (ad k.1 48)), (1, .ref (ad k.1 49)), (2, .int y2), (3, .ref (ad k.1 52)), (4, .ref (ad k.1 53)), (5, .int y5)] []) : ∀ (fuel : Nat) (x6 : Int32) (T : TS), fX11_copy_48_49_52_53_L12 n y2 y5 kk fuel x6 T = some T' → GW k T 12 [(0, .ref (ad k.1 48)), (1, .ref (ad k.1 49)), (2, .int y2), (3, .ref (ad k.1 52)), (4, .ref (ad k.1 53)), (5, .int y5), (6, .int x6)] [] := by
  intro fuel
  induction fuel with
  | zero => intro x6 T h; cases h
  | succ fuel ih =>
    intro x6 T h
    rw [fX11_copy_48_49_52_53_L12] at h
    refine q_iload C dX11_copy_12 6 rfl ?_
    refine q_bipush (v := 6) C dX11_copy_14 (by decide) ?_
    refine q_icmp_ge (tgt := 39) C dX11_copy_16 (by decide) h (fun c h => ?_) (fun c h => ?_)
    · refine q_sub [0, 1, 2, 3, 4, 5] rfl ?_
      exact hk _ h
    · refine q_aload_n C dX11_copy_19 rfl 3 rfl ?_
      refine q_iload C dX11_copy_20 5 rfl ?_
      refine q_aald C dX11_copy_22 (wE_52 _ _) h (fun h => ?_)
      refine q_iload C dX11_copy_23 6 rfl ?_
      refine q_aload_n C dX11_copy_25 rfl 0 rfl ?_
      refine q_iload C dX11_copy_26 5 rfl ?_
      refine q_aald C dX11_copy_28 (wE_48 _ _) h (fun h => ?_)
      refine q_iload C dX11_copy_29 6 rfl ?_
      refine q_ialdG C dX11_copy_31 h (fun h => ?_)
      refine q_iastG C dX11_copy_32 h (fun T_1 h => ?_)
      refine q_iinc (j := 6) (v := 1) (lv' := [(0, .ref (ad k.1 48)), (1, .ref (ad k.1 49)), (2, .int y2), (3, .ref (ad k.1 52)), (4, .ref (ad k.1 53)), (5, .int y5), (6, .int (x6 + 1))]) C dX11_copy_33 rfl (by decide) (by decide) rfl ?_
      refine q_goto (tgt := 12) C dX11_copy_36 (by decide) ?_
      refine q_sub [0, 1, 2, 3, 4, 5, 6] rfl ?_
      exact ih _ _ h
def fX11_copy_48_49_52_53_L3 (n : Nat) (y2 : Int32) (kk : TS → Option (TS)) : Nat → Int32 → TS → Option (TS)
  | 0, _, _ => none
  | fuel + 1, x5, T => if y2 ≤ x5 then kk T else fX11_copy_48_49_52_53_L12 n y2 x5 (fun T_2 => ck x5 60 (ck x5 60 (nm (sA T_2 53 x5 (gA T_2 49 (Int32.toNatClampNeg x5))) (fun T_3 => fX11_copy_48_49_52_53_L3 n y2 kk fuel (x5 + 1) T_3)))) n (0 : Int32) T
set_option maxHeartbeats 4000000 in
set_option maxRecDepth 100000 in
theorem lpX11_copy_48_49_52_53_L3 {l : Launch} {k : KT} {n : Nat} {y2 : Int32} {kk : TS → Option (TS)} {T' : TS} (C : CX l k 7 cX11_copy RX11 wsX11_copy 0 none (none, T')) (hk : ∀ T1, kk T1 = some T' → GW k T1 54 [] []) : ∀ (fuel : Nat) (x5 : Int32) (T : TS), fX11_copy_48_49_52_53_L3 n y2 kk fuel x5 T = some T' → GW k T 3 [(0, .ref (ad k.1 48)), (1, .ref (ad k.1 49)), (2, .int y2), (3, .ref (ad k.1 52)), (4, .ref (ad k.1 53)), (5, .int x5)] [] := by
  intro fuel
  induction fuel with
  | zero => intro x5 T h; cases h
  | succ fuel ih =>
    intro x5 T h
    rw [fX11_copy_48_49_52_53_L3] at h
    refine q_iload C dX11_copy_3 5 rfl ?_
    refine q_iload_n C dX11_copy_5 rfl 2 rfl ?_
    refine q_icmp_ge (tgt := 54) C dX11_copy_6 (by decide) h (fun c h => ?_) (fun c h => ?_)
    · refine q_sub [] rfl ?_
      exact hk _ h
    · refine q_iconst (v := 0) C dX11_copy_9 (by decide) ?_
      refine q_istore (lv' := [(0, .ref (ad k.1 48)), (1, .ref (ad k.1 49)), (2, .int y2), (3, .ref (ad k.1 52)), (4, .ref (ad k.1 53)), (5, .int x5), (6, .int (0 : Int32))]) C dX11_copy_10 (by decide) rfl ?_
      refine q_sub [0, 1, 2, 3, 4, 5, 6] rfl ?_
      refine lpX11_copy_48_49_52_53_L12 C (fun T_2 h => ?_) _ _ _ h
      refine q_aload C dX11_copy_39 4 rfl ?_
      refine q_iload C dX11_copy_41 5 rfl ?_
      refine q_aload_n C dX11_copy_43 rfl 1 rfl ?_
      refine q_iload C dX11_copy_44 5 rfl ?_
      refine q_iald C dX11_copy_46 (wE_49 _ _) h (fun h => ?_)
      refine q_iast C dX11_copy_47 (wE_53 _ _) (wS_53 _ _) h (fun T_3 h => ?_)
      refine q_iinc (j := 5) (v := 1) (lv' := [(0, .ref (ad k.1 48)), (1, .ref (ad k.1 49)), (2, .int y2), (3, .ref (ad k.1 52)), (4, .ref (ad k.1 53)), (5, .int (x5 + 1))]) C dX11_copy_48 rfl (by decide) (by decide) rfl ?_
      refine q_goto (tgt := 3) C dX11_copy_51 (by decide) ?_
      refine q_sub [0, 1, 2, 3, 4, 5] rfl ?_
      exact ih _ _ h
def fX11_copy_48_49_52_53 (n : Nat) (p2 : Int32) (T : TS) : Option (TS) := fX11_copy_48_49_52_53_L3 n p2 (fun T_4 => some T_4) n (0 : Int32) T
set_option maxHeartbeats 4000000 in
set_option maxRecDepth 100000 in
theorem mtX11_copy_48_49_52_53 (l : Launch) (X : XT) (n : Nat) (p2 : Int32) (T T' : TS) (h : fX11_copy_48_49_52_53 n p2 T = some T') : Met l yX11_copy wsX11_copy (RM 0) (PreX X [.ref (ad X 48), .ref (ad X 49), .int p2, .ref (ad X 52), .ref (ad X 53)] T) (QQ X none T') 0 0 (xA X) := by
  refine q_start (by decide) rfl (Nat.le_of_ble_eq_true rfl) ?_
  intro k hk C
  subst hk
  show GW k T 0 [(0, .ref (ad k.1 48)), (1, .ref (ad k.1 49)), (2, .int p2), (3, .ref (ad k.1 52)), (4, .ref (ad k.1 53))] []
  unfold fX11_copy_48_49_52_53 at h
  refine q_iconst (v := 0) C dX11_copy_0 (by decide) ?_
  refine q_istore (lv' := [(0, .ref (ad k.1 48)), (1, .ref (ad k.1 49)), (2, .int p2), (3, .ref (ad k.1 52)), (4, .ref (ad k.1 53)), (5, .int (0 : Int32))]) C dX11_copy_1 (by decide) rfl ?_
  refine q_sub [0, 1, 2, 3, 4, 5] rfl ?_
  refine lpX11_copy_48_49_52_53_L3 C (fun T_4 h => ?_) _ _ _ h
  exact q_vreturn C dX11_copy_54 h
def fX11_keep (n : Nat) (T : TS) : Option (TS) := nm (uI T 2050 (0 : Int32)) (fun T_1 => nm (uI T_1 2073 (1 : Int32)) (fun T_2 => nm (uI T_2 2074 (0 : Int32)) (fun T_3 => nm (uI T_3 2075 (gI T_3 2067)) (fun T_4 => bv (fX11_copy_48_49_52_53 n (gI T_4 2067) T_4) (fun T_5 => some T_5)))))
set_option maxHeartbeats 4000000 in
set_option maxRecDepth 100000 in
theorem mtX11_keep (l : Launch) (X : XT) (n : Nat) (T T' : TS) (h : fX11_keep n T = some T') : Met l yX11_keep wsX11_keep (RM 1) (PreX X [.ref (ad X 41)] T) (QQ X none T') 0 0 (xA X) := by
  refine q_start (by decide) rfl (Nat.le_of_ble_eq_true rfl) ?_
  intro k hk C
  subst hk
  show GW k T 0 [(0, .ref (ad k.1 41))] []
  unfold fX11_keep at h
  refine q_aload_n C dX11_keep_0 rfl 0 rfl ?_
  refine q_iconst (v := 0) C dX11_keep_1 (by decide) ?_
  refine q_putI (j := 0) (ty := .int) C dX11_keep_2 (wE_41 _ _) (wP_41_0 _ _ _) rfl (by decide) (Nat.le_of_ble_eq_true rfl) tyX11 tyX11_ok nmX11 inn_X11_keep_11 (by decide +kernel) rfl rfl (by decide +kernel) rfl rfl h (fun T_1 h => ?_)
  refine q_aload_n C dX11_keep_5 rfl 0 rfl ?_
  refine q_iconst (v := 1) C dX11_keep_6 (by decide) ?_
  refine q_putI (j := 23) (ty := .boolean) C dX11_keep_7 (wE_41 _ _) (wP_41_23 _ _ _) rfl (by decide) (Nat.le_of_ble_eq_true rfl) tyX11 tyX11_ok nmX11 inn_X11_keep_11 (by decide +kernel) rfl rfl (by decide +kernel) rfl rfl h (fun T_2 h => ?_)
  refine q_aload_n C dX11_keep_10 rfl 0 rfl ?_
  refine q_iconst (v := 0) C dX11_keep_11 (by decide) ?_
  refine q_putI (j := 24) (ty := .boolean) C dX11_keep_12 (wE_41 _ _) (wP_41_24 _ _ _) rfl (by decide) (Nat.le_of_ble_eq_true rfl) tyX11 tyX11_ok nmX11 inn_X11_keep_11 (by decide +kernel) rfl rfl (by decide +kernel) rfl rfl h (fun T_3 h => ?_)
  refine q_aload_n C dX11_keep_15 rfl 0 rfl ?_
  refine q_aload_n C dX11_keep_16 rfl 0 rfl ?_
  refine q_get (j := 17) C dX11_keep_17 (wE_41 _ _) rfl (by decide) rfl inn_X11_keep_11 (by decide +kernel) rfl ?_
  refine q_putI (j := 25) (ty := .int) C dX11_keep_20 (wE_41 _ _) (wP_41_25 _ _ _) rfl (by decide) (Nat.le_of_ble_eq_true rfl) tyX11 tyX11_ok nmX11 inn_X11_keep_11 (by decide +kernel) rfl rfl (by decide +kernel) rfl rfl h (fun T_4 h => ?_)
  refine q_aload_n C dX11_keep_23 rfl 0 rfl ?_
  refine q_get (j := 18) C dX11_keep_24 (wE_41 _ _) rfl (by decide) rfl inn_X11_keep_11 (by decide +kernel) rfl ?_
  refine q_aload_n C dX11_keep_27 rfl 0 rfl ?_
  refine q_get (j := 19) C dX11_keep_28 (wE_41 _ _) rfl (by decide) rfl inn_X11_keep_11 (by decide +kernel) rfl ?_
  refine q_aload_n C dX11_keep_31 rfl 0 rfl ?_
  refine q_get (j := 17) C dX11_keep_32 (wE_41 _ _) rfl (by decide) rfl inn_X11_keep_11 (by decide +kernel) rfl ?_
  refine q_aload_n C dX11_keep_35 rfl 0 rfl ?_
  refine q_get (j := 26) C dX11_keep_36 (wE_41 _ _) rfl (by decide) rfl inn_X11_keep_11 (by decide +kernel) rfl ?_
  refine q_aload_n C dX11_keep_39 rfl 0 rfl ?_
  refine q_get (j := 27) C dX11_keep_40 (wE_41 _ _) rfl (by decide) rfl inn_X11_keep_11 (by decide +kernel) rfl ?_
  obtain ⟨T_5, hc, h⟩ := bv_some h
  refine q_callS (st' := []) C dX11_keep_43 [.ref (ad k.1 48), .ref (ad k.1 49), .int (gI T_4 2067), .ref (ad k.1 52), .ref (ad k.1 53)] [] (mtX11_copy_48_49_52_53 l _ n _ _ _ hc) gX11_keep_X11_copy rfl hd_X11_copy (by decide) (by decide) rfl rfl (Nat.le_of_ble_eq_true rfl) rfl ?_
  clear hc
  exact q_vreturn C dX11_keep_46 h
def fX11_copy_52_53_48_49_L12 (n : Nat) (y2 : Int32) (y5 : Int32) (kk : TS → Option (TS)) : Nat → Int32 → TS → Option (TS)
  | 0, _, _ => none
  | fuel + 1, x6, T => if (6 : Int32) ≤ x6 then kk T else ck y5 60 (ck y5 60 (ak (gO T 52 (Int32.toNatClampNeg y5)) (ck x6 (al (gO T 52 (Int32.toNatClampNeg y5))) (ak (gO T 48 (Int32.toNatClampNeg y5)) (ck x6 (al (gO T 48 (Int32.toNatClampNeg y5))) (nm (sA T (gO T 48 (Int32.toNatClampNeg y5)) x6 (gA T (gO T 52 (Int32.toNatClampNeg y5)) (Int32.toNatClampNeg x6))) (fun T_1 => fX11_copy_52_53_48_49_L12 n y2 y5 kk fuel (x6 + 1) T_1)))))))
set_option maxHeartbeats 4000000 in
set_option maxRecDepth 100000 in
theorem lpX11_copy_52_53_48_49_L12 {l : Launch} {k : KT} {n : Nat} {y2 : Int32} {y5 : Int32} {kk : TS → Option (TS)} {T' : TS} (C : CX l k 7 cX11_copy RX11 wsX11_copy 0 none (none, T')) (hk : ∀ T1, kk T1 = some T' → GW k T1 39 [(0, .ref (ad k.1 52)), (1, .ref (ad k.1 53)), (2, .int y2), (3, .ref (ad k.1 48)), (4, .ref (ad k.1 49)), (5, .int y5)] []) : ∀ (fuel : Nat) (x6 : Int32) (T : TS), fX11_copy_52_53_48_49_L12 n y2 y5 kk fuel x6 T = some T' → GW k T 12 [(0, .ref (ad k.1 52)), (1, .ref (ad k.1 53)), (2, .int y2), (3, .ref (ad k.1 48)), (4, .ref (ad k.1 49)), (5, .int y5), (6, .int x6)] [] := by
  intro fuel
  induction fuel with
  | zero => intro x6 T h; cases h
  | succ fuel ih =>
    intro x6 T h
    rw [fX11_copy_52_53_48_49_L12] at h
    refine q_iload C dX11_copy_12 6 rfl ?_
    refine q_bipush (v := 6) C dX11_copy_14 (by decide) ?_
    refine q_icmp_ge (tgt := 39) C dX11_copy_16 (by decide) h (fun c h => ?_) (fun c h => ?_)
    · refine q_sub [0, 1, 2, 3, 4, 5] rfl ?_
      exact hk _ h
    · refine q_aload_n C dX11_copy_19 rfl 3 rfl ?_
      refine q_iload C dX11_copy_20 5 rfl ?_
      refine q_aald C dX11_copy_22 (wE_48 _ _) h (fun h => ?_)
      refine q_iload C dX11_copy_23 6 rfl ?_
      refine q_aload_n C dX11_copy_25 rfl 0 rfl ?_
      refine q_iload C dX11_copy_26 5 rfl ?_
      refine q_aald C dX11_copy_28 (wE_52 _ _) h (fun h => ?_)
      refine q_iload C dX11_copy_29 6 rfl ?_
      refine q_ialdG C dX11_copy_31 h (fun h => ?_)
      refine q_iastG C dX11_copy_32 h (fun T_1 h => ?_)
      refine q_iinc (j := 6) (v := 1) (lv' := [(0, .ref (ad k.1 52)), (1, .ref (ad k.1 53)), (2, .int y2), (3, .ref (ad k.1 48)), (4, .ref (ad k.1 49)), (5, .int y5), (6, .int (x6 + 1))]) C dX11_copy_33 rfl (by decide) (by decide) rfl ?_
      refine q_goto (tgt := 12) C dX11_copy_36 (by decide) ?_
      refine q_sub [0, 1, 2, 3, 4, 5, 6] rfl ?_
      exact ih _ _ h
def fX11_copy_52_53_48_49_L3 (n : Nat) (y2 : Int32) (kk : TS → Option (TS)) : Nat → Int32 → TS → Option (TS)
  | 0, _, _ => none
  | fuel + 1, x5, T => if y2 ≤ x5 then kk T else fX11_copy_52_53_48_49_L12 n y2 x5 (fun T_2 => ck x5 60 (ck x5 60 (nm (sA T_2 49 x5 (gA T_2 53 (Int32.toNatClampNeg x5))) (fun T_3 => fX11_copy_52_53_48_49_L3 n y2 kk fuel (x5 + 1) T_3)))) n (0 : Int32) T
set_option maxHeartbeats 4000000 in
set_option maxRecDepth 100000 in
theorem lpX11_copy_52_53_48_49_L3 {l : Launch} {k : KT} {n : Nat} {y2 : Int32} {kk : TS → Option (TS)} {T' : TS} (C : CX l k 7 cX11_copy RX11 wsX11_copy 0 none (none, T')) (hk : ∀ T1, kk T1 = some T' → GW k T1 54 [] []) : ∀ (fuel : Nat) (x5 : Int32) (T : TS), fX11_copy_52_53_48_49_L3 n y2 kk fuel x5 T = some T' → GW k T 3 [(0, .ref (ad k.1 52)), (1, .ref (ad k.1 53)), (2, .int y2), (3, .ref (ad k.1 48)), (4, .ref (ad k.1 49)), (5, .int x5)] [] := by
  intro fuel
  induction fuel with
  | zero => intro x5 T h; cases h
  | succ fuel ih =>
    intro x5 T h
    rw [fX11_copy_52_53_48_49_L3] at h
    refine q_iload C dX11_copy_3 5 rfl ?_
    refine q_iload_n C dX11_copy_5 rfl 2 rfl ?_
    refine q_icmp_ge (tgt := 54) C dX11_copy_6 (by decide) h (fun c h => ?_) (fun c h => ?_)
    · refine q_sub [] rfl ?_
      exact hk _ h
    · refine q_iconst (v := 0) C dX11_copy_9 (by decide) ?_
      refine q_istore (lv' := [(0, .ref (ad k.1 52)), (1, .ref (ad k.1 53)), (2, .int y2), (3, .ref (ad k.1 48)), (4, .ref (ad k.1 49)), (5, .int x5), (6, .int (0 : Int32))]) C dX11_copy_10 (by decide) rfl ?_
      refine q_sub [0, 1, 2, 3, 4, 5, 6] rfl ?_
      refine lpX11_copy_52_53_48_49_L12 C (fun T_2 h => ?_) _ _ _ h
      refine q_aload C dX11_copy_39 4 rfl ?_
      refine q_iload C dX11_copy_41 5 rfl ?_
      refine q_aload_n C dX11_copy_43 rfl 1 rfl ?_
      refine q_iload C dX11_copy_44 5 rfl ?_
      refine q_iald C dX11_copy_46 (wE_53 _ _) h (fun h => ?_)
      refine q_iast C dX11_copy_47 (wE_49 _ _) (wS_49 _ _) h (fun T_3 h => ?_)
      refine q_iinc (j := 5) (v := 1) (lv' := [(0, .ref (ad k.1 52)), (1, .ref (ad k.1 53)), (2, .int y2), (3, .ref (ad k.1 48)), (4, .ref (ad k.1 49)), (5, .int (x5 + 1))]) C dX11_copy_48 rfl (by decide) (by decide) rfl ?_
      refine q_goto (tgt := 3) C dX11_copy_51 (by decide) ?_
      refine q_sub [0, 1, 2, 3, 4, 5] rfl ?_
      exact ih _ _ h
def fX11_copy_52_53_48_49 (n : Nat) (p2 : Int32) (T : TS) : Option (TS) := fX11_copy_52_53_48_49_L3 n p2 (fun T_4 => some T_4) n (0 : Int32) T
set_option maxHeartbeats 4000000 in
set_option maxRecDepth 100000 in
theorem mtX11_copy_52_53_48_49 (l : Launch) (X : XT) (n : Nat) (p2 : Int32) (T T' : TS) (h : fX11_copy_52_53_48_49 n p2 T = some T') : Met l yX11_copy wsX11_copy (RM 0) (PreX X [.ref (ad X 52), .ref (ad X 53), .int p2, .ref (ad X 48), .ref (ad X 49)] T) (QQ X none T') 0 0 (xA X) := by
  refine q_start (by decide) rfl (Nat.le_of_ble_eq_true rfl) ?_
  intro k hk C
  subst hk
  show GW k T 0 [(0, .ref (ad k.1 52)), (1, .ref (ad k.1 53)), (2, .int p2), (3, .ref (ad k.1 48)), (4, .ref (ad k.1 49))] []
  unfold fX11_copy_52_53_48_49 at h
  refine q_iconst (v := 0) C dX11_copy_0 (by decide) ?_
  refine q_istore (lv' := [(0, .ref (ad k.1 52)), (1, .ref (ad k.1 53)), (2, .int p2), (3, .ref (ad k.1 48)), (4, .ref (ad k.1 49)), (5, .int (0 : Int32))]) C dX11_copy_1 (by decide) rfl ?_
  refine q_sub [0, 1, 2, 3, 4, 5] rfl ?_
  refine lpX11_copy_52_53_48_49_L3 C (fun T_4 h => ?_) _ _ _ h
  exact q_vreturn C dX11_copy_54 h
def fX11_undo (n : Nat) (T : TS) : Option (Int32 × TS) := nm (uI T 2050 (0 : Int32)) (fun T_1 => if (gI T_1 2073) = 0 then rz (0 : Int32) T_1 else if (gI T_1 2074) = 0 then nm (uI T_1 2067 (gI T_1 2075)) (fun T_2 => bv (fX11_copy_52_53_48_49 n (gI T_2 2075) T_2) (fun T_3 => rz (1 : Int32) T_3)) else rz (0 : Int32) T_1)
set_option maxHeartbeats 4000000 in
set_option maxRecDepth 100000 in
theorem mtX11_undo (l : Launch) (X : XT) (n : Nat) (T T' : TS) (r : Int32) (h : fX11_undo n T = some (r, T')) : Met l yX11_undo wsX11_undo (RM 1) (PreX X [.ref (ad X 41)] T) (QQ X (some (.int r)) T') 0 0 (xA X) := by
  refine q_start (by decide) rfl (Nat.le_of_ble_eq_true rfl) ?_
  intro k hk C
  subst hk
  show GW k T 0 [(0, .ref (ad k.1 41))] []
  unfold fX11_undo at h
  refine q_aload_n C dX11_undo_0 rfl 0 rfl ?_
  refine q_iconst (v := 0) C dX11_undo_1 (by decide) ?_
  refine q_putI (j := 0) (ty := .int) C dX11_undo_2 (wE_41 _ _) (wP_41_0 _ _ _) rfl (by decide) (Nat.le_of_ble_eq_true rfl) tyX11 tyX11_ok nmX11 inn_X11_undo_11 (by decide +kernel) rfl rfl (by decide +kernel) rfl rfl h (fun T_1 h => ?_)
  refine q_aload_n C dX11_undo_5 rfl 0 rfl ?_
  refine q_get (j := 23) C dX11_undo_6 (wE_41 _ _) rfl (by decide) rfl inn_X11_undo_11 (by decide +kernel) rfl ?_
  refine q_if_eq (tgt := 19) C dX11_undo_9 (by decide) h (fun c h => ?_) (fun c h => ?_)
  · refine q_iconst (v := 0) C dX11_undo_19 (by decide) ?_
    exact q_zreturn C dX11_undo_20 h
  · refine q_aload_n C dX11_undo_12 rfl 0 rfl ?_
    refine q_get (j := 24) C dX11_undo_13 (wE_41 _ _) rfl (by decide) rfl inn_X11_undo_11 (by decide +kernel) rfl ?_
    refine q_if_eq (tgt := 21) C dX11_undo_16 (by decide) h (fun c h => ?_) (fun c h => ?_)
    · refine q_aload_n C dX11_undo_21 rfl 0 rfl ?_
      refine q_aload_n C dX11_undo_22 rfl 0 rfl ?_
      refine q_get (j := 25) C dX11_undo_23 (wE_41 _ _) rfl (by decide) rfl inn_X11_undo_11 (by decide +kernel) rfl ?_
      refine q_putI (j := 17) (ty := .int) C dX11_undo_26 (wE_41 _ _) (wP_41_17 _ _ _) rfl (by decide) (Nat.le_of_ble_eq_true rfl) tyX11 tyX11_ok nmX11 inn_X11_undo_11 (by decide +kernel) rfl rfl (by decide +kernel) rfl rfl h (fun T_2 h => ?_)
      refine q_aload_n C dX11_undo_29 rfl 0 rfl ?_
      refine q_get (j := 26) C dX11_undo_30 (wE_41 _ _) rfl (by decide) rfl inn_X11_undo_11 (by decide +kernel) rfl ?_
      refine q_aload_n C dX11_undo_33 rfl 0 rfl ?_
      refine q_get (j := 27) C dX11_undo_34 (wE_41 _ _) rfl (by decide) rfl inn_X11_undo_11 (by decide +kernel) rfl ?_
      refine q_aload_n C dX11_undo_37 rfl 0 rfl ?_
      refine q_get (j := 25) C dX11_undo_38 (wE_41 _ _) rfl (by decide) rfl inn_X11_undo_11 (by decide +kernel) rfl ?_
      refine q_aload_n C dX11_undo_41 rfl 0 rfl ?_
      refine q_get (j := 18) C dX11_undo_42 (wE_41 _ _) rfl (by decide) rfl inn_X11_undo_11 (by decide +kernel) rfl ?_
      refine q_aload_n C dX11_undo_45 rfl 0 rfl ?_
      refine q_get (j := 19) C dX11_undo_46 (wE_41 _ _) rfl (by decide) rfl inn_X11_undo_11 (by decide +kernel) rfl ?_
      obtain ⟨T_3, hc, h⟩ := bv_some h
      refine q_callS (st' := []) C dX11_undo_49 [.ref (ad k.1 52), .ref (ad k.1 53), .int (gI T_2 2075), .ref (ad k.1 48), .ref (ad k.1 49)] [] (mtX11_copy_52_53_48_49 l _ n _ _ _ hc) gX11_undo_X11_copy rfl hd_X11_copy (by decide) (by decide) rfl rfl (Nat.le_of_ble_eq_true rfl) rfl ?_
      clear hc
      refine q_iconst (v := 1) C dX11_undo_52 (by decide) ?_
      exact q_zreturn C dX11_undo_53 h
    · refine q_iconst (v := 0) C dX11_undo_19 (by decide) ?_
      exact q_zreturn C dX11_undo_20 h
def fX11_share (n : Nat) (p0 : Int32) (p1 : Int32) (p2 : Int32) (T : TS) : Option (Int32 × TS) := nm (uI T 2050 (0 : Int32)) (fun T_1 => bd (fX11_isPattern n p0 T_1) (fun r_3 T_2 => if r_3 = 0 then some ((-1000000 : Int32), T_2) else bd (fX11_in n p2 (0 : Int32) (1 : Int32) T_2) (fun r_5 T_4 => if ¬ r_5 = 0 then if ¬ p1 = 0 then ck p0 3000 (bd (fX11_sumOf n (gO T_4 46 (Int32.toNatClampNeg p0)) T_4) (fun r_7 T_6 => if ¬ p2 = 0 then nz p1 (some ((r_7 - r_7 / p1 * p1), T_6)) else nz p1 (some ((r_7 / p1), T_6)))) else nm (uI T_4 2050 (1 : Int32)) (fun T_8 => some ((0 : Int32), T_8)) else some ((-1000000 : Int32), T_4))))
set_option maxHeartbeats 4000000 in
set_option maxRecDepth 100000 in
theorem mtX11_share (l : Launch) (X : XT) (n : Nat) (p0 : Int32) (p1 : Int32) (p2 : Int32) (T T' : TS) (r : Int32) (h : fX11_share n p0 p1 p2 T = some (r, T')) : Met l yX11_share wsX11_share (RM 13) (PreX X [.ref (ad X 41), .int p0, .int p1, .int p2] T) (QQ X (some (.int r)) T') 0 0 (xA X) := by
  refine q_start (by decide) rfl (Nat.le_of_ble_eq_true rfl) ?_
  intro k hk C
  subst hk
  show GW k T 0 [(0, .ref (ad k.1 41)), (1, .int p0), (2, .int p1), (3, .int p2)] []
  unfold fX11_share at h
  refine q_aload_n C dX11_share_0 rfl 0 rfl ?_
  refine q_iconst (v := 0) C dX11_share_1 (by decide) ?_
  refine q_putI (j := 0) (ty := .int) C dX11_share_2 (wE_41 _ _) (wP_41_0 _ _ _) rfl (by decide) (Nat.le_of_ble_eq_true rfl) tyX11 tyX11_ok nmX11 inn_X11_share_11 (by decide +kernel) rfl rfl (by decide +kernel) rfl rfl h (fun T_1 h => ?_)
  refine q_aload_n C dX11_share_5 rfl 0 rfl ?_
  refine q_iload_n C dX11_share_6 rfl 1 rfl ?_
  obtain ⟨r_3, T_2, hc, h⟩ := bd_some h
  refine q_callV (st' := [.int r_3]) C dX11_share_7 [.int p0] [] (mtX11_isPattern l _ n _ _ _ _ hc) gX11_share_X11_isPattern rfl hd_X11_isPattern (by decide) (by decide) (wE_41 _ _) rfl rfl rfl (Nat.le_of_ble_eq_true rfl) rfl ?_
  clear hc
  refine q_if_eq (tgt := 22) C dX11_share_10 (by decide) h (fun c h => ?_) (fun c h => ?_)
  · refine q_ldcw (v := -1000000) C dX11_share_22 (by decide +kernel) ?_
    exact q_ireturn C dX11_share_25 h
  · refine q_iload_n C dX11_share_13 rfl 3 rfl ?_
    refine q_iconst (v := 0) C dX11_share_14 (by decide) ?_
    refine q_iconst (v := 1) C dX11_share_15 (by decide) ?_
    obtain ⟨r_5, T_4, hc, h⟩ := bd_some h
    refine q_callS (st' := [.int r_5]) C dX11_share_16 [.int p2, .int (0 : Int32), .int (1 : Int32)] [] (mtX11_in l _ n _ _ _ _ _ _ hc) gX11_share_X11_in rfl hd_X11_in (by decide) (by decide) rfl rfl (Nat.le_of_ble_eq_true rfl) rfl ?_
    clear hc
    refine q_if_ne (tgt := 26) C dX11_share_19 (by decide) h (fun c h => ?_) (fun c h => ?_)
    · refine q_iload_n C dX11_share_26 rfl 2 rfl ?_
      refine q_if_ne (tgt := 37) C dX11_share_27 (by decide) h (fun c h => ?_) (fun c h => ?_)
      · refine q_aload_n C dX11_share_37 rfl 0 rfl ?_
        refine q_aload_n C dX11_share_38 rfl 0 rfl ?_
        refine q_get (j := 15) C dX11_share_39 (wE_41 _ _) rfl (by decide) rfl inn_X11_share_11 (by decide +kernel) rfl ?_
        refine q_iload_n C dX11_share_42 rfl 1 rfl ?_
        refine q_aald C dX11_share_43 (wE_46 _ _) h (fun h => ?_)
        obtain ⟨r_7, T_6, hc, h⟩ := bd_some h
        refine q_callV (st' := [.int r_7]) C dX11_share_44 [.ref (ad k.1 (gO T_4 46 (Int32.toNatClampNeg p0)))] [] (mtX11_sumOf l _ n _ _ _ _ hc) gX11_share_X11_sumOf rfl hd_X11_sumOf (by decide) (by decide) (wE_41 _ _) rfl rfl rfl (Nat.le_of_ble_eq_true rfl) rfl ?_
        clear hc
        refine q_istore (lv' := [(0, .ref (ad k.1 41)), (1, .int p0), (2, .int p1), (3, .int p2), (4, .int r_7)]) C dX11_share_47 (by decide) rfl ?_
        refine q_iload_n C dX11_share_49 rfl 3 rfl ?_
        refine q_if_ne (tgt := 60) C dX11_share_50 (by decide) h (fun c h => ?_) (fun c h => ?_)
        · refine q_iload C dX11_share_60 4 rfl ?_
          refine q_iload_n C dX11_share_62 rfl 2 rfl ?_
          refine q_irem C dX11_share_63 h (fun h => ?_)
          exact q_ireturn C dX11_share_64 h
        · refine q_iload C dX11_share_53 4 rfl ?_
          refine q_iload_n C dX11_share_55 rfl 2 rfl ?_
          refine q_idiv C dX11_share_56 h (fun h => ?_)
          refine q_goto (tgt := 64) C dX11_share_57 (by decide) ?_
          exact q_ireturn C dX11_share_64 h
      · refine q_aload_n C dX11_share_30 rfl 0 rfl ?_
        refine q_iconst (v := 1) C dX11_share_31 (by decide) ?_
        refine q_putI (j := 0) (ty := .int) C dX11_share_32 (wE_41 _ _) (wP_41_0 _ _ _) rfl (by decide) (Nat.le_of_ble_eq_true rfl) tyX11 tyX11_ok nmX11 inn_X11_share_11 (by decide +kernel) rfl rfl (by decide +kernel) rfl rfl h (fun T_8 h => ?_)
        refine q_iconst (v := 0) C dX11_share_35 (by decide) ?_
        exact q_ireturn C dX11_share_36 h
    · refine q_ldcw (v := -1000000) C dX11_share_22 (by decide +kernel) ?_
      exact q_ireturn C dX11_share_25 h
