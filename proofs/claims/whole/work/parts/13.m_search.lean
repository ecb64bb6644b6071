theorem hd_X0_pieces : yX0_pieces.cls ≠ "java/lang/invoke/MethodHandle" ∧ yX0_pieces.cls ≠ "java/lang/invoke/VarHandle" ∧ (parseMethodDescriptor yX0_pieces.desc).map (fun d => d.parameters.length) = some 1 := by decide +kernel
theorem hd_X3_has : yX3_has.cls ≠ "java/lang/invoke/MethodHandle" ∧ yX3_has.cls ≠ "java/lang/invoke/VarHandle" ∧ (parseMethodDescriptor yX3_has.desc).map (fun d => d.parameters.length) = some 2 := by decide +kernel
theorem hd_X3_leastBehind : yX3_leastBehind.cls = RX3 ∧ yX3_leastBehind.cls ≠ "java/lang/invoke/MethodHandle" ∧ yX3_leastBehind.cls ≠ "java/lang/invoke/VarHandle" ∧ (parseMethodDescriptor yX3_leastBehind.desc).map (fun d => d.parameters.length) = some 2 := by decide +kernel
theorem hd_X3_lowestOf : yX3_lowestOf.cls = RX3 ∧ yX3_lowestOf.cls ≠ "java/lang/invoke/MethodHandle" ∧ yX3_lowestOf.cls ≠ "java/lang/invoke/VarHandle" ∧ (parseMethodDescriptor yX3_lowestOf.desc).map (fun d => d.parameters.length) = some 2 := by decide +kernel
theorem hd_X3_movesBy : yX3_movesBy.cls = RX3 ∧ yX3_movesBy.cls ≠ "java/lang/invoke/MethodHandle" ∧ yX3_movesBy.cls ≠ "java/lang/invoke/VarHandle" ∧ (parseMethodDescriptor yX3_movesBy.desc).map (fun d => d.parameters.length) = some 3 := by decide +kernel
theorem hd_X3_walk : yX3_walk.cls = RX3 ∧ yX3_walk.cls ≠ "java/lang/invoke/MethodHandle" ∧ yX3_walk.cls ≠ "java/lang/invoke/VarHandle" ∧ (parseMethodDescriptor yX3_walk.desc).map (fun d => d.parameters.length) = some 0 := by decide +kernel
theorem hd_X5_codeAt : yX5_codeAt.cls = RX5 ∧ yX5_codeAt.cls ≠ "java/lang/invoke/MethodHandle" ∧ yX5_codeAt.cls ≠ "java/lang/invoke/VarHandle" ∧ (parseMethodDescriptor yX5_codeAt.desc).map (fun d => d.parameters.length) = some 1 := by decide +kernel
theorem hd_X7_gatherFullest : yX7_gatherFullest.cls = RX7 ∧ yX7_gatherFullest.cls ≠ "java/lang/invoke/MethodHandle" ∧ yX7_gatherFullest.cls ≠ "java/lang/invoke/VarHandle" ∧ (parseMethodDescriptor yX7_gatherFullest.desc).map (fun d => d.parameters.length) = some 1 := by decide +kernel
theorem hd_X7_indexBehind : yX7_indexBehind.cls = RX7 ∧ yX7_indexBehind.cls ≠ "java/lang/invoke/MethodHandle" ∧ yX7_indexBehind.cls ≠ "java/lang/invoke/VarHandle" ∧ (parseMethodDescriptor yX7_indexBehind.desc).map (fun d => d.parameters.length) = some 1 := by decide +kernel
theorem hd_X7_isFullest : yX7_isFullest.cls = RX7 ∧ yX7_isFullest.cls ≠ "java/lang/invoke/MethodHandle" ∧ yX7_isFullest.cls ≠ "java/lang/invoke/VarHandle" ∧ (parseMethodDescriptor yX7_isFullest.desc).map (fun d => d.parameters.length) = some 1 := by decide +kernel
theorem hd_X7_openOneMore : yX7_openOneMore.cls = RX7 ∧ yX7_openOneMore.cls ≠ "java/lang/invoke/MethodHandle" ∧ yX7_openOneMore.cls ≠ "java/lang/invoke/VarHandle" ∧ (parseMethodDescriptor yX7_openOneMore.desc).map (fun d => d.parameters.length) = some 0 := by decide +kernel
theorem hd_X7_setLeastHere : yX7_setLeastHere.cls = RX7 ∧ yX7_setLeastHere.cls ≠ "java/lang/invoke/MethodHandle" ∧ yX7_setLeastHere.cls ≠ "java/lang/invoke/VarHandle" ∧ (parseMethodDescriptor yX7_setLeastHere.desc).map (fun d => d.parameters.length) = some 0 := by decide +kernel
theorem inn_X3_leastBehind_3 : ∀ w ∈ u_ws RX3 TX3 4, w ∈ wsX3_leastBehind := by decide +kernel
theorem inn_X3_lowestOf_3 : ∀ w ∈ u_ws RX3 TX3 4, w ∈ wsX3_lowestOf := by decide +kernel
theorem inn_X3_movesBy_3 : ∀ w ∈ u_ws RX3 TX3 4, w ∈ wsX3_movesBy := by decide +kernel
theorem inn_X3_setFromLatest_3 : ∀ w ∈ u_ws RX3 TX3 4, w ∈ wsX3_setFromLatest := by decide +kernel
theorem inn_X3_setStep_3 : ∀ w ∈ u_ws RX3 TX3 4, w ∈ wsX3_setStep := by decide +kernel
theorem inn_X3_slotAt_3 : ∀ w ∈ u_ws RX3 TX3 4, w ∈ wsX3_slotAt := by decide +kernel
theorem inn_X3_solve_3 : ∀ w ∈ u_ws RX3 TX3 4, w ∈ wsX3_solve := by decide +kernel
theorem inn_X3_start_3 : ∀ w ∈ u_ws RX3 TX3 4, w ∈ wsX3_start := by decide +kernel
theorem inn_X3_walk_3 : ∀ w ∈ u_ws RX3 TX3 4, w ∈ wsX3_walk := by decide +kernel
theorem inn_X7_firstFrom_7 : ∀ w ∈ u_ws RX7 TX7 9, w ∈ wsX7_firstFrom := by decide +kernel
theorem inn_X7_gatherFullest_7 : ∀ w ∈ u_ws RX7 TX7 9, w ∈ wsX7_gatherFullest := by decide +kernel
theorem inn_X7_indexBehind_4 : ∀ w ∈ u_ws RX4 TX4 8, w ∈ wsX7_indexBehind := by decide +kernel
theorem inn_X7_indexBehind_7 : ∀ w ∈ u_ws RX7 TX7 9, w ∈ wsX7_indexBehind := by decide +kernel
theorem inn_X7_isFullest_4 : ∀ w ∈ u_ws RX4 TX4 8, w ∈ wsX7_isFullest := by decide +kernel
theorem inn_X7_isFullest_7 : ∀ w ∈ u_ws RX7 TX7 9, w ∈ wsX7_isFullest := by decide +kernel
theorem inn_X7_openOneMore_4 : ∀ w ∈ u_ws RX4 TX4 8, w ∈ wsX7_openOneMore := by decide +kernel
theorem inn_X7_openOneMore_7 : ∀ w ∈ u_ws RX7 TX7 9, w ∈ wsX7_openOneMore := by decide +kernel
theorem inn_X7_rollsLeft_7 : ∀ w ∈ u_ws RX7 TX7 9, w ∈ wsX7_rollsLeft := by decide +kernel
theorem inn_X7_setLeastHere_4 : ∀ w ∈ u_ws RX4 TX4 8, w ∈ wsX7_setLeastHere := by decide +kernel
theorem inn_X7_setLeastHere_7 : ∀ w ∈ u_ws RX7 TX7 9, w ∈ wsX7_setLeastHere := by decide +kernel
theorem inn_X7_solve_4 : ∀ w ∈ u_ws RX4 TX4 8, w ∈ wsX7_solve := by decide +kernel
theorem inn_X7_solve_7 : ∀ w ∈ u_ws RX7 TX7 9, w ∈ wsX7_solve := by decide +kernel
theorem inn_X7_start_4 : ∀ w ∈ u_ws RX4 TX4 8, w ∈ wsX7_start := by decide +kernel
theorem inn_X7_start_7 : ∀ w ∈ u_ws RX7 TX7 9, w ∈ wsX7_start := by decide +kernel
theorem inn_X7_take_4 : ∀ w ∈ u_ws RX4 TX4 8, w ∈ wsX7_take := by decide +kernel
theorem inn_X7_take_7 : ∀ w ∈ u_ws RX7 TX7 9, w ∈ wsX7_take := by decide +kernel
def fX3_start (n : Nat) (p0 : Int32) (T : TS) : Option (TS) := nm (uI T 1300 (imin p0 (8 : Int32))) (fun T_1 => some T_1)
set_option maxHeartbeats 4000000 in
set_option maxRecDepth 100000 in
theorem mtX3_start (l : Launch) (X : XT) (n : Nat) (p0 : Int32) (T T' : TS) (h : fX3_start n p0 T = some T') : Met l yX3_start wsX3_start (RM 1) (PreX X [.ref (ad X 26), .int p0] T) (QQ X none T') 0 0 (xA X) := by
  refine q_start (by decide) rfl (Nat.le_of_ble_eq_true rfl) ?_
  intro k hk C
  subst hk
  show GW k T 0 [(0, .ref (ad k.1 26)), (1, .int p0)] []
  unfold fX3_start at h
  refine q_aload_n C dX3_start_0 rfl 0 rfl ?_
  refine q_iload_n C dX3_start_1 rfl 1 rfl ?_
  refine q_bipush (v := 8) C dX3_start_2 (by decide) ?_
  refine q_mmin C dX3_start_4 (by decide +kernel) (by decide +kernel) (by decide +kernel) (by decide +kernel) (by decide) (Nat.le_of_ble_eq_true rfl) ?_
  refine q_putI (j := 0) (ty := .int) C dX3_start_7 (wE_26 _ _) (wP_26_0 _ _ _) rfl (by decide) (Nat.le_of_ble_eq_true rfl) tyX3 tyX3_ok nmX3 inn_X3_start_3 (by decide +kernel) rfl rfl (by decide +kernel) rfl rfl h (fun T_1 h => ?_)
  exact q_vreturn C dX3_start_10 h
def fX3_setFromLatest (n : Nat) (p0 : Int32) (p1 : Int32) (T : TS) : Option (TS) := ck p0 72 (nm (sA T 27 p0 p1) (fun T_1 => some T_1))
set_option maxHeartbeats 4000000 in
set_option maxRecDepth 100000 in
theorem mtX3_setFromLatest (l : Launch) (X : XT) (n : Nat) (p0 : Int32) (p1 : Int32) (T T' : TS) (h : fX3_setFromLatest n p0 p1 T = some T') : Met l yX3_setFromLatest wsX3_setFromLatest (RM 0) (PreX X [.ref (ad X 26), .int p0, .int p1] T) (QQ X none T') 0 0 (xA X) := by
  refine q_start (by decide) rfl (Nat.le_of_ble_eq_true rfl) ?_
  intro k hk C
  subst hk
  show GW k T 0 [(0, .ref (ad k.1 26)), (1, .int p0), (2, .int p1)] []
  unfold fX3_setFromLatest at h
  refine q_aload_n C dX3_setFromLatest_0 rfl 0 rfl ?_
  refine q_get (j := 1) C dX3_setFromLatest_1 (wE_26 _ _) rfl (by decide) rfl inn_X3_setFromLatest_3 (by decide +kernel) rfl ?_
  refine q_iload_n C dX3_setFromLatest_4 rfl 1 rfl ?_
  refine q_iload_n C dX3_setFromLatest_5 rfl 2 rfl ?_
  refine q_iast C dX3_setFromLatest_6 (wE_27 _ _) (wS_27 _ _) h (fun T_1 h => ?_)
  exact q_vreturn C dX3_setFromLatest_7 h
def fX3_setStep (n : Nat) (p0 : Int32) (p1 : Int32) (p2 : Int32) (T : TS) : Option (TS) := ck (((p0 + (1 : Int32)) * (8 : Int32)) + p1) 72 (nm (sA T 27 (((p0 + (1 : Int32)) * (8 : Int32)) + p1) p2) (fun T_1 => some T_1))
set_option maxHeartbeats 4000000 in
set_option maxRecDepth 100000 in
theorem mtX3_setStep (l : Launch) (X : XT) (n : Nat) (p0 : Int32) (p1 : Int32) (p2 : Int32) (T T' : TS) (h : fX3_setStep n p0 p1 p2 T = some T') : Met l yX3_setStep wsX3_setStep (RM 0) (PreX X [.ref (ad X 26), .int p0, .int p1, .int p2] T) (QQ X none T') 0 0 (xA X) := by
  refine q_start (by decide) rfl (Nat.le_of_ble_eq_true rfl) ?_
  intro k hk C
  subst hk
  show GW k T 0 [(0, .ref (ad k.1 26)), (1, .int p0), (2, .int p1), (3, .int p2)] []
  unfold fX3_setStep at h
  refine q_aload_n C dX3_setStep_0 rfl 0 rfl ?_
  refine q_get (j := 1) C dX3_setStep_1 (wE_26 _ _) rfl (by decide) rfl inn_X3_setStep_3 (by decide +kernel) rfl ?_
  refine q_iload_n C dX3_setStep_4 rfl 1 rfl ?_
  refine q_iconst (v := 1) C dX3_setStep_5 (by decide) ?_
  refine q_iadd C dX3_setStep_6 ?_
  refine q_bipush (v := 8) C dX3_setStep_7 (by decide) ?_
  refine q_imul C dX3_setStep_9 ?_
  refine q_iload_n C dX3_setStep_10 rfl 2 rfl ?_
  refine q_iadd C dX3_setStep_11 ?_
  refine q_iload_n C dX3_setStep_12 rfl 3 rfl ?_
  refine q_iast C dX3_setStep_13 (wE_27 _ _) (wS_27 _ _) h (fun T_1 h => ?_)
  exact q_vreturn C dX3_setStep_14 h
def fX3_slotAt (n : Nat) (p0 : Int32) (T : TS) : Option (Int32 × TS) := ck p0 8 (some ((gA T 29 (Int32.toNatClampNeg p0)), T))
set_option maxHeartbeats 4000000 in
set_option maxRecDepth 100000 in
theorem mtX3_slotAt (l : Launch) (X : XT) (n : Nat) (p0 : Int32) (T T' : TS) (r : Int32) (h : fX3_slotAt n p0 T = some (r, T')) : Met l yX3_slotAt wsX3_slotAt (RM 0) (PreX X [.ref (ad X 26), .int p0] T) (QQ X (some (.int r)) T') 0 0 (xA X) := by
  refine q_start (by decide) rfl (Nat.le_of_ble_eq_true rfl) ?_
  intro k hk C
  subst hk
  show GW k T 0 [(0, .ref (ad k.1 26)), (1, .int p0)] []
  unfold fX3_slotAt at h
  refine q_aload_n C dX3_slotAt_0 rfl 0 rfl ?_
  refine q_get (j := 3) C dX3_slotAt_1 (wE_26 _ _) rfl (by decide) rfl inn_X3_slotAt_3 (by decide +kernel) rfl ?_
  refine q_iload_n C dX3_slotAt_4 rfl 1 rfl ?_
  refine q_iald C dX3_slotAt_5 (wE_29 _ _) h (fun h => ?_)
  exact q_ireturn C dX3_slotAt_6 h
def fX3_has (n : Nat) (p0 : Int32) (p1 : Int32) (T : TS) : Option (Int32 × TS) := if ¬ ((p0 >>> (p1 &&& 31)) &&& (1 : Int32)) = (1 : Int32) then rz (0 : Int32) T else rz (1 : Int32) T
set_option maxHeartbeats 4000000 in
set_option maxRecDepth 100000 in
theorem mtX3_has (l : Launch) (X : XT) (n : Nat) (p0 : Int32) (p1 : Int32) (T T' : TS) (r : Int32) (h : fX3_has n p0 p1 T = some (r, T')) : Met l yX3_has wsX3_has (RM 0) (PreX X [.int p0, .int p1] T) (QQ X (some (.int r)) T') 0 0 (xA X) := by
  refine q_start (by decide) rfl (Nat.le_of_ble_eq_true rfl) ?_
  intro k hk C
  subst hk
  show GW k T 0 [(0, .int p0), (1, .int p1)] []
  unfold fX3_has at h
  refine q_iload_n C dX3_has_0 rfl 0 rfl ?_
  refine q_iload_n C dX3_has_1 rfl 1 rfl ?_
  refine q_ishr C dX3_has_2 ?_
  refine q_iconst (v := 1) C dX3_has_3 (by decide) ?_
  refine q_iand C dX3_has_4 ?_
  refine q_iconst (v := 1) C dX3_has_5 (by decide) ?_
  refine q_icmp_ne (tgt := 13) C dX3_has_6 (by decide) h (fun c h => ?_) (fun c h => ?_)
  · refine q_iconst (v := 0) C dX3_has_13 (by decide) ?_
    exact q_zreturn C dX3_has_14 h
  · refine q_iconst (v := 1) C dX3_has_9 (by decide) ?_
    refine q_goto (tgt := 14) C dX3_has_10 (by decide) ?_
    exact q_zreturn C dX3_has_14 h
def fX3_movesBy (n : Nat) (p0 : Int32) (p1 : Int32) (p2 : Int32) (T : TS) : Option (Int32 × TS) := ck ((p1 * (8 : Int32)) + p2) 72 (ck ((((p0 ||| ((1 : Int32) <<< (p2 &&& 31))) * (9 : Int32)) + p2) + (1 : Int32)) 2304 (some (((gA T 27 (Int32.toNatClampNeg ((p1 * (8 : Int32)) + p2))) + (gA T 28 (Int32.toNatClampNeg ((((p0 ||| ((1 : Int32) <<< (p2 &&& 31))) * (9 : Int32)) + p2) + (1 : Int32))))), T)))
set_option maxHeartbeats 4000000 in
set_option maxRecDepth 100000 in
theorem mtX3_movesBy (l : Launch) (X : XT) (n : Nat) (p0 : Int32) (p1 : Int32) (p2 : Int32) (T T' : TS) (r : Int32) (h : fX3_movesBy n p0 p1 p2 T = some (r, T')) : Met l yX3_movesBy wsX3_movesBy (RM 0) (PreX X [.ref (ad X 26), .int p0, .int p1, .int p2] T) (QQ X (some (.int r)) T') 0 0 (xA X) := by
  refine q_start (by decide) rfl (Nat.le_of_ble_eq_true rfl) ?_
  intro k hk C
  subst hk
  show GW k T 0 [(0, .ref (ad k.1 26)), (1, .int p0), (2, .int p1), (3, .int p2)] []
  unfold fX3_movesBy at h
  refine q_aload_n C dX3_movesBy_0 rfl 0 rfl ?_
  refine q_get (j := 1) C dX3_movesBy_1 (wE_26 _ _) rfl (by decide) rfl inn_X3_movesBy_3 (by decide +kernel) rfl ?_
  refine q_iload_n C dX3_movesBy_4 rfl 2 rfl ?_
  refine q_bipush (v := 8) C dX3_movesBy_5 (by decide) ?_
  refine q_imul C dX3_movesBy_7 ?_
  refine q_iload_n C dX3_movesBy_8 rfl 3 rfl ?_
  refine q_iadd C dX3_movesBy_9 ?_
  refine q_iald C dX3_movesBy_10 (wE_27 _ _) h (fun h => ?_)
  refine q_aload_n C dX3_movesBy_11 rfl 0 rfl ?_
  refine q_get (j := 2) C dX3_movesBy_12 (wE_26 _ _) rfl (by decide) rfl inn_X3_movesBy_3 (by decide +kernel) rfl ?_
  refine q_iload_n C dX3_movesBy_15 rfl 1 rfl ?_
  refine q_iconst (v := 1) C dX3_movesBy_16 (by decide) ?_
  refine q_iload_n C dX3_movesBy_17 rfl 3 rfl ?_
  refine q_ishl C dX3_movesBy_18 ?_
  refine q_ior C dX3_movesBy_19 ?_
  refine q_bipush (v := 9) C dX3_movesBy_20 (by decide) ?_
  refine q_imul C dX3_movesBy_22 ?_
  refine q_iload_n C dX3_movesBy_23 rfl 3 rfl ?_
  refine q_iadd C dX3_movesBy_24 ?_
  refine q_iconst (v := 1) C dX3_movesBy_25 (by decide) ?_
  refine q_iadd C dX3_movesBy_26 ?_
  refine q_iald C dX3_movesBy_27 (wE_28 _ _) h (fun h => ?_)
  refine q_iadd C dX3_movesBy_28 ?_
  exact q_ireturn C dX3_movesBy_29 h
def fX3_leastBehind_L7 (n : Nat) (y1 : Int32) (y2 : Int32) (kk : Int32 → TS → Option (Int32 × TS)) : Nat → Int32 → Int32 → TS → Option (Int32 × TS)
  | 0, _, _, _ => none
  | fuel + 1, x3, x4, T => if (gI T 1300) ≤ x4 then kk x3 T else bd (fX3_has n y1 x4 T) (fun r_2 T_1 => if ¬ r_2 = 0 then fX3_leastBehind_L7 n y1 y2 kk fuel x3 (x4 + 1) T_1 else bd (fX3_movesBy n y1 y2 x4 T_1) (fun r_4 T_3 => nm (imin x3 r_4) (fun x3_5 => fX3_leastBehind_L7 n y1 y2 kk fuel x3_5 (x4 + 1) T_3)))
set_option maxHeartbeats 4000000 in
set_option maxRecDepth 100000 in
theorem lpX3_leastBehind_L7 {l : Launch} {k : KT} {n : Nat} {y1 : Int32} {y2 : Int32} {kk : Int32 → TS → Option (Int32 × TS)} {r : Int32} {T' : TS} (C : CX l k 5 cX3_leastBehind RX3 wsX3_leastBehind 1 (some .int) (some (.int r), T')) (hk : ∀ e3 T1, kk e3 T1 = some (r, T') → GW k T1 44 [(3, .int e3)] []) : ∀ (fuel : Nat) (x3 : Int32) (x4 : Int32) (T : TS), fX3_leastBehind_L7 n y1 y2 kk fuel x3 x4 T = some (r, T') → GW k T 7 [(0, .ref (ad k.1 26)), (1, .int y1), (2, .int y2), (3, .int x3), (4, .int x4)] [] := by
  intro fuel
  induction fuel with
  | zero => intro x3 x4 T h; cases h
  | succ fuel ih =>
    intro x3 x4 T h
    rw [fX3_leastBehind_L7] at h
    refine q_iload C dX3_leastBehind_7 4 rfl ?_
    refine q_aload_n C dX3_leastBehind_9 rfl 0 rfl ?_
    refine q_get (j := 0) C dX3_leastBehind_10 (wE_26 _ _) rfl (by decide) rfl inn_X3_leastBehind_3 (by decide +kernel) rfl ?_
    refine q_icmp_ge (tgt := 44) C dX3_leastBehind_13 (by decide) h (fun c h => ?_) (fun c h => ?_)
    · refine q_sub [3] rfl ?_
      exact hk _ _ h
    · refine q_iload_n C dX3_leastBehind_16 rfl 1 rfl ?_
      refine q_iload C dX3_leastBehind_17 4 rfl ?_
      obtain ⟨r_2, T_1, hc, h⟩ := bd_some h
      refine q_callS (st' := [.int r_2]) C dX3_leastBehind_19 [.int y1, .int x4] [] (mtX3_has l _ n _ _ _ _ _ hc) gX3_leastBehind_X3_has rfl hd_X3_has (by decide) (by decide) rfl rfl (Nat.le_of_ble_eq_true rfl) rfl ?_
      clear hc
      refine q_if_ne (tgt := 38) C dX3_leastBehind_22 (by decide) h (fun c h => ?_) (fun c h => ?_)
      · refine q_iinc (j := 4) (v := 1) (lv' := [(0, .ref (ad k.1 26)), (1, .int y1), (2, .int y2), (3, .int x3), (4, .int (x4 + 1))]) C dX3_leastBehind_38 rfl (by decide) (by decide) rfl ?_
        refine q_goto (tgt := 7) C dX3_leastBehind_41 (by decide) ?_
        refine q_sub [0, 1, 2, 3, 4] rfl ?_
        exact ih _ _ _ h
      · refine q_iload_n C dX3_leastBehind_25 rfl 3 rfl ?_
        refine q_aload_n C dX3_leastBehind_26 rfl 0 rfl ?_
        refine q_iload_n C dX3_leastBehind_27 rfl 1 rfl ?_
        refine q_iload_n C dX3_leastBehind_28 rfl 2 rfl ?_
        refine q_iload C dX3_leastBehind_29 4 rfl ?_
        obtain ⟨r_4, T_3, hc, h⟩ := bd_some h
        refine q_callV (st' := [.int r_4, .int x3]) C dX3_leastBehind_31 [.int y1, .int y2, .int x4] [.int x3] (mtX3_movesBy l _ n _ _ _ _ _ _ hc) gX3_leastBehind_X3_movesBy rfl hd_X3_movesBy (by decide) (by decide) (wE_26 _ _) rfl rfl rfl (Nat.le_of_ble_eq_true rfl) rfl ?_
        clear hc
        refine q_mmin C dX3_leastBehind_34 (by decide +kernel) (by decide +kernel) (by decide +kernel) (by decide +kernel) (by decide) (Nat.le_of_ble_eq_true rfl) ?_
        refine q_nm h (fun x3_5 h => ?_)
        refine q_istore_n (lv' := [(0, .ref (ad k.1 26)), (1, .int y1), (2, .int y2), (3, .int x3_5), (4, .int x4)]) C dX3_leastBehind_37 rfl (by decide) rfl ?_
        refine q_iinc (j := 4) (v := 1) (lv' := [(0, .ref (ad k.1 26)), (1, .int y1), (2, .int y2), (3, .int x3_5), (4, .int (x4 + 1))]) C dX3_leastBehind_38 rfl (by decide) (by decide) rfl ?_
        refine q_goto (tgt := 7) C dX3_leastBehind_41 (by decide) ?_
        refine q_sub [0, 1, 2, 3, 4] rfl ?_
        exact ih _ _ _ h
def fX3_leastBehind (n : Nat) (p0 : Int32) (p1 : Int32) (T : TS) : Option (Int32 × TS) := fX3_leastBehind_L7 n p0 p1 (fun e3_6 T_7 => some (e3_6, T_7)) n (169 : Int32) (0 : Int32) T
set_option maxHeartbeats 4000000 in
set_option maxRecDepth 100000 in
theorem mtX3_leastBehind (l : Launch) (X : XT) (n : Nat) (p0 : Int32) (p1 : Int32) (T T' : TS) (r : Int32) (h : fX3_leastBehind n p0 p1 T = some (r, T')) : Met l yX3_leastBehind wsX3_leastBehind (RM 1) (PreX X [.ref (ad X 26), .int p0, .int p1] T) (QQ X (some (.int r)) T') 0 0 (xA X) := by
  refine q_start (by decide) rfl (Nat.le_of_ble_eq_true rfl) ?_
  intro k hk C
  subst hk
  show GW k T 0 [(0, .ref (ad k.1 26)), (1, .int p0), (2, .int p1)] []
  unfold fX3_leastBehind at h
  refine q_sipush (v := 169) C dX3_leastBehind_0 (by decide) ?_
  refine q_istore_n (lv' := [(0, .ref (ad k.1 26)), (1, .int p0), (2, .int p1), (3, .int (169 : Int32))]) C dX3_leastBehind_3 rfl (by decide) rfl ?_
  refine q_iconst (v := 0) C dX3_leastBehind_4 (by decide) ?_
  refine q_istore (lv' := [(0, .ref (ad k.1 26)), (1, .int p0), (2, .int p1), (3, .int (169 : Int32)), (4, .int (0 : Int32))]) C dX3_leastBehind_5 (by decide) rfl ?_
  refine q_sub [0, 1, 2, 3, 4] rfl ?_
  refine lpX3_leastBehind_L7 C (fun e3_6 T_7 h => ?_) _ _ _ _ h
  refine q_iload_n C dX3_leastBehind_44 rfl 0 rfl ?_
  exact q_ireturn C dX3_leastBehind_45 h
def fX3_lowestOf_L2 (n : Nat) (y1 : Int32) (y2 : Int32) (kk : TS → Option (Int32 × TS)) : Nat → Int32 → TS → Option (Int32 × TS)
  | 0, _, _ => none
  | fuel + 1, x3, T => if (gI T 1300) ≤ x3 then kk T else bd (fX3_has n y1 x3 T) (fun r_2 T_1 => if ¬ r_2 = 0 then fX3_lowestOf_L2 n y1 y2 kk fuel (x3 + 1) T_1 else bd (fX3_movesBy n y1 y2 x3 T_1) (fun r_4 T_3 => ck ((y1 * (9 : Int32)) + y2) 2304 (if ¬ r_4 = (gA T_3 28 (Int32.toNatClampNeg ((y1 * (9 : Int32)) + y2))) then fX3_lowestOf_L2 n y1 y2 kk fuel (x3 + 1) T_3 else some (x3, T_3))))
set_option maxHeartbeats 4000000 in
set_option maxRecDepth 100000 in
theorem lpX3_lowestOf_L2 {l : Launch} {k : KT} {n : Nat} {y1 : Int32} {y2 : Int32} {kk : TS → Option (Int32 × TS)} {r : Int32} {T' : TS} (C : CX l k 4 cX3_lowestOf RX3 wsX3_lowestOf 1 (some .int) (some (.int r), T')) (hk : ∀ T1, kk T1 = some (r, T') → GW k T1 47 [] []) : ∀ (fuel : Nat) (x3 : Int32) (T : TS), fX3_lowestOf_L2 n y1 y2 kk fuel x3 T = some (r, T') → GW k T 2 [(0, .ref (ad k.1 26)), (1, .int y1), (2, .int y2), (3, .int x3)] [] := by
  intro fuel
  induction fuel with
  | zero => intro x3 T h; cases h
  | succ fuel ih =>
    intro x3 T h
    rw [fX3_lowestOf_L2] at h
    refine q_iload_n C dX3_lowestOf_2 rfl 3 rfl ?_
    refine q_aload_n C dX3_lowestOf_3 rfl 0 rfl ?_
    refine q_get (j := 0) C dX3_lowestOf_4 (wE_26 _ _) rfl (by decide) rfl inn_X3_lowestOf_3 (by decide +kernel) rfl ?_
    refine q_icmp_ge (tgt := 47) C dX3_lowestOf_7 (by decide) h (fun c h => ?_) (fun c h => ?_)
    · refine q_sub [] rfl ?_
      exact hk _ h
    · refine q_iload_n C dX3_lowestOf_10 rfl 1 rfl ?_
      refine q_iload_n C dX3_lowestOf_11 rfl 3 rfl ?_
      obtain ⟨r_2, T_1, hc, h⟩ := bd_some h
      refine q_callS (st' := [.int r_2]) C dX3_lowestOf_12 [.int y1, .int x3] [] (mtX3_has l _ n _ _ _ _ _ hc) gX3_lowestOf_X3_has rfl hd_X3_has (by decide) (by decide) rfl rfl (Nat.le_of_ble_eq_true rfl) rfl ?_
      clear hc
      refine q_if_ne (tgt := 41) C dX3_lowestOf_15 (by decide) h (fun c h => ?_) (fun c h => ?_)
      · refine q_iinc (j := 3) (v := 1) (lv' := [(0, .ref (ad k.1 26)), (1, .int y1), (2, .int y2), (3, .int (x3 + 1))]) C dX3_lowestOf_41 rfl (by decide) (by decide) rfl ?_
        refine q_goto (tgt := 2) C dX3_lowestOf_44 (by decide) ?_
        refine q_sub [0, 1, 2, 3] rfl ?_
        exact ih _ _ h
      · refine q_aload_n C dX3_lowestOf_18 rfl 0 rfl ?_
        refine q_iload_n C dX3_lowestOf_19 rfl 1 rfl ?_
        refine q_iload_n C dX3_lowestOf_20 rfl 2 rfl ?_
        refine q_iload_n C dX3_lowestOf_21 rfl 3 rfl ?_
        obtain ⟨r_4, T_3, hc, h⟩ := bd_some h
        refine q_callV (st' := [.int r_4]) C dX3_lowestOf_22 [.int y1, .int y2, .int x3] [] (mtX3_movesBy l _ n _ _ _ _ _ _ hc) gX3_lowestOf_X3_movesBy rfl hd_X3_movesBy (by decide) (by decide) (wE_26 _ _) rfl rfl rfl (Nat.le_of_ble_eq_true rfl) rfl ?_
        clear hc
        refine q_aload_n C dX3_lowestOf_25 rfl 0 rfl ?_
        refine q_get (j := 2) C dX3_lowestOf_26 (wE_26 _ _) rfl (by decide) rfl inn_X3_lowestOf_3 (by decide +kernel) rfl ?_
        refine q_iload_n C dX3_lowestOf_29 rfl 1 rfl ?_
        refine q_bipush (v := 9) C dX3_lowestOf_30 (by decide) ?_
        refine q_imul C dX3_lowestOf_32 ?_
        refine q_iload_n C dX3_lowestOf_33 rfl 2 rfl ?_
        refine q_iadd C dX3_lowestOf_34 ?_
        refine q_iald C dX3_lowestOf_35 (wE_28 _ _) h (fun h => ?_)
        refine q_icmp_ne (tgt := 41) C dX3_lowestOf_36 (by decide) h (fun c h => ?_) (fun c h => ?_)
        · refine q_iinc (j := 3) (v := 1) (lv' := [(0, .ref (ad k.1 26)), (1, .int y1), (2, .int y2), (3, .int (x3 + 1))]) C dX3_lowestOf_41 rfl (by decide) (by decide) rfl ?_
          refine q_goto (tgt := 2) C dX3_lowestOf_44 (by decide) ?_
          refine q_sub [0, 1, 2, 3] rfl ?_
          exact ih _ _ h
        · refine q_iload_n C dX3_lowestOf_39 rfl 3 rfl ?_
          exact q_ireturn C dX3_lowestOf_40 h
def fX3_lowestOf (n : Nat) (p0 : Int32) (p1 : Int32) (T : TS) : Option (Int32 × TS) := fX3_lowestOf_L2 n p0 p1 (fun T_5 => some ((0 : Int32), T_5)) n (0 : Int32) T
set_option maxHeartbeats 4000000 in
set_option maxRecDepth 100000 in
theorem mtX3_lowestOf (l : Launch) (X : XT) (n : Nat) (p0 : Int32) (p1 : Int32) (T T' : TS) (r : Int32) (h : fX3_lowestOf n p0 p1 T = some (r, T')) : Met l yX3_lowestOf wsX3_lowestOf (RM 1) (PreX X [.ref (ad X 26), .int p0, .int p1] T) (QQ X (some (.int r)) T') 0 0 (xA X) := by
  refine q_start (by decide) rfl (Nat.le_of_ble_eq_true rfl) ?_
  intro k hk C
  subst hk
  show GW k T 0 [(0, .ref (ad k.1 26)), (1, .int p0), (2, .int p1)] []
  unfold fX3_lowestOf at h
  refine q_iconst (v := 0) C dX3_lowestOf_0 (by decide) ?_
  refine q_istore_n (lv' := [(0, .ref (ad k.1 26)), (1, .int p0), (2, .int p1), (3, .int (0 : Int32))]) C dX3_lowestOf_1 rfl (by decide) rfl ?_
  refine q_sub [0, 1, 2, 3] rfl ?_
  refine lpX3_lowestOf_L2 C (fun T_5 h => ?_) _ _ _ h
  refine q_iconst (v := 0) C dX3_lowestOf_47 (by decide) ?_
  exact q_ireturn C dX3_lowestOf_48 h
def fX3_walk_L6 (n : Nat) (kk : TS → Option (TS)) : Nat → Int32 → Int32 → Int32 → TS → Option (TS)
  | 0, _, _, _, _ => none
  | fuel + 1, x1, x2, x3, T => if (gI T 1300) ≤ x3 then kk T else bd (fX3_lowestOf n x1 x2 T) (fun r_2 T_1 => ck x3 8 (nm (sA T_1 29 x3 r_2) (fun T_3 => nm (x1 ||| ((1 : Int32) <<< (r_2 &&& 31))) (fun x1_4 => nm (r_2 + (1 : Int32)) (fun x2_5 => fX3_walk_L6 n kk fuel x1_4 x2_5 (x3 + 1) T_3)))))
set_option maxHeartbeats 4000000 in
set_option maxRecDepth 100000 in
theorem lpX3_walk_L6 {l : Launch} {k : KT} {n : Nat} {kk : TS → Option (TS)} {T' : TS} (C : CX l k 5 cX3_walk RX3 wsX3_walk 2 none (none, T')) (hk : ∀ T1, kk T1 = some T' → GW k T1 48 [] []) : ∀ (fuel : Nat) (x1 : Int32) (x2 : Int32) (x3 : Int32) (T : TS), fX3_walk_L6 n kk fuel x1 x2 x3 T = some T' → GW k T 6 [(0, .ref (ad k.1 26)), (1, .int x1), (2, .int x2), (3, .int x3)] [] := by
  intro fuel
  induction fuel with
  | zero => intro x1 x2 x3 T h; cases h
  | succ fuel ih =>
    intro x1 x2 x3 T h
    rw [fX3_walk_L6] at h
    refine q_iload_n C dX3_walk_6 rfl 3 rfl ?_
    refine q_aload_n C dX3_walk_7 rfl 0 rfl ?_
    refine q_get (j := 0) C dX3_walk_8 (wE_26 _ _) rfl (by decide) rfl inn_X3_walk_3 (by decide +kernel) rfl ?_
    refine q_icmp_ge (tgt := 48) C dX3_walk_11 (by decide) h (fun c h => ?_) (fun c h => ?_)
    · refine q_sub [] rfl ?_
      exact hk _ h
    · refine q_aload_n C dX3_walk_14 rfl 0 rfl ?_
      refine q_iload_n C dX3_walk_15 rfl 1 rfl ?_
      refine q_iload_n C dX3_walk_16 rfl 2 rfl ?_
      obtain ⟨r_2, T_1, hc, h⟩ := bd_some h
      refine q_callV (st' := [.int r_2]) C dX3_walk_17 [.int x1, .int x2] [] (mtX3_lowestOf l _ n _ _ _ _ _ hc) gX3_walk_X3_lowestOf rfl hd_X3_lowestOf (by decide) (by decide) (wE_26 _ _) rfl rfl rfl (Nat.le_of_ble_eq_true rfl) rfl ?_
      clear hc
      refine q_istore (lv' := [(0, .ref (ad k.1 26)), (1, .int x1), (2, .int x2), (3, .int x3), (4, .int r_2)]) C dX3_walk_20 (by decide) rfl ?_
      refine q_aload_n C dX3_walk_22 rfl 0 rfl ?_
      refine q_get (j := 3) C dX3_walk_23 (wE_26 _ _) rfl (by decide) rfl inn_X3_walk_3 (by decide +kernel) rfl ?_
      refine q_iload_n C dX3_walk_26 rfl 3 rfl ?_
      refine q_iload C dX3_walk_27 4 rfl ?_
      refine q_iast C dX3_walk_29 (wE_29 _ _) (wS_29 _ _) h (fun T_3 h => ?_)
      refine q_iload_n C dX3_walk_30 rfl 1 rfl ?_
      refine q_iconst (v := 1) C dX3_walk_31 (by decide) ?_
      refine q_iload C dX3_walk_32 4 rfl ?_
      refine q_ishl C dX3_walk_34 ?_
      refine q_ior C dX3_walk_35 ?_
      refine q_nm h (fun x1_4 h => ?_)
      refine q_istore_n (lv' := [(0, .ref (ad k.1 26)), (1, .int x1_4), (2, .int x2), (3, .int x3), (4, .int r_2)]) C dX3_walk_36 rfl (by decide) rfl ?_
      refine q_iload C dX3_walk_37 4 rfl ?_
      refine q_iconst (v := 1) C dX3_walk_39 (by decide) ?_
      refine q_iadd C dX3_walk_40 ?_
      refine q_nm h (fun x2_5 h => ?_)
      refine q_istore_n (lv' := [(0, .ref (ad k.1 26)), (1, .int x1_4), (2, .int x2_5), (3, .int x3), (4, .int r_2)]) C dX3_walk_41 rfl (by decide) rfl ?_
      refine q_iinc (j := 3) (v := 1) (lv' := [(0, .ref (ad k.1 26)), (1, .int x1_4), (2, .int x2_5), (3, .int (x3 + 1)), (4, .int r_2)]) C dX3_walk_42 rfl (by decide) (by decide) rfl ?_
      refine q_goto (tgt := 6) C dX3_walk_45 (by decide) ?_
      refine q_sub [0, 1, 2, 3] rfl ?_
      exact ih _ _ _ _ h
def fX3_walk (n : Nat) (T : TS) : Option (TS) := fX3_walk_L6 n (fun T_6 => some T_6) n (0 : Int32) (0 : Int32) (0 : Int32) T
set_option maxHeartbeats 4000000 in
set_option maxRecDepth 100000 in
theorem mtX3_walk (l : Launch) (X : XT) (n : Nat) (T T' : TS) (h : fX3_walk n T = some T') : Met l yX3_walk wsX3_walk (RM 2) (PreX X [.ref (ad X 26)] T) (QQ X none T') 0 0 (xA X) := by
  refine q_start (by decide) rfl (Nat.le_of_ble_eq_true rfl) ?_
  intro k hk C
  subst hk
  show GW k T 0 [(0, .ref (ad k.1 26))] []
  unfold fX3_walk at h
  refine q_iconst (v := 0) C dX3_walk_0 (by decide) ?_
  refine q_istore_n (lv' := [(0, .ref (ad k.1 26)), (1, .int (0 : Int32))]) C dX3_walk_1 rfl (by decide) rfl ?_
  refine q_iconst (v := 0) C dX3_walk_2 (by decide) ?_
  refine q_istore_n (lv' := [(0, .ref (ad k.1 26)), (1, .int (0 : Int32)), (2, .int (0 : Int32))]) C dX3_walk_3 rfl (by decide) rfl ?_
  refine q_iconst (v := 0) C dX3_walk_4 (by decide) ?_
  refine q_istore_n (lv' := [(0, .ref (ad k.1 26)), (1, .int (0 : Int32)), (2, .int (0 : Int32)), (3, .int (0 : Int32))]) C dX3_walk_5 rfl (by decide) rfl ?_
  refine q_sub [0, 1, 2, 3] rfl ?_
  refine lpX3_walk_L6 C (fun T_6 h => ?_) _ _ _ _ _ h
  exact q_vreturn C dX3_walk_48 h
def fX3_solve_L11 (n : Nat) (y1 : Int32) (kk : TS → Option (Int32 × TS)) : Nat → Int32 → TS → Option (Int32 × TS)
  | 0, _, _ => none
  | fuel + 1, x2, T => if (gI T 1300) < x2 then kk T else ck ((y1 * (9 : Int32)) + x2) 2304 (nm (sA T 28 ((y1 * (9 : Int32)) + x2) (0 : Int32)) (fun T_2 => fX3_solve_L11 n y1 kk fuel (x2 + 1) T_2))
set_option maxHeartbeats 4000000 in
set_option maxRecDepth 100000 in
theorem lpX3_solve_L11 {l : Launch} {k : KT} {n : Nat} {y1 : Int32} {kk : TS → Option (Int32 × TS)} {r : Int32} {T' : TS} (C : CX l k 4 cX3_solve RX3 wsX3_solve 3 (some .int) (some (.int r), T')) (hk : ∀ T1, kk T1 = some (r, T') → GW k T1 37 [(0, .ref (ad k.1 26)), (1, .int y1)] []) : ∀ (fuel : Nat) (x2 : Int32) (T : TS), fX3_solve_L11 n y1 kk fuel x2 T = some (r, T') → GW k T 11 [(0, .ref (ad k.1 26)), (1, .int y1), (2, .int x2)] [] := by
  intro fuel
  induction fuel with
  | zero => intro x2 T h; cases h
  | succ fuel ih =>
    intro x2 T h
    rw [fX3_solve_L11] at h
    refine q_iload_n C dX3_solve_11 rfl 2 rfl ?_
    refine q_aload_n C dX3_solve_12 rfl 0 rfl ?_
    refine q_get (j := 0) C dX3_solve_13 (wE_26 _ _) rfl (by decide) rfl inn_X3_solve_3 (by decide +kernel) rfl ?_
    refine q_icmp_gt (tgt := 37) C dX3_solve_16 (by decide) h (fun c h => ?_) (fun c h => ?_)
    · refine q_sub [0, 1] rfl ?_
      exact hk _ h
    · refine q_aload_n C dX3_solve_19 rfl 0 rfl ?_
      refine q_get (j := 2) C dX3_solve_20 (wE_26 _ _) rfl (by decide) rfl inn_X3_solve_3 (by decide +kernel) rfl ?_
      refine q_iload_n C dX3_solve_23 rfl 1 rfl ?_
      refine q_bipush (v := 9) C dX3_solve_24 (by decide) ?_
      refine q_imul C dX3_solve_26 ?_
      refine q_iload_n C dX3_solve_27 rfl 2 rfl ?_
      refine q_iadd C dX3_solve_28 ?_
      refine q_iconst (v := 0) C dX3_solve_29 (by decide) ?_
      refine q_iast C dX3_solve_30 (wE_28 _ _) (wS_28 _ _) h (fun T_2 h => ?_)
      refine q_iinc (j := 2) (v := 1) (lv' := [(0, .ref (ad k.1 26)), (1, .int y1), (2, .int (x2 + 1))]) C dX3_solve_31 rfl (by decide) (by decide) rfl ?_
      refine q_goto (tgt := 11) C dX3_solve_34 (by decide) ?_
      refine q_sub [0, 1, 2] rfl ?_
      exact ih _ _ h
def fX3_solve_L47 (n : Nat) (y2 : Int32) (kk : TS → Option (Int32 × TS)) : Nat → Int32 → TS → Option (Int32 × TS)
  | 0, _, _ => none
  | fuel + 1, x3, T => if (gI T 1300) ≤ x3 then kk T else bd (fX3_has n y2 x3 T) (fun r_6 T_5 => if r_6 = 0 then fX3_solve_L47 n y2 kk fuel (x3 + 1) T_5 else bd (fX3_leastBehind n y2 (x3 + (1 : Int32)) T_5) (fun r_8 T_7 => ck (((y2 * (9 : Int32)) + x3) + (1 : Int32)) 2304 (nm (sA T_7 28 (((y2 * (9 : Int32)) + x3) + (1 : Int32)) r_8) (fun T_9 => fX3_solve_L47 n y2 kk fuel (x3 + 1) T_9))))
set_option maxHeartbeats 4000000 in
set_option maxRecDepth 100000 in
theorem lpX3_solve_L47 {l : Launch} {k : KT} {n : Nat} {y2 : Int32} {kk : TS → Option (Int32 × TS)} {r : Int32} {T' : TS} (C : CX l k 4 cX3_solve RX3 wsX3_solve 3 (some .int) (some (.int r), T')) (hk : ∀ T1, kk T1 = some (r, T') → GW k T1 90 [(0, .ref (ad k.1 26)), (2, .int y2)] []) : ∀ (fuel : Nat) (x3 : Int32) (T : TS), fX3_solve_L47 n y2 kk fuel x3 T = some (r, T') → GW k T 47 [(0, .ref (ad k.1 26)), (2, .int y2), (3, .int x3)] [] := by
  intro fuel
  induction fuel with
  | zero => intro x3 T h; cases h
  | succ fuel ih =>
    intro x3 T h
    rw [fX3_solve_L47] at h
    refine q_iload_n C dX3_solve_47 rfl 2 rfl ?_
    refine q_aload_n C dX3_solve_48 rfl 0 rfl ?_
    refine q_get (j := 0) C dX3_solve_49 (wE_26 _ _) rfl (by decide) rfl inn_X3_solve_3 (by decide +kernel) rfl ?_
    refine q_icmp_ge (tgt := 90) C dX3_solve_52 (by decide) h (fun c h => ?_) (fun c h => ?_)
    · refine q_sub [0, 1] rfl ?_
      exact hk _ h
    · refine q_iload_n C dX3_solve_55 rfl 1 rfl ?_
      refine q_iload_n C dX3_solve_56 rfl 2 rfl ?_
      obtain ⟨r_6, T_5, hc, h⟩ := bd_some h
      refine q_callS (st' := [.int r_6]) C dX3_solve_57 [.int y2, .int x3] [] (mtX3_has l _ n _ _ _ _ _ hc) gX3_solve_X3_has rfl hd_X3_has (by decide) (by decide) rfl rfl (Nat.le_of_ble_eq_true rfl) rfl ?_
      clear hc
      refine q_if_eq (tgt := 84) C dX3_solve_60 (by decide) h (fun c h => ?_) (fun c h => ?_)
      · refine q_iinc (j := 2) (v := 1) (lv' := [(0, .ref (ad k.1 26)), (2, .int y2), (3, .int (x3 + 1))]) C dX3_solve_84 rfl (by decide) (by decide) rfl ?_
        refine q_goto (tgt := 47) C dX3_solve_87 (by decide) ?_
        refine q_sub [0, 1, 2] rfl ?_
        exact ih _ _ h
      · refine q_aload_n C dX3_solve_63 rfl 0 rfl ?_
        refine q_get (j := 2) C dX3_solve_64 (wE_26 _ _) rfl (by decide) rfl inn_X3_solve_3 (by decide +kernel) rfl ?_
        refine q_iload_n C dX3_solve_67 rfl 1 rfl ?_
        refine q_bipush (v := 9) C dX3_solve_68 (by decide) ?_
        refine q_imul C dX3_solve_70 ?_
        refine q_iload_n C dX3_solve_71 rfl 2 rfl ?_
        refine q_iadd C dX3_solve_72 ?_
        refine q_iconst (v := 1) C dX3_solve_73 (by decide) ?_
        refine q_iadd C dX3_solve_74 ?_
        refine q_aload_n C dX3_solve_75 rfl 0 rfl ?_
        refine q_iload_n C dX3_solve_76 rfl 1 rfl ?_
        refine q_iload_n C dX3_solve_77 rfl 2 rfl ?_
        refine q_iconst (v := 1) C dX3_solve_78 (by decide) ?_
        refine q_iadd C dX3_solve_79 ?_
        obtain ⟨r_8, T_7, hc, h⟩ := bd_some h
        refine q_callV (st' := [.int r_8, .int (((y2 * (9 : Int32)) + x3) + (1 : Int32)), .ref (ad k.1 28)]) C dX3_solve_80 [.int y2, .int (x3 + (1 : Int32))] [.int (((y2 * (9 : Int32)) + x3) + (1 : Int32)), .ref (ad k.1 28)] (mtX3_leastBehind l _ n _ _ _ _ _ hc) gX3_solve_X3_leastBehind rfl hd_X3_leastBehind (by decide) (by decide) (wE_26 _ _) rfl rfl rfl (Nat.le_of_ble_eq_true rfl) rfl ?_
        clear hc
        refine q_iast C dX3_solve_83 (wE_28 _ _) (wS_28 _ _) h (fun T_9 h => ?_)
        refine q_iinc (j := 2) (v := 1) (lv' := [(0, .ref (ad k.1 26)), (2, .int y2), (3, .int (x3 + 1))]) C dX3_solve_84 rfl (by decide) (by decide) rfl ?_
        refine q_goto (tgt := 47) C dX3_solve_87 (by decide) ?_
        refine q_sub [0, 1, 2] rfl ?_
        exact ih _ _ h
def fX3_solve_L41 (n : Nat) (kk : TS → Option (Int32 × TS)) : Nat → Int32 → TS → Option (Int32 × TS)
  | 0, _, _ => none
  | fuel + 1, x2, T => if x2 ≤ 0 then kk T else fX3_solve_L47 n x2 (fun T_10 => fX3_solve_L41 n kk fuel (x2 + (-1)) T_10) n (0 : Int32) T
set_option maxHeartbeats 4000000 in
set_option maxRecDepth 100000 in
theorem lpX3_solve_L41 {l : Launch} {k : KT} {n : Nat} {kk : TS → Option (Int32 × TS)} {r : Int32} {T' : TS} (C : CX l k 4 cX3_solve RX3 wsX3_solve 3 (some .int) (some (.int r), T')) (hk : ∀ T1, kk T1 = some (r, T') → GW k T1 96 [(0, .ref (ad k.1 26))] []) : ∀ (fuel : Nat) (x2 : Int32) (T : TS), fX3_solve_L41 n kk fuel x2 T = some (r, T') → GW k T 41 [(0, .ref (ad k.1 26)), (2, .int x2)] [] := by
  intro fuel
  induction fuel with
  | zero => intro x2 T h; cases h
  | succ fuel ih =>
    intro x2 T h
    rw [fX3_solve_L41] at h
    refine q_iload_n C dX3_solve_41 rfl 1 rfl ?_
    refine q_if_le (tgt := 96) C dX3_solve_42 (by decide) h (fun c h => ?_) (fun c h => ?_)
    · refine q_sub [0] rfl ?_
      exact hk _ h
    · refine q_iconst (v := 0) C dX3_solve_45 (by decide) ?_
      refine q_istore_n (lv' := [(0, .ref (ad k.1 26)), (2, .int x2), (3, .int (0 : Int32))]) C dX3_solve_46 rfl (by decide) rfl ?_
      refine q_sub [0, 1, 2] rfl ?_
      refine lpX3_solve_L47 C (fun T_10 h => ?_) _ _ _ h
      refine q_iinc (j := 1) (v := -1) (lv' := [(0, .ref (ad k.1 26)), (2, .int (x2 + (-1)))]) C dX3_solve_90 rfl (by decide) (by decide) rfl ?_
      refine q_goto (tgt := 41) C dX3_solve_93 (by decide) ?_
      refine q_sub [0, 1] rfl ?_
      exact ih _ _ h
def fX3_solve (n : Nat) (T : TS) : Option (Int32 × TS) := nm (((1 : Int32) <<< ((gI T 1300) &&& 31)) - (1 : Int32)) (fun x1_1 => fX3_solve_L11 n x1_1 (fun T_3 => nm (x1_1 - (1 : Int32)) (fun x2_4 => fX3_solve_L41 n (fun T_11 => if (gI T_11 1300) ≤ 0 then bv (fX3_walk n T_11) (fun T_12 => ck (0 : Int32) 2304 (some ((gA T_12 28 (Int32.toNatClampNeg (0 : Int32))), T_12))) else bd (fX3_leastBehind n (0 : Int32) (0 : Int32) T_11) (fun r_15 T_14 => ck (0 : Int32) 2304 (nm (sA T_14 28 (0 : Int32) r_15) (fun T_16 => bv (fX3_walk n T_16) (fun T_17 => ck (0 : Int32) 2304 (some ((gA T_17 28 (Int32.toNatClampNeg (0 : Int32))), T_17))))))) n x2_4 T_3)) n (0 : Int32) T)
set_option maxHeartbeats 4000000 in
set_option maxRecDepth 100000 in
theorem mtX3_solve (l : Launch) (X : XT) (n : Nat) (T T' : TS) (r : Int32) (h : fX3_solve n T = some (r, T')) : Met l yX3_solve wsX3_solve (RM 3) (PreX X [.ref (ad X 26)] T) (QQ X (some (.int r)) T') 0 0 (xA X) := by
  refine q_start (by decide) rfl (Nat.le_of_ble_eq_true rfl) ?_
  intro k hk C
  subst hk
  show GW k T 0 [(0, .ref (ad k.1 26))] []
  unfold fX3_solve at h
  refine q_iconst (v := 1) C dX3_solve_0 (by decide) ?_
  refine q_aload_n C dX3_solve_1 rfl 0 rfl ?_
  refine q_get (j := 0) C dX3_solve_2 (wE_26 _ _) rfl (by decide) rfl inn_X3_solve_3 (by decide +kernel) rfl ?_
  refine q_ishl C dX3_solve_5 ?_
  refine q_iconst (v := 1) C dX3_solve_6 (by decide) ?_
  refine q_isub C dX3_solve_7 ?_
  refine q_nm h (fun x1_1 h => ?_)
  refine q_istore_n (lv' := [(0, .ref (ad k.1 26)), (1, .int x1_1)]) C dX3_solve_8 rfl (by decide) rfl ?_
  refine q_iconst (v := 0) C dX3_solve_9 (by decide) ?_
  refine q_istore_n (lv' := [(0, .ref (ad k.1 26)), (1, .int x1_1), (2, .int (0 : Int32))]) C dX3_solve_10 rfl (by decide) rfl ?_
  refine q_sub [0, 1, 2] rfl ?_
  refine lpX3_solve_L11 C (fun T_3 h => ?_) _ _ _ h
  refine q_iload_n C dX3_solve_37 rfl 1 rfl ?_
  refine q_iconst (v := 1) C dX3_solve_38 (by decide) ?_
  refine q_isub C dX3_solve_39 ?_
  refine q_nm h (fun x2_4 h => ?_)
  refine q_istore_n (lv' := [(0, .ref (ad k.1 26)), (1, .int x1_1), (2, .int x2_4)]) C dX3_solve_40 rfl (by decide) rfl ?_
  refine q_sub [0, 2] rfl ?_
  refine lpX3_solve_L41 C (fun T_11 h => ?_) _ _ _ h
  refine q_aload_n C dX3_solve_96 rfl 0 rfl ?_
  refine q_get (j := 0) C dX3_solve_97 (wE_26 _ _) rfl (by decide) rfl inn_X3_solve_3 (by decide +kernel) rfl ?_
  refine q_if_le (tgt := 115) C dX3_solve_100 (by decide) h (fun c h => ?_) (fun c h => ?_)
  · refine q_aload_n C dX3_solve_115 rfl 0 rfl ?_
    obtain ⟨T_12, hc, h⟩ := bv_some h
    refine q_callV (st' := []) C dX3_solve_116 [] [] (mtX3_walk l _ n _ _ hc) gX3_solve_X3_walk rfl hd_X3_walk (by decide) (by decide) (wE_26 _ _) rfl rfl rfl (Nat.le_of_ble_eq_true rfl) rfl ?_
    clear hc
    refine q_aload_n C dX3_solve_119 rfl 0 rfl ?_
    refine q_get (j := 2) C dX3_solve_120 (wE_26 _ _) rfl (by decide) rfl inn_X3_solve_3 (by decide +kernel) rfl ?_
    refine q_iconst (v := 0) C dX3_solve_123 (by decide) ?_
    refine q_iald C dX3_solve_124 (wE_28 _ _) h (fun h => ?_)
    exact q_ireturn C dX3_solve_125 h
  · refine q_aload_n C dX3_solve_103 rfl 0 rfl ?_
    refine q_get (j := 2) C dX3_solve_104 (wE_26 _ _) rfl (by decide) rfl inn_X3_solve_3 (by decide +kernel) rfl ?_
    refine q_iconst (v := 0) C dX3_solve_107 (by decide) ?_
    refine q_aload_n C dX3_solve_108 rfl 0 rfl ?_
    refine q_iconst (v := 0) C dX3_solve_109 (by decide) ?_
    refine q_iconst (v := 0) C dX3_solve_110 (by decide) ?_
    obtain ⟨r_15, T_14, hc, h⟩ := bd_some h
    refine q_callV (st' := [.int r_15, .int (0 : Int32), .ref (ad k.1 28)]) C dX3_solve_111 [.int (0 : Int32), .int (0 : Int32)] [.int (0 : Int32), .ref (ad k.1 28)] (mtX3_leastBehind l _ n _ _ _ _ _ hc) gX3_solve_X3_leastBehind rfl hd_X3_leastBehind (by decide) (by decide) (wE_26 _ _) rfl rfl rfl (Nat.le_of_ble_eq_true rfl) rfl ?_
    clear hc
    refine q_iast C dX3_solve_114 (wE_28 _ _) (wS_28 _ _) h (fun T_16 h => ?_)
    refine q_aload_n C dX3_solve_115 rfl 0 rfl ?_
    obtain ⟨T_17, hc, h⟩ := bv_some h
    refine q_callV (st' := []) C dX3_solve_116 [] [] (mtX3_walk l _ n _ _ hc) gX3_solve_X3_walk rfl hd_X3_walk (by decide) (by decide) (wE_26 _ _) rfl rfl rfl (Nat.le_of_ble_eq_true rfl) rfl ?_
    clear hc
    refine q_aload_n C dX3_solve_119 rfl 0 rfl ?_
    refine q_get (j := 2) C dX3_solve_120 (wE_26 _ _) rfl (by decide) rfl inn_X3_solve_3 (by decide +kernel) rfl ?_
    refine q_iconst (v := 0) C dX3_solve_123 (by decide) ?_
    refine q_iald C dX3_solve_124 (wE_28 _ _) h (fun h => ?_)
    exact q_ireturn C dX3_solve_125 h
def fX7_start_L7 (n : Nat) (y2 : Int32) (kk : TS → Option (Int32 × TS)) : Nat → Int32 → TS → Option (Int32 × TS)
  | 0, _, _ => none
  | fuel + 1, x3, T => if (gI T 55) ≤ x3 then kk T else bd (fX6_wanted n x3 T) (fun r_3 T_2 => ck x3 6 (nm (sA T_2 31 x3 r_3) (fun T_4 => ck x3 6 (nm (sA T_4 32 x3 (gI T_4 1506)) (fun T_5 => ck x3 6 (nm (uI T_5 1506 ((gI T_5 1506) * ((gA T_5 31 (Int32.toNatClampNeg x3)) + (1 : Int32)))) (fun T_6 => if (gI T_6 1506) ≤ (5000 : Int32) then fX7_start_L7 n y2 kk fuel (x3 + 1) T_6 else rz (0 : Int32) T_6)))))))
set_option maxHeartbeats 4000000 in
set_option maxRecDepth 100000 in
theorem lpX7_start_L7 {l : Launch} {k : KT} {n : Nat} {y2 : Int32} {kk : TS → Option (Int32 × TS)} {r : Int32} {T' : TS} (C : CX l k 4 cX7_start RX7 wsX7_start 2 (some .boolean) (some (.int r), T')) (hk : ∀ T1, kk T1 = some (r, T') → GW k T1 74 [(0, .ref (ad k.1 30)), (2, .int y2)] []) : ∀ (fuel : Nat) (x3 : Int32) (T : TS), fX7_start_L7 n y2 kk fuel x3 T = some (r, T') → GW k T 7 [(0, .ref (ad k.1 30)), (1, .ref (ad k.1 6)), (2, .int y2), (3, .int x3)] [] := by
  intro fuel
  induction fuel with
  | zero => intro x3 T h; cases h
  | succ fuel ih =>
    intro x3 T h
    rw [fX7_start_L7] at h
    refine q_iload_n C dX7_start_7 rfl 3 rfl ?_
    refine q_aload_n C dX7_start_8 rfl 0 rfl ?_
    refine q_get (j := 0) C dX7_start_9 (wE_30 _ _) rfl (by decide) rfl inn_X7_start_7 (by decide +kernel) rfl ?_
    refine q_get (j := 5) C dX7_start_12 (wE_1 _ _) rfl (by decide) rfl inn_X7_start_4 (by decide +kernel) rfl ?_
    refine q_icmp_ge (tgt := 74) C dX7_start_15 (by decide) h (fun c h => ?_) (fun c h => ?_)
    · refine q_sub [0, 2] rfl ?_
      exact hk _ h
    · refine q_aload_n C dX7_start_18 rfl 0 rfl ?_
      refine q_get (j := 1) C dX7_start_19 (wE_30 _ _) rfl (by decide) rfl inn_X7_start_7 (by decide +kernel) rfl ?_
      refine q_iload_n C dX7_start_22 rfl 3 rfl ?_
      refine q_aload_n C dX7_start_23 rfl 1 rfl ?_
      refine q_iload_n C dX7_start_24 rfl 3 rfl ?_
      obtain ⟨r_3, T_2, hc, h⟩ := bd_some h
      refine q_callV (st' := [.int r_3, .int x3, .ref (ad k.1 31)]) C dX7_start_25 [.int x3] [.int x3, .ref (ad k.1 31)] (mtX6_wanted l _ n _ _ _ _ hc) gX7_start_X6_wanted rfl hd_X6_wanted (by decide) (by decide) (wE_6 _ _) rfl rfl rfl (Nat.le_of_ble_eq_true rfl) rfl ?_
      clear hc
      refine q_iast C dX7_start_28 (wE_31 _ _) (wS_31 _ _) h (fun T_4 h => ?_)
      refine q_aload_n C dX7_start_29 rfl 0 rfl ?_
      refine q_get (j := 2) C dX7_start_30 (wE_30 _ _) rfl (by decide) rfl inn_X7_start_7 (by decide +kernel) rfl ?_
      refine q_iload_n C dX7_start_33 rfl 3 rfl ?_
      refine q_aload_n C dX7_start_34 rfl 0 rfl ?_
      refine q_get (j := 6) C dX7_start_35 (wE_30 _ _) rfl (by decide) rfl inn_X7_start_7 (by decide +kernel) rfl ?_
      refine q_iast C dX7_start_38 (wE_32 _ _) (wS_32 _ _) h (fun T_5 h => ?_)
      refine q_aload_n C dX7_start_39 rfl 0 rfl ?_
      refine q_dup C dX7_start_40 rfl ?_
      refine q_get (j := 6) C dX7_start_41 (wE_30 _ _) rfl (by decide) rfl inn_X7_start_7 (by decide +kernel) rfl ?_
      refine q_aload_n C dX7_start_44 rfl 0 rfl ?_
      refine q_get (j := 1) C dX7_start_45 (wE_30 _ _) rfl (by decide) rfl inn_X7_start_7 (by decide +kernel) rfl ?_
      refine q_iload_n C dX7_start_48 rfl 3 rfl ?_
      refine q_iald C dX7_start_49 (wE_31 _ _) h (fun h => ?_)
      refine q_iconst (v := 1) C dX7_start_50 (by decide) ?_
      refine q_iadd C dX7_start_51 ?_
      refine q_imul C dX7_start_52 ?_
      refine q_putI (j := 6) (ty := .int) C dX7_start_53 (wE_30 _ _) (wP_30_6 _ _ _) rfl (by decide) (Nat.le_of_ble_eq_true rfl) tyX7 tyX7_ok nmX7 inn_X7_start_7 (by decide +kernel) rfl rfl (by decide +kernel) rfl rfl h (fun T_6 h => ?_)
      refine q_aload_n C dX7_start_56 rfl 0 rfl ?_
      refine q_get (j := 6) C dX7_start_57 (wE_30 _ _) rfl (by decide) rfl inn_X7_start_7 (by decide +kernel) rfl ?_
      refine q_sipush (v := 5000) C dX7_start_60 (by decide) ?_
      refine q_icmp_le (tgt := 68) C dX7_start_63 (by decide) h (fun c h => ?_) (fun c h => ?_)
      · refine q_iinc (j := 3) (v := 1) (lv' := [(0, .ref (ad k.1 30)), (1, .ref (ad k.1 6)), (2, .int y2), (3, .int (x3 + 1))]) C dX7_start_68 rfl (by decide) (by decide) rfl ?_
        refine q_goto (tgt := 7) C dX7_start_71 (by decide) ?_
        refine q_sub [0, 1, 2, 3] rfl ?_
        exact ih _ _ h
      · refine q_iconst (v := 0) C dX7_start_66 (by decide) ?_
        exact q_zreturn C dX7_start_67 h
def fX7_start (n : Nat) (p1 : Int32) (T : TS) : Option (Int32 × TS) := nm (uI T 1506 (1 : Int32)) (fun T_1 => fX7_start_L7 n p1 (fun T_7 => if 0 < (lg_cmp ((Int32.toInt64 (gI T_7 1506)) * (Int32.toInt64 p1)) (2000000 : Int64)) then rz (0 : Int32) T_7 else rz (1 : Int32) T_7) n (0 : Int32) T_1)
set_option maxHeartbeats 4000000 in
set_option maxRecDepth 100000 in
theorem mtX7_start (l : Launch) (X : XT) (n : Nat) (p1 : Int32) (T T' : TS) (r : Int32) (h : fX7_start n p1 T = some (r, T')) : Met l yX7_start wsX7_start (RM 2) (PreX X [.ref (ad X 30), .ref (ad X 6), .int p1] T) (QQ X (some (.int r)) T') 0 0 (xA X) := by
  refine q_start (by decide) rfl (Nat.le_of_ble_eq_true rfl) ?_
  intro k hk C
  subst hk
  show GW k T 0 [(0, .ref (ad k.1 30)), (1, .ref (ad k.1 6)), (2, .int p1)] []
  unfold fX7_start at h
  refine q_aload_n C dX7_start_0 rfl 0 rfl ?_
  refine q_iconst (v := 1) C dX7_start_1 (by decide) ?_
  refine q_putI (j := 6) (ty := .int) C dX7_start_2 (wE_30 _ _) (wP_30_6 _ _ _) rfl (by decide) (Nat.le_of_ble_eq_true rfl) tyX7 tyX7_ok nmX7 inn_X7_start_7 (by decide +kernel) rfl rfl (by decide +kernel) rfl rfl h (fun T_1 h => ?_)
  refine q_iconst (v := 0) C dX7_start_5 (by decide) ?_
  refine q_istore_n (lv' := [(0, .ref (ad k.1 30)), (1, .ref (ad k.1 6)), (2, .int p1), (3, .int (0 : Int32))]) C dX7_start_6 rfl (by decide) rfl ?_
  refine q_sub [0, 1, 2, 3] rfl ?_
  refine lpX7_start_L7 C (fun T_7 h => ?_) _ _ _ h
  refine q_aload_n C dX7_start_74 rfl 0 rfl ?_
  refine q_get (j := 6) C dX7_start_75 (wE_30 _ _) rfl (by decide) rfl inn_X7_start_7 (by decide +kernel) rfl ?_
  refine q_i2l C dX7_start_78 ?_
  refine q_iload_n C dX7_start_79 rfl 1 rfl ?_
  refine q_i2l C dX7_start_80 ?_
  refine q_lmul C dX7_start_81 ?_
  refine q_ldc2 (v := 2000000) C dX7_start_82 (by decide +kernel) ?_
  refine q_lcmp C dX7_start_85 ?_
  refine q_if_gt (tgt := 93) C dX7_start_86 (by decide) h (fun c h => ?_) (fun c h => ?_)
  · refine q_iconst (v := 0) C dX7_start_93 (by decide) ?_
    exact q_zreturn C dX7_start_94 h
  · refine q_iconst (v := 1) C dX7_start_89 (by decide) ?_
    refine q_goto (tgt := 94) C dX7_start_90 (by decide) ?_
    exact q_zreturn C dX7_start_94 h
def fX7_isFullest_L40 (n : Nat) (y1 : Int32) (y2 : Int32) (y3 : Int32) (kk : TS → Option (Int32 × TS)) : Nat → Int32 → TS → Option (Int32 × TS)
  | 0, _, _ => none
  | fuel + 1, x4, T => if (gI T 55) ≤ x4 then kk T else bd (fX0_ofWidth n y1 x4 T) (fun r_9 T_8 => ck x4 6 (if (gA T_8 31 (Int32.toNatClampNeg x4)) < r_9 then rz (0 : Int32) T_8 else ck x4 6 (if (gA T_8 31 (Int32.toNatClampNeg x4)) ≤ r_9 then fX7_isFullest_L40 n y1 y2 y3 kk fuel (x4 + 1) T_8 else if y3 = 0 then fX7_isFullest_L40 n y1 y2 y3 kk fuel (x4 + 1) T_8 else ck x4 6 (if y2 < (gA T_8 2 (Int32.toNatClampNeg x4)) then fX7_isFullest_L40 n y1 y2 y3 kk fuel (x4 + 1) T_8 else rz (0 : Int32) T_8))))
set_option maxHeartbeats 4000000 in
set_option maxRecDepth 100000 in
theorem lpX7_isFullest_L40 {l : Launch} {k : KT} {n : Nat} {y1 : Int32} {y2 : Int32} {y3 : Int32} {kk : TS → Option (Int32 × TS)} {r : Int32} {T' : TS} (C : CX l k 6 cX7_isFullest RX7 wsX7_isFullest 2 (some .boolean) (some (.int r), T')) (hk : ∀ T1, kk T1 = some (r, T') → GW k T1 110 [] []) : ∀ (fuel : Nat) (x4 : Int32) (T : TS), fX7_isFullest_L40 n y1 y2 y3 kk fuel x4 T = some (r, T') → GW k T 40 [(0, .ref (ad k.1 30)), (1, .int y1), (2, .int y2), (3, .int y3), (4, .int x4)] [] := by
  intro fuel
  induction fuel with
  | zero => intro x4 T h; cases h
  | succ fuel ih =>
    intro x4 T h
    rw [fX7_isFullest_L40] at h
    refine q_iload C dX7_isFullest_40 4 rfl ?_
    refine q_aload_n C dX7_isFullest_42 rfl 0 rfl ?_
    refine q_get (j := 0) C dX7_isFullest_43 (wE_30 _ _) rfl (by decide) rfl inn_X7_isFullest_7 (by decide +kernel) rfl ?_
    refine q_get (j := 5) C dX7_isFullest_46 (wE_1 _ _) rfl (by decide) rfl inn_X7_isFullest_4 (by decide +kernel) rfl ?_
    refine q_icmp_ge (tgt := 110) C dX7_isFullest_49 (by decide) h (fun c h => ?_) (fun c h => ?_)
    · refine q_sub [] rfl ?_
      exact hk _ h
    · refine q_iload_n C dX7_isFullest_52 rfl 1 rfl ?_
      refine q_iload C dX7_isFullest_53 4 rfl ?_
      obtain ⟨r_9, T_8, hc, h⟩ := bd_some h
      refine q_callS (st' := [.int r_9]) C dX7_isFullest_55 [.int y1, .int x4] [] (mtX0_ofWidth l _ n _ _ _ _ _ hc) gX7_isFullest_X0_ofWidth rfl hd_X0_ofWidth (by decide) (by decide) rfl rfl (Nat.le_of_ble_eq_true rfl) rfl ?_
      clear hc
      refine q_istore (lv' := [(0, .ref (ad k.1 30)), (1, .int y1), (2, .int y2), (3, .int y3), (4, .int x4), (5, .int r_9)]) C dX7_isFullest_58 (by decide) rfl ?_
      refine q_iload C dX7_isFullest_60 5 rfl ?_
      refine q_aload_n C dX7_isFullest_62 rfl 0 rfl ?_
      refine q_get (j := 1) C dX7_isFullest_63 (wE_30 _ _) rfl (by decide) rfl inn_X7_isFullest_7 (by decide +kernel) rfl ?_
      refine q_iload C dX7_isFullest_66 4 rfl ?_
      refine q_iald C dX7_isFullest_68 (wE_31 _ _) h (fun h => ?_)
      refine q_icmp_gt (tgt := 102) C dX7_isFullest_69 (by decide) h (fun c h => ?_) (fun c h => ?_)
      · refine q_iconst (v := 0) C dX7_isFullest_102 (by decide) ?_
        exact q_zreturn C dX7_isFullest_103 h
      · refine q_iload C dX7_isFullest_72 5 rfl ?_
        refine q_aload_n C dX7_isFullest_74 rfl 0 rfl ?_
        refine q_get (j := 1) C dX7_isFullest_75 (wE_30 _ _) rfl (by decide) rfl inn_X7_isFullest_7 (by decide +kernel) rfl ?_
        refine q_iload C dX7_isFullest_78 4 rfl ?_
        refine q_iald C dX7_isFullest_80 (wE_31 _ _) h (fun h => ?_)
        refine q_icmp_ge (tgt := 104) C dX7_isFullest_81 (by decide) h (fun c h => ?_) (fun c h => ?_)
        · refine q_iinc (j := 4) (v := 1) (lv' := [(0, .ref (ad k.1 30)), (1, .int y1), (2, .int y2), (3, .int y3), (4, .int (x4 + 1)), (5, .int r_9)]) C dX7_isFullest_104 rfl (by decide) (by decide) rfl ?_
          refine q_goto (tgt := 40) C dX7_isFullest_107 (by decide) ?_
          refine q_sub [0, 1, 2, 3, 4] rfl ?_
          exact ih _ _ h
        · refine q_iload_n C dX7_isFullest_84 rfl 3 rfl ?_
          refine q_if_eq (tgt := 104) C dX7_isFullest_85 (by decide) h (fun c h => ?_) (fun c h => ?_)
          · refine q_iinc (j := 4) (v := 1) (lv' := [(0, .ref (ad k.1 30)), (1, .int y1), (2, .int y2), (3, .int y3), (4, .int (x4 + 1)), (5, .int r_9)]) C dX7_isFullest_104 rfl (by decide) (by decide) rfl ?_
            refine q_goto (tgt := 40) C dX7_isFullest_107 (by decide) ?_
            refine q_sub [0, 1, 2, 3, 4] rfl ?_
            exact ih _ _ h
          · refine q_aload_n C dX7_isFullest_88 rfl 0 rfl ?_
            refine q_get (j := 0) C dX7_isFullest_89 (wE_30 _ _) rfl (by decide) rfl inn_X7_isFullest_7 (by decide +kernel) rfl ?_
            refine q_get (j := 6) C dX7_isFullest_92 (wE_1 _ _) rfl (by decide) rfl inn_X7_isFullest_4 (by decide +kernel) rfl ?_
            refine q_iload C dX7_isFullest_95 4 rfl ?_
            refine q_iald C dX7_isFullest_97 (wE_2 _ _) h (fun h => ?_)
            refine q_iload_n C dX7_isFullest_98 rfl 2 rfl ?_
            refine q_icmp_gt (tgt := 104) C dX7_isFullest_99 (by decide) h (fun c h => ?_) (fun c h => ?_)
            · refine q_iinc (j := 4) (v := 1) (lv' := [(0, .ref (ad k.1 30)), (1, .int y1), (2, .int y2), (3, .int y3), (4, .int (x4 + 1)), (5, .int r_9)]) C dX7_isFullest_104 rfl (by decide) (by decide) rfl ?_
              refine q_goto (tgt := 40) C dX7_isFullest_107 (by decide) ?_
              refine q_sub [0, 1, 2, 3, 4] rfl ?_
              exact ih _ _ h
            · refine q_iconst (v := 0) C dX7_isFullest_102 (by decide) ?_
              exact q_zreturn C dX7_isFullest_103 h
def fX7_isFullest (n : Nat) (p0 : Int32) (T : TS) : Option (Int32 × TS) := bd (fX4_room n T) (fun r_2 T_1 => bd (fX4_spanOf n p0 T_1) (fun r_4 T_3 => nm (r_2 - r_4) (fun x2_5 => bd (fX0_pieces n p0 T_3) (fun r_7 T_6 => if (gI T_6 52) ≤ r_7 then fX7_isFullest_L40 n p0 x2_5 (0 : Int32) (fun T_10 => rz (1 : Int32) T_10) n (0 : Int32) T_6 else fX7_isFullest_L40 n p0 x2_5 (1 : Int32) (fun T_11 => rz (1 : Int32) T_11) n (0 : Int32) T_6))))
set_option maxHeartbeats 4000000 in
set_option maxRecDepth 100000 in
theorem mtX7_isFullest (l : Launch) (X : XT) (n : Nat) (p0 : Int32) (T T' : TS) (r : Int32) (h : fX7_isFullest n p0 T = some (r, T')) : Met l yX7_isFullest wsX7_isFullest (RM 2) (PreX X [.ref (ad X 30), .int p0] T) (QQ X (some (.int r)) T') 0 0 (xA X) := by
  refine q_start (by decide) rfl (Nat.le_of_ble_eq_true rfl) ?_
  intro k hk C
  subst hk
  show GW k T 0 [(0, .ref (ad k.1 30)), (1, .int p0)] []
  unfold fX7_isFullest at h
  refine q_aload_n C dX7_isFullest_0 rfl 0 rfl ?_
  refine q_get (j := 0) C dX7_isFullest_1 (wE_30 _ _) rfl (by decide) rfl inn_X7_isFullest_7 (by decide +kernel) rfl ?_
  obtain ⟨r_2, T_1, hc, h⟩ := bd_some h
  refine q_callV (st' := [.int r_2]) C dX7_isFullest_4 [] [] (mtX4_room l _ n _ _ _ hc) gX7_isFullest_X4_room rfl hd_X4_room (by decide) (by decide) (wE_1 _ _) rfl rfl rfl (Nat.le_of_ble_eq_true rfl) rfl ?_
  clear hc
  refine q_aload_n C dX7_isFullest_7 rfl 0 rfl ?_
  refine q_get (j := 0) C dX7_isFullest_8 (wE_30 _ _) rfl (by decide) rfl inn_X7_isFullest_7 (by decide +kernel) rfl ?_
  refine q_iload_n C dX7_isFullest_11 rfl 1 rfl ?_
  obtain ⟨r_4, T_3, hc, h⟩ := bd_some h
  refine q_callV (st' := [.int r_4, .int r_2]) C dX7_isFullest_12 [.int p0] [.int r_2] (mtX4_spanOf l _ n _ _ _ _ hc) gX7_isFullest_X4_spanOf rfl hd_X4_spanOf (by decide) (by decide) (wE_1 _ _) rfl rfl rfl (Nat.le_of_ble_eq_true rfl) rfl ?_
  clear hc
  refine q_isub C dX7_isFullest_15 ?_
  refine q_nm h (fun x2_5 h => ?_)
  refine q_istore_n (lv' := [(0, .ref (ad k.1 30)), (1, .int p0), (2, .int x2_5)]) C dX7_isFullest_16 rfl (by decide) rfl ?_
  refine q_iload_n C dX7_isFullest_17 rfl 1 rfl ?_
  obtain ⟨r_7, T_6, hc, h⟩ := bd_some h
  refine q_callS (st' := [.int r_7]) C dX7_isFullest_18 [.int p0] [] (mtX0_pieces l _ n _ _ _ _ hc) gX7_isFullest_X0_pieces rfl hd_X0_pieces (by decide) (by decide) rfl rfl (Nat.le_of_ble_eq_true rfl) rfl ?_
  clear hc
  refine q_aload_n C dX7_isFullest_21 rfl 0 rfl ?_
  refine q_get (j := 0) C dX7_isFullest_22 (wE_30 _ _) rfl (by decide) rfl inn_X7_isFullest_7 (by decide +kernel) rfl ?_
  refine q_get (j := 2) C dX7_isFullest_25 (wE_1 _ _) rfl (by decide) rfl inn_X7_isFullest_4 (by decide +kernel) rfl ?_
  refine q_icmp_ge (tgt := 35) C dX7_isFullest_28 (by decide) h (fun c h => ?_) (fun c h => ?_)
  · refine q_iconst (v := 0) C dX7_isFullest_35 (by decide) ?_
    refine q_istore_n (lv' := [(0, .ref (ad k.1 30)), (1, .int p0), (2, .int x2_5), (3, .int (0 : Int32))]) C dX7_isFullest_36 rfl (by decide) rfl ?_
    refine q_iconst (v := 0) C dX7_isFullest_37 (by decide) ?_
    refine q_istore (lv' := [(0, .ref (ad k.1 30)), (1, .int p0), (2, .int x2_5), (3, .int (0 : Int32)), (4, .int (0 : Int32))]) C dX7_isFullest_38 (by decide) rfl ?_
    refine q_sub [0, 1, 2, 3, 4] rfl ?_
    refine lpX7_isFullest_L40 C (fun T_10 h => ?_) _ _ _ h
    refine q_iconst (v := 1) C dX7_isFullest_110 (by decide) ?_
    exact q_zreturn C dX7_isFullest_111 h
  · refine q_iconst (v := 1) C dX7_isFullest_31 (by decide) ?_
    refine q_goto (tgt := 36) C dX7_isFullest_32 (by decide) ?_
    refine q_istore_n (lv' := [(0, .ref (ad k.1 30)), (1, .int p0), (2, .int x2_5), (3, .int (1 : Int32))]) C dX7_isFullest_36 rfl (by decide) rfl ?_
    refine q_iconst (v := 0) C dX7_isFullest_37 (by decide) ?_
    refine q_istore (lv' := [(0, .ref (ad k.1 30)), (1, .int p0), (2, .int x2_5), (3, .int (1 : Int32)), (4, .int (0 : Int32))]) C dX7_isFullest_38 (by decide) rfl ?_
    refine q_sub [0, 1, 2, 3, 4] rfl ?_
    refine lpX7_isFullest_L40 C (fun T_11 h => ?_) _ _ _ h
    refine q_iconst (v := 1) C dX7_isFullest_110 (by decide) ?_
    exact q_zreturn C dX7_isFullest_111 h
def fX7_gatherFullest_L12 (n : Nat) (y2 : Int32) (kk : TS → Option (TS)) : Nat → Int32 → TS → Option (TS)
  | 0, _, _ => none
  | fuel + 1, x3, T => if y2 ≤ x3 then kk T else bd (fX5_codeAt n x3 T) (fun r_5 T_4 => bd (fX7_isFullest n r_5 T_4) (fun r_7 T_6 => if r_7 = 0 then fX7_gatherFullest_L12 n y2 kk fuel (x3 + 1) T_6 else if (3000 : Int32) ≤ (gI T_6 1508) then fX7_gatherFullest_L12 n y2 kk fuel (x3 + 1) T_6 else bd (fX5_codeAt n x3 T_6) (fun r_9 T_8 => ck (gI T_6 1508) 3000 (nm (sA T_8 35 (gI T_6 1508) r_9) (fun T_10 => nm (uI T_10 1508 ((gI T_10 1508) + (1 : Int32))) (fun T_11 => fX7_gatherFullest_L12 n y2 kk fuel (x3 + 1) T_11))))))
set_option maxHeartbeats 4000000 in
set_option maxRecDepth 100000 in
theorem lpX7_gatherFullest_L12 {l : Launch} {k : KT} {n : Nat} {y2 : Int32} {kk : TS → Option (TS)} {T' : TS} (C : CX l k 4 cX7_gatherFullest RX7 wsX7_gatherFullest 12 none (none, T')) (hk : ∀ T1, kk T1 = some T' → GW k T1 71 [] []) : ∀ (fuel : Nat) (x3 : Int32) (T : TS), fX7_gatherFullest_L12 n y2 kk fuel x3 T = some T' → GW k T 12 [(0, .ref (ad k.1 30)), (1, .ref (ad k.1 4)), (2, .int y2), (3, .int x3)] [] := by
  intro fuel
  induction fuel with
  | zero => intro x3 T h; cases h
  | succ fuel ih =>
    intro x3 T h
    rw [fX7_gatherFullest_L12] at h
    refine q_iload_n C dX7_gatherFullest_12 rfl 3 rfl ?_
    refine q_iload_n C dX7_gatherFullest_13 rfl 2 rfl ?_
    refine q_icmp_ge (tgt := 71) C dX7_gatherFullest_14 (by decide) h (fun c h => ?_) (fun c h => ?_)
    · refine q_sub [] rfl ?_
      exact hk _ h
    · refine q_aload_n C dX7_gatherFullest_17 rfl 0 rfl ?_
      refine q_aload_n C dX7_gatherFullest_18 rfl 1 rfl ?_
      refine q_iload_n C dX7_gatherFullest_19 rfl 3 rfl ?_
      obtain ⟨r_5, T_4, hc, h⟩ := bd_some h
      refine q_callV (st' := [.int r_5, .ref (ad k.1 30)]) C dX7_gatherFullest_20 [.int x3] [.ref (ad k.1 30)] (mtX5_codeAt l _ n _ _ _ _ hc) gX7_gatherFullest_X5_codeAt rfl hd_X5_codeAt (by decide) (by decide) (wE_4 _ _) rfl rfl rfl (Nat.le_of_ble_eq_true rfl) rfl ?_
      clear hc
      obtain ⟨r_7, T_6, hc, h⟩ := bd_some h
      refine q_callV (st' := [.int r_7]) C dX7_gatherFullest_23 [.int r_5] [] (mtX7_isFullest l _ n _ _ _ _ hc) gX7_gatherFullest_X7_isFullest rfl hd_X7_isFullest (by decide) (by decide) (wE_30 _ _) rfl rfl rfl (Nat.le_of_ble_eq_true rfl) rfl ?_
      clear hc
      refine q_if_eq (tgt := 65) C dX7_gatherFullest_26 (by decide) h (fun c h => ?_) (fun c h => ?_)
      · refine q_iinc (j := 3) (v := 1) (lv' := [(0, .ref (ad k.1 30)), (1, .ref (ad k.1 4)), (2, .int y2), (3, .int (x3 + 1))]) C dX7_gatherFullest_65 rfl (by decide) (by decide) rfl ?_
        refine q_goto (tgt := 12) C dX7_gatherFullest_68 (by decide) ?_
        refine q_sub [0, 1, 2, 3] rfl ?_
        exact ih _ _ h
      · refine q_aload_n C dX7_gatherFullest_29 rfl 0 rfl ?_
        refine q_get (j := 8) C dX7_gatherFullest_30 (wE_30 _ _) rfl (by decide) rfl inn_X7_gatherFullest_7 (by decide +kernel) rfl ?_
        refine q_aload_n C dX7_gatherFullest_33 rfl 0 rfl ?_
        refine q_get (j := 5) C dX7_gatherFullest_34 (wE_30 _ _) rfl (by decide) rfl inn_X7_gatherFullest_7 (by decide +kernel) rfl ?_
        refine q_alen (v := 3000) C dX7_gatherFullest_37 (wE_35 _ _) (by decide) ?_
        refine q_icmp_ge (tgt := 65) C dX7_gatherFullest_38 (by decide) h (fun c h => ?_) (fun c h => ?_)
        · refine q_iinc (j := 3) (v := 1) (lv' := [(0, .ref (ad k.1 30)), (1, .ref (ad k.1 4)), (2, .int y2), (3, .int (x3 + 1))]) C dX7_gatherFullest_65 rfl (by decide) (by decide) rfl ?_
          refine q_goto (tgt := 12) C dX7_gatherFullest_68 (by decide) ?_
          refine q_sub [0, 1, 2, 3] rfl ?_
          exact ih _ _ h
        · refine q_aload_n C dX7_gatherFullest_41 rfl 0 rfl ?_
          refine q_get (j := 5) C dX7_gatherFullest_42 (wE_30 _ _) rfl (by decide) rfl inn_X7_gatherFullest_7 (by decide +kernel) rfl ?_
          refine q_aload_n C dX7_gatherFullest_45 rfl 0 rfl ?_
          refine q_get (j := 8) C dX7_gatherFullest_46 (wE_30 _ _) rfl (by decide) rfl inn_X7_gatherFullest_7 (by decide +kernel) rfl ?_
          refine q_aload_n C dX7_gatherFullest_49 rfl 1 rfl ?_
          refine q_iload_n C dX7_gatherFullest_50 rfl 3 rfl ?_
          obtain ⟨r_9, T_8, hc, h⟩ := bd_some h
          refine q_callV (st' := [.int r_9, .int (gI T_6 1508), .ref (ad k.1 35)]) C dX7_gatherFullest_51 [.int x3] [.int (gI T_6 1508), .ref (ad k.1 35)] (mtX5_codeAt l _ n _ _ _ _ hc) gX7_gatherFullest_X5_codeAt rfl hd_X5_codeAt (by decide) (by decide) (wE_4 _ _) rfl rfl rfl (Nat.le_of_ble_eq_true rfl) rfl ?_
          clear hc
          refine q_iast C dX7_gatherFullest_54 (wE_35 _ _) (wS_35 _ _) h (fun T_10 h => ?_)
          refine q_aload_n C dX7_gatherFullest_55 rfl 0 rfl ?_
          refine q_dup C dX7_gatherFullest_56 rfl ?_
          refine q_get (j := 8) C dX7_gatherFullest_57 (wE_30 _ _) rfl (by decide) rfl inn_X7_gatherFullest_7 (by decide +kernel) rfl ?_
          refine q_iconst (v := 1) C dX7_gatherFullest_60 (by decide) ?_
          refine q_iadd C dX7_gatherFullest_61 ?_
          refine q_putI (j := 8) (ty := .int) C dX7_gatherFullest_62 (wE_30 _ _) (wP_30_8 _ _ _) rfl (by decide) (Nat.le_of_ble_eq_true rfl) tyX7 tyX7_ok nmX7 inn_X7_gatherFullest_7 (by decide +kernel) rfl rfl (by decide +kernel) rfl rfl h (fun T_11 h => ?_)
          refine q_iinc (j := 3) (v := 1) (lv' := [(0, .ref (ad k.1 30)), (1, .ref (ad k.1 4)), (2, .int y2), (3, .int (x3 + 1))]) C dX7_gatherFullest_65 rfl (by decide) (by decide) rfl ?_
          refine q_goto (tgt := 12) C dX7_gatherFullest_68 (by decide) ?_
          refine q_sub [0, 1, 2, 3] rfl ?_
          exact ih _ _ h
def fX7_gatherFullest (n : Nat) (T : TS) : Option (TS) := nm (uI T 1508 (0 : Int32)) (fun T_1 => bd (fX5_count n T_1) (fun r_3 T_2 => fX7_gatherFullest_L12 n r_3 (fun T_12 => some T_12) n (0 : Int32) T_2))
set_option maxHeartbeats 4000000 in
set_option maxRecDepth 100000 in
theorem mtX7_gatherFullest (l : Launch) (X : XT) (n : Nat) (T T' : TS) (h : fX7_gatherFullest n T = some T') : Met l yX7_gatherFullest wsX7_gatherFullest (RM 12) (PreX X [.ref (ad X 30), .ref (ad X 4)] T) (QQ X none T') 0 0 (xA X) := by
  refine q_start (by decide) rfl (Nat.le_of_ble_eq_true rfl) ?_
  intro k hk C
  subst hk
  show GW k T 0 [(0, .ref (ad k.1 30)), (1, .ref (ad k.1 4))] []
  unfold fX7_gatherFullest at h
  refine q_aload_n C dX7_gatherFullest_0 rfl 0 rfl ?_
  refine q_iconst (v := 0) C dX7_gatherFullest_1 (by decide) ?_
  refine q_putI (j := 8) (ty := .int) C dX7_gatherFullest_2 (wE_30 _ _) (wP_30_8 _ _ _) rfl (by decide) (Nat.le_of_ble_eq_true rfl) tyX7 tyX7_ok nmX7 inn_X7_gatherFullest_7 (by decide +kernel) rfl rfl (by decide +kernel) rfl rfl h (fun T_1 h => ?_)
  refine q_aload_n C dX7_gatherFullest_5 rfl 1 rfl ?_
  obtain ⟨r_3, T_2, hc, h⟩ := bd_some h
  refine q_callV (st' := [.int r_3]) C dX7_gatherFullest_6 [] [] (mtX5_count l _ n _ _ _ hc) gX7_gatherFullest_X5_count rfl hd_X5_count (by decide) (by decide) (wE_4 _ _) rfl rfl rfl (Nat.le_of_ble_eq_true rfl) rfl ?_
  clear hc
  refine q_istore_n (lv' := [(0, .ref (ad k.1 30)), (1, .ref (ad k.1 4)), (2, .int r_3)]) C dX7_gatherFullest_9 rfl (by decide) rfl ?_
  refine q_iconst (v := 0) C dX7_gatherFullest_10 (by decide) ?_
  refine q_istore_n (lv' := [(0, .ref (ad k.1 30)), (1, .ref (ad k.1 4)), (2, .int r_3), (3, .int (0 : Int32))]) C dX7_gatherFullest_11 rfl (by decide) rfl ?_
  refine q_sub [0, 1, 2, 3] rfl ?_
  refine lpX7_gatherFullest_L12 C (fun T_12 h => ?_) _ _ _ h
  exact q_vreturn C dX7_gatherFullest_71 h
def fX7_openOneMore_L2 (n : Nat) (kk : TS → Option (TS)) : Nat → Int32 → TS → Option (TS)
  | 0, _, _ => none
  | fuel + 1, x1, T => if (gI T 55) ≤ x1 then kk T else ck x1 6 (ck x1 6 (if (gA T 31 (Int32.toNatClampNeg x1)) ≤ (gA T 33 (Int32.toNatClampNeg x1)) then ck x1 6 (nm (sA T 33 x1 (0 : Int32)) (fun T_1 => fX7_openOneMore_L2 n kk fuel (x1 + 1) T_1)) else ck x1 6 (ck x1 6 (nm (sA T 33 x1 ((gA T 33 (Int32.toNatClampNeg x1)) + (1 : Int32))) (fun T_2 => some T_2)))))
set_option maxHeartbeats 4000000 in
set_option maxRecDepth 100000 in
theorem lpX7_openOneMore_L2 {l : Launch} {k : KT} {n : Nat} {kk : TS → Option (TS)} {T' : TS} (C : CX l k 2 cX7_openOneMore RX7 wsX7_openOneMore 0 none (none, T')) (hk : ∀ T1, kk T1 = some T' → GW k T1 52 [] []) : ∀ (fuel : Nat) (x1 : Int32) (T : TS), fX7_openOneMore_L2 n kk fuel x1 T = some T' → GW k T 2 [(0, .ref (ad k.1 30)), (1, .int x1)] [] := by
  intro fuel
  induction fuel with
  | zero => intro x1 T h; cases h
  | succ fuel ih =>
    intro x1 T h
    rw [fX7_openOneMore_L2] at h
    refine q_iload_n C dX7_openOneMore_2 rfl 1 rfl ?_
    refine q_aload_n C dX7_openOneMore_3 rfl 0 rfl ?_
    refine q_get (j := 0) C dX7_openOneMore_4 (wE_30 _ _) rfl (by decide) rfl inn_X7_openOneMore_7 (by decide +kernel) rfl ?_
    refine q_get (j := 5) C dX7_openOneMore_7 (wE_1 _ _) rfl (by decide) rfl inn_X7_openOneMore_4 (by decide +kernel) rfl ?_
    refine q_icmp_ge (tgt := 52) C dX7_openOneMore_10 (by decide) h (fun c h => ?_) (fun c h => ?_)
    · refine q_sub [] rfl ?_
      exact hk _ h
    · refine q_aload_n C dX7_openOneMore_13 rfl 0 rfl ?_
      refine q_get (j := 3) C dX7_openOneMore_14 (wE_30 _ _) rfl (by decide) rfl inn_X7_openOneMore_7 (by decide +kernel) rfl ?_
      refine q_iload_n C dX7_openOneMore_17 rfl 1 rfl ?_
      refine q_iald C dX7_openOneMore_18 (wE_33 _ _) h (fun h => ?_)
      refine q_aload_n C dX7_openOneMore_19 rfl 0 rfl ?_
      refine q_get (j := 1) C dX7_openOneMore_20 (wE_30 _ _) rfl (by decide) rfl inn_X7_openOneMore_7 (by decide +kernel) rfl ?_
      refine q_iload_n C dX7_openOneMore_23 rfl 1 rfl ?_
      refine q_iald C dX7_openOneMore_24 (wE_31 _ _) h (fun h => ?_)
      refine q_icmp_ge (tgt := 39) C dX7_openOneMore_25 (by decide) h (fun c h => ?_) (fun c h => ?_)
      · refine q_aload_n C dX7_openOneMore_39 rfl 0 rfl ?_
        refine q_get (j := 3) C dX7_openOneMore_40 (wE_30 _ _) rfl (by decide) rfl inn_X7_openOneMore_7 (by decide +kernel) rfl ?_
        refine q_iload_n C dX7_openOneMore_43 rfl 1 rfl ?_
        refine q_iconst (v := 0) C dX7_openOneMore_44 (by decide) ?_
        refine q_iast C dX7_openOneMore_45 (wE_33 _ _) (wS_33 _ _) h (fun T_1 h => ?_)
        refine q_iinc (j := 1) (v := 1) (lv' := [(0, .ref (ad k.1 30)), (1, .int (x1 + 1))]) C dX7_openOneMore_46 rfl (by decide) (by decide) rfl ?_
        refine q_goto (tgt := 2) C dX7_openOneMore_49 (by decide) ?_
        refine q_sub [0, 1] rfl ?_
        exact ih _ _ h
      · refine q_aload_n C dX7_openOneMore_28 rfl 0 rfl ?_
        refine q_get (j := 3) C dX7_openOneMore_29 (wE_30 _ _) rfl (by decide) rfl inn_X7_openOneMore_7 (by decide +kernel) rfl ?_
        refine q_iload_n C dX7_openOneMore_32 rfl 1 rfl ?_
        refine q_dup2 C dX7_openOneMore_33 rfl rfl ?_
        refine q_iald C dX7_openOneMore_34 (wE_33 _ _) h (fun h => ?_)
        refine q_iconst (v := 1) C dX7_openOneMore_35 (by decide) ?_
        refine q_iadd C dX7_openOneMore_36 ?_
        refine q_iast C dX7_openOneMore_37 (wE_33 _ _) (wS_33 _ _) h (fun T_2 h => ?_)
        exact q_vreturn C dX7_openOneMore_38 h
def fX7_openOneMore (n : Nat) (T : TS) : Option (TS) := fX7_openOneMore_L2 n (fun T_3 => some T_3) n (0 : Int32) T
set_option maxHeartbeats 4000000 in
set_option maxRecDepth 100000 in
theorem mtX7_openOneMore (l : Launch) (X : XT) (n : Nat) (T T' : TS) (h : fX7_openOneMore n T = some T') : Met l yX7_openOneMore wsX7_openOneMore (RM 0) (PreX X [.ref (ad X 30)] T) (QQ X none T') 0 0 (xA X) := by
  refine q_start (by decide) rfl (Nat.le_of_ble_eq_true rfl) ?_
  intro k hk C
  subst hk
  show GW k T 0 [(0, .ref (ad k.1 30))] []
  unfold fX7_openOneMore at h
  refine q_iconst (v := 0) C dX7_openOneMore_0 (by decide) ?_
  refine q_istore_n (lv' := [(0, .ref (ad k.1 30)), (1, .int (0 : Int32))]) C dX7_openOneMore_1 rfl (by decide) rfl ?_
  refine q_sub [0, 1] rfl ?_
  refine lpX7_openOneMore_L2 C (fun T_3 h => ?_) _ _ _ h
  exact q_vreturn C dX7_openOneMore_52 h
def fX7_indexBehind_L7 (n : Nat) (y1 : Int32) (kk : Int32 → TS → Option (Int32 × TS)) : Nat → Int32 → Int32 → TS → Option (Int32 × TS)
  | 0, _, _, _ => none
  | fuel + 1, x2, x3, T => if (gI T 55) ≤ x3 then kk x2 T else ck x3 6 (bd (fX0_ofWidth n y1 x3 T) (fun r_3 T_2 => ck x3 6 (nm (x2 - ((imin (gA T 33 (Int32.toNatClampNeg x3)) r_3) * (gA T_2 32 (Int32.toNatClampNeg x3)))) (fun x2_4 => fX7_indexBehind_L7 n y1 kk fuel x2_4 (x3 + 1) T_2))))
set_option maxHeartbeats 4000000 in
set_option maxRecDepth 100000 in
theorem lpX7_indexBehind_L7 {l : Launch} {k : KT} {n : Nat} {y1 : Int32} {kk : Int32 → TS → Option (Int32 × TS)} {r : Int32} {T' : TS} (C : CX l k 4 cX7_indexBehind RX7 wsX7_indexBehind 1 (some .int) (some (.int r), T')) (hk : ∀ e2 T1, kk e2 T1 = some (r, T') → GW k T1 48 [(2, .int e2)] []) : ∀ (fuel : Nat) (x2 : Int32) (x3 : Int32) (T : TS), fX7_indexBehind_L7 n y1 kk fuel x2 x3 T = some (r, T') → GW k T 7 [(0, .ref (ad k.1 30)), (1, .int y1), (2, .int x2), (3, .int x3)] [] := by
  intro fuel
  induction fuel with
  | zero => intro x2 x3 T h; cases h
  | succ fuel ih =>
    intro x2 x3 T h
    rw [fX7_indexBehind_L7] at h
    refine q_iload_n C dX7_indexBehind_7 rfl 3 rfl ?_
    refine q_aload_n C dX7_indexBehind_8 rfl 0 rfl ?_
    refine q_get (j := 0) C dX7_indexBehind_9 (wE_30 _ _) rfl (by decide) rfl inn_X7_indexBehind_7 (by decide +kernel) rfl ?_
    refine q_get (j := 5) C dX7_indexBehind_12 (wE_1 _ _) rfl (by decide) rfl inn_X7_indexBehind_4 (by decide +kernel) rfl ?_
    refine q_icmp_ge (tgt := 48) C dX7_indexBehind_15 (by decide) h (fun c h => ?_) (fun c h => ?_)
    · refine q_sub [2] rfl ?_
      exact hk _ _ h
    · refine q_iload_n C dX7_indexBehind_18 rfl 2 rfl ?_
      refine q_aload_n C dX7_indexBehind_19 rfl 0 rfl ?_
      refine q_get (j := 3) C dX7_indexBehind_20 (wE_30 _ _) rfl (by decide) rfl inn_X7_indexBehind_7 (by decide +kernel) rfl ?_
      refine q_iload_n C dX7_indexBehind_23 rfl 3 rfl ?_
      refine q_iald C dX7_indexBehind_24 (wE_33 _ _) h (fun h => ?_)
      refine q_iload_n C dX7_indexBehind_25 rfl 1 rfl ?_
      refine q_iload_n C dX7_indexBehind_26 rfl 3 rfl ?_
      obtain ⟨r_3, T_2, hc, h⟩ := bd_some h
      refine q_callS (st' := [.int r_3, .int (gA T 33 (Int32.toNatClampNeg x3)), .int x2]) C dX7_indexBehind_27 [.int y1, .int x3] [.int (gA T 33 (Int32.toNatClampNeg x3)), .int x2] (mtX0_ofWidth l _ n _ _ _ _ _ hc) gX7_indexBehind_X0_ofWidth rfl hd_X0_ofWidth (by decide) (by decide) rfl rfl (Nat.le_of_ble_eq_true rfl) rfl ?_
      clear hc
      refine q_mmin C dX7_indexBehind_30 (by decide +kernel) (by decide +kernel) (by decide +kernel) (by decide +kernel) (by decide) (Nat.le_of_ble_eq_true rfl) ?_
      refine q_aload_n C dX7_indexBehind_33 rfl 0 rfl ?_
      refine q_get (j := 2) C dX7_indexBehind_34 (wE_30 _ _) rfl (by decide) rfl inn_X7_indexBehind_7 (by decide +kernel) rfl ?_
      refine q_iload_n C dX7_indexBehind_37 rfl 3 rfl ?_
      refine q_iald C dX7_indexBehind_38 (wE_32 _ _) h (fun h => ?_)
      refine q_imul C dX7_indexBehind_39 ?_
      refine q_isub C dX7_indexBehind_40 ?_
      refine q_nm h (fun x2_4 h => ?_)
      refine q_istore_n (lv' := [(0, .ref (ad k.1 30)), (1, .int y1), (2, .int x2_4), (3, .int x3)]) C dX7_indexBehind_41 rfl (by decide) rfl ?_
      refine q_iinc (j := 3) (v := 1) (lv' := [(0, .ref (ad k.1 30)), (1, .int y1), (2, .int x2_4), (3, .int (x3 + 1))]) C dX7_indexBehind_42 rfl (by decide) (by decide) rfl ?_
      refine q_goto (tgt := 7) C dX7_indexBehind_45 (by decide) ?_
      refine q_sub [0, 1, 2, 3] rfl ?_
      exact ih _ _ _ h
def fX7_indexBehind (n : Nat) (p0 : Int32) (T : TS) : Option (Int32 × TS) := nm (gI T 1507) (fun x2_1 => fX7_indexBehind_L7 n p0 (fun e2_5 T_6 => some (e2_5, T_6)) n x2_1 (0 : Int32) T)
set_option maxHeartbeats 4000000 in
set_option maxRecDepth 100000 in
theorem mtX7_indexBehind (l : Launch) (X : XT) (n : Nat) (p0 : Int32) (T T' : TS) (r : Int32) (h : fX7_indexBehind n p0 T = some (r, T')) : Met l yX7_indexBehind wsX7_indexBehind (RM 1) (PreX X [.ref (ad X 30), .int p0] T) (QQ X (some (.int r)) T') 0 0 (xA X) := by
  refine q_start (by decide) rfl (Nat.le_of_ble_eq_true rfl) ?_
  intro k hk C
  subst hk
  show GW k T 0 [(0, .ref (ad k.1 30)), (1, .int p0)] []
  unfold fX7_indexBehind at h
  refine q_aload_n C dX7_indexBehind_0 rfl 0 rfl ?_
  refine q_get (j := 7) C dX7_indexBehind_1 (wE_30 _ _) rfl (by decide) rfl inn_X7_indexBehind_7 (by decide +kernel) rfl ?_
  refine q_nm h (fun x2_1 h => ?_)
  refine q_istore_n (lv' := [(0, .ref (ad k.1 30)), (1, .int p0), (2, .int x2_1)]) C dX7_indexBehind_4 rfl (by decide) rfl ?_
  refine q_iconst (v := 0) C dX7_indexBehind_5 (by decide) ?_
  refine q_istore_n (lv' := [(0, .ref (ad k.1 30)), (1, .int p0), (2, .int x2_1), (3, .int (0 : Int32))]) C dX7_indexBehind_6 rfl (by decide) rfl ?_
  refine q_sub [0, 1, 2, 3] rfl ?_
  refine lpX7_indexBehind_L7 C (fun e2_5 T_6 h => ?_) _ _ _ _ h
  refine q_iload_n C dX7_indexBehind_48 rfl 0 rfl ?_
  exact q_ireturn C dX7_indexBehind_49 h
def fX7_setLeastHere_L4 (n : Nat) (kk : Int32 → TS → Option (TS)) : Nat → Int32 → Int32 → TS → Option (TS)
  | 0, _, _, _ => none
  | fuel + 1, x1, x2, T => if (gI T 55) ≤ x2 then kk x1 T else ck x2 6 (if (gA T 33 (Int32.toNatClampNeg x2)) ≤ 0 then fX7_setLeastHere_L4 n kk fuel x1 (x2 + 1) T else ck x2 6 (ck ((gI T 1507) - (gA T 32 (Int32.toNatClampNeg x2))) 5000 (nm (imax x1 (gA T 34 (Int32.toNatClampNeg ((gI T 1507) - (gA T 32 (Int32.toNatClampNeg x2)))))) (fun x1_1 => fX7_setLeastHere_L4 n kk fuel x1_1 (x2 + 1) T))))
set_option maxHeartbeats 4000000 in
set_option maxRecDepth 100000 in
theorem lpX7_setLeastHere_L4 {l : Launch} {k : KT} {n : Nat} {kk : Int32 → TS → Option (TS)} {T' : TS} (C : CX l k 3 cX7_setLeastHere RX7 wsX7_setLeastHere 2 none (none, T')) (hk : ∀ e1 T1, kk e1 T1 = some T' → GW k T1 51 [(0, .ref (ad k.1 30)), (1, .int e1)] []) : ∀ (fuel : Nat) (x1 : Int32) (x2 : Int32) (T : TS), fX7_setLeastHere_L4 n kk fuel x1 x2 T = some T' → GW k T 4 [(0, .ref (ad k.1 30)), (1, .int x1), (2, .int x2)] [] := by
  intro fuel
  induction fuel with
  | zero => intro x1 x2 T h; cases h
  | succ fuel ih =>
    intro x1 x2 T h
    rw [fX7_setLeastHere_L4] at h
    refine q_iload_n C dX7_setLeastHere_4 rfl 2 rfl ?_
    refine q_aload_n C dX7_setLeastHere_5 rfl 0 rfl ?_
    refine q_get (j := 0) C dX7_setLeastHere_6 (wE_30 _ _) rfl (by decide) rfl inn_X7_setLeastHere_7 (by decide +kernel) rfl ?_
    refine q_get (j := 5) C dX7_setLeastHere_9 (wE_1 _ _) rfl (by decide) rfl inn_X7_setLeastHere_4 (by decide +kernel) rfl ?_
    refine q_icmp_ge (tgt := 51) C dX7_setLeastHere_12 (by decide) h (fun c h => ?_) (fun c h => ?_)
    · refine q_sub [0, 1] rfl ?_
      exact hk _ _ h
    · refine q_aload_n C dX7_setLeastHere_15 rfl 0 rfl ?_
      refine q_get (j := 3) C dX7_setLeastHere_16 (wE_30 _ _) rfl (by decide) rfl inn_X7_setLeastHere_7 (by decide +kernel) rfl ?_
      refine q_iload_n C dX7_setLeastHere_19 rfl 2 rfl ?_
      refine q_iald C dX7_setLeastHere_20 (wE_33 _ _) h (fun h => ?_)
      refine q_if_le (tgt := 45) C dX7_setLeastHere_21 (by decide) h (fun c h => ?_) (fun c h => ?_)
      · refine q_iinc (j := 2) (v := 1) (lv' := [(0, .ref (ad k.1 30)), (1, .int x1), (2, .int (x2 + 1))]) C dX7_setLeastHere_45 rfl (by decide) (by decide) rfl ?_
        refine q_goto (tgt := 4) C dX7_setLeastHere_48 (by decide) ?_
        refine q_sub [0, 1, 2] rfl ?_
        exact ih _ _ _ h
      · refine q_iload_n C dX7_setLeastHere_24 rfl 1 rfl ?_
        refine q_aload_n C dX7_setLeastHere_25 rfl 0 rfl ?_
        refine q_get (j := 4) C dX7_setLeastHere_26 (wE_30 _ _) rfl (by decide) rfl inn_X7_setLeastHere_7 (by decide +kernel) rfl ?_
        refine q_aload_n C dX7_setLeastHere_29 rfl 0 rfl ?_
        refine q_get (j := 7) C dX7_setLeastHere_30 (wE_30 _ _) rfl (by decide) rfl inn_X7_setLeastHere_7 (by decide +kernel) rfl ?_
        refine q_aload_n C dX7_setLeastHere_33 rfl 0 rfl ?_
        refine q_get (j := 2) C dX7_setLeastHere_34 (wE_30 _ _) rfl (by decide) rfl inn_X7_setLeastHere_7 (by decide +kernel) rfl ?_
        refine q_iload_n C dX7_setLeastHere_37 rfl 2 rfl ?_
        refine q_iald C dX7_setLeastHere_38 (wE_32 _ _) h (fun h => ?_)
        refine q_isub C dX7_setLeastHere_39 ?_
        refine q_iald C dX7_setLeastHere_40 (wE_34 _ _) h (fun h => ?_)
        refine q_mmax C dX7_setLeastHere_41 (by decide +kernel) (by decide +kernel) (by decide +kernel) (by decide +kernel) (by decide) (Nat.le_of_ble_eq_true rfl) ?_
        refine q_nm h (fun x1_1 h => ?_)
        refine q_istore_n (lv' := [(0, .ref (ad k.1 30)), (1, .int x1_1), (2, .int x2)]) C dX7_setLeastHere_44 rfl (by decide) rfl ?_
        refine q_iinc (j := 2) (v := 1) (lv' := [(0, .ref (ad k.1 30)), (1, .int x1_1), (2, .int (x2 + 1))]) C dX7_setLeastHere_45 rfl (by decide) (by decide) rfl ?_
        refine q_goto (tgt := 4) C dX7_setLeastHere_48 (by decide) ?_
        refine q_sub [0, 1, 2] rfl ?_
        exact ih _ _ _ h
def fX7_setLeastHere_L65 (n : Nat) (y1 : Int32) (kk : TS → Option (TS)) : Nat → Int32 → TS → Option (TS)
  | 0, _, _ => none
  | fuel + 1, x2, T => if (gI T 1508) ≤ x2 then kk T else ck x2 3000 (bd (fX7_indexBehind n (gA T 35 (Int32.toNatClampNeg x2)) T) (fun r_6 T_5 => ck r_6 5000 (if y1 ≤ (gA T_5 34 (Int32.toNatClampNeg r_6)) then fX7_setLeastHere_L65 n y1 kk fuel (x2 + 1) T_5 else ck (gI T_5 1507) 5000 (nm (sA T_5 34 (gI T_5 1507) y1) (fun T_7 => some T_7)))))
set_option maxHeartbeats 4000000 in
set_option maxRecDepth 100000 in
theorem lpX7_setLeastHere_L65 {l : Launch} {k : KT} {n : Nat} {y1 : Int32} {kk : TS → Option (TS)} {T' : TS} (C : CX l k 3 cX7_setLeastHere RX7 wsX7_setLeastHere 2 none (none, T')) (hk : ∀ T1, kk T1 = some T' → GW k T1 109 [] []) : ∀ (fuel : Nat) (x2 : Int32) (T : TS), fX7_setLeastHere_L65 n y1 kk fuel x2 T = some T' → GW k T 65 [(0, .ref (ad k.1 30)), (1, .int y1), (2, .int x2)] [] := by
  intro fuel
  induction fuel with
  | zero => intro x2 T h; cases h
  | succ fuel ih =>
    intro x2 T h
    rw [fX7_setLeastHere_L65] at h
    refine q_iload_n C dX7_setLeastHere_65 rfl 2 rfl ?_
    refine q_aload_n C dX7_setLeastHere_66 rfl 0 rfl ?_
    refine q_get (j := 8) C dX7_setLeastHere_67 (wE_30 _ _) rfl (by decide) rfl inn_X7_setLeastHere_7 (by decide +kernel) rfl ?_
    refine q_icmp_ge (tgt := 109) C dX7_setLeastHere_70 (by decide) h (fun c h => ?_) (fun c h => ?_)
    · refine q_sub [] rfl ?_
      exact hk _ h
    · refine q_aload_n C dX7_setLeastHere_73 rfl 0 rfl ?_
      refine q_get (j := 4) C dX7_setLeastHere_74 (wE_30 _ _) rfl (by decide) rfl inn_X7_setLeastHere_7 (by decide +kernel) rfl ?_
      refine q_aload_n C dX7_setLeastHere_77 rfl 0 rfl ?_
      refine q_aload_n C dX7_setLeastHere_78 rfl 0 rfl ?_
      refine q_get (j := 5) C dX7_setLeastHere_79 (wE_30 _ _) rfl (by decide) rfl inn_X7_setLeastHere_7 (by decide +kernel) rfl ?_
      refine q_iload_n C dX7_setLeastHere_82 rfl 2 rfl ?_
      refine q_iald C dX7_setLeastHere_83 (wE_35 _ _) h (fun h => ?_)
      obtain ⟨r_6, T_5, hc, h⟩ := bd_some h
      refine q_callV (st' := [.int r_6, .ref (ad k.1 34)]) C dX7_setLeastHere_84 [.int (gA T 35 (Int32.toNatClampNeg x2))] [.ref (ad k.1 34)] (mtX7_indexBehind l _ n _ _ _ _ hc) gX7_setLeastHere_X7_indexBehind rfl hd_X7_indexBehind (by decide) (by decide) (wE_30 _ _) rfl rfl rfl (Nat.le_of_ble_eq_true rfl) rfl ?_
      clear hc
      refine q_iald C dX7_setLeastHere_87 (wE_34 _ _) h (fun h => ?_)
      refine q_iload_n C dX7_setLeastHere_88 rfl 1 rfl ?_
      refine q_icmp_ge (tgt := 103) C dX7_setLeastHere_89 (by decide) h (fun c h => ?_) (fun c h => ?_)
      · refine q_iinc (j := 2) (v := 1) (lv' := [(0, .ref (ad k.1 30)), (1, .int y1), (2, .int (x2 + 1))]) C dX7_setLeastHere_103 rfl (by decide) (by decide) rfl ?_
        refine q_goto (tgt := 65) C dX7_setLeastHere_106 (by decide) ?_
        refine q_sub [0, 1, 2] rfl ?_
        exact ih _ _ h
      · refine q_aload_n C dX7_setLeastHere_92 rfl 0 rfl ?_
        refine q_get (j := 4) C dX7_setLeastHere_93 (wE_30 _ _) rfl (by decide) rfl inn_X7_setLeastHere_7 (by decide +kernel) rfl ?_
        refine q_aload_n C dX7_setLeastHere_96 rfl 0 rfl ?_
        refine q_get (j := 7) C dX7_setLeastHere_97 (wE_30 _ _) rfl (by decide) rfl inn_X7_setLeastHere_7 (by decide +kernel) rfl ?_
        refine q_iload_n C dX7_setLeastHere_100 rfl 1 rfl ?_
        refine q_iast C dX7_setLeastHere_101 (wE_34 _ _) (wS_34 _ _) h (fun T_7 h => ?_)
        exact q_vreturn C dX7_setLeastHere_102 h
def fX7_setLeastHere (n : Nat) (T : TS) : Option (TS) := fX7_setLeastHere_L4 n (fun e1_2 T_3 => ck (gI T_3 1507) 5000 (nm (sA T_3 34 (gI T_3 1507) (e1_2 + (1 : Int32))) (fun T_4 => fX7_setLeastHere_L65 n e1_2 (fun T_8 => some T_8) n (0 : Int32) T_4))) n (0 : Int32) (0 : Int32) T
set_option maxHeartbeats 4000000 in
set_option maxRecDepth 100000 in
theorem mtX7_setLeastHere (l : Launch) (X : XT) (n : Nat) (T T' : TS) (h : fX7_setLeastHere n T = some T') : Met l yX7_setLeastHere wsX7_setLeastHere (RM 2) (PreX X [.ref (ad X 30)] T) (QQ X none T') 0 0 (xA X) := by
  refine q_start (by decide) rfl (Nat.le_of_ble_eq_true rfl) ?_
  intro k hk C
  subst hk
  show GW k T 0 [(0, .ref (ad k.1 30))] []
  unfold fX7_setLeastHere at h
  refine q_iconst (v := 0) C dX7_setLeastHere_0 (by decide) ?_
  refine q_istore_n (lv' := [(0, .ref (ad k.1 30)), (1, .int (0 : Int32))]) C dX7_setLeastHere_1 rfl (by decide) rfl ?_
  refine q_iconst (v := 0) C dX7_setLeastHere_2 (by decide) ?_
  refine q_istore_n (lv' := [(0, .ref (ad k.1 30)), (1, .int (0 : Int32)), (2, .int (0 : Int32))]) C dX7_setLeastHere_3 rfl (by decide) rfl ?_
  refine q_sub [0, 1, 2] rfl ?_
  refine lpX7_setLeastHere_L4 C (fun e1_2 T_3 h => ?_) _ _ _ _ h
  refine q_aload_n C dX7_setLeastHere_51 rfl 0 rfl ?_
  refine q_get (j := 4) C dX7_setLeastHere_52 (wE_30 _ _) rfl (by decide) rfl inn_X7_setLeastHere_7 (by decide +kernel) rfl ?_
  refine q_aload_n C dX7_setLeastHere_55 rfl 0 rfl ?_
  refine q_get (j := 7) C dX7_setLeastHere_56 (wE_30 _ _) rfl (by decide) rfl inn_X7_setLeastHere_7 (by decide +kernel) rfl ?_
  refine q_iload_n C dX7_setLeastHere_59 rfl 1 rfl ?_
  refine q_iconst (v := 1) C dX7_setLeastHere_60 (by decide) ?_
  refine q_iadd C dX7_setLeastHere_61 ?_
  refine q_iast C dX7_setLeastHere_62 (wE_34 _ _) (wS_34 _ _) h (fun T_4 h => ?_)
  refine q_iconst (v := 0) C dX7_setLeastHere_63 (by decide) ?_
  refine q_istore_n (lv' := [(0, .ref (ad k.1 30)), (1, .int e1_2), (2, .int (0 : Int32))]) C dX7_setLeastHere_64 rfl (by decide) rfl ?_
  refine q_sub [0, 1, 2] rfl ?_
  refine lpX7_setLeastHere_L65 C (fun T_8 h => ?_) _ _ _ h
  exact q_vreturn C dX7_setLeastHere_109 h
def fX7_solve_L7 (n : Nat) (kk : TS → Option (TS)) : Nat → Int32 → TS → Option (TS)
  | 0, _, _ => none
  | fuel + 1, x2, T => if (gI T 55) ≤ x2 then kk T else ck x2 6 (nm (sA T 33 x2 (0 : Int32)) (fun T_3 => fX7_solve_L7 n kk fuel (x2 + 1) T_3))
set_option maxHeartbeats 4000000 in
set_option maxRecDepth 100000 in
theorem lpX7_solve_L7 {l : Launch} {k : KT} {n : Nat} {kk : TS → Option (TS)} {T' : TS} (C : CX l k 3 cX7_solve RX7 wsX7_solve 13 none (none, T')) (hk : ∀ T1, kk T1 = some T' → GW k T1 31 [(0, .ref (ad k.1 30))] []) : ∀ (fuel : Nat) (x2 : Int32) (T : TS), fX7_solve_L7 n kk fuel x2 T = some T' → GW k T 7 [(0, .ref (ad k.1 30)), (2, .int x2)] [] := by
  intro fuel
  induction fuel with
  | zero => intro x2 T h; cases h
  | succ fuel ih =>
    intro x2 T h
    rw [fX7_solve_L7] at h
    refine q_iload_n C dX7_solve_7 rfl 1 rfl ?_
    refine q_aload_n C dX7_solve_8 rfl 0 rfl ?_
    refine q_get (j := 0) C dX7_solve_9 (wE_30 _ _) rfl (by decide) rfl inn_X7_solve_7 (by decide +kernel) rfl ?_
    refine q_get (j := 5) C dX7_solve_12 (wE_1 _ _) rfl (by decide) rfl inn_X7_solve_4 (by decide +kernel) rfl ?_
    refine q_icmp_ge (tgt := 31) C dX7_solve_15 (by decide) h (fun c h => ?_) (fun c h => ?_)
    · refine q_sub [0] rfl ?_
      exact hk _ h
    · refine q_aload_n C dX7_solve_18 rfl 0 rfl ?_
      refine q_get (j := 3) C dX7_solve_19 (wE_30 _ _) rfl (by decide) rfl inn_X7_solve_7 (by decide +kernel) rfl ?_
      refine q_iload_n C dX7_solve_22 rfl 1 rfl ?_
      refine q_iconst (v := 0) C dX7_solve_23 (by decide) ?_
      refine q_iast C dX7_solve_24 (wE_33 _ _) (wS_33 _ _) h (fun T_3 h => ?_)
      refine q_iinc (j := 1) (v := 1) (lv' := [(0, .ref (ad k.1 30)), (2, .int (x2 + 1))]) C dX7_solve_25 rfl (by decide) (by decide) rfl ?_
      refine q_goto (tgt := 7) C dX7_solve_28 (by decide) ?_
      refine q_sub [0, 1] rfl ?_
      exact ih _ _ h
def fX7_solve_L40 (n : Nat) (kk : TS → Option (TS)) : Nat → Int32 → TS → Option (TS)
  | 0, _, _ => none
  | fuel + 1, x2, T => if (gI T 1506) ≤ x2 then kk T else nm (uI T 1507 x2) (fun T_6 => bv (fX7_openOneMore n T_6) (fun T_7 => bv (fX7_setLeastHere n T_7) (fun T_9 => fX7_solve_L40 n kk fuel (x2 + 1) T_9)))
set_option maxHeartbeats 4000000 in
set_option maxRecDepth 100000 in
theorem lpX7_solve_L40 {l : Launch} {k : KT} {n : Nat} {kk : TS → Option (TS)} {T' : TS} (C : CX l k 3 cX7_solve RX7 wsX7_solve 13 none (none, T')) (hk : ∀ T1, kk T1 = some T' → GW k T1 67 [(0, .ref (ad k.1 30))] []) : ∀ (fuel : Nat) (x2 : Int32) (T : TS), fX7_solve_L40 n kk fuel x2 T = some T' → GW k T 40 [(0, .ref (ad k.1 30)), (2, .int x2)] [] := by
  intro fuel
  induction fuel with
  | zero => intro x2 T h; cases h
  | succ fuel ih =>
    intro x2 T h
    rw [fX7_solve_L40] at h
    refine q_iload_n C dX7_solve_40 rfl 1 rfl ?_
    refine q_aload_n C dX7_solve_41 rfl 0 rfl ?_
    refine q_get (j := 6) C dX7_solve_42 (wE_30 _ _) rfl (by decide) rfl inn_X7_solve_7 (by decide +kernel) rfl ?_
    refine q_icmp_ge (tgt := 67) C dX7_solve_45 (by decide) h (fun c h => ?_) (fun c h => ?_)
    · refine q_sub [0] rfl ?_
      exact hk _ h
    · refine q_aload_n C dX7_solve_48 rfl 0 rfl ?_
      refine q_iload_n C dX7_solve_49 rfl 1 rfl ?_
      refine q_putI (j := 7) (ty := .int) C dX7_solve_50 (wE_30 _ _) (wP_30_7 _ _ _) rfl (by decide) (Nat.le_of_ble_eq_true rfl) tyX7 tyX7_ok nmX7 inn_X7_solve_7 (by decide +kernel) rfl rfl (by decide +kernel) rfl rfl h (fun T_6 h => ?_)
      refine q_aload_n C dX7_solve_53 rfl 0 rfl ?_
      obtain ⟨T_7, hc, h⟩ := bv_some h
      refine q_callV (st' := []) C dX7_solve_54 [] [] (mtX7_openOneMore l _ n _ _ hc) gX7_solve_X7_openOneMore rfl hd_X7_openOneMore (by decide) (by decide) (wE_30 _ _) rfl rfl rfl (Nat.le_of_ble_eq_true rfl) rfl ?_
      clear hc
      refine q_aload_n C dX7_solve_57 rfl 0 rfl ?_
      obtain ⟨T_9, hc, h⟩ := bv_some h
      refine q_callV (st' := []) C dX7_solve_58 [] [] (mtX7_setLeastHere l _ n _ _ hc) gX7_solve_X7_setLeastHere rfl hd_X7_setLeastHere (by decide) (by decide) (wE_30 _ _) rfl rfl rfl (Nat.le_of_ble_eq_true rfl) rfl ?_
      clear hc
      refine q_iinc (j := 1) (v := 1) (lv' := [(0, .ref (ad k.1 30)), (2, .int (x2 + 1))]) C dX7_solve_61 rfl (by decide) (by decide) rfl ?_
      refine q_goto (tgt := 40) C dX7_solve_64 (by decide) ?_
      refine q_sub [0, 1] rfl ?_
      exact ih _ _ h
def fX7_solve (n : Nat) (T : TS) : Option (TS) := bv (fX7_gatherFullest n T) (fun T_1 => fX7_solve_L7 n (fun T_4 => ck (0 : Int32) 5000 (nm (sA T_4 34 (0 : Int32) (0 : Int32)) (fun T_5 => fX7_solve_L40 n (fun T_11 => nm (uI T_11 1507 ((gI T_11 1506) - (1 : Int32))) (fun T_12 => some T_12)) n (1 : Int32) T_5))) n (0 : Int32) T_1)
set_option maxHeartbeats 4000000 in
set_option maxRecDepth 100000 in
theorem mtX7_solve (l : Launch) (X : XT) (n : Nat) (T T' : TS) (h : fX7_solve n T = some T') : Met l yX7_solve wsX7_solve (RM 13) (PreX X [.ref (ad X 30), .ref (ad X 4)] T) (QQ X none T') 0 0 (xA X) := by
  refine q_start (by decide) rfl (Nat.le_of_ble_eq_true rfl) ?_
  intro k hk C
  subst hk
  show GW k T 0 [(0, .ref (ad k.1 30)), (1, .ref (ad k.1 4))] []
  unfold fX7_solve at h
  refine q_aload_n C dX7_solve_0 rfl 0 rfl ?_
  refine q_aload_n C dX7_solve_1 rfl 1 rfl ?_
  obtain ⟨T_1, hc, h⟩ := bv_some h
  refine q_callV (st' := []) C dX7_solve_2 [.ref (ad k.1 4)] [] (mtX7_gatherFullest l _ n _ _ hc) gX7_solve_X7_gatherFullest rfl hd_X7_gatherFullest (by decide) (by decide) (wE_30 _ _) rfl rfl rfl (Nat.le_of_ble_eq_true rfl) rfl ?_
  clear hc
  refine q_iconst (v := 0) C dX7_solve_5 (by decide) ?_
  refine q_istore_n (lv' := [(0, .ref (ad k.1 30)), (1, .ref (ad k.1 4)), (2, .int (0 : Int32))]) C dX7_solve_6 rfl (by decide) rfl ?_
  refine q_sub [0, 2] rfl ?_
  refine lpX7_solve_L7 C (fun T_4 h => ?_) _ _ _ h
  refine q_aload_n C dX7_solve_31 rfl 0 rfl ?_
  refine q_get (j := 4) C dX7_solve_32 (wE_30 _ _) rfl (by decide) rfl inn_X7_solve_7 (by decide +kernel) rfl ?_
  refine q_iconst (v := 0) C dX7_solve_35 (by decide) ?_
  refine q_iconst (v := 0) C dX7_solve_36 (by decide) ?_
  refine q_iast C dX7_solve_37 (wE_34 _ _) (wS_34 _ _) h (fun T_5 h => ?_)
  refine q_iconst (v := 1) C dX7_solve_38 (by decide) ?_
  refine q_istore_n (lv' := [(0, .ref (ad k.1 30)), (2, .int (1 : Int32))]) C dX7_solve_39 rfl (by decide) rfl ?_
  refine q_sub [0, 1] rfl ?_
  refine lpX7_solve_L40 C (fun T_11 h => ?_) _ _ _ h
  refine q_aload_n C dX7_solve_67 rfl 0 rfl ?_
  refine q_aload_n C dX7_solve_68 rfl 0 rfl ?_
  refine q_get (j := 6) C dX7_solve_69 (wE_30 _ _) rfl (by decide) rfl inn_X7_solve_7 (by decide +kernel) rfl ?_
  refine q_iconst (v := 1) C dX7_solve_72 (by decide) ?_
  refine q_isub C dX7_solve_73 ?_
  refine q_putI (j := 7) (ty := .int) C dX7_solve_74 (wE_30 _ _) (wP_30_7 _ _ _) rfl (by decide) (Nat.le_of_ble_eq_true rfl) tyX7 tyX7_ok nmX7 inn_X7_solve_7 (by decide +kernel) rfl rfl (by decide +kernel) rfl rfl h (fun T_12 h => ?_)
  exact q_vreturn C dX7_solve_77 h
def fX7_rollsLeft (n : Nat) (T : TS) : Option (Int32 × TS) := ck (gI T 1507) 5000 (some ((gA T 34 (Int32.toNatClampNeg (gI T 1507))), T))
set_option maxHeartbeats 4000000 in
set_option maxRecDepth 100000 in
theorem mtX7_rollsLeft (l : Launch) (X : XT) (n : Nat) (T T' : TS) (r : Int32) (h : fX7_rollsLeft n T = some (r, T')) : Met l yX7_rollsLeft wsX7_rollsLeft (RM 0) (PreX X [.ref (ad X 30)] T) (QQ X (some (.int r)) T') 0 0 (xA X) := by
  refine q_start (by decide) rfl (Nat.le_of_ble_eq_true rfl) ?_
  intro k hk C
  subst hk
  show GW k T 0 [(0, .ref (ad k.1 30))] []
  unfold fX7_rollsLeft at h
  refine q_aload_n C dX7_rollsLeft_0 rfl 0 rfl ?_
  refine q_get (j := 4) C dX7_rollsLeft_1 (wE_30 _ _) rfl (by decide) rfl inn_X7_rollsLeft_7 (by decide +kernel) rfl ?_
  refine q_aload_n C dX7_rollsLeft_4 rfl 0 rfl ?_
  refine q_get (j := 7) C dX7_rollsLeft_5 (wE_30 _ _) rfl (by decide) rfl inn_X7_rollsLeft_7 (by decide +kernel) rfl ?_
  refine q_iald C dX7_rollsLeft_8 (wE_34 _ _) h (fun h => ?_)
  exact q_ireturn C dX7_rollsLeft_9 h
def fX7_take_L11 (n : Nat) (y1 : Int32) (kk : TS → Option (TS)) : Nat → Int32 → TS → Option (TS)
  | 0, _, _ => none
  | fuel + 1, x2, T => if (gI T 55) ≤ x2 then kk T else ck x2 6 (bd (fX0_ofWidth n y1 x2 T) (fun r_5 T_4 => ck x2 6 (nm (sA T_4 33 x2 (imax (0 : Int32) ((gA T 33 (Int32.toNatClampNeg x2)) - r_5))) (fun T_6 => fX7_take_L11 n y1 kk fuel (x2 + 1) T_6))))
set_option maxHeartbeats 4000000 in
set_option maxRecDepth 100000 in
theorem lpX7_take_L11 {l : Launch} {k : KT} {n : Nat} {y1 : Int32} {kk : TS → Option (TS)} {T' : TS} (C : CX l k 3 cX7_take RX7 wsX7_take 2 none (none, T')) (hk : ∀ T1, kk T1 = some T' → GW k T1 50 [] []) : ∀ (fuel : Nat) (x2 : Int32) (T : TS), fX7_take_L11 n y1 kk fuel x2 T = some T' → GW k T 11 [(0, .ref (ad k.1 30)), (1, .int y1), (2, .int x2)] [] := by
  intro fuel
  induction fuel with
  | zero => intro x2 T h; cases h
  | succ fuel ih =>
    intro x2 T h
    rw [fX7_take_L11] at h
    refine q_iload_n C dX7_take_11 rfl 2 rfl ?_
    refine q_aload_n C dX7_take_12 rfl 0 rfl ?_
    refine q_get (j := 0) C dX7_take_13 (wE_30 _ _) rfl (by decide) rfl inn_X7_take_7 (by decide +kernel) rfl ?_
    refine q_get (j := 5) C dX7_take_16 (wE_1 _ _) rfl (by decide) rfl inn_X7_take_4 (by decide +kernel) rfl ?_
    refine q_icmp_ge (tgt := 50) C dX7_take_19 (by decide) h (fun c h => ?_) (fun c h => ?_)
    · refine q_sub [] rfl ?_
      exact hk _ h
    · refine q_aload_n C dX7_take_22 rfl 0 rfl ?_
      refine q_get (j := 3) C dX7_take_23 (wE_30 _ _) rfl (by decide) rfl inn_X7_take_7 (by decide +kernel) rfl ?_
      refine q_iload_n C dX7_take_26 rfl 2 rfl ?_
      refine q_iconst (v := 0) C dX7_take_27 (by decide) ?_
      refine q_aload_n C dX7_take_28 rfl 0 rfl ?_
      refine q_get (j := 3) C dX7_take_29 (wE_30 _ _) rfl (by decide) rfl inn_X7_take_7 (by decide +kernel) rfl ?_
      refine q_iload_n C dX7_take_32 rfl 2 rfl ?_
      refine q_iald C dX7_take_33 (wE_33 _ _) h (fun h => ?_)
      refine q_iload_n C dX7_take_34 rfl 1 rfl ?_
      refine q_iload_n C dX7_take_35 rfl 2 rfl ?_
      obtain ⟨r_5, T_4, hc, h⟩ := bd_some h
      refine q_callS (st' := [.int r_5, .int (gA T 33 (Int32.toNatClampNeg x2)), .int (0 : Int32), .int x2, .ref (ad k.1 33)]) C dX7_take_36 [.int y1, .int x2] [.int (gA T 33 (Int32.toNatClampNeg x2)), .int (0 : Int32), .int x2, .ref (ad k.1 33)] (mtX0_ofWidth l _ n _ _ _ _ _ hc) gX7_take_X0_ofWidth rfl hd_X0_ofWidth (by decide) (by decide) rfl rfl (Nat.le_of_ble_eq_true rfl) rfl ?_
      clear hc
      refine q_isub C dX7_take_39 ?_
      refine q_mmax C dX7_take_40 (by decide +kernel) (by decide +kernel) (by decide +kernel) (by decide +kernel) (by decide) (Nat.le_of_ble_eq_true rfl) ?_
      refine q_iast C dX7_take_43 (wE_33 _ _) (wS_33 _ _) h (fun T_6 h => ?_)
      refine q_iinc (j := 2) (v := 1) (lv' := [(0, .ref (ad k.1 30)), (1, .int y1), (2, .int (x2 + 1))]) C dX7_take_44 rfl (by decide) (by decide) rfl ?_
      refine q_goto (tgt := 11) C dX7_take_47 (by decide) ?_
      refine q_sub [0, 1, 2] rfl ?_
      exact ih _ _ h
def fX7_take (n : Nat) (p0 : Int32) (T : TS) : Option (TS) := bd (fX7_indexBehind n p0 T) (fun r_2 T_1 => nm (uI T_1 1507 r_2) (fun T_3 => fX7_take_L11 n p0 (fun T_7 => some T_7) n (0 : Int32) T_3))
set_option maxHeartbeats 4000000 in
set_option maxRecDepth 100000 in
theorem mtX7_take (l : Launch) (X : XT) (n : Nat) (p0 : Int32) (T T' : TS) (h : fX7_take n p0 T = some T') : Met l yX7_take wsX7_take (RM 2) (PreX X [.ref (ad X 30), .int p0] T) (QQ X none T') 0 0 (xA X) := by
  refine q_start (by decide) rfl (Nat.le_of_ble_eq_true rfl) ?_
  intro k hk C
  subst hk
  show GW k T 0 [(0, .ref (ad k.1 30)), (1, .int p0)] []
  unfold fX7_take at h
  refine q_aload_n C dX7_take_0 rfl 0 rfl ?_
  refine q_aload_n C dX7_take_1 rfl 0 rfl ?_
  refine q_iload_n C dX7_take_2 rfl 1 rfl ?_
  obtain ⟨r_2, T_1, hc, h⟩ := bd_some h
  refine q_callV (st' := [.int r_2, .ref (ad k.1 30)]) C dX7_take_3 [.int p0] [.ref (ad k.1 30)] (mtX7_indexBehind l _ n _ _ _ _ hc) gX7_take_X7_indexBehind rfl hd_X7_indexBehind (by decide) (by decide) (wE_30 _ _) rfl rfl rfl (Nat.le_of_ble_eq_true rfl) rfl ?_
  clear hc
  refine q_putI (j := 7) (ty := .int) C dX7_take_6 (wE_30 _ _) (wP_30_7 _ _ _) rfl (by decide) (Nat.le_of_ble_eq_true rfl) tyX7 tyX7_ok nmX7 inn_X7_take_7 (by decide +kernel) rfl rfl (by decide +kernel) rfl rfl h (fun T_3 h => ?_)
  refine q_iconst (v := 0) C dX7_take_9 (by decide) ?_
  refine q_istore_n (lv' := [(0, .ref (ad k.1 30)), (1, .int p0), (2, .int (0 : Int32))]) C dX7_take_10 rfl (by decide) rfl ?_
  refine q_sub [0, 1, 2] rfl ?_
  refine lpX7_take_L11 C (fun T_7 h => ?_) _ _ _ h
  exact q_vreturn C dX7_take_50 h
def fX7_firstFrom_L8 (n : Nat) (y1 : Int32) (y3 : Int32) (kk : TS → Option (Int32 × TS)) : Nat → Int32 → TS → Option (Int32 × TS)
  | 0, _, _ => none
  | fuel + 1, x4, T => if y3 ≤ x4 then kk T else bd (fX5_codeAt n x4 T) (fun r_4 T_3 => bd (fX7_indexBehind n r_4 T_3) (fun r_6 T_5 => ck r_6 5000 (ck (gI T_5 1507) 5000 (if (gA T_5 34 (Int32.toNatClampNeg (gI T_5 1507))) ≤ (gA T_5 34 (Int32.toNatClampNeg r_6)) then fX7_firstFrom_L8 n y1 y3 kk fuel (x4 + 1) T_5 else some (x4, T_5)))))
set_option maxHeartbeats 4000000 in
set_option maxRecDepth 100000 in
theorem lpX7_firstFrom_L8 {l : Launch} {k : KT} {n : Nat} {y1 : Int32} {y3 : Int32} {kk : TS → Option (Int32 × TS)} {r : Int32} {T' : TS} (C : CX l k 5 cX7_firstFrom RX7 wsX7_firstFrom 12 (some .int) (some (.int r), T')) (hk : ∀ T1, kk T1 = some (r, T') → GW k T1 50 [(1, .int y1)] []) : ∀ (fuel : Nat) (x4 : Int32) (T : TS), fX7_firstFrom_L8 n y1 y3 kk fuel x4 T = some (r, T') → GW k T 8 [(0, .ref (ad k.1 30)), (1, .int y1), (2, .ref (ad k.1 4)), (3, .int y3), (4, .int x4)] [] := by
  intro fuel
  induction fuel with
  | zero => intro x4 T h; cases h
  | succ fuel ih =>
    intro x4 T h
    rw [fX7_firstFrom_L8] at h
    refine q_iload C dX7_firstFrom_8 4 rfl ?_
    refine q_iload_n C dX7_firstFrom_10 rfl 3 rfl ?_
    refine q_icmp_ge (tgt := 50) C dX7_firstFrom_11 (by decide) h (fun c h => ?_) (fun c h => ?_)
    · refine q_sub [1] rfl ?_
      exact hk _ h
    · refine q_aload_n C dX7_firstFrom_14 rfl 0 rfl ?_
      refine q_get (j := 4) C dX7_firstFrom_15 (wE_30 _ _) rfl (by decide) rfl inn_X7_firstFrom_7 (by decide +kernel) rfl ?_
      refine q_aload_n C dX7_firstFrom_18 rfl 0 rfl ?_
      refine q_aload_n C dX7_firstFrom_19 rfl 2 rfl ?_
      refine q_iload C dX7_firstFrom_20 4 rfl ?_
      obtain ⟨r_4, T_3, hc, h⟩ := bd_some h
      refine q_callV (st' := [.int r_4, .ref (ad k.1 30), .ref (ad k.1 34)]) C dX7_firstFrom_22 [.int x4] [.ref (ad k.1 30), .ref (ad k.1 34)] (mtX5_codeAt l _ n _ _ _ _ hc) gX7_firstFrom_X5_codeAt rfl hd_X5_codeAt (by decide) (by decide) (wE_4 _ _) rfl rfl rfl (Nat.le_of_ble_eq_true rfl) rfl ?_
      clear hc
      obtain ⟨r_6, T_5, hc, h⟩ := bd_some h
      refine q_callV (st' := [.int r_6, .ref (ad k.1 34)]) C dX7_firstFrom_25 [.int r_4] [.ref (ad k.1 34)] (mtX7_indexBehind l _ n _ _ _ _ hc) gX7_firstFrom_X7_indexBehind rfl hd_X7_indexBehind (by decide) (by decide) (wE_30 _ _) rfl rfl rfl (Nat.le_of_ble_eq_true rfl) rfl ?_
      clear hc
      refine q_iald C dX7_firstFrom_28 (wE_34 _ _) h (fun h => ?_)
      refine q_aload_n C dX7_firstFrom_29 rfl 0 rfl ?_
      refine q_get (j := 4) C dX7_firstFrom_30 (wE_30 _ _) rfl (by decide) rfl inn_X7_firstFrom_7 (by decide +kernel) rfl ?_
      refine q_aload_n C dX7_firstFrom_33 rfl 0 rfl ?_
      refine q_get (j := 7) C dX7_firstFrom_34 (wE_30 _ _) rfl (by decide) rfl inn_X7_firstFrom_7 (by decide +kernel) rfl ?_
      refine q_iald C dX7_firstFrom_37 (wE_34 _ _) h (fun h => ?_)
      refine q_icmp_ge (tgt := 44) C dX7_firstFrom_38 (by decide) h (fun c h => ?_) (fun c h => ?_)
      · refine q_iinc (j := 4) (v := 1) (lv' := [(0, .ref (ad k.1 30)), (1, .int y1), (2, .ref (ad k.1 4)), (3, .int y3), (4, .int (x4 + 1))]) C dX7_firstFrom_44 rfl (by decide) (by decide) rfl ?_
        refine q_goto (tgt := 8) C dX7_firstFrom_47 (by decide) ?_
        refine q_sub [0, 1, 2, 3, 4] rfl ?_
        exact ih _ _ h
      · refine q_iload C dX7_firstFrom_41 4 rfl ?_
        exact q_ireturn C dX7_firstFrom_43 h
def fX7_firstFrom (n : Nat) (p0 : Int32) (T : TS) : Option (Int32 × TS) := bd (fX5_count n T) (fun r_2 T_1 => fX7_firstFrom_L8 n p0 r_2 (fun T_7 => some (p0, T_7)) n p0 T_1)
set_option maxHeartbeats 4000000 in
set_option maxRecDepth 100000 in
theorem mtX7_firstFrom (l : Launch) (X : XT) (n : Nat) (p0 : Int32) (T T' : TS) (r : Int32) (h : fX7_firstFrom n p0 T = some (r, T')) : Met l yX7_firstFrom wsX7_firstFrom (RM 12) (PreX X [.ref (ad X 30), .int p0, .ref (ad X 4)] T) (QQ X (some (.int r)) T') 0 0 (xA X) := by
  refine q_start (by decide) rfl (Nat.le_of_ble_eq_true rfl) ?_
  intro k hk C
  subst hk
  show GW k T 0 [(0, .ref (ad k.1 30)), (1, .int p0), (2, .ref (ad k.1 4))] []
  unfold fX7_firstFrom at h
  refine q_aload_n C dX7_firstFrom_0 rfl 2 rfl ?_
  obtain ⟨r_2, T_1, hc, h⟩ := bd_some h
  refine q_callV (st' := [.int r_2]) C dX7_firstFrom_1 [] [] (mtX5_count l _ n _ _ _ hc) gX7_firstFrom_X5_count rfl hd_X5_count (by decide) (by decide) (wE_4 _ _) rfl rfl rfl (Nat.le_of_ble_eq_true rfl) rfl ?_
  clear hc
  refine q_istore_n (lv' := [(0, .ref (ad k.1 30)), (1, .int p0), (2, .ref (ad k.1 4)), (3, .int r_2)]) C dX7_firstFrom_4 rfl (by decide) rfl ?_
  refine q_iload_n C dX7_firstFrom_5 rfl 1 rfl ?_
  refine q_istore (lv' := [(0, .ref (ad k.1 30)), (1, .int p0), (2, .ref (ad k.1 4)), (3, .int r_2), (4, .int p0)]) C dX7_firstFrom_6 (by decide) rfl ?_
  refine q_sub [0, 1, 2, 3, 4] rfl ?_
  refine lpX7_firstFrom_L8 C (fun T_7 h => ?_) _ _ _ h
  refine q_iload_n C dX7_firstFrom_50 rfl 0 rfl ?_
  exact q_ireturn C dX7_firstFrom_51 h
