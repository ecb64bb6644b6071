theorem hd_X1_add : yX1_add.cls = RX1 ∧ yX1_add.cls ≠ "java/lang/invoke/MethodHandle" ∧ yX1_add.cls ≠ "java/lang/invoke/VarHandle" ∧ (parseMethodDescriptor yX1_add.desc).map (fun d => d.parameters.length) = some 1 := by decide +kernel
theorem hd_X6_wanted : yX6_wanted.cls = RX6 ∧ yX6_wanted.cls ≠ "java/lang/invoke/MethodHandle" ∧ yX6_wanted.cls ≠ "java/lang/invoke/VarHandle" ∧ (parseMethodDescriptor yX6_wanted.desc).map (fun d => d.parameters.length) = some 1 := by decide +kernel
theorem hd_X8_add : yX8_add.cls = RX8 ∧ yX8_add.cls ≠ "java/lang/invoke/MethodHandle" ∧ yX8_add.cls ≠ "java/lang/invoke/VarHandle" ∧ (parseMethodDescriptor yX8_add.desc).map (fun d => d.parameters.length) = some 2 := by decide +kernel
theorem hd_X8_isFull : yX8_isFull.cls = RX8 ∧ yX8_isFull.cls ≠ "java/lang/invoke/MethodHandle" ∧ yX8_isFull.cls ≠ "java/lang/invoke/VarHandle" ∧ (parseMethodDescriptor yX8_isFull.desc).map (fun d => d.parameters.length) = some 0 := by decide +kernel
theorem hd_X8_remove : yX8_remove.cls = RX8 ∧ yX8_remove.cls ≠ "java/lang/invoke/MethodHandle" ∧ yX8_remove.cls ≠ "java/lang/invoke/VarHandle" ∧ (parseMethodDescriptor yX8_remove.desc).map (fun d => d.parameters.length) = some 1 := by decide +kernel
theorem hd_X9_add : yX9_add.cls = RX9 ∧ yX9_add.cls ≠ "java/lang/invoke/MethodHandle" ∧ yX9_add.cls ≠ "java/lang/invoke/VarHandle" ∧ (parseMethodDescriptor yX9_add.desc).map (fun d => d.parameters.length) = some 3 := by decide +kernel
theorem hd_X9_isFull : yX9_isFull.cls = RX9 ∧ yX9_isFull.cls ≠ "java/lang/invoke/MethodHandle" ∧ yX9_isFull.cls ≠ "java/lang/invoke/VarHandle" ∧ (parseMethodDescriptor yX9_isFull.desc).map (fun d => d.parameters.length) = some 0 := by decide +kernel
theorem inn_X1_add_1 : ∀ w ∈ u_ws RX1 TX1 2, w ∈ wsX1_add := by decide +kernel
theorem inn_X1_copyFrom_1 : ∀ w ∈ u_ws RX1 TX1 2, w ∈ wsX1_copyFrom := by decide +kernel
theorem inn_X1_lay_1 : ∀ w ∈ u_ws RX1 TX1 2, w ∈ wsX1_lay := by decide +kernel
theorem inn_X1_lay_4 : ∀ w ∈ u_ws RX4 TX4 8, w ∈ wsX1_lay := by decide +kernel
theorem inn_X1_movesFrom_1 : ∀ w ∈ u_ws RX1 TX1 2, w ∈ wsX1_movesFrom := by decide +kernel
theorem inn_X2_lost_2 : ∀ w ∈ u_ws RX2 TX2 6, w ∈ wsX2_lost := by decide +kernel
theorem inn_X6_addDone_4 : ∀ w ∈ u_ws RX4 TX4 8, w ∈ wsX6_addDone := by decide +kernel
theorem inn_X6_addDone_6 : ∀ w ∈ u_ws RX6 TX6 6, w ∈ wsX6_addDone := by decide +kernel
theorem inn_X6_isAnyDone_4 : ∀ w ∈ u_ws RX4 TX4 8, w ∈ wsX6_isAnyDone := by decide +kernel
theorem inn_X6_isAnyDone_6 : ∀ w ∈ u_ws RX6 TX6 6, w ∈ wsX6_isAnyDone := by decide +kernel
theorem inn_X6_isAnyOpen_4 : ∀ w ∈ u_ws RX4 TX4 8, w ∈ wsX6_isAnyOpen := by decide +kernel
theorem inn_X6_isAnyOpen_6 : ∀ w ∈ u_ws RX6 TX6 6, w ∈ wsX6_isAnyOpen := by decide +kernel
theorem inn_X6_startOpen_4 : ∀ w ∈ u_ws RX4 TX4 8, w ∈ wsX6_startOpen := by decide +kernel
theorem inn_X6_startOpen_6 : ∀ w ∈ u_ws RX6 TX6 6, w ∈ wsX6_startOpen := by decide +kernel
theorem inn_X6_takeGreedily_4 : ∀ w ∈ u_ws RX4 TX4 8, w ∈ wsX6_takeGreedily := by decide +kernel
theorem inn_X6_takeGreedily_6 : ∀ w ∈ u_ws RX6 TX6 6, w ∈ wsX6_takeGreedily := by decide +kernel
theorem inn_X6_wanted_6 : ∀ w ∈ u_ws RX6 TX6 6, w ∈ wsX6_wanted := by decide +kernel
theorem inn_X6_worthOf_4 : ∀ w ∈ u_ws RX4 TX4 8, w ∈ wsX6_worthOf := by decide +kernel
theorem inn_X6_worthOf_6 : ∀ w ∈ u_ws RX6 TX6 6, w ∈ wsX6_worthOf := by decide +kernel
theorem inn_X6_worthOfWanted_4 : ∀ w ∈ u_ws RX4 TX4 8, w ∈ wsX6_worthOfWanted := by decide +kernel
theorem inn_X6_worthOfWanted_6 : ∀ w ∈ u_ws RX6 TX6 6, w ∈ wsX6_worthOfWanted := by decide +kernel
theorem inn_X8_add_8 : ∀ w ∈ u_ws RX8 TX8 3, w ∈ wsX8_add := by decide +kernel
theorem inn_X8_addRoll_8 : ∀ w ∈ u_ws RX8 TX8 3, w ∈ wsX8_addRoll := by decide +kernel
theorem inn_X8_allRolls_8 : ∀ w ∈ u_ws RX8 TX8 3, w ∈ wsX8_allRolls := by decide +kernel
theorem inn_X8_clear_8 : ∀ w ∈ u_ws RX8 TX8 3, w ∈ wsX8_clear := by decide +kernel
theorem inn_X8_copyFrom_8 : ∀ w ∈ u_ws RX8 TX8 3, w ∈ wsX8_copyFrom := by decide +kernel
theorem inn_X8_isFull_8 : ∀ w ∈ u_ws RX8 TX8 3, w ∈ wsX8_isFull := by decide +kernel
theorem inn_X8_isSlot_8 : ∀ w ∈ u_ws RX8 TX8 3, w ∈ wsX8_isSlot := by decide +kernel
theorem inn_X8_piecesOf_8 : ∀ w ∈ u_ws RX8 TX8 3, w ∈ wsX8_piecesOf := by decide +kernel
theorem inn_X8_remove_8 : ∀ w ∈ u_ws RX8 TX8 3, w ∈ wsX8_remove := by decide +kernel
theorem inn_X8_takeRoll_8 : ∀ w ∈ u_ws RX8 TX8 3, w ∈ wsX8_takeRoll := by decide +kernel
theorem inn_X9_add_9 : ∀ w ∈ u_ws RX9 TX9 4, w ∈ wsX9_add := by decide +kernel
theorem inn_X9_isFull_9 : ∀ w ∈ u_ws RX9 TX9 4, w ∈ wsX9_isFull := by decide +kernel
theorem inn_X9_isLot_9 : ∀ w ∈ u_ws RX9 TX9 4, w ∈ wsX9_isLot := by decide +kernel
theorem inn_X9_takeRoll_9 : ∀ w ∈ u_ws RX9 TX9 4, w ∈ wsX9_takeRoll := by decide +kernel
def fX6_wanted (n : Nat) (p0 : Int32) (T : TS) : Option (Int32 × TS) := ck p0 6 (ck p0 6 (some ((imax (0 : Int32) ((gA T 8 (Int32.toNatClampNeg p0)) - (gA T 9 (Int32.toNatClampNeg p0)))), T)))
set_option maxHeartbeats 4000000 in
set_option maxRecDepth 100000 in
theorem mtX6_wanted (l : Launch) (X : XT) (n : Nat) (p0 : Int32) (T T' : TS) (r : Int32) (h : fX6_wanted n p0 T = some (r, T')) : Met l yX6_wanted wsX6_wanted (RM 1) (PreX X [.ref (ad X 6), .int p0] T) (QQ X (some (.int r)) T') 0 0 (xA X) := by
  refine q_start (by decide) rfl (Nat.le_of_ble_eq_true rfl) ?_
  intro k hk C
  subst hk
  show GW k T 0 [(0, .ref (ad k.1 6)), (1, .int p0)] []
  unfold fX6_wanted at h
  refine q_iconst (v := 0) C dX6_wanted_0 (by decide) ?_
  refine q_aload_n C dX6_wanted_1 rfl 0 rfl ?_
  refine q_get (j := 2) C dX6_wanted_2 (wE_6 _ _) rfl (by decide) rfl inn_X6_wanted_6 (by decide +kernel) rfl ?_
  refine q_iload_n C dX6_wanted_5 rfl 1 rfl ?_
  refine q_iald C dX6_wanted_6 (wE_8 _ _) h (fun h => ?_)
  refine q_aload_n C dX6_wanted_7 rfl 0 rfl ?_
  refine q_get (j := 3) C dX6_wanted_8 (wE_6 _ _) rfl (by decide) rfl inn_X6_wanted_6 (by decide +kernel) rfl ?_
  refine q_iload_n C dX6_wanted_11 rfl 1 rfl ?_
  refine q_iald C dX6_wanted_12 (wE_9 _ _) h (fun h => ?_)
  refine q_isub C dX6_wanted_13 ?_
  refine q_mmax C dX6_wanted_14 (by decide +kernel) (by decide +kernel) (by decide +kernel) (by decide +kernel) (by decide) (Nat.le_of_ble_eq_true rfl) ?_
  exact q_ireturn C dX6_wanted_17 h
def fX6_isAnyDone_L2 (n : Nat) (kk : TS → Option (Int32 × TS)) : Nat → Int32 → TS → Option (Int32 × TS)
  | 0, _, _ => none
  | fuel + 1, x1, T => if (gI T 55) ≤ x1 then kk T else ck x1 6 (if (gA T 9 (Int32.toNatClampNeg x1)) ≤ 0 then fX6_isAnyDone_L2 n kk fuel (x1 + 1) T else rz (1 : Int32) T)
set_option maxHeartbeats 4000000 in
set_option maxRecDepth 100000 in
theorem lpX6_isAnyDone_L2 {l : Launch} {k : KT} {n : Nat} {kk : TS → Option (Int32 × TS)} {r : Int32} {T' : TS} (C : CX l k 2 cX6_isAnyDone RX6 wsX6_isAnyDone 0 (some .boolean) (some (.int r), T')) (hk : ∀ T1, kk T1 = some (r, T') → GW k T1 30 [] []) : ∀ (fuel : Nat) (x1 : Int32) (T : TS), fX6_isAnyDone_L2 n kk fuel x1 T = some (r, T') → GW k T 2 [(0, .ref (ad k.1 6)), (1, .int x1)] [] := by
  intro fuel
  induction fuel with
  | zero => intro x1 T h; cases h
  | succ fuel ih =>
    intro x1 T h
    rw [fX6_isAnyDone_L2] at h
    refine q_iload_n C dX6_isAnyDone_2 rfl 1 rfl ?_
    refine q_aload_n C dX6_isAnyDone_3 rfl 0 rfl ?_
    refine q_get (j := 0) C dX6_isAnyDone_4 (wE_6 _ _) rfl (by decide) rfl inn_X6_isAnyDone_6 (by decide +kernel) rfl ?_
    refine q_get (j := 5) C dX6_isAnyDone_7 (wE_1 _ _) rfl (by decide) rfl inn_X6_isAnyDone_4 (by decide +kernel) rfl ?_
    refine q_icmp_ge (tgt := 30) C dX6_isAnyDone_10 (by decide) h (fun c h => ?_) (fun c h => ?_)
    · refine q_sub [] rfl ?_
      exact hk _ h
    · refine q_aload_n C dX6_isAnyDone_13 rfl 0 rfl ?_
      refine q_get (j := 3) C dX6_isAnyDone_14 (wE_6 _ _) rfl (by decide) rfl inn_X6_isAnyDone_6 (by decide +kernel) rfl ?_
      refine q_iload_n C dX6_isAnyDone_17 rfl 1 rfl ?_
      refine q_iald C dX6_isAnyDone_18 (wE_9 _ _) h (fun h => ?_)
      refine q_if_le (tgt := 24) C dX6_isAnyDone_19 (by decide) h (fun c h => ?_) (fun c h => ?_)
      · refine q_iinc (j := 1) (v := 1) (lv' := [(0, .ref (ad k.1 6)), (1, .int (x1 + 1))]) C dX6_isAnyDone_24 rfl (by decide) (by decide) rfl ?_
        refine q_goto (tgt := 2) C dX6_isAnyDone_27 (by decide) ?_
        refine q_sub [0, 1] rfl ?_
        exact ih _ _ h
      · refine q_iconst (v := 1) C dX6_isAnyDone_22 (by decide) ?_
        exact q_zreturn C dX6_isAnyDone_23 h
def fX6_isAnyDone (n : Nat) (T : TS) : Option (Int32 × TS) := fX6_isAnyDone_L2 n (fun T_1 => rz (0 : Int32) T_1) n (0 : Int32) T
set_option maxHeartbeats 4000000 in
set_option maxRecDepth 100000 in
theorem mtX6_isAnyDone (l : Launch) (X : XT) (n : Nat) (T T' : TS) (r : Int32) (h : fX6_isAnyDone n T = some (r, T')) : Met l yX6_isAnyDone wsX6_isAnyDone (RM 0) (PreX X [.ref (ad X 6)] T) (QQ X (some (.int r)) T') 0 0 (xA X) := by
  refine q_start (by decide) rfl (Nat.le_of_ble_eq_true rfl) ?_
  intro k hk C
  subst hk
  show GW k T 0 [(0, .ref (ad k.1 6))] []
  unfold fX6_isAnyDone at h
  refine q_iconst (v := 0) C dX6_isAnyDone_0 (by decide) ?_
  refine q_istore_n (lv' := [(0, .ref (ad k.1 6)), (1, .int (0 : Int32))]) C dX6_isAnyDone_1 rfl (by decide) rfl ?_
  refine q_sub [0, 1] rfl ?_
  refine lpX6_isAnyDone_L2 C (fun T_1 h => ?_) _ _ _ h
  refine q_iconst (v := 0) C dX6_isAnyDone_30 (by decide) ?_
  exact q_zreturn C dX6_isAnyDone_31 h
def fX6_addDone_L2 (n : Nat) (y1 : Int32) (y2 : Int32) (kk : TS → Option (TS)) : Nat → Int32 → TS → Option (TS)
  | 0, _, _ => none
  | fuel + 1, x3, T => if (gI T 55) ≤ x3 then kk T else ck x3 6 (bd (fX0_ofWidth n y1 x3 T) (fun r_2 T_1 => ck x3 6 (nm (sA T_1 9 x3 ((gA T 9 (Int32.toNatClampNeg x3)) + (r_2 * y2))) (fun T_3 => fX6_addDone_L2 n y1 y2 kk fuel (x3 + 1) T_3))))
set_option maxHeartbeats 4000000 in
set_option maxRecDepth 100000 in
theorem lpX6_addDone_L2 {l : Launch} {k : KT} {n : Nat} {y1 : Int32} {y2 : Int32} {kk : TS → Option (TS)} {T' : TS} (C : CX l k 4 cX6_addDone RX6 wsX6_addDone 1 none (none, T')) (hk : ∀ T1, kk T1 = some T' → GW k T1 35 [] []) : ∀ (fuel : Nat) (x3 : Int32) (T : TS), fX6_addDone_L2 n y1 y2 kk fuel x3 T = some T' → GW k T 2 [(0, .ref (ad k.1 6)), (1, .int y1), (2, .int y2), (3, .int x3)] [] := by
  intro fuel
  induction fuel with
  | zero => intro x3 T h; cases h
  | succ fuel ih =>
    intro x3 T h
    rw [fX6_addDone_L2] at h
    refine q_iload_n C dX6_addDone_2 rfl 3 rfl ?_
    refine q_aload_n C dX6_addDone_3 rfl 0 rfl ?_
    refine q_get (j := 0) C dX6_addDone_4 (wE_6 _ _) rfl (by decide) rfl inn_X6_addDone_6 (by decide +kernel) rfl ?_
    refine q_get (j := 5) C dX6_addDone_7 (wE_1 _ _) rfl (by decide) rfl inn_X6_addDone_4 (by decide +kernel) rfl ?_
    refine q_icmp_ge (tgt := 35) C dX6_addDone_10 (by decide) h (fun c h => ?_) (fun c h => ?_)
    · refine q_sub [] rfl ?_
      exact hk _ h
    · refine q_aload_n C dX6_addDone_13 rfl 0 rfl ?_
      refine q_get (j := 3) C dX6_addDone_14 (wE_6 _ _) rfl (by decide) rfl inn_X6_addDone_6 (by decide +kernel) rfl ?_
      refine q_iload_n C dX6_addDone_17 rfl 3 rfl ?_
      refine q_dup2 C dX6_addDone_18 rfl rfl ?_
      refine q_iald C dX6_addDone_19 (wE_9 _ _) h (fun h => ?_)
      refine q_iload_n C dX6_addDone_20 rfl 1 rfl ?_
      refine q_iload_n C dX6_addDone_21 rfl 3 rfl ?_
      obtain ⟨r_2, T_1, hc, h⟩ := bd_some h
      refine q_callS (st' := [.int r_2, .int (gA T 9 (Int32.toNatClampNeg x3)), .int x3, .ref (ad k.1 9)]) C dX6_addDone_22 [.int y1, .int x3] [.int (gA T 9 (Int32.toNatClampNeg x3)), .int x3, .ref (ad k.1 9)] (mtX0_ofWidth l _ n _ _ _ _ _ hc) gX6_addDone_X0_ofWidth rfl hd_X0_ofWidth (by decide) (by decide) rfl rfl (Nat.le_of_ble_eq_true rfl) rfl ?_
      clear hc
      refine q_iload_n C dX6_addDone_25 rfl 2 rfl ?_
      refine q_imul C dX6_addDone_26 ?_
      refine q_iadd C dX6_addDone_27 ?_
      refine q_iast C dX6_addDone_28 (wE_9 _ _) (wS_9 _ _) h (fun T_3 h => ?_)
      refine q_iinc (j := 3) (v := 1) (lv' := [(0, .ref (ad k.1 6)), (1, .int y1), (2, .int y2), (3, .int (x3 + 1))]) C dX6_addDone_29 rfl (by decide) (by decide) rfl ?_
      refine q_goto (tgt := 2) C dX6_addDone_32 (by decide) ?_
      refine q_sub [0, 1, 2, 3] rfl ?_
      exact ih _ _ h
def fX6_addDone (n : Nat) (p0 : Int32) (p1 : Int32) (T : TS) : Option (TS) := fX6_addDone_L2 n p0 p1 (fun T_4 => some T_4) n (0 : Int32) T
set_option maxHeartbeats 4000000 in
set_option maxRecDepth 100000 in
theorem mtX6_addDone (l : Launch) (X : XT) (n : Nat) (p0 : Int32) (p1 : Int32) (T T' : TS) (h : fX6_addDone n p0 p1 T = some T') : Met l yX6_addDone wsX6_addDone (RM 1) (PreX X [.ref (ad X 6), .int p0, .int p1] T) (QQ X none T') 0 0 (xA X) := by
  refine q_start (by decide) rfl (Nat.le_of_ble_eq_true rfl) ?_
  intro k hk C
  subst hk
  show GW k T 0 [(0, .ref (ad k.1 6)), (1, .int p0), (2, .int p1)] []
  unfold fX6_addDone at h
  refine q_iconst (v := 0) C dX6_addDone_0 (by decide) ?_
  refine q_istore_n (lv' := [(0, .ref (ad k.1 6)), (1, .int p0), (2, .int p1), (3, .int (0 : Int32))]) C dX6_addDone_1 rfl (by decide) rfl ?_
  refine q_sub [0, 1, 2, 3] rfl ?_
  refine lpX6_addDone_L2 C (fun T_4 h => ?_) _ _ _ h
  exact q_vreturn C dX6_addDone_35 h
def fX6_worthOf_L4 (n : Nat) (y1 : Int32) (kk : Int32 → TS → Option (Int32 × TS)) : Nat → Int32 → Int32 → TS → Option (Int32 × TS)
  | 0, _, _, _ => none
  | fuel + 1, x2, x3, T => if (gI T 55) ≤ x3 then kk x2 T else bd (fX0_ofWidth n y1 x3 T) (fun r_2 T_1 => ck x3 6 (nm (x2 + (r_2 * (gA T_1 10 (Int32.toNatClampNeg x3)))) (fun x2_3 => fX6_worthOf_L4 n y1 kk fuel x2_3 (x3 + 1) T_1)))
set_option maxHeartbeats 4000000 in
set_option maxRecDepth 100000 in
theorem lpX6_worthOf_L4 {l : Launch} {k : KT} {n : Nat} {y1 : Int32} {kk : Int32 → TS → Option (Int32 × TS)} {r : Int32} {T' : TS} (C : CX l k 4 cX6_worthOf RX6 wsX6_worthOf 1 (some .int) (some (.int r), T')) (hk : ∀ e2 T1, kk e2 T1 = some (r, T') → GW k T1 36 [(2, .int e2)] []) : ∀ (fuel : Nat) (x2 : Int32) (x3 : Int32) (T : TS), fX6_worthOf_L4 n y1 kk fuel x2 x3 T = some (r, T') → GW k T 4 [(0, .ref (ad k.1 6)), (1, .int y1), (2, .int x2), (3, .int x3)] [] := by
  intro fuel
  induction fuel with
  | zero => intro x2 x3 T h; cases h
  | succ fuel ih =>
    intro x2 x3 T h
    rw [fX6_worthOf_L4] at h
    refine q_iload_n C dX6_worthOf_4 rfl 3 rfl ?_
    refine q_aload_n C dX6_worthOf_5 rfl 0 rfl ?_
    refine q_get (j := 0) C dX6_worthOf_6 (wE_6 _ _) rfl (by decide) rfl inn_X6_worthOf_6 (by decide +kernel) rfl ?_
    refine q_get (j := 5) C dX6_worthOf_9 (wE_1 _ _) rfl (by decide) rfl inn_X6_worthOf_4 (by decide +kernel) rfl ?_
    refine q_icmp_ge (tgt := 36) C dX6_worthOf_12 (by decide) h (fun c h => ?_) (fun c h => ?_)
    · refine q_sub [2] rfl ?_
      exact hk _ _ h
    · refine q_iload_n C dX6_worthOf_15 rfl 2 rfl ?_
      refine q_iload_n C dX6_worthOf_16 rfl 1 rfl ?_
      refine q_iload_n C dX6_worthOf_17 rfl 3 rfl ?_
      obtain ⟨r_2, T_1, hc, h⟩ := bd_some h
      refine q_callS (st' := [.int r_2, .int x2]) C dX6_worthOf_18 [.int y1, .int x3] [.int x2] (mtX0_ofWidth l _ n _ _ _ _ _ hc) gX6_worthOf_X0_ofWidth rfl hd_X0_ofWidth (by decide) (by decide) rfl rfl (Nat.le_of_ble_eq_true rfl) rfl ?_
      clear hc
      refine q_aload_n C dX6_worthOf_21 rfl 0 rfl ?_
      refine q_get (j := 4) C dX6_worthOf_22 (wE_6 _ _) rfl (by decide) rfl inn_X6_worthOf_6 (by decide +kernel) rfl ?_
      refine q_iload_n C dX6_worthOf_25 rfl 3 rfl ?_
      refine q_iald C dX6_worthOf_26 (wE_10 _ _) h (fun h => ?_)
      refine q_imul C dX6_worthOf_27 ?_
      refine q_iadd C dX6_worthOf_28 ?_
      refine q_nm h (fun x2_3 h => ?_)
      refine q_istore_n (lv' := [(0, .ref (ad k.1 6)), (1, .int y1), (2, .int x2_3), (3, .int x3)]) C dX6_worthOf_29 rfl (by decide) rfl ?_
      refine q_iinc (j := 3) (v := 1) (lv' := [(0, .ref (ad k.1 6)), (1, .int y1), (2, .int x2_3), (3, .int (x3 + 1))]) C dX6_worthOf_30 rfl (by decide) (by decide) rfl ?_
      refine q_goto (tgt := 4) C dX6_worthOf_33 (by decide) ?_
      refine q_sub [0, 1, 2, 3] rfl ?_
      exact ih _ _ _ h
def fX6_worthOf (n : Nat) (p0 : Int32) (T : TS) : Option (Int32 × TS) := fX6_worthOf_L4 n p0 (fun e2_4 T_5 => some (e2_4, T_5)) n (0 : Int32) (0 : Int32) T
set_option maxHeartbeats 4000000 in
set_option maxRecDepth 100000 in
theorem mtX6_worthOf (l : Launch) (X : XT) (n : Nat) (p0 : Int32) (T T' : TS) (r : Int32) (h : fX6_worthOf n p0 T = some (r, T')) : Met l yX6_worthOf wsX6_worthOf (RM 1) (PreX X [.ref (ad X 6), .int p0] T) (QQ X (some (.int r)) T') 0 0 (xA X) := by
  refine q_start (by decide) rfl (Nat.le_of_ble_eq_true rfl) ?_
  intro k hk C
  subst hk
  show GW k T 0 [(0, .ref (ad k.1 6)), (1, .int p0)] []
  unfold fX6_worthOf at h
  refine q_iconst (v := 0) C dX6_worthOf_0 (by decide) ?_
  refine q_istore_n (lv' := [(0, .ref (ad k.1 6)), (1, .int p0), (2, .int (0 : Int32))]) C dX6_worthOf_1 rfl (by decide) rfl ?_
  refine q_iconst (v := 0) C dX6_worthOf_2 (by decide) ?_
  refine q_istore_n (lv' := [(0, .ref (ad k.1 6)), (1, .int p0), (2, .int (0 : Int32)), (3, .int (0 : Int32))]) C dX6_worthOf_3 rfl (by decide) rfl ?_
  refine q_sub [0, 1, 2, 3] rfl ?_
  refine lpX6_worthOf_L4 C (fun e2_4 T_5 h => ?_) _ _ _ _ h
  refine q_iload_n C dX6_worthOf_36 rfl 0 rfl ?_
  exact q_ireturn C dX6_worthOf_37 h
def fX6_worthOfWanted_L4 (n : Nat) (kk : Int32 → TS → Option (Int32 × TS)) : Nat → Int32 → Int32 → TS → Option (Int32 × TS)
  | 0, _, _, _ => none
  | fuel + 1, x1, x2, T => if (gI T 55) ≤ x2 then kk x1 T else bd (fX6_wanted n x2 T) (fun r_2 T_1 => ck x2 6 (nm (x1 + (r_2 * (gA T_1 10 (Int32.toNatClampNeg x2)))) (fun x1_3 => fX6_worthOfWanted_L4 n kk fuel x1_3 (x2 + 1) T_1)))
set_option maxHeartbeats 4000000 in
set_option maxRecDepth 100000 in
theorem lpX6_worthOfWanted_L4 {l : Launch} {k : KT} {n : Nat} {kk : Int32 → TS → Option (Int32 × TS)} {r : Int32} {T' : TS} (C : CX l k 3 cX6_worthOfWanted RX6 wsX6_worthOfWanted 2 (some .int) (some (.int r), T')) (hk : ∀ e1 T1, kk e1 T1 = some (r, T') → GW k T1 36 [(1, .int e1)] []) : ∀ (fuel : Nat) (x1 : Int32) (x2 : Int32) (T : TS), fX6_worthOfWanted_L4 n kk fuel x1 x2 T = some (r, T') → GW k T 4 [(0, .ref (ad k.1 6)), (1, .int x1), (2, .int x2)] [] := by
  intro fuel
  induction fuel with
  | zero => intro x1 x2 T h; cases h
  | succ fuel ih =>
    intro x1 x2 T h
    rw [fX6_worthOfWanted_L4] at h
    refine q_iload_n C dX6_worthOfWanted_4 rfl 2 rfl ?_
    refine q_aload_n C dX6_worthOfWanted_5 rfl 0 rfl ?_
    refine q_get (j := 0) C dX6_worthOfWanted_6 (wE_6 _ _) rfl (by decide) rfl inn_X6_worthOfWanted_6 (by decide +kernel) rfl ?_
    refine q_get (j := 5) C dX6_worthOfWanted_9 (wE_1 _ _) rfl (by decide) rfl inn_X6_worthOfWanted_4 (by decide +kernel) rfl ?_
    refine q_icmp_ge (tgt := 36) C dX6_worthOfWanted_12 (by decide) h (fun c h => ?_) (fun c h => ?_)
    · refine q_sub [1] rfl ?_
      exact hk _ _ h
    · refine q_iload_n C dX6_worthOfWanted_15 rfl 1 rfl ?_
      refine q_aload_n C dX6_worthOfWanted_16 rfl 0 rfl ?_
      refine q_iload_n C dX6_worthOfWanted_17 rfl 2 rfl ?_
      obtain ⟨r_2, T_1, hc, h⟩ := bd_some h
      refine q_callV (st' := [.int r_2, .int x1]) C dX6_worthOfWanted_18 [.int x2] [.int x1] (mtX6_wanted l _ n _ _ _ _ hc) gX6_worthOfWanted_X6_wanted rfl hd_X6_wanted (by decide) (by decide) (wE_6 _ _) rfl rfl rfl (Nat.le_of_ble_eq_true rfl) rfl ?_
      clear hc
      refine q_aload_n C dX6_worthOfWanted_21 rfl 0 rfl ?_
      refine q_get (j := 4) C dX6_worthOfWanted_22 (wE_6 _ _) rfl (by decide) rfl inn_X6_worthOfWanted_6 (by decide +kernel) rfl ?_
      refine q_iload_n C dX6_worthOfWanted_25 rfl 2 rfl ?_
      refine q_iald C dX6_worthOfWanted_26 (wE_10 _ _) h (fun h => ?_)
      refine q_imul C dX6_worthOfWanted_27 ?_
      refine q_iadd C dX6_worthOfWanted_28 ?_
      refine q_nm h (fun x1_3 h => ?_)
      refine q_istore_n (lv' := [(0, .ref (ad k.1 6)), (1, .int x1_3), (2, .int x2)]) C dX6_worthOfWanted_29 rfl (by decide) rfl ?_
      refine q_iinc (j := 2) (v := 1) (lv' := [(0, .ref (ad k.1 6)), (1, .int x1_3), (2, .int (x2 + 1))]) C dX6_worthOfWanted_30 rfl (by decide) (by decide) rfl ?_
      refine q_goto (tgt := 4) C dX6_worthOfWanted_33 (by decide) ?_
      refine q_sub [0, 1, 2] rfl ?_
      exact ih _ _ _ h
def fX6_worthOfWanted (n : Nat) (T : TS) : Option (Int32 × TS) := fX6_worthOfWanted_L4 n (fun e1_4 T_5 => some (e1_4, T_5)) n (0 : Int32) (0 : Int32) T
set_option maxHeartbeats 4000000 in
set_option maxRecDepth 100000 in
theorem mtX6_worthOfWanted (l : Launch) (X : XT) (n : Nat) (T T' : TS) (r : Int32) (h : fX6_worthOfWanted n T = some (r, T')) : Met l yX6_worthOfWanted wsX6_worthOfWanted (RM 2) (PreX X [.ref (ad X 6)] T) (QQ X (some (.int r)) T') 0 0 (xA X) := by
  refine q_start (by decide) rfl (Nat.le_of_ble_eq_true rfl) ?_
  intro k hk C
  subst hk
  show GW k T 0 [(0, .ref (ad k.1 6))] []
  unfold fX6_worthOfWanted at h
  refine q_iconst (v := 0) C dX6_worthOfWanted_0 (by decide) ?_
  refine q_istore_n (lv' := [(0, .ref (ad k.1 6)), (1, .int (0 : Int32))]) C dX6_worthOfWanted_1 rfl (by decide) rfl ?_
  refine q_iconst (v := 0) C dX6_worthOfWanted_2 (by decide) ?_
  refine q_istore_n (lv' := [(0, .ref (ad k.1 6)), (1, .int (0 : Int32)), (2, .int (0 : Int32))]) C dX6_worthOfWanted_3 rfl (by decide) rfl ?_
  refine q_sub [0, 1, 2] rfl ?_
  refine lpX6_worthOfWanted_L4 C (fun e1_4 T_5 h => ?_) _ _ _ _ h
  refine q_iload_n C dX6_worthOfWanted_36 rfl 0 rfl ?_
  exact q_ireturn C dX6_worthOfWanted_37 h
def fX6_startOpen_L2 (n : Nat) (kk : TS → Option (TS)) : Nat → Int32 → TS → Option (TS)
  | 0, _, _ => none
  | fuel + 1, x1, T => if (gI T 55) ≤ x1 then kk T else bd (fX6_wanted n x1 T) (fun r_2 T_1 => ck x1 6 (nm (sA T_1 7 x1 r_2) (fun T_3 => fX6_startOpen_L2 n kk fuel (x1 + 1) T_3)))
set_option maxHeartbeats 4000000 in
set_option maxRecDepth 100000 in
theorem lpX6_startOpen_L2 {l : Launch} {k : KT} {n : Nat} {kk : TS → Option (TS)} {T' : TS} (C : CX l k 2 cX6_startOpen RX6 wsX6_startOpen 2 none (none, T')) (hk : ∀ T1, kk T1 = some T' → GW k T1 30 [] []) : ∀ (fuel : Nat) (x1 : Int32) (T : TS), fX6_startOpen_L2 n kk fuel x1 T = some T' → GW k T 2 [(0, .ref (ad k.1 6)), (1, .int x1)] [] := by
  intro fuel
  induction fuel with
  | zero => intro x1 T h; cases h
  | succ fuel ih =>
    intro x1 T h
    rw [fX6_startOpen_L2] at h
    refine q_iload_n C dX6_startOpen_2 rfl 1 rfl ?_
    refine q_aload_n C dX6_startOpen_3 rfl 0 rfl ?_
    refine q_get (j := 0) C dX6_startOpen_4 (wE_6 _ _) rfl (by decide) rfl inn_X6_startOpen_6 (by decide +kernel) rfl ?_
    refine q_get (j := 5) C dX6_startOpen_7 (wE_1 _ _) rfl (by decide) rfl inn_X6_startOpen_4 (by decide +kernel) rfl ?_
    refine q_icmp_ge (tgt := 30) C dX6_startOpen_10 (by decide) h (fun c h => ?_) (fun c h => ?_)
    · refine q_sub [] rfl ?_
      exact hk _ h
    · refine q_aload_n C dX6_startOpen_13 rfl 0 rfl ?_
      refine q_get (j := 1) C dX6_startOpen_14 (wE_6 _ _) rfl (by decide) rfl inn_X6_startOpen_6 (by decide +kernel) rfl ?_
      refine q_iload_n C dX6_startOpen_17 rfl 1 rfl ?_
      refine q_aload_n C dX6_startOpen_18 rfl 0 rfl ?_
      refine q_iload_n C dX6_startOpen_19 rfl 1 rfl ?_
      obtain ⟨r_2, T_1, hc, h⟩ := bd_some h
      refine q_callV (st' := [.int r_2, .int x1, .ref (ad k.1 7)]) C dX6_startOpen_20 [.int x1] [.int x1, .ref (ad k.1 7)] (mtX6_wanted l _ n _ _ _ _ hc) gX6_startOpen_X6_wanted rfl hd_X6_wanted (by decide) (by decide) (wE_6 _ _) rfl rfl rfl (Nat.le_of_ble_eq_true rfl) rfl ?_
      clear hc
      refine q_iast C dX6_startOpen_23 (wE_7 _ _) (wS_7 _ _) h (fun T_3 h => ?_)
      refine q_iinc (j := 1) (v := 1) (lv' := [(0, .ref (ad k.1 6)), (1, .int (x1 + 1))]) C dX6_startOpen_24 rfl (by decide) (by decide) rfl ?_
      refine q_goto (tgt := 2) C dX6_startOpen_27 (by decide) ?_
      refine q_sub [0, 1] rfl ?_
      exact ih _ _ h
def fX6_startOpen (n : Nat) (T : TS) : Option (TS) := fX6_startOpen_L2 n (fun T_4 => some T_4) n (0 : Int32) T
set_option maxHeartbeats 4000000 in
set_option maxRecDepth 100000 in
theorem mtX6_startOpen (l : Launch) (X : XT) (n : Nat) (T T' : TS) (h : fX6_startOpen n T = some T') : Met l yX6_startOpen wsX6_startOpen (RM 2) (PreX X [.ref (ad X 6)] T) (QQ X none T') 0 0 (xA X) := by
  refine q_start (by decide) rfl (Nat.le_of_ble_eq_true rfl) ?_
  intro k hk C
  subst hk
  show GW k T 0 [(0, .ref (ad k.1 6))] []
  unfold fX6_startOpen at h
  refine q_iconst (v := 0) C dX6_startOpen_0 (by decide) ?_
  refine q_istore_n (lv' := [(0, .ref (ad k.1 6)), (1, .int (0 : Int32))]) C dX6_startOpen_1 rfl (by decide) rfl ?_
  refine q_sub [0, 1] rfl ?_
  refine lpX6_startOpen_L2 C (fun T_4 h => ?_) _ _ _ h
  exact q_vreturn C dX6_startOpen_30 h
def fX6_isAnyOpen_L2 (n : Nat) (kk : TS → Option (Int32 × TS)) : Nat → Int32 → TS → Option (Int32 × TS)
  | 0, _, _ => none
  | fuel + 1, x1, T => if (gI T 55) ≤ x1 then kk T else ck x1 6 (if (gA T 7 (Int32.toNatClampNeg x1)) ≤ 0 then fX6_isAnyOpen_L2 n kk fuel (x1 + 1) T else rz (1 : Int32) T)
set_option maxHeartbeats 4000000 in
set_option maxRecDepth 100000 in
theorem lpX6_isAnyOpen_L2 {l : Launch} {k : KT} {n : Nat} {kk : TS → Option (Int32 × TS)} {r : Int32} {T' : TS} (C : CX l k 2 cX6_isAnyOpen RX6 wsX6_isAnyOpen 0 (some .boolean) (some (.int r), T')) (hk : ∀ T1, kk T1 = some (r, T') → GW k T1 30 [] []) : ∀ (fuel : Nat) (x1 : Int32) (T : TS), fX6_isAnyOpen_L2 n kk fuel x1 T = some (r, T') → GW k T 2 [(0, .ref (ad k.1 6)), (1, .int x1)] [] := by
  intro fuel
  induction fuel with
  | zero => intro x1 T h; cases h
  | succ fuel ih =>
    intro x1 T h
    rw [fX6_isAnyOpen_L2] at h
    refine q_iload_n C dX6_isAnyOpen_2 rfl 1 rfl ?_
    refine q_aload_n C dX6_isAnyOpen_3 rfl 0 rfl ?_
    refine q_get (j := 0) C dX6_isAnyOpen_4 (wE_6 _ _) rfl (by decide) rfl inn_X6_isAnyOpen_6 (by decide +kernel) rfl ?_
    refine q_get (j := 5) C dX6_isAnyOpen_7 (wE_1 _ _) rfl (by decide) rfl inn_X6_isAnyOpen_4 (by decide +kernel) rfl ?_
    refine q_icmp_ge (tgt := 30) C dX6_isAnyOpen_10 (by decide) h (fun c h => ?_) (fun c h => ?_)
    · refine q_sub [] rfl ?_
      exact hk _ h
    · refine q_aload_n C dX6_isAnyOpen_13 rfl 0 rfl ?_
      refine q_get (j := 1) C dX6_isAnyOpen_14 (wE_6 _ _) rfl (by decide) rfl inn_X6_isAnyOpen_6 (by decide +kernel) rfl ?_
      refine q_iload_n C dX6_isAnyOpen_17 rfl 1 rfl ?_
      refine q_iald C dX6_isAnyOpen_18 (wE_7 _ _) h (fun h => ?_)
      refine q_if_le (tgt := 24) C dX6_isAnyOpen_19 (by decide) h (fun c h => ?_) (fun c h => ?_)
      · refine q_iinc (j := 1) (v := 1) (lv' := [(0, .ref (ad k.1 6)), (1, .int (x1 + 1))]) C dX6_isAnyOpen_24 rfl (by decide) (by decide) rfl ?_
        refine q_goto (tgt := 2) C dX6_isAnyOpen_27 (by decide) ?_
        refine q_sub [0, 1] rfl ?_
        exact ih _ _ h
      · refine q_iconst (v := 1) C dX6_isAnyOpen_22 (by decide) ?_
        exact q_zreturn C dX6_isAnyOpen_23 h
def fX6_isAnyOpen (n : Nat) (T : TS) : Option (Int32 × TS) := fX6_isAnyOpen_L2 n (fun T_1 => rz (0 : Int32) T_1) n (0 : Int32) T
set_option maxHeartbeats 4000000 in
set_option maxRecDepth 100000 in
theorem mtX6_isAnyOpen (l : Launch) (X : XT) (n : Nat) (T T' : TS) (r : Int32) (h : fX6_isAnyOpen n T = some (r, T')) : Met l yX6_isAnyOpen wsX6_isAnyOpen (RM 0) (PreX X [.ref (ad X 6)] T) (QQ X (some (.int r)) T') 0 0 (xA X) := by
  refine q_start (by decide) rfl (Nat.le_of_ble_eq_true rfl) ?_
  intro k hk C
  subst hk
  show GW k T 0 [(0, .ref (ad k.1 6))] []
  unfold fX6_isAnyOpen at h
  refine q_iconst (v := 0) C dX6_isAnyOpen_0 (by decide) ?_
  refine q_istore_n (lv' := [(0, .ref (ad k.1 6)), (1, .int (0 : Int32))]) C dX6_isAnyOpen_1 rfl (by decide) rfl ?_
  refine q_sub [0, 1] rfl ?_
  refine lpX6_isAnyOpen_L2 C (fun T_1 h => ?_) _ _ _ h
  refine q_iconst (v := 0) C dX6_isAnyOpen_30 (by decide) ?_
  exact q_zreturn C dX6_isAnyOpen_31 h
def fX6_takeGreedily_L21 (n : Nat) (kk : Int32 → TS → Option (Int32 × TS)) : Nat → Int32 → Int32 → Int32 → Int32 → TS → Option (Int32 × TS)
  | 0, _, _, _, _, _ => none
  | fuel + 1, x1, x2, x3, x4, T => if (gI T 55) ≤ x4 then kk x1 T else ck x4 6 (nm (gA T 3 (Int32.toNatClampNeg x4)) (fun x5_4 => ck x5_4 6 (ck x5_4 6 (bd (fX10_quotient n x2 (gA T 2 (Int32.toNatClampNeg x5_4)) T) (fun r_6 T_5 => nm (imin (gA T 7 (Int32.toNatClampNeg x5_4)) (imin x3 r_6)) (fun x6_7 => ck x5_4 6 (ck x5_4 6 (nm (sA T_5 7 x5_4 ((gA T_5 7 (Int32.toNatClampNeg x5_4)) - x6_7)) (fun T_8 => ck x5_4 6 (nm (x2 - (x6_7 * (gA T_8 2 (Int32.toNatClampNeg x5_4)))) (fun x2_9 => nm (x3 - x6_7) (fun x3_10 => bd (fX0_packed n x5_4 x6_7 T_8) (fun r_12 T_11 => nm (x1 ||| r_12) (fun x1_13 => fX6_takeGreedily_L21 n kk fuel x1_13 x2_9 x3_10 (x4 + 1) T_11))))))))))))))
set_option maxHeartbeats 4000000 in
set_option maxRecDepth 100000 in
theorem lpX6_takeGreedily_L21 {l : Launch} {k : KT} {n : Nat} {kk : Int32 → TS → Option (Int32 × TS)} {r : Int32} {T' : TS} (C : CX l k 7 cX6_takeGreedily RX6 wsX6_takeGreedily 1 (some .int) (some (.int r), T')) (hk : ∀ e1 T1, kk e1 T1 = some (r, T') → GW k T1 124 [(1, .int e1)] []) : ∀ (fuel : Nat) (x1 : Int32) (x2 : Int32) (x3 : Int32) (x4 : Int32) (T : TS), fX6_takeGreedily_L21 n kk fuel x1 x2 x3 x4 T = some (r, T') → GW k T 21 [(0, .ref (ad k.1 6)), (1, .int x1), (2, .int x2), (3, .int x3), (4, .int x4)] [] := by
  intro fuel
  induction fuel with
  | zero => intro x1 x2 x3 x4 T h; cases h
  | succ fuel ih =>
    intro x1 x2 x3 x4 T h
    rw [fX6_takeGreedily_L21] at h
    refine q_iload C dX6_takeGreedily_21 4 rfl ?_
    refine q_aload_n C dX6_takeGreedily_23 rfl 0 rfl ?_
    refine q_get (j := 0) C dX6_takeGreedily_24 (wE_6 _ _) rfl (by decide) rfl inn_X6_takeGreedily_6 (by decide +kernel) rfl ?_
    refine q_get (j := 5) C dX6_takeGreedily_27 (wE_1 _ _) rfl (by decide) rfl inn_X6_takeGreedily_4 (by decide +kernel) rfl ?_
    refine q_icmp_ge (tgt := 124) C dX6_takeGreedily_30 (by decide) h (fun c h => ?_) (fun c h => ?_)
    · refine q_sub [1] rfl ?_
      exact hk _ _ h
    · refine q_aload_n C dX6_takeGreedily_33 rfl 0 rfl ?_
      refine q_get (j := 0) C dX6_takeGreedily_34 (wE_6 _ _) rfl (by decide) rfl inn_X6_takeGreedily_6 (by decide +kernel) rfl ?_
      refine q_get (j := 7) C dX6_takeGreedily_37 (wE_1 _ _) rfl (by decide) rfl inn_X6_takeGreedily_4 (by decide +kernel) rfl ?_
      refine q_iload C dX6_takeGreedily_40 4 rfl ?_
      refine q_iald C dX6_takeGreedily_42 (wE_3 _ _) h (fun h => ?_)
      refine q_nm h (fun x5_4 h => ?_)
      refine q_istore (lv' := [(0, .ref (ad k.1 6)), (1, .int x1), (2, .int x2), (3, .int x3), (4, .int x4), (5, .int x5_4)]) C dX6_takeGreedily_43 (by decide) rfl ?_
      refine q_aload_n C dX6_takeGreedily_45 rfl 0 rfl ?_
      refine q_get (j := 1) C dX6_takeGreedily_46 (wE_6 _ _) rfl (by decide) rfl inn_X6_takeGreedily_6 (by decide +kernel) rfl ?_
      refine q_iload C dX6_takeGreedily_49 5 rfl ?_
      refine q_iald C dX6_takeGreedily_51 (wE_7 _ _) h (fun h => ?_)
      refine q_iload_n C dX6_takeGreedily_52 rfl 3 rfl ?_
      refine q_iload_n C dX6_takeGreedily_53 rfl 2 rfl ?_
      refine q_aload_n C dX6_takeGreedily_54 rfl 0 rfl ?_
      refine q_get (j := 0) C dX6_takeGreedily_55 (wE_6 _ _) rfl (by decide) rfl inn_X6_takeGreedily_6 (by decide +kernel) rfl ?_
      refine q_get (j := 6) C dX6_takeGreedily_58 (wE_1 _ _) rfl (by decide) rfl inn_X6_takeGreedily_4 (by decide +kernel) rfl ?_
      refine q_iload C dX6_takeGreedily_61 5 rfl ?_
      refine q_iald C dX6_takeGreedily_63 (wE_2 _ _) h (fun h => ?_)
      obtain ⟨r_6, T_5, hc, h⟩ := bd_some h
      refine q_callSN (host := RX10) (st' := [.int r_6, .int x3, .int (gA T 7 (Int32.toNatClampNeg x5_4))]) C dX6_takeGreedily_64 [.int x2, .int (gA T 2 (Int32.toNatClampNeg x5_4))] [.int x3, .int (gA T 7 (Int32.toNatClampNeg x5_4))] (mtX10_quotient l _ n _ _ _ _ _ hc) gX6_takeGreedily_X10_quotient_n65 (by decide +kernel) (by decide +kernel) (by decide +kernel) rfl hd_X10_quotient (by decide) (by decide) rfl rfl (Nat.le_of_ble_eq_true rfl) rfl ?_
      clear hc
      refine q_mmin C dX6_takeGreedily_67 (by decide +kernel) (by decide +kernel) (by decide +kernel) (by decide +kernel) (by decide) (Nat.le_of_ble_eq_true rfl) ?_
      refine q_mmin C dX6_takeGreedily_70 (by decide +kernel) (by decide +kernel) (by decide +kernel) (by decide +kernel) (by decide) (Nat.le_of_ble_eq_true rfl) ?_
      refine q_nm h (fun x6_7 h => ?_)
      refine q_istore (lv' := [(0, .ref (ad k.1 6)), (1, .int x1), (2, .int x2), (3, .int x3), (4, .int x4), (5, .int x5_4), (6, .int x6_7)]) C dX6_takeGreedily_73 (by decide) rfl ?_
      refine q_aload_n C dX6_takeGreedily_75 rfl 0 rfl ?_
      refine q_get (j := 1) C dX6_takeGreedily_76 (wE_6 _ _) rfl (by decide) rfl inn_X6_takeGreedily_6 (by decide +kernel) rfl ?_
      refine q_iload C dX6_takeGreedily_79 5 rfl ?_
      refine q_dup2 C dX6_takeGreedily_81 rfl rfl ?_
      refine q_iald C dX6_takeGreedily_82 (wE_7 _ _) h (fun h => ?_)
      refine q_iload C dX6_takeGreedily_83 6 rfl ?_
      refine q_isub C dX6_takeGreedily_85 ?_
      refine q_iast C dX6_takeGreedily_86 (wE_7 _ _) (wS_7 _ _) h (fun T_8 h => ?_)
      refine q_iload_n C dX6_takeGreedily_87 rfl 2 rfl ?_
      refine q_iload C dX6_takeGreedily_88 6 rfl ?_
      refine q_aload_n C dX6_takeGreedily_90 rfl 0 rfl ?_
      refine q_get (j := 0) C dX6_takeGreedily_91 (wE_6 _ _) rfl (by decide) rfl inn_X6_takeGreedily_6 (by decide +kernel) rfl ?_
      refine q_get (j := 6) C dX6_takeGreedily_94 (wE_1 _ _) rfl (by decide) rfl inn_X6_takeGreedily_4 (by decide +kernel) rfl ?_
      refine q_iload C dX6_takeGreedily_97 5 rfl ?_
      refine q_iald C dX6_takeGreedily_99 (wE_2 _ _) h (fun h => ?_)
      refine q_imul C dX6_takeGreedily_100 ?_
      refine q_isub C dX6_takeGreedily_101 ?_
      refine q_nm h (fun x2_9 h => ?_)
      refine q_istore_n (lv' := [(0, .ref (ad k.1 6)), (1, .int x1), (2, .int x2_9), (3, .int x3), (4, .int x4), (5, .int x5_4), (6, .int x6_7)]) C dX6_takeGreedily_102 rfl (by decide) rfl ?_
      refine q_iload_n C dX6_takeGreedily_103 rfl 3 rfl ?_
      refine q_iload C dX6_takeGreedily_104 6 rfl ?_
      refine q_isub C dX6_takeGreedily_106 ?_
      refine q_nm h (fun x3_10 h => ?_)
      refine q_istore_n (lv' := [(0, .ref (ad k.1 6)), (1, .int x1), (2, .int x2_9), (3, .int x3_10), (4, .int x4), (5, .int x5_4), (6, .int x6_7)]) C dX6_takeGreedily_107 rfl (by decide) rfl ?_
      refine q_iload_n C dX6_takeGreedily_108 rfl 1 rfl ?_
      refine q_iload C dX6_takeGreedily_109 5 rfl ?_
      refine q_iload C dX6_takeGreedily_111 6 rfl ?_
      obtain ⟨r_12, T_11, hc, h⟩ := bd_some h
      refine q_callS (st' := [.int r_12, .int x1]) C dX6_takeGreedily_113 [.int x5_4, .int x6_7] [.int x1] (mtX0_packed l _ n _ _ _ _ _ hc) gX6_takeGreedily_X0_packed rfl hd_X0_packed (by decide) (by decide) rfl rfl (Nat.le_of_ble_eq_true rfl) rfl ?_
      clear hc
      refine q_ior C dX6_takeGreedily_116 ?_
      refine q_nm h (fun x1_13 h => ?_)
      refine q_istore_n (lv' := [(0, .ref (ad k.1 6)), (1, .int x1_13), (2, .int x2_9), (3, .int x3_10), (4, .int x4), (5, .int x5_4), (6, .int x6_7)]) C dX6_takeGreedily_117 rfl (by decide) rfl ?_
      refine q_iinc (j := 4) (v := 1) (lv' := [(0, .ref (ad k.1 6)), (1, .int x1_13), (2, .int x2_9), (3, .int x3_10), (4, .int (x4 + 1)), (5, .int x5_4), (6, .int x6_7)]) C dX6_takeGreedily_118 rfl (by decide) (by decide) rfl ?_
      refine q_goto (tgt := 21) C dX6_takeGreedily_121 (by decide) ?_
      refine q_sub [0, 1, 2, 3, 4] rfl ?_
      exact ih _ _ _ _ _ h
def fX6_takeGreedily (n : Nat) (T : TS) : Option (Int32 × TS) := bd (fX4_room n T) (fun r_2 T_1 => nm (gI T_1 52) (fun x3_3 => fX6_takeGreedily_L21 n (fun e1_14 T_15 => some (e1_14, T_15)) n (0 : Int32) r_2 x3_3 (0 : Int32) T_1))
set_option maxHeartbeats 4000000 in
set_option maxRecDepth 100000 in
theorem mtX6_takeGreedily (l : Launch) (X : XT) (n : Nat) (T T' : TS) (r : Int32) (h : fX6_takeGreedily n T = some (r, T')) : Met l yX6_takeGreedily wsX6_takeGreedily (RM 1) (PreX X [.ref (ad X 6)] T) (QQ X (some (.int r)) T') 0 0 (xA X) := by
  refine q_start (by decide) rfl (Nat.le_of_ble_eq_true rfl) ?_
  intro k hk C
  subst hk
  show GW k T 0 [(0, .ref (ad k.1 6))] []
  unfold fX6_takeGreedily at h
  refine q_iconst (v := 0) C dX6_takeGreedily_0 (by decide) ?_
  refine q_istore_n (lv' := [(0, .ref (ad k.1 6)), (1, .int (0 : Int32))]) C dX6_takeGreedily_1 rfl (by decide) rfl ?_
  refine q_aload_n C dX6_takeGreedily_2 rfl 0 rfl ?_
  refine q_get (j := 0) C dX6_takeGreedily_3 (wE_6 _ _) rfl (by decide) rfl inn_X6_takeGreedily_6 (by decide +kernel) rfl ?_
  obtain ⟨r_2, T_1, hc, h⟩ := bd_some h
  refine q_callV (st' := [.int r_2]) C dX6_takeGreedily_6 [] [] (mtX4_room l _ n _ _ _ hc) gX6_takeGreedily_X4_room rfl hd_X4_room (by decide) (by decide) (wE_1 _ _) rfl rfl rfl (Nat.le_of_ble_eq_true rfl) rfl ?_
  clear hc
  refine q_istore_n (lv' := [(0, .ref (ad k.1 6)), (1, .int (0 : Int32)), (2, .int r_2)]) C dX6_takeGreedily_9 rfl (by decide) rfl ?_
  refine q_aload_n C dX6_takeGreedily_10 rfl 0 rfl ?_
  refine q_get (j := 0) C dX6_takeGreedily_11 (wE_6 _ _) rfl (by decide) rfl inn_X6_takeGreedily_6 (by decide +kernel) rfl ?_
  refine q_get (j := 2) C dX6_takeGreedily_14 (wE_1 _ _) rfl (by decide) rfl inn_X6_takeGreedily_4 (by decide +kernel) rfl ?_
  refine q_nm h (fun x3_3 h => ?_)
  refine q_istore_n (lv' := [(0, .ref (ad k.1 6)), (1, .int (0 : Int32)), (2, .int r_2), (3, .int x3_3)]) C dX6_takeGreedily_17 rfl (by decide) rfl ?_
  refine q_iconst (v := 0) C dX6_takeGreedily_18 (by decide) ?_
  refine q_istore (lv' := [(0, .ref (ad k.1 6)), (1, .int (0 : Int32)), (2, .int r_2), (3, .int x3_3), (4, .int (0 : Int32))]) C dX6_takeGreedily_19 (by decide) rfl ?_
  refine q_sub [0, 1, 2, 3, 4] rfl ?_
  refine lpX6_takeGreedily_L21 C (fun e1_14 T_15 h => ?_) _ _ _ _ _ _ h
  refine q_iload_n C dX6_takeGreedily_124 rfl 0 rfl ?_
  exact q_ireturn C dX6_takeGreedily_125 h
def fX8_isSlot_11 (n : Nat) (p0 : Int32) (T : TS) : Option (Int32 × TS) := if p0 < 0 then rz (0 : Int32) T else if (gI T 550) ≤ p0 then rz (0 : Int32) T else rz (1 : Int32) T
set_option maxHeartbeats 4000000 in
set_option maxRecDepth 100000 in
theorem mtX8_isSlot_11 (l : Launch) (X : XT) (n : Nat) (p0 : Int32) (T T' : TS) (r : Int32) (h : fX8_isSlot_11 n p0 T = some (r, T')) : Met l yX8_isSlot wsX8_isSlot (RM 0) (PreX X [.ref (ad X 11), .int p0] T) (QQ X (some (.int r)) T') 0 0 (xA X) := by
  refine q_start (by decide) rfl (Nat.le_of_ble_eq_true rfl) ?_
  intro k hk C
  subst hk
  show GW k T 0 [(0, .ref (ad k.1 11)), (1, .int p0)] []
  unfold fX8_isSlot_11 at h
  refine q_iload_n C dX8_isSlot_0 rfl 1 rfl ?_
  refine q_if_lt (tgt := 16) C dX8_isSlot_1 (by decide) h (fun c h => ?_) (fun c h => ?_)
  · refine q_iconst (v := 0) C dX8_isSlot_16 (by decide) ?_
    exact q_zreturn C dX8_isSlot_17 h
  · refine q_iload_n C dX8_isSlot_4 rfl 1 rfl ?_
    refine q_aload_n C dX8_isSlot_5 rfl 0 rfl ?_
    refine q_get (j := 0) C dX8_isSlot_6 (wE_11 _ _) rfl (by decide) rfl inn_X8_isSlot_8 (by decide +kernel) rfl ?_
    refine q_icmp_ge (tgt := 16) C dX8_isSlot_9 (by decide) h (fun c h => ?_) (fun c h => ?_)
    · refine q_iconst (v := 0) C dX8_isSlot_16 (by decide) ?_
      exact q_zreturn C dX8_isSlot_17 h
    · refine q_iconst (v := 1) C dX8_isSlot_12 (by decide) ?_
      refine q_goto (tgt := 17) C dX8_isSlot_13 (by decide) ?_
      exact q_zreturn C dX8_isSlot_17 h
def fX8_isFull_11 (n : Nat) (T : TS) : Option (Int32 × TS) := if (gI T 550) < (60 : Int32) then rz (0 : Int32) T else rz (1 : Int32) T
set_option maxHeartbeats 4000000 in
set_option maxRecDepth 100000 in
theorem mtX8_isFull_11 (l : Launch) (X : XT) (n : Nat) (T T' : TS) (r : Int32) (h : fX8_isFull_11 n T = some (r, T')) : Met l yX8_isFull wsX8_isFull (RM 0) (PreX X [.ref (ad X 11)] T) (QQ X (some (.int r)) T') 0 0 (xA X) := by
  refine q_start (by decide) rfl (Nat.le_of_ble_eq_true rfl) ?_
  intro k hk C
  subst hk
  show GW k T 0 [(0, .ref (ad k.1 11))] []
  unfold fX8_isFull_11 at h
  refine q_aload_n C dX8_isFull_0 rfl 0 rfl ?_
  refine q_get (j := 0) C dX8_isFull_1 (wE_11 _ _) rfl (by decide) rfl inn_X8_isFull_8 (by decide +kernel) rfl ?_
  refine q_bipush (v := 60) C dX8_isFull_4 (by decide) ?_
  refine q_icmp_lt (tgt := 13) C dX8_isFull_6 (by decide) h (fun c h => ?_) (fun c h => ?_)
  · refine q_iconst (v := 0) C dX8_isFull_13 (by decide) ?_
    exact q_zreturn C dX8_isFull_14 h
  · refine q_iconst (v := 1) C dX8_isFull_9 (by decide) ?_
    refine q_goto (tgt := 14) C dX8_isFull_10 (by decide) ?_
    exact q_zreturn C dX8_isFull_14 h
def fX8_clear_11 (n : Nat) (T : TS) : Option (TS) := nm (uI T 550 (0 : Int32)) (fun T_1 => some T_1)
set_option maxHeartbeats 4000000 in
set_option maxRecDepth 100000 in
theorem mtX8_clear_11 (l : Launch) (X : XT) (n : Nat) (T T' : TS) (h : fX8_clear_11 n T = some T') : Met l yX8_clear wsX8_clear (RM 0) (PreX X [.ref (ad X 11)] T) (QQ X none T') 0 0 (xA X) := by
  refine q_start (by decide) rfl (Nat.le_of_ble_eq_true rfl) ?_
  intro k hk C
  subst hk
  show GW k T 0 [(0, .ref (ad k.1 11))] []
  unfold fX8_clear_11 at h
  refine q_aload_n C dX8_clear_0 rfl 0 rfl ?_
  refine q_iconst (v := 0) C dX8_clear_1 (by decide) ?_
  refine q_putI (j := 0) (ty := .int) C dX8_clear_2 (wE_11 _ _) (wP_11_0 _ _ _) rfl (by decide) (Nat.le_of_ble_eq_true rfl) tyX8 tyX8_ok nmX8 inn_X8_clear_8 (by decide +kernel) rfl rfl (by decide +kernel) rfl rfl h (fun T_1 h => ?_)
  exact q_vreturn C dX8_clear_5 h
def fX8_add_11 (n : Nat) (p0 : Int32) (p1 : Int32) (T : TS) : Option (TS) := bd (fX8_isFull_11 n T) (fun r_2 T_1 => if ¬ r_2 = 0 then some T_1 else ck (gI T_1 550) 60 (nm (sA T_1 12 (gI T_1 550) p0) (fun T_3 => ck (gI T_3 550) 60 (nm (sA T_3 13 (gI T_3 550) p1) (fun T_4 => nm (uI T_4 550 ((gI T_4 550) + (1 : Int32))) (fun T_5 => some T_5))))))
set_option maxHeartbeats 4000000 in
set_option maxRecDepth 100000 in
theorem mtX8_add_11 (l : Launch) (X : XT) (n : Nat) (p0 : Int32) (p1 : Int32) (T T' : TS) (h : fX8_add_11 n p0 p1 T = some T') : Met l yX8_add wsX8_add (RM 1) (PreX X [.ref (ad X 11), .int p0, .int p1] T) (QQ X none T') 0 0 (xA X) := by
  refine q_start (by decide) rfl (Nat.le_of_ble_eq_true rfl) ?_
  intro k hk C
  subst hk
  show GW k T 0 [(0, .ref (ad k.1 11)), (1, .int p0), (2, .int p1)] []
  unfold fX8_add_11 at h
  refine q_aload_n C dX8_add_0 rfl 0 rfl ?_
  obtain ⟨r_2, T_1, hc, h⟩ := bd_some h
  refine q_callV (st' := [.int r_2]) C dX8_add_1 [] [] (mtX8_isFull_11 l _ n _ _ _ hc) gX8_add_X8_isFull rfl hd_X8_isFull (by decide) (by decide) (wE_11 _ _) rfl rfl rfl (Nat.le_of_ble_eq_true rfl) rfl ?_
  clear hc
  refine q_if_ne (tgt := 37) C dX8_add_4 (by decide) h (fun c h => ?_) (fun c h => ?_)
  · exact q_vreturn C dX8_add_37 h
  · refine q_aload_n C dX8_add_7 rfl 0 rfl ?_
    refine q_get (j := 1) C dX8_add_8 (wE_11 _ _) rfl (by decide) rfl inn_X8_add_8 (by decide +kernel) rfl ?_
    refine q_aload_n C dX8_add_11 rfl 0 rfl ?_
    refine q_get (j := 0) C dX8_add_12 (wE_11 _ _) rfl (by decide) rfl inn_X8_add_8 (by decide +kernel) rfl ?_
    refine q_iload_n C dX8_add_15 rfl 1 rfl ?_
    refine q_iast C dX8_add_16 (wE_12 _ _) (wS_12 _ _) h (fun T_3 h => ?_)
    refine q_aload_n C dX8_add_17 rfl 0 rfl ?_
    refine q_get (j := 2) C dX8_add_18 (wE_11 _ _) rfl (by decide) rfl inn_X8_add_8 (by decide +kernel) rfl ?_
    refine q_aload_n C dX8_add_21 rfl 0 rfl ?_
    refine q_get (j := 0) C dX8_add_22 (wE_11 _ _) rfl (by decide) rfl inn_X8_add_8 (by decide +kernel) rfl ?_
    refine q_iload_n C dX8_add_25 rfl 2 rfl ?_
    refine q_iast C dX8_add_26 (wE_13 _ _) (wS_13 _ _) h (fun T_4 h => ?_)
    refine q_aload_n C dX8_add_27 rfl 0 rfl ?_
    refine q_dup C dX8_add_28 rfl ?_
    refine q_get (j := 0) C dX8_add_29 (wE_11 _ _) rfl (by decide) rfl inn_X8_add_8 (by decide +kernel) rfl ?_
    refine q_iconst (v := 1) C dX8_add_32 (by decide) ?_
    refine q_iadd C dX8_add_33 ?_
    refine q_putI (j := 0) (ty := .int) C dX8_add_34 (wE_11 _ _) (wP_11_0 _ _ _) rfl (by decide) (Nat.le_of_ble_eq_true rfl) tyX8 tyX8_ok nmX8 inn_X8_add_8 (by decide +kernel) rfl rfl (by decide +kernel) rfl rfl h (fun T_5 h => ?_)
    exact q_vreturn C dX8_add_37 h
def fX8_remove_11_L4 (n : Nat) (kk : TS → Option (TS)) : Nat → Int32 → TS → Option (TS)
  | 0, _, _ => none
  | fuel + 1, x2, T => if (gI T 550) ≤ x2 then kk T else ck x2 60 (ck (x2 - (1 : Int32)) 60 (nm (sA T 12 (x2 - (1 : Int32)) (gA T 12 (Int32.toNatClampNeg x2))) (fun T_2 => ck x2 60 (ck (x2 - (1 : Int32)) 60 (nm (sA T_2 13 (x2 - (1 : Int32)) (gA T_2 13 (Int32.toNatClampNeg x2))) (fun T_3 => fX8_remove_11_L4 n kk fuel (x2 + 1) T_3))))))
set_option maxHeartbeats 4000000 in
set_option maxRecDepth 100000 in
theorem lpX8_remove_11_L4 {l : Launch} {k : KT} {n : Nat} {kk : TS → Option (TS)} {T' : TS} (C : CX l k 3 cX8_remove RX8 wsX8_remove 0 none (none, T')) (hk : ∀ T1, kk T1 = some T' → GW k T1 46 [(0, .ref (ad k.1 11))] []) : ∀ (fuel : Nat) (x2 : Int32) (T : TS), fX8_remove_11_L4 n kk fuel x2 T = some T' → GW k T 4 [(0, .ref (ad k.1 11)), (2, .int x2)] [] := by
  intro fuel
  induction fuel with
  | zero => intro x2 T h; cases h
  | succ fuel ih =>
    intro x2 T h
    rw [fX8_remove_11_L4] at h
    refine q_iload_n C dX8_remove_4 rfl 1 rfl ?_
    refine q_aload_n C dX8_remove_5 rfl 0 rfl ?_
    refine q_get (j := 0) C dX8_remove_6 (wE_11 _ _) rfl (by decide) rfl inn_X8_remove_8 (by decide +kernel) rfl ?_
    refine q_icmp_ge (tgt := 46) C dX8_remove_9 (by decide) h (fun c h => ?_) (fun c h => ?_)
    · refine q_sub [0] rfl ?_
      exact hk _ h
    · refine q_aload_n C dX8_remove_12 rfl 0 rfl ?_
      refine q_get (j := 1) C dX8_remove_13 (wE_11 _ _) rfl (by decide) rfl inn_X8_remove_8 (by decide +kernel) rfl ?_
      refine q_iload_n C dX8_remove_16 rfl 1 rfl ?_
      refine q_iconst (v := 1) C dX8_remove_17 (by decide) ?_
      refine q_isub C dX8_remove_18 ?_
      refine q_aload_n C dX8_remove_19 rfl 0 rfl ?_
      refine q_get (j := 1) C dX8_remove_20 (wE_11 _ _) rfl (by decide) rfl inn_X8_remove_8 (by decide +kernel) rfl ?_
      refine q_iload_n C dX8_remove_23 rfl 1 rfl ?_
      refine q_iald C dX8_remove_24 (wE_12 _ _) h (fun h => ?_)
      refine q_iast C dX8_remove_25 (wE_12 _ _) (wS_12 _ _) h (fun T_2 h => ?_)
      refine q_aload_n C dX8_remove_26 rfl 0 rfl ?_
      refine q_get (j := 2) C dX8_remove_27 (wE_11 _ _) rfl (by decide) rfl inn_X8_remove_8 (by decide +kernel) rfl ?_
      refine q_iload_n C dX8_remove_30 rfl 1 rfl ?_
      refine q_iconst (v := 1) C dX8_remove_31 (by decide) ?_
      refine q_isub C dX8_remove_32 ?_
      refine q_aload_n C dX8_remove_33 rfl 0 rfl ?_
      refine q_get (j := 2) C dX8_remove_34 (wE_11 _ _) rfl (by decide) rfl inn_X8_remove_8 (by decide +kernel) rfl ?_
      refine q_iload_n C dX8_remove_37 rfl 1 rfl ?_
      refine q_iald C dX8_remove_38 (wE_13 _ _) h (fun h => ?_)
      refine q_iast C dX8_remove_39 (wE_13 _ _) (wS_13 _ _) h (fun T_3 h => ?_)
      refine q_iinc (j := 1) (v := 1) (lv' := [(0, .ref (ad k.1 11)), (2, .int (x2 + 1))]) C dX8_remove_40 rfl (by decide) (by decide) rfl ?_
      refine q_goto (tgt := 4) C dX8_remove_43 (by decide) ?_
      refine q_sub [0, 1] rfl ?_
      exact ih _ _ h
def fX8_remove_11 (n : Nat) (p0 : Int32) (T : TS) : Option (TS) := nm (p0 + (1 : Int32)) (fun x2_1 => fX8_remove_11_L4 n (fun T_4 => nm (uI T_4 550 ((gI T_4 550) - (1 : Int32))) (fun T_5 => some T_5)) n x2_1 T)
set_option maxHeartbeats 4000000 in
set_option maxRecDepth 100000 in
theorem mtX8_remove_11 (l : Launch) (X : XT) (n : Nat) (p0 : Int32) (T T' : TS) (h : fX8_remove_11 n p0 T = some T') : Met l yX8_remove wsX8_remove (RM 0) (PreX X [.ref (ad X 11), .int p0] T) (QQ X none T') 0 0 (xA X) := by
  refine q_start (by decide) rfl (Nat.le_of_ble_eq_true rfl) ?_
  intro k hk C
  subst hk
  show GW k T 0 [(0, .ref (ad k.1 11)), (1, .int p0)] []
  unfold fX8_remove_11 at h
  refine q_iload_n C dX8_remove_0 rfl 1 rfl ?_
  refine q_iconst (v := 1) C dX8_remove_1 (by decide) ?_
  refine q_iadd C dX8_remove_2 ?_
  refine q_nm h (fun x2_1 h => ?_)
  refine q_istore_n (lv' := [(0, .ref (ad k.1 11)), (1, .int p0), (2, .int x2_1)]) C dX8_remove_3 rfl (by decide) rfl ?_
  refine q_sub [0, 2] rfl ?_
  refine lpX8_remove_11_L4 C (fun T_4 h => ?_) _ _ _ h
  refine q_aload_n C dX8_remove_46 rfl 0 rfl ?_
  refine q_dup C dX8_remove_47 rfl ?_
  refine q_get (j := 0) C dX8_remove_48 (wE_11 _ _) rfl (by decide) rfl inn_X8_remove_8 (by decide +kernel) rfl ?_
  refine q_iconst (v := 1) C dX8_remove_51 (by decide) ?_
  refine q_isub C dX8_remove_52 ?_
  refine q_putI (j := 0) (ty := .int) C dX8_remove_53 (wE_11 _ _) (wP_11_0 _ _ _) rfl (by decide) (Nat.le_of_ble_eq_true rfl) tyX8 tyX8_ok nmX8 inn_X8_remove_8 (by decide +kernel) rfl rfl (by decide +kernel) rfl rfl h (fun T_5 h => ?_)
  exact q_vreturn C dX8_remove_56 h
def fX8_takeRoll_11 (n : Nat) (p0 : Int32) (T : TS) : Option (TS) := ck p0 60 (ck p0 60 (nm (sA T 13 p0 ((gA T 13 (Int32.toNatClampNeg p0)) - (1 : Int32))) (fun T_1 => ck p0 60 (if (1 : Int32) ≤ (gA T_1 13 (Int32.toNatClampNeg p0)) then some T_1 else bv (fX8_remove_11 n p0 T_1) (fun T_2 => some T_2)))))
set_option maxHeartbeats 4000000 in
set_option maxRecDepth 100000 in
theorem mtX8_takeRoll_11 (l : Launch) (X : XT) (n : Nat) (p0 : Int32) (T T' : TS) (h : fX8_takeRoll_11 n p0 T = some T') : Met l yX8_takeRoll wsX8_takeRoll (RM 1) (PreX X [.ref (ad X 11), .int p0] T) (QQ X none T') 0 0 (xA X) := by
  refine q_start (by decide) rfl (Nat.le_of_ble_eq_true rfl) ?_
  intro k hk C
  subst hk
  show GW k T 0 [(0, .ref (ad k.1 11)), (1, .int p0)] []
  unfold fX8_takeRoll_11 at h
  refine q_aload_n C dX8_takeRoll_0 rfl 0 rfl ?_
  refine q_get (j := 2) C dX8_takeRoll_1 (wE_11 _ _) rfl (by decide) rfl inn_X8_takeRoll_8 (by decide +kernel) rfl ?_
  refine q_iload_n C dX8_takeRoll_4 rfl 1 rfl ?_
  refine q_dup2 C dX8_takeRoll_5 rfl rfl ?_
  refine q_iald C dX8_takeRoll_6 (wE_13 _ _) h (fun h => ?_)
  refine q_iconst (v := 1) C dX8_takeRoll_7 (by decide) ?_
  refine q_isub C dX8_takeRoll_8 ?_
  refine q_iast C dX8_takeRoll_9 (wE_13 _ _) (wS_13 _ _) h (fun T_1 h => ?_)
  refine q_aload_n C dX8_takeRoll_10 rfl 0 rfl ?_
  refine q_get (j := 2) C dX8_takeRoll_11 (wE_11 _ _) rfl (by decide) rfl inn_X8_takeRoll_8 (by decide +kernel) rfl ?_
  refine q_iload_n C dX8_takeRoll_14 rfl 1 rfl ?_
  refine q_iald C dX8_takeRoll_15 (wE_13 _ _) h (fun h => ?_)
  refine q_iconst (v := 1) C dX8_takeRoll_16 (by decide) ?_
  refine q_icmp_ge (tgt := 25) C dX8_takeRoll_17 (by decide) h (fun c h => ?_) (fun c h => ?_)
  · exact q_vreturn C dX8_takeRoll_25 h
  · refine q_aload_n C dX8_takeRoll_20 rfl 0 rfl ?_
    refine q_iload_n C dX8_takeRoll_21 rfl 1 rfl ?_
    obtain ⟨T_2, hc, h⟩ := bv_some h
    refine q_callV (st' := []) C dX8_takeRoll_22 [.int p0] [] (mtX8_remove_11 l _ n _ _ _ hc) gX8_takeRoll_X8_remove rfl hd_X8_remove (by decide) (by decide) (wE_11 _ _) rfl rfl rfl (Nat.le_of_ble_eq_true rfl) rfl ?_
    clear hc
    exact q_vreturn C dX8_takeRoll_25 h
def fX8_copyFrom_11_17_L10 (n : Nat) (kk : TS → Option (TS)) : Nat → Int32 → TS → Option (TS)
  | 0, _, _ => none
  | fuel + 1, x2, T => if (gI T 550) ≤ x2 then kk T else ck x2 60 (ck x2 60 (nm (sA T 12 x2 (gA T 18 (Int32.toNatClampNeg x2))) (fun T_2 => ck x2 60 (ck x2 60 (nm (sA T_2 13 x2 (gA T_2 19 (Int32.toNatClampNeg x2))) (fun T_3 => fX8_copyFrom_11_17_L10 n kk fuel (x2 + 1) T_3))))))
set_option maxHeartbeats 4000000 in
set_option maxRecDepth 100000 in
theorem lpX8_copyFrom_11_17_L10 {l : Launch} {k : KT} {n : Nat} {kk : TS → Option (TS)} {T' : TS} (C : CX l k 3 cX8_copyFrom RX8 wsX8_copyFrom 0 none (none, T')) (hk : ∀ T1, kk T1 = some T' → GW k T1 48 [] []) : ∀ (fuel : Nat) (x2 : Int32) (T : TS), fX8_copyFrom_11_17_L10 n kk fuel x2 T = some T' → GW k T 10 [(0, .ref (ad k.1 11)), (1, .ref (ad k.1 17)), (2, .int x2)] [] := by
  intro fuel
  induction fuel with
  | zero => intro x2 T h; cases h
  | succ fuel ih =>
    intro x2 T h
    rw [fX8_copyFrom_11_17_L10] at h
    refine q_iload_n C dX8_copyFrom_10 rfl 2 rfl ?_
    refine q_aload_n C dX8_copyFrom_11 rfl 0 rfl ?_
    refine q_get (j := 0) C dX8_copyFrom_12 (wE_11 _ _) rfl (by decide) rfl inn_X8_copyFrom_8 (by decide +kernel) rfl ?_
    refine q_icmp_ge (tgt := 48) C dX8_copyFrom_15 (by decide) h (fun c h => ?_) (fun c h => ?_)
    · refine q_sub [] rfl ?_
      exact hk _ h
    · refine q_aload_n C dX8_copyFrom_18 rfl 0 rfl ?_
      refine q_get (j := 1) C dX8_copyFrom_19 (wE_11 _ _) rfl (by decide) rfl inn_X8_copyFrom_8 (by decide +kernel) rfl ?_
      refine q_iload_n C dX8_copyFrom_22 rfl 2 rfl ?_
      refine q_aload_n C dX8_copyFrom_23 rfl 1 rfl ?_
      refine q_get (j := 1) C dX8_copyFrom_24 (wE_17 _ _) rfl (by decide) rfl inn_X8_copyFrom_8 (by decide +kernel) rfl ?_
      refine q_iload_n C dX8_copyFrom_27 rfl 2 rfl ?_
      refine q_iald C dX8_copyFrom_28 (wE_18 _ _) h (fun h => ?_)
      refine q_iast C dX8_copyFrom_29 (wE_12 _ _) (wS_12 _ _) h (fun T_2 h => ?_)
      refine q_aload_n C dX8_copyFrom_30 rfl 0 rfl ?_
      refine q_get (j := 2) C dX8_copyFrom_31 (wE_11 _ _) rfl (by decide) rfl inn_X8_copyFrom_8 (by decide +kernel) rfl ?_
      refine q_iload_n C dX8_copyFrom_34 rfl 2 rfl ?_
      refine q_aload_n C dX8_copyFrom_35 rfl 1 rfl ?_
      refine q_get (j := 2) C dX8_copyFrom_36 (wE_17 _ _) rfl (by decide) rfl inn_X8_copyFrom_8 (by decide +kernel) rfl ?_
      refine q_iload_n C dX8_copyFrom_39 rfl 2 rfl ?_
      refine q_iald C dX8_copyFrom_40 (wE_19 _ _) h (fun h => ?_)
      refine q_iast C dX8_copyFrom_41 (wE_13 _ _) (wS_13 _ _) h (fun T_3 h => ?_)
      refine q_iinc (j := 2) (v := 1) (lv' := [(0, .ref (ad k.1 11)), (1, .ref (ad k.1 17)), (2, .int (x2 + 1))]) C dX8_copyFrom_42 rfl (by decide) (by decide) rfl ?_
      refine q_goto (tgt := 10) C dX8_copyFrom_45 (by decide) ?_
      refine q_sub [0, 1, 2] rfl ?_
      exact ih _ _ h
def fX8_copyFrom_11_17 (n : Nat) (T : TS) : Option (TS) := nm (uI T 550 (gI T 850)) (fun T_1 => fX8_copyFrom_11_17_L10 n (fun T_4 => some T_4) n (0 : Int32) T_1)
set_option maxHeartbeats 4000000 in
set_option maxRecDepth 100000 in
theorem mtX8_copyFrom_11_17 (l : Launch) (X : XT) (n : Nat) (T T' : TS) (h : fX8_copyFrom_11_17 n T = some T') : Met l yX8_copyFrom wsX8_copyFrom (RM 0) (PreX X [.ref (ad X 11), .ref (ad X 17)] T) (QQ X none T') 0 0 (xA X) := by
  refine q_start (by decide) rfl (Nat.le_of_ble_eq_true rfl) ?_
  intro k hk C
  subst hk
  show GW k T 0 [(0, .ref (ad k.1 11)), (1, .ref (ad k.1 17))] []
  unfold fX8_copyFrom_11_17 at h
  refine q_aload_n C dX8_copyFrom_0 rfl 0 rfl ?_
  refine q_aload_n C dX8_copyFrom_1 rfl 1 rfl ?_
  refine q_get (j := 0) C dX8_copyFrom_2 (wE_17 _ _) rfl (by decide) rfl inn_X8_copyFrom_8 (by decide +kernel) rfl ?_
  refine q_putI (j := 0) (ty := .int) C dX8_copyFrom_5 (wE_11 _ _) (wP_11_0 _ _ _) rfl (by decide) (Nat.le_of_ble_eq_true rfl) tyX8 tyX8_ok nmX8 inn_X8_copyFrom_8 (by decide +kernel) rfl rfl (by decide +kernel) rfl rfl h (fun T_1 h => ?_)
  refine q_iconst (v := 0) C dX8_copyFrom_8 (by decide) ?_
  refine q_istore_n (lv' := [(0, .ref (ad k.1 11)), (1, .ref (ad k.1 17)), (2, .int (0 : Int32))]) C dX8_copyFrom_9 rfl (by decide) rfl ?_
  refine q_sub [0, 1, 2] rfl ?_
  refine lpX8_copyFrom_11_17_L10 C (fun T_4 h => ?_) _ _ _ h
  exact q_vreturn C dX8_copyFrom_48 h
def fX8_copyFrom_11_14_L10 (n : Nat) (kk : TS → Option (TS)) : Nat → Int32 → TS → Option (TS)
  | 0, _, _ => none
  | fuel + 1, x2, T => if (gI T 550) ≤ x2 then kk T else ck x2 60 (ck x2 60 (nm (sA T 12 x2 (gA T 15 (Int32.toNatClampNeg x2))) (fun T_2 => ck x2 60 (ck x2 60 (nm (sA T_2 13 x2 (gA T_2 16 (Int32.toNatClampNeg x2))) (fun T_3 => fX8_copyFrom_11_14_L10 n kk fuel (x2 + 1) T_3))))))
set_option maxHeartbeats 4000000 in
set_option maxRecDepth 100000 in
theorem lpX8_copyFrom_11_14_L10 {l : Launch} {k : KT} {n : Nat} {kk : TS → Option (TS)} {T' : TS} (C : CX l k 3 cX8_copyFrom RX8 wsX8_copyFrom 0 none (none, T')) (hk : ∀ T1, kk T1 = some T' → GW k T1 48 [] []) : ∀ (fuel : Nat) (x2 : Int32) (T : TS), fX8_copyFrom_11_14_L10 n kk fuel x2 T = some T' → GW k T 10 [(0, .ref (ad k.1 11)), (1, .ref (ad k.1 14)), (2, .int x2)] [] := by
  intro fuel
  induction fuel with
  | zero => intro x2 T h; cases h
  | succ fuel ih =>
    intro x2 T h
    rw [fX8_copyFrom_11_14_L10] at h
    refine q_iload_n C dX8_copyFrom_10 rfl 2 rfl ?_
    refine q_aload_n C dX8_copyFrom_11 rfl 0 rfl ?_
    refine q_get (j := 0) C dX8_copyFrom_12 (wE_11 _ _) rfl (by decide) rfl inn_X8_copyFrom_8 (by decide +kernel) rfl ?_
    refine q_icmp_ge (tgt := 48) C dX8_copyFrom_15 (by decide) h (fun c h => ?_) (fun c h => ?_)
    · refine q_sub [] rfl ?_
      exact hk _ h
    · refine q_aload_n C dX8_copyFrom_18 rfl 0 rfl ?_
      refine q_get (j := 1) C dX8_copyFrom_19 (wE_11 _ _) rfl (by decide) rfl inn_X8_copyFrom_8 (by decide +kernel) rfl ?_
      refine q_iload_n C dX8_copyFrom_22 rfl 2 rfl ?_
      refine q_aload_n C dX8_copyFrom_23 rfl 1 rfl ?_
      refine q_get (j := 1) C dX8_copyFrom_24 (wE_14 _ _) rfl (by decide) rfl inn_X8_copyFrom_8 (by decide +kernel) rfl ?_
      refine q_iload_n C dX8_copyFrom_27 rfl 2 rfl ?_
      refine q_iald C dX8_copyFrom_28 (wE_15 _ _) h (fun h => ?_)
      refine q_iast C dX8_copyFrom_29 (wE_12 _ _) (wS_12 _ _) h (fun T_2 h => ?_)
      refine q_aload_n C dX8_copyFrom_30 rfl 0 rfl ?_
      refine q_get (j := 2) C dX8_copyFrom_31 (wE_11 _ _) rfl (by decide) rfl inn_X8_copyFrom_8 (by decide +kernel) rfl ?_
      refine q_iload_n C dX8_copyFrom_34 rfl 2 rfl ?_
      refine q_aload_n C dX8_copyFrom_35 rfl 1 rfl ?_
      refine q_get (j := 2) C dX8_copyFrom_36 (wE_14 _ _) rfl (by decide) rfl inn_X8_copyFrom_8 (by decide +kernel) rfl ?_
      refine q_iload_n C dX8_copyFrom_39 rfl 2 rfl ?_
      refine q_iald C dX8_copyFrom_40 (wE_16 _ _) h (fun h => ?_)
      refine q_iast C dX8_copyFrom_41 (wE_13 _ _) (wS_13 _ _) h (fun T_3 h => ?_)
      refine q_iinc (j := 2) (v := 1) (lv' := [(0, .ref (ad k.1 11)), (1, .ref (ad k.1 14)), (2, .int (x2 + 1))]) C dX8_copyFrom_42 rfl (by decide) (by decide) rfl ?_
      refine q_goto (tgt := 10) C dX8_copyFrom_45 (by decide) ?_
      refine q_sub [0, 1, 2] rfl ?_
      exact ih _ _ h
def fX8_copyFrom_11_14 (n : Nat) (T : TS) : Option (TS) := nm (uI T 550 (gI T 700)) (fun T_1 => fX8_copyFrom_11_14_L10 n (fun T_4 => some T_4) n (0 : Int32) T_1)
set_option maxHeartbeats 4000000 in
set_option maxRecDepth 100000 in
theorem mtX8_copyFrom_11_14 (l : Launch) (X : XT) (n : Nat) (T T' : TS) (h : fX8_copyFrom_11_14 n T = some T') : Met l yX8_copyFrom wsX8_copyFrom (RM 0) (PreX X [.ref (ad X 11), .ref (ad X 14)] T) (QQ X none T') 0 0 (xA X) := by
  refine q_start (by decide) rfl (Nat.le_of_ble_eq_true rfl) ?_
  intro k hk C
  subst hk
  show GW k T 0 [(0, .ref (ad k.1 11)), (1, .ref (ad k.1 14))] []
  unfold fX8_copyFrom_11_14 at h
  refine q_aload_n C dX8_copyFrom_0 rfl 0 rfl ?_
  refine q_aload_n C dX8_copyFrom_1 rfl 1 rfl ?_
  refine q_get (j := 0) C dX8_copyFrom_2 (wE_14 _ _) rfl (by decide) rfl inn_X8_copyFrom_8 (by decide +kernel) rfl ?_
  refine q_putI (j := 0) (ty := .int) C dX8_copyFrom_5 (wE_11 _ _) (wP_11_0 _ _ _) rfl (by decide) (Nat.le_of_ble_eq_true rfl) tyX8 tyX8_ok nmX8 inn_X8_copyFrom_8 (by decide +kernel) rfl rfl (by decide +kernel) rfl rfl h (fun T_1 h => ?_)
  refine q_iconst (v := 0) C dX8_copyFrom_8 (by decide) ?_
  refine q_istore_n (lv' := [(0, .ref (ad k.1 11)), (1, .ref (ad k.1 14)), (2, .int (0 : Int32))]) C dX8_copyFrom_9 rfl (by decide) rfl ?_
  refine q_sub [0, 1, 2] rfl ?_
  refine lpX8_copyFrom_11_14_L10 C (fun T_4 h => ?_) _ _ _ h
  exact q_vreturn C dX8_copyFrom_48 h
def fX8_copyFrom_14_11_L10 (n : Nat) (kk : TS → Option (TS)) : Nat → Int32 → TS → Option (TS)
  | 0, _, _ => none
  | fuel + 1, x2, T => if (gI T 700) ≤ x2 then kk T else ck x2 60 (ck x2 60 (nm (sA T 15 x2 (gA T 12 (Int32.toNatClampNeg x2))) (fun T_2 => ck x2 60 (ck x2 60 (nm (sA T_2 16 x2 (gA T_2 13 (Int32.toNatClampNeg x2))) (fun T_3 => fX8_copyFrom_14_11_L10 n kk fuel (x2 + 1) T_3))))))
set_option maxHeartbeats 4000000 in
set_option maxRecDepth 100000 in
theorem lpX8_copyFrom_14_11_L10 {l : Launch} {k : KT} {n : Nat} {kk : TS → Option (TS)} {T' : TS} (C : CX l k 3 cX8_copyFrom RX8 wsX8_copyFrom 0 none (none, T')) (hk : ∀ T1, kk T1 = some T' → GW k T1 48 [] []) : ∀ (fuel : Nat) (x2 : Int32) (T : TS), fX8_copyFrom_14_11_L10 n kk fuel x2 T = some T' → GW k T 10 [(0, .ref (ad k.1 14)), (1, .ref (ad k.1 11)), (2, .int x2)] [] := by
  intro fuel
  induction fuel with
  | zero => intro x2 T h; cases h
  | succ fuel ih =>
    intro x2 T h
    rw [fX8_copyFrom_14_11_L10] at h
    refine q_iload_n C dX8_copyFrom_10 rfl 2 rfl ?_
    refine q_aload_n C dX8_copyFrom_11 rfl 0 rfl ?_
    refine q_get (j := 0) C dX8_copyFrom_12 (wE_14 _ _) rfl (by decide) rfl inn_X8_copyFrom_8 (by decide +kernel) rfl ?_
    refine q_icmp_ge (tgt := 48) C dX8_copyFrom_15 (by decide) h (fun c h => ?_) (fun c h => ?_)
    · refine q_sub [] rfl ?_
      exact hk _ h
    · refine q_aload_n C dX8_copyFrom_18 rfl 0 rfl ?_
      refine q_get (j := 1) C dX8_copyFrom_19 (wE_14 _ _) rfl (by decide) rfl inn_X8_copyFrom_8 (by decide +kernel) rfl ?_
      refine q_iload_n C dX8_copyFrom_22 rfl 2 rfl ?_
      refine q_aload_n C dX8_copyFrom_23 rfl 1 rfl ?_
      refine q_get (j := 1) C dX8_copyFrom_24 (wE_11 _ _) rfl (by decide) rfl inn_X8_copyFrom_8 (by decide +kernel) rfl ?_
      refine q_iload_n C dX8_copyFrom_27 rfl 2 rfl ?_
      refine q_iald C dX8_copyFrom_28 (wE_12 _ _) h (fun h => ?_)
      refine q_iast C dX8_copyFrom_29 (wE_15 _ _) (wS_15 _ _) h (fun T_2 h => ?_)
      refine q_aload_n C dX8_copyFrom_30 rfl 0 rfl ?_
      refine q_get (j := 2) C dX8_copyFrom_31 (wE_14 _ _) rfl (by decide) rfl inn_X8_copyFrom_8 (by decide +kernel) rfl ?_
      refine q_iload_n C dX8_copyFrom_34 rfl 2 rfl ?_
      refine q_aload_n C dX8_copyFrom_35 rfl 1 rfl ?_
      refine q_get (j := 2) C dX8_copyFrom_36 (wE_11 _ _) rfl (by decide) rfl inn_X8_copyFrom_8 (by decide +kernel) rfl ?_
      refine q_iload_n C dX8_copyFrom_39 rfl 2 rfl ?_
      refine q_iald C dX8_copyFrom_40 (wE_13 _ _) h (fun h => ?_)
      refine q_iast C dX8_copyFrom_41 (wE_16 _ _) (wS_16 _ _) h (fun T_3 h => ?_)
      refine q_iinc (j := 2) (v := 1) (lv' := [(0, .ref (ad k.1 14)), (1, .ref (ad k.1 11)), (2, .int (x2 + 1))]) C dX8_copyFrom_42 rfl (by decide) (by decide) rfl ?_
      refine q_goto (tgt := 10) C dX8_copyFrom_45 (by decide) ?_
      refine q_sub [0, 1, 2] rfl ?_
      exact ih _ _ h
def fX8_copyFrom_14_11 (n : Nat) (T : TS) : Option (TS) := nm (uI T 700 (gI T 550)) (fun T_1 => fX8_copyFrom_14_11_L10 n (fun T_4 => some T_4) n (0 : Int32) T_1)
set_option maxHeartbeats 4000000 in
set_option maxRecDepth 100000 in
theorem mtX8_copyFrom_14_11 (l : Launch) (X : XT) (n : Nat) (T T' : TS) (h : fX8_copyFrom_14_11 n T = some T') : Met l yX8_copyFrom wsX8_copyFrom (RM 0) (PreX X [.ref (ad X 14), .ref (ad X 11)] T) (QQ X none T') 0 0 (xA X) := by
  refine q_start (by decide) rfl (Nat.le_of_ble_eq_true rfl) ?_
  intro k hk C
  subst hk
  show GW k T 0 [(0, .ref (ad k.1 14)), (1, .ref (ad k.1 11))] []
  unfold fX8_copyFrom_14_11 at h
  refine q_aload_n C dX8_copyFrom_0 rfl 0 rfl ?_
  refine q_aload_n C dX8_copyFrom_1 rfl 1 rfl ?_
  refine q_get (j := 0) C dX8_copyFrom_2 (wE_11 _ _) rfl (by decide) rfl inn_X8_copyFrom_8 (by decide +kernel) rfl ?_
  refine q_putI (j := 0) (ty := .int) C dX8_copyFrom_5 (wE_14 _ _) (wP_14_0 _ _ _) rfl (by decide) (Nat.le_of_ble_eq_true rfl) tyX8 tyX8_ok nmX8 inn_X8_copyFrom_8 (by decide +kernel) rfl rfl (by decide +kernel) rfl rfl h (fun T_1 h => ?_)
  refine q_iconst (v := 0) C dX8_copyFrom_8 (by decide) ?_
  refine q_istore_n (lv' := [(0, .ref (ad k.1 14)), (1, .ref (ad k.1 11)), (2, .int (0 : Int32))]) C dX8_copyFrom_9 rfl (by decide) rfl ?_
  refine q_sub [0, 1, 2] rfl ?_
  refine lpX8_copyFrom_14_11_L10 C (fun T_4 h => ?_) _ _ _ h
  exact q_vreturn C dX8_copyFrom_48 h
def fX8_copyFrom_17_11_L10 (n : Nat) (kk : TS → Option (TS)) : Nat → Int32 → TS → Option (TS)
  | 0, _, _ => none
  | fuel + 1, x2, T => if (gI T 850) ≤ x2 then kk T else ck x2 60 (ck x2 60 (nm (sA T 18 x2 (gA T 12 (Int32.toNatClampNeg x2))) (fun T_2 => ck x2 60 (ck x2 60 (nm (sA T_2 19 x2 (gA T_2 13 (Int32.toNatClampNeg x2))) (fun T_3 => fX8_copyFrom_17_11_L10 n kk fuel (x2 + 1) T_3))))))
set_option maxHeartbeats 4000000 in
set_option maxRecDepth 100000 in
theorem lpX8_copyFrom_17_11_L10 {l : Launch} {k : KT} {n : Nat} {kk : TS → Option (TS)} {T' : TS} (C : CX l k 3 cX8_copyFrom RX8 wsX8_copyFrom 0 none (none, T')) (hk : ∀ T1, kk T1 = some T' → GW k T1 48 [] []) : ∀ (fuel : Nat) (x2 : Int32) (T : TS), fX8_copyFrom_17_11_L10 n kk fuel x2 T = some T' → GW k T 10 [(0, .ref (ad k.1 17)), (1, .ref (ad k.1 11)), (2, .int x2)] [] := by
  intro fuel
  induction fuel with
  | zero => intro x2 T h; cases h
  | succ fuel ih =>
    intro x2 T h
    rw [fX8_copyFrom_17_11_L10] at h
    refine q_iload_n C dX8_copyFrom_10 rfl 2 rfl ?_
    refine q_aload_n C dX8_copyFrom_11 rfl 0 rfl ?_
    refine q_get (j := 0) C dX8_copyFrom_12 (wE_17 _ _) rfl (by decide) rfl inn_X8_copyFrom_8 (by decide +kernel) rfl ?_
    refine q_icmp_ge (tgt := 48) C dX8_copyFrom_15 (by decide) h (fun c h => ?_) (fun c h => ?_)
    · refine q_sub [] rfl ?_
      exact hk _ h
    · refine q_aload_n C dX8_copyFrom_18 rfl 0 rfl ?_
      refine q_get (j := 1) C dX8_copyFrom_19 (wE_17 _ _) rfl (by decide) rfl inn_X8_copyFrom_8 (by decide +kernel) rfl ?_
      refine q_iload_n C dX8_copyFrom_22 rfl 2 rfl ?_
      refine q_aload_n C dX8_copyFrom_23 rfl 1 rfl ?_
      refine q_get (j := 1) C dX8_copyFrom_24 (wE_11 _ _) rfl (by decide) rfl inn_X8_copyFrom_8 (by decide +kernel) rfl ?_
      refine q_iload_n C dX8_copyFrom_27 rfl 2 rfl ?_
      refine q_iald C dX8_copyFrom_28 (wE_12 _ _) h (fun h => ?_)
      refine q_iast C dX8_copyFrom_29 (wE_18 _ _) (wS_18 _ _) h (fun T_2 h => ?_)
      refine q_aload_n C dX8_copyFrom_30 rfl 0 rfl ?_
      refine q_get (j := 2) C dX8_copyFrom_31 (wE_17 _ _) rfl (by decide) rfl inn_X8_copyFrom_8 (by decide +kernel) rfl ?_
      refine q_iload_n C dX8_copyFrom_34 rfl 2 rfl ?_
      refine q_aload_n C dX8_copyFrom_35 rfl 1 rfl ?_
      refine q_get (j := 2) C dX8_copyFrom_36 (wE_11 _ _) rfl (by decide) rfl inn_X8_copyFrom_8 (by decide +kernel) rfl ?_
      refine q_iload_n C dX8_copyFrom_39 rfl 2 rfl ?_
      refine q_iald C dX8_copyFrom_40 (wE_13 _ _) h (fun h => ?_)
      refine q_iast C dX8_copyFrom_41 (wE_19 _ _) (wS_19 _ _) h (fun T_3 h => ?_)
      refine q_iinc (j := 2) (v := 1) (lv' := [(0, .ref (ad k.1 17)), (1, .ref (ad k.1 11)), (2, .int (x2 + 1))]) C dX8_copyFrom_42 rfl (by decide) (by decide) rfl ?_
      refine q_goto (tgt := 10) C dX8_copyFrom_45 (by decide) ?_
      refine q_sub [0, 1, 2] rfl ?_
      exact ih _ _ h
def fX8_copyFrom_17_11 (n : Nat) (T : TS) : Option (TS) := nm (uI T 850 (gI T 550)) (fun T_1 => fX8_copyFrom_17_11_L10 n (fun T_4 => some T_4) n (0 : Int32) T_1)
set_option maxHeartbeats 4000000 in
set_option maxRecDepth 100000 in
theorem mtX8_copyFrom_17_11 (l : Launch) (X : XT) (n : Nat) (T T' : TS) (h : fX8_copyFrom_17_11 n T = some T') : Met l yX8_copyFrom wsX8_copyFrom (RM 0) (PreX X [.ref (ad X 17), .ref (ad X 11)] T) (QQ X none T') 0 0 (xA X) := by
  refine q_start (by decide) rfl (Nat.le_of_ble_eq_true rfl) ?_
  intro k hk C
  subst hk
  show GW k T 0 [(0, .ref (ad k.1 17)), (1, .ref (ad k.1 11))] []
  unfold fX8_copyFrom_17_11 at h
  refine q_aload_n C dX8_copyFrom_0 rfl 0 rfl ?_
  refine q_aload_n C dX8_copyFrom_1 rfl 1 rfl ?_
  refine q_get (j := 0) C dX8_copyFrom_2 (wE_11 _ _) rfl (by decide) rfl inn_X8_copyFrom_8 (by decide +kernel) rfl ?_
  refine q_putI (j := 0) (ty := .int) C dX8_copyFrom_5 (wE_17 _ _) (wP_17_0 _ _ _) rfl (by decide) (Nat.le_of_ble_eq_true rfl) tyX8 tyX8_ok nmX8 inn_X8_copyFrom_8 (by decide +kernel) rfl rfl (by decide +kernel) rfl rfl h (fun T_1 h => ?_)
  refine q_iconst (v := 0) C dX8_copyFrom_8 (by decide) ?_
  refine q_istore_n (lv' := [(0, .ref (ad k.1 17)), (1, .ref (ad k.1 11)), (2, .int (0 : Int32))]) C dX8_copyFrom_9 rfl (by decide) rfl ?_
  refine q_sub [0, 1, 2] rfl ?_
  refine lpX8_copyFrom_17_11_L10 C (fun T_4 h => ?_) _ _ _ h
  exact q_vreturn C dX8_copyFrom_48 h
def fX8_allRolls_11_L4 (n : Nat) (kk : Int32 → TS → Option (Int32 × TS)) : Nat → Int32 → Int32 → TS → Option (Int32 × TS)
  | 0, _, _, _ => none
  | fuel + 1, x1, x2, T => if (gI T 550) ≤ x2 then kk x1 T else ck x2 60 (nm (x1 + (gA T 13 (Int32.toNatClampNeg x2))) (fun x1_1 => fX8_allRolls_11_L4 n kk fuel x1_1 (x2 + 1) T))
set_option maxHeartbeats 4000000 in
set_option maxRecDepth 100000 in
theorem lpX8_allRolls_11_L4 {l : Launch} {k : KT} {n : Nat} {kk : Int32 → TS → Option (Int32 × TS)} {r : Int32} {T' : TS} (C : CX l k 3 cX8_allRolls RX8 wsX8_allRolls 0 (some .int) (some (.int r), T')) (hk : ∀ e1 T1, kk e1 T1 = some (r, T') → GW k T1 27 [(1, .int e1)] []) : ∀ (fuel : Nat) (x1 : Int32) (x2 : Int32) (T : TS), fX8_allRolls_11_L4 n kk fuel x1 x2 T = some (r, T') → GW k T 4 [(0, .ref (ad k.1 11)), (1, .int x1), (2, .int x2)] [] := by
  intro fuel
  induction fuel with
  | zero => intro x1 x2 T h; cases h
  | succ fuel ih =>
    intro x1 x2 T h
    rw [fX8_allRolls_11_L4] at h
    refine q_iload_n C dX8_allRolls_4 rfl 2 rfl ?_
    refine q_aload_n C dX8_allRolls_5 rfl 0 rfl ?_
    refine q_get (j := 0) C dX8_allRolls_6 (wE_11 _ _) rfl (by decide) rfl inn_X8_allRolls_8 (by decide +kernel) rfl ?_
    refine q_icmp_ge (tgt := 27) C dX8_allRolls_9 (by decide) h (fun c h => ?_) (fun c h => ?_)
    · refine q_sub [1] rfl ?_
      exact hk _ _ h
    · refine q_iload_n C dX8_allRolls_12 rfl 1 rfl ?_
      refine q_aload_n C dX8_allRolls_13 rfl 0 rfl ?_
      refine q_get (j := 2) C dX8_allRolls_14 (wE_11 _ _) rfl (by decide) rfl inn_X8_allRolls_8 (by decide +kernel) rfl ?_
      refine q_iload_n C dX8_allRolls_17 rfl 2 rfl ?_
      refine q_iald C dX8_allRolls_18 (wE_13 _ _) h (fun h => ?_)
      refine q_iadd C dX8_allRolls_19 ?_
      refine q_nm h (fun x1_1 h => ?_)
      refine q_istore_n (lv' := [(0, .ref (ad k.1 11)), (1, .int x1_1), (2, .int x2)]) C dX8_allRolls_20 rfl (by decide) rfl ?_
      refine q_iinc (j := 2) (v := 1) (lv' := [(0, .ref (ad k.1 11)), (1, .int x1_1), (2, .int (x2 + 1))]) C dX8_allRolls_21 rfl (by decide) (by decide) rfl ?_
      refine q_goto (tgt := 4) C dX8_allRolls_24 (by decide) ?_
      refine q_sub [0, 1, 2] rfl ?_
      exact ih _ _ _ h
def fX8_allRolls_11 (n : Nat) (T : TS) : Option (Int32 × TS) := fX8_allRolls_11_L4 n (fun e1_2 T_3 => some (e1_2, T_3)) n (0 : Int32) (0 : Int32) T
set_option maxHeartbeats 4000000 in
set_option maxRecDepth 100000 in
theorem mtX8_allRolls_11 (l : Launch) (X : XT) (n : Nat) (T T' : TS) (r : Int32) (h : fX8_allRolls_11 n T = some (r, T')) : Met l yX8_allRolls wsX8_allRolls (RM 0) (PreX X [.ref (ad X 11)] T) (QQ X (some (.int r)) T') 0 0 (xA X) := by
  refine q_start (by decide) rfl (Nat.le_of_ble_eq_true rfl) ?_
  intro k hk C
  subst hk
  show GW k T 0 [(0, .ref (ad k.1 11))] []
  unfold fX8_allRolls_11 at h
  refine q_iconst (v := 0) C dX8_allRolls_0 (by decide) ?_
  refine q_istore_n (lv' := [(0, .ref (ad k.1 11)), (1, .int (0 : Int32))]) C dX8_allRolls_1 rfl (by decide) rfl ?_
  refine q_iconst (v := 0) C dX8_allRolls_2 (by decide) ?_
  refine q_istore_n (lv' := [(0, .ref (ad k.1 11)), (1, .int (0 : Int32)), (2, .int (0 : Int32))]) C dX8_allRolls_3 rfl (by decide) rfl ?_
  refine q_sub [0, 1, 2] rfl ?_
  refine lpX8_allRolls_11_L4 C (fun e1_2 T_3 h => ?_) _ _ _ _ h
  refine q_iload_n C dX8_allRolls_27 rfl 0 rfl ?_
  exact q_ireturn C dX8_allRolls_28 h
def fX8_piecesOf_11_L4 (n : Nat) (y1 : Int32) (kk : Int32 → TS → Option (Int32 × TS)) : Nat → Int32 → Int32 → TS → Option (Int32 × TS)
  | 0, _, _, _ => none
  | fuel + 1, x2, x3, T => if (gI T 550) ≤ x3 then kk x2 T else ck x3 60 (ck x3 60 (bd (fX0_ofWidth n (gA T 12 (Int32.toNatClampNeg x3)) y1 T) (fun r_2 T_1 => nm (x2 + ((gA T 13 (Int32.toNatClampNeg x3)) * r_2)) (fun x2_3 => fX8_piecesOf_11_L4 n y1 kk fuel x2_3 (x3 + 1) T_1))))
set_option maxHeartbeats 4000000 in
set_option maxRecDepth 100000 in
theorem lpX8_piecesOf_11_L4 {l : Launch} {k : KT} {n : Nat} {y1 : Int32} {kk : Int32 → TS → Option (Int32 × TS)} {r : Int32} {T' : TS} (C : CX l k 4 cX8_piecesOf RX8 wsX8_piecesOf 1 (some .int) (some (.int r), T')) (hk : ∀ e2 T1, kk e2 T1 = some (r, T') → GW k T1 38 [(2, .int e2)] []) : ∀ (fuel : Nat) (x2 : Int32) (x3 : Int32) (T : TS), fX8_piecesOf_11_L4 n y1 kk fuel x2 x3 T = some (r, T') → GW k T 4 [(0, .ref (ad k.1 11)), (1, .int y1), (2, .int x2), (3, .int x3)] [] := by
  intro fuel
  induction fuel with
  | zero => intro x2 x3 T h; cases h
  | succ fuel ih =>
    intro x2 x3 T h
    rw [fX8_piecesOf_11_L4] at h
    refine q_iload_n C dX8_piecesOf_4 rfl 3 rfl ?_
    refine q_aload_n C dX8_piecesOf_5 rfl 0 rfl ?_
    refine q_get (j := 0) C dX8_piecesOf_6 (wE_11 _ _) rfl (by decide) rfl inn_X8_piecesOf_8 (by decide +kernel) rfl ?_
    refine q_icmp_ge (tgt := 38) C dX8_piecesOf_9 (by decide) h (fun c h => ?_) (fun c h => ?_)
    · refine q_sub [2] rfl ?_
      exact hk _ _ h
    · refine q_iload_n C dX8_piecesOf_12 rfl 2 rfl ?_
      refine q_aload_n C dX8_piecesOf_13 rfl 0 rfl ?_
      refine q_get (j := 2) C dX8_piecesOf_14 (wE_11 _ _) rfl (by decide) rfl inn_X8_piecesOf_8 (by decide +kernel) rfl ?_
      refine q_iload_n C dX8_piecesOf_17 rfl 3 rfl ?_
      refine q_iald C dX8_piecesOf_18 (wE_13 _ _) h (fun h => ?_)
      refine q_aload_n C dX8_piecesOf_19 rfl 0 rfl ?_
      refine q_get (j := 1) C dX8_piecesOf_20 (wE_11 _ _) rfl (by decide) rfl inn_X8_piecesOf_8 (by decide +kernel) rfl ?_
      refine q_iload_n C dX8_piecesOf_23 rfl 3 rfl ?_
      refine q_iald C dX8_piecesOf_24 (wE_12 _ _) h (fun h => ?_)
      refine q_iload_n C dX8_piecesOf_25 rfl 1 rfl ?_
      obtain ⟨r_2, T_1, hc, h⟩ := bd_some h
      refine q_callS (st' := [.int r_2, .int (gA T 13 (Int32.toNatClampNeg x3)), .int x2]) C dX8_piecesOf_26 [.int (gA T 12 (Int32.toNatClampNeg x3)), .int y1] [.int (gA T 13 (Int32.toNatClampNeg x3)), .int x2] (mtX0_ofWidth l _ n _ _ _ _ _ hc) gX8_piecesOf_X0_ofWidth rfl hd_X0_ofWidth (by decide) (by decide) rfl rfl (Nat.le_of_ble_eq_true rfl) rfl ?_
      clear hc
      refine q_imul C dX8_piecesOf_29 ?_
      refine q_iadd C dX8_piecesOf_30 ?_
      refine q_nm h (fun x2_3 h => ?_)
      refine q_istore_n (lv' := [(0, .ref (ad k.1 11)), (1, .int y1), (2, .int x2_3), (3, .int x3)]) C dX8_piecesOf_31 rfl (by decide) rfl ?_
      refine q_iinc (j := 3) (v := 1) (lv' := [(0, .ref (ad k.1 11)), (1, .int y1), (2, .int x2_3), (3, .int (x3 + 1))]) C dX8_piecesOf_32 rfl (by decide) (by decide) rfl ?_
      refine q_goto (tgt := 4) C dX8_piecesOf_35 (by decide) ?_
      refine q_sub [0, 1, 2, 3] rfl ?_
      exact ih _ _ _ h
def fX8_piecesOf_11 (n : Nat) (p0 : Int32) (T : TS) : Option (Int32 × TS) := fX8_piecesOf_11_L4 n p0 (fun e2_4 T_5 => some (e2_4, T_5)) n (0 : Int32) (0 : Int32) T
set_option maxHeartbeats 4000000 in
set_option maxRecDepth 100000 in
theorem mtX8_piecesOf_11 (l : Launch) (X : XT) (n : Nat) (p0 : Int32) (T T' : TS) (r : Int32) (h : fX8_piecesOf_11 n p0 T = some (r, T')) : Met l yX8_piecesOf wsX8_piecesOf (RM 1) (PreX X [.ref (ad X 11), .int p0] T) (QQ X (some (.int r)) T') 0 0 (xA X) := by
  refine q_start (by decide) rfl (Nat.le_of_ble_eq_true rfl) ?_
  intro k hk C
  subst hk
  show GW k T 0 [(0, .ref (ad k.1 11)), (1, .int p0)] []
  unfold fX8_piecesOf_11 at h
  refine q_iconst (v := 0) C dX8_piecesOf_0 (by decide) ?_
  refine q_istore_n (lv' := [(0, .ref (ad k.1 11)), (1, .int p0), (2, .int (0 : Int32))]) C dX8_piecesOf_1 rfl (by decide) rfl ?_
  refine q_iconst (v := 0) C dX8_piecesOf_2 (by decide) ?_
  refine q_istore_n (lv' := [(0, .ref (ad k.1 11)), (1, .int p0), (2, .int (0 : Int32)), (3, .int (0 : Int32))]) C dX8_piecesOf_3 rfl (by decide) rfl ?_
  refine q_sub [0, 1, 2, 3] rfl ?_
  refine lpX8_piecesOf_11_L4 C (fun e2_4 T_5 h => ?_) _ _ _ _ h
  refine q_iload_n C dX8_piecesOf_38 rfl 0 rfl ?_
  exact q_ireturn C dX8_piecesOf_39 h
def fX8_clear_17 (n : Nat) (T : TS) : Option (TS) := nm (uI T 850 (0 : Int32)) (fun T_1 => some T_1)
set_option maxHeartbeats 4000000 in
set_option maxRecDepth 100000 in
theorem mtX8_clear_17 (l : Launch) (X : XT) (n : Nat) (T T' : TS) (h : fX8_clear_17 n T = some T') : Met l yX8_clear wsX8_clear (RM 0) (PreX X [.ref (ad X 17)] T) (QQ X none T') 0 0 (xA X) := by
  refine q_start (by decide) rfl (Nat.le_of_ble_eq_true rfl) ?_
  intro k hk C
  subst hk
  show GW k T 0 [(0, .ref (ad k.1 17))] []
  unfold fX8_clear_17 at h
  refine q_aload_n C dX8_clear_0 rfl 0 rfl ?_
  refine q_iconst (v := 0) C dX8_clear_1 (by decide) ?_
  refine q_putI (j := 0) (ty := .int) C dX8_clear_2 (wE_17 _ _) (wP_17_0 _ _ _) rfl (by decide) (Nat.le_of_ble_eq_true rfl) tyX8 tyX8_ok nmX8 inn_X8_clear_8 (by decide +kernel) rfl rfl (by decide +kernel) rfl rfl h (fun T_1 h => ?_)
  exact q_vreturn C dX8_clear_5 h
def fX8_isFull_17 (n : Nat) (T : TS) : Option (Int32 × TS) := if (gI T 850) < (60 : Int32) then rz (0 : Int32) T else rz (1 : Int32) T
set_option maxHeartbeats 4000000 in
set_option maxRecDepth 100000 in
theorem mtX8_isFull_17 (l : Launch) (X : XT) (n : Nat) (T T' : TS) (r : Int32) (h : fX8_isFull_17 n T = some (r, T')) : Met l yX8_isFull wsX8_isFull (RM 0) (PreX X [.ref (ad X 17)] T) (QQ X (some (.int r)) T') 0 0 (xA X) := by
  refine q_start (by decide) rfl (Nat.le_of_ble_eq_true rfl) ?_
  intro k hk C
  subst hk
  show GW k T 0 [(0, .ref (ad k.1 17))] []
  unfold fX8_isFull_17 at h
  refine q_aload_n C dX8_isFull_0 rfl 0 rfl ?_
  refine q_get (j := 0) C dX8_isFull_1 (wE_17 _ _) rfl (by decide) rfl inn_X8_isFull_8 (by decide +kernel) rfl ?_
  refine q_bipush (v := 60) C dX8_isFull_4 (by decide) ?_
  refine q_icmp_lt (tgt := 13) C dX8_isFull_6 (by decide) h (fun c h => ?_) (fun c h => ?_)
  · refine q_iconst (v := 0) C dX8_isFull_13 (by decide) ?_
    exact q_zreturn C dX8_isFull_14 h
  · refine q_iconst (v := 1) C dX8_isFull_9 (by decide) ?_
    refine q_goto (tgt := 14) C dX8_isFull_10 (by decide) ?_
    exact q_zreturn C dX8_isFull_14 h
def fX8_add_17 (n : Nat) (p0 : Int32) (p1 : Int32) (T : TS) : Option (TS) := bd (fX8_isFull_17 n T) (fun r_2 T_1 => if ¬ r_2 = 0 then some T_1 else ck (gI T_1 850) 60 (nm (sA T_1 18 (gI T_1 850) p0) (fun T_3 => ck (gI T_3 850) 60 (nm (sA T_3 19 (gI T_3 850) p1) (fun T_4 => nm (uI T_4 850 ((gI T_4 850) + (1 : Int32))) (fun T_5 => some T_5))))))
set_option maxHeartbeats 4000000 in
set_option maxRecDepth 100000 in
theorem mtX8_add_17 (l : Launch) (X : XT) (n : Nat) (p0 : Int32) (p1 : Int32) (T T' : TS) (h : fX8_add_17 n p0 p1 T = some T') : Met l yX8_add wsX8_add (RM 1) (PreX X [.ref (ad X 17), .int p0, .int p1] T) (QQ X none T') 0 0 (xA X) := by
  refine q_start (by decide) rfl (Nat.le_of_ble_eq_true rfl) ?_
  intro k hk C
  subst hk
  show GW k T 0 [(0, .ref (ad k.1 17)), (1, .int p0), (2, .int p1)] []
  unfold fX8_add_17 at h
  refine q_aload_n C dX8_add_0 rfl 0 rfl ?_
  obtain ⟨r_2, T_1, hc, h⟩ := bd_some h
  refine q_callV (st' := [.int r_2]) C dX8_add_1 [] [] (mtX8_isFull_17 l _ n _ _ _ hc) gX8_add_X8_isFull rfl hd_X8_isFull (by decide) (by decide) (wE_17 _ _) rfl rfl rfl (Nat.le_of_ble_eq_true rfl) rfl ?_
  clear hc
  refine q_if_ne (tgt := 37) C dX8_add_4 (by decide) h (fun c h => ?_) (fun c h => ?_)
  · exact q_vreturn C dX8_add_37 h
  · refine q_aload_n C dX8_add_7 rfl 0 rfl ?_
    refine q_get (j := 1) C dX8_add_8 (wE_17 _ _) rfl (by decide) rfl inn_X8_add_8 (by decide +kernel) rfl ?_
    refine q_aload_n C dX8_add_11 rfl 0 rfl ?_
    refine q_get (j := 0) C dX8_add_12 (wE_17 _ _) rfl (by decide) rfl inn_X8_add_8 (by decide +kernel) rfl ?_
    refine q_iload_n C dX8_add_15 rfl 1 rfl ?_
    refine q_iast C dX8_add_16 (wE_18 _ _) (wS_18 _ _) h (fun T_3 h => ?_)
    refine q_aload_n C dX8_add_17 rfl 0 rfl ?_
    refine q_get (j := 2) C dX8_add_18 (wE_17 _ _) rfl (by decide) rfl inn_X8_add_8 (by decide +kernel) rfl ?_
    refine q_aload_n C dX8_add_21 rfl 0 rfl ?_
    refine q_get (j := 0) C dX8_add_22 (wE_17 _ _) rfl (by decide) rfl inn_X8_add_8 (by decide +kernel) rfl ?_
    refine q_iload_n C dX8_add_25 rfl 2 rfl ?_
    refine q_iast C dX8_add_26 (wE_19 _ _) (wS_19 _ _) h (fun T_4 h => ?_)
    refine q_aload_n C dX8_add_27 rfl 0 rfl ?_
    refine q_dup C dX8_add_28 rfl ?_
    refine q_get (j := 0) C dX8_add_29 (wE_17 _ _) rfl (by decide) rfl inn_X8_add_8 (by decide +kernel) rfl ?_
    refine q_iconst (v := 1) C dX8_add_32 (by decide) ?_
    refine q_iadd C dX8_add_33 ?_
    refine q_putI (j := 0) (ty := .int) C dX8_add_34 (wE_17 _ _) (wP_17_0 _ _ _) rfl (by decide) (Nat.le_of_ble_eq_true rfl) tyX8 tyX8_ok nmX8 inn_X8_add_8 (by decide +kernel) rfl rfl (by decide +kernel) rfl rfl h (fun T_5 h => ?_)
    exact q_vreturn C dX8_add_37 h
def fX8_addRoll_17 (n : Nat) (p0 : Int32) (T : TS) : Option (Int32 × TS) := if (gI T 850) ≤ 0 then bd (fX8_isFull_17 n T) (fun r_2 T_1 => if r_2 = 0 then bv (fX8_add_17 n p0 (1 : Int32) T_1) (fun T_3 => rz (1 : Int32) T_3) else rz (0 : Int32) T_1) else ck ((gI T 850) - (1 : Int32)) 60 (if ¬ (gA T 18 (Int32.toNatClampNeg ((gI T 850) - (1 : Int32)))) = p0 then bd (fX8_isFull_17 n T) (fun r_6 T_5 => if r_6 = 0 then bv (fX8_add_17 n p0 (1 : Int32) T_5) (fun T_7 => rz (1 : Int32) T_7) else rz (0 : Int32) T_5) else ck ((gI T 850) - (1 : Int32)) 60 (ck ((gI T 850) - (1 : Int32)) 60 (nm (sA T 19 ((gI T 850) - (1 : Int32)) ((gA T 19 (Int32.toNatClampNeg ((gI T 850) - (1 : Int32)))) + (1 : Int32))) (fun T_9 => rz (1 : Int32) T_9))))
set_option maxHeartbeats 4000000 in
set_option maxRecDepth 100000 in
theorem mtX8_addRoll_17 (l : Launch) (X : XT) (n : Nat) (p0 : Int32) (T T' : TS) (r : Int32) (h : fX8_addRoll_17 n p0 T = some (r, T')) : Met l yX8_addRoll wsX8_addRoll (RM 2) (PreX X [.ref (ad X 17), .int p0] T) (QQ X (some (.int r)) T') 0 0 (xA X) := by
  refine q_start (by decide) rfl (Nat.le_of_ble_eq_true rfl) ?_
  intro k hk C
  subst hk
  show GW k T 0 [(0, .ref (ad k.1 17)), (1, .int p0)] []
  unfold fX8_addRoll_17 at h
  refine q_aload_n C dX8_addRoll_0 rfl 0 rfl ?_
  refine q_get (j := 0) C dX8_addRoll_1 (wE_17 _ _) rfl (by decide) rfl inn_X8_addRoll_8 (by decide +kernel) rfl ?_
  refine q_if_le (tgt := 39) C dX8_addRoll_4 (by decide) h (fun c h => ?_) (fun c h => ?_)
  · refine q_aload_n C dX8_addRoll_39 rfl 0 rfl ?_
    obtain ⟨r_2, T_1, hc, h⟩ := bd_some h
    refine q_callV (st' := [.int r_2]) C dX8_addRoll_40 [] [] (mtX8_isFull_17 l _ n _ _ _ hc) gX8_addRoll_X8_isFull rfl hd_X8_isFull (by decide) (by decide) (wE_17 _ _) rfl rfl rfl (Nat.le_of_ble_eq_true rfl) rfl ?_
    clear hc
    refine q_if_eq (tgt := 48) C dX8_addRoll_43 (by decide) h (fun c h => ?_) (fun c h => ?_)
    · refine q_aload_n C dX8_addRoll_48 rfl 0 rfl ?_
      refine q_iload_n C dX8_addRoll_49 rfl 1 rfl ?_
      refine q_iconst (v := 1) C dX8_addRoll_50 (by decide) ?_
      obtain ⟨T_3, hc, h⟩ := bv_some h
      refine q_callV (st' := []) C dX8_addRoll_51 [.int p0, .int (1 : Int32)] [] (mtX8_add_17 l _ n _ _ _ _ hc) gX8_addRoll_X8_add rfl hd_X8_add (by decide) (by decide) (wE_17 _ _) rfl rfl rfl (Nat.le_of_ble_eq_true rfl) rfl ?_
      clear hc
      refine q_iconst (v := 1) C dX8_addRoll_54 (by decide) ?_
      exact q_zreturn C dX8_addRoll_55 h
    · refine q_iconst (v := 0) C dX8_addRoll_46 (by decide) ?_
      exact q_zreturn C dX8_addRoll_47 h
  · refine q_aload_n C dX8_addRoll_7 rfl 0 rfl ?_
    refine q_get (j := 1) C dX8_addRoll_8 (wE_17 _ _) rfl (by decide) rfl inn_X8_addRoll_8 (by decide +kernel) rfl ?_
    refine q_aload_n C dX8_addRoll_11 rfl 0 rfl ?_
    refine q_get (j := 0) C dX8_addRoll_12 (wE_17 _ _) rfl (by decide) rfl inn_X8_addRoll_8 (by decide +kernel) rfl ?_
    refine q_iconst (v := 1) C dX8_addRoll_15 (by decide) ?_
    refine q_isub C dX8_addRoll_16 ?_
    refine q_iald C dX8_addRoll_17 (wE_18 _ _) h (fun h => ?_)
    refine q_iload_n C dX8_addRoll_18 rfl 1 rfl ?_
    refine q_icmp_ne (tgt := 39) C dX8_addRoll_19 (by decide) h (fun c h => ?_) (fun c h => ?_)
    · refine q_aload_n C dX8_addRoll_39 rfl 0 rfl ?_
      obtain ⟨r_6, T_5, hc, h⟩ := bd_some h
      refine q_callV (st' := [.int r_6]) C dX8_addRoll_40 [] [] (mtX8_isFull_17 l _ n _ _ _ hc) gX8_addRoll_X8_isFull rfl hd_X8_isFull (by decide) (by decide) (wE_17 _ _) rfl rfl rfl (Nat.le_of_ble_eq_true rfl) rfl ?_
      clear hc
      refine q_if_eq (tgt := 48) C dX8_addRoll_43 (by decide) h (fun c h => ?_) (fun c h => ?_)
      · refine q_aload_n C dX8_addRoll_48 rfl 0 rfl ?_
        refine q_iload_n C dX8_addRoll_49 rfl 1 rfl ?_
        refine q_iconst (v := 1) C dX8_addRoll_50 (by decide) ?_
        obtain ⟨T_7, hc, h⟩ := bv_some h
        refine q_callV (st' := []) C dX8_addRoll_51 [.int p0, .int (1 : Int32)] [] (mtX8_add_17 l _ n _ _ _ _ hc) gX8_addRoll_X8_add rfl hd_X8_add (by decide) (by decide) (wE_17 _ _) rfl rfl rfl (Nat.le_of_ble_eq_true rfl) rfl ?_
        clear hc
        refine q_iconst (v := 1) C dX8_addRoll_54 (by decide) ?_
        exact q_zreturn C dX8_addRoll_55 h
      · refine q_iconst (v := 0) C dX8_addRoll_46 (by decide) ?_
        exact q_zreturn C dX8_addRoll_47 h
    · refine q_aload_n C dX8_addRoll_22 rfl 0 rfl ?_
      refine q_get (j := 2) C dX8_addRoll_23 (wE_17 _ _) rfl (by decide) rfl inn_X8_addRoll_8 (by decide +kernel) rfl ?_
      refine q_aload_n C dX8_addRoll_26 rfl 0 rfl ?_
      refine q_get (j := 0) C dX8_addRoll_27 (wE_17 _ _) rfl (by decide) rfl inn_X8_addRoll_8 (by decide +kernel) rfl ?_
      refine q_iconst (v := 1) C dX8_addRoll_30 (by decide) ?_
      refine q_isub C dX8_addRoll_31 ?_
      refine q_dup2 C dX8_addRoll_32 rfl rfl ?_
      refine q_iald C dX8_addRoll_33 (wE_19 _ _) h (fun h => ?_)
      refine q_iconst (v := 1) C dX8_addRoll_34 (by decide) ?_
      refine q_iadd C dX8_addRoll_35 ?_
      refine q_iast C dX8_addRoll_36 (wE_19 _ _) (wS_19 _ _) h (fun T_9 h => ?_)
      refine q_iconst (v := 1) C dX8_addRoll_37 (by decide) ?_
      exact q_zreturn C dX8_addRoll_38 h
def fX1_add_24 (n : Nat) (p0 : Int32) (T : TS) : Option (TS) := if (21 : Int32) ≤ (gI T 1200) then some T else ck (gI T 1200) 21 (nm (sA T 25 (gI T 1200) p0) (fun T_1 => nm (uI T_1 1200 ((gI T_1 1200) + (1 : Int32))) (fun T_2 => some T_2)))
set_option maxHeartbeats 4000000 in
set_option maxRecDepth 100000 in
theorem mtX1_add_24 (l : Launch) (X : XT) (n : Nat) (p0 : Int32) (T T' : TS) (h : fX1_add_24 n p0 T = some T') : Met l yX1_add wsX1_add (RM 0) (PreX X [.ref (ad X 24), .int p0] T) (QQ X none T') 0 0 (xA X) := by
  refine q_start (by decide) rfl (Nat.le_of_ble_eq_true rfl) ?_
  intro k hk C
  subst hk
  show GW k T 0 [(0, .ref (ad k.1 24)), (1, .int p0)] []
  unfold fX1_add_24 at h
  refine q_aload_n C dX1_add_0 rfl 0 rfl ?_
  refine q_get (j := 0) C dX1_add_1 (wE_24 _ _) rfl (by decide) rfl inn_X1_add_1 (by decide +kernel) rfl ?_
  refine q_aload_n C dX1_add_4 rfl 0 rfl ?_
  refine q_get (j := 1) C dX1_add_5 (wE_24 _ _) rfl (by decide) rfl inn_X1_add_1 (by decide +kernel) rfl ?_
  refine q_alen (v := 21) C dX1_add_8 (wE_25 _ _) (by decide) ?_
  refine q_icmp_ge (tgt := 32) C dX1_add_9 (by decide) h (fun c h => ?_) (fun c h => ?_)
  · exact q_vreturn C dX1_add_32 h
  · refine q_aload_n C dX1_add_12 rfl 0 rfl ?_
    refine q_get (j := 1) C dX1_add_13 (wE_24 _ _) rfl (by decide) rfl inn_X1_add_1 (by decide +kernel) rfl ?_
    refine q_aload_n C dX1_add_16 rfl 0 rfl ?_
    refine q_get (j := 0) C dX1_add_17 (wE_24 _ _) rfl (by decide) rfl inn_X1_add_1 (by decide +kernel) rfl ?_
    refine q_iload_n C dX1_add_20 rfl 1 rfl ?_
    refine q_iast C dX1_add_21 (wE_25 _ _) (wS_25 _ _) h (fun T_1 h => ?_)
    refine q_aload_n C dX1_add_22 rfl 0 rfl ?_
    refine q_dup C dX1_add_23 rfl ?_
    refine q_get (j := 0) C dX1_add_24 (wE_24 _ _) rfl (by decide) rfl inn_X1_add_1 (by decide +kernel) rfl ?_
    refine q_iconst (v := 1) C dX1_add_27 (by decide) ?_
    refine q_iadd C dX1_add_28 ?_
    refine q_putI (j := 0) (ty := .int) C dX1_add_29 (wE_24 _ _) (wP_24_0 _ _ _) rfl (by decide) (Nat.le_of_ble_eq_true rfl) tyX1 tyX1_ok nmX1 inn_X1_add_1 (by decide +kernel) rfl rfl (by decide +kernel) rfl rfl h (fun T_2 h => ?_)
    exact q_vreturn C dX1_add_32 h
def fX1_lay_24_1_L38 (n : Nat) (y2 : Int32) (y4 : Int32) (y5 : Int32) (kk : Int32 → TS → Option (TS)) : Nat → Int32 → Int32 → TS → Option (TS)
  | 0, _, _, _ => none
  | fuel + 1, x3, x6, T => if y5 ≤ x6 then kk x3 T else ck y4 6 (nm (x3 + (gA T 2 (Int32.toNatClampNeg y4))) (fun x3_7 => bv (fX1_add_24 n x3_7 T) (fun T_8 => fX1_lay_24_1_L38 n y2 y4 y5 kk fuel x3_7 (x6 + 1) T_8)))
set_option maxHeartbeats 4000000 in
set_option maxRecDepth 100000 in
theorem lpX1_lay_24_1_L38 {l : Launch} {k : KT} {n : Nat} {y2 : Int32} {y4 : Int32} {y5 : Int32} {kk : Int32 → TS → Option (TS)} {T' : TS} (C : CX l k 7 cX1_lay RX1 wsX1_lay 1 none (none, T')) (hk : ∀ e3 T1, kk e3 T1 = some T' → GW k T1 66 [(0, .ref (ad k.1 24)), (1, .ref (ad k.1 1)), (2, .int y2), (3, .int e3), (4, .int y4)] []) : ∀ (fuel : Nat) (x3 : Int32) (x6 : Int32) (T : TS), fX1_lay_24_1_L38 n y2 y4 y5 kk fuel x3 x6 T = some T' → GW k T 38 [(0, .ref (ad k.1 24)), (1, .ref (ad k.1 1)), (2, .int y2), (3, .int x3), (4, .int y4), (5, .int y5), (6, .int x6)] [] := by
  intro fuel
  induction fuel with
  | zero => intro x3 x6 T h; cases h
  | succ fuel ih =>
    intro x3 x6 T h
    rw [fX1_lay_24_1_L38] at h
    refine q_iload C dX1_lay_38 6 rfl ?_
    refine q_iload C dX1_lay_40 5 rfl ?_
    refine q_icmp_ge (tgt := 66) C dX1_lay_42 (by decide) h (fun c h => ?_) (fun c h => ?_)
    · refine q_sub [0, 1, 2, 3, 4] rfl ?_
      exact hk _ _ h
    · refine q_iload_n C dX1_lay_45 rfl 3 rfl ?_
      refine q_aload_n C dX1_lay_46 rfl 1 rfl ?_
      refine q_get (j := 6) C dX1_lay_47 (wE_1 _ _) rfl (by decide) rfl inn_X1_lay_4 (by decide +kernel) rfl ?_
      refine q_iload C dX1_lay_50 4 rfl ?_
      refine q_iald C dX1_lay_52 (wE_2 _ _) h (fun h => ?_)
      refine q_iadd C dX1_lay_53 ?_
      refine q_nm h (fun x3_7 h => ?_)
      refine q_istore_n (lv' := [(0, .ref (ad k.1 24)), (1, .ref (ad k.1 1)), (2, .int y2), (3, .int x3_7), (4, .int y4), (5, .int y5), (6, .int x6)]) C dX1_lay_54 rfl (by decide) rfl ?_
      refine q_aload_n C dX1_lay_55 rfl 0 rfl ?_
      refine q_iload_n C dX1_lay_56 rfl 3 rfl ?_
      obtain ⟨T_8, hc, h⟩ := bv_some h
      refine q_callV (st' := []) C dX1_lay_57 [.int x3_7] [] (mtX1_add_24 l _ n _ _ _ hc) gX1_lay_X1_add rfl hd_X1_add (by decide) (by decide) (wE_24 _ _) rfl rfl rfl (Nat.le_of_ble_eq_true rfl) rfl ?_
      clear hc
      refine q_iinc (j := 6) (v := 1) (lv' := [(0, .ref (ad k.1 24)), (1, .ref (ad k.1 1)), (2, .int y2), (3, .int x3_7), (4, .int y4), (5, .int y5), (6, .int (x6 + 1))]) C dX1_lay_60 rfl (by decide) (by decide) rfl ?_
      refine q_goto (tgt := 38) C dX1_lay_63 (by decide) ?_
      refine q_sub [0, 1, 2, 3, 4, 5, 6] rfl ?_
      exact ih _ _ _ h
def fX1_lay_24_1_L18 (n : Nat) (y2 : Int32) (kk : TS → Option (TS)) : Nat → Int32 → Int32 → TS → Option (TS)
  | 0, _, _, _ => none
  | fuel + 1, x3, x4, T => if (gI T 55) ≤ x4 then kk T else bd (fX0_ofWidth n y2 x4 T) (fun r_6 T_5 => fX1_lay_24_1_L38 n y2 x4 r_6 (fun e3_10 T_11 => fX1_lay_24_1_L18 n y2 kk fuel e3_10 (x4 + 1) T_11) n x3 (0 : Int32) T_5)
set_option maxHeartbeats 4000000 in
set_option maxRecDepth 100000 in
theorem lpX1_lay_24_1_L18 {l : Launch} {k : KT} {n : Nat} {y2 : Int32} {kk : TS → Option (TS)} {T' : TS} (C : CX l k 7 cX1_lay RX1 wsX1_lay 1 none (none, T')) (hk : ∀ T1, kk T1 = some T' → GW k T1 72 [] []) : ∀ (fuel : Nat) (x3 : Int32) (x4 : Int32) (T : TS), fX1_lay_24_1_L18 n y2 kk fuel x3 x4 T = some T' → GW k T 18 [(0, .ref (ad k.1 24)), (1, .ref (ad k.1 1)), (2, .int y2), (3, .int x3), (4, .int x4)] [] := by
  intro fuel
  induction fuel with
  | zero => intro x3 x4 T h; cases h
  | succ fuel ih =>
    intro x3 x4 T h
    rw [fX1_lay_24_1_L18] at h
    refine q_iload C dX1_lay_18 4 rfl ?_
    refine q_aload_n C dX1_lay_20 rfl 1 rfl ?_
    refine q_get (j := 5) C dX1_lay_21 (wE_1 _ _) rfl (by decide) rfl inn_X1_lay_4 (by decide +kernel) rfl ?_
    refine q_icmp_ge (tgt := 72) C dX1_lay_24 (by decide) h (fun c h => ?_) (fun c h => ?_)
    · refine q_sub [] rfl ?_
      exact hk _ h
    · refine q_iload_n C dX1_lay_27 rfl 2 rfl ?_
      refine q_iload C dX1_lay_28 4 rfl ?_
      obtain ⟨r_6, T_5, hc, h⟩ := bd_some h
      refine q_callS (st' := [.int r_6]) C dX1_lay_30 [.int y2, .int x4] [] (mtX0_ofWidth l _ n _ _ _ _ _ hc) gX1_lay_X0_ofWidth rfl hd_X0_ofWidth (by decide) (by decide) rfl rfl (Nat.le_of_ble_eq_true rfl) rfl ?_
      clear hc
      refine q_istore (lv' := [(0, .ref (ad k.1 24)), (1, .ref (ad k.1 1)), (2, .int y2), (3, .int x3), (4, .int x4), (5, .int r_6)]) C dX1_lay_33 (by decide) rfl ?_
      refine q_iconst (v := 0) C dX1_lay_35 (by decide) ?_
      refine q_istore (lv' := [(0, .ref (ad k.1 24)), (1, .ref (ad k.1 1)), (2, .int y2), (3, .int x3), (4, .int x4), (5, .int r_6), (6, .int (0 : Int32))]) C dX1_lay_36 (by decide) rfl ?_
      refine q_sub [0, 1, 2, 3, 4, 5, 6] rfl ?_
      refine lpX1_lay_24_1_L38 C (fun e3_10 T_11 h => ?_) _ _ _ _ h
      refine q_iinc (j := 4) (v := 1) (lv' := [(0, .ref (ad k.1 24)), (1, .ref (ad k.1 1)), (2, .int y2), (3, .int e3_10), (4, .int (x4 + 1))]) C dX1_lay_66 rfl (by decide) (by decide) rfl ?_
      refine q_goto (tgt := 18) C dX1_lay_69 (by decide) ?_
      refine q_sub [0, 1, 2, 3, 4] rfl ?_
      exact ih _ _ _ h
def fX1_lay_24_1 (n : Nat) (p1 : Int32) (T : TS) : Option (TS) := nm (uI T 1200 (0 : Int32)) (fun T_1 => nm (gI T_1 51) (fun x3_2 => bv (fX1_add_24 n x3_2 T_1) (fun T_3 => fX1_lay_24_1_L18 n p1 (fun T_12 => some T_12) n x3_2 (0 : Int32) T_3)))
set_option maxHeartbeats 4000000 in
set_option maxRecDepth 100000 in
theorem mtX1_lay_24_1 (l : Launch) (X : XT) (n : Nat) (p1 : Int32) (T T' : TS) (h : fX1_lay_24_1 n p1 T = some T') : Met l yX1_lay wsX1_lay (RM 1) (PreX X [.ref (ad X 24), .ref (ad X 1), .int p1] T) (QQ X none T') 0 0 (xA X) := by
  refine q_start (by decide) rfl (Nat.le_of_ble_eq_true rfl) ?_
  intro k hk C
  subst hk
  show GW k T 0 [(0, .ref (ad k.1 24)), (1, .ref (ad k.1 1)), (2, .int p1)] []
  unfold fX1_lay_24_1 at h
  refine q_aload_n C dX1_lay_0 rfl 0 rfl ?_
  refine q_iconst (v := 0) C dX1_lay_1 (by decide) ?_
  refine q_putI (j := 0) (ty := .int) C dX1_lay_2 (wE_24 _ _) (wP_24_0 _ _ _) rfl (by decide) (Nat.le_of_ble_eq_true rfl) tyX1 tyX1_ok nmX1 inn_X1_lay_1 (by decide +kernel) rfl rfl (by decide +kernel) rfl rfl h (fun T_1 h => ?_)
  refine q_aload_n C dX1_lay_5 rfl 1 rfl ?_
  refine q_get (j := 1) C dX1_lay_6 (wE_1 _ _) rfl (by decide) rfl inn_X1_lay_4 (by decide +kernel) rfl ?_
  refine q_nm h (fun x3_2 h => ?_)
  refine q_istore_n (lv' := [(0, .ref (ad k.1 24)), (1, .ref (ad k.1 1)), (2, .int p1), (3, .int x3_2)]) C dX1_lay_9 rfl (by decide) rfl ?_
  refine q_aload_n C dX1_lay_10 rfl 0 rfl ?_
  refine q_iload_n C dX1_lay_11 rfl 3 rfl ?_
  obtain ⟨T_3, hc, h⟩ := bv_some h
  refine q_callV (st' := []) C dX1_lay_12 [.int x3_2] [] (mtX1_add_24 l _ n _ _ _ hc) gX1_lay_X1_add rfl hd_X1_add (by decide) (by decide) (wE_24 _ _) rfl rfl rfl (Nat.le_of_ble_eq_true rfl) rfl ?_
  clear hc
  refine q_iconst (v := 0) C dX1_lay_15 (by decide) ?_
  refine q_istore (lv' := [(0, .ref (ad k.1 24)), (1, .ref (ad k.1 1)), (2, .int p1), (3, .int x3_2), (4, .int (0 : Int32))]) C dX1_lay_16 (by decide) rfl ?_
  refine q_sub [0, 1, 2, 3, 4] rfl ?_
  refine lpX1_lay_24_1_L18 C (fun T_12 h => ?_) _ _ _ _ h
  exact q_vreturn C dX1_lay_72 h
def fX1_add_22 (n : Nat) (p0 : Int32) (T : TS) : Option (TS) := if (21 : Int32) ≤ (gI T 1100) then some T else ck (gI T 1100) 21 (nm (sA T 23 (gI T 1100) p0) (fun T_1 => nm (uI T_1 1100 ((gI T_1 1100) + (1 : Int32))) (fun T_2 => some T_2)))
set_option maxHeartbeats 4000000 in
set_option maxRecDepth 100000 in
theorem mtX1_add_22 (l : Launch) (X : XT) (n : Nat) (p0 : Int32) (T T' : TS) (h : fX1_add_22 n p0 T = some T') : Met l yX1_add wsX1_add (RM 0) (PreX X [.ref (ad X 22), .int p0] T) (QQ X none T') 0 0 (xA X) := by
  refine q_start (by decide) rfl (Nat.le_of_ble_eq_true rfl) ?_
  intro k hk C
  subst hk
  show GW k T 0 [(0, .ref (ad k.1 22)), (1, .int p0)] []
  unfold fX1_add_22 at h
  refine q_aload_n C dX1_add_0 rfl 0 rfl ?_
  refine q_get (j := 0) C dX1_add_1 (wE_22 _ _) rfl (by decide) rfl inn_X1_add_1 (by decide +kernel) rfl ?_
  refine q_aload_n C dX1_add_4 rfl 0 rfl ?_
  refine q_get (j := 1) C dX1_add_5 (wE_22 _ _) rfl (by decide) rfl inn_X1_add_1 (by decide +kernel) rfl ?_
  refine q_alen (v := 21) C dX1_add_8 (wE_23 _ _) (by decide) ?_
  refine q_icmp_ge (tgt := 32) C dX1_add_9 (by decide) h (fun c h => ?_) (fun c h => ?_)
  · exact q_vreturn C dX1_add_32 h
  · refine q_aload_n C dX1_add_12 rfl 0 rfl ?_
    refine q_get (j := 1) C dX1_add_13 (wE_22 _ _) rfl (by decide) rfl inn_X1_add_1 (by decide +kernel) rfl ?_
    refine q_aload_n C dX1_add_16 rfl 0 rfl ?_
    refine q_get (j := 0) C dX1_add_17 (wE_22 _ _) rfl (by decide) rfl inn_X1_add_1 (by decide +kernel) rfl ?_
    refine q_iload_n C dX1_add_20 rfl 1 rfl ?_
    refine q_iast C dX1_add_21 (wE_23 _ _) (wS_23 _ _) h (fun T_1 h => ?_)
    refine q_aload_n C dX1_add_22 rfl 0 rfl ?_
    refine q_dup C dX1_add_23 rfl ?_
    refine q_get (j := 0) C dX1_add_24 (wE_22 _ _) rfl (by decide) rfl inn_X1_add_1 (by decide +kernel) rfl ?_
    refine q_iconst (v := 1) C dX1_add_27 (by decide) ?_
    refine q_iadd C dX1_add_28 ?_
    refine q_putI (j := 0) (ty := .int) C dX1_add_29 (wE_22 _ _) (wP_22_0 _ _ _) rfl (by decide) (Nat.le_of_ble_eq_true rfl) tyX1 tyX1_ok nmX1 inn_X1_add_1 (by decide +kernel) rfl rfl (by decide +kernel) rfl rfl h (fun T_2 h => ?_)
    exact q_vreturn C dX1_add_32 h
def fX1_lay_22_1_L38 (n : Nat) (y2 : Int32) (y4 : Int32) (y5 : Int32) (kk : Int32 → TS → Option (TS)) : Nat → Int32 → Int32 → TS → Option (TS)
  | 0, _, _, _ => none
  | fuel + 1, x3, x6, T => if y5 ≤ x6 then kk x3 T else ck y4 6 (nm (x3 + (gA T 2 (Int32.toNatClampNeg y4))) (fun x3_7 => bv (fX1_add_22 n x3_7 T) (fun T_8 => fX1_lay_22_1_L38 n y2 y4 y5 kk fuel x3_7 (x6 + 1) T_8)))
set_option maxHeartbeats 4000000 in
set_option maxRecDepth 100000 in
theorem lpX1_lay_22_1_L38 {l : Launch} {k : KT} {n : Nat} {y2 : Int32} {y4 : Int32} {y5 : Int32} {kk : Int32 → TS → Option (TS)} {T' : TS} (C : CX l k 7 cX1_lay RX1 wsX1_lay 1 none (none, T')) (hk : ∀ e3 T1, kk e3 T1 = some T' → GW k T1 66 [(0, .ref (ad k.1 22)), (1, .ref (ad k.1 1)), (2, .int y2), (3, .int e3), (4, .int y4)] []) : ∀ (fuel : Nat) (x3 : Int32) (x6 : Int32) (T : TS), fX1_lay_22_1_L38 n y2 y4 y5 kk fuel x3 x6 T = some T' → GW k T 38 [(0, .ref (ad k.1 22)), (1, .ref (ad k.1 1)), (2, .int y2), (3, .int x3), (4, .int y4), (5, .int y5), (6, .int x6)] [] := by
  intro fuel
  induction fuel with
  | zero => intro x3 x6 T h; cases h
  | succ fuel ih =>
    intro x3 x6 T h
    rw [fX1_lay_22_1_L38] at h
    refine q_iload C dX1_lay_38 6 rfl ?_
    refine q_iload C dX1_lay_40 5 rfl ?_
    refine q_icmp_ge (tgt := 66) C dX1_lay_42 (by decide) h (fun c h => ?_) (fun c h => ?_)
    · refine q_sub [0, 1, 2, 3, 4] rfl ?_
      exact hk _ _ h
    · refine q_iload_n C dX1_lay_45 rfl 3 rfl ?_
      refine q_aload_n C dX1_lay_46 rfl 1 rfl ?_
      refine q_get (j := 6) C dX1_lay_47 (wE_1 _ _) rfl (by decide) rfl inn_X1_lay_4 (by decide +kernel) rfl ?_
      refine q_iload C dX1_lay_50 4 rfl ?_
      refine q_iald C dX1_lay_52 (wE_2 _ _) h (fun h => ?_)
      refine q_iadd C dX1_lay_53 ?_
      refine q_nm h (fun x3_7 h => ?_)
      refine q_istore_n (lv' := [(0, .ref (ad k.1 22)), (1, .ref (ad k.1 1)), (2, .int y2), (3, .int x3_7), (4, .int y4), (5, .int y5), (6, .int x6)]) C dX1_lay_54 rfl (by decide) rfl ?_
      refine q_aload_n C dX1_lay_55 rfl 0 rfl ?_
      refine q_iload_n C dX1_lay_56 rfl 3 rfl ?_
      obtain ⟨T_8, hc, h⟩ := bv_some h
      refine q_callV (st' := []) C dX1_lay_57 [.int x3_7] [] (mtX1_add_22 l _ n _ _ _ hc) gX1_lay_X1_add rfl hd_X1_add (by decide) (by decide) (wE_22 _ _) rfl rfl rfl (Nat.le_of_ble_eq_true rfl) rfl ?_
      clear hc
      refine q_iinc (j := 6) (v := 1) (lv' := [(0, .ref (ad k.1 22)), (1, .ref (ad k.1 1)), (2, .int y2), (3, .int x3_7), (4, .int y4), (5, .int y5), (6, .int (x6 + 1))]) C dX1_lay_60 rfl (by decide) (by decide) rfl ?_
      refine q_goto (tgt := 38) C dX1_lay_63 (by decide) ?_
      refine q_sub [0, 1, 2, 3, 4, 5, 6] rfl ?_
      exact ih _ _ _ h
def fX1_lay_22_1_L18 (n : Nat) (y2 : Int32) (kk : TS → Option (TS)) : Nat → Int32 → Int32 → TS → Option (TS)
  | 0, _, _, _ => none
  | fuel + 1, x3, x4, T => if (gI T 55) ≤ x4 then kk T else bd (fX0_ofWidth n y2 x4 T) (fun r_6 T_5 => fX1_lay_22_1_L38 n y2 x4 r_6 (fun e3_10 T_11 => fX1_lay_22_1_L18 n y2 kk fuel e3_10 (x4 + 1) T_11) n x3 (0 : Int32) T_5)
set_option maxHeartbeats 4000000 in
set_option maxRecDepth 100000 in
theorem lpX1_lay_22_1_L18 {l : Launch} {k : KT} {n : Nat} {y2 : Int32} {kk : TS → Option (TS)} {T' : TS} (C : CX l k 7 cX1_lay RX1 wsX1_lay 1 none (none, T')) (hk : ∀ T1, kk T1 = some T' → GW k T1 72 [] []) : ∀ (fuel : Nat) (x3 : Int32) (x4 : Int32) (T : TS), fX1_lay_22_1_L18 n y2 kk fuel x3 x4 T = some T' → GW k T 18 [(0, .ref (ad k.1 22)), (1, .ref (ad k.1 1)), (2, .int y2), (3, .int x3), (4, .int x4)] [] := by
  intro fuel
  induction fuel with
  | zero => intro x3 x4 T h; cases h
  | succ fuel ih =>
    intro x3 x4 T h
    rw [fX1_lay_22_1_L18] at h
    refine q_iload C dX1_lay_18 4 rfl ?_
    refine q_aload_n C dX1_lay_20 rfl 1 rfl ?_
    refine q_get (j := 5) C dX1_lay_21 (wE_1 _ _) rfl (by decide) rfl inn_X1_lay_4 (by decide +kernel) rfl ?_
    refine q_icmp_ge (tgt := 72) C dX1_lay_24 (by decide) h (fun c h => ?_) (fun c h => ?_)
    · refine q_sub [] rfl ?_
      exact hk _ h
    · refine q_iload_n C dX1_lay_27 rfl 2 rfl ?_
      refine q_iload C dX1_lay_28 4 rfl ?_
      obtain ⟨r_6, T_5, hc, h⟩ := bd_some h
      refine q_callS (st' := [.int r_6]) C dX1_lay_30 [.int y2, .int x4] [] (mtX0_ofWidth l _ n _ _ _ _ _ hc) gX1_lay_X0_ofWidth rfl hd_X0_ofWidth (by decide) (by decide) rfl rfl (Nat.le_of_ble_eq_true rfl) rfl ?_
      clear hc
      refine q_istore (lv' := [(0, .ref (ad k.1 22)), (1, .ref (ad k.1 1)), (2, .int y2), (3, .int x3), (4, .int x4), (5, .int r_6)]) C dX1_lay_33 (by decide) rfl ?_
      refine q_iconst (v := 0) C dX1_lay_35 (by decide) ?_
      refine q_istore (lv' := [(0, .ref (ad k.1 22)), (1, .ref (ad k.1 1)), (2, .int y2), (3, .int x3), (4, .int x4), (5, .int r_6), (6, .int (0 : Int32))]) C dX1_lay_36 (by decide) rfl ?_
      refine q_sub [0, 1, 2, 3, 4, 5, 6] rfl ?_
      refine lpX1_lay_22_1_L38 C (fun e3_10 T_11 h => ?_) _ _ _ _ h
      refine q_iinc (j := 4) (v := 1) (lv' := [(0, .ref (ad k.1 22)), (1, .ref (ad k.1 1)), (2, .int y2), (3, .int e3_10), (4, .int (x4 + 1))]) C dX1_lay_66 rfl (by decide) (by decide) rfl ?_
      refine q_goto (tgt := 18) C dX1_lay_69 (by decide) ?_
      refine q_sub [0, 1, 2, 3, 4] rfl ?_
      exact ih _ _ _ h
def fX1_lay_22_1 (n : Nat) (p1 : Int32) (T : TS) : Option (TS) := nm (uI T 1100 (0 : Int32)) (fun T_1 => nm (gI T_1 51) (fun x3_2 => bv (fX1_add_22 n x3_2 T_1) (fun T_3 => fX1_lay_22_1_L18 n p1 (fun T_12 => some T_12) n x3_2 (0 : Int32) T_3)))
set_option maxHeartbeats 4000000 in
set_option maxRecDepth 100000 in
theorem mtX1_lay_22_1 (l : Launch) (X : XT) (n : Nat) (p1 : Int32) (T T' : TS) (h : fX1_lay_22_1 n p1 T = some T') : Met l yX1_lay wsX1_lay (RM 1) (PreX X [.ref (ad X 22), .ref (ad X 1), .int p1] T) (QQ X none T') 0 0 (xA X) := by
  refine q_start (by decide) rfl (Nat.le_of_ble_eq_true rfl) ?_
  intro k hk C
  subst hk
  show GW k T 0 [(0, .ref (ad k.1 22)), (1, .ref (ad k.1 1)), (2, .int p1)] []
  unfold fX1_lay_22_1 at h
  refine q_aload_n C dX1_lay_0 rfl 0 rfl ?_
  refine q_iconst (v := 0) C dX1_lay_1 (by decide) ?_
  refine q_putI (j := 0) (ty := .int) C dX1_lay_2 (wE_22 _ _) (wP_22_0 _ _ _) rfl (by decide) (Nat.le_of_ble_eq_true rfl) tyX1 tyX1_ok nmX1 inn_X1_lay_1 (by decide +kernel) rfl rfl (by decide +kernel) rfl rfl h (fun T_1 h => ?_)
  refine q_aload_n C dX1_lay_5 rfl 1 rfl ?_
  refine q_get (j := 1) C dX1_lay_6 (wE_1 _ _) rfl (by decide) rfl inn_X1_lay_4 (by decide +kernel) rfl ?_
  refine q_nm h (fun x3_2 h => ?_)
  refine q_istore_n (lv' := [(0, .ref (ad k.1 22)), (1, .ref (ad k.1 1)), (2, .int p1), (3, .int x3_2)]) C dX1_lay_9 rfl (by decide) rfl ?_
  refine q_aload_n C dX1_lay_10 rfl 0 rfl ?_
  refine q_iload_n C dX1_lay_11 rfl 3 rfl ?_
  obtain ⟨T_3, hc, h⟩ := bv_some h
  refine q_callV (st' := []) C dX1_lay_12 [.int x3_2] [] (mtX1_add_22 l _ n _ _ _ hc) gX1_lay_X1_add rfl hd_X1_add (by decide) (by decide) (wE_22 _ _) rfl rfl rfl (Nat.le_of_ble_eq_true rfl) rfl ?_
  clear hc
  refine q_iconst (v := 0) C dX1_lay_15 (by decide) ?_
  refine q_istore (lv' := [(0, .ref (ad k.1 22)), (1, .ref (ad k.1 1)), (2, .int p1), (3, .int x3_2), (4, .int (0 : Int32))]) C dX1_lay_16 (by decide) rfl ?_
  refine q_sub [0, 1, 2, 3, 4] rfl ?_
  refine lpX1_lay_22_1_L18 C (fun T_12 h => ?_) _ _ _ _ h
  exact q_vreturn C dX1_lay_72 h
def fX1_movesFrom_24_20_L16 (n : Nat) (y2 : Int32) (y4 : Int32) (kk : Int32 → TS → Option (Int32 × TS)) : Nat → Int32 → TS → Option (Int32 × TS)
  | 0, _, _ => none
  | fuel + 1, x3, T => if (gI T 1000) ≤ x3 then kk x3 T else ck x3 21 (ck y4 21 (if (gA T 25 (Int32.toNatClampNeg y4)) ≤ (gA T 21 (Int32.toNatClampNeg x3)) then kk x3 T else fX1_movesFrom_24_20_L16 n y2 y4 kk fuel (x3 + 1) T))
set_option maxHeartbeats 4000000 in
set_option maxRecDepth 100000 in
theorem lpX1_movesFrom_24_20_L16 {l : Launch} {k : KT} {n : Nat} {y2 : Int32} {y4 : Int32} {kk : Int32 → TS → Option (Int32 × TS)} {r : Int32} {T' : TS} (C : CX l k 5 cX1_movesFrom RX1 wsX1_movesFrom 0 (some .int) (some (.int r), T')) (hk : ∀ e3 T1, kk e3 T1 = some (r, T') → GW k T1 46 [(0, .ref (ad k.1 24)), (1, .ref (ad k.1 20)), (2, .int y2), (3, .int e3), (4, .int y4)] []) : ∀ (fuel : Nat) (x3 : Int32) (T : TS), fX1_movesFrom_24_20_L16 n y2 y4 kk fuel x3 T = some (r, T') → GW k T 16 [(0, .ref (ad k.1 24)), (1, .ref (ad k.1 20)), (2, .int y2), (3, .int x3), (4, .int y4)] [] := by
  intro fuel
  induction fuel with
  | zero => intro x3 T h; cases h
  | succ fuel ih =>
    intro x3 T h
    rw [fX1_movesFrom_24_20_L16] at h
    refine q_iload_n C dX1_movesFrom_16 rfl 3 rfl ?_
    refine q_aload_n C dX1_movesFrom_17 rfl 1 rfl ?_
    refine q_get (j := 0) C dX1_movesFrom_18 (wE_20 _ _) rfl (by decide) rfl inn_X1_movesFrom_1 (by decide +kernel) rfl ?_
    refine q_icmp_ge (tgt := 46) C dX1_movesFrom_21 (by decide) h (fun c h => ?_) (fun c h => ?_)
    · refine q_sub [0, 1, 2, 3, 4] rfl ?_
      exact hk _ _ h
    · refine q_aload_n C dX1_movesFrom_24 rfl 1 rfl ?_
      refine q_get (j := 1) C dX1_movesFrom_25 (wE_20 _ _) rfl (by decide) rfl inn_X1_movesFrom_1 (by decide +kernel) rfl ?_
      refine q_iload_n C dX1_movesFrom_28 rfl 3 rfl ?_
      refine q_iald C dX1_movesFrom_29 (wE_21 _ _) h (fun h => ?_)
      refine q_aload_n C dX1_movesFrom_30 rfl 0 rfl ?_
      refine q_get (j := 1) C dX1_movesFrom_31 (wE_24 _ _) rfl (by decide) rfl inn_X1_movesFrom_1 (by decide +kernel) rfl ?_
      refine q_iload C dX1_movesFrom_34 4 rfl ?_
      refine q_iald C dX1_movesFrom_36 (wE_25 _ _) h (fun h => ?_)
      refine q_icmp_ge (tgt := 46) C dX1_movesFrom_37 (by decide) h (fun c h => ?_) (fun c h => ?_)
      · refine q_sub [0, 1, 2, 3, 4] rfl ?_
        exact hk _ _ h
      · refine q_iinc (j := 3) (v := 1) (lv' := [(0, .ref (ad k.1 24)), (1, .ref (ad k.1 20)), (2, .int y2), (3, .int (x3 + 1)), (4, .int y4)]) C dX1_movesFrom_40 rfl (by decide) (by decide) rfl ?_
        refine q_goto (tgt := 16) C dX1_movesFrom_43 (by decide) ?_
        refine q_sub [0, 1, 2, 3, 4] rfl ?_
        exact ih _ _ h
def fX1_movesFrom_24_20_L7 (n : Nat) (kk : Int32 → TS → Option (Int32 × TS)) : Nat → Int32 → Int32 → Int32 → TS → Option (Int32 × TS)
  | 0, _, _, _, _ => none
  | fuel + 1, x2, x3, x4, T => if (gI T 1200) ≤ x4 then kk x2 T else fX1_movesFrom_24_20_L16 n x2 x4 (fun e3_1 T_2 => if (gI T_2 1000) ≤ e3_1 then fX1_movesFrom_24_20_L7 n kk fuel (x2 + 1) e3_1 (x4 + 1) T_2 else ck e3_1 21 (ck x4 21 (if (gA T_2 21 (Int32.toNatClampNeg e3_1)) = (gA T_2 25 (Int32.toNatClampNeg x4)) then fX1_movesFrom_24_20_L7 n kk fuel x2 e3_1 (x4 + 1) T_2 else fX1_movesFrom_24_20_L7 n kk fuel (x2 + 1) e3_1 (x4 + 1) T_2))) n x3 T
set_option maxHeartbeats 4000000 in
set_option maxRecDepth 100000 in
theorem lpX1_movesFrom_24_20_L7 {l : Launch} {k : KT} {n : Nat} {kk : Int32 → TS → Option (Int32 × TS)} {r : Int32} {T' : TS} (C : CX l k 5 cX1_movesFrom RX1 wsX1_movesFrom 0 (some .int) (some (.int r), T')) (hk : ∀ e2 T1, kk e2 T1 = some (r, T') → GW k T1 79 [(2, .int e2)] []) : ∀ (fuel : Nat) (x2 : Int32) (x3 : Int32) (x4 : Int32) (T : TS), fX1_movesFrom_24_20_L7 n kk fuel x2 x3 x4 T = some (r, T') → GW k T 7 [(0, .ref (ad k.1 24)), (1, .ref (ad k.1 20)), (2, .int x2), (3, .int x3), (4, .int x4)] [] := by
  intro fuel
  induction fuel with
  | zero => intro x2 x3 x4 T h; cases h
  | succ fuel ih =>
    intro x2 x3 x4 T h
    rw [fX1_movesFrom_24_20_L7] at h
    refine q_iload C dX1_movesFrom_7 4 rfl ?_
    refine q_aload_n C dX1_movesFrom_9 rfl 0 rfl ?_
    refine q_get (j := 0) C dX1_movesFrom_10 (wE_24 _ _) rfl (by decide) rfl inn_X1_movesFrom_1 (by decide +kernel) rfl ?_
    refine q_icmp_ge (tgt := 79) C dX1_movesFrom_13 (by decide) h (fun c h => ?_) (fun c h => ?_)
    · refine q_sub [2] rfl ?_
      exact hk _ _ h
    · refine q_sub [0, 1, 2, 3, 4] rfl ?_
      refine lpX1_movesFrom_24_20_L16 C (fun e3_1 T_2 h => ?_) _ _ _ h
      refine q_iload_n C dX1_movesFrom_46 rfl 3 rfl ?_
      refine q_aload_n C dX1_movesFrom_47 rfl 1 rfl ?_
      refine q_get (j := 0) C dX1_movesFrom_48 (wE_20 _ _) rfl (by decide) rfl inn_X1_movesFrom_1 (by decide +kernel) rfl ?_
      refine q_icmp_ge (tgt := 70) C dX1_movesFrom_51 (by decide) h (fun c h => ?_) (fun c h => ?_)
      · refine q_iinc (j := 2) (v := 1) (lv' := [(0, .ref (ad k.1 24)), (1, .ref (ad k.1 20)), (2, .int (x2 + 1)), (3, .int e3_1), (4, .int x4)]) C dX1_movesFrom_70 rfl (by decide) (by decide) rfl ?_
        refine q_iinc (j := 4) (v := 1) (lv' := [(0, .ref (ad k.1 24)), (1, .ref (ad k.1 20)), (2, .int (x2 + 1)), (3, .int e3_1), (4, .int (x4 + 1))]) C dX1_movesFrom_73 rfl (by decide) (by decide) rfl ?_
        refine q_goto (tgt := 7) C dX1_movesFrom_76 (by decide) ?_
        refine q_sub [0, 1, 2, 3, 4] rfl ?_
        exact ih _ _ _ _ h
      · refine q_aload_n C dX1_movesFrom_54 rfl 1 rfl ?_
        refine q_get (j := 1) C dX1_movesFrom_55 (wE_20 _ _) rfl (by decide) rfl inn_X1_movesFrom_1 (by decide +kernel) rfl ?_
        refine q_iload_n C dX1_movesFrom_58 rfl 3 rfl ?_
        refine q_iald C dX1_movesFrom_59 (wE_21 _ _) h (fun h => ?_)
        refine q_aload_n C dX1_movesFrom_60 rfl 0 rfl ?_
        refine q_get (j := 1) C dX1_movesFrom_61 (wE_24 _ _) rfl (by decide) rfl inn_X1_movesFrom_1 (by decide +kernel) rfl ?_
        refine q_iload C dX1_movesFrom_64 4 rfl ?_
        refine q_iald C dX1_movesFrom_66 (wE_25 _ _) h (fun h => ?_)
        refine q_icmp_eq (tgt := 73) C dX1_movesFrom_67 (by decide) h (fun c h => ?_) (fun c h => ?_)
        · refine q_iinc (j := 4) (v := 1) (lv' := [(0, .ref (ad k.1 24)), (1, .ref (ad k.1 20)), (2, .int x2), (3, .int e3_1), (4, .int (x4 + 1))]) C dX1_movesFrom_73 rfl (by decide) (by decide) rfl ?_
          refine q_goto (tgt := 7) C dX1_movesFrom_76 (by decide) ?_
          refine q_sub [0, 1, 2, 3, 4] rfl ?_
          exact ih _ _ _ _ h
        · refine q_iinc (j := 2) (v := 1) (lv' := [(0, .ref (ad k.1 24)), (1, .ref (ad k.1 20)), (2, .int (x2 + 1)), (3, .int e3_1), (4, .int x4)]) C dX1_movesFrom_70 rfl (by decide) (by decide) rfl ?_
          refine q_iinc (j := 4) (v := 1) (lv' := [(0, .ref (ad k.1 24)), (1, .ref (ad k.1 20)), (2, .int (x2 + 1)), (3, .int e3_1), (4, .int (x4 + 1))]) C dX1_movesFrom_73 rfl (by decide) (by decide) rfl ?_
          refine q_goto (tgt := 7) C dX1_movesFrom_76 (by decide) ?_
          refine q_sub [0, 1, 2, 3, 4] rfl ?_
          exact ih _ _ _ _ h
def fX1_movesFrom_24_20 (n : Nat) (T : TS) : Option (Int32 × TS) := fX1_movesFrom_24_20_L7 n (fun e2_3 T_4 => some (e2_3, T_4)) n (0 : Int32) (0 : Int32) (0 : Int32) T
set_option maxHeartbeats 4000000 in
set_option maxRecDepth 100000 in
theorem mtX1_movesFrom_24_20 (l : Launch) (X : XT) (n : Nat) (T T' : TS) (r : Int32) (h : fX1_movesFrom_24_20 n T = some (r, T')) : Met l yX1_movesFrom wsX1_movesFrom (RM 0) (PreX X [.ref (ad X 24), .ref (ad X 20)] T) (QQ X (some (.int r)) T') 0 0 (xA X) := by
  refine q_start (by decide) rfl (Nat.le_of_ble_eq_true rfl) ?_
  intro k hk C
  subst hk
  show GW k T 0 [(0, .ref (ad k.1 24)), (1, .ref (ad k.1 20))] []
  unfold fX1_movesFrom_24_20 at h
  refine q_iconst (v := 0) C dX1_movesFrom_0 (by decide) ?_
  refine q_istore_n (lv' := [(0, .ref (ad k.1 24)), (1, .ref (ad k.1 20)), (2, .int (0 : Int32))]) C dX1_movesFrom_1 rfl (by decide) rfl ?_
  refine q_iconst (v := 0) C dX1_movesFrom_2 (by decide) ?_
  refine q_istore_n (lv' := [(0, .ref (ad k.1 24)), (1, .ref (ad k.1 20)), (2, .int (0 : Int32)), (3, .int (0 : Int32))]) C dX1_movesFrom_3 rfl (by decide) rfl ?_
  refine q_iconst (v := 0) C dX1_movesFrom_4 (by decide) ?_
  refine q_istore (lv' := [(0, .ref (ad k.1 24)), (1, .ref (ad k.1 20)), (2, .int (0 : Int32)), (3, .int (0 : Int32)), (4, .int (0 : Int32))]) C dX1_movesFrom_5 (by decide) rfl ?_
  refine q_sub [0, 1, 2, 3, 4] rfl ?_
  refine lpX1_movesFrom_24_20_L7 C (fun e2_3 T_4 h => ?_) _ _ _ _ _ h
  refine q_iload_n C dX1_movesFrom_79 rfl 0 rfl ?_
  exact q_ireturn C dX1_movesFrom_80 h
def fX1_movesFrom_24_22_L16 (n : Nat) (y2 : Int32) (y4 : Int32) (kk : Int32 → TS → Option (Int32 × TS)) : Nat → Int32 → TS → Option (Int32 × TS)
  | 0, _, _ => none
  | fuel + 1, x3, T => if (gI T 1100) ≤ x3 then kk x3 T else ck x3 21 (ck y4 21 (if (gA T 25 (Int32.toNatClampNeg y4)) ≤ (gA T 23 (Int32.toNatClampNeg x3)) then kk x3 T else fX1_movesFrom_24_22_L16 n y2 y4 kk fuel (x3 + 1) T))
set_option maxHeartbeats 4000000 in
set_option maxRecDepth 100000 in
theorem lpX1_movesFrom_24_22_L16 {l : Launch} {k : KT} {n : Nat} {y2 : Int32} {y4 : Int32} {kk : Int32 → TS → Option (Int32 × TS)} {r : Int32} {T' : TS} (C : CX l k 5 cX1_movesFrom RX1 wsX1_movesFrom 0 (some .int) (some (.int r), T')) (hk : ∀ e3 T1, kk e3 T1 = some (r, T') → GW k T1 46 [(0, .ref (ad k.1 24)), (1, .ref (ad k.1 22)), (2, .int y2), (3, .int e3), (4, .int y4)] []) : ∀ (fuel : Nat) (x3 : Int32) (T : TS), fX1_movesFrom_24_22_L16 n y2 y4 kk fuel x3 T = some (r, T') → GW k T 16 [(0, .ref (ad k.1 24)), (1, .ref (ad k.1 22)), (2, .int y2), (3, .int x3), (4, .int y4)] [] := by
  intro fuel
  induction fuel with
  | zero => intro x3 T h; cases h
  | succ fuel ih =>
    intro x3 T h
    rw [fX1_movesFrom_24_22_L16] at h
    refine q_iload_n C dX1_movesFrom_16 rfl 3 rfl ?_
    refine q_aload_n C dX1_movesFrom_17 rfl 1 rfl ?_
    refine q_get (j := 0) C dX1_movesFrom_18 (wE_22 _ _) rfl (by decide) rfl inn_X1_movesFrom_1 (by decide +kernel) rfl ?_
    refine q_icmp_ge (tgt := 46) C dX1_movesFrom_21 (by decide) h (fun c h => ?_) (fun c h => ?_)
    · refine q_sub [0, 1, 2, 3, 4] rfl ?_
      exact hk _ _ h
    · refine q_aload_n C dX1_movesFrom_24 rfl 1 rfl ?_
      refine q_get (j := 1) C dX1_movesFrom_25 (wE_22 _ _) rfl (by decide) rfl inn_X1_movesFrom_1 (by decide +kernel) rfl ?_
      refine q_iload_n C dX1_movesFrom_28 rfl 3 rfl ?_
      refine q_iald C dX1_movesFrom_29 (wE_23 _ _) h (fun h => ?_)
      refine q_aload_n C dX1_movesFrom_30 rfl 0 rfl ?_
      refine q_get (j := 1) C dX1_movesFrom_31 (wE_24 _ _) rfl (by decide) rfl inn_X1_movesFrom_1 (by decide +kernel) rfl ?_
      refine q_iload C dX1_movesFrom_34 4 rfl ?_
      refine q_iald C dX1_movesFrom_36 (wE_25 _ _) h (fun h => ?_)
      refine q_icmp_ge (tgt := 46) C dX1_movesFrom_37 (by decide) h (fun c h => ?_) (fun c h => ?_)
      · refine q_sub [0, 1, 2, 3, 4] rfl ?_
        exact hk _ _ h
      · refine q_iinc (j := 3) (v := 1) (lv' := [(0, .ref (ad k.1 24)), (1, .ref (ad k.1 22)), (2, .int y2), (3, .int (x3 + 1)), (4, .int y4)]) C dX1_movesFrom_40 rfl (by decide) (by decide) rfl ?_
        refine q_goto (tgt := 16) C dX1_movesFrom_43 (by decide) ?_
        refine q_sub [0, 1, 2, 3, 4] rfl ?_
        exact ih _ _ h
def fX1_movesFrom_24_22_L7 (n : Nat) (kk : Int32 → TS → Option (Int32 × TS)) : Nat → Int32 → Int32 → Int32 → TS → Option (Int32 × TS)
  | 0, _, _, _, _ => none
  | fuel + 1, x2, x3, x4, T => if (gI T 1200) ≤ x4 then kk x2 T else fX1_movesFrom_24_22_L16 n x2 x4 (fun e3_1 T_2 => if (gI T_2 1100) ≤ e3_1 then fX1_movesFrom_24_22_L7 n kk fuel (x2 + 1) e3_1 (x4 + 1) T_2 else ck e3_1 21 (ck x4 21 (if (gA T_2 23 (Int32.toNatClampNeg e3_1)) = (gA T_2 25 (Int32.toNatClampNeg x4)) then fX1_movesFrom_24_22_L7 n kk fuel x2 e3_1 (x4 + 1) T_2 else fX1_movesFrom_24_22_L7 n kk fuel (x2 + 1) e3_1 (x4 + 1) T_2))) n x3 T
set_option maxHeartbeats 4000000 in
set_option maxRecDepth 100000 in
theorem lpX1_movesFrom_24_22_L7 {l : Launch} {k : KT} {n : Nat} {kk : Int32 → TS → Option (Int32 × TS)} {r : Int32} {T' : TS} (C : CX l k 5 cX1_movesFrom RX1 wsX1_movesFrom 0 (some .int) (some (.int r), T')) (hk : ∀ e2 T1, kk e2 T1 = some (r, T') → GW k T1 79 [(2, .int e2)] []) : ∀ (fuel : Nat) (x2 : Int32) (x3 : Int32) (x4 : Int32) (T : TS), fX1_movesFrom_24_22_L7 n kk fuel x2 x3 x4 T = some (r, T') → GW k T 7 [(0, .ref (ad k.1 24)), (1, .ref (ad k.1 22)), (2, .int x2), (3, .int x3), (4, .int x4)] [] := by
  intro fuel
  induction fuel with
  | zero => intro x2 x3 x4 T h; cases h
  | succ fuel ih =>
    intro x2 x3 x4 T h
    rw [fX1_movesFrom_24_22_L7] at h
    refine q_iload C dX1_movesFrom_7 4 rfl ?_
    refine q_aload_n C dX1_movesFrom_9 rfl 0 rfl ?_
    refine q_get (j := 0) C dX1_movesFrom_10 (wE_24 _ _) rfl (by decide) rfl inn_X1_movesFrom_1 (by decide +kernel) rfl ?_
    refine q_icmp_ge (tgt := 79) C dX1_movesFrom_13 (by decide) h (fun c h => ?_) (fun c h => ?_)
    · refine q_sub [2] rfl ?_
      exact hk _ _ h
    · refine q_sub [0, 1, 2, 3, 4] rfl ?_
      refine lpX1_movesFrom_24_22_L16 C (fun e3_1 T_2 h => ?_) _ _ _ h
      refine q_iload_n C dX1_movesFrom_46 rfl 3 rfl ?_
      refine q_aload_n C dX1_movesFrom_47 rfl 1 rfl ?_
      refine q_get (j := 0) C dX1_movesFrom_48 (wE_22 _ _) rfl (by decide) rfl inn_X1_movesFrom_1 (by decide +kernel) rfl ?_
      refine q_icmp_ge (tgt := 70) C dX1_movesFrom_51 (by decide) h (fun c h => ?_) (fun c h => ?_)
      · refine q_iinc (j := 2) (v := 1) (lv' := [(0, .ref (ad k.1 24)), (1, .ref (ad k.1 22)), (2, .int (x2 + 1)), (3, .int e3_1), (4, .int x4)]) C dX1_movesFrom_70 rfl (by decide) (by decide) rfl ?_
        refine q_iinc (j := 4) (v := 1) (lv' := [(0, .ref (ad k.1 24)), (1, .ref (ad k.1 22)), (2, .int (x2 + 1)), (3, .int e3_1), (4, .int (x4 + 1))]) C dX1_movesFrom_73 rfl (by decide) (by decide) rfl ?_
        refine q_goto (tgt := 7) C dX1_movesFrom_76 (by decide) ?_
        refine q_sub [0, 1, 2, 3, 4] rfl ?_
        exact ih _ _ _ _ h
      · refine q_aload_n C dX1_movesFrom_54 rfl 1 rfl ?_
        refine q_get (j := 1) C dX1_movesFrom_55 (wE_22 _ _) rfl (by decide) rfl inn_X1_movesFrom_1 (by decide +kernel) rfl ?_
        refine q_iload_n C dX1_movesFrom_58 rfl 3 rfl ?_
        refine q_iald C dX1_movesFrom_59 (wE_23 _ _) h (fun h => ?_)
        refine q_aload_n C dX1_movesFrom_60 rfl 0 rfl ?_
        refine q_get (j := 1) C dX1_movesFrom_61 (wE_24 _ _) rfl (by decide) rfl inn_X1_movesFrom_1 (by decide +kernel) rfl ?_
        refine q_iload C dX1_movesFrom_64 4 rfl ?_
        refine q_iald C dX1_movesFrom_66 (wE_25 _ _) h (fun h => ?_)
        refine q_icmp_eq (tgt := 73) C dX1_movesFrom_67 (by decide) h (fun c h => ?_) (fun c h => ?_)
        · refine q_iinc (j := 4) (v := 1) (lv' := [(0, .ref (ad k.1 24)), (1, .ref (ad k.1 22)), (2, .int x2), (3, .int e3_1), (4, .int (x4 + 1))]) C dX1_movesFrom_73 rfl (by decide) (by decide) rfl ?_
          refine q_goto (tgt := 7) C dX1_movesFrom_76 (by decide) ?_
          refine q_sub [0, 1, 2, 3, 4] rfl ?_
          exact ih _ _ _ _ h
        · refine q_iinc (j := 2) (v := 1) (lv' := [(0, .ref (ad k.1 24)), (1, .ref (ad k.1 22)), (2, .int (x2 + 1)), (3, .int e3_1), (4, .int x4)]) C dX1_movesFrom_70 rfl (by decide) (by decide) rfl ?_
          refine q_iinc (j := 4) (v := 1) (lv' := [(0, .ref (ad k.1 24)), (1, .ref (ad k.1 22)), (2, .int (x2 + 1)), (3, .int e3_1), (4, .int (x4 + 1))]) C dX1_movesFrom_73 rfl (by decide) (by decide) rfl ?_
          refine q_goto (tgt := 7) C dX1_movesFrom_76 (by decide) ?_
          refine q_sub [0, 1, 2, 3, 4] rfl ?_
          exact ih _ _ _ _ h
def fX1_movesFrom_24_22 (n : Nat) (T : TS) : Option (Int32 × TS) := fX1_movesFrom_24_22_L7 n (fun e2_3 T_4 => some (e2_3, T_4)) n (0 : Int32) (0 : Int32) (0 : Int32) T
set_option maxHeartbeats 4000000 in
set_option maxRecDepth 100000 in
theorem mtX1_movesFrom_24_22 (l : Launch) (X : XT) (n : Nat) (T T' : TS) (r : Int32) (h : fX1_movesFrom_24_22 n T = some (r, T')) : Met l yX1_movesFrom wsX1_movesFrom (RM 0) (PreX X [.ref (ad X 24), .ref (ad X 22)] T) (QQ X (some (.int r)) T') 0 0 (xA X) := by
  refine q_start (by decide) rfl (Nat.le_of_ble_eq_true rfl) ?_
  intro k hk C
  subst hk
  show GW k T 0 [(0, .ref (ad k.1 24)), (1, .ref (ad k.1 22))] []
  unfold fX1_movesFrom_24_22 at h
  refine q_iconst (v := 0) C dX1_movesFrom_0 (by decide) ?_
  refine q_istore_n (lv' := [(0, .ref (ad k.1 24)), (1, .ref (ad k.1 22)), (2, .int (0 : Int32))]) C dX1_movesFrom_1 rfl (by decide) rfl ?_
  refine q_iconst (v := 0) C dX1_movesFrom_2 (by decide) ?_
  refine q_istore_n (lv' := [(0, .ref (ad k.1 24)), (1, .ref (ad k.1 22)), (2, .int (0 : Int32)), (3, .int (0 : Int32))]) C dX1_movesFrom_3 rfl (by decide) rfl ?_
  refine q_iconst (v := 0) C dX1_movesFrom_4 (by decide) ?_
  refine q_istore (lv' := [(0, .ref (ad k.1 24)), (1, .ref (ad k.1 22)), (2, .int (0 : Int32)), (3, .int (0 : Int32)), (4, .int (0 : Int32))]) C dX1_movesFrom_5 (by decide) rfl ?_
  refine q_sub [0, 1, 2, 3, 4] rfl ?_
  refine lpX1_movesFrom_24_22_L7 C (fun e2_3 T_4 h => ?_) _ _ _ _ _ h
  refine q_iload_n C dX1_movesFrom_79 rfl 0 rfl ?_
  exact q_ireturn C dX1_movesFrom_80 h
def fX1_copyFrom_20_24_L10 (n : Nat) (kk : TS → Option (TS)) : Nat → Int32 → TS → Option (TS)
  | 0, _, _ => none
  | fuel + 1, x2, T => if (gI T 1000) ≤ x2 then kk T else ck x2 21 (ck x2 21 (nm (sA T 21 x2 (gA T 25 (Int32.toNatClampNeg x2))) (fun T_2 => fX1_copyFrom_20_24_L10 n kk fuel (x2 + 1) T_2)))
set_option maxHeartbeats 4000000 in
set_option maxRecDepth 100000 in
theorem lpX1_copyFrom_20_24_L10 {l : Launch} {k : KT} {n : Nat} {kk : TS → Option (TS)} {T' : TS} (C : CX l k 3 cX1_copyFrom RX1 wsX1_copyFrom 0 none (none, T')) (hk : ∀ T1, kk T1 = some T' → GW k T1 36 [] []) : ∀ (fuel : Nat) (x2 : Int32) (T : TS), fX1_copyFrom_20_24_L10 n kk fuel x2 T = some T' → GW k T 10 [(0, .ref (ad k.1 20)), (1, .ref (ad k.1 24)), (2, .int x2)] [] := by
  intro fuel
  induction fuel with
  | zero => intro x2 T h; cases h
  | succ fuel ih =>
    intro x2 T h
    rw [fX1_copyFrom_20_24_L10] at h
    refine q_iload_n C dX1_copyFrom_10 rfl 2 rfl ?_
    refine q_aload_n C dX1_copyFrom_11 rfl 0 rfl ?_
    refine q_get (j := 0) C dX1_copyFrom_12 (wE_20 _ _) rfl (by decide) rfl inn_X1_copyFrom_1 (by decide +kernel) rfl ?_
    refine q_icmp_ge (tgt := 36) C dX1_copyFrom_15 (by decide) h (fun c h => ?_) (fun c h => ?_)
    · refine q_sub [] rfl ?_
      exact hk _ h
    · refine q_aload_n C dX1_copyFrom_18 rfl 0 rfl ?_
      refine q_get (j := 1) C dX1_copyFrom_19 (wE_20 _ _) rfl (by decide) rfl inn_X1_copyFrom_1 (by decide +kernel) rfl ?_
      refine q_iload_n C dX1_copyFrom_22 rfl 2 rfl ?_
      refine q_aload_n C dX1_copyFrom_23 rfl 1 rfl ?_
      refine q_get (j := 1) C dX1_copyFrom_24 (wE_24 _ _) rfl (by decide) rfl inn_X1_copyFrom_1 (by decide +kernel) rfl ?_
      refine q_iload_n C dX1_copyFrom_27 rfl 2 rfl ?_
      refine q_iald C dX1_copyFrom_28 (wE_25 _ _) h (fun h => ?_)
      refine q_iast C dX1_copyFrom_29 (wE_21 _ _) (wS_21 _ _) h (fun T_2 h => ?_)
      refine q_iinc (j := 2) (v := 1) (lv' := [(0, .ref (ad k.1 20)), (1, .ref (ad k.1 24)), (2, .int (x2 + 1))]) C dX1_copyFrom_30 rfl (by decide) (by decide) rfl ?_
      refine q_goto (tgt := 10) C dX1_copyFrom_33 (by decide) ?_
      refine q_sub [0, 1, 2] rfl ?_
      exact ih _ _ h
def fX1_copyFrom_20_24 (n : Nat) (T : TS) : Option (TS) := nm (uI T 1000 (gI T 1200)) (fun T_1 => fX1_copyFrom_20_24_L10 n (fun T_3 => some T_3) n (0 : Int32) T_1)
set_option maxHeartbeats 4000000 in
set_option maxRecDepth 100000 in
theorem mtX1_copyFrom_20_24 (l : Launch) (X : XT) (n : Nat) (T T' : TS) (h : fX1_copyFrom_20_24 n T = some T') : Met l yX1_copyFrom wsX1_copyFrom (RM 0) (PreX X [.ref (ad X 20), .ref (ad X 24)] T) (QQ X none T') 0 0 (xA X) := by
  refine q_start (by decide) rfl (Nat.le_of_ble_eq_true rfl) ?_
  intro k hk C
  subst hk
  show GW k T 0 [(0, .ref (ad k.1 20)), (1, .ref (ad k.1 24))] []
  unfold fX1_copyFrom_20_24 at h
  refine q_aload_n C dX1_copyFrom_0 rfl 0 rfl ?_
  refine q_aload_n C dX1_copyFrom_1 rfl 1 rfl ?_
  refine q_get (j := 0) C dX1_copyFrom_2 (wE_24 _ _) rfl (by decide) rfl inn_X1_copyFrom_1 (by decide +kernel) rfl ?_
  refine q_putI (j := 0) (ty := .int) C dX1_copyFrom_5 (wE_20 _ _) (wP_20_0 _ _ _) rfl (by decide) (Nat.le_of_ble_eq_true rfl) tyX1 tyX1_ok nmX1 inn_X1_copyFrom_1 (by decide +kernel) rfl rfl (by decide +kernel) rfl rfl h (fun T_1 h => ?_)
  refine q_iconst (v := 0) C dX1_copyFrom_8 (by decide) ?_
  refine q_istore_n (lv' := [(0, .ref (ad k.1 20)), (1, .ref (ad k.1 24)), (2, .int (0 : Int32))]) C dX1_copyFrom_9 rfl (by decide) rfl ?_
  refine q_sub [0, 1, 2] rfl ?_
  refine lpX1_copyFrom_20_24_L10 C (fun T_3 h => ?_) _ _ _ h
  exact q_vreturn C dX1_copyFrom_36 h
def fX9_isLot (n : Nat) (p0 : Int32) (T : TS) : Option (Int32 × TS) := if p0 < 0 then rz (0 : Int32) T else if (gI T 1800) ≤ p0 then rz (0 : Int32) T else rz (1 : Int32) T
set_option maxHeartbeats 4000000 in
set_option maxRecDepth 100000 in
theorem mtX9_isLot (l : Launch) (X : XT) (n : Nat) (p0 : Int32) (T T' : TS) (r : Int32) (h : fX9_isLot n p0 T = some (r, T')) : Met l yX9_isLot wsX9_isLot (RM 0) (PreX X [.ref (ad X 36), .int p0] T) (QQ X (some (.int r)) T') 0 0 (xA X) := by
  refine q_start (by decide) rfl (Nat.le_of_ble_eq_true rfl) ?_
  intro k hk C
  subst hk
  show GW k T 0 [(0, .ref (ad k.1 36)), (1, .int p0)] []
  unfold fX9_isLot at h
  refine q_iload_n C dX9_isLot_0 rfl 1 rfl ?_
  refine q_if_lt (tgt := 16) C dX9_isLot_1 (by decide) h (fun c h => ?_) (fun c h => ?_)
  · refine q_iconst (v := 0) C dX9_isLot_16 (by decide) ?_
    exact q_zreturn C dX9_isLot_17 h
  · refine q_iload_n C dX9_isLot_4 rfl 1 rfl ?_
    refine q_aload_n C dX9_isLot_5 rfl 0 rfl ?_
    refine q_get (j := 0) C dX9_isLot_6 (wE_36 _ _) rfl (by decide) rfl inn_X9_isLot_9 (by decide +kernel) rfl ?_
    refine q_icmp_ge (tgt := 16) C dX9_isLot_9 (by decide) h (fun c h => ?_) (fun c h => ?_)
    · refine q_iconst (v := 0) C dX9_isLot_16 (by decide) ?_
      exact q_zreturn C dX9_isLot_17 h
    · refine q_iconst (v := 1) C dX9_isLot_12 (by decide) ?_
      refine q_goto (tgt := 17) C dX9_isLot_13 (by decide) ?_
      exact q_zreturn C dX9_isLot_17 h
def fX9_isFull (n : Nat) (T : TS) : Option (Int32 × TS) := if (gI T 1800) < (8 : Int32) then rz (0 : Int32) T else rz (1 : Int32) T
set_option maxHeartbeats 4000000 in
set_option maxRecDepth 100000 in
theorem mtX9_isFull (l : Launch) (X : XT) (n : Nat) (T T' : TS) (r : Int32) (h : fX9_isFull n T = some (r, T')) : Met l yX9_isFull wsX9_isFull (RM 0) (PreX X [.ref (ad X 36)] T) (QQ X (some (.int r)) T') 0 0 (xA X) := by
  refine q_start (by decide) rfl (Nat.le_of_ble_eq_true rfl) ?_
  intro k hk C
  subst hk
  show GW k T 0 [(0, .ref (ad k.1 36))] []
  unfold fX9_isFull at h
  refine q_aload_n C dX9_isFull_0 rfl 0 rfl ?_
  refine q_get (j := 0) C dX9_isFull_1 (wE_36 _ _) rfl (by decide) rfl inn_X9_isFull_9 (by decide +kernel) rfl ?_
  refine q_bipush (v := 8) C dX9_isFull_4 (by decide) ?_
  refine q_icmp_lt (tgt := 13) C dX9_isFull_6 (by decide) h (fun c h => ?_) (fun c h => ?_)
  · refine q_iconst (v := 0) C dX9_isFull_13 (by decide) ?_
    exact q_zreturn C dX9_isFull_14 h
  · refine q_iconst (v := 1) C dX9_isFull_9 (by decide) ?_
    refine q_goto (tgt := 14) C dX9_isFull_10 (by decide) ?_
    exact q_zreturn C dX9_isFull_14 h
def fX9_add (n : Nat) (p0 : Int32) (p1 : Int32) (p2 : Int32) (T : TS) : Option (TS) := bd (fX9_isFull n T) (fun r_2 T_1 => if ¬ r_2 = 0 then some T_1 else ck (gI T_1 1800) 8 (nm (sA T_1 37 (gI T_1 1800) p0) (fun T_3 => ck (gI T_3 1800) 8 (nm (sA T_3 38 (gI T_3 1800) p1) (fun T_4 => ck (gI T_4 1800) 8 (nm (sZ T_4 39 (gI T_4 1800) p2) (fun T_5 => nm (uI T_5 1800 ((gI T_5 1800) + (1 : Int32))) (fun T_6 => some T_6))))))))
set_option maxHeartbeats 4000000 in
set_option maxRecDepth 100000 in
theorem mtX9_add (l : Launch) (X : XT) (n : Nat) (p0 : Int32) (p1 : Int32) (p2 : Int32) (T T' : TS) (h : fX9_add n p0 p1 p2 T = some T') : Met l yX9_add wsX9_add (RM 1) (PreX X [.ref (ad X 36), .int p0, .int p1, .int p2] T) (QQ X none T') 0 0 (xA X) := by
  refine q_start (by decide) rfl (Nat.le_of_ble_eq_true rfl) ?_
  intro k hk C
  subst hk
  show GW k T 0 [(0, .ref (ad k.1 36)), (1, .int p0), (2, .int p1), (3, .int p2)] []
  unfold fX9_add at h
  refine q_aload_n C dX9_add_0 rfl 0 rfl ?_
  obtain ⟨r_2, T_1, hc, h⟩ := bd_some h
  refine q_callV (st' := [.int r_2]) C dX9_add_1 [] [] (mtX9_isFull l _ n _ _ _ hc) gX9_add_X9_isFull rfl hd_X9_isFull (by decide) (by decide) (wE_36 _ _) rfl rfl rfl (Nat.le_of_ble_eq_true rfl) rfl ?_
  clear hc
  refine q_if_ne (tgt := 47) C dX9_add_4 (by decide) h (fun c h => ?_) (fun c h => ?_)
  · exact q_vreturn C dX9_add_47 h
  · refine q_aload_n C dX9_add_7 rfl 0 rfl ?_
    refine q_get (j := 1) C dX9_add_8 (wE_36 _ _) rfl (by decide) rfl inn_X9_add_9 (by decide +kernel) rfl ?_
    refine q_aload_n C dX9_add_11 rfl 0 rfl ?_
    refine q_get (j := 0) C dX9_add_12 (wE_36 _ _) rfl (by decide) rfl inn_X9_add_9 (by decide +kernel) rfl ?_
    refine q_iload_n C dX9_add_15 rfl 1 rfl ?_
    refine q_iast C dX9_add_16 (wE_37 _ _) (wS_37 _ _) h (fun T_3 h => ?_)
    refine q_aload_n C dX9_add_17 rfl 0 rfl ?_
    refine q_get (j := 2) C dX9_add_18 (wE_36 _ _) rfl (by decide) rfl inn_X9_add_9 (by decide +kernel) rfl ?_
    refine q_aload_n C dX9_add_21 rfl 0 rfl ?_
    refine q_get (j := 0) C dX9_add_22 (wE_36 _ _) rfl (by decide) rfl inn_X9_add_9 (by decide +kernel) rfl ?_
    refine q_iload_n C dX9_add_25 rfl 2 rfl ?_
    refine q_iast C dX9_add_26 (wE_38 _ _) (wS_38 _ _) h (fun T_4 h => ?_)
    refine q_aload_n C dX9_add_27 rfl 0 rfl ?_
    refine q_get (j := 3) C dX9_add_28 (wE_36 _ _) rfl (by decide) rfl inn_X9_add_9 (by decide +kernel) rfl ?_
    refine q_aload_n C dX9_add_31 rfl 0 rfl ?_
    refine q_get (j := 0) C dX9_add_32 (wE_36 _ _) rfl (by decide) rfl inn_X9_add_9 (by decide +kernel) rfl ?_
    refine q_iload_n C dX9_add_35 rfl 3 rfl ?_
    refine q_zast C dX9_add_36 (wE_39 _ _) (wS_39 _ _) h (fun T_5 h => ?_)
    refine q_aload_n C dX9_add_37 rfl 0 rfl ?_
    refine q_dup C dX9_add_38 rfl ?_
    refine q_get (j := 0) C dX9_add_39 (wE_36 _ _) rfl (by decide) rfl inn_X9_add_9 (by decide +kernel) rfl ?_
    refine q_iconst (v := 1) C dX9_add_42 (by decide) ?_
    refine q_iadd C dX9_add_43 ?_
    refine q_putI (j := 0) (ty := .int) C dX9_add_44 (wE_36 _ _) (wP_36_0 _ _ _) rfl (by decide) (Nat.le_of_ble_eq_true rfl) tyX9 tyX9_ok nmX9 inn_X9_add_9 (by decide +kernel) rfl rfl (by decide +kernel) rfl rfl h (fun T_6 h => ?_)
    exact q_vreturn C dX9_add_47 h
def fX9_takeRoll (n : Nat) (p0 : Int32) (p1 : Int32) (p2 : Int32) (T : TS) : Option (Int32 × TS) := ck p0 8 (ck p0 8 (nm (sA T 38 p0 ((gA T 38 (Int32.toNatClampNeg p0)) - (1 : Int32))) (fun T_1 => ck p0 8 (nm ((gA T_1 37 (Int32.toNatClampNeg p0)) - p1) (fun x4_2 => if x4_2 < p2 then some ((0 : Int32), T_1) else bd (fX9_isFull n T_1) (fun r_4 T_3 => if r_4 = 0 then ck p0 8 (bv (fX9_add n x4_2 (1 : Int32) (gA T_3 39 (Int32.toNatClampNeg p0)) T_3) (fun T_5 => some (x4_2, T_5))) else some ((0 : Int32), T_3)))))))
set_option maxHeartbeats 4000000 in
set_option maxRecDepth 100000 in
theorem mtX9_takeRoll (l : Launch) (X : XT) (n : Nat) (p0 : Int32) (p1 : Int32) (p2 : Int32) (T T' : TS) (r : Int32) (h : fX9_takeRoll n p0 p1 p2 T = some (r, T')) : Met l yX9_takeRoll wsX9_takeRoll (RM 2) (PreX X [.ref (ad X 36), .int p0, .int p1, .int p2] T) (QQ X (some (.int r)) T') 0 0 (xA X) := by
  refine q_start (by decide) rfl (Nat.le_of_ble_eq_true rfl) ?_
  intro k hk C
  subst hk
  show GW k T 0 [(0, .ref (ad k.1 36)), (1, .int p0), (2, .int p1), (3, .int p2)] []
  unfold fX9_takeRoll at h
  refine q_aload_n C dX9_takeRoll_0 rfl 0 rfl ?_
  refine q_get (j := 2) C dX9_takeRoll_1 (wE_36 _ _) rfl (by decide) rfl inn_X9_takeRoll_9 (by decide +kernel) rfl ?_
  refine q_iload_n C dX9_takeRoll_4 rfl 1 rfl ?_
  refine q_dup2 C dX9_takeRoll_5 rfl rfl ?_
  refine q_iald C dX9_takeRoll_6 (wE_38 _ _) h (fun h => ?_)
  refine q_iconst (v := 1) C dX9_takeRoll_7 (by decide) ?_
  refine q_isub C dX9_takeRoll_8 ?_
  refine q_iast C dX9_takeRoll_9 (wE_38 _ _) (wS_38 _ _) h (fun T_1 h => ?_)
  refine q_aload_n C dX9_takeRoll_10 rfl 0 rfl ?_
  refine q_get (j := 1) C dX9_takeRoll_11 (wE_36 _ _) rfl (by decide) rfl inn_X9_takeRoll_9 (by decide +kernel) rfl ?_
  refine q_iload_n C dX9_takeRoll_14 rfl 1 rfl ?_
  refine q_iald C dX9_takeRoll_15 (wE_37 _ _) h (fun h => ?_)
  refine q_iload_n C dX9_takeRoll_16 rfl 2 rfl ?_
  refine q_isub C dX9_takeRoll_17 ?_
  refine q_nm h (fun x4_2 h => ?_)
  refine q_istore (lv' := [(0, .ref (ad k.1 36)), (1, .int p0), (2, .int p1), (3, .int p2), (4, .int x4_2)]) C dX9_takeRoll_18 (by decide) rfl ?_
  refine q_iload C dX9_takeRoll_20 4 rfl ?_
  refine q_iload_n C dX9_takeRoll_22 rfl 3 rfl ?_
  refine q_icmp_lt (tgt := 33) C dX9_takeRoll_23 (by decide) h (fun c h => ?_) (fun c h => ?_)
  · refine q_iconst (v := 0) C dX9_takeRoll_33 (by decide) ?_
    exact q_ireturn C dX9_takeRoll_34 h
  · refine q_aload_n C dX9_takeRoll_26 rfl 0 rfl ?_
    obtain ⟨r_4, T_3, hc, h⟩ := bd_some h
    refine q_callV (st' := [.int r_4]) C dX9_takeRoll_27 [] [] (mtX9_isFull l _ n _ _ _ hc) gX9_takeRoll_X9_isFull rfl hd_X9_isFull (by decide) (by decide) (wE_36 _ _) rfl rfl rfl (Nat.le_of_ble_eq_true rfl) rfl ?_
    clear hc
    refine q_if_eq (tgt := 35) C dX9_takeRoll_30 (by decide) h (fun c h => ?_) (fun c h => ?_)
    · refine q_aload_n C dX9_takeRoll_35 rfl 0 rfl ?_
      refine q_iload C dX9_takeRoll_36 4 rfl ?_
      refine q_iconst (v := 1) C dX9_takeRoll_38 (by decide) ?_
      refine q_aload_n C dX9_takeRoll_39 rfl 0 rfl ?_
      refine q_get (j := 3) C dX9_takeRoll_40 (wE_36 _ _) rfl (by decide) rfl inn_X9_takeRoll_9 (by decide +kernel) rfl ?_
      refine q_iload_n C dX9_takeRoll_43 rfl 1 rfl ?_
      refine q_zald C dX9_takeRoll_44 (wE_39 _ _) h (fun h => ?_)
      obtain ⟨T_5, hc, h⟩ := bv_some h
      refine q_callV (st' := []) C dX9_takeRoll_45 [.int x4_2, .int (1 : Int32), .int (gA T_3 39 (Int32.toNatClampNeg p0))] [] (mtX9_add l _ n _ _ _ _ _ hc) gX9_takeRoll_X9_add rfl hd_X9_add (by decide) (by decide) (wE_36 _ _) rfl rfl rfl (Nat.le_of_ble_eq_true rfl) rfl ?_
      clear hc
      refine q_iload C dX9_takeRoll_48 4 rfl ?_
      exact q_ireturn C dX9_takeRoll_50 h
    · refine q_iconst (v := 0) C dX9_takeRoll_33 (by decide) ?_
      exact q_ireturn C dX9_takeRoll_34 h
def fX2_lost (n : Nat) (T : TS) : Option (Int64 × TS) := some ((((gJ T 0) - (gJ T 1)) - (gJ T 2)), T)
set_option maxHeartbeats 4000000 in
set_option maxRecDepth 100000 in
theorem mtX2_lost (l : Launch) (X : XT) (n : Nat) (T T' : TS) (r : Int64) (h : fX2_lost n T = some (r, T')) : Met l yX2_lost wsX2_lost (RM 0) (PreX X [.ref (ad X 40)] T) (QQ X (some (.long r)) T') 0 0 (xA X) := by
  refine q_start (by decide) rfl (Nat.le_of_ble_eq_true rfl) ?_
  intro k hk C
  subst hk
  show GW k T 0 [(0, .ref (ad k.1 40))] []
  unfold fX2_lost at h
  refine q_aload_n C dX2_lost_0 rfl 0 rfl ?_
  refine q_get (j := 0) C dX2_lost_1 (wE_40 _ _) rfl (by decide) rfl inn_X2_lost_2 (by decide +kernel) rfl ?_
  refine q_aload_n C dX2_lost_4 rfl 0 rfl ?_
  refine q_get (j := 1) C dX2_lost_5 (wE_40 _ _) rfl (by decide) rfl inn_X2_lost_2 (by decide +kernel) rfl ?_
  refine q_lsub C dX2_lost_8 ?_
  refine q_aload_n C dX2_lost_9 rfl 0 rfl ?_
  refine q_get (j := 2) C dX2_lost_10 (wE_40 _ _) rfl (by decide) rfl inn_X2_lost_2 (by decide +kernel) rfl ?_
  refine q_lsub C dX2_lost_13 ?_
  exact q_lreturn C dX2_lost_14 h
