theorem hd_X0_ofWidth : yX0_ofWidth.cls ≠ "java/lang/invoke/MethodHandle" ∧ yX0_ofWidth.cls ≠ "java/lang/invoke/VarHandle" ∧ (parseMethodDescriptor yX0_ofWidth.desc).map (fun d => d.parameters.length) = some 2 := by decide +kernel
theorem hd_X0_packed : yX0_packed.cls ≠ "java/lang/invoke/MethodHandle" ∧ yX0_packed.cls ≠ "java/lang/invoke/VarHandle" ∧ (parseMethodDescriptor yX0_packed.desc).map (fun d => d.parameters.length) = some 2 := by decide +kernel
theorem hd_X10_quotient : yX10_quotient.cls ≠ "java/lang/invoke/MethodHandle" ∧ yX10_quotient.cls ≠ "java/lang/invoke/VarHandle" ∧ (parseMethodDescriptor yX10_quotient.desc).map (fun d => d.parameters.length) = some 2 := by decide +kernel
theorem hd_X10_within : yX10_within.cls ≠ "java/lang/invoke/MethodHandle" ∧ yX10_within.cls ≠ "java/lang/invoke/VarHandle" ∧ (parseMethodDescriptor yX10_within.desc).map (fun d => d.parameters.length) = some 3 := by decide +kernel
theorem hd_X4_canPart : yX4_canPart.cls = RX4 ∧ yX4_canPart.cls ≠ "java/lang/invoke/MethodHandle" ∧ yX4_canPart.cls ≠ "java/lang/invoke/VarHandle" ∧ (parseMethodDescriptor yX4_canPart.desc).map (fun d => d.parameters.length) = some 4 := by decide +kernel
theorem hd_X4_room : yX4_room.cls = RX4 ∧ yX4_room.cls ≠ "java/lang/invoke/MethodHandle" ∧ yX4_room.cls ≠ "java/lang/invoke/VarHandle" ∧ (parseMethodDescriptor yX4_room.desc).map (fun d => d.parameters.length) = some 0 := by decide +kernel
theorem hd_X4_spanOf : yX4_spanOf.cls = RX4 ∧ yX4_spanOf.cls ≠ "java/lang/invoke/MethodHandle" ∧ yX4_spanOf.cls ≠ "java/lang/invoke/VarHandle" ∧ (parseMethodDescriptor yX4_spanOf.desc).map (fun d => d.parameters.length) = some 1 := by decide +kernel
theorem hd_X5_add : yX5_add.cls = RX5 ∧ yX5_add.cls ≠ "java/lang/invoke/MethodHandle" ∧ yX5_add.cls ≠ "java/lang/invoke/VarHandle" ∧ (parseMethodDescriptor yX5_add.desc).map (fun d => d.parameters.length) = some 1 := by decide +kernel
theorem hd_X5_count : yX5_count.cls = RX5 ∧ yX5_count.cls ≠ "java/lang/invoke/MethodHandle" ∧ yX5_count.cls ≠ "java/lang/invoke/VarHandle" ∧ (parseMethodDescriptor yX5_count.desc).map (fun d => d.parameters.length) = some 0 := by decide +kernel
theorem hd_X5_isNumber : yX5_isNumber.cls = RX5 ∧ yX5_isNumber.cls ≠ "java/lang/invoke/MethodHandle" ∧ yX5_isNumber.cls ≠ "java/lang/invoke/VarHandle" ∧ (parseMethodDescriptor yX5_isNumber.desc).map (fun d => d.parameters.length) = some 1 := by decide +kernel
theorem hd_X5_refresh : yX5_refresh.cls = RX5 ∧ yX5_refresh.cls ≠ "java/lang/invoke/MethodHandle" ∧ yX5_refresh.cls ≠ "java/lang/invoke/VarHandle" ∧ (parseMethodDescriptor yX5_refresh.desc).map (fun d => d.parameters.length) = some 0 := by decide +kernel
theorem hd_X5_spread : yX5_spread.cls = RX5 ∧ yX5_spread.cls ≠ "java/lang/invoke/MethodHandle" ∧ yX5_spread.cls ≠ "java/lang/invoke/VarHandle" ∧ (parseMethodDescriptor yX5_spread.desc).map (fun d => d.parameters.length) = some 4 := by decide +kernel
theorem inn_X4_addWidth_4 : ∀ w ∈ u_ws RX4 TX4 8, w ∈ wsX4_addWidth := by decide +kernel
theorem inn_X4_become_4 : ∀ w ∈ u_ws RX4 TX4 8, w ∈ wsX4_become := by decide +kernel
theorem inn_X4_canPart_4 : ∀ w ∈ u_ws RX4 TX4 8, w ∈ wsX4_canPart := by decide +kernel
theorem inn_X4_fitsFlawed_4 : ∀ w ∈ u_ws RX4 TX4 8, w ∈ wsX4_fitsFlawed := by decide +kernel
theorem inn_X4_hasWidthOf_4 : ∀ w ∈ u_ws RX4 TX4 8, w ∈ wsX4_hasWidthOf := by decide +kernel
theorem inn_X4_isWidth_4 : ∀ w ∈ u_ws RX4 TX4 8, w ∈ wsX4_isWidth := by decide +kernel
theorem inn_X4_room_4 : ∀ w ∈ u_ws RX4 TX4 8, w ∈ wsX4_room := by decide +kernel
theorem inn_X4_spanOf_4 : ∀ w ∈ u_ws RX4 TX4 8, w ∈ wsX4_spanOf := by decide +kernel
theorem inn_X4_wasteOf_4 : ∀ w ∈ u_ws RX4 TX4 8, w ∈ wsX4_wasteOf := by decide +kernel
theorem inn_X4_widest_4 : ∀ w ∈ u_ws RX4 TX4 8, w ∈ wsX4_widest := by decide +kernel
theorem inn_X5_add_5 : ∀ w ∈ u_ws RX5 TX5 5, w ∈ wsX5_add := by decide +kernel
theorem inn_X5_codeAt_5 : ∀ w ∈ u_ws RX5 TX5 5, w ∈ wsX5_codeAt := by decide +kernel
theorem inn_X5_count_5 : ∀ w ∈ u_ws RX5 TX5 5, w ∈ wsX5_count := by decide +kernel
theorem inn_X5_forget_5 : ∀ w ∈ u_ws RX5 TX5 5, w ∈ wsX5_forget := by decide +kernel
theorem inn_X5_isOverfull_5 : ∀ w ∈ u_ws RX5 TX5 5, w ∈ wsX5_isOverfull := by decide +kernel
theorem inn_X5_numberOf_5 : ∀ w ∈ u_ws RX5 TX5 5, w ∈ wsX5_numberOf := by decide +kernel
theorem inn_X5_refresh_4 : ∀ w ∈ u_ws RX4 TX4 8, w ∈ wsX5_refresh := by decide +kernel
theorem inn_X5_refresh_5 : ∀ w ∈ u_ws RX5 TX5 5, w ∈ wsX5_refresh := by decide +kernel
theorem inn_X5_spread_4 : ∀ w ∈ u_ws RX4 TX4 8, w ∈ wsX5_spread := by decide +kernel
theorem inn_X5_spread_5 : ∀ w ∈ u_ws RX5 TX5 5, w ∈ wsX5_spread := by decide +kernel
def fX0_packed (n : Nat) (p0 : Int32) (p1 : Int32) (T : TS) : Option (Int32 × TS) := some ((p1 <<< (((5 : Int32) * ((5 : Int32) - p0)) &&& 31)), T)
set_option maxHeartbeats 4000000 in
set_option maxRecDepth 100000 in
theorem mtX0_packed (l : Launch) (X : XT) (n : Nat) (p0 : Int32) (p1 : Int32) (T T' : TS) (r : Int32) (h : fX0_packed n p0 p1 T = some (r, T')) : Met l yX0_packed wsX0_packed (RM 0) (PreX X [.int p0, .int p1] T) (QQ X (some (.int r)) T') 0 0 (xA X) := by
  refine q_start (by decide) rfl (Nat.le_of_ble_eq_true rfl) ?_
  intro k hk C
  subst hk
  show GW k T 0 [(0, .int p0), (1, .int p1)] []
  unfold fX0_packed at h
  refine q_iload_n C dX0_packed_0 rfl 1 rfl ?_
  refine q_iconst (v := 5) C dX0_packed_1 (by decide) ?_
  refine q_iconst (v := 5) C dX0_packed_2 (by decide) ?_
  refine q_iload_n C dX0_packed_3 rfl 0 rfl ?_
  refine q_isub C dX0_packed_4 ?_
  refine q_imul C dX0_packed_5 ?_
  refine q_ishl C dX0_packed_6 ?_
  exact q_ireturn C dX0_packed_7 h
def fX0_ofWidth (n : Nat) (p0 : Int32) (p1 : Int32) (T : TS) : Option (Int32 × TS) := some (((Int32.toUInt32 p0 >>> (Int32.toUInt32 ((5 : Int32) * ((5 : Int32) - p1)) &&& Int32.toUInt32 31)).toInt32 &&& (31 : Int32)), T)
set_option maxHeartbeats 4000000 in
set_option maxRecDepth 100000 in
theorem mtX0_ofWidth (l : Launch) (X : XT) (n : Nat) (p0 : Int32) (p1 : Int32) (T T' : TS) (r : Int32) (h : fX0_ofWidth n p0 p1 T = some (r, T')) : Met l yX0_ofWidth wsX0_ofWidth (RM 0) (PreX X [.int p0, .int p1] T) (QQ X (some (.int r)) T') 0 0 (xA X) := by
  refine q_start (by decide) rfl (Nat.le_of_ble_eq_true rfl) ?_
  intro k hk C
  subst hk
  show GW k T 0 [(0, .int p0), (1, .int p1)] []
  unfold fX0_ofWidth at h
  refine q_iload_n C dX0_ofWidth_0 rfl 0 rfl ?_
  refine q_iconst (v := 5) C dX0_ofWidth_1 (by decide) ?_
  refine q_iconst (v := 5) C dX0_ofWidth_2 (by decide) ?_
  refine q_iload_n C dX0_ofWidth_3 rfl 1 rfl ?_
  refine q_isub C dX0_ofWidth_4 ?_
  refine q_imul C dX0_ofWidth_5 ?_
  refine q_iushr C dX0_ofWidth_6 ?_
  refine q_bipush (v := 31) C dX0_ofWidth_7 (by decide) ?_
  refine q_iand C dX0_ofWidth_9 ?_
  exact q_ireturn C dX0_ofWidth_10 h
def fX0_pieces_L4 (n : Nat) (y0 : Int32) (kk : Int32 → TS → Option (Int32 × TS)) : Nat → Int32 → Int32 → TS → Option (Int32 × TS)
  | 0, _, _, _ => none
  | fuel + 1, x1, x2, T => if (6 : Int32) ≤ x2 then kk x1 T else bd (fX0_ofWidth n y0 x2 T) (fun r_2 T_1 => nm (x1 + r_2) (fun x1_3 => fX0_pieces_L4 n y0 kk fuel x1_3 (x2 + 1) T_1))
set_option maxHeartbeats 4000000 in
set_option maxRecDepth 100000 in
theorem lpX0_pieces_L4 {l : Launch} {k : KT} {n : Nat} {y0 : Int32} {kk : Int32 → TS → Option (Int32 × TS)} {r : Int32} {T' : TS} (C : CX l k 3 cX0_pieces RX0 wsX0_pieces 1 (some .int) (some (.int r), T')) (hk : ∀ e1 T1, kk e1 T1 = some (r, T') → GW k T1 24 [(1, .int e1)] []) : ∀ (fuel : Nat) (x1 : Int32) (x2 : Int32) (T : TS), fX0_pieces_L4 n y0 kk fuel x1 x2 T = some (r, T') → GW k T 4 [(0, .int y0), (1, .int x1), (2, .int x2)] [] := by
  intro fuel
  induction fuel with
  | zero => intro x1 x2 T h; cases h
  | succ fuel ih =>
    intro x1 x2 T h
    rw [fX0_pieces_L4] at h
    refine q_iload_n C dX0_pieces_4 rfl 2 rfl ?_
    refine q_bipush (v := 6) C dX0_pieces_5 (by decide) ?_
    refine q_icmp_ge (tgt := 24) C dX0_pieces_7 (by decide) h (fun c h => ?_) (fun c h => ?_)
    · refine q_sub [1] rfl ?_
      exact hk _ _ h
    · refine q_iload_n C dX0_pieces_10 rfl 1 rfl ?_
      refine q_iload_n C dX0_pieces_11 rfl 0 rfl ?_
      refine q_iload_n C dX0_pieces_12 rfl 2 rfl ?_
      obtain ⟨r_2, T_1, hc, h⟩ := bd_some h
      refine q_callS (st' := [.int r_2, .int x1]) C dX0_pieces_13 [.int y0, .int x2] [.int x1] (mtX0_ofWidth l _ n _ _ _ _ _ hc) gX0_pieces_X0_ofWidth rfl hd_X0_ofWidth (by decide) (by decide) rfl rfl (Nat.le_of_ble_eq_true rfl) rfl ?_
      clear hc
      refine q_iadd C dX0_pieces_16 ?_
      refine q_nm h (fun x1_3 h => ?_)
      refine q_istore_n (lv' := [(0, .int y0), (1, .int x1_3), (2, .int x2)]) C dX0_pieces_17 rfl (by decide) rfl ?_
      refine q_iinc (j := 2) (v := 1) (lv' := [(0, .int y0), (1, .int x1_3), (2, .int (x2 + 1))]) C dX0_pieces_18 rfl (by decide) (by decide) rfl ?_
      refine q_goto (tgt := 4) C dX0_pieces_21 (by decide) ?_
      refine q_sub [0, 1, 2] rfl ?_
      exact ih _ _ _ h
def fX0_pieces (n : Nat) (p0 : Int32) (T : TS) : Option (Int32 × TS) := fX0_pieces_L4 n p0 (fun e1_4 T_5 => some (e1_4, T_5)) n (0 : Int32) (0 : Int32) T
set_option maxHeartbeats 4000000 in
set_option maxRecDepth 100000 in
theorem mtX0_pieces (l : Launch) (X : XT) (n : Nat) (p0 : Int32) (T T' : TS) (r : Int32) (h : fX0_pieces n p0 T = some (r, T')) : Met l yX0_pieces wsX0_pieces (RM 1) (PreX X [.int p0] T) (QQ X (some (.int r)) T') 0 0 (xA X) := by
  refine q_start (by decide) rfl (Nat.le_of_ble_eq_true rfl) ?_
  intro k hk C
  subst hk
  show GW k T 0 [(0, .int p0)] []
  unfold fX0_pieces at h
  refine q_iconst (v := 0) C dX0_pieces_0 (by decide) ?_
  refine q_istore_n (lv' := [(0, .int p0), (1, .int (0 : Int32))]) C dX0_pieces_1 rfl (by decide) rfl ?_
  refine q_iconst (v := 0) C dX0_pieces_2 (by decide) ?_
  refine q_istore_n (lv' := [(0, .int p0), (1, .int (0 : Int32)), (2, .int (0 : Int32))]) C dX0_pieces_3 rfl (by decide) rfl ?_
  refine q_sub [0, 1, 2] rfl ?_
  refine lpX0_pieces_L4 C (fun e1_4 T_5 h => ?_) _ _ _ _ h
  refine q_iload_n C dX0_pieces_24 rfl 0 rfl ?_
  exact q_ireturn C dX0_pieces_25 h
def fX10_quotient (n : Nat) (p0 : Int32) (p1 : Int32) (T : TS) : Option (Int32 × TS) := if (1 : Int32) ≤ p1 then nz p1 (some ((p0 / p1), T)) else some ((0 : Int32), T)
set_option maxHeartbeats 4000000 in
set_option maxRecDepth 100000 in
theorem mtX10_quotient (l : Launch) (X : XT) (n : Nat) (p0 : Int32) (p1 : Int32) (T T' : TS) (r : Int32) (h : fX10_quotient n p0 p1 T = some (r, T')) : Met l yX10_quotient wsX10_quotient (RM 0) (PreX X [.int p0, .int p1] T) (QQ X (some (.int r)) T') 0 0 (xA X) := by
  refine q_start (by decide) rfl (Nat.le_of_ble_eq_true rfl) ?_
  intro k hk C
  subst hk
  show GW k T 0 [(0, .int p0), (1, .int p1)] []
  unfold fX10_quotient at h
  refine q_iload_n C dX10_quotient_0 rfl 1 rfl ?_
  refine q_iconst (v := 1) C dX10_quotient_1 (by decide) ?_
  refine q_icmp_ge (tgt := 9) C dX10_quotient_2 (by decide) h (fun c h => ?_) (fun c h => ?_)
  · refine q_iload_n C dX10_quotient_9 rfl 0 rfl ?_
    refine q_iload_n C dX10_quotient_10 rfl 1 rfl ?_
    refine q_idiv C dX10_quotient_11 h (fun h => ?_)
    exact q_ireturn C dX10_quotient_12 h
  · refine q_iconst (v := 0) C dX10_quotient_5 (by decide) ?_
    refine q_goto (tgt := 12) C dX10_quotient_6 (by decide) ?_
    exact q_ireturn C dX10_quotient_12 h
def fX10_within (n : Nat) (p0 : Int32) (p1 : Int32) (p2 : Int32) (T : TS) : Option (Int32 × TS) := if p0 < p1 then rz (0 : Int32) T else if p2 < p0 then rz (0 : Int32) T else rz (1 : Int32) T
set_option maxHeartbeats 4000000 in
set_option maxRecDepth 100000 in
theorem mtX10_within (l : Launch) (X : XT) (n : Nat) (p0 : Int32) (p1 : Int32) (p2 : Int32) (T T' : TS) (r : Int32) (h : fX10_within n p0 p1 p2 T = some (r, T')) : Met l yX10_within wsX10_within (RM 0) (PreX X [.int p0, .int p1, .int p2] T) (QQ X (some (.int r)) T') 0 0 (xA X) := by
  refine q_start (by decide) rfl (Nat.le_of_ble_eq_true rfl) ?_
  intro k hk C
  subst hk
  show GW k T 0 [(0, .int p0), (1, .int p1), (2, .int p2)] []
  unfold fX10_within at h
  refine q_iload_n C dX10_within_0 rfl 1 rfl ?_
  refine q_iload_n C dX10_within_1 rfl 0 rfl ?_
  refine q_icmp_gt (tgt := 14) C dX10_within_2 (by decide) h (fun c h => ?_) (fun c h => ?_)
  · refine q_iconst (v := 0) C dX10_within_14 (by decide) ?_
    exact q_zreturn C dX10_within_15 h
  · refine q_iload_n C dX10_within_5 rfl 0 rfl ?_
    refine q_iload_n C dX10_within_6 rfl 2 rfl ?_
    refine q_icmp_gt (tgt := 14) C dX10_within_7 (by decide) h (fun c h => ?_) (fun c h => ?_)
    · refine q_iconst (v := 0) C dX10_within_14 (by decide) ?_
      exact q_zreturn C dX10_within_15 h
    · refine q_iconst (v := 1) C dX10_within_10 (by decide) ?_
      refine q_goto (tgt := 15) C dX10_within_11 (by decide) ?_
      exact q_zreturn C dX10_within_15 h
def fX10_areCounts (n : Nat) (p0 : Int32) (p1 : Int32) (p2 : Int32) (T : TS) : Option (Int32 × TS) := bd (fX10_within n p0 (0 : Int32) (20 : Int32) T) (fun r_2 T_1 => if r_2 = 0 then rz (0 : Int32) T_1 else bd (fX10_within n p1 (0 : Int32) (20 : Int32) T_1) (fun r_4 T_3 => if r_4 = 0 then rz (0 : Int32) T_3 else bd (fX10_within n p2 (0 : Int32) (20 : Int32) T_3) (fun r_6 T_5 => if r_6 = 0 then rz (0 : Int32) T_5 else rz (1 : Int32) T_5)))
set_option maxHeartbeats 4000000 in
set_option maxRecDepth 100000 in
theorem mtX10_areCounts (l : Launch) (X : XT) (n : Nat) (p0 : Int32) (p1 : Int32) (p2 : Int32) (T T' : TS) (r : Int32) (h : fX10_areCounts n p0 p1 p2 T = some (r, T')) : Met l yX10_areCounts wsX10_areCounts (RM 1) (PreX X [.int p0, .int p1, .int p2] T) (QQ X (some (.int r)) T') 0 0 (xA X) := by
  refine q_start (by decide) rfl (Nat.le_of_ble_eq_true rfl) ?_
  intro k hk C
  subst hk
  show GW k T 0 [(0, .int p0), (1, .int p1), (2, .int p2)] []
  unfold fX10_areCounts at h
  refine q_iload_n C dX10_areCounts_0 rfl 0 rfl ?_
  refine q_iconst (v := 0) C dX10_areCounts_1 (by decide) ?_
  refine q_bipush (v := 20) C dX10_areCounts_2 (by decide) ?_
  obtain ⟨r_2, T_1, hc, h⟩ := bd_some h
  refine q_callS (st' := [.int r_2]) C dX10_areCounts_4 [.int p0, .int (0 : Int32), .int (20 : Int32)] [] (mtX10_within l _ n _ _ _ _ _ _ hc) gX10_areCounts_X10_within rfl hd_X10_within (by decide) (by decide) rfl rfl (Nat.le_of_ble_eq_true rfl) rfl ?_
  clear hc
  refine q_if_eq (tgt := 34) C dX10_areCounts_7 (by decide) h (fun c h => ?_) (fun c h => ?_)
  · refine q_iconst (v := 0) C dX10_areCounts_34 (by decide) ?_
    exact q_zreturn C dX10_areCounts_35 h
  · refine q_iload_n C dX10_areCounts_10 rfl 1 rfl ?_
    refine q_iconst (v := 0) C dX10_areCounts_11 (by decide) ?_
    refine q_bipush (v := 20) C dX10_areCounts_12 (by decide) ?_
    obtain ⟨r_4, T_3, hc, h⟩ := bd_some h
    refine q_callS (st' := [.int r_4]) C dX10_areCounts_14 [.int p1, .int (0 : Int32), .int (20 : Int32)] [] (mtX10_within l _ n _ _ _ _ _ _ hc) gX10_areCounts_X10_within rfl hd_X10_within (by decide) (by decide) rfl rfl (Nat.le_of_ble_eq_true rfl) rfl ?_
    clear hc
    refine q_if_eq (tgt := 34) C dX10_areCounts_17 (by decide) h (fun c h => ?_) (fun c h => ?_)
    · refine q_iconst (v := 0) C dX10_areCounts_34 (by decide) ?_
      exact q_zreturn C dX10_areCounts_35 h
    · refine q_iload_n C dX10_areCounts_20 rfl 2 rfl ?_
      refine q_iconst (v := 0) C dX10_areCounts_21 (by decide) ?_
      refine q_bipush (v := 20) C dX10_areCounts_22 (by decide) ?_
      obtain ⟨r_6, T_5, hc, h⟩ := bd_some h
      refine q_callS (st' := [.int r_6]) C dX10_areCounts_24 [.int p2, .int (0 : Int32), .int (20 : Int32)] [] (mtX10_within l _ n _ _ _ _ _ _ hc) gX10_areCounts_X10_within rfl hd_X10_within (by decide) (by decide) rfl rfl (Nat.le_of_ble_eq_true rfl) rfl ?_
      clear hc
      refine q_if_eq (tgt := 34) C dX10_areCounts_27 (by decide) h (fun c h => ?_) (fun c h => ?_)
      · refine q_iconst (v := 0) C dX10_areCounts_34 (by decide) ?_
        exact q_zreturn C dX10_areCounts_35 h
      · refine q_iconst (v := 1) C dX10_areCounts_30 (by decide) ?_
        refine q_goto (tgt := 35) C dX10_areCounts_31 (by decide) ?_
        exact q_zreturn C dX10_areCounts_35 h
def fX4_become (n : Nat) (p0 : Int32) (p1 : Int32) (p2 : Int32) (T : TS) : Option (TS) := nm (uI T 50 p0) (fun T_1 => nm (uI T_1 51 p1) (fun T_2 => nm (uI T_2 52 p2) (fun T_3 => nm (uI T_3 53 (0 : Int32)) (fun T_4 => nm (uI T_4 54 (0 : Int32)) (fun T_5 => some T_5)))))
set_option maxHeartbeats 4000000 in
set_option maxRecDepth 100000 in
theorem mtX4_become (l : Launch) (X : XT) (n : Nat) (p0 : Int32) (p1 : Int32) (p2 : Int32) (T T' : TS) (h : fX4_become n p0 p1 p2 T = some T') : Met l yX4_become wsX4_become (RM 0) (PreX X [.ref (ad X 1), .int p0, .int p1, .int p2] T) (QQ X none T') 0 0 (xA X) := by
  refine q_start (by decide) rfl (Nat.le_of_ble_eq_true rfl) ?_
  intro k hk C
  subst hk
  show GW k T 0 [(0, .ref (ad k.1 1)), (1, .int p0), (2, .int p1), (3, .int p2)] []
  unfold fX4_become at h
  refine q_aload_n C dX4_become_0 rfl 0 rfl ?_
  refine q_iload_n C dX4_become_1 rfl 1 rfl ?_
  refine q_putI (j := 0) (ty := .int) C dX4_become_2 (wE_1 _ _) (wP_1_0 _ _ _) rfl (by decide) (Nat.le_of_ble_eq_true rfl) tyX4 tyX4_ok nmX4 inn_X4_become_4 (by decide +kernel) rfl rfl (by decide +kernel) rfl rfl h (fun T_1 h => ?_)
  refine q_aload_n C dX4_become_5 rfl 0 rfl ?_
  refine q_iload_n C dX4_become_6 rfl 2 rfl ?_
  refine q_putI (j := 1) (ty := .int) C dX4_become_7 (wE_1 _ _) (wP_1_1 _ _ _) rfl (by decide) (Nat.le_of_ble_eq_true rfl) tyX4 tyX4_ok nmX4 inn_X4_become_4 (by decide +kernel) rfl rfl (by decide +kernel) rfl rfl h (fun T_2 h => ?_)
  refine q_aload_n C dX4_become_10 rfl 0 rfl ?_
  refine q_iload_n C dX4_become_11 rfl 3 rfl ?_
  refine q_putI (j := 2) (ty := .int) C dX4_become_12 (wE_1 _ _) (wP_1_2 _ _ _) rfl (by decide) (Nat.le_of_ble_eq_true rfl) tyX4 tyX4_ok nmX4 inn_X4_become_4 (by decide +kernel) rfl rfl (by decide +kernel) rfl rfl h (fun T_3 h => ?_)
  refine q_aload_n C dX4_become_15 rfl 0 rfl ?_
  refine q_iconst (v := 0) C dX4_become_16 (by decide) ?_
  refine q_putI (j := 3) (ty := .int) C dX4_become_17 (wE_1 _ _) (wP_1_3 _ _ _) rfl (by decide) (Nat.le_of_ble_eq_true rfl) tyX4 tyX4_ok nmX4 inn_X4_become_4 (by decide +kernel) rfl rfl (by decide +kernel) rfl rfl h (fun T_4 h => ?_)
  refine q_aload_n C dX4_become_20 rfl 0 rfl ?_
  refine q_iconst (v := 0) C dX4_become_21 (by decide) ?_
  refine q_putI (j := 4) (ty := .int) C dX4_become_22 (wE_1 _ _) (wP_1_4 _ _ _) rfl (by decide) (Nat.le_of_ble_eq_true rfl) tyX4 tyX4_ok nmX4 inn_X4_become_4 (by decide +kernel) rfl rfl (by decide +kernel) rfl rfl h (fun T_5 h => ?_)
  exact q_vreturn C dX4_become_25 h
def fX4_isWidth (n : Nat) (p0 : Int32) (T : TS) : Option (Int32 × TS) := if p0 < 0 then rz (0 : Int32) T else if (gI T 55) ≤ p0 then rz (0 : Int32) T else rz (1 : Int32) T
set_option maxHeartbeats 4000000 in
set_option maxRecDepth 100000 in
theorem mtX4_isWidth (l : Launch) (X : XT) (n : Nat) (p0 : Int32) (T T' : TS) (r : Int32) (h : fX4_isWidth n p0 T = some (r, T')) : Met l yX4_isWidth wsX4_isWidth (RM 0) (PreX X [.ref (ad X 1), .int p0] T) (QQ X (some (.int r)) T') 0 0 (xA X) := by
  refine q_start (by decide) rfl (Nat.le_of_ble_eq_true rfl) ?_
  intro k hk C
  subst hk
  show GW k T 0 [(0, .ref (ad k.1 1)), (1, .int p0)] []
  unfold fX4_isWidth at h
  refine q_iload_n C dX4_isWidth_0 rfl 1 rfl ?_
  refine q_if_lt (tgt := 16) C dX4_isWidth_1 (by decide) h (fun c h => ?_) (fun c h => ?_)
  · refine q_iconst (v := 0) C dX4_isWidth_16 (by decide) ?_
    exact q_zreturn C dX4_isWidth_17 h
  · refine q_iload_n C dX4_isWidth_4 rfl 1 rfl ?_
    refine q_aload_n C dX4_isWidth_5 rfl 0 rfl ?_
    refine q_get (j := 5) C dX4_isWidth_6 (wE_1 _ _) rfl (by decide) rfl inn_X4_isWidth_4 (by decide +kernel) rfl ?_
    refine q_icmp_ge (tgt := 16) C dX4_isWidth_9 (by decide) h (fun c h => ?_) (fun c h => ?_)
    · refine q_iconst (v := 0) C dX4_isWidth_16 (by decide) ?_
      exact q_zreturn C dX4_isWidth_17 h
    · refine q_iconst (v := 1) C dX4_isWidth_12 (by decide) ?_
      refine q_goto (tgt := 17) C dX4_isWidth_13 (by decide) ?_
      exact q_zreturn C dX4_isWidth_17 h
def fX4_hasWidthOf_L2 (n : Nat) (y1 : Int32) (kk : TS → Option (Int32 × TS)) : Nat → Int32 → TS → Option (Int32 × TS)
  | 0, _, _ => none
  | fuel + 1, x2, T => if (gI T 55) ≤ x2 then kk T else ck x2 6 (if ¬ (gA T 2 (Int32.toNatClampNeg x2)) = y1 then fX4_hasWidthOf_L2 n y1 kk fuel (x2 + 1) T else rz (1 : Int32) T)
set_option maxHeartbeats 4000000 in
set_option maxRecDepth 100000 in
theorem lpX4_hasWidthOf_L2 {l : Launch} {k : KT} {n : Nat} {y1 : Int32} {kk : TS → Option (Int32 × TS)} {r : Int32} {T' : TS} (C : CX l k 3 cX4_hasWidthOf RX4 wsX4_hasWidthOf 0 (some .boolean) (some (.int r), T')) (hk : ∀ T1, kk T1 = some (r, T') → GW k T1 28 [] []) : ∀ (fuel : Nat) (x2 : Int32) (T : TS), fX4_hasWidthOf_L2 n y1 kk fuel x2 T = some (r, T') → GW k T 2 [(0, .ref (ad k.1 1)), (1, .int y1), (2, .int x2)] [] := by
  intro fuel
  induction fuel with
  | zero => intro x2 T h; cases h
  | succ fuel ih =>
    intro x2 T h
    rw [fX4_hasWidthOf_L2] at h
    refine q_iload_n C dX4_hasWidthOf_2 rfl 2 rfl ?_
    refine q_aload_n C dX4_hasWidthOf_3 rfl 0 rfl ?_
    refine q_get (j := 5) C dX4_hasWidthOf_4 (wE_1 _ _) rfl (by decide) rfl inn_X4_hasWidthOf_4 (by decide +kernel) rfl ?_
    refine q_icmp_ge (tgt := 28) C dX4_hasWidthOf_7 (by decide) h (fun c h => ?_) (fun c h => ?_)
    · refine q_sub [] rfl ?_
      exact hk _ h
    · refine q_aload_n C dX4_hasWidthOf_10 rfl 0 rfl ?_
      refine q_get (j := 6) C dX4_hasWidthOf_11 (wE_1 _ _) rfl (by decide) rfl inn_X4_hasWidthOf_4 (by decide +kernel) rfl ?_
      refine q_iload_n C dX4_hasWidthOf_14 rfl 2 rfl ?_
      refine q_iald C dX4_hasWidthOf_15 (wE_2 _ _) h (fun h => ?_)
      refine q_iload_n C dX4_hasWidthOf_16 rfl 1 rfl ?_
      refine q_icmp_ne (tgt := 22) C dX4_hasWidthOf_17 (by decide) h (fun c h => ?_) (fun c h => ?_)
      · refine q_iinc (j := 2) (v := 1) (lv' := [(0, .ref (ad k.1 1)), (1, .int y1), (2, .int (x2 + 1))]) C dX4_hasWidthOf_22 rfl (by decide) (by decide) rfl ?_
        refine q_goto (tgt := 2) C dX4_hasWidthOf_25 (by decide) ?_
        refine q_sub [0, 1, 2] rfl ?_
        exact ih _ _ h
      · refine q_iconst (v := 1) C dX4_hasWidthOf_20 (by decide) ?_
        exact q_zreturn C dX4_hasWidthOf_21 h
def fX4_hasWidthOf (n : Nat) (p0 : Int32) (T : TS) : Option (Int32 × TS) := fX4_hasWidthOf_L2 n p0 (fun T_1 => rz (0 : Int32) T_1) n (0 : Int32) T
set_option maxHeartbeats 4000000 in
set_option maxRecDepth 100000 in
theorem mtX4_hasWidthOf (l : Launch) (X : XT) (n : Nat) (p0 : Int32) (T T' : TS) (r : Int32) (h : fX4_hasWidthOf n p0 T = some (r, T')) : Met l yX4_hasWidthOf wsX4_hasWidthOf (RM 0) (PreX X [.ref (ad X 1), .int p0] T) (QQ X (some (.int r)) T') 0 0 (xA X) := by
  refine q_start (by decide) rfl (Nat.le_of_ble_eq_true rfl) ?_
  intro k hk C
  subst hk
  show GW k T 0 [(0, .ref (ad k.1 1)), (1, .int p0)] []
  unfold fX4_hasWidthOf at h
  refine q_iconst (v := 0) C dX4_hasWidthOf_0 (by decide) ?_
  refine q_istore_n (lv' := [(0, .ref (ad k.1 1)), (1, .int p0), (2, .int (0 : Int32))]) C dX4_hasWidthOf_1 rfl (by decide) rfl ?_
  refine q_sub [0, 1, 2] rfl ?_
  refine lpX4_hasWidthOf_L2 C (fun T_1 h => ?_) _ _ _ h
  refine q_iconst (v := 0) C dX4_hasWidthOf_28 (by decide) ?_
  exact q_zreturn C dX4_hasWidthOf_29 h
def fX4_widest (n : Nat) (T : TS) : Option (Int32 × TS) := if ¬ (gI T 55) = 0 then ck (0 : Int32) 6 (ck (gA T 3 (Int32.toNatClampNeg (0 : Int32))) 6 (some ((gA T 2 (Int32.toNatClampNeg (gA T 3 (Int32.toNatClampNeg (0 : Int32))))), T))) else some ((0 : Int32), T)
set_option maxHeartbeats 4000000 in
set_option maxRecDepth 100000 in
theorem mtX4_widest (l : Launch) (X : XT) (n : Nat) (T T' : TS) (r : Int32) (h : fX4_widest n T = some (r, T')) : Met l yX4_widest wsX4_widest (RM 0) (PreX X [.ref (ad X 1)] T) (QQ X (some (.int r)) T') 0 0 (xA X) := by
  refine q_start (by decide) rfl (Nat.le_of_ble_eq_true rfl) ?_
  intro k hk C
  subst hk
  show GW k T 0 [(0, .ref (ad k.1 1))] []
  unfold fX4_widest at h
  refine q_aload_n C dX4_widest_0 rfl 0 rfl ?_
  refine q_get (j := 5) C dX4_widest_1 (wE_1 _ _) rfl (by decide) rfl inn_X4_widest_4 (by decide +kernel) rfl ?_
  refine q_if_ne (tgt := 11) C dX4_widest_4 (by decide) h (fun c h => ?_) (fun c h => ?_)
  · refine q_aload_n C dX4_widest_11 rfl 0 rfl ?_
    refine q_get (j := 6) C dX4_widest_12 (wE_1 _ _) rfl (by decide) rfl inn_X4_widest_4 (by decide +kernel) rfl ?_
    refine q_aload_n C dX4_widest_15 rfl 0 rfl ?_
    refine q_get (j := 7) C dX4_widest_16 (wE_1 _ _) rfl (by decide) rfl inn_X4_widest_4 (by decide +kernel) rfl ?_
    refine q_iconst (v := 0) C dX4_widest_19 (by decide) ?_
    refine q_iald C dX4_widest_20 (wE_3 _ _) h (fun h => ?_)
    refine q_iald C dX4_widest_21 (wE_2 _ _) h (fun h => ?_)
    exact q_ireturn C dX4_widest_22 h
  · refine q_iconst (v := 0) C dX4_widest_7 (by decide) ?_
    refine q_goto (tgt := 22) C dX4_widest_8 (by decide) ?_
    exact q_ireturn C dX4_widest_22 h
def fX4_addWidth_L7 (n : Nat) (y1 : Int32) (y2 : Int32) (kk : Int32 → TS → Option (Int32 × TS)) : Nat → Int32 → TS → Option (Int32 × TS)
  | 0, _, _ => none
  | fuel + 1, x3, T => if x3 ≤ 0 then kk x3 T else ck (x3 - (1 : Int32)) 6 (ck (gA T 3 (Int32.toNatClampNeg (x3 - (1 : Int32)))) 6 (if y1 ≤ (gA T 2 (Int32.toNatClampNeg (gA T 3 (Int32.toNatClampNeg (x3 - (1 : Int32)))))) then kk x3 T else ck (x3 - (1 : Int32)) 6 (ck x3 6 (nm (sA T 3 x3 (gA T 3 (Int32.toNatClampNeg (x3 - (1 : Int32))))) (fun T_2 => fX4_addWidth_L7 n y1 y2 kk fuel (x3 + (-1)) T_2)))))
set_option maxHeartbeats 4000000 in
set_option maxRecDepth 100000 in
theorem lpX4_addWidth_L7 {l : Launch} {k : KT} {n : Nat} {y1 : Int32} {y2 : Int32} {kk : Int32 → TS → Option (Int32 × TS)} {r : Int32} {T' : TS} (C : CX l k 4 cX4_addWidth RX4 wsX4_addWidth 0 (some .int) (some (.int r), T')) (hk : ∀ e3 T1, kk e3 T1 = some (r, T') → GW k T1 48 [(0, .ref (ad k.1 1)), (1, .int y1), (2, .int y2), (3, .int e3)] []) : ∀ (fuel : Nat) (x3 : Int32) (T : TS), fX4_addWidth_L7 n y1 y2 kk fuel x3 T = some (r, T') → GW k T 7 [(0, .ref (ad k.1 1)), (1, .int y1), (2, .int y2), (3, .int x3)] [] := by
  intro fuel
  induction fuel with
  | zero => intro x3 T h; cases h
  | succ fuel ih =>
    intro x3 T h
    rw [fX4_addWidth_L7] at h
    refine q_iload_n C dX4_addWidth_7 rfl 3 rfl ?_
    refine q_if_le (tgt := 48) C dX4_addWidth_8 (by decide) h (fun c h => ?_) (fun c h => ?_)
    · refine q_sub [0, 1, 2, 3] rfl ?_
      exact hk _ _ h
    · refine q_aload_n C dX4_addWidth_11 rfl 0 rfl ?_
      refine q_get (j := 6) C dX4_addWidth_12 (wE_1 _ _) rfl (by decide) rfl inn_X4_addWidth_4 (by decide +kernel) rfl ?_
      refine q_aload_n C dX4_addWidth_15 rfl 0 rfl ?_
      refine q_get (j := 7) C dX4_addWidth_16 (wE_1 _ _) rfl (by decide) rfl inn_X4_addWidth_4 (by decide +kernel) rfl ?_
      refine q_iload_n C dX4_addWidth_19 rfl 3 rfl ?_
      refine q_iconst (v := 1) C dX4_addWidth_20 (by decide) ?_
      refine q_isub C dX4_addWidth_21 ?_
      refine q_iald C dX4_addWidth_22 (wE_3 _ _) h (fun h => ?_)
      refine q_iald C dX4_addWidth_23 (wE_2 _ _) h (fun h => ?_)
      refine q_iload_n C dX4_addWidth_24 rfl 1 rfl ?_
      refine q_icmp_ge (tgt := 48) C dX4_addWidth_25 (by decide) h (fun c h => ?_) (fun c h => ?_)
      · refine q_sub [0, 1, 2, 3] rfl ?_
        exact hk _ _ h
      · refine q_aload_n C dX4_addWidth_28 rfl 0 rfl ?_
        refine q_get (j := 7) C dX4_addWidth_29 (wE_1 _ _) rfl (by decide) rfl inn_X4_addWidth_4 (by decide +kernel) rfl ?_
        refine q_iload_n C dX4_addWidth_32 rfl 3 rfl ?_
        refine q_aload_n C dX4_addWidth_33 rfl 0 rfl ?_
        refine q_get (j := 7) C dX4_addWidth_34 (wE_1 _ _) rfl (by decide) rfl inn_X4_addWidth_4 (by decide +kernel) rfl ?_
        refine q_iload_n C dX4_addWidth_37 rfl 3 rfl ?_
        refine q_iconst (v := 1) C dX4_addWidth_38 (by decide) ?_
        refine q_isub C dX4_addWidth_39 ?_
        refine q_iald C dX4_addWidth_40 (wE_3 _ _) h (fun h => ?_)
        refine q_iast C dX4_addWidth_41 (wE_3 _ _) (wS_3 _ _) h (fun T_2 h => ?_)
        refine q_iinc (j := 3) (v := -1) (lv' := [(0, .ref (ad k.1 1)), (1, .int y1), (2, .int y2), (3, .int (x3 + (-1)))]) C dX4_addWidth_42 rfl (by decide) (by decide) rfl ?_
        refine q_goto (tgt := 7) C dX4_addWidth_45 (by decide) ?_
        refine q_sub [0, 1, 2, 3] rfl ?_
        exact ih _ _ h
def fX4_addWidth (n : Nat) (p0 : Int32) (T : TS) : Option (Int32 × TS) := nm (gI T 55) (fun x2_1 => fX4_addWidth_L7 n p0 x2_1 (fun e3_3 T_4 => ck e3_3 6 (nm (sA T_4 3 e3_3 x2_1) (fun T_5 => ck x2_1 6 (nm (sA T_5 2 x2_1 p0) (fun T_6 => nm (uI T_6 55 ((gI T_6 55) + (1 : Int32))) (fun T_7 => some (x2_1, T_7))))))) n x2_1 T)
set_option maxHeartbeats 4000000 in
set_option maxRecDepth 100000 in
theorem mtX4_addWidth (l : Launch) (X : XT) (n : Nat) (p0 : Int32) (T T' : TS) (r : Int32) (h : fX4_addWidth n p0 T = some (r, T')) : Met l yX4_addWidth wsX4_addWidth (RM 0) (PreX X [.ref (ad X 1), .int p0] T) (QQ X (some (.int r)) T') 0 0 (xA X) := by
  refine q_start (by decide) rfl (Nat.le_of_ble_eq_true rfl) ?_
  intro k hk C
  subst hk
  show GW k T 0 [(0, .ref (ad k.1 1)), (1, .int p0)] []
  unfold fX4_addWidth at h
  refine q_aload_n C dX4_addWidth_0 rfl 0 rfl ?_
  refine q_get (j := 5) C dX4_addWidth_1 (wE_1 _ _) rfl (by decide) rfl inn_X4_addWidth_4 (by decide +kernel) rfl ?_
  refine q_nm h (fun x2_1 h => ?_)
  refine q_istore_n (lv' := [(0, .ref (ad k.1 1)), (1, .int p0), (2, .int x2_1)]) C dX4_addWidth_4 rfl (by decide) rfl ?_
  refine q_iload_n C dX4_addWidth_5 rfl 2 rfl ?_
  refine q_istore_n (lv' := [(0, .ref (ad k.1 1)), (1, .int p0), (2, .int x2_1), (3, .int x2_1)]) C dX4_addWidth_6 rfl (by decide) rfl ?_
  refine q_sub [0, 1, 2, 3] rfl ?_
  refine lpX4_addWidth_L7 C (fun e3_3 T_4 h => ?_) _ _ _ h
  refine q_aload_n C dX4_addWidth_48 rfl 0 rfl ?_
  refine q_get (j := 7) C dX4_addWidth_49 (wE_1 _ _) rfl (by decide) rfl inn_X4_addWidth_4 (by decide +kernel) rfl ?_
  refine q_iload_n C dX4_addWidth_52 rfl 3 rfl ?_
  refine q_iload_n C dX4_addWidth_53 rfl 2 rfl ?_
  refine q_iast C dX4_addWidth_54 (wE_3 _ _) (wS_3 _ _) h (fun T_5 h => ?_)
  refine q_aload_n C dX4_addWidth_55 rfl 0 rfl ?_
  refine q_get (j := 6) C dX4_addWidth_56 (wE_1 _ _) rfl (by decide) rfl inn_X4_addWidth_4 (by decide +kernel) rfl ?_
  refine q_iload_n C dX4_addWidth_59 rfl 2 rfl ?_
  refine q_iload_n C dX4_addWidth_60 rfl 1 rfl ?_
  refine q_iast C dX4_addWidth_61 (wE_2 _ _) (wS_2 _ _) h (fun T_6 h => ?_)
  refine q_aload_n C dX4_addWidth_62 rfl 0 rfl ?_
  refine q_dup C dX4_addWidth_63 rfl ?_
  refine q_get (j := 5) C dX4_addWidth_64 (wE_1 _ _) rfl (by decide) rfl inn_X4_addWidth_4 (by decide +kernel) rfl ?_
  refine q_iconst (v := 1) C dX4_addWidth_67 (by decide) ?_
  refine q_iadd C dX4_addWidth_68 ?_
  refine q_putI (j := 5) (ty := .int) C dX4_addWidth_69 (wE_1 _ _) (wP_1_5 _ _ _) rfl (by decide) (Nat.le_of_ble_eq_true rfl) tyX4 tyX4_ok nmX4 inn_X4_addWidth_4 (by decide +kernel) rfl rfl (by decide +kernel) rfl rfl h (fun T_7 h => ?_)
  refine q_iload_n C dX4_addWidth_72 rfl 2 rfl ?_
  exact q_ireturn C dX4_addWidth_73 h
def fX4_room (n : Nat) (T : TS) : Option (Int32 × TS) := some (((gI T 50) - ((2 : Int32) * (gI T 51))), T)
set_option maxHeartbeats 4000000 in
set_option maxRecDepth 100000 in
theorem mtX4_room (l : Launch) (X : XT) (n : Nat) (T T' : TS) (r : Int32) (h : fX4_room n T = some (r, T')) : Met l yX4_room wsX4_room (RM 0) (PreX X [.ref (ad X 1)] T) (QQ X (some (.int r)) T') 0 0 (xA X) := by
  refine q_start (by decide) rfl (Nat.le_of_ble_eq_true rfl) ?_
  intro k hk C
  subst hk
  show GW k T 0 [(0, .ref (ad k.1 1))] []
  unfold fX4_room at h
  refine q_aload_n C dX4_room_0 rfl 0 rfl ?_
  refine q_get (j := 0) C dX4_room_1 (wE_1 _ _) rfl (by decide) rfl inn_X4_room_4 (by decide +kernel) rfl ?_
  refine q_iconst (v := 2) C dX4_room_4 (by decide) ?_
  refine q_aload_n C dX4_room_5 rfl 0 rfl ?_
  refine q_get (j := 1) C dX4_room_6 (wE_1 _ _) rfl (by decide) rfl inn_X4_room_4 (by decide +kernel) rfl ?_
  refine q_imul C dX4_room_9 ?_
  refine q_isub C dX4_room_10 ?_
  exact q_ireturn C dX4_room_11 h
def fX4_spanOf_L4 (n : Nat) (y1 : Int32) (kk : Int32 → TS → Option (Int32 × TS)) : Nat → Int32 → Int32 → TS → Option (Int32 × TS)
  | 0, _, _, _ => none
  | fuel + 1, x2, x3, T => if (gI T 55) ≤ x3 then kk x2 T else bd (fX0_ofWidth n y1 x3 T) (fun r_2 T_1 => ck x3 6 (nm (x2 + (r_2 * (gA T_1 2 (Int32.toNatClampNeg x3)))) (fun x2_3 => fX4_spanOf_L4 n y1 kk fuel x2_3 (x3 + 1) T_1)))
set_option maxHeartbeats 4000000 in
set_option maxRecDepth 100000 in
theorem lpX4_spanOf_L4 {l : Launch} {k : KT} {n : Nat} {y1 : Int32} {kk : Int32 → TS → Option (Int32 × TS)} {r : Int32} {T' : TS} (C : CX l k 4 cX4_spanOf RX4 wsX4_spanOf 1 (some .int) (some (.int r), T')) (hk : ∀ e2 T1, kk e2 T1 = some (r, T') → GW k T1 33 [(2, .int e2)] []) : ∀ (fuel : Nat) (x2 : Int32) (x3 : Int32) (T : TS), fX4_spanOf_L4 n y1 kk fuel x2 x3 T = some (r, T') → GW k T 4 [(0, .ref (ad k.1 1)), (1, .int y1), (2, .int x2), (3, .int x3)] [] := by
  intro fuel
  induction fuel with
  | zero => intro x2 x3 T h; cases h
  | succ fuel ih =>
    intro x2 x3 T h
    rw [fX4_spanOf_L4] at h
    refine q_iload_n C dX4_spanOf_4 rfl 3 rfl ?_
    refine q_aload_n C dX4_spanOf_5 rfl 0 rfl ?_
    refine q_get (j := 5) C dX4_spanOf_6 (wE_1 _ _) rfl (by decide) rfl inn_X4_spanOf_4 (by decide +kernel) rfl ?_
    refine q_icmp_ge (tgt := 33) C dX4_spanOf_9 (by decide) h (fun c h => ?_) (fun c h => ?_)
    · refine q_sub [2] rfl ?_
      exact hk _ _ h
    · refine q_iload_n C dX4_spanOf_12 rfl 2 rfl ?_
      refine q_iload_n C dX4_spanOf_13 rfl 1 rfl ?_
      refine q_iload_n C dX4_spanOf_14 rfl 3 rfl ?_
      obtain ⟨r_2, T_1, hc, h⟩ := bd_some h
      refine q_callS (st' := [.int r_2, .int x2]) C dX4_spanOf_15 [.int y1, .int x3] [.int x2] (mtX0_ofWidth l _ n _ _ _ _ _ hc) gX4_spanOf_X0_ofWidth rfl hd_X0_ofWidth (by decide) (by decide) rfl rfl (Nat.le_of_ble_eq_true rfl) rfl ?_
      clear hc
      refine q_aload_n C dX4_spanOf_18 rfl 0 rfl ?_
      refine q_get (j := 6) C dX4_spanOf_19 (wE_1 _ _) rfl (by decide) rfl inn_X4_spanOf_4 (by decide +kernel) rfl ?_
      refine q_iload_n C dX4_spanOf_22 rfl 3 rfl ?_
      refine q_iald C dX4_spanOf_23 (wE_2 _ _) h (fun h => ?_)
      refine q_imul C dX4_spanOf_24 ?_
      refine q_iadd C dX4_spanOf_25 ?_
      refine q_nm h (fun x2_3 h => ?_)
      refine q_istore_n (lv' := [(0, .ref (ad k.1 1)), (1, .int y1), (2, .int x2_3), (3, .int x3)]) C dX4_spanOf_26 rfl (by decide) rfl ?_
      refine q_iinc (j := 3) (v := 1) (lv' := [(0, .ref (ad k.1 1)), (1, .int y1), (2, .int x2_3), (3, .int (x3 + 1))]) C dX4_spanOf_27 rfl (by decide) (by decide) rfl ?_
      refine q_goto (tgt := 4) C dX4_spanOf_30 (by decide) ?_
      refine q_sub [0, 1, 2, 3] rfl ?_
      exact ih _ _ _ h
def fX4_spanOf (n : Nat) (p0 : Int32) (T : TS) : Option (Int32 × TS) := fX4_spanOf_L4 n p0 (fun e2_4 T_5 => some (e2_4, T_5)) n (0 : Int32) (0 : Int32) T
set_option maxHeartbeats 4000000 in
set_option maxRecDepth 100000 in
theorem mtX4_spanOf (l : Launch) (X : XT) (n : Nat) (p0 : Int32) (T T' : TS) (r : Int32) (h : fX4_spanOf n p0 T = some (r, T')) : Met l yX4_spanOf wsX4_spanOf (RM 1) (PreX X [.ref (ad X 1), .int p0] T) (QQ X (some (.int r)) T') 0 0 (xA X) := by
  refine q_start (by decide) rfl (Nat.le_of_ble_eq_true rfl) ?_
  intro k hk C
  subst hk
  show GW k T 0 [(0, .ref (ad k.1 1)), (1, .int p0)] []
  unfold fX4_spanOf at h
  refine q_iconst (v := 0) C dX4_spanOf_0 (by decide) ?_
  refine q_istore_n (lv' := [(0, .ref (ad k.1 1)), (1, .int p0), (2, .int (0 : Int32))]) C dX4_spanOf_1 rfl (by decide) rfl ?_
  refine q_iconst (v := 0) C dX4_spanOf_2 (by decide) ?_
  refine q_istore_n (lv' := [(0, .ref (ad k.1 1)), (1, .int p0), (2, .int (0 : Int32)), (3, .int (0 : Int32))]) C dX4_spanOf_3 rfl (by decide) rfl ?_
  refine q_sub [0, 1, 2, 3] rfl ?_
  refine lpX4_spanOf_L4 C (fun e2_4 T_5 h => ?_) _ _ _ _ h
  refine q_iload_n C dX4_spanOf_33 rfl 0 rfl ?_
  exact q_ireturn C dX4_spanOf_34 h
def fX4_wasteOf (n : Nat) (p0 : Int32) (T : TS) : Option (Int32 × TS) := bd (fX4_spanOf n p0 T) (fun r_2 T_1 => some (((gI T 50) - r_2), T_1))
set_option maxHeartbeats 4000000 in
set_option maxRecDepth 100000 in
theorem mtX4_wasteOf (l : Launch) (X : XT) (n : Nat) (p0 : Int32) (T T' : TS) (r : Int32) (h : fX4_wasteOf n p0 T = some (r, T')) : Met l yX4_wasteOf wsX4_wasteOf (RM 2) (PreX X [.ref (ad X 1), .int p0] T) (QQ X (some (.int r)) T') 0 0 (xA X) := by
  refine q_start (by decide) rfl (Nat.le_of_ble_eq_true rfl) ?_
  intro k hk C
  subst hk
  show GW k T 0 [(0, .ref (ad k.1 1)), (1, .int p0)] []
  unfold fX4_wasteOf at h
  refine q_aload_n C dX4_wasteOf_0 rfl 0 rfl ?_
  refine q_get (j := 0) C dX4_wasteOf_1 (wE_1 _ _) rfl (by decide) rfl inn_X4_wasteOf_4 (by decide +kernel) rfl ?_
  refine q_aload_n C dX4_wasteOf_4 rfl 0 rfl ?_
  refine q_iload_n C dX4_wasteOf_5 rfl 1 rfl ?_
  obtain ⟨r_2, T_1, hc, h⟩ := bd_some h
  refine q_callV (st' := [.int r_2, .int (gI T 50)]) C dX4_wasteOf_6 [.int p0] [.int (gI T 50)] (mtX4_spanOf l _ n _ _ _ _ hc) gX4_wasteOf_X4_spanOf rfl hd_X4_spanOf (by decide) (by decide) (wE_1 _ _) rfl rfl rfl (Nat.le_of_ble_eq_true rfl) rfl ?_
  clear hc
  refine q_isub C dX4_wasteOf_9 ?_
  exact q_ireturn C dX4_wasteOf_10 h
def fX4_canPart_L20 (n : Nat) (rc : Int32 → Int32 → Int32 → Int32 → TS → Option (Int32 × TS)) (y1 : Int32) (y2 : Int32) (y3 : Int32) (y4 : Int32) (y5 : Int32) (kk : TS → Option (Int32 × TS)) : Nat → Int32 → TS → Option (Int32 × TS)
  | 0, _, _ => none
  | fuel + 1, x6, T => if y5 < x6 then kk T else ck y2 6 (nm (y3 - (x6 * (gA T 2 (Int32.toNatClampNeg y2)))) (fun x7_3 => ck y2 6 (nm (y4 - ((y5 - x6) * (gA T 2 (Int32.toNatClampNeg y2)))) (fun x8_4 => if x7_3 < 0 then fX4_canPart_L20 n rc y1 y2 y3 y4 y5 kk fuel (x6 + 1) T else if x8_4 < 0 then fX4_canPart_L20 n rc y1 y2 y3 y4 y5 kk fuel (x6 + 1) T else bd (rc y1 (y2 + (1 : Int32)) x7_3 x8_4 T) (fun r_6 T_5 => if r_6 = 0 then fX4_canPart_L20 n rc y1 y2 y3 y4 y5 kk fuel (x6 + 1) T_5 else rz (1 : Int32) T_5)))))
set_option maxHeartbeats 4000000 in
set_option maxRecDepth 100000 in
theorem lpX4_canPart_L20 {l : Launch} {k : KT} {n : Nat} {rc : Int32 → Int32 → Int32 → Int32 → TS → Option (Int32 × TS)} {y1 : Int32} {y2 : Int32} {y3 : Int32} {y4 : Int32} {y5 : Int32} {kk : TS → Option (Int32 × TS)} {r : Int32} {T' : TS} {lv0 : Nat} (C : CX l k 9 cX4_canPart RX4 wsX4_canPart (lv0 + 1) (some .boolean) (some (.int r), T')) (hrc : ∀ p0 p1 p2 p3 T T' r, rc p0 p1 p2 p3 T = some (r, T') → Met l yX4_canPart wsX4_canPart (RM lv0) (PreX k.1 [.ref (ad k.1 1), .int p0, .int p1, .int p2, .int p3] T) (QQ k.1 (some (.int r)) T') 0 0 (xA k.1)) (hl0 : 1 ≤ lv0) (hk : ∀ T1, kk T1 = some (r, T') → GW k T1 90 [] []) : ∀ (fuel : Nat) (x6 : Int32) (T : TS), fX4_canPart_L20 n rc y1 y2 y3 y4 y5 kk fuel x6 T = some (r, T') → GW k T 20 [(0, .ref (ad k.1 1)), (1, .int y1), (2, .int y2), (3, .int y3), (4, .int y4), (5, .int y5), (6, .int x6)] [] := by
  intro fuel
  induction fuel with
  | zero => intro x6 T h; cases h
  | succ fuel ih =>
    intro x6 T h
    rw [fX4_canPart_L20] at h
    refine q_iload C dX4_canPart_20 6 rfl ?_
    refine q_iload C dX4_canPart_22 5 rfl ?_
    refine q_icmp_gt (tgt := 90) C dX4_canPart_24 (by decide) h (fun c h => ?_) (fun c h => ?_)
    · refine q_sub [] rfl ?_
      exact hk _ h
    · refine q_iload_n C dX4_canPart_27 rfl 3 rfl ?_
      refine q_iload C dX4_canPart_28 6 rfl ?_
      refine q_aload_n C dX4_canPart_30 rfl 0 rfl ?_
      refine q_get (j := 6) C dX4_canPart_31 (wE_1 _ _) rfl (by decide) rfl inn_X4_canPart_4 (by decide +kernel) rfl ?_
      refine q_iload_n C dX4_canPart_34 rfl 2 rfl ?_
      refine q_iald C dX4_canPart_35 (wE_2 _ _) h (fun h => ?_)
      refine q_imul C dX4_canPart_36 ?_
      refine q_isub C dX4_canPart_37 ?_
      refine q_nm h (fun x7_3 h => ?_)
      refine q_istore (lv' := [(0, .ref (ad k.1 1)), (1, .int y1), (2, .int y2), (3, .int y3), (4, .int y4), (5, .int y5), (6, .int x6), (7, .int x7_3)]) C dX4_canPart_38 (by decide) rfl ?_
      refine q_iload C dX4_canPart_40 4 rfl ?_
      refine q_iload C dX4_canPart_42 5 rfl ?_
      refine q_iload C dX4_canPart_44 6 rfl ?_
      refine q_isub C dX4_canPart_46 ?_
      refine q_aload_n C dX4_canPart_47 rfl 0 rfl ?_
      refine q_get (j := 6) C dX4_canPart_48 (wE_1 _ _) rfl (by decide) rfl inn_X4_canPart_4 (by decide +kernel) rfl ?_
      refine q_iload_n C dX4_canPart_51 rfl 2 rfl ?_
      refine q_iald C dX4_canPart_52 (wE_2 _ _) h (fun h => ?_)
      refine q_imul C dX4_canPart_53 ?_
      refine q_isub C dX4_canPart_54 ?_
      refine q_nm h (fun x8_4 h => ?_)
      refine q_istore (lv' := [(0, .ref (ad k.1 1)), (1, .int y1), (2, .int y2), (3, .int y3), (4, .int y4), (5, .int y5), (6, .int x6), (7, .int x7_3), (8, .int x8_4)]) C dX4_canPart_55 (by decide) rfl ?_
      refine q_iload C dX4_canPart_57 7 rfl ?_
      refine q_if_lt (tgt := 84) C dX4_canPart_59 (by decide) h (fun c h => ?_) (fun c h => ?_)
      · refine q_iinc (j := 6) (v := 1) (lv' := [(0, .ref (ad k.1 1)), (1, .int y1), (2, .int y2), (3, .int y3), (4, .int y4), (5, .int y5), (6, .int (x6 + 1)), (7, .int x7_3), (8, .int x8_4)]) C dX4_canPart_84 rfl (by decide) (by decide) rfl ?_
        refine q_goto (tgt := 20) C dX4_canPart_87 (by decide) ?_
        refine q_sub [0, 1, 2, 3, 4, 5, 6] rfl ?_
        exact ih _ _ h
      · refine q_iload C dX4_canPart_62 8 rfl ?_
        refine q_if_lt (tgt := 84) C dX4_canPart_64 (by decide) h (fun c h => ?_) (fun c h => ?_)
        · refine q_iinc (j := 6) (v := 1) (lv' := [(0, .ref (ad k.1 1)), (1, .int y1), (2, .int y2), (3, .int y3), (4, .int y4), (5, .int y5), (6, .int (x6 + 1)), (7, .int x7_3), (8, .int x8_4)]) C dX4_canPart_84 rfl (by decide) (by decide) rfl ?_
          refine q_goto (tgt := 20) C dX4_canPart_87 (by decide) ?_
          refine q_sub [0, 1, 2, 3, 4, 5, 6] rfl ?_
          exact ih _ _ h
        · refine q_aload_n C dX4_canPart_67 rfl 0 rfl ?_
          refine q_iload_n C dX4_canPart_68 rfl 1 rfl ?_
          refine q_iload_n C dX4_canPart_69 rfl 2 rfl ?_
          refine q_iconst (v := 1) C dX4_canPart_70 (by decide) ?_
          refine q_iadd C dX4_canPart_71 ?_
          refine q_iload C dX4_canPart_72 7 rfl ?_
          refine q_iload C dX4_canPart_74 8 rfl ?_
          obtain ⟨r_6, T_5, hc, h⟩ := bd_some h
          refine q_callV (st' := [.int r_6]) C dX4_canPart_76 [.int y1, .int (y2 + (1 : Int32)), .int x7_3, .int x8_4] [] (hrc _ _ _ _ _ _ _ hc) gX4_canPart_X4_canPart rfl hd_X4_canPart (Nat.le_refl _) (by decide) (wE_1 _ _) rfl rfl rfl (Nat.le_of_ble_eq_true rfl) rfl ?_
          clear hc
          refine q_if_eq (tgt := 84) C dX4_canPart_79 (by decide) h (fun c h => ?_) (fun c h => ?_)
          · refine q_iinc (j := 6) (v := 1) (lv' := [(0, .ref (ad k.1 1)), (1, .int y1), (2, .int y2), (3, .int y3), (4, .int y4), (5, .int y5), (6, .int (x6 + 1)), (7, .int x7_3), (8, .int x8_4)]) C dX4_canPart_84 rfl (by decide) (by decide) rfl ?_
            refine q_goto (tgt := 20) C dX4_canPart_87 (by decide) ?_
            refine q_sub [0, 1, 2, 3, 4, 5, 6] rfl ?_
            exact ih _ _ h
          · refine q_iconst (v := 1) C dX4_canPart_82 (by decide) ?_
            exact q_zreturn C dX4_canPart_83 h
def fX4_canPart_B (n : Nat) (rc : Int32 → Int32 → Int32 → Int32 → TS → Option (Int32 × TS)) (p0 : Int32) (p1 : Int32) (p2 : Int32) (p3 : Int32) (T : TS) : Option (Int32 × TS) := if p1 < (gI T 55) then bd (fX0_ofWidth n p0 p1 T) (fun r_2 T_1 => fX4_canPart_L20 n rc p0 p1 p2 p3 r_2 (fun T_7 => rz (0 : Int32) T_7) n (0 : Int32) T_1) else rz (1 : Int32) T
set_option maxHeartbeats 4000000 in
set_option maxRecDepth 100000 in
theorem mbX4_canPart (l : Launch) (X : XT) (n : Nat) (rc : Int32 → Int32 → Int32 → Int32 → TS → Option (Int32 × TS)) (lv0 : Nat) (hl0 : 1 ≤ lv0) (hrc : ∀ p0 p1 p2 p3 T T' r, rc p0 p1 p2 p3 T = some (r, T') → Met l yX4_canPart wsX4_canPart (RM lv0) (PreX X [.ref (ad X 1), .int p0, .int p1, .int p2, .int p3] T) (QQ X (some (.int r)) T') 0 0 (xA X)) (p0 : Int32) (p1 : Int32) (p2 : Int32) (p3 : Int32) (T T' : TS) (r : Int32) (h : fX4_canPart_B n rc p0 p1 p2 p3 T = some (r, T')) : Met l yX4_canPart wsX4_canPart (RM (lv0 + 1)) (PreX X [.ref (ad X 1), .int p0, .int p1, .int p2, .int p3] T) (QQ X (some (.int r)) T') 0 0 (xA X) := by
  refine q_start (by decide) rfl (Nat.le_of_ble_eq_true rfl) ?_
  intro k hk C
  subst hk
  show GW k T 0 [(0, .ref (ad k.1 1)), (1, .int p0), (2, .int p1), (3, .int p2), (4, .int p3)] []
  unfold fX4_canPart_B at h
  refine q_iload_n C dX4_canPart_0 rfl 2 rfl ?_
  refine q_aload_n C dX4_canPart_1 rfl 0 rfl ?_
  refine q_get (j := 5) C dX4_canPart_2 (wE_1 _ _) rfl (by decide) rfl inn_X4_canPart_4 (by decide +kernel) rfl ?_
  refine q_icmp_lt (tgt := 10) C dX4_canPart_5 (by decide) h (fun c h => ?_) (fun c h => ?_)
  · refine q_iload_n C dX4_canPart_10 rfl 1 rfl ?_
    refine q_iload_n C dX4_canPart_11 rfl 2 rfl ?_
    obtain ⟨r_2, T_1, hc, h⟩ := bd_some h
    refine q_callS (st' := [.int r_2]) C dX4_canPart_12 [.int p0, .int p1] [] (mtX0_ofWidth l _ n _ _ _ _ _ hc) gX4_canPart_X0_ofWidth rfl hd_X0_ofWidth (by omega) (by decide) rfl rfl (Nat.le_of_ble_eq_true rfl) rfl ?_
    clear hc
    refine q_istore (lv' := [(0, .ref (ad k.1 1)), (1, .int p0), (2, .int p1), (3, .int p2), (4, .int p3), (5, .int r_2)]) C dX4_canPart_15 (by decide) rfl ?_
    refine q_iconst (v := 0) C dX4_canPart_17 (by decide) ?_
    refine q_istore (lv' := [(0, .ref (ad k.1 1)), (1, .int p0), (2, .int p1), (3, .int p2), (4, .int p3), (5, .int r_2), (6, .int (0 : Int32))]) C dX4_canPart_18 (by decide) rfl ?_
    refine q_sub [0, 1, 2, 3, 4, 5, 6] rfl ?_
    refine lpX4_canPart_L20 C hrc hl0 (fun T_7 h => ?_) _ _ _ h
    refine q_iconst (v := 0) C dX4_canPart_90 (by decide) ?_
    exact q_zreturn C dX4_canPart_91 h
  · refine q_iconst (v := 1) C dX4_canPart_8 (by decide) ?_
    exact q_zreturn C dX4_canPart_9 h
def fX4_canPart (n : Nat) : Nat → Int32 → Int32 → Int32 → Int32 → TS → Option (Int32 × TS)
  | 0, _, _, _, _, _ => none
  | d + 1, p0, p1, p2, p3, T => fX4_canPart_B n (fX4_canPart n d) p0 p1 p2 p3 T
set_option maxHeartbeats 4000000 in
set_option maxRecDepth 100000 in
theorem mtX4_canPart (l : Launch) (X : XT) (n : Nat) : ∀ (d : Nat) (p0 : Int32) (p1 : Int32) (p2 : Int32) (p3 : Int32) (T T' : TS) (r : Int32), fX4_canPart n d p0 p1 p2 p3 T = some (r, T') → Met l yX4_canPart wsX4_canPart (RM (1 + d)) (PreX X [.ref (ad X 1), .int p0, .int p1, .int p2, .int p3] T) (QQ X (some (.int r)) T') 0 0 (xA X)
  | 0, _, _, _, _, _, _, _, h => by cases h
  | d + 1, p0, p1, p2, p3, T, T', r, h => mbX4_canPart l X n (fX4_canPart n d) (1 + d) (by omega) (fun _ _ _ _ _ _ _ h => mtX4_canPart l X n d _ _ _ _ _ _ _ h) p0 p1 p2 p3 T T' r h
def fX4_fitsFlawed (n : Nat) (p0 : Int32) (T : TS) : Option (Int32 × TS) := if (gI T 53) < (gI T 54) then nm (imax (0 : Int32) ((imin (gI T 53) ((gI T 50) - (gI T 51))) - (gI T 51))) (fun x2_1 => nm (imax (0 : Int32) (((gI T 50) - (gI T 51)) - (imax (gI T 54) (gI T 51)))) (fun x3_2 => bd (fX4_canPart n 8 p0 (0 : Int32) x2_1 x3_2 T) (fun r_4 T_3 => rz r_4 T_3))) else rz (1 : Int32) T
set_option maxHeartbeats 4000000 in
set_option maxRecDepth 100000 in
theorem mtX4_fitsFlawed (l : Launch) (X : XT) (n : Nat) (p0 : Int32) (T T' : TS) (r : Int32) (h : fX4_fitsFlawed n p0 T = some (r, T')) : Met l yX4_fitsFlawed wsX4_fitsFlawed (RM 10) (PreX X [.ref (ad X 1), .int p0] T) (QQ X (some (.int r)) T') 0 0 (xA X) := by
  refine q_start (by decide) rfl (Nat.le_of_ble_eq_true rfl) ?_
  intro k hk C
  subst hk
  show GW k T 0 [(0, .ref (ad k.1 1)), (1, .int p0)] []
  unfold fX4_fitsFlawed at h
  refine q_aload_n C dX4_fitsFlawed_0 rfl 0 rfl ?_
  refine q_get (j := 3) C dX4_fitsFlawed_1 (wE_1 _ _) rfl (by decide) rfl inn_X4_fitsFlawed_4 (by decide +kernel) rfl ?_
  refine q_aload_n C dX4_fitsFlawed_4 rfl 0 rfl ?_
  refine q_get (j := 4) C dX4_fitsFlawed_5 (wE_1 _ _) rfl (by decide) rfl inn_X4_fitsFlawed_4 (by decide +kernel) rfl ?_
  refine q_icmp_lt (tgt := 13) C dX4_fitsFlawed_8 (by decide) h (fun c h => ?_) (fun c h => ?_)
  · refine q_iconst (v := 0) C dX4_fitsFlawed_13 (by decide) ?_
    refine q_aload_n C dX4_fitsFlawed_14 rfl 0 rfl ?_
    refine q_get (j := 3) C dX4_fitsFlawed_15 (wE_1 _ _) rfl (by decide) rfl inn_X4_fitsFlawed_4 (by decide +kernel) rfl ?_
    refine q_aload_n C dX4_fitsFlawed_18 rfl 0 rfl ?_
    refine q_get (j := 0) C dX4_fitsFlawed_19 (wE_1 _ _) rfl (by decide) rfl inn_X4_fitsFlawed_4 (by decide +kernel) rfl ?_
    refine q_aload_n C dX4_fitsFlawed_22 rfl 0 rfl ?_
    refine q_get (j := 1) C dX4_fitsFlawed_23 (wE_1 _ _) rfl (by decide) rfl inn_X4_fitsFlawed_4 (by decide +kernel) rfl ?_
    refine q_isub C dX4_fitsFlawed_26 ?_
    refine q_mmin C dX4_fitsFlawed_27 (by decide +kernel) (by decide +kernel) (by decide +kernel) (by decide +kernel) (by decide) (Nat.le_of_ble_eq_true rfl) ?_
    refine q_aload_n C dX4_fitsFlawed_30 rfl 0 rfl ?_
    refine q_get (j := 1) C dX4_fitsFlawed_31 (wE_1 _ _) rfl (by decide) rfl inn_X4_fitsFlawed_4 (by decide +kernel) rfl ?_
    refine q_isub C dX4_fitsFlawed_34 ?_
    refine q_mmax C dX4_fitsFlawed_35 (by decide +kernel) (by decide +kernel) (by decide +kernel) (by decide +kernel) (by decide) (Nat.le_of_ble_eq_true rfl) ?_
    refine q_nm h (fun x2_1 h => ?_)
    refine q_istore_n (lv' := [(0, .ref (ad k.1 1)), (1, .int p0), (2, .int x2_1)]) C dX4_fitsFlawed_38 rfl (by decide) rfl ?_
    refine q_iconst (v := 0) C dX4_fitsFlawed_39 (by decide) ?_
    refine q_aload_n C dX4_fitsFlawed_40 rfl 0 rfl ?_
    refine q_get (j := 0) C dX4_fitsFlawed_41 (wE_1 _ _) rfl (by decide) rfl inn_X4_fitsFlawed_4 (by decide +kernel) rfl ?_
    refine q_aload_n C dX4_fitsFlawed_44 rfl 0 rfl ?_
    refine q_get (j := 1) C dX4_fitsFlawed_45 (wE_1 _ _) rfl (by decide) rfl inn_X4_fitsFlawed_4 (by decide +kernel) rfl ?_
    refine q_isub C dX4_fitsFlawed_48 ?_
    refine q_aload_n C dX4_fitsFlawed_49 rfl 0 rfl ?_
    refine q_get (j := 4) C dX4_fitsFlawed_50 (wE_1 _ _) rfl (by decide) rfl inn_X4_fitsFlawed_4 (by decide +kernel) rfl ?_
    refine q_aload_n C dX4_fitsFlawed_53 rfl 0 rfl ?_
    refine q_get (j := 1) C dX4_fitsFlawed_54 (wE_1 _ _) rfl (by decide) rfl inn_X4_fitsFlawed_4 (by decide +kernel) rfl ?_
    refine q_mmax C dX4_fitsFlawed_57 (by decide +kernel) (by decide +kernel) (by decide +kernel) (by decide +kernel) (by decide) (Nat.le_of_ble_eq_true rfl) ?_
    refine q_isub C dX4_fitsFlawed_60 ?_
    refine q_mmax C dX4_fitsFlawed_61 (by decide +kernel) (by decide +kernel) (by decide +kernel) (by decide +kernel) (by decide) (Nat.le_of_ble_eq_true rfl) ?_
    refine q_nm h (fun x3_2 h => ?_)
    refine q_istore_n (lv' := [(0, .ref (ad k.1 1)), (1, .int p0), (2, .int x2_1), (3, .int x3_2)]) C dX4_fitsFlawed_64 rfl (by decide) rfl ?_
    refine q_aload_n C dX4_fitsFlawed_65 rfl 0 rfl ?_
    refine q_iload_n C dX4_fitsFlawed_66 rfl 1 rfl ?_
    refine q_iconst (v := 0) C dX4_fitsFlawed_67 (by decide) ?_
    refine q_iload_n C dX4_fitsFlawed_68 rfl 2 rfl ?_
    refine q_iload_n C dX4_fitsFlawed_69 rfl 3 rfl ?_
    obtain ⟨r_4, T_3, hc, h⟩ := bd_some h
    refine q_callV (st' := [.int r_4]) C dX4_fitsFlawed_70 [.int p0, .int (0 : Int32), .int x2_1, .int x3_2] [] (mtX4_canPart l _ n 8 _ _ _ _ _ _ _ hc) gX4_fitsFlawed_X4_canPart rfl hd_X4_canPart (by decide) (by decide) (wE_1 _ _) rfl rfl rfl (Nat.le_of_ble_eq_true rfl) rfl ?_
    clear hc
    exact q_zreturn C dX4_fitsFlawed_73 h
  · refine q_iconst (v := 1) C dX4_fitsFlawed_11 (by decide) ?_
    exact q_zreturn C dX4_fitsFlawed_12 h
def fX5_forget (n : Nat) (T : TS) : Option (TS) := nm (uI T 204 (1 : Int32)) (fun T_1 => some T_1)
set_option maxHeartbeats 4000000 in
set_option maxRecDepth 100000 in
theorem mtX5_forget (l : Launch) (X : XT) (n : Nat) (T T' : TS) (h : fX5_forget n T = some T') : Met l yX5_forget wsX5_forget (RM 0) (PreX X [.ref (ad X 4)] T) (QQ X none T') 0 0 (xA X) := by
  refine q_start (by decide) rfl (Nat.le_of_ble_eq_true rfl) ?_
  intro k hk C
  subst hk
  show GW k T 0 [(0, .ref (ad k.1 4))] []
  unfold fX5_forget at h
  refine q_aload_n C dX5_forget_0 rfl 0 rfl ?_
  refine q_iconst (v := 1) C dX5_forget_1 (by decide) ?_
  refine q_putI (j := 4) (ty := .boolean) C dX5_forget_2 (wE_4 _ _) (wP_4_4 _ _ _) rfl (by decide) (Nat.le_of_ble_eq_true rfl) tyX5 tyX5_ok nmX5 inn_X5_forget_5 (by decide +kernel) rfl rfl (by decide +kernel) rfl rfl h (fun T_1 h => ?_)
  exact q_vreturn C dX5_forget_5 h
def fX5_add (n : Nat) (p0 : Int32) (T : TS) : Option (TS) := if ¬ p0 = 0 then if (gI T 202) < (3000 : Int32) then ck (gI T 202) 3000 (nm (sA T 5 (gI T 202) p0) (fun T_1 => nm (uI T_1 202 ((gI T_1 202) + (1 : Int32))) (fun T_2 => some T_2))) else nm (uI T 203 (1 : Int32)) (fun T_3 => some T_3) else some T
set_option maxHeartbeats 4000000 in
set_option maxRecDepth 100000 in
theorem mtX5_add (l : Launch) (X : XT) (n : Nat) (p0 : Int32) (T T' : TS) (h : fX5_add n p0 T = some T') : Met l yX5_add wsX5_add (RM 0) (PreX X [.ref (ad X 4), .int p0] T) (QQ X none T') 0 0 (xA X) := by
  refine q_start (by decide) rfl (Nat.le_of_ble_eq_true rfl) ?_
  intro k hk C
  subst hk
  show GW k T 0 [(0, .ref (ad k.1 4)), (1, .int p0)] []
  unfold fX5_add at h
  refine q_iload_n C dX5_add_0 rfl 1 rfl ?_
  refine q_if_ne (tgt := 5) C dX5_add_1 (by decide) h (fun c h => ?_) (fun c h => ?_)
  · refine q_aload_n C dX5_add_5 rfl 0 rfl ?_
    refine q_get (j := 2) C dX5_add_6 (wE_4 _ _) rfl (by decide) rfl inn_X5_add_5 (by decide +kernel) rfl ?_
    refine q_aload_n C dX5_add_9 rfl 0 rfl ?_
    refine q_get (j := 1) C dX5_add_10 (wE_4 _ _) rfl (by decide) rfl inn_X5_add_5 (by decide +kernel) rfl ?_
    refine q_alen (v := 3000) C dX5_add_13 (wE_5 _ _) (by decide) ?_
    refine q_icmp_lt (tgt := 25) C dX5_add_14 (by decide) h (fun c h => ?_) (fun c h => ?_)
    · refine q_aload_n C dX5_add_25 rfl 0 rfl ?_
      refine q_get (j := 1) C dX5_add_26 (wE_4 _ _) rfl (by decide) rfl inn_X5_add_5 (by decide +kernel) rfl ?_
      refine q_aload_n C dX5_add_29 rfl 0 rfl ?_
      refine q_get (j := 2) C dX5_add_30 (wE_4 _ _) rfl (by decide) rfl inn_X5_add_5 (by decide +kernel) rfl ?_
      refine q_iload_n C dX5_add_33 rfl 1 rfl ?_
      refine q_iast C dX5_add_34 (wE_5 _ _) (wS_5 _ _) h (fun T_1 h => ?_)
      refine q_aload_n C dX5_add_35 rfl 0 rfl ?_
      refine q_dup C dX5_add_36 rfl ?_
      refine q_get (j := 2) C dX5_add_37 (wE_4 _ _) rfl (by decide) rfl inn_X5_add_5 (by decide +kernel) rfl ?_
      refine q_iconst (v := 1) C dX5_add_40 (by decide) ?_
      refine q_iadd C dX5_add_41 ?_
      refine q_putI (j := 2) (ty := .int) C dX5_add_42 (wE_4 _ _) (wP_4_2 _ _ _) rfl (by decide) (Nat.le_of_ble_eq_true rfl) tyX5 tyX5_ok nmX5 inn_X5_add_5 (by decide +kernel) rfl rfl (by decide +kernel) rfl rfl h (fun T_2 h => ?_)
      exact q_vreturn C dX5_add_45 h
    · refine q_aload_n C dX5_add_17 rfl 0 rfl ?_
      refine q_iconst (v := 1) C dX5_add_18 (by decide) ?_
      refine q_putI (j := 3) (ty := .boolean) C dX5_add_19 (wE_4 _ _) (wP_4_3 _ _ _) rfl (by decide) (Nat.le_of_ble_eq_true rfl) tyX5 tyX5_ok nmX5 inn_X5_add_5 (by decide +kernel) rfl rfl (by decide +kernel) rfl rfl h (fun T_3 h => ?_)
      refine q_goto (tgt := 45) C dX5_add_22 (by decide) ?_
      exact q_vreturn C dX5_add_45 h
  · exact q_vreturn C dX5_add_4 h
def fX5_spread_L41 (n : Nat) (rc : Int32 → Int32 → Int32 → Int32 → TS → Option (TS)) (y1 : Int32) (y2 : Int32) (y3 : Int32) (y4 : Int32) (kk : TS → Option (TS)) : Nat → Int32 → TS → Option (TS)
  | 0, _, _ => none
  | fuel + 1, x6, T => if x6 < 0 then kk T else if ¬ (gI T 203) = 0 then kk T else bd (fX0_packed n y1 x6 T) (fun r_5 T_4 => ck y1 6 (bv (rc (y1 + (1 : Int32)) (y2 ||| r_5) (y3 - (x6 * (gA T_4 2 (Int32.toNatClampNeg y1)))) (y4 - x6) T_4) (fun T_6 => fX5_spread_L41 n rc y1 y2 y3 y4 kk fuel (x6 + (-1)) T_6)))
set_option maxHeartbeats 4000000 in
set_option maxRecDepth 100000 in
theorem lpX5_spread_L41 {l : Launch} {k : KT} {n : Nat} {rc : Int32 → Int32 → Int32 → Int32 → TS → Option (TS)} {y1 : Int32} {y2 : Int32} {y3 : Int32} {y4 : Int32} {kk : TS → Option (TS)} {T' : TS} {lv0 : Nat} (C : CX l k 7 cX5_spread RX5 wsX5_spread (lv0 + 1) none (none, T')) (hrc : ∀ p0 p1 p2 p3 T T', rc p0 p1 p2 p3 T = some T' → Met l yX5_spread wsX5_spread (RM lv0) (PreX k.1 [.ref (ad k.1 4), .int p0, .int p1, .int p2, .int p3] T) (QQ k.1 none T') 0 0 (xA k.1)) (hl0 : 1 ≤ lv0) (hk : ∀ T1, kk T1 = some T' → GW k T1 93 [] []) : ∀ (fuel : Nat) (x6 : Int32) (T : TS), fX5_spread_L41 n rc y1 y2 y3 y4 kk fuel x6 T = some T' → GW k T 41 [(0, .ref (ad k.1 4)), (1, .int y1), (2, .int y2), (3, .int y3), (4, .int y4), (6, .int x6)] [] := by
  intro fuel
  induction fuel with
  | zero => intro x6 T h; cases h
  | succ fuel ih =>
    intro x6 T h
    rw [fX5_spread_L41] at h
    refine q_iload C dX5_spread_41 5 rfl ?_
    refine q_if_lt (tgt := 93) C dX5_spread_43 (by decide) h (fun c h => ?_) (fun c h => ?_)
    · refine q_sub [] rfl ?_
      exact hk _ h
    · refine q_aload_n C dX5_spread_46 rfl 0 rfl ?_
      refine q_get (j := 3) C dX5_spread_47 (wE_4 _ _) rfl (by decide) rfl inn_X5_spread_5 (by decide +kernel) rfl ?_
      refine q_if_ne (tgt := 93) C dX5_spread_50 (by decide) h (fun c h => ?_) (fun c h => ?_)
      · refine q_sub [] rfl ?_
        exact hk _ h
      · refine q_aload_n C dX5_spread_53 rfl 0 rfl ?_
        refine q_iload_n C dX5_spread_54 rfl 1 rfl ?_
        refine q_iconst (v := 1) C dX5_spread_55 (by decide) ?_
        refine q_iadd C dX5_spread_56 ?_
        refine q_iload_n C dX5_spread_57 rfl 2 rfl ?_
        refine q_iload_n C dX5_spread_58 rfl 1 rfl ?_
        refine q_iload C dX5_spread_59 5 rfl ?_
        obtain ⟨r_5, T_4, hc, h⟩ := bd_some h
        refine q_callS (st' := [.int r_5, .int y2, .int (y1 + (1 : Int32)), .ref (ad k.1 4)]) C dX5_spread_61 [.int y1, .int x6] [.int y2, .int (y1 + (1 : Int32)), .ref (ad k.1 4)] (mtX0_packed l _ n _ _ _ _ _ hc) gX5_spread_X0_packed rfl hd_X0_packed (by omega) (by decide) rfl rfl (Nat.le_of_ble_eq_true rfl) rfl ?_
        clear hc
        refine q_ior C dX5_spread_64 ?_
        refine q_iload_n C dX5_spread_65 rfl 3 rfl ?_
        refine q_iload C dX5_spread_66 5 rfl ?_
        refine q_aload_n C dX5_spread_68 rfl 0 rfl ?_
        refine q_get (j := 0) C dX5_spread_69 (wE_4 _ _) rfl (by decide) rfl inn_X5_spread_5 (by decide +kernel) rfl ?_
        refine q_get (j := 6) C dX5_spread_72 (wE_1 _ _) rfl (by decide) rfl inn_X5_spread_4 (by decide +kernel) rfl ?_
        refine q_iload_n C dX5_spread_75 rfl 1 rfl ?_
        refine q_iald C dX5_spread_76 (wE_2 _ _) h (fun h => ?_)
        refine q_imul C dX5_spread_77 ?_
        refine q_isub C dX5_spread_78 ?_
        refine q_iload C dX5_spread_79 4 rfl ?_
        refine q_iload C dX5_spread_81 5 rfl ?_
        refine q_isub C dX5_spread_83 ?_
        obtain ⟨T_6, hc, h⟩ := bv_some h
        refine q_callV (st' := []) C dX5_spread_84 [.int (y1 + (1 : Int32)), .int (y2 ||| r_5), .int (y3 - (x6 * (gA T_4 2 (Int32.toNatClampNeg y1)))), .int (y4 - x6)] [] (hrc _ _ _ _ _ _ hc) gX5_spread_X5_spread rfl hd_X5_spread (Nat.le_refl _) (by decide) (wE_4 _ _) rfl rfl rfl (Nat.le_of_ble_eq_true rfl) rfl ?_
        clear hc
        refine q_iinc (j := 5) (v := -1) (lv' := [(0, .ref (ad k.1 4)), (1, .int y1), (2, .int y2), (3, .int y3), (4, .int y4), (6, .int (x6 + (-1)))]) C dX5_spread_87 rfl (by decide) (by decide) rfl ?_
        refine q_goto (tgt := 41) C dX5_spread_90 (by decide) ?_
        refine q_sub [0, 1, 2, 3, 4, 5] rfl ?_
        exact ih _ _ h
def fX5_spread_B (n : Nat) (rc : Int32 → Int32 → Int32 → Int32 → TS → Option (TS)) (p0 : Int32) (p1 : Int32) (p2 : Int32) (p3 : Int32) (T : TS) : Option (TS) := if p0 < (gI T 55) then ck p0 6 (bd (fX10_quotient n p2 (gA T 2 (Int32.toNatClampNeg p0)) T) (fun r_2 T_1 => nm (imin p3 r_2) (fun x5_3 => fX5_spread_L41 n rc p0 p1 p2 p3 (fun T_8 => some T_8) n x5_3 T_1))) else bv (fX5_add n p1 T) (fun T_9 => some T_9)
set_option maxHeartbeats 4000000 in
set_option maxRecDepth 100000 in
theorem mbX5_spread (l : Launch) (X : XT) (n : Nat) (rc : Int32 → Int32 → Int32 → Int32 → TS → Option (TS)) (lv0 : Nat) (hl0 : 1 ≤ lv0) (hrc : ∀ p0 p1 p2 p3 T T', rc p0 p1 p2 p3 T = some T' → Met l yX5_spread wsX5_spread (RM lv0) (PreX X [.ref (ad X 4), .int p0, .int p1, .int p2, .int p3] T) (QQ X none T') 0 0 (xA X)) (p0 : Int32) (p1 : Int32) (p2 : Int32) (p3 : Int32) (T T' : TS) (h : fX5_spread_B n rc p0 p1 p2 p3 T = some T') : Met l yX5_spread wsX5_spread (RM (lv0 + 1)) (PreX X [.ref (ad X 4), .int p0, .int p1, .int p2, .int p3] T) (QQ X none T') 0 0 (xA X) := by
  refine q_start (by decide) rfl (Nat.le_of_ble_eq_true rfl) ?_
  intro k hk C
  subst hk
  show GW k T 0 [(0, .ref (ad k.1 4)), (1, .int p0), (2, .int p1), (3, .int p2), (4, .int p3)] []
  unfold fX5_spread_B at h
  refine q_iload_n C dX5_spread_0 rfl 1 rfl ?_
  refine q_aload_n C dX5_spread_1 rfl 0 rfl ?_
  refine q_get (j := 0) C dX5_spread_2 (wE_4 _ _) rfl (by decide) rfl inn_X5_spread_5 (by decide +kernel) rfl ?_
  refine q_get (j := 5) C dX5_spread_5 (wE_1 _ _) rfl (by decide) rfl inn_X5_spread_4 (by decide +kernel) rfl ?_
  refine q_icmp_lt (tgt := 17) C dX5_spread_8 (by decide) h (fun c h => ?_) (fun c h => ?_)
  · refine q_iload C dX5_spread_17 4 rfl ?_
    refine q_iload_n C dX5_spread_19 rfl 3 rfl ?_
    refine q_aload_n C dX5_spread_20 rfl 0 rfl ?_
    refine q_get (j := 0) C dX5_spread_21 (wE_4 _ _) rfl (by decide) rfl inn_X5_spread_5 (by decide +kernel) rfl ?_
    refine q_get (j := 6) C dX5_spread_24 (wE_1 _ _) rfl (by decide) rfl inn_X5_spread_4 (by decide +kernel) rfl ?_
    refine q_iload_n C dX5_spread_27 rfl 1 rfl ?_
    refine q_iald C dX5_spread_28 (wE_2 _ _) h (fun h => ?_)
    obtain ⟨r_2, T_1, hc, h⟩ := bd_some h
    refine q_callSN (host := RX10) (st' := [.int r_2, .int p3]) C dX5_spread_29 [.int p2, .int (gA T 2 (Int32.toNatClampNeg p0))] [.int p3] (mtX10_quotient l _ n _ _ _ _ _ hc) gX5_spread_X10_quotient_n63 (by decide +kernel) (by decide +kernel) (by decide +kernel) rfl hd_X10_quotient (by omega) (by decide) rfl rfl (Nat.le_of_ble_eq_true rfl) rfl ?_
    clear hc
    refine q_mmin C dX5_spread_32 (by decide +kernel) (by decide +kernel) (by decide +kernel) (by decide +kernel) (by omega) (Nat.le_of_ble_eq_true rfl) ?_
    refine q_nm h (fun x5_3 h => ?_)
    refine q_istore (lv' := [(0, .ref (ad k.1 4)), (1, .int p0), (2, .int p1), (3, .int p2), (4, .int p3), (5, .int x5_3)]) C dX5_spread_35 (by decide) rfl ?_
    refine q_iload C dX5_spread_37 5 rfl ?_
    refine q_istore (lv' := [(0, .ref (ad k.1 4)), (1, .int p0), (2, .int p1), (3, .int p2), (4, .int p3), (5, .int x5_3), (6, .int x5_3)]) C dX5_spread_39 (by decide) rfl ?_
    refine q_sub [0, 1, 2, 3, 4, 6] rfl ?_
    refine lpX5_spread_L41 C hrc hl0 (fun T_8 h => ?_) _ _ _ h
    exact q_vreturn C dX5_spread_93 h
  · refine q_aload_n C dX5_spread_11 rfl 0 rfl ?_
    refine q_iload_n C dX5_spread_12 rfl 2 rfl ?_
    obtain ⟨T_9, hc, h⟩ := bv_some h
    refine q_callV (st' := []) C dX5_spread_13 [.int p1] [] (mtX5_add l _ n _ _ _ hc) gX5_spread_X5_add rfl hd_X5_add (by omega) (by decide) (wE_4 _ _) rfl rfl rfl (Nat.le_of_ble_eq_true rfl) rfl ?_
    clear hc
    exact q_vreturn C dX5_spread_16 h
def fX5_spread (n : Nat) : Nat → Int32 → Int32 → Int32 → Int32 → TS → Option (TS)
  | 0, _, _, _, _, _ => none
  | d + 1, p0, p1, p2, p3, T => fX5_spread_B n (fX5_spread n d) p0 p1 p2 p3 T
set_option maxHeartbeats 4000000 in
set_option maxRecDepth 100000 in
theorem mtX5_spread (l : Launch) (X : XT) (n : Nat) : ∀ (d : Nat) (p0 : Int32) (p1 : Int32) (p2 : Int32) (p3 : Int32) (T T' : TS), fX5_spread n d p0 p1 p2 p3 T = some T' → Met l yX5_spread wsX5_spread (RM (1 + d)) (PreX X [.ref (ad X 4), .int p0, .int p1, .int p2, .int p3] T) (QQ X none T') 0 0 (xA X)
  | 0, _, _, _, _, _, _, h => by cases h
  | d + 1, p0, p1, p2, p3, T, T', h => mbX5_spread l X n (fX5_spread n d) (1 + d) (by omega) (fun _ _ _ _ _ _ h => mtX5_spread l X n d _ _ _ _ _ _ h) p0 p1 p2 p3 T T' h
def fX5_refresh (n : Nat) (T : TS) : Option (TS) := if ¬ (gI T 204) = 0 then nm (uI T 204 (0 : Int32)) (fun T_1 => nm (uI T_1 202 (0 : Int32)) (fun T_2 => nm (uI T_2 203 (0 : Int32)) (fun T_3 => bd (fX4_room n T_3) (fun r_5 T_4 => bv (fX5_spread n 8 (0 : Int32) (0 : Int32) r_5 (gI T_4 52) T_4) (fun T_6 => if (gI T_6 203) = 0 then some T_6 else nm (uI T_6 202 (0 : Int32)) (fun T_8 => some T_8)))))) else some T
set_option maxHeartbeats 4000000 in
set_option maxRecDepth 100000 in
theorem mtX5_refresh (l : Launch) (X : XT) (n : Nat) (T T' : TS) (h : fX5_refresh n T = some T') : Met l yX5_refresh wsX5_refresh (RM 10) (PreX X [.ref (ad X 4)] T) (QQ X none T') 0 0 (xA X) := by
  refine q_start (by decide) rfl (Nat.le_of_ble_eq_true rfl) ?_
  intro k hk C
  subst hk
  show GW k T 0 [(0, .ref (ad k.1 4))] []
  unfold fX5_refresh at h
  refine q_aload_n C dX5_refresh_0 rfl 0 rfl ?_
  refine q_get (j := 4) C dX5_refresh_1 (wE_4 _ _) rfl (by decide) rfl inn_X5_refresh_5 (by decide +kernel) rfl ?_
  refine q_if_ne (tgt := 8) C dX5_refresh_4 (by decide) h (fun c h => ?_) (fun c h => ?_)
  · refine q_aload_n C dX5_refresh_8 rfl 0 rfl ?_
    refine q_iconst (v := 0) C dX5_refresh_9 (by decide) ?_
    refine q_putI (j := 4) (ty := .boolean) C dX5_refresh_10 (wE_4 _ _) (wP_4_4 _ _ _) rfl (by decide) (Nat.le_of_ble_eq_true rfl) tyX5 tyX5_ok nmX5 inn_X5_refresh_5 (by decide +kernel) rfl rfl (by decide +kernel) rfl rfl h (fun T_1 h => ?_)
    refine q_aload_n C dX5_refresh_13 rfl 0 rfl ?_
    refine q_iconst (v := 0) C dX5_refresh_14 (by decide) ?_
    refine q_putI (j := 2) (ty := .int) C dX5_refresh_15 (wE_4 _ _) (wP_4_2 _ _ _) rfl (by decide) (Nat.le_of_ble_eq_true rfl) tyX5 tyX5_ok nmX5 inn_X5_refresh_5 (by decide +kernel) rfl rfl (by decide +kernel) rfl rfl h (fun T_2 h => ?_)
    refine q_aload_n C dX5_refresh_18 rfl 0 rfl ?_
    refine q_iconst (v := 0) C dX5_refresh_19 (by decide) ?_
    refine q_putI (j := 3) (ty := .boolean) C dX5_refresh_20 (wE_4 _ _) (wP_4_3 _ _ _) rfl (by decide) (Nat.le_of_ble_eq_true rfl) tyX5 tyX5_ok nmX5 inn_X5_refresh_5 (by decide +kernel) rfl rfl (by decide +kernel) rfl rfl h (fun T_3 h => ?_)
    refine q_aload_n C dX5_refresh_23 rfl 0 rfl ?_
    refine q_iconst (v := 0) C dX5_refresh_24 (by decide) ?_
    refine q_iconst (v := 0) C dX5_refresh_25 (by decide) ?_
    refine q_aload_n C dX5_refresh_26 rfl 0 rfl ?_
    refine q_get (j := 0) C dX5_refresh_27 (wE_4 _ _) rfl (by decide) rfl inn_X5_refresh_5 (by decide +kernel) rfl ?_
    obtain ⟨r_5, T_4, hc, h⟩ := bd_some h
    refine q_callV (st' := [.int r_5, .int (0 : Int32), .int (0 : Int32), .ref (ad k.1 4)]) C dX5_refresh_30 [] [.int (0 : Int32), .int (0 : Int32), .ref (ad k.1 4)] (mtX4_room l _ n _ _ _ hc) gX5_refresh_X4_room rfl hd_X4_room (by decide) (by decide) (wE_1 _ _) rfl rfl rfl (Nat.le_of_ble_eq_true rfl) rfl ?_
    clear hc
    refine q_aload_n C dX5_refresh_33 rfl 0 rfl ?_
    refine q_get (j := 0) C dX5_refresh_34 (wE_4 _ _) rfl (by decide) rfl inn_X5_refresh_5 (by decide +kernel) rfl ?_
    refine q_get (j := 2) C dX5_refresh_37 (wE_1 _ _) rfl (by decide) rfl inn_X5_refresh_4 (by decide +kernel) rfl ?_
    obtain ⟨T_6, hc, h⟩ := bv_some h
    refine q_callV (st' := []) C dX5_refresh_40 [.int (0 : Int32), .int (0 : Int32), .int r_5, .int (gI T_4 52)] [] (mtX5_spread l _ n 8 _ _ _ _ _ _ hc) gX5_refresh_X5_spread rfl hd_X5_spread (by decide) (by decide) (wE_4 _ _) rfl rfl rfl (Nat.le_of_ble_eq_true rfl) rfl ?_
    clear hc
    refine q_aload_n C dX5_refresh_43 rfl 0 rfl ?_
    refine q_get (j := 3) C dX5_refresh_44 (wE_4 _ _) rfl (by decide) rfl inn_X5_refresh_5 (by decide +kernel) rfl ?_
    refine q_if_eq (tgt := 55) C dX5_refresh_47 (by decide) h (fun c h => ?_) (fun c h => ?_)
    · exact q_vreturn C dX5_refresh_55 h
    · refine q_aload_n C dX5_refresh_50 rfl 0 rfl ?_
      refine q_iconst (v := 0) C dX5_refresh_51 (by decide) ?_
      refine q_putI (j := 2) (ty := .int) C dX5_refresh_52 (wE_4 _ _) (wP_4_2 _ _ _) rfl (by decide) (Nat.le_of_ble_eq_true rfl) tyX5 tyX5_ok nmX5 inn_X5_refresh_5 (by decide +kernel) rfl rfl (by decide +kernel) rfl rfl h (fun T_8 h => ?_)
      exact q_vreturn C dX5_refresh_55 h
  · exact q_vreturn C dX5_refresh_7 h
def fX5_isOverfull (n : Nat) (T : TS) : Option (Int32 × TS) := bv (fX5_refresh n T) (fun T_1 => rz (gI T_1 203) T_1)
set_option maxHeartbeats 4000000 in
set_option maxRecDepth 100000 in
theorem mtX5_isOverfull (l : Launch) (X : XT) (n : Nat) (T T' : TS) (r : Int32) (h : fX5_isOverfull n T = some (r, T')) : Met l yX5_isOverfull wsX5_isOverfull (RM 11) (PreX X [.ref (ad X 4)] T) (QQ X (some (.int r)) T') 0 0 (xA X) := by
  refine q_start (by decide) rfl (Nat.le_of_ble_eq_true rfl) ?_
  intro k hk C
  subst hk
  show GW k T 0 [(0, .ref (ad k.1 4))] []
  unfold fX5_isOverfull at h
  refine q_aload_n C dX5_isOverfull_0 rfl 0 rfl ?_
  obtain ⟨T_1, hc, h⟩ := bv_some h
  refine q_callV (st' := []) C dX5_isOverfull_1 [] [] (mtX5_refresh l _ n _ _ hc) gX5_isOverfull_X5_refresh rfl hd_X5_refresh (by decide) (by decide) (wE_4 _ _) rfl rfl rfl (Nat.le_of_ble_eq_true rfl) rfl ?_
  clear hc
  refine q_aload_n C dX5_isOverfull_4 rfl 0 rfl ?_
  refine q_get (j := 3) C dX5_isOverfull_5 (wE_4 _ _) rfl (by decide) rfl inn_X5_isOverfull_5 (by decide +kernel) rfl ?_
  exact q_zreturn C dX5_isOverfull_8 h
def fX5_count (n : Nat) (T : TS) : Option (Int32 × TS) := bv (fX5_refresh n T) (fun T_1 => some ((gI T_1 202), T_1))
set_option maxHeartbeats 4000000 in
set_option maxRecDepth 100000 in
theorem mtX5_count (l : Launch) (X : XT) (n : Nat) (T T' : TS) (r : Int32) (h : fX5_count n T = some (r, T')) : Met l yX5_count wsX5_count (RM 11) (PreX X [.ref (ad X 4)] T) (QQ X (some (.int r)) T') 0 0 (xA X) := by
  refine q_start (by decide) rfl (Nat.le_of_ble_eq_true rfl) ?_
  intro k hk C
  subst hk
  show GW k T 0 [(0, .ref (ad k.1 4))] []
  unfold fX5_count at h
  refine q_aload_n C dX5_count_0 rfl 0 rfl ?_
  obtain ⟨T_1, hc, h⟩ := bv_some h
  refine q_callV (st' := []) C dX5_count_1 [] [] (mtX5_refresh l _ n _ _ hc) gX5_count_X5_refresh rfl hd_X5_refresh (by decide) (by decide) (wE_4 _ _) rfl rfl rfl (Nat.le_of_ble_eq_true rfl) rfl ?_
  clear hc
  refine q_aload_n C dX5_count_4 rfl 0 rfl ?_
  refine q_get (j := 2) C dX5_count_5 (wE_4 _ _) rfl (by decide) rfl inn_X5_count_5 (by decide +kernel) rfl ?_
  exact q_ireturn C dX5_count_8 h
def fX5_isNumber (n : Nat) (p0 : Int32) (T : TS) : Option (Int32 × TS) := if p0 < 0 then rz (0 : Int32) T else bd (fX5_count n T) (fun r_2 T_1 => if r_2 ≤ p0 then rz (0 : Int32) T_1 else rz (1 : Int32) T_1)
set_option maxHeartbeats 4000000 in
set_option maxRecDepth 100000 in
theorem mtX5_isNumber (l : Launch) (X : XT) (n : Nat) (p0 : Int32) (T T' : TS) (r : Int32) (h : fX5_isNumber n p0 T = some (r, T')) : Met l yX5_isNumber wsX5_isNumber (RM 12) (PreX X [.ref (ad X 4), .int p0] T) (QQ X (some (.int r)) T') 0 0 (xA X) := by
  refine q_start (by decide) rfl (Nat.le_of_ble_eq_true rfl) ?_
  intro k hk C
  subst hk
  show GW k T 0 [(0, .ref (ad k.1 4)), (1, .int p0)] []
  unfold fX5_isNumber at h
  refine q_iload_n C dX5_isNumber_0 rfl 1 rfl ?_
  refine q_if_lt (tgt := 16) C dX5_isNumber_1 (by decide) h (fun c h => ?_) (fun c h => ?_)
  · refine q_iconst (v := 0) C dX5_isNumber_16 (by decide) ?_
    exact q_zreturn C dX5_isNumber_17 h
  · refine q_iload_n C dX5_isNumber_4 rfl 1 rfl ?_
    refine q_aload_n C dX5_isNumber_5 rfl 0 rfl ?_
    obtain ⟨r_2, T_1, hc, h⟩ := bd_some h
    refine q_callV (st' := [.int r_2, .int p0]) C dX5_isNumber_6 [] [.int p0] (mtX5_count l _ n _ _ _ hc) gX5_isNumber_X5_count rfl hd_X5_count (by decide) (by decide) (wE_4 _ _) rfl rfl rfl (Nat.le_of_ble_eq_true rfl) rfl ?_
    clear hc
    refine q_icmp_ge (tgt := 16) C dX5_isNumber_9 (by decide) h (fun c h => ?_) (fun c h => ?_)
    · refine q_iconst (v := 0) C dX5_isNumber_16 (by decide) ?_
      exact q_zreturn C dX5_isNumber_17 h
    · refine q_iconst (v := 1) C dX5_isNumber_12 (by decide) ?_
      refine q_goto (tgt := 17) C dX5_isNumber_13 (by decide) ?_
      exact q_zreturn C dX5_isNumber_17 h
def fX5_codeAt (n : Nat) (p0 : Int32) (T : TS) : Option (Int32 × TS) := if p0 < 0 then some ((0 : Int32), T) else if (gI T 202) ≤ p0 then some ((0 : Int32), T) else ck p0 3000 (some ((gA T 5 (Int32.toNatClampNeg p0)), T))
set_option maxHeartbeats 4000000 in
set_option maxRecDepth 100000 in
theorem mtX5_codeAt (l : Launch) (X : XT) (n : Nat) (p0 : Int32) (T T' : TS) (r : Int32) (h : fX5_codeAt n p0 T = some (r, T')) : Met l yX5_codeAt wsX5_codeAt (RM 0) (PreX X [.ref (ad X 4), .int p0] T) (QQ X (some (.int r)) T') 0 0 (xA X) := by
  refine q_start (by decide) rfl (Nat.le_of_ble_eq_true rfl) ?_
  intro k hk C
  subst hk
  show GW k T 0 [(0, .ref (ad k.1 4)), (1, .int p0)] []
  unfold fX5_codeAt at h
  refine q_iload_n C dX5_codeAt_0 rfl 1 rfl ?_
  refine q_if_lt (tgt := 21) C dX5_codeAt_1 (by decide) h (fun c h => ?_) (fun c h => ?_)
  · refine q_iconst (v := 0) C dX5_codeAt_21 (by decide) ?_
    exact q_ireturn C dX5_codeAt_22 h
  · refine q_iload_n C dX5_codeAt_4 rfl 1 rfl ?_
    refine q_aload_n C dX5_codeAt_5 rfl 0 rfl ?_
    refine q_get (j := 2) C dX5_codeAt_6 (wE_4 _ _) rfl (by decide) rfl inn_X5_codeAt_5 (by decide +kernel) rfl ?_
    refine q_icmp_ge (tgt := 21) C dX5_codeAt_9 (by decide) h (fun c h => ?_) (fun c h => ?_)
    · refine q_iconst (v := 0) C dX5_codeAt_21 (by decide) ?_
      exact q_ireturn C dX5_codeAt_22 h
    · refine q_aload_n C dX5_codeAt_12 rfl 0 rfl ?_
      refine q_get (j := 1) C dX5_codeAt_13 (wE_4 _ _) rfl (by decide) rfl inn_X5_codeAt_5 (by decide +kernel) rfl ?_
      refine q_iload_n C dX5_codeAt_16 rfl 1 rfl ?_
      refine q_iald C dX5_codeAt_17 (wE_5 _ _) h (fun h => ?_)
      refine q_goto (tgt := 22) C dX5_codeAt_18 (by decide) ?_
      exact q_ireturn C dX5_codeAt_22 h
def fX5_numberOf_L10 (n : Nat) (y1 : Int32) (kk : Int32 → TS → Option (Int32 × TS)) : Nat → Int32 → Int32 → Int32 → TS → Option (Int32 × TS)
  | 0, _, _, _, _ => none
  | fuel + 1, x2, x3, x4, T => if (3000 : Int32) ≤ x4 then kk x2 T else if x3 ≤ x2 then kk x2 T else nm (Int32.toUInt32 (x2 + x3) >>> (Int32.toUInt32 (1 : Int32) &&& Int32.toUInt32 31)).toInt32 (fun x5_3 => ck x5_3 3000 (if (gA T 5 (Int32.toNatClampNeg x5_3)) ≤ y1 then fX5_numberOf_L10 n y1 kk fuel x2 x5_3 (x4 + 1) T else nm (x5_3 + (1 : Int32)) (fun x2_4 => fX5_numberOf_L10 n y1 kk fuel x2_4 x3 (x4 + 1) T)))
set_option maxHeartbeats 4000000 in
set_option maxRecDepth 100000 in
theorem lpX5_numberOf_L10 {l : Launch} {k : KT} {n : Nat} {y1 : Int32} {kk : Int32 → TS → Option (Int32 × TS)} {r : Int32} {T' : TS} (C : CX l k 6 cX5_numberOf RX5 wsX5_numberOf 13 (some .int) (some (.int r), T')) (hk : ∀ e2 T1, kk e2 T1 = some (r, T') → GW k T1 58 [(0, .ref (ad k.1 4)), (1, .int y1), (2, .int e2)] []) : ∀ (fuel : Nat) (x2 : Int32) (x3 : Int32) (x4 : Int32) (T : TS), fX5_numberOf_L10 n y1 kk fuel x2 x3 x4 T = some (r, T') → GW k T 10 [(0, .ref (ad k.1 4)), (1, .int y1), (2, .int x2), (3, .int x3), (4, .int x4)] [] := by
  intro fuel
  induction fuel with
  | zero => intro x2 x3 x4 T h; cases h
  | succ fuel ih =>
    intro x2 x3 x4 T h
    rw [fX5_numberOf_L10] at h
    refine q_iload C dX5_numberOf_10 4 rfl ?_
    refine q_sipush (v := 3000) C dX5_numberOf_12 (by decide) ?_
    refine q_icmp_ge (tgt := 58) C dX5_numberOf_15 (by decide) h (fun c h => ?_) (fun c h => ?_)
    · refine q_sub [0, 1, 2] rfl ?_
      exact hk _ _ h
    · refine q_iload_n C dX5_numberOf_18 rfl 2 rfl ?_
      refine q_iload_n C dX5_numberOf_19 rfl 3 rfl ?_
      refine q_icmp_ge (tgt := 58) C dX5_numberOf_20 (by decide) h (fun c h => ?_) (fun c h => ?_)
      · refine q_sub [0, 1, 2] rfl ?_
        exact hk _ _ h
      · refine q_iload_n C dX5_numberOf_23 rfl 2 rfl ?_
        refine q_iload_n C dX5_numberOf_24 rfl 3 rfl ?_
        refine q_iadd C dX5_numberOf_25 ?_
        refine q_iconst (v := 1) C dX5_numberOf_26 (by decide) ?_
        refine q_iushr C dX5_numberOf_27 ?_
        refine q_nm h (fun x5_3 h => ?_)
        refine q_istore (lv' := [(0, .ref (ad k.1 4)), (1, .int y1), (2, .int x2), (3, .int x3), (4, .int x4), (5, .int x5_3)]) C dX5_numberOf_28 (by decide) rfl ?_
        refine q_aload_n C dX5_numberOf_30 rfl 0 rfl ?_
        refine q_get (j := 1) C dX5_numberOf_31 (wE_4 _ _) rfl (by decide) rfl inn_X5_numberOf_5 (by decide +kernel) rfl ?_
        refine q_iload C dX5_numberOf_34 5 rfl ?_
        refine q_iald C dX5_numberOf_36 (wE_5 _ _) h (fun h => ?_)
        refine q_iload_n C dX5_numberOf_37 rfl 1 rfl ?_
        refine q_icmp_le (tgt := 49) C dX5_numberOf_38 (by decide) h (fun c h => ?_) (fun c h => ?_)
        · refine q_iload C dX5_numberOf_49 5 rfl ?_
          refine q_istore_n (lv' := [(0, .ref (ad k.1 4)), (1, .int y1), (2, .int x2), (3, .int x5_3), (4, .int x4), (5, .int x5_3)]) C dX5_numberOf_51 rfl (by decide) rfl ?_
          refine q_iinc (j := 4) (v := 1) (lv' := [(0, .ref (ad k.1 4)), (1, .int y1), (2, .int x2), (3, .int x5_3), (4, .int (x4 + 1)), (5, .int x5_3)]) C dX5_numberOf_52 rfl (by decide) (by decide) rfl ?_
          refine q_goto (tgt := 10) C dX5_numberOf_55 (by decide) ?_
          refine q_sub [0, 1, 2, 3, 4] rfl ?_
          exact ih _ _ _ _ h
        · refine q_iload C dX5_numberOf_41 5 rfl ?_
          refine q_iconst (v := 1) C dX5_numberOf_43 (by decide) ?_
          refine q_iadd C dX5_numberOf_44 ?_
          refine q_nm h (fun x2_4 h => ?_)
          refine q_istore_n (lv' := [(0, .ref (ad k.1 4)), (1, .int y1), (2, .int x2_4), (3, .int x3), (4, .int x4), (5, .int x5_3)]) C dX5_numberOf_45 rfl (by decide) rfl ?_
          refine q_goto (tgt := 52) C dX5_numberOf_46 (by decide) ?_
          refine q_iinc (j := 4) (v := 1) (lv' := [(0, .ref (ad k.1 4)), (1, .int y1), (2, .int x2_4), (3, .int x3), (4, .int (x4 + 1)), (5, .int x5_3)]) C dX5_numberOf_52 rfl (by decide) (by decide) rfl ?_
          refine q_goto (tgt := 10) C dX5_numberOf_55 (by decide) ?_
          refine q_sub [0, 1, 2, 3, 4] rfl ?_
          exact ih _ _ _ _ h
def fX5_numberOf (n : Nat) (p0 : Int32) (T : TS) : Option (Int32 × TS) := bd (fX5_count n T) (fun r_2 T_1 => fX5_numberOf_L10 n p0 (fun e2_5 T_6 => bd (fX5_isNumber n e2_5 T_6) (fun r_8 T_7 => if r_8 = 0 then some ((-1 : Int32), T_7) else ck e2_5 3000 (if ¬ (gA T_7 5 (Int32.toNatClampNeg e2_5)) = p0 then some ((-1 : Int32), T_7) else some (e2_5, T_7)))) n (0 : Int32) r_2 (0 : Int32) T_1)
set_option maxHeartbeats 4000000 in
set_option maxRecDepth 100000 in
theorem mtX5_numberOf (l : Launch) (X : XT) (n : Nat) (p0 : Int32) (T T' : TS) (r : Int32) (h : fX5_numberOf n p0 T = some (r, T')) : Met l yX5_numberOf wsX5_numberOf (RM 13) (PreX X [.ref (ad X 4), .int p0] T) (QQ X (some (.int r)) T') 0 0 (xA X) := by
  refine q_start (by decide) rfl (Nat.le_of_ble_eq_true rfl) ?_
  intro k hk C
  subst hk
  show GW k T 0 [(0, .ref (ad k.1 4)), (1, .int p0)] []
  unfold fX5_numberOf at h
  refine q_iconst (v := 0) C dX5_numberOf_0 (by decide) ?_
  refine q_istore_n (lv' := [(0, .ref (ad k.1 4)), (1, .int p0), (2, .int (0 : Int32))]) C dX5_numberOf_1 rfl (by decide) rfl ?_
  refine q_aload_n C dX5_numberOf_2 rfl 0 rfl ?_
  obtain ⟨r_2, T_1, hc, h⟩ := bd_some h
  refine q_callV (st' := [.int r_2]) C dX5_numberOf_3 [] [] (mtX5_count l _ n _ _ _ hc) gX5_numberOf_X5_count rfl hd_X5_count (by decide) (by decide) (wE_4 _ _) rfl rfl rfl (Nat.le_of_ble_eq_true rfl) rfl ?_
  clear hc
  refine q_istore_n (lv' := [(0, .ref (ad k.1 4)), (1, .int p0), (2, .int (0 : Int32)), (3, .int r_2)]) C dX5_numberOf_6 rfl (by decide) rfl ?_
  refine q_iconst (v := 0) C dX5_numberOf_7 (by decide) ?_
  refine q_istore (lv' := [(0, .ref (ad k.1 4)), (1, .int p0), (2, .int (0 : Int32)), (3, .int r_2), (4, .int (0 : Int32))]) C dX5_numberOf_8 (by decide) rfl ?_
  refine q_sub [0, 1, 2, 3, 4] rfl ?_
  refine lpX5_numberOf_L10 C (fun e2_5 T_6 h => ?_) _ _ _ _ _ h
  refine q_aload_n C dX5_numberOf_58 rfl 0 rfl ?_
  refine q_iload_n C dX5_numberOf_59 rfl 2 rfl ?_
  obtain ⟨r_8, T_7, hc, h⟩ := bd_some h
  refine q_callV (st' := [.int r_8]) C dX5_numberOf_60 [.int e2_5] [] (mtX5_isNumber l _ n _ _ _ _ hc) gX5_numberOf_X5_isNumber rfl hd_X5_isNumber (by decide) (by decide) (wE_4 _ _) rfl rfl rfl (Nat.le_of_ble_eq_true rfl) rfl ?_
  clear hc
  refine q_if_eq (tgt := 80) C dX5_numberOf_63 (by decide) h (fun c h => ?_) (fun c h => ?_)
  · refine q_iconst (v := -1) C dX5_numberOf_80 (by decide) ?_
    exact q_ireturn C dX5_numberOf_81 h
  · refine q_aload_n C dX5_numberOf_66 rfl 0 rfl ?_
    refine q_get (j := 1) C dX5_numberOf_67 (wE_4 _ _) rfl (by decide) rfl inn_X5_numberOf_5 (by decide +kernel) rfl ?_
    refine q_iload_n C dX5_numberOf_70 rfl 2 rfl ?_
    refine q_iald C dX5_numberOf_71 (wE_5 _ _) h (fun h => ?_)
    refine q_iload_n C dX5_numberOf_72 rfl 1 rfl ?_
    refine q_icmp_ne (tgt := 80) C dX5_numberOf_73 (by decide) h (fun c h => ?_) (fun c h => ?_)
    · refine q_iconst (v := -1) C dX5_numberOf_80 (by decide) ?_
      exact q_ireturn C dX5_numberOf_81 h
    · refine q_iload_n C dX5_numberOf_76 rfl 2 rfl ?_
      refine q_goto (tgt := 81) C dX5_numberOf_77 (by decide) ?_
      exact q_ireturn C dX5_numberOf_81 h
