/-! ===== the law, case by case (by mklaw.py) ===== -/
theorem hdL_X10_line : yX10_line.cls = RX10 ∧ yX10_line.cls ≠ "java/lang/invoke/MethodHandle" ∧ yX10_line.cls ≠ "java/lang/invoke/VarHandle" ∧ (parseMethodDescriptor yX10_line.desc).map (fun d => d.parameters.length) = some 0 := by decide +kernel
theorem hdL_X11_line : yX11_line.cls = RX11 ∧ yX11_line.cls ≠ "java/lang/invoke/MethodHandle" ∧ yX11_line.cls ≠ "java/lang/invoke/VarHandle" ∧ (parseMethodDescriptor yX11_line.desc).map (fun d => d.parameters.length) = some 0 := by decide +kernel
set_option maxHeartbeats 4000000 in
set_option maxRecDepth 100000 in
theorem lc_line {l : Launch} {k : KT} {b L j : Nat} {xs : Nat → Int32} {nc ns : Nat} {T : TS} (C : CL l k b L xs nc ns) (hL : L ≤ 3584) (hj : 7 * j + 7 ≤ L) (hI : Inv j T) (Ke : KE l k b L xs nc ns j) (hnc : nc + 1 ≤ room_1.cells) (hns : ns + 8 ≤ room_1.slots) : GW k T 733 (lvL k.1 b (7 * j)) [] := by
  have Cy := C.y
  obtain ⟨r, T1, T2, h1, h2, hI2⟩ := eq_line (n := 10000) (Nat.le_refl _) hI
  refine y_aload_n Cy dL_law_733 rfl 1 rfl ?_
  refine y_callV (st' := [.int r]) Cy dL_law_734 [] [] (mtX10_line l _ 10000 _ _ _ h1) gL_law_X10_line rfl hdL_X10_line (by decide) (by decide) (wE_0 _ _) rfl rfl rfl (Nat.le_of_ble_eq_true rfl) rfl ?_
  refine y_aload_n Cy dL_law_737 rfl 2 rfl ?_
  refine L_callM (st' := [.int r, .int r]) C dL_law_738 [] [.int r] (mtX11_line l _ 10000 _ _ _ h2) gL_law_X11_line rfl hdL_X11_line (by decide) (by decide) (wE_41 _ _) rfl rfl rfl (Nat.le_of_ble_eq_true rfl) rfl hnc hns (fun k' hk' C' => ?_)
  have Cy' := C'.y
  refine y_icmp_eq (tgt := 1027) (z := ()) (A := some ()) (B := none) Cy' dL_law_741 (by decide) (if_pos rfl) (fun _ _ => ?_) (fun _ q => nomatch q)
  rw [← hk']
  exact Ke k' T2 _ _ hk' C' (Nat.le_refl _) (Nat.le_refl _) hI2
theorem hdL_X10_lot : yX10_lot.cls = RX10 ∧ yX10_lot.cls ≠ "java/lang/invoke/MethodHandle" ∧ yX10_lot.cls ≠ "java/lang/invoke/VarHandle" ∧ (parseMethodDescriptor yX10_lot.desc).map (fun d => d.parameters.length) = some 3 := by decide +kernel
theorem hdL_X11_lot : yX11_lot.cls = RX11 ∧ yX11_lot.cls ≠ "java/lang/invoke/MethodHandle" ∧ yX11_lot.cls ≠ "java/lang/invoke/VarHandle" ∧ (parseMethodDescriptor yX11_lot.desc).map (fun d => d.parameters.length) = some 3 := by decide +kernel
set_option maxHeartbeats 4000000 in
set_option maxRecDepth 100000 in
theorem lc_lot {l : Launch} {k : KT} {b L j : Nat} {xs : Nat → Int32} {nc ns : Nat} {T : TS} (C : CL l k b L xs nc ns) (hL : L ≤ 3584) (hj : 7 * j + 7 ≤ L) (hI : Inv j T) (Ke : KE l k b L xs nc ns j) : GW k T 746 (lvL k.1 b (7 * j)) [] := by
  have Cy := C.y
  by_cases hz : (xs (Int32.toNatClampNeg (nI (7 * j) + 3))) = 0
  · skip
    obtain ⟨r, T1, T2, h1, h2, hI2⟩ := eq_lot (n := 10000) hI (xs (Int32.toNatClampNeg (nI (7 * j) + 1))) (xs (Int32.toNatClampNeg (nI (7 * j) + 2))) (0 : Int32) (Or.inl rfl)
    refine y_aload_n Cy dL_law_746 rfl 1 rfl ?_
    refine y_aload_n Cy dL_law_747 rfl 0 rfl ?_
    refine y_iload Cy dL_law_748 4 rfl ?_
    refine y_iconst (v := 1) Cy dL_law_750 (by decide) ?_
    refine y_iadd Cy dL_law_751 ?_
    refine L_sld C (vin 1 (by decide) hj hL) dL_law_752 ?_
    refine y_aload_n Cy dL_law_753 rfl 0 rfl ?_
    refine y_iload Cy dL_law_754 4 rfl ?_
    refine y_iconst (v := 2) Cy dL_law_756 (by decide) ?_
    refine y_iadd Cy dL_law_757 ?_
    refine L_sld C (vin 2 (by decide) hj hL) dL_law_758 ?_
    refine y_aload_n Cy dL_law_759 rfl 0 rfl ?_
    refine y_iload Cy dL_law_760 4 rfl ?_
    refine y_iconst (v := 3) Cy dL_law_762 (by decide) ?_
    refine y_iadd Cy dL_law_763 ?_
    refine L_sld C (vin 3 (by decide) hj hL) dL_law_764 ?_
    refine y_if_eq (tgt := 772) (z := ()) (A := some ()) (B := none) Cy dL_law_765 (by decide) (if_pos hz) (fun _ _ => ?_) (fun _ q => nomatch q)
    refine y_iconst (v := 0) Cy dL_law_772 (by decide) ?_
    refine y_callV (st' := [.int r]) Cy dL_law_773 [.int (xs (Int32.toNatClampNeg (nI (7 * j) + 1))), .int (xs (Int32.toNatClampNeg (nI (7 * j) + 2))), .int (0 : Int32)] [] (mtX10_lot l _ 10000 _ _ _ _ _ _ h1) gL_law_X10_lot rfl hdL_X10_lot (by decide) (by decide) (wE_0 _ _) rfl rfl rfl (Nat.le_of_ble_eq_true rfl) rfl ?_
    refine y_aload_n Cy dL_law_776 rfl 2 rfl ?_
    refine y_aload_n Cy dL_law_777 rfl 0 rfl ?_
    refine y_iload Cy dL_law_778 4 rfl ?_
    refine y_iconst (v := 1) Cy dL_law_780 (by decide) ?_
    refine y_iadd Cy dL_law_781 ?_
    refine L_sld C (vin 1 (by decide) hj hL) dL_law_782 ?_
    refine y_aload_n Cy dL_law_783 rfl 0 rfl ?_
    refine y_iload Cy dL_law_784 4 rfl ?_
    refine y_iconst (v := 2) Cy dL_law_786 (by decide) ?_
    refine y_iadd Cy dL_law_787 ?_
    refine L_sld C (vin 2 (by decide) hj hL) dL_law_788 ?_
    refine y_aload_n Cy dL_law_789 rfl 0 rfl ?_
    refine y_iload Cy dL_law_790 4 rfl ?_
    refine y_iconst (v := 3) Cy dL_law_792 (by decide) ?_
    refine y_iadd Cy dL_law_793 ?_
    refine L_sld C (vin 3 (by decide) hj hL) dL_law_794 ?_
    refine y_if_eq (tgt := 802) (z := ()) (A := some ()) (B := none) Cy dL_law_795 (by decide) (if_pos hz) (fun _ _ => ?_) (fun _ q => nomatch q)
    refine y_iconst (v := 0) Cy dL_law_802 (by decide) ?_
    refine y_callV (st' := [.int r, .int r]) Cy dL_law_803 [.int (xs (Int32.toNatClampNeg (nI (7 * j) + 1))), .int (xs (Int32.toNatClampNeg (nI (7 * j) + 2))), .int (0 : Int32)] [.int r] (mtX11_lot l _ 10000 _ _ _ _ _ _ h2) gL_law_X11_lot rfl hdL_X11_lot (by decide) (by decide) (wE_41 _ _) rfl rfl rfl (Nat.le_of_ble_eq_true rfl) rfl ?_
    refine y_icmp_eq (tgt := 1027) (z := ()) (A := some ()) (B := none) Cy dL_law_806 (by decide) (if_pos rfl) (fun _ _ => ?_) (fun _ q => nomatch q)
    exact Ke k T2 _ _ rfl C (Nat.le_succ _) (Nat.le_add_right _ _) hI2
  · skip
    obtain ⟨r, T1, T2, h1, h2, hI2⟩ := eq_lot (n := 10000) hI (xs (Int32.toNatClampNeg (nI (7 * j) + 1))) (xs (Int32.toNatClampNeg (nI (7 * j) + 2))) (1 : Int32) (Or.inr rfl)
    refine y_aload_n Cy dL_law_746 rfl 1 rfl ?_
    refine y_aload_n Cy dL_law_747 rfl 0 rfl ?_
    refine y_iload Cy dL_law_748 4 rfl ?_
    refine y_iconst (v := 1) Cy dL_law_750 (by decide) ?_
    refine y_iadd Cy dL_law_751 ?_
    refine L_sld C (vin 1 (by decide) hj hL) dL_law_752 ?_
    refine y_aload_n Cy dL_law_753 rfl 0 rfl ?_
    refine y_iload Cy dL_law_754 4 rfl ?_
    refine y_iconst (v := 2) Cy dL_law_756 (by decide) ?_
    refine y_iadd Cy dL_law_757 ?_
    refine L_sld C (vin 2 (by decide) hj hL) dL_law_758 ?_
    refine y_aload_n Cy dL_law_759 rfl 0 rfl ?_
    refine y_iload Cy dL_law_760 4 rfl ?_
    refine y_iconst (v := 3) Cy dL_law_762 (by decide) ?_
    refine y_iadd Cy dL_law_763 ?_
    refine L_sld C (vin 3 (by decide) hj hL) dL_law_764 ?_
    refine y_if_eq (tgt := 772) (z := ()) (A := none) (B := some ()) Cy dL_law_765 (by decide) (if_neg hz) (fun _ q => nomatch q) (fun _ _ => ?_)
    refine y_iconst (v := 1) Cy dL_law_768 (by decide) ?_
    refine y_goto (tgt := 773) Cy dL_law_769 (by decide) ?_
    refine y_callV (st' := [.int r]) Cy dL_law_773 [.int (xs (Int32.toNatClampNeg (nI (7 * j) + 1))), .int (xs (Int32.toNatClampNeg (nI (7 * j) + 2))), .int (1 : Int32)] [] (mtX10_lot l _ 10000 _ _ _ _ _ _ h1) gL_law_X10_lot rfl hdL_X10_lot (by decide) (by decide) (wE_0 _ _) rfl rfl rfl (Nat.le_of_ble_eq_true rfl) rfl ?_
    refine y_aload_n Cy dL_law_776 rfl 2 rfl ?_
    refine y_aload_n Cy dL_law_777 rfl 0 rfl ?_
    refine y_iload Cy dL_law_778 4 rfl ?_
    refine y_iconst (v := 1) Cy dL_law_780 (by decide) ?_
    refine y_iadd Cy dL_law_781 ?_
    refine L_sld C (vin 1 (by decide) hj hL) dL_law_782 ?_
    refine y_aload_n Cy dL_law_783 rfl 0 rfl ?_
    refine y_iload Cy dL_law_784 4 rfl ?_
    refine y_iconst (v := 2) Cy dL_law_786 (by decide) ?_
    refine y_iadd Cy dL_law_787 ?_
    refine L_sld C (vin 2 (by decide) hj hL) dL_law_788 ?_
    refine y_aload_n Cy dL_law_789 rfl 0 rfl ?_
    refine y_iload Cy dL_law_790 4 rfl ?_
    refine y_iconst (v := 3) Cy dL_law_792 (by decide) ?_
    refine y_iadd Cy dL_law_793 ?_
    refine L_sld C (vin 3 (by decide) hj hL) dL_law_794 ?_
    refine y_if_eq (tgt := 802) (z := ()) (A := none) (B := some ()) Cy dL_law_795 (by decide) (if_neg hz) (fun _ q => nomatch q) (fun _ _ => ?_)
    refine y_iconst (v := 1) Cy dL_law_798 (by decide) ?_
    refine y_goto (tgt := 803) Cy dL_law_799 (by decide) ?_
    refine y_callV (st' := [.int r, .int r]) Cy dL_law_803 [.int (xs (Int32.toNatClampNeg (nI (7 * j) + 1))), .int (xs (Int32.toNatClampNeg (nI (7 * j) + 2))), .int (1 : Int32)] [.int r] (mtX11_lot l _ 10000 _ _ _ _ _ _ h2) gL_law_X11_lot rfl hdL_X11_lot (by decide) (by decide) (wE_41 _ _) rfl rfl rfl (Nat.le_of_ble_eq_true rfl) rfl ?_
    refine y_icmp_eq (tgt := 1027) (z := ()) (A := some ()) (B := none) Cy dL_law_806 (by decide) (if_pos rfl) (fun _ _ => ?_) (fun _ q => nomatch q)
    exact Ke k T2 _ _ rfl C (Nat.le_succ _) (Nat.le_add_right _ _) hI2
theorem hdL_X10_lotted : yX10_lotted.cls = RX10 ∧ yX10_lotted.cls ≠ "java/lang/invoke/MethodHandle" ∧ yX10_lotted.cls ≠ "java/lang/invoke/VarHandle" ∧ (parseMethodDescriptor yX10_lotted.desc).map (fun d => d.parameters.length) = some 2 := by decide +kernel
theorem hdL_X11_lotted : yX11_lotted.cls = RX11 ∧ yX11_lotted.cls ≠ "java/lang/invoke/MethodHandle" ∧ yX11_lotted.cls ≠ "java/lang/invoke/VarHandle" ∧ (parseMethodDescriptor yX11_lotted.desc).map (fun d => d.parameters.length) = some 2 := by decide +kernel
set_option maxHeartbeats 4000000 in
set_option maxRecDepth 100000 in
theorem lc_lotted {l : Launch} {k : KT} {b L j : Nat} {xs : Nat → Int32} {nc ns : Nat} {T : TS} (C : CL l k b L xs nc ns) (hL : L ≤ 3584) (hj : 7 * j + 7 ≤ L) (hI : Inv j T) (Ke : KE l k b L xs nc ns j) : GW k T 811 (lvL k.1 b (7 * j)) [] := by
  have Cy := C.y
  obtain ⟨r, T1, T2, h1, h2, hI2⟩ := eq_lotted (n := 10000) hI (xs (Int32.toNatClampNeg (nI (7 * j) + 1))) (xs (Int32.toNatClampNeg (nI (7 * j) + 2)))
  refine y_aload_n Cy dL_law_811 rfl 1 rfl ?_
  refine y_aload_n Cy dL_law_812 rfl 0 rfl ?_
  refine y_iload Cy dL_law_813 4 rfl ?_
  refine y_iconst (v := 1) Cy dL_law_815 (by decide) ?_
  refine y_iadd Cy dL_law_816 ?_
  refine L_sld C (vin 1 (by decide) hj hL) dL_law_817 ?_
  refine y_aload_n Cy dL_law_818 rfl 0 rfl ?_
  refine y_iload Cy dL_law_819 4 rfl ?_
  refine y_iconst (v := 2) Cy dL_law_821 (by decide) ?_
  refine y_iadd Cy dL_law_822 ?_
  refine L_sld C (vin 2 (by decide) hj hL) dL_law_823 ?_
  refine y_callV (st' := [.int r]) Cy dL_law_824 [.int (xs (Int32.toNatClampNeg (nI (7 * j) + 1))), .int (xs (Int32.toNatClampNeg (nI (7 * j) + 2)))] [] (mtX10_lotted l _ 10000 _ _ _ _ _ h1) gL_law_X10_lotted rfl hdL_X10_lotted (by decide) (by decide) (wE_0 _ _) rfl rfl rfl (Nat.le_of_ble_eq_true rfl) rfl ?_
  refine y_aload_n Cy dL_law_827 rfl 2 rfl ?_
  refine y_aload_n Cy dL_law_828 rfl 0 rfl ?_
  refine y_iload Cy dL_law_829 4 rfl ?_
  refine y_iconst (v := 1) Cy dL_law_831 (by decide) ?_
  refine y_iadd Cy dL_law_832 ?_
  refine L_sld C (vin 1 (by decide) hj hL) dL_law_833 ?_
  refine y_aload_n Cy dL_law_834 rfl 0 rfl ?_
  refine y_iload Cy dL_law_835 4 rfl ?_
  refine y_iconst (v := 2) Cy dL_law_837 (by decide) ?_
  refine y_iadd Cy dL_law_838 ?_
  refine L_sld C (vin 2 (by decide) hj hL) dL_law_839 ?_
  refine y_callV (st' := [.int r, .int r]) Cy dL_law_840 [.int (xs (Int32.toNatClampNeg (nI (7 * j) + 1))), .int (xs (Int32.toNatClampNeg (nI (7 * j) + 2)))] [.int r] (mtX11_lotted l _ 10000 _ _ _ _ _ h2) gL_law_X11_lotted rfl hdL_X11_lotted (by decide) (by decide) (wE_41 _ _) rfl rfl rfl (Nat.le_of_ble_eq_true rfl) rfl ?_
  refine y_icmp_eq (tgt := 1027) (z := ()) (A := some ()) (B := none) Cy dL_law_843 (by decide) (if_pos rfl) (fun _ _ => ?_) (fun _ q => nomatch q)
  exact Ke k T2 _ _ rfl C (Nat.le_succ _) (Nat.le_add_right _ _) hI2
theorem hdL_X10_cut : yX10_cut.cls = RX10 ∧ yX10_cut.cls ≠ "java/lang/invoke/MethodHandle" ∧ yX10_cut.cls ≠ "java/lang/invoke/VarHandle" ∧ (parseMethodDescriptor yX10_cut.desc).map (fun d => d.parameters.length) = some 3 := by decide +kernel
theorem hdL_X11_cut : yX11_cut.cls = RX11 ∧ yX11_cut.cls ≠ "java/lang/invoke/MethodHandle" ∧ yX11_cut.cls ≠ "java/lang/invoke/VarHandle" ∧ (parseMethodDescriptor yX11_cut.desc).map (fun d => d.parameters.length) = some 3 := by decide +kernel
set_option maxHeartbeats 4000000 in
set_option maxRecDepth 100000 in
theorem lc_cut {l : Launch} {k : KT} {b L j : Nat} {xs : Nat → Int32} {nc ns : Nat} {T : TS} (C : CL l k b L xs nc ns) (hL : L ≤ 3584) (hj : 7 * j + 7 ≤ L) (hI : Inv j T) (Ke : KE l k b L xs nc ns j) : GW k T 848 (lvL k.1 b (7 * j)) [] := by
  have Cy := C.y
  obtain ⟨r, T1, T2, h1, h2, hI2⟩ := eq_cut (n := 10000) (Nat.le_refl _) hI (xs (Int32.toNatClampNeg (nI (7 * j) + 1))) (xs (Int32.toNatClampNeg (nI (7 * j) + 2))) (xs (Int32.toNatClampNeg (nI (7 * j) + 3)))
  refine y_aload_n Cy dL_law_848 rfl 1 rfl ?_
  refine y_aload_n Cy dL_law_849 rfl 0 rfl ?_
  refine y_iload Cy dL_law_850 4 rfl ?_
  refine y_iconst (v := 1) Cy dL_law_852 (by decide) ?_
  refine y_iadd Cy dL_law_853 ?_
  refine L_sld C (vin 1 (by decide) hj hL) dL_law_854 ?_
  refine y_aload_n Cy dL_law_855 rfl 0 rfl ?_
  refine y_iload Cy dL_law_856 4 rfl ?_
  refine y_iconst (v := 2) Cy dL_law_858 (by decide) ?_
  refine y_iadd Cy dL_law_859 ?_
  refine L_sld C (vin 2 (by decide) hj hL) dL_law_860 ?_
  refine y_aload_n Cy dL_law_861 rfl 0 rfl ?_
  refine y_iload Cy dL_law_862 4 rfl ?_
  refine y_iconst (v := 3) Cy dL_law_864 (by decide) ?_
  refine y_iadd Cy dL_law_865 ?_
  refine L_sld C (vin 3 (by decide) hj hL) dL_law_866 ?_
  refine y_callV (st' := [.int r]) Cy dL_law_867 [.int (xs (Int32.toNatClampNeg (nI (7 * j) + 1))), .int (xs (Int32.toNatClampNeg (nI (7 * j) + 2))), .int (xs (Int32.toNatClampNeg (nI (7 * j) + 3)))] [] (mtX10_cut l _ 10000 _ _ _ _ _ _ h1) gL_law_X10_cut rfl hdL_X10_cut (by decide) (by decide) (wE_0 _ _) rfl rfl rfl (Nat.le_of_ble_eq_true rfl) rfl ?_
  refine y_aload_n Cy dL_law_870 rfl 2 rfl ?_
  refine y_aload_n Cy dL_law_871 rfl 0 rfl ?_
  refine y_iload Cy dL_law_872 4 rfl ?_
  refine y_iconst (v := 1) Cy dL_law_874 (by decide) ?_
  refine y_iadd Cy dL_law_875 ?_
  refine L_sld C (vin 1 (by decide) hj hL) dL_law_876 ?_
  refine y_aload_n Cy dL_law_877 rfl 0 rfl ?_
  refine y_iload Cy dL_law_878 4 rfl ?_
  refine y_iconst (v := 2) Cy dL_law_880 (by decide) ?_
  refine y_iadd Cy dL_law_881 ?_
  refine L_sld C (vin 2 (by decide) hj hL) dL_law_882 ?_
  refine y_aload_n Cy dL_law_883 rfl 0 rfl ?_
  refine y_iload Cy dL_law_884 4 rfl ?_
  refine y_iconst (v := 3) Cy dL_law_886 (by decide) ?_
  refine y_iadd Cy dL_law_887 ?_
  refine L_sld C (vin 3 (by decide) hj hL) dL_law_888 ?_
  refine y_callV (st' := [.int r, .int r]) Cy dL_law_889 [.int (xs (Int32.toNatClampNeg (nI (7 * j) + 1))), .int (xs (Int32.toNatClampNeg (nI (7 * j) + 2))), .int (xs (Int32.toNatClampNeg (nI (7 * j) + 3)))] [.int r] (mtX11_cut l _ 10000 _ _ _ _ _ _ h2) gL_law_X11_cut rfl hdL_X11_cut (by decide) (by decide) (wE_41 _ _) rfl rfl rfl (Nat.le_of_ble_eq_true rfl) rfl ?_
  refine y_icmp_eq (tgt := 1027) (z := ()) (A := some ()) (B := none) Cy dL_law_892 (by decide) (if_pos rfl) (fun _ _ => ?_) (fun _ q => nomatch q)
  exact Ke k T2 _ _ rfl C (Nat.le_succ _) (Nat.le_add_right _ _) hI2
theorem hdL_X10_area : yX10_area.cls = RX10 ∧ yX10_area.cls ≠ "java/lang/invoke/MethodHandle" ∧ yX10_area.cls ≠ "java/lang/invoke/VarHandle" ∧ (parseMethodDescriptor yX10_area.desc).map (fun d => d.parameters.length) = some 1 := by decide +kernel
theorem hdL_X11_area : yX11_area.cls = RX11 ∧ yX11_area.cls ≠ "java/lang/invoke/MethodHandle" ∧ yX11_area.cls ≠ "java/lang/invoke/VarHandle" ∧ (parseMethodDescriptor yX11_area.desc).map (fun d => d.parameters.length) = some 1 := by decide +kernel
set_option maxHeartbeats 4000000 in
set_option maxRecDepth 100000 in
theorem lc_area {l : Launch} {k : KT} {b L j : Nat} {xs : Nat → Int32} {nc ns : Nat} {T : TS} (C : CL l k b L xs nc ns) (hL : L ≤ 3584) (hj : 7 * j + 7 ≤ L) (hI : Inv j T) (Ke : KE l k b L xs nc ns j) : GW k T 897 (lvL k.1 b (7 * j)) [] := by
  have Cy := C.y
  obtain ⟨r, T1, T2, h1, h2, hI2⟩ := eq_area (n := 10000) hI (xs (Int32.toNatClampNeg (nI (7 * j) + 1)))
  refine y_aload_n Cy dL_law_897 rfl 1 rfl ?_
  refine y_aload_n Cy dL_law_898 rfl 0 rfl ?_
  refine y_iload Cy dL_law_899 4 rfl ?_
  refine y_iconst (v := 1) Cy dL_law_901 (by decide) ?_
  refine y_iadd Cy dL_law_902 ?_
  refine L_sld C (vin 1 (by decide) hj hL) dL_law_903 ?_
  refine y_callV (st' := [.long r]) Cy dL_law_904 [.int (xs (Int32.toNatClampNeg (nI (7 * j) + 1)))] [] (mtX10_area l _ 10000 _ _ _ _ h1) gL_law_X10_area rfl hdL_X10_area (by decide) (by decide) (wE_0 _ _) rfl rfl rfl (Nat.le_of_ble_eq_true rfl) rfl ?_
  refine y_aload_n Cy dL_law_907 rfl 2 rfl ?_
  refine y_aload_n Cy dL_law_908 rfl 0 rfl ?_
  refine y_iload Cy dL_law_909 4 rfl ?_
  refine y_iconst (v := 1) Cy dL_law_911 (by decide) ?_
  refine y_iadd Cy dL_law_912 ?_
  refine L_sld C (vin 1 (by decide) hj hL) dL_law_913 ?_
  refine y_callV (st' := [.long r, .long r]) Cy dL_law_914 [.int (xs (Int32.toNatClampNeg (nI (7 * j) + 1)))] [.long r] (mtX11_area l _ 10000 _ _ _ _ h2) gL_law_X11_area rfl hdL_X11_area (by decide) (by decide) (wE_41 _ _) rfl rfl rfl (Nat.le_of_ble_eq_true rfl) rfl ?_
  refine y_lcmp Cy dL_law_917 ?_
  refine y_if_eq (tgt := 1027) (z := ()) (A := some ()) (B := none) Cy dL_law_918 (by decide) (if_pos ((lg_cmp_eq r r).mpr rfl)) (fun _ _ => ?_) (fun _ q => nomatch q)
  exact Ke k T2 _ _ rfl C (Nat.le_succ _) (Nat.le_add_right _ _) hI2
theorem hdL_X10_keep : yX10_keep.cls = RX10 ∧ yX10_keep.cls ≠ "java/lang/invoke/MethodHandle" ∧ yX10_keep.cls ≠ "java/lang/invoke/VarHandle" ∧ (parseMethodDescriptor yX10_keep.desc).map (fun d => d.parameters.length) = some 0 := by decide +kernel
theorem hdL_X11_keep : yX11_keep.cls = RX11 ∧ yX11_keep.cls ≠ "java/lang/invoke/MethodHandle" ∧ yX11_keep.cls ≠ "java/lang/invoke/VarHandle" ∧ (parseMethodDescriptor yX11_keep.desc).map (fun d => d.parameters.length) = some 0 := by decide +kernel
set_option maxHeartbeats 4000000 in
set_option maxRecDepth 100000 in
theorem lc_keep {l : Launch} {k : KT} {b L j : Nat} {xs : Nat → Int32} {nc ns : Nat} {T : TS} (C : CL l k b L xs nc ns) (hL : L ≤ 3584) (hj : 7 * j + 7 ≤ L) (hI : Inv j T) (Ke : KE l k b L xs nc ns j) : GW k T 923 (lvL k.1 b (7 * j)) [] := by
  have Cy := C.y
  obtain ⟨T1, T2, h1, h2, hI2⟩ := eq_keep (n := 10000) (Nat.le_refl _) hI
  refine y_aload_n Cy dL_law_923 rfl 1 rfl ?_
  refine y_callV (st' := []) Cy dL_law_924 [] [] (mtX10_keep l _ 10000 _ _ h1) gL_law_X10_keep rfl hdL_X10_keep (by decide) (by decide) (wE_0 _ _) rfl rfl rfl (Nat.le_of_ble_eq_true rfl) rfl ?_
  refine y_aload_n Cy dL_law_927 rfl 2 rfl ?_
  refine y_callV (st' := []) Cy dL_law_928 [] [] (mtX11_keep l _ 10000 _ _ h2) gL_law_X11_keep rfl hdL_X11_keep (by decide) (by decide) (wE_41 _ _) rfl rfl rfl (Nat.le_of_ble_eq_true rfl) rfl ?_
  refine y_goto (tgt := 1027) Cy dL_law_931 (by decide) ?_
  exact Ke k T2 _ _ rfl C (Nat.le_succ _) (Nat.le_add_right _ _) hI2
theorem hdL_X10_undo : yX10_undo.cls = RX10 ∧ yX10_undo.cls ≠ "java/lang/invoke/MethodHandle" ∧ yX10_undo.cls ≠ "java/lang/invoke/VarHandle" ∧ (parseMethodDescriptor yX10_undo.desc).map (fun d => d.parameters.length) = some 0 := by decide +kernel
theorem hdL_X11_undo : yX11_undo.cls = RX11 ∧ yX11_undo.cls ≠ "java/lang/invoke/MethodHandle" ∧ yX11_undo.cls ≠ "java/lang/invoke/VarHandle" ∧ (parseMethodDescriptor yX11_undo.desc).map (fun d => d.parameters.length) = some 0 := by decide +kernel
set_option maxHeartbeats 4000000 in
set_option maxRecDepth 100000 in
theorem lc_undo {l : Launch} {k : KT} {b L j : Nat} {xs : Nat → Int32} {nc ns : Nat} {T : TS} (C : CL l k b L xs nc ns) (hL : L ≤ 3584) (hj : 7 * j + 7 ≤ L) (hI : Inv j T) (Ke : KE l k b L xs nc ns j) : GW k T 934 (lvL k.1 b (7 * j)) [] := by
  have Cy := C.y
  obtain ⟨r, T1, T2, h1, h2, hI2⟩ := eq_undo (n := 10000) (Nat.le_refl _) hI
  refine y_aload_n Cy dL_law_934 rfl 1 rfl ?_
  refine y_callV (st' := [.int r]) Cy dL_law_935 [] [] (mtX10_undo l _ 10000 _ _ _ h1) gL_law_X10_undo rfl hdL_X10_undo (by decide) (by decide) (wE_0 _ _) rfl rfl rfl (Nat.le_of_ble_eq_true rfl) rfl ?_
  refine y_aload_n Cy dL_law_938 rfl 2 rfl ?_
  refine y_callV (st' := [.int r, .int r]) Cy dL_law_939 [] [.int r] (mtX11_undo l _ 10000 _ _ _ h2) gL_law_X11_undo rfl hdL_X11_undo (by decide) (by decide) (wE_41 _ _) rfl rfl rfl (Nat.le_of_ble_eq_true rfl) rfl ?_
  refine y_icmp_eq (tgt := 1027) (z := ()) (A := some ()) (B := none) Cy dL_law_942 (by decide) (if_pos rfl) (fun _ _ => ?_) (fun _ q => nomatch q)
  exact Ke k T2 _ _ rfl C (Nat.le_succ _) (Nat.le_add_right _ _) hI2
theorem hdL_L_share : yL_share.cls ≠ "java/lang/invoke/MethodHandle" ∧ yL_share.cls ≠ "java/lang/invoke/VarHandle" ∧ (parseMethodDescriptor yL_share.desc).map (fun d => d.parameters.length) = some 5 := by decide +kernel
theorem hdL_X11_share : yX11_share.cls = RX11 ∧ yX11_share.cls ≠ "java/lang/invoke/MethodHandle" ∧ yX11_share.cls ≠ "java/lang/invoke/VarHandle" ∧ (parseMethodDescriptor yX11_share.desc).map (fun d => d.parameters.length) = some 3 := by decide +kernel
theorem hdL_X11_thrown : yX11_thrown.cls = RX11 ∧ yX11_thrown.cls ≠ "java/lang/invoke/MethodHandle" ∧ yX11_thrown.cls ≠ "java/lang/invoke/VarHandle" ∧ (parseMethodDescriptor yX11_thrown.desc).map (fun d => d.parameters.length) = some 0 := by decide +kernel
set_option maxHeartbeats 4000000 in
set_option maxRecDepth 100000 in
theorem lc_share {l : Launch} {k : KT} {b L j : Nat} {xs : Nat → Int32} {nc ns : Nat} {T : TS} (hl : l.stackTraces = false) (C : CL l k b L xs nc ns) (hL : L ≤ 3584) (hj : 7 * j + 7 ≤ L) (hI : Inv j T) (Ke : KE l k b L xs nc ns j) (hnc : nc + 1 ≤ room_1.cells) (hns : ns + 8 ≤ room_1.slots) : GW k T 947 (lvL k.1 b (7 * j)) [] := by
  have Cy := C.y
  obtain ⟨kt, T1, rb, T2, h1, h2, h3, h4, hI2⟩ := eq_share (n := 10000) (Nat.le_refl _) hI (xs (Int32.toNatClampNeg (nI (7 * j) + 1))) (xs (Int32.toNatClampNeg (nI (7 * j) + 2))) (xs (Int32.toNatClampNeg (nI (7 * j) + 3)))
  refine y_aload_n Cy dL_law_947 rfl 1 rfl ?_
  refine y_aload_n Cy dL_law_948 rfl 0 rfl ?_
  refine y_iload Cy dL_law_949 4 rfl ?_
  refine y_iconst (v := 1) Cy dL_law_951 (by decide) ?_
  refine y_iadd Cy dL_law_952 ?_
  refine L_sld C (vin 1 (by decide) hj hL) dL_law_953 ?_
  refine y_aload_n Cy dL_law_954 rfl 0 rfl ?_
  refine y_iload Cy dL_law_955 4 rfl ?_
  refine y_iconst (v := 2) Cy dL_law_957 (by decide) ?_
  refine y_iadd Cy dL_law_958 ?_
  refine L_sld C (vin 2 (by decide) hj hL) dL_law_959 ?_
  refine y_aload_n Cy dL_law_960 rfl 0 rfl ?_
  refine y_iload Cy dL_law_961 4 rfl ?_
  refine y_iconst (v := 3) Cy dL_law_963 (by decide) ?_
  refine y_iadd Cy dL_law_964 ?_
  refine L_sld C (vin 3 (by decide) hj hL) dL_law_965 ?_
  refine y_aload_n Cy dL_law_966 rfl 3 rfl ?_
  refine L_share C hl h1 dL_law_967 hnc (Nat.le_trans (Nat.add_le_add_left (by decide) ns) hns) (fun k' hk' C' => ?_)
  clear Cy
  have Cy := C'.y
  rw [← hk']
  refine y_istore (lv' := [(0, .ref b), (1, .ref (ad k'.1 0)), (2, .ref (ad k'.1 41)), (3, .ref (ad k'.1 66)), (4, .int (nI (7 * j))), (5, .int kt)]) Cy dL_law_970 (by decide) rfl ?_
  refine y_aload_n Cy dL_law_972 rfl 2 rfl ?_
  refine y_aload_n Cy dL_law_973 rfl 0 rfl ?_
  refine y_iload Cy dL_law_974 4 rfl ?_
  refine y_iconst (v := 1) Cy dL_law_976 (by decide) ?_
  refine y_iadd Cy dL_law_977 ?_
  refine L_sld C' (vin 1 (by decide) hj hL) dL_law_978 ?_
  refine y_aload_n Cy dL_law_979 rfl 0 rfl ?_
  refine y_iload Cy dL_law_980 4 rfl ?_
  refine y_iconst (v := 2) Cy dL_law_982 (by decide) ?_
  refine y_iadd Cy dL_law_983 ?_
  refine L_sld C' (vin 2 (by decide) hj hL) dL_law_984 ?_
  refine y_aload_n Cy dL_law_985 rfl 0 rfl ?_
  refine y_iload Cy dL_law_986 4 rfl ?_
  refine y_iconst (v := 3) Cy dL_law_988 (by decide) ?_
  refine y_iadd Cy dL_law_989 ?_
  refine L_sld C' (vin 3 (by decide) hj hL) dL_law_990 ?_
  refine y_callV (st' := [.int rb]) Cy dL_law_991 [.int (xs (Int32.toNatClampNeg (nI (7 * j) + 1))), .int (xs (Int32.toNatClampNeg (nI (7 * j) + 2))), .int (xs (Int32.toNatClampNeg (nI (7 * j) + 3)))] [] (mtX11_share l _ 10000 _ _ _ _ _ _ h2) gL_law_X11_share rfl hdL_X11_share (by decide) (by decide) (wE_41 _ _) rfl rfl rfl (Nat.le_of_ble_eq_true rfl) rfl ?_
  refine y_istore (lv' := [(0, .ref b), (1, .ref (ad k'.1 0)), (2, .ref (ad k'.1 41)), (3, .ref (ad k'.1 66)), (4, .int (nI (7 * j))), (5, .int kt), (6, .int rb)]) Cy dL_law_994 (by decide) rfl ?_
  refine y_aload_n Cy dL_law_996 rfl 2 rfl ?_
  refine y_callV (st' := [.int (gI T2 2050)]) Cy dL_law_997 [] [] (mtX11_thrown l _ 10000 _ _ _ rfl) gL_law_X11_thrown rfl hdL_X11_thrown (by decide) (by decide) (wE_41 _ _) rfl rfl rfl (Nat.le_of_ble_eq_true rfl) rfl ?_
  refine y_iload Cy dL_law_1000 5 rfl ?_
  refine y_icmp_eq (tgt := 1007) (z := ()) (A := some ()) (B := none) Cy dL_law_1002 (by decide) (if_pos h3) (fun _ _ => ?_) (fun _ q => nomatch q)
  refine y_iload Cy dL_law_1007 5 rfl ?_
  have fin : GW k' T2 1024 [(0, .ref b), (1, .ref (ad k'.1 0)), (2, .ref (ad k'.1 41)), (3, .ref (ad k'.1 66)), (4, .int (nI (7 * j))), (5, .int kt), (6, .int rb)] [] := by
    refine y_goto (tgt := 1027) Cy dL_law_1024 (by decide) ?_
    refine q_sub [0, 1, 2, 3, 4] rfl ?_
    exact Ke k' T2 _ _ hk' C' (Nat.le_refl _) (Nat.add_le_add_left (by decide) ns) hI2
  by_cases hz : kt = 0
  · refine y_if_ne (tgt := 1024) (z := ()) (A := none) (B := some ()) Cy dL_law_1009 (by decide) (if_neg (fun q => q hz)) (fun _ q => nomatch q) (fun _ _ => ?_)
    refine y_aload_n Cy dL_law_1012 rfl 3 rfl ?_
    refine y_iconst (v := 0) Cy dL_law_1013 (by decide) ?_
    refine y_lald (z := ()) (A := some ()) Cy dL_law_1014 (wE_66 _ _) (show ck (0 : Int32) 1 (some ()) = some () from ck_nI (j := 0) (by decide) (by decide)) (fun _ => ?_)
    refine y_iload Cy dL_law_1015 6 rfl ?_
    refine y_i2l Cy dL_law_1017 ?_
    refine y_lcmp Cy dL_law_1018 ?_
    refine y_if_eq (tgt := 1024) (z := ()) (A := some ()) (B := none) Cy dL_law_1019 (by decide) (if_pos ((lg_cmp_eq _ _).mpr (show gL T2 66 (Int32.toNatClampNeg 0) = rb.toInt64 by rw [cl0]; exact h4 hz))) (fun _ _ => ?_) (fun _ q => nomatch q)
    exact fin
  · refine y_if_ne (tgt := 1024) (z := ()) (A := some ()) (B := none) Cy dL_law_1009 (by decide) (if_pos hz) (fun _ _ => ?_) (fun _ q => nomatch q)
    exact fin
