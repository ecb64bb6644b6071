theorem inn_X11_line_11 : ∀ w ∈ u_ws RX11 TX11 42, w ∈ wsX11_line := by decide +kernel
def fX11_copy_48_49_50_51_L12 (n : Nat) (y2 : Int32) (y5 : Int32) (kk : TS → Option (TS)) : Nat → Int32 → TS → Option (TS)
  | 0, _, _ => none
  | fuel + 1, x6, T => if (6 : Int32) ≤ x6 then kk T else ck y5 60 (ck y5 60 (ak (gO T 48 (Int32.toNatClampNeg y5)) (ck x6 (al (gO T 48 (Int32.toNatClampNeg y5))) (ak (gO T 50 (Int32.toNatClampNeg y5)) (ck x6 (al (gO T 50 (Int32.toNatClampNeg y5))) (nm (sA T (gO T 50 (Int32.toNatClampNeg y5)) x6 (gA T (gO T 48 (Int32.toNatClampNeg y5)) (Int32.toNatClampNeg x6))) (fun T_1 => fX11_copy_48_49_50_51_L12 n y2 y5 kk fuel (x6 + 1) T_1)))))))
set_option maxHeartbeats 4000000 in
set_option maxRecDepth 100000 in
theorem lpX11_copy_48_49_50_51_L12 {l : Launch} {k : KT} {n : Nat} {y2 : Int32} {y5 : Int32} {kk : TS → Option (TS)} {T' : TS} (C : CX l k 7 cX11_copy RX11 wsX11_copy 0 none (none, T')) (hk : ∀ T1, kk T1 = some T' → GW k T1 39 [(0, .ref (ad k.1 48)), (1, .ref (ad k.1 49)), (2, .int y2), (3, .ref (ad k.1 50)), (4, .ref (ad k.1 51)), (5, .int y5)] []) : ∀ (fuel : Nat) (x6 : Int32) (T : TS), fX11_copy_48_49_50_51_L12 n y2 y5 kk fuel x6 T = some T' → GW k T 12 [(0, .ref (ad k.1 48)), (1, .ref (ad k.1 49)), (2, .int y2), (3, .ref (ad k.1 50)), (4, .ref (ad k.1 51)), (5, .int y5), (6, .int x6)] [] := by
  intro fuel
  induction fuel with
  | zero => intro x6 T h; cases h
  | succ fuel ih =>
    intro x6 T h
    rw [fX11_copy_48_49_50_51_L12] at h
    refine q_iload C dX11_copy_12 6 rfl ?_
    refine q_bipush (v := 6) C dX11_copy_14 (by decide) ?_
    refine q_icmp_ge (tgt := 39) C dX11_copy_16 (by decide) h (fun c h => ?_) (fun c h => ?_)
    · refine q_sub [0, 1, 2, 3, 4, 5] rfl ?_
      exact hk _ h
    · refine q_aload_n C dX11_copy_19 rfl 3 rfl ?_
      refine q_iload C dX11_copy_20 5 rfl ?_
      refine q_aald C dX11_copy_22 (wE_50 _ _) h (fun h => ?_)
      refine q_iload C dX11_copy_23 6 rfl ?_
      refine q_aload_n C dX11_copy_25 rfl 0 rfl ?_
      refine q_iload C dX11_copy_26 5 rfl ?_
      refine q_aald C dX11_copy_28 (wE_48 _ _) h (fun h => ?_)
      refine q_iload C dX11_copy_29 6 rfl ?_
      refine q_ialdG C dX11_copy_31 h (fun h => ?_)
      refine q_iastG C dX11_copy_32 h (fun T_1 h => ?_)
      refine q_iinc (j := 6) (v := 1) (lv' := [(0, .ref (ad k.1 48)), (1, .ref (ad k.1 49)), (2, .int y2), (3, .ref (ad k.1 50)), (4, .ref (ad k.1 51)), (5, .int y5), (6, .int (x6 + 1))]) C dX11_copy_33 rfl (by decide) (by decide) rfl ?_
      refine q_goto (tgt := 12) C dX11_copy_36 (by decide) ?_
      refine q_sub [0, 1, 2, 3, 4, 5, 6] rfl ?_
      exact ih _ _ h
def fX11_copy_48_49_50_51_L3 (n : Nat) (y2 : Int32) (kk : TS → Option (TS)) : Nat → Int32 → TS → Option (TS)
  | 0, _, _ => none
  | fuel + 1, x5, T => if y2 ≤ x5 then kk T else fX11_copy_48_49_50_51_L12 n y2 x5 (fun T_2 => ck x5 60 (ck x5 60 (nm (sA T_2 51 x5 (gA T_2 49 (Int32.toNatClampNeg x5))) (fun T_3 => fX11_copy_48_49_50_51_L3 n y2 kk fuel (x5 + 1) T_3)))) n (0 : Int32) T
set_option maxHeartbeats 4000000 in
set_option maxRecDepth 100000 in
theorem lpX11_copy_48_49_50_51_L3 {l : Launch} {k : KT} {n : Nat} {y2 : Int32} {kk : TS → Option (TS)} {T' : TS} (C : CX l k 7 cX11_copy RX11 wsX11_copy 0 none (none, T')) (hk : ∀ T1, kk T1 = some T' → GW k T1 54 [] []) : ∀ (fuel : Nat) (x5 : Int32) (T : TS), fX11_copy_48_49_50_51_L3 n y2 kk fuel x5 T = some T' → GW k T 3 [(0, .ref (ad k.1 48)), (1, .ref (ad k.1 49)), (2, .int y2), (3, .ref (ad k.1 50)), (4, .ref (ad k.1 51)), (5, .int x5)] [] := by
  intro fuel
  induction fuel with
  | zero => intro x5 T h; cases h
  | succ fuel ih =>
    intro x5 T h
    rw [fX11_copy_48_49_50_51_L3] at h
    refine q_iload C dX11_copy_3 5 rfl ?_
    refine q_iload_n C dX11_copy_5 rfl 2 rfl ?_
    refine q_icmp_ge (tgt := 54) C dX11_copy_6 (by decide) h (fun c h => ?_) (fun c h => ?_)
    · refine q_sub [] rfl ?_
      exact hk _ h
    · refine q_iconst (v := 0) C dX11_copy_9 (by decide) ?_
      refine q_istore (lv' := [(0, .ref (ad k.1 48)), (1, .ref (ad k.1 49)), (2, .int y2), (3, .ref (ad k.1 50)), (4, .ref (ad k.1 51)), (5, .int x5), (6, .int (0 : Int32))]) C dX11_copy_10 (by decide) rfl ?_
      refine q_sub [0, 1, 2, 3, 4, 5, 6] rfl ?_
      refine lpX11_copy_48_49_50_51_L12 C (fun T_2 h => ?_) _ _ _ h
      refine q_aload C dX11_copy_39 4 rfl ?_
      refine q_iload C dX11_copy_41 5 rfl ?_
      refine q_aload_n C dX11_copy_43 rfl 1 rfl ?_
      refine q_iload C dX11_copy_44 5 rfl ?_
      refine q_iald C dX11_copy_46 (wE_49 _ _) h (fun h => ?_)
      refine q_iast C dX11_copy_47 (wE_51 _ _) (wS_51 _ _) h (fun T_3 h => ?_)
      refine q_iinc (j := 5) (v := 1) (lv' := [(0, .ref (ad k.1 48)), (1, .ref (ad k.1 49)), (2, .int y2), (3, .ref (ad k.1 50)), (4, .ref (ad k.1 51)), (5, .int (x5 + 1))]) C dX11_copy_48 rfl (by decide) (by decide) rfl ?_
      refine q_goto (tgt := 3) C dX11_copy_51 (by decide) ?_
      refine q_sub [0, 1, 2, 3, 4, 5] rfl ?_
      exact ih _ _ h
def fX11_copy_48_49_50_51 (n : Nat) (p2 : Int32) (T : TS) : Option (TS) := fX11_copy_48_49_50_51_L3 n p2 (fun T_4 => some T_4) n (0 : Int32) T
set_option maxHeartbeats 4000000 in
set_option maxRecDepth 100000 in
theorem mtX11_copy_48_49_50_51 (l : Launch) (X : XT) (n : Nat) (p2 : Int32) (T T' : TS) (h : fX11_copy_48_49_50_51 n p2 T = some T') : Met l yX11_copy wsX11_copy (RM 0) (PreX X [.ref (ad X 48), .ref (ad X 49), .int p2, .ref (ad X 50), .ref (ad X 51)] T) (QQ X none T') 0 0 (xA X) := by
  refine q_start (by decide) rfl (Nat.le_of_ble_eq_true rfl) ?_
  intro k hk C
  subst hk
  show GW k T 0 [(0, .ref (ad k.1 48)), (1, .ref (ad k.1 49)), (2, .int p2), (3, .ref (ad k.1 50)), (4, .ref (ad k.1 51))] []
  unfold fX11_copy_48_49_50_51 at h
  refine q_iconst (v := 0) C dX11_copy_0 (by decide) ?_
  refine q_istore (lv' := [(0, .ref (ad k.1 48)), (1, .ref (ad k.1 49)), (2, .int p2), (3, .ref (ad k.1 50)), (4, .ref (ad k.1 51)), (5, .int (0 : Int32))]) C dX11_copy_1 (by decide) rfl ?_
  refine q_sub [0, 1, 2, 3, 4, 5] rfl ?_
  refine lpX11_copy_48_49_50_51_L3 C (fun T_4 h => ?_) _ _ _ h
  exact q_vreturn C dX11_copy_54 h
def fX11_line_L63 (n : Nat) (y1 : Int32) (y2 : Int32) (y3 : Int32) (kk : TS → Option (Int32 × TS)) : Nat → Int32 → TS → Option (Int32 × TS)
  | 0, _, _ => none
  | fuel + 1, x4, T => if (gI T 2067) ≤ x4 then kk T else if ¬ y3 = (8 : Int32) then if (gI T 2067) ≤ y3 then kk T else if ¬ ((y2 >>> (x4 &&& 31)) &&& (1 : Int32)) = (1 : Int32) then ck y2 256 (ck y2 256 (ak (gO T 61 (Int32.toNatClampNeg y2)) (ck y3 (al (gO T 61 (Int32.toNatClampNeg y2))) (if ¬ y3 = (8 : Int32) then bd (fX11_moves n y3 x4 T) (fun r_6 T_5 => ck (y2 ||| ((1 : Int32) <<< (x4 &&& 31))) 256 (ak (gO T_5 61 (Int32.toNatClampNeg (y2 ||| ((1 : Int32) <<< (x4 &&& 31))))) (ck x4 (al (gO T_5 61 (Int32.toNatClampNeg (y2 ||| ((1 : Int32) <<< (x4 &&& 31)))))) (ak (gO T 61 (Int32.toNatClampNeg y2)) (ck y3 (al (gO T 61 (Int32.toNatClampNeg y2))) (nm (sA T_5 (gO T 61 (Int32.toNatClampNeg y2)) y3 (imin (gA T (gO T 61 (Int32.toNatClampNeg y2)) (Int32.toNatClampNeg y3)) (r_6 + (gA T_5 (gO T_5 61 (Int32.toNatClampNeg (y2 ||| ((1 : Int32) <<< (x4 &&& 31))))) (Int32.toNatClampNeg x4))))) (fun T_7 => fX11_line_L63 n y1 y2 y3 kk fuel (x4 + 1) T_7))))))) else bd (fX11_moves n (-1 : Int32) x4 T) (fun r_9 T_8 => ck (y2 ||| ((1 : Int32) <<< (x4 &&& 31))) 256 (ak (gO T_8 61 (Int32.toNatClampNeg (y2 ||| ((1 : Int32) <<< (x4 &&& 31))))) (ck x4 (al (gO T_8 61 (Int32.toNatClampNeg (y2 ||| ((1 : Int32) <<< (x4 &&& 31)))))) (ak (gO T 61 (Int32.toNatClampNeg y2)) (ck y3 (al (gO T 61 (Int32.toNatClampNeg y2))) (nm (sA T_8 (gO T 61 (Int32.toNatClampNeg y2)) y3 (imin (gA T (gO T 61 (Int32.toNatClampNeg y2)) (Int32.toNatClampNeg y3)) (r_9 + (gA T_8 (gO T_8 61 (Int32.toNatClampNeg (y2 ||| ((1 : Int32) <<< (x4 &&& 31))))) (Int32.toNatClampNeg x4))))) (fun T_10 => fX11_line_L63 n y1 y2 y3 kk fuel (x4 + 1) T_10))))))))))) else fX11_line_L63 n y1 y2 y3 kk fuel (x4 + 1) T else if ¬ y2 = 0 then kk T else if ¬ ((y2 >>> (x4 &&& 31)) &&& (1 : Int32)) = (1 : Int32) then ck y2 256 (ck y2 256 (ak (gO T 61 (Int32.toNatClampNeg y2)) (ck y3 (al (gO T 61 (Int32.toNatClampNeg y2))) (if ¬ y3 = (8 : Int32) then bd (fX11_moves n y3 x4 T) (fun r_12 T_11 => ck (y2 ||| ((1 : Int32) <<< (x4 &&& 31))) 256 (ak (gO T_11 61 (Int32.toNatClampNeg (y2 ||| ((1 : Int32) <<< (x4 &&& 31))))) (ck x4 (al (gO T_11 61 (Int32.toNatClampNeg (y2 ||| ((1 : Int32) <<< (x4 &&& 31)))))) (ak (gO T 61 (Int32.toNatClampNeg y2)) (ck y3 (al (gO T 61 (Int32.toNatClampNeg y2))) (nm (sA T_11 (gO T 61 (Int32.toNatClampNeg y2)) y3 (imin (gA T (gO T 61 (Int32.toNatClampNeg y2)) (Int32.toNatClampNeg y3)) (r_12 + (gA T_11 (gO T_11 61 (Int32.toNatClampNeg (y2 ||| ((1 : Int32) <<< (x4 &&& 31))))) (Int32.toNatClampNeg x4))))) (fun T_13 => fX11_line_L63 n y1 y2 y3 kk fuel (x4 + 1) T_13))))))) else bd (fX11_moves n (-1 : Int32) x4 T) (fun r_15 T_14 => ck (y2 ||| ((1 : Int32) <<< (x4 &&& 31))) 256 (ak (gO T_14 61 (Int32.toNatClampNeg (y2 ||| ((1 : Int32) <<< (x4 &&& 31))))) (ck x4 (al (gO T_14 61 (Int32.toNatClampNeg (y2 ||| ((1 : Int32) <<< (x4 &&& 31)))))) (ak (gO T 61 (Int32.toNatClampNeg y2)) (ck y3 (al (gO T 61 (Int32.toNatClampNeg y2))) (nm (sA T_14 (gO T 61 (Int32.toNatClampNeg y2)) y3 (imin (gA T (gO T 61 (Int32.toNatClampNeg y2)) (Int32.toNatClampNeg y3)) (r_15 + (gA T_14 (gO T_14 61 (Int32.toNatClampNeg (y2 ||| ((1 : Int32) <<< (x4 &&& 31))))) (Int32.toNatClampNeg x4))))) (fun T_16 => fX11_line_L63 n y1 y2 y3 kk fuel (x4 + 1) T_16))))))))))) else fX11_line_L63 n y1 y2 y3 kk fuel (x4 + 1) T
set_option maxHeartbeats 4000000 in
set_option maxRecDepth 100000 in
theorem lpX11_line_L63 {l : Launch} {k : KT} {n : Nat} {X0 : XT} {y1 : Int32} {y2 : Int32} {y3 : Int32} {kk : TS → Option (Int32 × TS)} {r : Int32} {T' : TS} (C : CY l k 8 cX11_line RX11 wsX11_line 2 (some .int) (RN 2 1 8) 0 0 (fun below args s => MQ below (QQ X0 (some (.int r)) T') args s 1 8 (xA X0))) (hX : X0 = k.1) (hk : ∀ T1, kk T1 = some (r, T') → GW k T1 163 [(0, .ref (ad k.1 41)), (1, .int y1), (2, .int y2), (3, .int y3)] []) : ∀ (fuel : Nat) (x4 : Int32) (T : TS), fX11_line_L63 n y1 y2 y3 kk fuel x4 T = some (r, T') → GW k T 63 [(0, .ref (ad k.1 41)), (1, .int y1), (2, .int y2), (3, .int y3), (4, .int x4)] [] := by
  intro fuel
  induction fuel with
  | zero => intro x4 T h; cases h
  | succ fuel ih =>
    intro x4 T h
    rw [fX11_line_L63] at h
    refine y_iload C dX11_line_63 4 rfl ?_
    refine y_aload_n C dX11_line_65 rfl 0 rfl ?_
    refine y_get (j := 17) C dX11_line_66 (wE_41 _ _) rfl (by decide) rfl inn_X11_line_11 (by decide +kernel) rfl ?_
    refine y_icmp_ge (tgt := 163) C dX11_line_69 (by decide) h (fun c h => ?_) (fun c h => ?_)
    · refine q_sub [0, 1, 2, 3] rfl ?_
      exact hk _ h
    · refine y_iload_n C dX11_line_72 rfl 3 rfl ?_
      refine y_bipush (v := 8) C dX11_line_73 (by decide) ?_
      refine y_icmp_ne (tgt := 85) C dX11_line_75 (by decide) h (fun c h => ?_) (fun c h => ?_)
      · refine y_iload_n C dX11_line_85 rfl 3 rfl ?_
        refine y_aload_n C dX11_line_86 rfl 0 rfl ?_
        refine y_get (j := 17) C dX11_line_87 (wE_41 _ _) rfl (by decide) rfl inn_X11_line_11 (by decide +kernel) rfl ?_
        refine y_icmp_ge (tgt := 163) C dX11_line_90 (by decide) h (fun c h => ?_) (fun c h => ?_)
        · refine q_sub [0, 1, 2, 3] rfl ?_
          exact hk _ h
        · refine y_iload_n C dX11_line_93 rfl 2 rfl ?_
          refine y_iload C dX11_line_94 4 rfl ?_
          refine y_ishr C dX11_line_96 ?_
          refine y_iconst (v := 1) C dX11_line_97 (by decide) ?_
          refine y_iand C dX11_line_98 ?_
          refine y_iconst (v := 1) C dX11_line_99 (by decide) ?_
          refine y_icmp_ne (tgt := 106) C dX11_line_100 (by decide) h (fun c h => ?_) (fun c h => ?_)
          · refine y_aload_n C dX11_line_106 rfl 0 rfl ?_
            refine y_get (j := 36) C dX11_line_107 (wE_41 _ _) rfl (by decide) rfl inn_X11_line_11 (by decide +kernel) rfl ?_
            refine y_iload_n C dX11_line_110 rfl 2 rfl ?_
            refine y_aald C dX11_line_111 (wE_61 _ _) h (fun h => ?_)
            refine y_iload_n C dX11_line_112 rfl 3 rfl ?_
            refine y_aload_n C dX11_line_113 rfl 0 rfl ?_
            refine y_get (j := 36) C dX11_line_114 (wE_41 _ _) rfl (by decide) rfl inn_X11_line_11 (by decide +kernel) rfl ?_
            refine y_iload_n C dX11_line_117 rfl 2 rfl ?_
            refine y_aald C dX11_line_118 (wE_61 _ _) h (fun h => ?_)
            refine y_iload_n C dX11_line_119 rfl 3 rfl ?_
            refine y_ialdG C dX11_line_120 h (fun h => ?_)
            refine y_aload_n C dX11_line_121 rfl 0 rfl ?_
            refine y_iload_n C dX11_line_122 rfl 3 rfl ?_
            refine y_bipush (v := 8) C dX11_line_123 (by decide) ?_
            refine y_icmp_ne (tgt := 132) C dX11_line_125 (by decide) h (fun c h => ?_) (fun c h => ?_)
            · refine y_iload_n C dX11_line_132 rfl 3 rfl ?_
              refine y_iload C dX11_line_133 4 rfl ?_
              obtain ⟨r_6, T_5, hc, h⟩ := bd_some h
              refine y_callV (st' := [.int r_6, .int (gA T (gO T 61 (Int32.toNatClampNeg y2)) (Int32.toNatClampNeg y3)), .int y3, .ref (ad k.1 (gO T 61 (Int32.toNatClampNeg y2)))]) C dX11_line_135 [.int y3, .int x4] [.int (gA T (gO T 61 (Int32.toNatClampNeg y2)) (Int32.toNatClampNeg y3)), .int y3, .ref (ad k.1 (gO T 61 (Int32.toNatClampNeg y2)))] (mtX11_moves l _ n _ _ _ _ _ hc) gX11_line_X11_moves rfl hd_X11_moves (by decide) (by decide) (wE_41 _ _) rfl rfl rfl (Nat.le_of_ble_eq_true rfl) rfl ?_
              clear hc
              refine y_aload_n C dX11_line_138 rfl 0 rfl ?_
              refine y_get (j := 36) C dX11_line_139 (wE_41 _ _) rfl (by decide) rfl inn_X11_line_11 (by decide +kernel) rfl ?_
              refine y_iload_n C dX11_line_142 rfl 2 rfl ?_
              refine y_iconst (v := 1) C dX11_line_143 (by decide) ?_
              refine y_iload C dX11_line_144 4 rfl ?_
              refine y_ishl C dX11_line_146 ?_
              refine y_ior C dX11_line_147 ?_
              refine y_aald C dX11_line_148 (wE_61 _ _) h (fun h => ?_)
              refine y_iload C dX11_line_149 4 rfl ?_
              refine y_ialdG C dX11_line_151 h (fun h => ?_)
              refine y_iadd C dX11_line_152 ?_
              refine y_mmin C dX11_line_153 (by decide +kernel) (by decide +kernel) (by decide +kernel) (by decide +kernel) (by decide) (Nat.le_of_ble_eq_true rfl) ?_
              refine y_iastG C dX11_line_156 h (fun T_7 h => ?_)
              refine y_iinc (j := 4) (v := 1) (lv' := [(0, .ref (ad k.1 41)), (1, .int y1), (2, .int y2), (3, .int y3), (4, .int (x4 + 1))]) C dX11_line_157 rfl (by decide) (by decide) rfl ?_
              refine y_goto (tgt := 63) C dX11_line_160 (by decide) ?_
              refine q_sub [0, 1, 2, 3, 4] rfl ?_
              exact ih _ _ h
            · refine y_iconst (v := -1) C dX11_line_128 (by decide) ?_
              refine y_goto (tgt := 133) C dX11_line_129 (by decide) ?_
              refine y_iload C dX11_line_133 4 rfl ?_
              obtain ⟨r_9, T_8, hc, h⟩ := bd_some h
              refine y_callV (st' := [.int r_9, .int (gA T (gO T 61 (Int32.toNatClampNeg y2)) (Int32.toNatClampNeg y3)), .int y3, .ref (ad k.1 (gO T 61 (Int32.toNatClampNeg y2)))]) C dX11_line_135 [.int (-1 : Int32), .int x4] [.int (gA T (gO T 61 (Int32.toNatClampNeg y2)) (Int32.toNatClampNeg y3)), .int y3, .ref (ad k.1 (gO T 61 (Int32.toNatClampNeg y2)))] (mtX11_moves l _ n _ _ _ _ _ hc) gX11_line_X11_moves rfl hd_X11_moves (by decide) (by decide) (wE_41 _ _) rfl rfl rfl (Nat.le_of_ble_eq_true rfl) rfl ?_
              clear hc
              refine y_aload_n C dX11_line_138 rfl 0 rfl ?_
              refine y_get (j := 36) C dX11_line_139 (wE_41 _ _) rfl (by decide) rfl inn_X11_line_11 (by decide +kernel) rfl ?_
              refine y_iload_n C dX11_line_142 rfl 2 rfl ?_
              refine y_iconst (v := 1) C dX11_line_143 (by decide) ?_
              refine y_iload C dX11_line_144 4 rfl ?_
              refine y_ishl C dX11_line_146 ?_
              refine y_ior C dX11_line_147 ?_
              refine y_aald C dX11_line_148 (wE_61 _ _) h (fun h => ?_)
              refine y_iload C dX11_line_149 4 rfl ?_
              refine y_ialdG C dX11_line_151 h (fun h => ?_)
              refine y_iadd C dX11_line_152 ?_
              refine y_mmin C dX11_line_153 (by decide +kernel) (by decide +kernel) (by decide +kernel) (by decide +kernel) (by decide) (Nat.le_of_ble_eq_true rfl) ?_
              refine y_iastG C dX11_line_156 h (fun T_10 h => ?_)
              refine y_iinc (j := 4) (v := 1) (lv' := [(0, .ref (ad k.1 41)), (1, .int y1), (2, .int y2), (3, .int y3), (4, .int (x4 + 1))]) C dX11_line_157 rfl (by decide) (by decide) rfl ?_
              refine y_goto (tgt := 63) C dX11_line_160 (by decide) ?_
              refine q_sub [0, 1, 2, 3, 4] rfl ?_
              exact ih _ _ h
          · refine y_goto (tgt := 157) C dX11_line_103 (by decide) ?_
            refine y_iinc (j := 4) (v := 1) (lv' := [(0, .ref (ad k.1 41)), (1, .int y1), (2, .int y2), (3, .int y3), (4, .int (x4 + 1))]) C dX11_line_157 rfl (by decide) (by decide) rfl ?_
            refine y_goto (tgt := 63) C dX11_line_160 (by decide) ?_
            refine q_sub [0, 1, 2, 3, 4] rfl ?_
            exact ih _ _ h
      · refine y_iload_n C dX11_line_78 rfl 2 rfl ?_
        refine y_if_ne (tgt := 163) C dX11_line_79 (by decide) h (fun c h => ?_) (fun c h => ?_)
        · refine q_sub [0, 1, 2, 3] rfl ?_
          exact hk _ h
        · refine y_goto (tgt := 93) C dX11_line_82 (by decide) ?_
          refine y_iload_n C dX11_line_93 rfl 2 rfl ?_
          refine y_iload C dX11_line_94 4 rfl ?_
          refine y_ishr C dX11_line_96 ?_
          refine y_iconst (v := 1) C dX11_line_97 (by decide) ?_
          refine y_iand C dX11_line_98 ?_
          refine y_iconst (v := 1) C dX11_line_99 (by decide) ?_
          refine y_icmp_ne (tgt := 106) C dX11_line_100 (by decide) h (fun c h => ?_) (fun c h => ?_)
          · refine y_aload_n C dX11_line_106 rfl 0 rfl ?_
            refine y_get (j := 36) C dX11_line_107 (wE_41 _ _) rfl (by decide) rfl inn_X11_line_11 (by decide +kernel) rfl ?_
            refine y_iload_n C dX11_line_110 rfl 2 rfl ?_
            refine y_aald C dX11_line_111 (wE_61 _ _) h (fun h => ?_)
            refine y_iload_n C dX11_line_112 rfl 3 rfl ?_
            refine y_aload_n C dX11_line_113 rfl 0 rfl ?_
            refine y_get (j := 36) C dX11_line_114 (wE_41 _ _) rfl (by decide) rfl inn_X11_line_11 (by decide +kernel) rfl ?_
            refine y_iload_n C dX11_line_117 rfl 2 rfl ?_
            refine y_aald C dX11_line_118 (wE_61 _ _) h (fun h => ?_)
            refine y_iload_n C dX11_line_119 rfl 3 rfl ?_
            refine y_ialdG C dX11_line_120 h (fun h => ?_)
            refine y_aload_n C dX11_line_121 rfl 0 rfl ?_
            refine y_iload_n C dX11_line_122 rfl 3 rfl ?_
            refine y_bipush (v := 8) C dX11_line_123 (by decide) ?_
            refine y_icmp_ne (tgt := 132) C dX11_line_125 (by decide) h (fun c h => ?_) (fun c h => ?_)
            · refine y_iload_n C dX11_line_132 rfl 3 rfl ?_
              refine y_iload C dX11_line_133 4 rfl ?_
              obtain ⟨r_12, T_11, hc, h⟩ := bd_some h
              refine y_callV (st' := [.int r_12, .int (gA T (gO T 61 (Int32.toNatClampNeg y2)) (Int32.toNatClampNeg y3)), .int y3, .ref (ad k.1 (gO T 61 (Int32.toNatClampNeg y2)))]) C dX11_line_135 [.int y3, .int x4] [.int (gA T (gO T 61 (Int32.toNatClampNeg y2)) (Int32.toNatClampNeg y3)), .int y3, .ref (ad k.1 (gO T 61 (Int32.toNatClampNeg y2)))] (mtX11_moves l _ n _ _ _ _ _ hc) gX11_line_X11_moves rfl hd_X11_moves (by decide) (by decide) (wE_41 _ _) rfl rfl rfl (Nat.le_of_ble_eq_true rfl) rfl ?_
              clear hc
              refine y_aload_n C dX11_line_138 rfl 0 rfl ?_
              refine y_get (j := 36) C dX11_line_139 (wE_41 _ _) rfl (by decide) rfl inn_X11_line_11 (by decide +kernel) rfl ?_
              refine y_iload_n C dX11_line_142 rfl 2 rfl ?_
              refine y_iconst (v := 1) C dX11_line_143 (by decide) ?_
              refine y_iload C dX11_line_144 4 rfl ?_
              refine y_ishl C dX11_line_146 ?_
              refine y_ior C dX11_line_147 ?_
              refine y_aald C dX11_line_148 (wE_61 _ _) h (fun h => ?_)
              refine y_iload C dX11_line_149 4 rfl ?_
              refine y_ialdG C dX11_line_151 h (fun h => ?_)
              refine y_iadd C dX11_line_152 ?_
              refine y_mmin C dX11_line_153 (by decide +kernel) (by decide +kernel) (by decide +kernel) (by decide +kernel) (by decide) (Nat.le_of_ble_eq_true rfl) ?_
              refine y_iastG C dX11_line_156 h (fun T_13 h => ?_)
              refine y_iinc (j := 4) (v := 1) (lv' := [(0, .ref (ad k.1 41)), (1, .int y1), (2, .int y2), (3, .int y3), (4, .int (x4 + 1))]) C dX11_line_157 rfl (by decide) (by decide) rfl ?_
              refine y_goto (tgt := 63) C dX11_line_160 (by decide) ?_
              refine q_sub [0, 1, 2, 3, 4] rfl ?_
              exact ih _ _ h
            · refine y_iconst (v := -1) C dX11_line_128 (by decide) ?_
              refine y_goto (tgt := 133) C dX11_line_129 (by decide) ?_
              refine y_iload C dX11_line_133 4 rfl ?_
              obtain ⟨r_15, T_14, hc, h⟩ := bd_some h
              refine y_callV (st' := [.int r_15, .int (gA T (gO T 61 (Int32.toNatClampNeg y2)) (Int32.toNatClampNeg y3)), .int y3, .ref (ad k.1 (gO T 61 (Int32.toNatClampNeg y2)))]) C dX11_line_135 [.int (-1 : Int32), .int x4] [.int (gA T (gO T 61 (Int32.toNatClampNeg y2)) (Int32.toNatClampNeg y3)), .int y3, .ref (ad k.1 (gO T 61 (Int32.toNatClampNeg y2)))] (mtX11_moves l _ n _ _ _ _ _ hc) gX11_line_X11_moves rfl hd_X11_moves (by decide) (by decide) (wE_41 _ _) rfl rfl rfl (Nat.le_of_ble_eq_true rfl) rfl ?_
              clear hc
              refine y_aload_n C dX11_line_138 rfl 0 rfl ?_
              refine y_get (j := 36) C dX11_line_139 (wE_41 _ _) rfl (by decide) rfl inn_X11_line_11 (by decide +kernel) rfl ?_
              refine y_iload_n C dX11_line_142 rfl 2 rfl ?_
              refine y_iconst (v := 1) C dX11_line_143 (by decide) ?_
              refine y_iload C dX11_line_144 4 rfl ?_
              refine y_ishl C dX11_line_146 ?_
              refine y_ior C dX11_line_147 ?_
              refine y_aald C dX11_line_148 (wE_61 _ _) h (fun h => ?_)
              refine y_iload C dX11_line_149 4 rfl ?_
              refine y_ialdG C dX11_line_151 h (fun h => ?_)
              refine y_iadd C dX11_line_152 ?_
              refine y_mmin C dX11_line_153 (by decide +kernel) (by decide +kernel) (by decide +kernel) (by decide +kernel) (by decide) (Nat.le_of_ble_eq_true rfl) ?_
              refine y_iastG C dX11_line_156 h (fun T_16 h => ?_)
              refine y_iinc (j := 4) (v := 1) (lv' := [(0, .ref (ad k.1 41)), (1, .int y1), (2, .int y2), (3, .int y3), (4, .int (x4 + 1))]) C dX11_line_157 rfl (by decide) (by decide) rfl ?_
              refine y_goto (tgt := 63) C dX11_line_160 (by decide) ?_
              refine q_sub [0, 1, 2, 3, 4] rfl ?_
              exact ih _ _ h
          · refine y_goto (tgt := 157) C dX11_line_103 (by decide) ?_
            refine y_iinc (j := 4) (v := 1) (lv' := [(0, .ref (ad k.1 41)), (1, .int y1), (2, .int y2), (3, .int y3), (4, .int (x4 + 1))]) C dX11_line_157 rfl (by decide) (by decide) rfl ?_
            refine y_goto (tgt := 63) C dX11_line_160 (by decide) ?_
            refine q_sub [0, 1, 2, 3, 4] rfl ?_
            exact ih _ _ h
def fX11_line_L33 (n : Nat) (y1 : Int32) (y2 : Int32) (kk : TS → Option (Int32 × TS)) : Nat → Int32 → TS → Option (Int32 × TS)
  | 0, _, _ => none
  | fuel + 1, x3, T => if (9 : Int32) ≤ x3 then kk T else ck y2 256 (if ¬ y2 = (y1 - (1 : Int32)) then ak (gO T 61 (Int32.toNatClampNeg y2)) (ck x3 (al (gO T 61 (Int32.toNatClampNeg y2))) (nm (sA T (gO T 61 (Int32.toNatClampNeg y2)) x3 (1000000 : Int32)) (fun T_4 => fX11_line_L63 n y1 y2 x3 (fun T_17 => fX11_line_L33 n y1 y2 kk fuel (x3 + 1) T_17) n (0 : Int32) T_4))) else ak (gO T 61 (Int32.toNatClampNeg y2)) (ck x3 (al (gO T 61 (Int32.toNatClampNeg y2))) (nm (sA T (gO T 61 (Int32.toNatClampNeg y2)) x3 (0 : Int32)) (fun T_18 => fX11_line_L63 n y1 y2 x3 (fun T_19 => fX11_line_L33 n y1 y2 kk fuel (x3 + 1) T_19) n (0 : Int32) T_18))))
set_option maxHeartbeats 4000000 in
set_option maxRecDepth 100000 in
theorem lpX11_line_L33 {l : Launch} {k : KT} {n : Nat} {X0 : XT} {y1 : Int32} {y2 : Int32} {kk : TS → Option (Int32 × TS)} {r : Int32} {T' : TS} (C : CY l k 8 cX11_line RX11 wsX11_line 2 (some .int) (RN 2 1 8) 0 0 (fun below args s => MQ below (QQ X0 (some (.int r)) T') args s 1 8 (xA X0))) (hX : X0 = k.1) (hk : ∀ T1, kk T1 = some (r, T') → GW k T1 169 [(0, .ref (ad k.1 41)), (1, .int y1), (2, .int y2)] []) : ∀ (fuel : Nat) (x3 : Int32) (T : TS), fX11_line_L33 n y1 y2 kk fuel x3 T = some (r, T') → GW k T 33 [(0, .ref (ad k.1 41)), (1, .int y1), (2, .int y2), (3, .int x3)] [] := by
  intro fuel
  induction fuel with
  | zero => intro x3 T h; cases h
  | succ fuel ih =>
    intro x3 T h
    rw [fX11_line_L33] at h
    refine y_iload_n C dX11_line_33 rfl 3 rfl ?_
    refine y_bipush (v := 9) C dX11_line_34 (by decide) ?_
    refine y_icmp_ge (tgt := 169) C dX11_line_36 (by decide) h (fun c h => ?_) (fun c h => ?_)
    · refine q_sub [0, 1, 2] rfl ?_
      exact hk _ h
    · refine y_aload_n C dX11_line_39 rfl 0 rfl ?_
      refine y_get (j := 36) C dX11_line_40 (wE_41 _ _) rfl (by decide) rfl inn_X11_line_11 (by decide +kernel) rfl ?_
      refine y_iload_n C dX11_line_43 rfl 2 rfl ?_
      refine y_aald C dX11_line_44 (wE_61 _ _) h (fun h => ?_)
      refine y_iload_n C dX11_line_45 rfl 3 rfl ?_
      refine y_iload_n C dX11_line_46 rfl 2 rfl ?_
      refine y_iload_n C dX11_line_47 rfl 1 rfl ?_
      refine y_iconst (v := 1) C dX11_line_48 (by decide) ?_
      refine y_isub C dX11_line_49 ?_
      refine y_icmp_ne (tgt := 57) C dX11_line_50 (by decide) h (fun c h => ?_) (fun c h => ?_)
      · refine y_ldc (v := 1000000) C dX11_line_57 (by decide +kernel) ?_
        refine y_iastG C dX11_line_59 h (fun T_4 h => ?_)
        refine y_iconst (v := 0) C dX11_line_60 (by decide) ?_
        refine y_istore (lv' := [(0, .ref (ad k.1 41)), (1, .int y1), (2, .int y2), (3, .int x3), (4, .int (0 : Int32))]) C dX11_line_61 (by decide) rfl ?_
        refine q_sub [0, 1, 2, 3, 4] rfl ?_
        refine lpX11_line_L63 C hX (fun T_17 h => ?_) _ _ _ h
        refine y_iinc (j := 3) (v := 1) (lv' := [(0, .ref (ad k.1 41)), (1, .int y1), (2, .int y2), (3, .int (x3 + 1))]) C dX11_line_163 rfl (by decide) (by decide) rfl ?_
        refine y_goto (tgt := 33) C dX11_line_166 (by decide) ?_
        refine q_sub [0, 1, 2, 3] rfl ?_
        exact ih _ _ h
      · refine y_iconst (v := 0) C dX11_line_53 (by decide) ?_
        refine y_goto (tgt := 59) C dX11_line_54 (by decide) ?_
        refine y_iastG C dX11_line_59 h (fun T_18 h => ?_)
        refine y_iconst (v := 0) C dX11_line_60 (by decide) ?_
        refine y_istore (lv' := [(0, .ref (ad k.1 41)), (1, .int y1), (2, .int y2), (3, .int x3), (4, .int (0 : Int32))]) C dX11_line_61 (by decide) rfl ?_
        refine q_sub [0, 1, 2, 3, 4] rfl ?_
        refine lpX11_line_L63 C hX (fun T_19 h => ?_) _ _ _ h
        refine y_iinc (j := 3) (v := 1) (lv' := [(0, .ref (ad k.1 41)), (1, .int y1), (2, .int y2), (3, .int (x3 + 1))]) C dX11_line_163 rfl (by decide) (by decide) rfl ?_
        refine y_goto (tgt := 33) C dX11_line_166 (by decide) ?_
        refine q_sub [0, 1, 2, 3] rfl ?_
        exact ih _ _ h
def fX11_line_L27 (n : Nat) (y1 : Int32) (kk : TS → Option (Int32 × TS)) : Nat → Int32 → TS → Option (Int32 × TS)
  | 0, _, _ => none
  | fuel + 1, x2, T => if x2 < 0 then kk T else fX11_line_L33 n y1 x2 (fun T_20 => fX11_line_L27 n y1 kk fuel (x2 + (-1)) T_20) n (0 : Int32) T
set_option maxHeartbeats 4000000 in
set_option maxRecDepth 100000 in
theorem lpX11_line_L27 {l : Launch} {k : KT} {n : Nat} {X0 : XT} {y1 : Int32} {kk : TS → Option (Int32 × TS)} {r : Int32} {T' : TS} (C : CY l k 8 cX11_line RX11 wsX11_line 2 (some .int) (RN 2 1 8) 0 0 (fun below args s => MQ below (QQ X0 (some (.int r)) T') args s 1 8 (xA X0))) (hX : X0 = k.1) (hk : ∀ T1, kk T1 = some (r, T') → GW k T1 175 [(0, .ref (ad k.1 41))] []) : ∀ (fuel : Nat) (x2 : Int32) (T : TS), fX11_line_L27 n y1 kk fuel x2 T = some (r, T') → GW k T 27 [(0, .ref (ad k.1 41)), (1, .int y1), (2, .int x2)] [] := by
  intro fuel
  induction fuel with
  | zero => intro x2 T h; cases h
  | succ fuel ih =>
    intro x2 T h
    rw [fX11_line_L27] at h
    refine y_iload_n C dX11_line_27 rfl 2 rfl ?_
    refine y_if_lt (tgt := 175) C dX11_line_28 (by decide) h (fun c h => ?_) (fun c h => ?_)
    · refine q_sub [0] rfl ?_
      exact hk _ h
    · refine y_iconst (v := 0) C dX11_line_31 (by decide) ?_
      refine y_istore_n (lv' := [(0, .ref (ad k.1 41)), (1, .int y1), (2, .int x2), (3, .int (0 : Int32))]) C dX11_line_32 rfl (by decide) rfl ?_
      refine q_sub [0, 1, 2, 3] rfl ?_
      refine lpX11_line_L33 C hX (fun T_20 h => ?_) _ _ _ h
      refine y_iinc (j := 2) (v := -1) (lv' := [(0, .ref (ad k.1 41)), (1, .int y1), (2, .int (x2 + (-1)))]) C dX11_line_169 rfl (by decide) (by decide) rfl ?_
      refine y_goto (tgt := 27) C dX11_line_172 (by decide) ?_
      refine q_sub [0, 1, 2] rfl ?_
      exact ih _ _ h
def fX11_line_L244 (n : Nat) (y2 : Int32) (y4 : Int32) (y5 : Int32) (y6 : Int32) (y100 : Nat → Int32) (kk : Int32 → TS → Option (Int32 × TS)) : Nat → Int32 → TS → Option (Int32 × TS)
  | 0, _, _ => none
  | fuel + 1, x7, T => if ((y4 >>> (x7 &&& 31)) &&& (1 : Int32)) = (1 : Int32) then fX11_line_L244 n y2 y4 y5 y6 y100 kk fuel (x7 + 1) T else if ¬ y5 = (8 : Int32) then bd (fX11_moves n y5 x7 T) (fun r_26 T_25 => ck (y4 ||| ((1 : Int32) <<< (x7 &&& 31))) 256 (ak (gO T_25 61 (Int32.toNatClampNeg (y4 ||| ((1 : Int32) <<< (x7 &&& 31))))) (ck x7 (al (gO T_25 61 (Int32.toNatClampNeg (y4 ||| ((1 : Int32) <<< (x7 &&& 31)))))) (ck y4 256 (ak (gO T_25 61 (Int32.toNatClampNeg y4)) (ck y5 (al (gO T_25 61 (Int32.toNatClampNeg y4))) (if (r_26 + (gA T_25 (gO T_25 61 (Int32.toNatClampNeg (y4 ||| ((1 : Int32) <<< (x7 &&& 31))))) (Int32.toNatClampNeg x7))) = (gA T_25 (gO T_25 61 (Int32.toNatClampNeg y4)) (Int32.toNatClampNeg y5)) then kk x7 T_25 else fX11_line_L244 n y2 y4 y5 y6 y100 kk fuel (x7 + 1) T_25))))))) else bd (fX11_moves n (-1 : Int32) x7 T) (fun r_28 T_27 => ck (y4 ||| ((1 : Int32) <<< (x7 &&& 31))) 256 (ak (gO T_27 61 (Int32.toNatClampNeg (y4 ||| ((1 : Int32) <<< (x7 &&& 31))))) (ck x7 (al (gO T_27 61 (Int32.toNatClampNeg (y4 ||| ((1 : Int32) <<< (x7 &&& 31)))))) (ck y4 256 (ak (gO T_27 61 (Int32.toNatClampNeg y4)) (ck y5 (al (gO T_27 61 (Int32.toNatClampNeg y4))) (if (r_28 + (gA T_27 (gO T_27 61 (Int32.toNatClampNeg (y4 ||| ((1 : Int32) <<< (x7 &&& 31))))) (Int32.toNatClampNeg x7))) = (gA T_27 (gO T_27 61 (Int32.toNatClampNeg y4)) (Int32.toNatClampNeg y5)) then kk x7 T_27 else fX11_line_L244 n y2 y4 y5 y6 y100 kk fuel (x7 + 1) T_27)))))))
set_option maxHeartbeats 4000000 in
set_option maxRecDepth 100000 in
theorem lpX11_line_L244 {l : Launch} {k : KT} {n : Nat} {P : Heap → List Loc → JFrame → Prop} {a : Nat} {X0 : XT} {y2 : Int32} {y4 : Int32} {y5 : Int32} {y6 : Int32} {y100 : Nat → Int32} {kk : Int32 → TS → Option (Int32 × TS)} {r : Int32} {T' : TS} (C : ∀ f, CY l (kx k P a f) 8 cX11_line RX11 wsX11_line 2 (some .int) (RN 2 1 8) 1 8 (fun below args s => MQ below (QQ X0 (some (.int r)) T') args s 1 8 (xA X0))) (hX : X0 = k.1) (hk : ∀ e7 T1, kk e7 T1 = some (r, T') → GW (kx k P a y100) T1 309 [(0, .ref (ad k.1 41)), (2, .int y2), (3, .ref a), (4, .int y4), (6, .int y6), (7, .int e7)] []) : ∀ (fuel : Nat) (x7 : Int32) (T : TS), fX11_line_L244 n y2 y4 y5 y6 y100 kk fuel x7 T = some (r, T') → GW (kx k P a y100) T 244 [(0, .ref (ad k.1 41)), (2, .int y2), (3, .ref a), (4, .int y4), (5, .int y5), (6, .int y6), (7, .int x7)] [] := by
  intro fuel
  induction fuel with
  | zero => intro x7 T h; cases h
  | succ fuel ih =>
    intro x7 T h
    rw [fX11_line_L244] at h
    refine y_iload (C _) dX11_line_244 3 rfl ?_
    refine y_iload (C _) dX11_line_246 6 rfl ?_
    refine y_ishr (C _) dX11_line_248 ?_
    refine y_iconst (v := 1) (C _) dX11_line_249 (by decide) ?_
    refine y_iand (C _) dX11_line_250 ?_
    refine y_iconst (v := 1) (C _) dX11_line_251 (by decide) ?_
    refine y_icmp_eq (tgt := 303) (C _) dX11_line_252 (by decide) h (fun c h => ?_) (fun c h => ?_)
    · refine y_iinc (j := 6) (v := 1) (lv' := [(0, .ref (ad k.1 41)), (2, .int y2), (3, .ref a), (4, .int y4), (5, .int y5), (6, .int y6), (7, .int (x7 + 1))]) (C _) dX11_line_303 rfl (by decide) (by decide) rfl ?_
      refine y_goto (tgt := 244) (C _) dX11_line_306 (by decide) ?_
      refine q_sub [0, 1, 2, 3, 4, 5, 6] rfl ?_
      exact ih _ _ h
    · refine y_aload_n (C _) dX11_line_255 rfl 0 rfl ?_
      refine y_iload (C _) dX11_line_256 4 rfl ?_
      refine y_bipush (v := 8) (C _) dX11_line_258 (by decide) ?_
      refine y_icmp_ne (tgt := 267) (C _) dX11_line_260 (by decide) h (fun c h => ?_) (fun c h => ?_)
      · refine y_iload (C _) dX11_line_267 4 rfl ?_
        refine y_iload (C _) dX11_line_269 6 rfl ?_
        obtain ⟨r_26, T_25, hc, h⟩ := bd_some h
        refine y_callV (st' := [.int r_26]) (C _) dX11_line_271 [.int y5, .int x7] [] (mtX11_moves l _ n _ _ _ _ _ hc) gX11_line_X11_moves rfl hd_X11_moves (by decide) (by decide) (wE_41 _ _) rfl rfl rfl (Nat.le_of_ble_eq_true rfl) rfl ?_
        clear hc
        refine y_aload_n (C _) dX11_line_274 rfl 0 rfl ?_
        refine y_get (j := 36) (C _) dX11_line_275 (wE_41 _ _) rfl (by decide) rfl inn_X11_line_11 (by decide +kernel) rfl ?_
        refine y_iload (C _) dX11_line_278 3 rfl ?_
        refine y_iconst (v := 1) (C _) dX11_line_280 (by decide) ?_
        refine y_iload (C _) dX11_line_281 6 rfl ?_
        refine y_ishl (C _) dX11_line_283 ?_
        refine y_ior (C _) dX11_line_284 ?_
        refine y_aald (C _) dX11_line_285 (wE_61 _ _) h (fun h => ?_)
        refine y_iload (C _) dX11_line_286 6 rfl ?_
        refine y_ialdG (C _) dX11_line_288 h (fun h => ?_)
        refine y_iadd (C _) dX11_line_289 ?_
        refine y_aload_n (C _) dX11_line_290 rfl 0 rfl ?_
        refine y_get (j := 36) (C _) dX11_line_291 (wE_41 _ _) rfl (by decide) rfl inn_X11_line_11 (by decide +kernel) rfl ?_
        refine y_iload (C _) dX11_line_294 3 rfl ?_
        refine y_aald (C _) dX11_line_296 (wE_61 _ _) h (fun h => ?_)
        refine y_iload (C _) dX11_line_297 4 rfl ?_
        refine y_ialdG (C _) dX11_line_299 h (fun h => ?_)
        refine y_icmp_eq (tgt := 309) (C _) dX11_line_300 (by decide) h (fun c h => ?_) (fun c h => ?_)
        · refine q_sub [0, 1, 2, 3, 5, 6] rfl ?_
          exact hk _ _ h
        · refine y_iinc (j := 6) (v := 1) (lv' := [(0, .ref (ad k.1 41)), (2, .int y2), (3, .ref a), (4, .int y4), (5, .int y5), (6, .int y6), (7, .int (x7 + 1))]) (C _) dX11_line_303 rfl (by decide) (by decide) rfl ?_
          refine y_goto (tgt := 244) (C _) dX11_line_306 (by decide) ?_
          refine q_sub [0, 1, 2, 3, 4, 5, 6] rfl ?_
          exact ih _ _ h
      · refine y_iconst (v := -1) (C _) dX11_line_263 (by decide) ?_
        refine y_goto (tgt := 269) (C _) dX11_line_264 (by decide) ?_
        refine y_iload (C _) dX11_line_269 6 rfl ?_
        obtain ⟨r_28, T_27, hc, h⟩ := bd_some h
        refine y_callV (st' := [.int r_28]) (C _) dX11_line_271 [.int (-1 : Int32), .int x7] [] (mtX11_moves l _ n _ _ _ _ _ hc) gX11_line_X11_moves rfl hd_X11_moves (by decide) (by decide) (wE_41 _ _) rfl rfl rfl (Nat.le_of_ble_eq_true rfl) rfl ?_
        clear hc
        refine y_aload_n (C _) dX11_line_274 rfl 0 rfl ?_
        refine y_get (j := 36) (C _) dX11_line_275 (wE_41 _ _) rfl (by decide) rfl inn_X11_line_11 (by decide +kernel) rfl ?_
        refine y_iload (C _) dX11_line_278 3 rfl ?_
        refine y_iconst (v := 1) (C _) dX11_line_280 (by decide) ?_
        refine y_iload (C _) dX11_line_281 6 rfl ?_
        refine y_ishl (C _) dX11_line_283 ?_
        refine y_ior (C _) dX11_line_284 ?_
        refine y_aald (C _) dX11_line_285 (wE_61 _ _) h (fun h => ?_)
        refine y_iload (C _) dX11_line_286 6 rfl ?_
        refine y_ialdG (C _) dX11_line_288 h (fun h => ?_)
        refine y_iadd (C _) dX11_line_289 ?_
        refine y_aload_n (C _) dX11_line_290 rfl 0 rfl ?_
        refine y_get (j := 36) (C _) dX11_line_291 (wE_41 _ _) rfl (by decide) rfl inn_X11_line_11 (by decide +kernel) rfl ?_
        refine y_iload (C _) dX11_line_294 3 rfl ?_
        refine y_aald (C _) dX11_line_296 (wE_61 _ _) h (fun h => ?_)
        refine y_iload (C _) dX11_line_297 4 rfl ?_
        refine y_ialdG (C _) dX11_line_299 h (fun h => ?_)
        refine y_icmp_eq (tgt := 309) (C _) dX11_line_300 (by decide) h (fun c h => ?_) (fun c h => ?_)
        · refine q_sub [0, 1, 2, 3, 5, 6] rfl ?_
          exact hk _ _ h
        · refine y_iinc (j := 6) (v := 1) (lv' := [(0, .ref (ad k.1 41)), (2, .int y2), (3, .ref a), (4, .int y4), (5, .int y5), (6, .int y6), (7, .int (x7 + 1))]) (C _) dX11_line_303 rfl (by decide) (by decide) rfl ?_
          refine y_goto (tgt := 244) (C _) dX11_line_306 (by decide) ?_
          refine q_sub [0, 1, 2, 3, 4, 5, 6] rfl ?_
          exact ih _ _ h
def fX11_line_L232 (n : Nat) (y2 : Int32) (kk : (Nat → Int32) → TS → Option (Int32 × TS)) : Nat → Int32 → Int32 → Int32 → (Nat → Int32) → TS → Option (Int32 × TS)
  | 0, _, _, _, _, _ => none
  | fuel + 1, x4, x5, x6, x100, T => if (gI T 2067) ≤ x6 then kk x100 T else fX11_line_L244 n y2 x4 x5 x6 x100 (fun e7_29 T_30 => ck x6 8 (nm (upd x100 (Int32.toNatClampNeg x6) e7_29) (fun o_31 => nm (x4 ||| ((1 : Int32) <<< (e7_29 &&& 31))) (fun x4_32 => fX11_line_L232 n y2 kk fuel x4_32 e7_29 (x6 + 1) o_31 T_30)))) n (0 : Int32) T
set_option maxHeartbeats 4000000 in
set_option maxRecDepth 100000 in
theorem lpX11_line_L232 {l : Launch} {k : KT} {n : Nat} {P : Heap → List Loc → JFrame → Prop} {a : Nat} {X0 : XT} {y2 : Int32} {kk : (Nat → Int32) → TS → Option (Int32 × TS)} {r : Int32} {T' : TS} (C : ∀ f, CY l (kx k P a f) 8 cX11_line RX11 wsX11_line 2 (some .int) (RN 2 1 8) 1 8 (fun below args s => MQ below (QQ X0 (some (.int r)) T') args s 1 8 (xA X0))) (hX : X0 = k.1) (hk : ∀ e100 T1, kk e100 T1 = some (r, T') → GW (kx k P a e100) T1 334 [(0, .ref (ad k.1 41)), (2, .int y2), (3, .ref a)] []) : ∀ (fuel : Nat) (x4 : Int32) (x5 : Int32) (x6 : Int32) (x100 : (Nat → Int32)) (T : TS), fX11_line_L232 n y2 kk fuel x4 x5 x6 x100 T = some (r, T') → GW (kx k P a x100) T 232 [(0, .ref (ad k.1 41)), (2, .int y2), (3, .ref a), (4, .int x4), (5, .int x5), (6, .int x6)] [] := by
  intro fuel
  induction fuel with
  | zero => intro x4 x5 x6 x100 T h; cases h
  | succ fuel ih =>
    intro x4 x5 x6 x100 T h
    rw [fX11_line_L232] at h
    refine y_iload (C _) dX11_line_232 5 rfl ?_
    refine y_aload_n (C _) dX11_line_234 rfl 0 rfl ?_
    refine y_get (j := 17) (C _) dX11_line_235 (wE_41 _ _) rfl (by decide) rfl inn_X11_line_11 (by decide +kernel) rfl ?_
    refine y_icmp_ge (tgt := 334) (C _) dX11_line_238 (by decide) h (fun c h => ?_) (fun c h => ?_)
    · refine q_sub [0, 1, 2] rfl ?_
      exact hk _ _ h
    · refine y_iconst (v := 0) (C _) dX11_line_241 (by decide) ?_
      refine y_istore (lv' := [(0, .ref (ad k.1 41)), (2, .int y2), (3, .ref a), (4, .int x4), (5, .int x5), (6, .int x6), (7, .int (0 : Int32))]) (C _) dX11_line_242 (by decide) rfl ?_
      refine q_sub [0, 1, 2, 3, 4, 5, 6] rfl ?_
      refine lpX11_line_L244 C hX (fun e7_29 T_30 h => ?_) _ _ _ h
      refine y_aload_n (C _) dX11_line_309 rfl 2 rfl ?_
      refine y_iload (C _) dX11_line_310 4 rfl ?_
      refine y_iload (C _) dX11_line_312 5 rfl ?_
      refine y_iastN C dX11_line_314 h (fun o_31 h => ?_)
      refine y_iload (C _) dX11_line_315 3 rfl ?_
      refine y_iconst (v := 1) (C _) dX11_line_317 (by decide) ?_
      refine y_iload (C _) dX11_line_318 5 rfl ?_
      refine y_ishl (C _) dX11_line_320 ?_
      refine y_ior (C _) dX11_line_321 ?_
      refine q_nm h (fun x4_32 h => ?_)
      refine y_istore (lv' := [(0, .ref (ad k.1 41)), (2, .int y2), (3, .ref a), (4, .int x4_32), (6, .int x6), (7, .int e7_29)]) (C _) dX11_line_322 (by decide) rfl ?_
      refine y_iload (C _) dX11_line_324 5 rfl ?_
      refine y_istore (lv' := [(0, .ref (ad k.1 41)), (2, .int y2), (3, .ref a), (4, .int x4_32), (5, .int e7_29), (6, .int x6), (7, .int e7_29)]) (C _) dX11_line_326 (by decide) rfl ?_
      refine y_iinc (j := 5) (v := 1) (lv' := [(0, .ref (ad k.1 41)), (2, .int y2), (3, .ref a), (4, .int x4_32), (5, .int e7_29), (6, .int (x6 + 1)), (7, .int e7_29)]) (C _) dX11_line_328 rfl (by decide) (by decide) rfl ?_
      refine y_goto (tgt := 232) (C _) dX11_line_331 (by decide) ?_
      refine q_sub [0, 1, 2, 3, 4, 5] rfl ?_
      exact ih _ _ _ _ _ h
def fX11_line_L349 (n : Nat) (y2 : Int32) (y6 : Int32) (y100 : Nat → Int32) (kk : TS → Option (Int32 × TS)) : Nat → Int32 → TS → Option (Int32 × TS)
  | 0, _, _ => none
  | fuel + 1, x7, T => if (6 : Int32) ≤ x7 then kk T else ck y6 60 (ck y6 8 (ck (y100 (Int32.toNatClampNeg y6)) 60 (ak (gO T 50 (Int32.toNatClampNeg (y100 (Int32.toNatClampNeg y6)))) (ck x7 (al (gO T 50 (Int32.toNatClampNeg (y100 (Int32.toNatClampNeg y6))))) (ak (gO T 48 (Int32.toNatClampNeg y6)) (ck x7 (al (gO T 48 (Int32.toNatClampNeg y6))) (nm (sA T (gO T 48 (Int32.toNatClampNeg y6)) x7 (gA T (gO T 50 (Int32.toNatClampNeg (y100 (Int32.toNatClampNeg y6)))) (Int32.toNatClampNeg x7))) (fun T_35 => fX11_line_L349 n y2 y6 y100 kk fuel (x7 + 1) T_35))))))))
set_option maxHeartbeats 4000000 in
set_option maxRecDepth 100000 in
theorem lpX11_line_L349 {l : Launch} {k : KT} {n : Nat} {P : Heap → List Loc → JFrame → Prop} {a : Nat} {X0 : XT} {y2 : Int32} {y6 : Int32} {y100 : Nat → Int32} {kk : TS → Option (Int32 × TS)} {r : Int32} {T' : TS} (C : ∀ f, CY l (kx k P a f) 8 cX11_line RX11 wsX11_line 2 (some .int) (RN 2 1 8) 1 8 (fun below args s => MQ below (QQ X0 (some (.int r)) T') args s 1 8 (xA X0))) (hX : X0 = k.1) (hk : ∀ T1, kk T1 = some (r, T') → GW (kx k P a y100) T1 384 [(0, .ref (ad k.1 41)), (2, .int y2), (3, .ref a), (6, .int y6)] []) : ∀ (fuel : Nat) (x7 : Int32) (T : TS), fX11_line_L349 n y2 y6 y100 kk fuel x7 T = some (r, T') → GW (kx k P a y100) T 349 [(0, .ref (ad k.1 41)), (2, .int y2), (3, .ref a), (6, .int y6), (7, .int x7)] [] := by
  intro fuel
  induction fuel with
  | zero => intro x7 T h; cases h
  | succ fuel ih =>
    intro x7 T h
    rw [fX11_line_L349] at h
    refine y_iload (C _) dX11_line_349 4 rfl ?_
    refine y_bipush (v := 6) (C _) dX11_line_351 (by decide) ?_
    refine y_icmp_ge (tgt := 384) (C _) dX11_line_353 (by decide) h (fun c h => ?_) (fun c h => ?_)
    · refine q_sub [0, 1, 2, 3] rfl ?_
      exact hk _ h
    · refine y_aload_n (C _) dX11_line_356 rfl 0 rfl ?_
      refine y_get (j := 18) (C _) dX11_line_357 (wE_41 _ _) rfl (by decide) rfl inn_X11_line_11 (by decide +kernel) rfl ?_
      refine y_iload (C _) dX11_line_360 3 rfl ?_
      refine y_aald (C _) dX11_line_362 (wE_48 _ _) h (fun h => ?_)
      refine y_iload (C _) dX11_line_363 4 rfl ?_
      refine y_aload_n (C _) dX11_line_365 rfl 0 rfl ?_
      refine y_get (j := 21) (C _) dX11_line_366 (wE_41 _ _) rfl (by decide) rfl inn_X11_line_11 (by decide +kernel) rfl ?_
      refine y_aload_n (C _) dX11_line_369 rfl 2 rfl ?_
      refine y_iload (C _) dX11_line_370 3 rfl ?_
      refine y_ialdN (C _) dX11_line_372 h (fun h => ?_)
      refine y_aald (C _) dX11_line_373 (wE_50 _ _) h (fun h => ?_)
      refine y_iload (C _) dX11_line_374 4 rfl ?_
      refine y_ialdG (C _) dX11_line_376 h (fun h => ?_)
      refine y_iastG (C _) dX11_line_377 h (fun T_35 h => ?_)
      refine y_iinc (j := 4) (v := 1) (lv' := [(0, .ref (ad k.1 41)), (2, .int y2), (3, .ref a), (6, .int y6), (7, .int (x7 + 1))]) (C _) dX11_line_378 rfl (by decide) (by decide) rfl ?_
      refine y_goto (tgt := 349) (C _) dX11_line_381 (by decide) ?_
      refine q_sub [0, 1, 2, 3, 4] rfl ?_
      exact ih _ _ h
def fX11_line_L337 (n : Nat) (y2 : Int32) (y100 : Nat → Int32) (kk : TS → Option (Int32 × TS)) : Nat → Int32 → TS → Option (Int32 × TS)
  | 0, _, _ => none
  | fuel + 1, x6, T => if (gI T 2067) ≤ x6 then kk T else fX11_line_L349 n y2 x6 y100 (fun T_36 => ck x6 8 (ck (y100 (Int32.toNatClampNeg x6)) 60 (ck x6 60 (nm (sA T_36 49 x6 (gA T_36 51 (Int32.toNatClampNeg (y100 (Int32.toNatClampNeg x6))))) (fun T_37 => fX11_line_L337 n y2 y100 kk fuel (x6 + 1) T_37))))) n (0 : Int32) T
set_option maxHeartbeats 4000000 in
set_option maxRecDepth 100000 in
theorem lpX11_line_L337 {l : Launch} {k : KT} {n : Nat} {P : Heap → List Loc → JFrame → Prop} {a : Nat} {X0 : XT} {y2 : Int32} {y100 : Nat → Int32} {kk : TS → Option (Int32 × TS)} {r : Int32} {T' : TS} (C : ∀ f, CY l (kx k P a f) 8 cX11_line RX11 wsX11_line 2 (some .int) (RN 2 1 8) 1 8 (fun below args s => MQ below (QQ X0 (some (.int r)) T') args s 1 8 (xA X0))) (hX : X0 = k.1) (hk : ∀ T1, kk T1 = some (r, T') → GW (kx k P a y100) T1 406 [(2, .int y2)] []) : ∀ (fuel : Nat) (x6 : Int32) (T : TS), fX11_line_L337 n y2 y100 kk fuel x6 T = some (r, T') → GW (kx k P a y100) T 337 [(0, .ref (ad k.1 41)), (2, .int y2), (3, .ref a), (6, .int x6)] [] := by
  intro fuel
  induction fuel with
  | zero => intro x6 T h; cases h
  | succ fuel ih =>
    intro x6 T h
    rw [fX11_line_L337] at h
    refine y_iload (C _) dX11_line_337 3 rfl ?_
    refine y_aload_n (C _) dX11_line_339 rfl 0 rfl ?_
    refine y_get (j := 17) (C _) dX11_line_340 (wE_41 _ _) rfl (by decide) rfl inn_X11_line_11 (by decide +kernel) rfl ?_
    refine y_icmp_ge (tgt := 406) (C _) dX11_line_343 (by decide) h (fun c h => ?_) (fun c h => ?_)
    · refine q_sub [1] rfl ?_
      exact hk _ h
    · refine y_iconst (v := 0) (C _) dX11_line_346 (by decide) ?_
      refine y_istore (lv' := [(0, .ref (ad k.1 41)), (2, .int y2), (3, .ref a), (6, .int x6), (7, .int (0 : Int32))]) (C _) dX11_line_347 (by decide) rfl ?_
      refine q_sub [0, 1, 2, 3, 4] rfl ?_
      refine lpX11_line_L349 C hX (fun T_36 h => ?_) _ _ _ h
      refine y_aload_n (C _) dX11_line_384 rfl 0 rfl ?_
      refine y_get (j := 19) (C _) dX11_line_385 (wE_41 _ _) rfl (by decide) rfl inn_X11_line_11 (by decide +kernel) rfl ?_
      refine y_iload (C _) dX11_line_388 3 rfl ?_
      refine y_aload_n (C _) dX11_line_390 rfl 0 rfl ?_
      refine y_get (j := 22) (C _) dX11_line_391 (wE_41 _ _) rfl (by decide) rfl inn_X11_line_11 (by decide +kernel) rfl ?_
      refine y_aload_n (C _) dX11_line_394 rfl 2 rfl ?_
      refine y_iload (C _) dX11_line_395 3 rfl ?_
      refine y_ialdN (C _) dX11_line_397 h (fun h => ?_)
      refine y_iald (C _) dX11_line_398 (wE_51 _ _) h (fun h => ?_)
      refine y_iast (C _) dX11_line_399 (wE_49 _ _) (wS_49 _ _) h (fun T_37 h => ?_)
      refine y_iinc (j := 3) (v := 1) (lv' := [(0, .ref (ad k.1 41)), (2, .int y2), (3, .ref a), (6, .int (x6 + 1))]) (C _) dX11_line_400 rfl (by decide) (by decide) rfl ?_
      refine y_goto (tgt := 337) (C _) dX11_line_403 (by decide) ?_
      refine q_sub [0, 1, 2, 3] rfl ?_
      exact ih _ _ h
def fX11_line (n : Nat) (T : TS) : Option (Int32 × TS) := nm (uI T 2050 (0 : Int32)) (fun T_1 => if (gI T_1 2067) ≤ (8 : Int32) then nm ((1 : Int32) <<< ((gI T_1 2067) &&& 31)) (fun x1_2 => nm (x1_2 - (1 : Int32)) (fun x2_3 => fX11_line_L27 n x1_2 (fun T_21 => if ¬ (gI T_21 2067) = 0 then ck (0 : Int32) 256 (ak (gO T_21 61 (Int32.toNatClampNeg (0 : Int32))) (ck (8 : Int32) (al (gO T_21 61 (Int32.toNatClampNeg (0 : Int32)))) (nm (gA T_21 (gO T_21 61 (Int32.toNatClampNeg (0 : Int32))) (Int32.toNatClampNeg (8 : Int32))) (fun x2_22 => bv (fX11_copy_48_49_50_51 n (gI T_21 2067) T_21) (fun T_23 => fX11_line_L232 n x2_22 (fun e100_33 T_34 => fX11_line_L337 n x2_22 e100_33 (fun T_38 => some (x2_22, T_38)) n (0 : Int32) T_34) n (0 : Int32) (8 : Int32) (0 : Int32) (fun _ => 0) T_23))))) else some ((0 : Int32), T_21)) n x2_3 T_1)) else some ((-1 : Int32), T_1))
set_option maxHeartbeats 4000000 in
set_option maxRecDepth 100000 in
theorem mtX11_line (l : Launch) (X : XT) (n : Nat) (T T' : TS) (r : Int32) (h : fX11_line n T = some (r, T')) : Met l yX11_line wsX11_line (RN 2 1 8) (PreX X [.ref (ad X 41)] T) (QQ X (some (.int r)) T') 1 8 (xA X) := by
  refine y_start (by decide) rfl (Nat.le_of_ble_eq_true rfl) ?_
  intro k hk C
  subst hk
  have hX : k.1 = k.1 := rfl
  show GW k T 0 [(0, .ref (ad k.1 41))] []
  unfold fX11_line at h
  refine y_aload_n C dX11_line_0 rfl 0 rfl ?_
  refine y_iconst (v := 0) C dX11_line_1 (by decide) ?_
  refine y_putI (j := 0) (ty := .int) C dX11_line_2 (wE_41 _ _) (wP_41_0 _ _ _) rfl (by decide) (Nat.le_of_ble_eq_true rfl) tyX11 tyX11_ok nmX11 inn_X11_line_11 (by decide +kernel) rfl rfl (by decide +kernel) rfl rfl h (fun T_1 h => ?_)
  refine y_aload_n C dX11_line_5 rfl 0 rfl ?_
  refine y_get (j := 17) C dX11_line_6 (wE_41 _ _) rfl (by decide) rfl inn_X11_line_11 (by decide +kernel) rfl ?_
  refine y_bipush (v := 8) C dX11_line_9 (by decide) ?_
  refine y_icmp_le (tgt := 16) C dX11_line_11 (by decide) h (fun c h => ?_) (fun c h => ?_)
  · refine y_iconst (v := 1) C dX11_line_16 (by decide) ?_
    refine y_aload_n C dX11_line_17 rfl 0 rfl ?_
    refine y_get (j := 17) C dX11_line_18 (wE_41 _ _) rfl (by decide) rfl inn_X11_line_11 (by decide +kernel) rfl ?_
    refine y_ishl C dX11_line_21 ?_
    refine q_nm h (fun x1_2 h => ?_)
    refine y_istore_n (lv' := [(0, .ref (ad k.1 41)), (1, .int x1_2)]) C dX11_line_22 rfl (by decide) rfl ?_
    refine y_iload_n C dX11_line_23 rfl 1 rfl ?_
    refine y_iconst (v := 1) C dX11_line_24 (by decide) ?_
    refine y_isub C dX11_line_25 ?_
    refine q_nm h (fun x2_3 h => ?_)
    refine y_istore_n (lv' := [(0, .ref (ad k.1 41)), (1, .int x1_2), (2, .int x2_3)]) C dX11_line_26 rfl (by decide) rfl ?_
    refine q_sub [0, 1, 2] rfl ?_
    refine lpX11_line_L27 C hX (fun T_21 h => ?_) _ _ _ h
    refine y_aload_n C dX11_line_175 rfl 0 rfl ?_
    refine y_get (j := 17) C dX11_line_176 (wE_41 _ _) rfl (by decide) rfl inn_X11_line_11 (by decide +kernel) rfl ?_
    refine y_if_ne (tgt := 184) C dX11_line_179 (by decide) h (fun c h => ?_) (fun c h => ?_)
    · refine y_aload_n C dX11_line_184 rfl 0 rfl ?_
      refine y_get (j := 36) C dX11_line_185 (wE_41 _ _) rfl (by decide) rfl inn_X11_line_11 (by decide +kernel) rfl ?_
      refine y_iconst (v := 0) C dX11_line_188 (by decide) ?_
      refine y_aald C dX11_line_189 (wE_61 _ _) h (fun h => ?_)
      refine y_bipush (v := 8) C dX11_line_190 (by decide) ?_
      refine y_ialdG C dX11_line_192 h (fun h => ?_)
      refine q_nm h (fun x2_22 h => ?_)
      refine y_istore_n (lv' := [(0, .ref (ad k.1 41)), (2, .int x2_22)]) C dX11_line_193 rfl (by decide) rfl ?_
      refine y_aload_n C dX11_line_194 rfl 0 rfl ?_
      refine y_get (j := 18) C dX11_line_195 (wE_41 _ _) rfl (by decide) rfl inn_X11_line_11 (by decide +kernel) rfl ?_
      refine y_aload_n C dX11_line_198 rfl 0 rfl ?_
      refine y_get (j := 19) C dX11_line_199 (wE_41 _ _) rfl (by decide) rfl inn_X11_line_11 (by decide +kernel) rfl ?_
      refine y_aload_n C dX11_line_202 rfl 0 rfl ?_
      refine y_get (j := 17) C dX11_line_203 (wE_41 _ _) rfl (by decide) rfl inn_X11_line_11 (by decide +kernel) rfl ?_
      refine y_aload_n C dX11_line_206 rfl 0 rfl ?_
      refine y_get (j := 21) C dX11_line_207 (wE_41 _ _) rfl (by decide) rfl inn_X11_line_11 (by decide +kernel) rfl ?_
      refine y_aload_n C dX11_line_210 rfl 0 rfl ?_
      refine y_get (j := 22) C dX11_line_211 (wE_41 _ _) rfl (by decide) rfl inn_X11_line_11 (by decide +kernel) rfl ?_
      obtain ⟨T_23, hc, h⟩ := bv_some h
      refine y_callS (st' := []) C dX11_line_214 [.ref (ad k.1 48), .ref (ad k.1 49), .int (gI T_21 2067), .ref (ad k.1 50), .ref (ad k.1 51)] [] (mtX11_copy_48_49_50_51 l _ n _ _ _ hc) gX11_line_X11_copy rfl hd_X11_copy (by decide) (by decide) rfl rfl (Nat.le_of_ble_eq_true rfl) rfl ?_
      clear hc
      refine y_bipush (v := 8) C dX11_line_217 (by decide) ?_
      refine y_newa (a0 := 0) (P := fun _ _ _ _ => True) C dX11_line_219 (by decide +kernel) (by decide) (by decide) (fun P a C => ?_)
      refine y_astore_n (lv' := [(0, .ref (ad k.1 41)), (2, .int x2_22), (3, .ref a)]) (C _) dX11_line_221 rfl (by decide) rfl ?_
      refine y_iconst (v := 0) (C _) dX11_line_222 (by decide) ?_
      refine y_istore (lv' := [(0, .ref (ad k.1 41)), (2, .int x2_22), (3, .ref a), (4, .int (0 : Int32))]) (C _) dX11_line_223 (by decide) rfl ?_
      refine y_bipush (v := 8) (C _) dX11_line_225 (by decide) ?_
      refine y_istore (lv' := [(0, .ref (ad k.1 41)), (2, .int x2_22), (3, .ref a), (4, .int (0 : Int32)), (5, .int (8 : Int32))]) (C _) dX11_line_227 (by decide) rfl ?_
      refine y_iconst (v := 0) (C _) dX11_line_229 (by decide) ?_
      refine y_istore (lv' := [(0, .ref (ad k.1 41)), (2, .int x2_22), (3, .ref a), (4, .int (0 : Int32)), (5, .int (8 : Int32)), (6, .int (0 : Int32))]) (C _) dX11_line_230 (by decide) rfl ?_
      refine q_sub [0, 1, 2, 3, 4, 5] rfl ?_
      refine lpX11_line_L232 C hX (fun e100_33 T_34 h => ?_) _ _ _ _ _ _ h
      refine y_iconst (v := 0) (C _) dX11_line_334 (by decide) ?_
      refine y_istore (lv' := [(0, .ref (ad k.1 41)), (2, .int x2_22), (3, .ref a), (6, .int (0 : Int32))]) (C _) dX11_line_335 (by decide) rfl ?_
      refine q_sub [0, 1, 2, 3] rfl ?_
      refine lpX11_line_L337 C hX (fun T_38 h => ?_) _ _ _ h
      refine y_iload_n (C _) dX11_line_406 rfl 0 rfl ?_
      exact y_ireturn (C _) (fun H h1 h2 => by rw [hX]; exact drop_add _ _ _ _ _ h1 h2) (by rw [hX]; rfl) (by decide) (by decide) dX11_line_407 h
    · refine y_iconst (v := 0) C dX11_line_182 (by decide) ?_
      exact y_ireturn C (fun H h1 h2 => by rw [hX]; exact ⟨h1, h2⟩) (by rw [hX]) (by decide) (by decide) dX11_line_183 h
  · refine y_iconst (v := -1) C dX11_line_14 (by decide) ?_
    exact y_ireturn C (fun H h1 h2 => by rw [hX]; exact ⟨h1, h2⟩) (by rw [hX]) (by decide) (by decide) dX11_line_15 h
