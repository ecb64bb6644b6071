/-! ===== line, of both ===== -/
theorem ck0r {z : Option (Int32 × TS)} : ck (0 : Int32) 256 z = z := ck_nI (j := 0) (by decide) (by decide)
theorem ck8r {z : Option (Int32 × TS)} : ck (8 : Int32) 9 z = z := ck_nI (j := 8) (by decide) (by decide)
theorem cl8 : Int32.toNatClampNeg 8 = 8 := by decide
theorem eq_line {n c : Nat} {T : TS} (hn : 10000 ≤ n) (hI : Inv c T) : Both c (fX10_line n) (fX11_line n) T := by
  have hM := hI.1
  have hS := hI.2.1
  have hL := hI.2.2.2.2.2.1
  have hGX := hI.2.2.2.1
  have h60 := hS.2.2.1
  unfold Both
  rcases Nat.lt_or_ge 8 (vns T) with h | h8
  · refine ⟨-1, T, uI T 2050 0, ?_, ?_, hI.th⟩
    · unfold fX10_line
      rw [hS.1, if_neg (show ¬ nI (vns T) ≤ (8 : Int32) from nI_ge (a := 8) h (by omega))]
    · unfold fX11_line
      simp only [nm]
      rw [show gI (uI T 2050 0) 2067 = nI (vns T) from hS.2.1.trans hS.1, if_neg (show ¬ nI (vns T) ≤ (8 : Int32) from nI_ge (a := 8) h (by omega))]
  · have hp := pw8 h8
    have hm := mvT_le hM hS
    have hX := hGX.2.2.2
    obtain ⟨V, v1, v2, v3, v4⟩ := line_c (n := n) hn hM hS hL h8
    generalize hU : uI V 2050 (0 : Int32) = U
    have fVU : FR [2050] [] 0 0 V U := by rw [← hU]; exact FR.uI (by decide)
    have fU : FR [1300, 1100, 1200, 850, 550, 2050] [27, 28, 29, 23, 25, 18, 19, 12, 13] 0 0 T U := (v2.mono (by decide) (by decide) (fun _ => by omega)).trans (fVU.mono (by decide) (by decide) (fun _ => by omega))
    have hRL : RfL T U := by
      refine ⟨hM.fr fU (by decide) (by decide), by unfold vd; rw [fU.I (by decide)], ctT_fr fU (by decide) (by decide), (fU.I (by decide)).trans (hS.2.1.trans hS.1), fU.O, fun s hs i hi => ?_, fU.I (by decide), fU.A (by decide) (by decide)⟩
      have := hS.2.2.2.2.1 s (by omega)
      rw [fU.A (fun z => by simp only [List.mem_cons, List.not_mem_nil, or_false] at z; omega) (by omega)]
      exact (hS.2.2.2.1 s hs).2.2.1 i hi
    have pU : InvP (c + 1) U := hI.p.fr (Nat.le_succ c) fU (by decide) (by decide) (Or.inr (Or.inr (Nat.le_refl 0))) (by decide)
    obtain ⟨W, w1, w2, w3, w4⟩ := r27 (n := n) hn hM hS hL h8 hRL hX
    have hRW : RfL T W := hRL.fr hS w1 (by decide) (Or.inl (by omega))
    have pW : InvP (c + 1) W := pU.fr (Nat.le_refl _) w1 (by decide) (by decide) (Or.inr (Or.inl (by omega))) (by decide)
    have top : fX11_line n V = if ¬ nI (vns T) = 0 then bv (fX11_copy_48_49_50_51 n (nI (vns T)) W) (fun T_23 => fX11_line_L232 n (nI (lvT T 0 0)) (fun e100_33 T_34 => fX11_line_L337 n (nI (lvT T 0 0)) e100_33 (fun T_38 => some (nI (lvT T 0 0), T_38)) n (0 : Int32) T_34) n (0 : Int32) (8 : Int32) (0 : Int32) (fun _ => 0) T_23) else some ((0 : Int32), W) := by
      unfold fX11_line
      simp only [nm]
      rw [hU, hRL.2.2.2.1, if_pos (show nI (vns T) ≤ (8 : Int32) from nI_le (b := 8) h8 (by decide)), shl_nI (by omega), congrFun w4, hRW.2.2.2.1, ck0r, cl0, hRW.2.2.2.2.1, hX 0 (by decide), ak_row (by omega) (by omega), al_9 (by omega), ck8r, cl8, w3]
    rcases Nat.eq_zero_or_pos (vns T) with hz | hz
    · have l0 : lvT T 0 0 = 0 := lv_full (by rw [hz]) 0
      refine ⟨nI (lvT T 0 0), V, W, v1, ?_, ?_⟩
      · rw [top, if_neg (show ¬ ¬ nI (vns T) = 0 from fun z => z (by rw [hz]; rfl)), l0]
        rfl
      · refine pW.gs (GS.of (D := (0, fun _ => 0, fun _ => 0)) ⟨Nat.zero_le _, fun k hk => absurd hk (Nat.not_lt_zero k)⟩ (fun k hk => absurd hk (Nat.not_lt_zero k)) ?_ ?_ (fun k hk => absurd hk (Nat.not_lt_zero k)) (fun k hk => absurd hk (Nat.not_lt_zero k)) pW.2.1.1 pW.2.1.2)
        · rw [w1.I (by decide), fVU.I (by decide), v3, hz]
        · rw [hRW.2.2.2.1, hz]
    · obtain ⟨X, x1, x2, x3⟩ := mcp_48_50 (n := n) (m := vns T) (T := W) hn h60 (by rw [hRW.2.2.2.2.1]; exact hS.2.2.2.2.1) (by rw [hRW.2.2.2.2.1]; intro s hs; rw [hGX.2.1 s hs]; omega) (by rw [hRW.2.2.2.2.1]; intro s t hs ht; rw [hGX.2.1 s hs, hGX.2.1 t ht]; omega)
      have hRX : RfL T X := hRW.fr hS x2 (by decide) (Or.inl (by omega))
      have pX : InvP (c + 1) X := pW.fr (Nat.le_refl _) x2 (by decide) (by decide) (Or.inl ⟨by omega, by omega⟩) (by decide)
      have tW : TB T W := ⟨w2, w3⟩
      obtain ⟨o, Y, y1, y2, y3⟩ := r232 (n := n) (y2 := nI (lvT T 0 0)) hn hM hS hL h8 hRX hX (tW.fr h8 x2 (by decide) (by omega))
      have hRY : RfL T Y := hRX.fr hS y1 (by decide) (Or.inr (by omega))
      have pY : InvP (c + 1) Y := pX.fr (Nat.le_refl _) y1 (by decide) (by decide) (Or.inr (Or.inr (Nat.le_refl 0))) (by decide)
      obtain ⟨Z, z1, z2, z3⟩ := r337 (n := n) (N := vns T) (U := Y) (y2 := nI (lvT T 0 0)) (o := o) (ts := tn (vns T) (mvT T)) hn h8 hRY.2.2.2.1 (fun p hp => ⟨tn_lt h8 hm hp, y2 p hp⟩) pY.2.1.1 pY.2.1.2 (by rw [hRY.2.2.2.2.1]; exact hGX.2.1)
      have pZ : InvP (c + 1) Z := pY.fr (Nat.le_refl _) z1 (by decide) (by decide) (Or.inl ⟨by omega, by omega⟩) (by decide)
      refine ⟨nI (lvT T 0 0), V, Z, v1, ?_, ?_⟩
      · rw [top, if_pos (show ¬ nI (vns T) = (0 : Int32) from fun z => by have := (nI_eq (a := vns T) (b := 0) (by omega) (by decide)).mp z; omega), x1]
        simp only [bv]
        rw [congrFun y3, congrFun z3]
      · have hrl : ∀ s, s < vns T → ∃ r, 1 ≤ r ∧ r ≤ 1000 ∧ gA T 13 s = nI r ∧ gA T 49 s = nI r ∧ (gA T 13 s).toNatClampNeg = r := fun s hs => by
          obtain ⟨a1, a2, a3, a4, r, a5, a6, a7⟩ := hS.2.2.2.1 s hs
          exact ⟨r, a5, a6, a7, a4.trans a7, by rw [a7, nI_clamp (by omega)]⟩
        have evd : vd Z = vd T := by unfold vd; rw [z1.I (by decide), y1.I (by decide), x2.I (by decide), w1.I (by decide), fU.I (by decide)]
        have eO : ∀ k, gO Z k = gO T k := fun k => (z1.O k).trans (hRY.2.2.2.2.1 k)
        have gU : ∀ k, k = 12 ∨ k = 13 → gA Z k = gA V k := fun k hk => by
          rw [z1.A (fun z => by simp only [List.mem_cons, List.not_mem_nil, or_false] at z; omega) (by omega), y1.A (fun z => by simp only [List.mem_cons, List.not_mem_nil, or_false] at z; omega) (by omega), x2.A (fun z => by simp only [List.mem_cons, List.not_mem_nil, or_false] at z; omega) (by omega), w1.A (fun z => by simp only [List.mem_cons, List.not_mem_nil, or_false] at z; omega) (by omega), fVU.A (fun z => by cases z) (by omega)]
        refine pZ.gs (GS.of (D := (vns T, fun k => vcs T (tn (vns T) (mvT T) k), fun k => (gA T 13 (tn (vns T) (mvT T) k)).toNatClampNeg)) ⟨h60, fun k hk => ?_⟩ (fun k hk => ?_) ?_ ?_ (fun k hk => ?_) (fun k hk => ?_) pZ.2.1.1 pZ.2.1.2)
        · have hlt := tn_lt (mv := mvT T) h8 hm hk
          obtain ⟨r, r1, r2, r3, r4, r5⟩ := hrl _ hlt
          refine ⟨by rw [evd]; exact (hS.2.2.2.1 _ hlt).2.1, ?_⟩
          show 1 ≤ (gA T 13 (tn (vns T) (mvT T) k)).toNatClampNeg
          omega
        · have hlt := tn_lt (mv := mvT T) h8 hm hk
          obtain ⟨r, r1, r2, r3, r4, r5⟩ := hrl _ hlt
          show (gA T 13 (tn (vns T) (mvT T) k)).toNatClampNeg ≤ 1000
          omega
        · rw [z1.I (by decide), y1.I (by decide), x2.I (by decide), w1.I (by decide), fVU.I (by decide), v3]
        · rw [z1.I (by decide)]
          exact hRY.2.2.2.1
        · have hlt := tn_lt (mv := mvT T) h8 hm hk
          obtain ⟨r, r1, r2, r3, r4, r5⟩ := hrl _ hlt
          have q := v4 k hk
          rw [gU 12 (Or.inl rfl), gU 13 (Or.inr rfl), q.1, q.2]
          refine ⟨(hS.2.2.2.1 _ hlt).1, ?_⟩
          show gA T 13 (tn (vns T) (mvT T) k) = nI (gA T 13 (tn (vns T) (mvT T) k)).toNatClampNeg
          rw [r5, r3]
        · have hlt := tn_lt (mv := mvT T) h8 hm hk
          obtain ⟨r, r1, r2, r3, r4, r5⟩ := hrl _ hlt
          have q := z2 k hk
          have q2 := x3 _ hlt
          rw [hRY.2.2.2.2.1] at q
          rw [hRW.2.2.2.2.1, hRW.2.2.2.2.1, hGX.2.1 _ (show tn (vns T) (mvT T) k < 60 by omega)] at q2
          constructor
          · intro i hi
            rw [eO, q.1 i hi, y1.A (fun z => by simp only [List.mem_cons, List.not_mem_nil, or_false] at z; omega) (by omega), q2.1 i hi]
            exact hRW.2.2.2.2.2.1 _ hlt i hi
          · show gA Z 49 k = nI (gA T 13 (tn (vns T) (mvT T) k)).toNatClampNeg
            rw [q.2, y1.A (k := 51) (by decide) (by decide), q2.2, w1.A (k := 49) (by decide) (by decide), fU.A (k := 49) (by decide) (by decide), r4, r5]
