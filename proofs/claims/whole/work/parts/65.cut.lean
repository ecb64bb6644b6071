/-! ===== cut ===== -/
def cct (n : Nat) (p0 p1 p2 : Int32) (T_1 : TS) : Option (Int32 × TS) := ck p0 60 (nm (gA T_1 12 (Int32.toNatClampNeg p0)) (fun x5_3 => ck p1 8 (nm (gA T_1 37 (Int32.toNatClampNeg p1)) (fun x6_4 => bd (fX10_quotient n p2 (gI T_1 14) T_1) (fun r_6 T_5 => bd (fX9_takeRoll n p1 p2 (gI T_5 14) T_5) (fun r_8 T_7 => bv (fX6_addDone n x5_3 r_6 T_7) (fun T_9 => nm (uJ T_9 0 ((gJ T_9 0) + ((Int32.toInt64 (gI T_9 50)) * (Int32.toInt64 x6_4)))) (fun T_11 => bd (fX4_spanOf n x5_3 T_11) (fun r_13 T_12 => nm (uJ T_12 1 ((gJ T_11 1) + (((Int32.toInt64 (gI T_11 14)) * (Int32.toInt64 r_6)) * (Int32.toInt64 r_13)))) (fun T_14 => nm (uJ T_14 2 ((gJ T_14 2) + ((Int32.toInt64 (gI T_14 50)) * (Int32.toInt64 r_8)))) (fun T_15 => nm (uJ T_15 3 ((gJ T_15 3) + (1 : Int64))) (fun T_16 => nm (uJ T_16 4 ((gJ T_16 4) + (Int32.toInt64 r_6))) (fun T_17 => bv (fX1_lay_24_1 n x5_3 T_17) (fun T_18 => bd (fX1_movesFrom_24_20 n T_18) (fun r_21 T_20 => nm (uJ T_20 5 ((gJ T_18 5) + (Int32.toInt64 r_21))) (fun T_22 => bv (fX1_copyFrom_20_24 n T_22) (fun T_23 => bv (fX8_takeRoll_11 n p0 T_23) (fun T_25 => some ((0 : Int32), T_25)))))))))))))))))))
theorem ccut_unf (n : Nat) (p0 p1 p2 : Int32) (T : TS) : fX10_cut n p0 p1 p2 T = bd (fX10_refusalOfCut n p0 p1 p2 T) (fun r_2 T_1 => if r_2 = 0 then cct n p0 p1 p2 T_1 else some (r_2, T_1)) := rfl
theorem cct_eq {n c s l t m a b f v r : Nat} {T : TS} (hn : 10000 ≤ n) (hI : Inv c T) (hs : s < vns T) (e1 : gI T 1800 = nI m) (hm : m ≤ 8) (hl : l < m) (h37 : gA T 37 l = nI a) (h38 : gA T 38 l = nI b) (h39 : gA T 39 l = nI f) (hb : 1 ≤ b) (ht : t ≤ a) (ha : a ≤ 100000) (hf : f ≤ 1) (hv2 : gI T 14 = nI v) (hv0 : 1 ≤ v) (hv : v ≤ 10000) (h13 : gA T 13 s = nI r) (hr : 1 ≤ r) (hr2 : r ≤ 1000) : ∃ V, cct n (nI s) (nI l) (nI t) T = some (0, V) ∧ FG [1800, 1200, 1000, 550] [37, 38, 39, 9, 25, 21, 12, 13] [0, 1, 2, 3, 4, 5] [] [] T V ∧ (gI V 1800 = nI (if a - t < v ∨ m = 8 then m else m + 1) ∧ LT 37 38 39 T V m (if a - t < v ∨ m = 8 then m else m + 1) l (a - t) b f) ∧ (∀ i, gA V 9 i = if i < vd T then gA T 9 i + nI (cn (vcs T s) i * (t / v)) else gA T 9 i) ∧ (gJ V 0 = gJ T 0 + (gI T 50).toInt64 * (nI a).toInt64 ∧ gJ V 1 = gJ T 1 + (gI T 14).toInt64 * (nI (t / v)).toInt64 * (bx_sum (fun i => nI (cn (vcs T s) i) * gA T 2 i) (vd T)).toInt64 ∧ gJ V 2 = gJ T 2 + (gI T 50).toInt64 * (nI (if a - t < v ∨ m = 8 then 0 else a - t)).toInt64 ∧ gJ V 3 = gJ T 3 + 1 ∧ gJ V 4 = gJ T 4 + (nI (t / v)).toInt64 ∧ gJ V 5 = gJ T 5 + (nI (mvF T (vcs T s))).toInt64) ∧ (gI V 1000 = nI (ctT T (vcs T s)).length ∧ AL V 21 (ctT T (vcs T s))) ∧ (r = 1 → gI V 550 = nI (vns T - 1) ∧ ∀ k, k < vns T - 1 → gA V 12 k = gA T 12 (sk s k) ∧ gA V 13 k = gA T 13 (sk s k)) ∧ (r ≠ 1 → gI V 550 = nI (vns T) ∧ gA V 12 = gA T 12 ∧ ∀ k, gA V 13 k = if k = s then nI (r - 1) else gA T 13 k) := by
  have hM := hI.1
  have hS := hI.2.1
  have hL := hI.2.2.2.2.2.1
  obtain ⟨d1, d2, d6⟩ := hM.d
  have h60 := hS.2.2.1
  obtain ⟨c1, ok, -⟩ := hS.2.2.2.1 s hs
  unfold cct
  have k60 : ∀ {z : Option (Int32 × TS)}, ck (nI s) 60 z = z := ck_nI (by omega) (by decide)
  have k8 : ∀ {z : Option (Int32 × TS)}, ck (nI l) 8 z = z := ck_nI (by omega) (by decide)
  have q1 : fX10_quotient n (nI t) (nI v) T = some (nI (t / v), T) := by
    unfold fX10_quotient nz
    rw [if_pos (show (1 : Int32) ≤ nI v from nI_le (a := 1) hv0 (by omega)), if_neg (show ¬ nI v = 0 from fun z => by have := (nI_eq (a := v) (b := 0) (by omega) (by decide)).mp z; omega), pk_div (by omega) (by omega) (by omega)]
  rw [k60, nI_clamp (show s < 2 ^ 31 by omega), c1]
  simp only [nm]
  rw [k8, nI_clamp (show l < 2 ^ 31 by omega), h37, hv2, q1]
  simp only [bd]
  obtain ⟨A, a1, a2, a3, a4⟩ := tk9 (n := n) e1 hm hl h37 h38 h39 hb ht ha hf hv
  rw [hv2, a1]
  simp only
  generalize hbk : (if a - t < v ∨ m = 8 then 0 else a - t) = bk at a1 ⊢
  generalize hm' : (if a - t < v ∨ m = 8 then m else m + 1) = m' at a3 a4 ⊢
  obtain ⟨B, b1, b2, b3⟩ := done9 (n := n) (x := vcs T s) (d := vd T) (k := t / v) (T := A) (by omega) ((a2.I (by decide)).trans d1) d6 ok.1
  rw [b1]
  simp only [bv]
  have fB : FR [1800] [37, 38, 39, 9] 0 0 T B := (a2.mono (by decide) (by decide) (fun _ => by omega)).trans (b2.mono (by decide) (by decide) (fun _ => by omega))
  rw [fB.I (k := 50) (by decide)]
  generalize hC : uJ B 0 (gJ B 0 + (gI T 50).toInt64 * (nI a).toInt64) = C
  have jC : ∀ k, gJ C k = if k = 0 then gJ T 0 + (gI T 50).toInt64 * (nI a).toInt64 else gJ T k := fun k => by rw [← hC, gJ_uJ, fB.J, fB.J]
  have fC : FG [1800] [37, 38, 39, 9] [0, 1, 2, 3, 4] [] [] T C := by rw [← hC]; exact (fB.fg (by decide) (by decide)).trans (FG.uJ (by decide))
  have bC : FG [] [] [0, 1, 2, 3, 4] [] [] B C := by rw [← hC]; exact FG.uJ (by decide)
  clear hC
  have sp : fX4_spanOf n (nI (vcs T s)) C = some (bx_sum (fun i => nI (cn (vcs T s) i) * gA T 2 i) (vd T), C) := by
    rw [spanOf_eq (by omega) ((fC.1 55 (by decide)).trans d1) d6 ok.1, fC.2.1 2 (by decide)]
  rw [sp]
  simp only
  rw [fC.1 14 (by decide)]
  generalize hD : uJ C 1 (gJ C 1 + (gI T 14).toInt64 * (nI (t / v)).toInt64 * (bx_sum (fun i => nI (cn (vcs T s) i) * gA T 2 i) (vd T)).toInt64) = D
  have jD : ∀ k, gJ D k = if k = 1 then gJ C 1 + (gI T 14).toInt64 * (nI (t / v)).toInt64 * (bx_sum (fun i => nI (cn (vcs T s) i) * gA T 2 i) (vd T)).toInt64 else gJ C k := fun k => by rw [← hD, gJ_uJ]
  have fD : FG [1800] [37, 38, 39, 9] [0, 1, 2, 3, 4] [] [] T D := by rw [← hD]; exact fC.trans (FG.uJ (by decide))
  have bD : FG [] [] [0, 1, 2, 3, 4] [] [] B D := by rw [← hD]; exact bC.trans (FG.uJ (by decide))
  clear hD
  rw [fD.1 50 (by decide)]
  generalize hE : uJ D 2 (gJ D 2 + (gI T 50).toInt64 * (nI bk).toInt64) = E
  have jE : ∀ k, gJ E k = if k = 2 then gJ D 2 + (gI T 50).toInt64 * (nI bk).toInt64 else gJ D k := fun k => by rw [← hE, gJ_uJ]
  have fE : FG [1800] [37, 38, 39, 9] [0, 1, 2, 3, 4] [] [] T E := by rw [← hE]; exact fD.trans (FG.uJ (by decide))
  have bE : FG [] [] [0, 1, 2, 3, 4] [] [] B E := by rw [← hE]; exact bD.trans (FG.uJ (by decide))
  clear hE
  generalize hF : uJ E 3 (gJ E 3 + 1) = F
  have jF : ∀ k, gJ F k = if k = 3 then gJ E 3 + 1 else gJ E k := fun k => by rw [← hF, gJ_uJ]
  have fF : FG [1800] [37, 38, 39, 9] [0, 1, 2, 3, 4] [] [] T F := by rw [← hF]; exact fE.trans (FG.uJ (by decide))
  have bF : FG [] [] [0, 1, 2, 3, 4] [] [] B F := by rw [← hF]; exact bE.trans (FG.uJ (by decide))
  clear hF
  generalize hG : uJ F 4 (gJ F 4 + (nI (t / v)).toInt64) = G
  have jG : ∀ k, gJ G k = if k = 4 then gJ F 4 + (nI (t / v)).toInt64 else gJ F k := fun k => by rw [← hG, gJ_uJ]
  have fG : FG [1800] [37, 38, 39, 9] [0, 1, 2, 3, 4] [] [] T G := by rw [← hG]; exact fF.trans (FG.uJ (by decide))
  have bG : FG [] [] [0, 1, 2, 3, 4] [] [] B G := by rw [← hG]; exact bF.trans (FG.uJ (by decide))
  clear hG
  have hMG : GM G := hM.fg fG (by decide) (by decide)
  have cG : ∀ y, ctT G y = ctT T y := ctT_fg fG (by decide) (by decide)
  have vG : vd G = vd T := vd_fg fG (by decide)
  have hLG : GL G := hL.mv (fun k hk => fG.1 k (by simp only [List.mem_cons, List.not_mem_nil, or_false] at hk ⊢; omega)) (fun k hk => fG.2.1 k (by simp only [List.mem_cons, List.not_mem_nil, or_false] at hk ⊢; omega))
  have mG : mvF G (vcs T s) = mvF T (vcs T s) := by
    unfold mvF
    rw [cG, fG.1 1000 (by decide), fG.2.1 21 (by decide)]
  obtain ⟨H, h1, h2, h3, h4⟩ := lay24 (n := n) (x := vcs T s) (T := G) (by omega) hMG (by rw [vG]; exact ok)
  rw [h1]
  simp only
  rw [mf20_eq (T := G) (U := H) (y := vcs T s) (by omega) hMG hLG (by rw [vG]; exact ok) (h2.I (by decide)) (h2.A (by decide) (by decide)) h4 h3, mG]
  simp only
  rw [cG] at h3 h4
  generalize hP : uJ H 5 (gJ H 5 + (nI (mvF T (vcs T s))).toInt64) = P
  have jP : ∀ k, gJ P k = if k = 5 then gJ G 5 + (nI (mvF T (vcs T s))).toInt64 else gJ G k := fun k => by rw [← hP, gJ_uJ, h2.J, h2.J]
  have fHP : FG [] [] [5] [] [] H P := by rw [← hP]; exact FG.uJ (by decide)
  clear hP
  obtain ⟨Q, r1, r2, r3, r4⟩ := cp2024 (n := n) (T := P) (m := (ctT T (vcs T s)).length) (by omega) ((fHP.1 1200 (by decide)).trans h4) (ctT_le hM ok)
  rw [r1]
  simp only
  have fGP : FG [1200] [25] [5] [] [] G P := (h2.fg (by decide) (by decide)).trans (fHP.mono (by decide) (by decide) (by decide) (by decide) (by decide))
  have fGQ : FG [1200, 1000] [25, 21] [5] [] [] G Q := (fGP.mono (by decide) (by decide) (by decide) (by decide) (by decide)).trans (r2.fg (by decide) (by decide))
  have fTQ : FG [1800, 1200, 1000] [37, 38, 39, 9, 25, 21] [0, 1, 2, 3, 4, 5] [] [] T Q := (fG.mono (by decide) (by decide) (by decide) (by decide) (by decide)).trans (fGQ.mono (by decide) (by decide) (by decide) (by decide) (by decide))
  obtain ⟨V, v1, v2, v3, v4⟩ := tk8 (n := n) (T := Q) (m := vns T) (s := s) (r := r) hn ((fTQ.1 550 (by decide)).trans hS.1) h60 hs (by rw [fTQ.2.1 13 (by decide)]; exact h13) hr hr2
  rw [v1]
  have fGV : FG [1200, 1000, 550] [25, 21, 12, 13] [5] [] [] G V := (fGQ.mono (by decide) (by decide) (by decide) (by decide) (by decide)).trans (v2.fg (by decide) (by decide))
  have fAV : FG [1200, 1000, 550] [9, 25, 21, 12, 13] [0, 1, 2, 3, 4, 5] [] [] A V := ((b2.fg (by decide) (by decide)).trans (bG.mono (by decide) (by decide) (by decide) (by decide) (by decide))).trans (fGV.mono (by decide) (by decide) (by decide) (by decide) (by decide))
  have jV : ∀ k, gJ V k = gJ P k := fun k => (v2.J k).trans (r2.J k)
  refine ⟨V, rfl, (fTQ.mono (by decide) (by decide) (by decide) (by decide) (by decide)).trans (v2.fg (by decide) (by decide)), ⟨(fAV.1 1800 (by decide)).trans a3, fun i hi => ?_⟩, fun i => ?_, ⟨?_, ?_, ?_, ?_, ?_, ?_⟩, ⟨(v2.I (by decide)).trans r3, fun k w hk => ?_⟩, fun h => ?_, fun h => ?_⟩
  · rw [fAV.2.1 37 (by decide), fAV.2.1 38 (by decide), fAV.2.1 39 (by decide)]
    exact a4 i hi
  · rw [fGV.2.1 9 (by decide), bG.2.1 9 (by decide), b3, a2.A (k := 9) (by decide) (by decide)]
  · simp only [jV, jP, jG, jF, jE, jD, jC, if_true, if_false, Nat.reduceEqDiff, reduceCtorEq]
  · simp only [jV, jP, jG, jF, jE, jD, jC, if_true, if_false, Nat.reduceEqDiff, reduceCtorEq]
    rw [hv2]
  · simp only [jV, jP, jG, jF, jE, jD, jC, if_true, if_false, Nat.reduceEqDiff, reduceCtorEq]
  · simp only [jV, jP, jG, jF, jE, jD, jC, if_true, if_false, Nat.reduceEqDiff, reduceCtorEq]
  · simp only [jV, jP, jG, jF, jE, jD, jC, if_true, if_false, Nat.reduceEqDiff, reduceCtorEq]
  · simp only [jV, jP, jG, jF, jE, jD, jC, if_true, if_false, Nat.reduceEqDiff, reduceCtorEq]
  · have hk2 := (List.getElem?_eq_some_iff.mp hk).1
    rw [v2.A (by decide) (by decide), r4 k hk2, fHP.2.1 25 (by decide)]
    exact h3 k w hk
  · obtain ⟨w1, w2⟩ := v3 h
    refine ⟨w1, fun k hk => ?_⟩
    rw [(w2 k hk).1, (w2 k hk).2, fTQ.2.1 12 (by decide), fTQ.2.1 13 (by decide)]
    exact ⟨rfl, rfl⟩
  · obtain ⟨w1, w2, w3⟩ := v4 h
    refine ⟨w1, w2.trans (fTQ.2.1 12 (by decide)), fun k => ?_⟩
    rw [w3, fTQ.2.1 13 (by decide)]

theorem cut_rest {n c s l t m a b f v r : Nat} {T V : TS} (hn : 10000 ≤ n) (hI : Inv c T) (hs : s < vns T) (e1 : gI T 1800 = nI m) (e2 : gI T 2087 = nI m) (hm : m ≤ 8) (hl : l < m) (hall : ∀ i, i < m → ∃ a b f, 1 ≤ a ∧ a ≤ 100000 ∧ b ≤ 1000 ∧ f ≤ 1 ∧ gA T 37 i = nI a ∧ gA T 62 i = nI a ∧ gA T 38 i = nI b ∧ gA T 63 i = nI b ∧ gA T 39 i = nI f ∧ gA T 64 i = nI f) (h37 : gA T 37 l = nI a) (h38 : gA T 38 l = nI b) (h39 : gA T 39 l = nI f) (h62 : gA T 62 l = nI a) (h63 : gA T 63 l = nI b) (h64 : gA T 64 l = nI f) (hb : 1 ≤ b) (hb2 : b ≤ 1000) (ht1 : 1 ≤ t) (ht : t ≤ a) (ha : a ≤ 100000) (hf : f ≤ 1) (hv2 : gI T 14 = nI v) (hv3 : gI T 2062 = nI v) (hv0 : 1 ≤ v) (hv : v ≤ 10000) (h13 : gA T 13 s = nI r) (hr : 1 ≤ r) (hr2 : r ≤ 1000) (hV : cct n (nI s) (nI l) (nI t) T = some (0, V)) (W : TS) (hW : W = uI V 2050 0) : ∃ R, fX11_cut_L97 n (nI s) (nI l) (nI t) (gO W 48 s) (nI (t / v)) (ctl1 n (nI s) (nI l) (nI t) (gO W 48 s) (nI (t / v))) n 0 W = some (0, R) ∧ Inv (c + 1) R := by
  have hI0 := hI
  obtain ⟨hM, hS, hK, hX, hO, hL, hT, hA, hN, hC⟩ := hI
  obtain ⟨d1, d2, d6⟩ := hM.d
  have h60 := hS.2.2.1
  obtain ⟨c1, ok, c3, c4, -⟩ := hS.2.2.2.1 s hs
  have hq := hS.2.2.2.2.1 s (by omega)
  obtain ⟨V', u1, fV, ⟨u2, u3⟩, u4, ⟨j0, j1, j2, j3, j4, j5⟩, ⟨u5, u6⟩, u7, u8⟩ := cct_eq (n := n) hn hI0 hs e1 hm hl h37 h38 h39 hb ht ha hf hv2 hv0 hv h13 hr hr2
  rw [hV] at u1
  have : V = V' := by injection u1 with q; injection q
  subst this
  have fW : FG [1800, 1200, 1000, 550, 2050] [37, 38, 39, 9, 25, 21, 12, 13] [0, 1, 2, 3, 4, 5] [] [] T W := by rw [hW]; exact (fV.mono (by decide) (by decide) (by decide) (by decide) (by decide)).trans (FG.uI (by decide))
  have fVW : FG [2050] [] [] [] [] V W := by rw [hW]; exact FG.uI (by decide)
  clear hW
  have oW : gO W 48 = gO T 48 := fW.2.2.2.2 48 (by decide)
  have rowW : ∀ U, (∀ q, 67 ≤ q → gA U q = gA T q) → ∀ i, i < 6 → gA U (gO T 48 s) i = nI (cn (vcs T s) i) := fun U h i hi => by rw [h _ (by omega)]; exact c3 i hi
  have r67 : ∀ q, 67 ≤ q → gA W q = gA T q := fun q hq => fW.2.1 q (by simp only [List.mem_cons, List.not_mem_nil, or_false]; omega)
  rw [oW]
  obtain ⟨X, x1, x2, x3⟩ := done44 (n := n) (x := vcs T s) (d := vd T) (k := t / v) (q := gO T 48 s) (y1 := nI s) (y2 := nI l) (y3 := nI t) (T := W) (by omega) ((fW.1 2056 (by decide)).trans d2) d6 (by omega) (by omega) (rowW W r67)
  rw [congrFun x3]
  have fX : FG [1800, 1200, 1000, 550, 2050] [37, 38, 39, 9, 25, 21, 12, 13, 44] [0, 1, 2, 3, 4, 5] [] [] T X := (fW.mono (by decide) (by decide) (by decide) (by decide) (by decide)).trans (x1.fg (by decide) (by decide))
  obtain ⟨ml, hml, l1, l2, l3, l4⟩ := hL
  have oX : gO X 48 = gO T 48 := fX.2.2.2.2 48 (by decide)
  have cX : ∀ y, ctT X y = ctT T y := ctT_fg fX (by decide) (by decide)
  have vX : vd X = vd T := vd_fg fX (by decide)
  have hMX : GM X := hM.fg fX (by decide) (by decide)
  have y0 := ctl1_eq (n := n) (s := s) (l := l) (t := t) (x := vcs T s) (m := ml) (a := a) (k := t / v) (v := v) (T := X) hn hMX (by omega) (by rw [oX]; exact hq) (by rw [oX]; exact rowW X (fun q hq => fX.2.1 q (by simp only [List.mem_cons, List.not_mem_nil, or_false]; omega))) (by rw [vX]; exact ok) ((fX.1 2083 (by decide)).trans l2) hml (by omega) (by rw [fX.2.1 62 (by decide)]; exact h62)
  rw [oX, cX, vX, fX.1 50 (by decide), fX.1 2062 (by decide), fX.2.1 2 (by decide), fX.2.1 58 (by decide), fX.2.2.2.1 65 (by decide)] at y0
  obtain ⟨Y, y1, y2, y3, y4, z0, z1, z2, z4, z5, z6⟩ := y0
  rw [y1]
  have mm : mvn (gA T 58) ml (lf (ctT T (vcs T s))) (ctT T (vcs T s)).length = mvF T (vcs T s) := by
    unfold mvF
    rw [l1, nI_clamp (by omega)]
    exact mvn_congr (fun i hi => l3 i hi) (fun i hi => rfl)
  rw [mm] at z6
  have fY : FG [1800, 1200, 1000, 550, 2050, 2083] [37, 38, 39, 9, 25, 21, 12, 13, 44, 58, 59, 60] [0, 1, 2, 3, 4, 5] [65] [] T Y := (fX.mono (by decide) (by decide) (by decide) (by decide) (by decide)).trans (y2.mono (by decide) (by decide) (by decide) (by decide) (by decide))
  obtain ⟨Z, w1, w2, w3, w4, w5⟩ := ctl2_eq (n := n) (m := m) (l := l) (a := a) (b := b) (f := f) (t := t) (v := v) (p0 := nI s) (T := Y) ((fY.1 2087 (by decide)).trans e2) hm hl (by rw [fY.2.1 62 (by decide)]; exact h62) (by rw [fY.2.1 63 (by decide)]; exact h63) (by rw [fY.2.1 64 (by decide)]; exact h64) hb ht ha hf hv ((fY.1 2062 (by decide)).trans hv3)
  rw [w1]
  have fZ : FG [1800, 1200, 1000, 550, 2050, 2083, 2087] [37, 38, 39, 9, 25, 21, 12, 13, 44, 58, 59, 60, 62, 63, 64] [0, 1, 2, 3, 4, 5] [65] [] T Z := (fY.mono (by decide) (by decide) (by decide) (by decide) (by decide)).trans (w2.mono (by decide) (by decide) (by decide) (by decide) (by decide))
  have oZ : gO Z 48 = gO T 48 := fZ.2.2.2.2 48 (by decide)
  obtain ⟨R, g1, g2, g3, g4, g5⟩ := ctl3_eq (n := n) (m := vns T) (s := s) (r := r) (T := Z) hn ((fZ.1 2067 (by decide)).trans (hS.2.1.trans hS.1)) h60 hs (by rw [fZ.2.1 49 (by decide), c4]; exact h13) hr hr2 (by rw [oZ]; exact hS.2.2.2.2.1)
  refine ⟨R, g1, ?_⟩
  have fR : FG [1800, 1200, 1000, 550, 2050, 2083, 2087, 2067] [37, 38, 39, 9, 25, 21, 12, 13, 44, 58, 59, 60, 62, 63, 64, 49] [0, 1, 2, 3, 4, 5] [65] [48] T R := (fZ.mono (by decide) (by decide) (by decide) (by decide) (by decide)).trans (g2.mono (by decide) (by decide) (by decide) (by decide) (by decide))
  have r67R : ∀ q, 67 ≤ q → gA R q = gA T q := fun q hq => fR.2.1 q (by simp only [List.mem_cons, List.not_mem_nil, or_false]; omega)
  -- the class's cells behind V
  have fVR : FG [2050, 2083, 2087, 2067] [44, 58, 59, 60, 62, 63, 64, 49] [] [65] [48] V R := ((((fVW.mono (by decide) (by decide) (by decide) (by decide) (by decide)).trans (x1.fg (by decide) (by decide))).trans (y2.mono (by decide) (by decide) (by decide) (by decide) (by decide))).trans (w2.mono (by decide) (by decide) (by decide) (by decide) (by decide))).trans (g2.mono (by decide) (by decide) (by decide) (by decide) (by decide))
  have fXR : FG [2083, 2087, 2067] [58, 59, 60, 62, 63, 64, 49] [] [65] [48] X R := ((y2.mono (by decide) (by decide) (by decide) (by decide) (by decide)).trans (w2.mono (by decide) (by decide) (by decide) (by decide) (by decide))).trans (g2.mono (by decide) (by decide) (by decide) (by decide) (by decide))
  have fYR : FG [2087, 2067] [62, 63, 64, 49] [] [65] [48] Y R := (w2.mono (by decide) (by decide) (by decide) (by decide) (by decide)).trans (g2.mono (by decide) (by decide) (by decide) (by decide) (by decide))
  refine ⟨hM.fg fR (by decide) (by decide), ?_, hK.mv (fun k hk => fR.1 k (by simp only [List.mem_cons, List.not_mem_nil, or_false] at hk ⊢; omega)) (fun k hk => fR.2.1 k (by simp only [List.mem_cons, List.not_mem_nil, or_false] at hk ⊢; omega)) (fun k h1 h2 => r67R k (by omega)), hX.mv (fun k hk => fR.2.2.2.2 k (by simp only [List.mem_cons, List.not_mem_nil, or_false] at hk ⊢; omega)), ?_, ?_, ?_, ?_, hN.mv (fun k hk => fR.1 k (by simp only [List.mem_cons, List.not_mem_nil, or_false] at hk ⊢; omega)) (fun k hk => fR.2.1 k (by simp only [List.mem_cons, List.not_mem_nil, or_false] at hk ⊢; omega)), hC.mv (fun k hk => fR.1 k (by simp only [List.mem_cons, List.not_mem_nil, or_false] at hk ⊢; omega)) (fR.2.1 2 (by decide)) (fun k h1 h2 => r67R k h1)⟩
  · -- the PLAN
    by_cases q : r = 1
    · obtain ⟨p1, p2⟩ := u7 q
      obtain ⟨p3, p4, p5⟩ := g4 q
      refine hS.less hs (fR.1 55 (by decide)) ((fVR.1 550 (by decide)).trans p1) p3 (fun k hk => ?_) (fun k hk => ?_) (fun k hk => ?_) (fun k => by rw [p5, oZ]) (fun z z1 z2 => r67R z (by omega))
      · rw [fVR.2.1 12 (by decide)]
        exact (p2 k hk).1
      · rw [fVR.2.1 13 (by decide)]
        exact (p2 k hk).2
      · rw [p4 k hk, fZ.2.1 49 (by decide)]
    · obtain ⟨p1, p2, p2'⟩ := u8 q
      obtain ⟨p3, p4, p5⟩ := g5 q
      refine hS.dec hs h13 (by omega) hr2 (fR.1 55 (by decide)) ?_ ?_ ?_ (fun k => ?_) (fun k => ?_) (p5.trans oZ) (fun z z1 z2 => r67R z (by omega))
      · rw [fVR.1 550 (by decide), p1]
        exact hS.1.symm
      · rw [p3]
        exact (hS.2.1.trans hS.1).symm
      · exact (fVR.2.1 12 (by decide)).trans p2
      · rw [fVR.2.1 13 (by decide)]
        exact p2' k
      · rw [p4, fZ.2.1 49 (by decide)]
  · -- orders
    obtain ⟨o1, o2, o3⟩ := hO
    unfold GO
    rw [fR.1 305 (by decide), fR.1 2061 (by decide), fR.1 14 (by decide), fR.1 2062 (by decide), fR.2.1 8 (by decide), fR.2.1 10 (by decide), fR.2.1 43 (by decide), fR.2.1 45 (by decide)]
    refine ⟨o1, o2, fun i hi => ?_⟩
    obtain ⟨xa, xb, xp, w1, w2, w3, w4, w5, w6, w7, w8, w9⟩ := o3 i hi
    rw [fVR.2.1 9 (by decide), u4, fXR.2.1 44 (by decide), x2, fW.2.1 44 (by decide)]
    by_cases q : i < vd T
    · refine ⟨xa, xb + cn (vcs T s) i * (t / v), xp, w1, ?_, w3, w4, w5, ?_, ?_, w8, w9⟩
      · have h1 : cn (vcs T s) i ≤ 20 := by
          have := ok.2.2.1
          unfold pcs at this
          rcases (show i = 0 ∨ i = 1 ∨ i = 2 ∨ i = 3 ∨ i = 4 ∨ i = 5 by omega) with rfl | rfl | rfl | rfl | rfl | rfl <;> omega
        have h2 : t / v ≤ 100000 := Nat.le_trans (Nat.div_le_self _ _) (by omega)
        have h3 : cn (vcs T s) i * (t / v) ≤ 20 * 100000 := Nat.mul_le_mul h1 h2
        omega
      · rw [if_pos q, w6, nI_add]
      · rw [if_pos q, w7, nI_add]
    · rw [if_neg q, if_neg q]
      exact ⟨xa, xb, xp, w1, by omega, w3, w4, w5, w6, w7, w8, w9⟩
  · -- LATEST
    have b1 : AL R 21 (ctT T (vcs T s)) := fun k w hk => by rw [fVR.2.1 21 (by decide)]; exact u6 k w hk
    have b2 : AL R 58 (ctT T (vcs T s)) := fun k w hk => by rw [fYR.2.1 58 (by decide)]; exact y4 k w hk
    exact ⟨(ctT T (vcs T s)).length, ctT_le hM ok, (fVR.1 1000 (by decide)).trans u5, (fYR.1 2083 (by decide)).trans y3, fun j hj => b2.eq b1 hj, b1.ri hM⟩
  · -- the STOCK
    generalize hm' : (if a - t < v ∨ m = 8 then m else m + 1) = m' at u2 u3 w3 w4
    have hm8 : m' ≤ 8 ∧ (m' = m + 1 → v ≤ a - t) ∧ (m' = m ∨ m' = m + 1) := by
      rw [← hm']
      by_cases q : a - t < v ∨ m = 8
      · rw [if_pos q]
        exact ⟨hm, fun z => by omega, Or.inl rfl⟩
      · rw [if_neg q]
        exact ⟨by omega, fun _ => by omega, Or.inr rfl⟩
    refine ⟨m', hm8.1, (fVR.1 1800 (by decide)).trans u2, (g2.1 2087 (by decide)).trans w3, fun i hi => ?_⟩
    obtain ⟨p1, p2, p3⟩ := u3 i hi
    obtain ⟨q1, q2, q3⟩ := w4 i hi
    rw [fVR.2.1 37 (by decide), fVR.2.1 38 (by decide), fVR.2.1 39 (by decide), g2.2.1 62 (by decide), g2.2.1 63 (by decide), g2.2.1 64 (by decide), p1, p2, p3, q1, q2, q3, fY.2.1 62 (by decide), fY.2.1 63 (by decide), fY.2.1 64 (by decide)]
    by_cases z : i = m
    · rw [if_pos z, if_pos z, if_pos z, if_pos z, if_pos z, if_pos z]
      have := hm8.2.1 (by omega)
      exact ⟨a - t, 1, f, by omega, by omega, by decide, hf, rfl, rfl, rfl, rfl, rfl, rfl⟩
    · rw [if_neg z, if_neg z, if_neg z, if_neg z, if_neg z, if_neg z]
      obtain ⟨xa, xb, xf, v1, v2, v3, v4, v5, v6, v7, v8, v9, v10⟩ := hall i (by omega)
      by_cases z2 : i = l
      · rw [if_pos z2, if_pos z2]
        exact ⟨xa, b - 1, xf, v1, v2, by omega, v4, v5, v6, rfl, rfl, v9, v10⟩
      · rw [if_neg z2, if_neg z2]
        exact ⟨xa, xb, xf, v1, v2, v3, v4, v5, v6, v7, v8, v9, v10⟩
  · -- AREAS
    obtain ⟨a0, a1, a2, a3, a4, a5, a6⟩ := hA
    have jR : ∀ k, gJ R k = gJ V k := fun k => fVR.2.2.1 k (by simp)
    have e50 : gI Y 2051 = gI T 50 := (fY.1 2051 (by decide)).trans hM.2.1.1
    have k0 : gL R 65 0 = gJ R 0 := by rw [g3, if_neg (by decide), w5, if_neg (by decide), z0, jR, j0, a0]
    have k1 : gL R 65 1 = gJ R 1 := by rw [g3, if_neg (by decide), w5, if_neg (by decide), z1, jR, j1, a1, hv2, hv3]
    have z2' : gL Z 65 2 = gJ R 2 := by
      rw [w5, if_pos rfl, z2, jR, j2, a2, e50]
      by_cases q : a - t < v ∨ m = 8
      · rw [if_pos q, if_pos q, show (nI 0).toInt64 = 0 from rfl, Int64.mul_zero]
      · rw [if_neg q, if_neg q]
    have k2 : gL R 65 2 = gJ R 2 := by rw [g3, if_neg (by decide), z2']
    have k3 : gL R 65 3 = gJ R 0 - gJ R 1 - gJ R 2 := by
      rw [g3, if_pos rfl, ← k0, ← k1, ← k2, g3, g3, g3, if_neg (by decide), if_neg (by decide), if_neg (by decide)]
    have k4 : gL R 65 4 = gJ R 3 := by rw [g3, if_neg (by decide), w5, if_neg (by decide), z4, jR, j3, a4]
    have k5 : gL R 65 5 = gJ R 4 := by rw [g3, if_neg (by decide), w5, if_neg (by decide), z5, jR, j4, a5]
    have k6 : gL R 65 6 = gJ R 5 := by rw [g3, if_neg (by decide), w5, if_neg (by decide), z6, jR, j5, a6]
    exact ⟨k0, k1, k2, k3, k4, k5, k6⟩
