def pN (T : TS) (i : Nat) : Nat := (gA T 10 i).toNatClampNeg
def wN (T : TS) (x : Nat) : Nat := nsum (fun i => cn x i * pN T i) (vd T)
theorem GO.p {c : Nat} {T : TS} (h : GO c T) {i : Nat} (hi : i < 6) : gA T 10 i = nI (pN T i) ∧ gA T 45 i = nI (pN T i) ∧ pN T i ≤ 1000000 := by
  obtain ⟨a, b, p, w1, w2, w3, w4, w5, w6, w7, w8, w9⟩ := h.2.2 i hi
  have e : pN T i = p := by unfold pN; rw [w8, nI_clamp (by omega)]
  rw [e]
  exact ⟨w8, w9, w3⟩
theorem wN_lt {c : Nat} {T : TS} (hM : GM T) (h : GO c T) (x : Nat) : wN T x ≤ 186000000 := by
  have d6 := hM.d.2.2
  have : wN T x ≤ vd T * 31000000 := nsum_bd (fun i hi => by
    have h1 := cn_lt x i
    have h2 := (h.p (i := i) (by omega)).2.2
    calc cn x i * pN T i ≤ 31 * 1000000 := Nat.mul_le_mul (by omega) h2
      _ = 31000000 := rfl)
  omega
theorem worth_nI {n c x : Nat} {T : TS} (hn : 10000 ≤ n) (hM : GM T) (h : GO c T) (hx : x < 2 ^ 30) : fX6_worthOf n (nI x) T = some (nI (wN T x), T) := by
  obtain ⟨d1, d2, d6⟩ := hM.d
  rw [worthOf_eq (by omega) d1 d6 hx, bx_nI (f := fun i => cn x i * pN T i) (fun i hi => by rw [(h.p (i := i) (by omega)).1, pk_mul])]
  rfl
theorem mworth_nI {n c x q : Nat} {T : TS} (hn : 10000 ≤ n) (hM : GM T) (h : GO c T) (hq1 : 67 ≤ q) (hq2 : q < 3247) (hcc : ∀ i, i < 6 → gA T q i = nI (cn x i)) : fX11_worthOf n q T = some (lN (wN T x), T) := by
  obtain ⟨d1, d2, d6⟩ := hM.d
  rw [mworthOf_eq (by omega) d2 d6 hq1 hq2, lx_nI (f := fun i => cn x i * pN T i) (fun i hi => by
    have h1 := cn_lt x i
    have h2 := (h.p (i := i) (by omega)).2
    rw [hcc i (by omega), h2.1, nI_l (by omega), nI_l (by omega), lN_mul])]
  rfl
theorem FLW_fr {is as : List Nat} {lo hi : Nat} {T T' : TS} (f : FR is as lo hi T T') (h1 : ∀ k ∈ [50, 51, 53, 54, 55], k ∉ is) (h2 : 2 ∉ as ∧ ¬ (lo ≤ 2 ∧ 2 < hi)) (C : Nat) : FLW T' C = FLW T C := by
  unfold FLW vd
  rw [f.1 50 (h1 50 (by decide)), f.1 51 (h1 51 (by decide)), f.1 53 (h1 53 (by decide)), f.1 54 (h1 54 (by decide)), f.1 55 (h1 55 (by decide)), f.A h2.1 h2.2]
theorem wN_fr {is as : List Nat} {lo hi : Nat} {T T' : TS} (f : FR is as lo hi T T') (h1 : 55 ∉ is) (h2 : 10 ∉ as ∧ ¬ (lo ≤ 10 ∧ 10 < hi)) (x : Nat) : wN T' x = wN T x := by
  unfold wN vd pN
  rw [f.1 55 h1, f.A h2.1 h2.2]
/-- a number in both: the class's state and the reference's behind it -/
theorem both_yes {n c j x : Nat} {T : TS} {k : Int32} (hn : 10000 ≤ n) (hI : Inv c T) (h : IsK T k j x) : ∃ T1, fX5_isNumber n k T = some (1, T1) ∧ fX5_codeAt n k T1 = some (nI x, T1) ∧ Inv c T1 ∧ NUM T1 ∧ FR [202, 203, 204] [5] 0 0 T T1 ∧ okc (vd T) x ∧ j < 3000 ∧ k = nI j ∧ IsK T1 k j x := by
  obtain ⟨T1, a1, a2, a3, a4⟩ := isN_yes (n := n) hn h hI.1 hI.2.2.2.2.2.2.2.2.1
  have ep : psT T1 = psT T := ps_fr a3 (by decide) (by decide)
  have hj := (List.getElem?_eq_some_iff.mp h.2.2).1
  exact ⟨T1, a1, a2, hI.ref a3 a4, a4, a3, ps_ok hI.1 h.2.2, by have := h.1; omega, h.2.1, by unfold IsK; rw [ep]; exact h⟩
theorem mboth_yes {n c j x : Nat} {T : TS} {k : Int32} (hn : 10000 ≤ n) (hI : Inv c T) (h : IsK T k j x) : ∃ T1, fX11_isPattern n k T = some (1, T1) ∧ gO T1 46 j = 67 + j ∧ (∀ i, i < 6 → gA T1 (67 + j) i = nI (cn x i)) ∧ Inv c T1 ∧ CNT T1 ∧ FR [2063, 2064] [47] 67 3067 T T1 := by
  obtain ⟨T1, a1, a2, a3, a4, a5, a6⟩ := isP_yes (n := n) hn h hI.1 hI.2.2.2.2.2.2.2.2.2 hI.2.2.2.1
  exact ⟨T1, a1, a2, a4, hI.cnt a5 a6, a6, a5⟩
theorem both_no {n c : Nat} {T : TS} {k : Int32} (hn : 10000 ≤ n) (hI : Inv c T) (h : NoK T k) : ∃ T1, fX5_isNumber n k T = some (0, T1) ∧ Inv c T1 ∧ NoK T1 k ∧ FR [202, 203, 204] [5] 0 0 T T1 := by
  obtain ⟨T1, a1, a2, a3⟩ := isN_no (n := n) hn h hI.1 hI.2.2.2.2.2.2.2.2.1
  have ep : psT T1 = psT T := ps_fr a2 (by decide) (by decide)
  refine ⟨T1, a1, ?_, by unfold NoK; rw [ep]; exact h, a2⟩
  rcases a3 with a3 | a3
  · exact hI.ref a2 a3
  · rw [a3]
    exact hI
theorem mboth_no {n c : Nat} {T : TS} {k : Int32} (hn : 10000 ≤ n) (hI : Inv c T) (h : NoK T k) : ∃ T1, fX11_isPattern n k T = some (0, T1) ∧ Inv c T1 ∧ FR [2063, 2064] [47] 67 3067 T T1 := by
  obtain ⟨T1, a1, a2, a3⟩ := isP_no (n := n) hn h hI.1 hI.2.2.2.2.2.2.2.2.2 hI.2.2.2.1
  exact ⟨T1, a1, hI.cnt a2 a3, a2⟩
theorem eq_pattern {n c : Nat} {T : TS} (hn : 10000 ≤ n) (hI : Inv c T) (k b : Int32) : BothL c (fX10_pattern n k b) (fX11_pattern n k b) T := by
  unfold BothL fX10_pattern fX11_pattern
  simp only [nm]
  rcases k_cases T k with ⟨j, x, h⟩ | h
  · obtain ⟨T1, a1, a2, I1, N1, f1, ok, hj, rfl, h1⟩ := both_yes (n := n) hn hI h
    obtain ⟨T3, b1, b2, b3, I3, C3, f3⟩ := mboth_yes (n := n) (T := uI T1 2050 0) hn I1.same h1
    have f13 : FR [2050, 2063, 2064] [47] 67 3067 T1 T3 := (FR.uI (by decide)).trans (f3.mono (by decide) (by decide) (fun _ => by omega))
    obtain ⟨d1, d2, d6⟩ := I1.1.d
    obtain ⟨e1, e2, e6⟩ := I3.1.d
    have ed : vd T3 = vd T1 := by unfold vd; rw [f13.I (by decide)]
    have okx := ok.1
    have k3 : ∀ {z : Option (Int64 × TS)}, ck (nI j) 3000 z = z := ck_nI hj (by decide)
    have kc : (nI j).toNatClampNeg = j := nI_clamp (by omega)
    rw [a1]
    simp only [bd]
    rw [if_pos (show ¬ (1 : Int32) = 0 by decide), a2]
    simp only
    have one : ¬ (1 : Int32) = 0 := by decide
    by_cases hw : ∃ p, p < vd T1 ∧ b = nI p
    · obtain ⟨p, hp, rfl⟩ := hw
      rw [isW_yes d1 d6 hp]
      simp only
      rw [if_neg one, ofW_nI okx (by omega)]
      refine ⟨(nI (cn x p)).toInt64, T1, T3, rfl, ?_, I3.up⟩
      rw [b1]
      simp only
      rw [if_pos one, isWm_yes (d := vd T3) e2 e6 (by omega)]
      simp only
      rw [if_neg one, k3, kc, b2, ak_row (by omega) (by omega), al_6 (by omega), ck_nI (by omega) (by decide), nI_clamp (by omega), b3 p (by omega)]
    · rw [isW_no d1 d6 hw]
      have wm := isWm_no (n := n) (x := b) (T := T3) (d := vd T3) e2 e6 (by rw [ed]; exact hw)
      simp only [if_true]
      by_cases q3 : b = -3
      · rw [if_pos q3, fits_eq hn I1.1 okx]
        have fm := mfits_eq (n := n) (T := T3) hn I3.1 (by omega) (by omega) b3
        rw [FLW_fr f13 (by decide) (by decide)] at fm
        refine ⟨if b01 (FLW T1 x) = 0 then 0 else 1, T1, T3, ?_, ?_, I3.up⟩
        · simp only
          split <;> rfl
        · rw [b1]
          simp only
          rw [if_pos one, wm]
          simp only [if_true]
          rw [if_pos q3, k3, kc, b2, fm]
          simp only
          split <;> rfl
      rw [if_neg q3]
      by_cases q2 : b = -2
      · rw [if_pos q2, worth_nI hn I1.1 I1.2.2.2.2.1 okx]
        have fm := mworth_nI (n := n) (T := T3) hn I3.1 I3.2.2.2.2.1 (by omega) (by omega) b3
        rw [wN_fr f13 (by decide) (by decide)] at fm
        refine ⟨lN (wN T1 x), T1, T3, ?_, ?_, I3.up⟩
        · show some ((nI (wN T1 x)).toInt64, T1) = _
          rw [nI_l (by have := wN_lt I1.1 I1.2.2.2.2.1 x; omega)]
        · rw [b1]
          simp only
          rw [if_pos one, wm]
          simp only [if_true]
          rw [if_neg q3, if_pos q2, k3, kc, b2, fm]
      rw [if_neg q2]
      by_cases q1 : b = -1
      · rw [if_pos q1, wasteOf_eq (by omega) d1 d6 okx]
        refine ⟨_, T1, T3, rfl, ?_, I3.up⟩
        rw [b1]
        simp only
        rw [if_pos one, wm]
        simp only [if_true]
        rw [if_neg q3, if_neg q2, if_pos q1, k3, kc, b2, sumOf_eq (by omega) e2 e6 (by omega) (by omega)]
        simp only
        rw [I3.1.2.1.1, f13.I (k := 50) (by decide), ed, bx_congr (g := fun i => nI (cn x i) * gA T1 2 i) (fun i hi => by
          rw [b3 i (by omega), (I3.1.2.2.2.1 i (by omega)).2.2.2, f13.A (k := 2) (by decide) (by decide)])]
      · rw [if_neg q1]
        refine ⟨-1000, T1, T3, rfl, ?_, I3.up⟩
        rw [b1]
        simp only
        rw [if_pos one, wm]
        simp only [if_true]
        rw [if_neg q3, if_neg q2, if_neg q1]
  · obtain ⟨T1, a1, I1, h1, f1⟩ := both_no (n := n) hn hI h
    obtain ⟨T3, b1, I3, f3⟩ := mboth_no (n := n) (T := uI T1 2050 0) hn I1.same h1
    rw [a1]
    refine ⟨-1000, T1, T3, rfl, ?_, I3.up⟩
    rw [b1]
    rfl
