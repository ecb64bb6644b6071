/-! ===== share, of both ===== -/
theorem Inv.out {c : Nat} {T : TS} {i : Int32} {v : Int64} (h : Inv c T) : Inv c (sL T 66 i v) := by
  obtain ⟨m1, m2, m3, m4, m5, m6, m7, m8, m9, m10⟩ := h
  refine ⟨m1, m2, m3, m4, m5, m6, m7, ?_, m9, m10⟩
  have e : gL (sL T 66 i v) 65 = gL T 65 := by
    show va_up T.2.2.2.1 66 (vp_updL (gL T 66) i.toNatClampNeg v) 65 = T.2.2.2.1 65
    unfold va_up
    rw [if_neg (by decide)]
  exact GA.mv (fun _ => rfl) e m8
theorem gL_out (T : TS) (v : Int64) : gL (sL T 66 0 v) 66 0 = v := by
  show va_up T.2.2.2.1 66 (vp_updL (gL T 66) (Int32.toNatClampNeg 0) v) 66 0 = v
  unfold va_up
  rw [if_pos rfl, cl0]
  unfold vp_updL
  rw [if_pos rfl]
def BothS (c n : Nat) (a b w : Int32) (T : TS) : Prop := ∃ k T1 rb T2, fL_share n a b w T = some (k, T1) ∧ fX11_share n a b w T1 = some (rb, T2) ∧ gI T2 2050 = k ∧ (k = 0 → gL T2 66 0 = rb.toInt64) ∧ Inv (c + 1) T2
theorem IsK.out {T : TS} {k : Int32} {j x : Nat} {v : Int64} (h : IsK T k j x) : IsK (sL T 66 0 v) k j x := h
theorem NoK.out {T : TS} {k : Int32} {v : Int64} (h : NoK T k) : NoK (sL T 66 0 v) k := h
theorem eq_share {n c : Nat} {T : TS} (hn : 10000 ≤ n) (hI : Inv c T) (k b w : Int32) : BothS c n k b w T := by
  unfold BothS fL_share fX10_share fX11_share
  simp only [nm]
  have one : ¬ (1 : Int32) = 0 := by decide
  rcases k_cases T k with ⟨j, x, h⟩ | h
  · obtain ⟨T1, a1, a2, I1, N1, f1, ok, hj, rfl, h1⟩ := both_yes (n := n) hn hI h
    have okx := ok.1
    obtain ⟨d1, d2, d6⟩ := I1.1.d
    have k3 : ∀ {z : Option (Int32 × TS)}, ck (nI j) 3000 z = z := ck_nI hj (by decide)
    have kc : (nI j).toNatClampNeg = j := nI_clamp (by omega)
    rw [a1]
    simp only [bd]
    rw [if_neg one]
    by_cases hw : ∃ i, 0 ≤ i ∧ i ≤ 1 ∧ w = nI i
    · have w1 : ∀ U, fX10_within n w 0 1 U = some (1, U) := fun U => by
        obtain ⟨i, h1, h2, rfl⟩ := hw
        exact wi_yes (a := 0) (b := 1) h1 h2 (by decide)
      have w2 : ∀ U, fX11_in n w 0 1 U = some (1, U) := fun U => by
        obtain ⟨i, h1, h2, rfl⟩ := hw
        exact mi_yes (a := 0) (b := 1) h1 h2 (by decide)
      rw [w1]
      simp only
      rw [if_pos one]
      by_cases hb : b = 0
      · rw [if_neg (fun z => z hb)]
        obtain ⟨T3, b1, b2, b3, I3, C3, f3⟩ := mboth_yes (n := n) (T := uI T1 2050 0) hn I1.same h1
        refine ⟨1, T1, 0, uI T3 2050 1, rfl, ?_, gI_uI _ _ _, fun z => absurd z one, I3.th⟩
        rw [b1]
        simp only
        rw [if_neg one, w2]
        simp only
        rw [if_pos one, if_neg (fun z => z hb)]
      · rw [if_pos hb, a2]
        simp only
        rw [spanOf_eq (by omega) d1 d6 okx]
        simp only
        have nzb : ∀ {α : Type} {z : Option α}, nz b z = z := fun {α z} => by
          unfold nz
          rw [if_neg hb]
        -- the state behind the class and the law's out
        have key : ∀ r : Int32, (r = if ¬ w = 0 then bx_sum (fun i => nI (cn x i) * gA T1 2 i) (vd T1) - bx_sum (fun i => nI (cn x i) * gA T1 2 i) (vd T1) / b * b else bx_sum (fun i => nI (cn x i) * gA T1 2 i) (vd T1) / b) → ∃ k T1' rb T2, some (0, sL T1 66 0 (Int32.toInt64 r)) = some (k, T1') ∧ (bd (fX11_isPattern n (nI j) (uI T1' 2050 0)) (fun r_3 T_2 => if r_3 = 0 then some ((-1000000 : Int32), T_2) else bd (fX11_in n w (0 : Int32) (1 : Int32) T_2) (fun r_5 T_4 => if ¬ r_5 = 0 then if ¬ b = 0 then ck (nI j) 3000 (bd (fX11_sumOf n (gO T_4 46 (Int32.toNatClampNeg (nI j))) T_4) (fun r_7 T_6 => if ¬ w = 0 then nz b (some ((r_7 - r_7 / b * b), T_6)) else nz b (some ((r_7 / b), T_6)))) else some ((0 : Int32), uI T_4 2050 (1 : Int32)) else some ((-1000000 : Int32), T_4)))) = some (rb, T2) ∧ gI T2 2050 = k ∧ (k = 0 → gL T2 66 0 = rb.toInt64) ∧ Inv (c + 1) T2 := by
          intro r hr
          obtain ⟨T3, b1, b2, b3, I3, C3, f3⟩ := mboth_yes (n := n) (T := uI (sL T1 66 0 (Int32.toInt64 r)) 2050 0) hn I1.out.same h1.out
          obtain ⟨e1, e2, e6⟩ := I3.1.d
          have f13 : FR [2050, 2063, 2064] [47] 67 3067 (sL T1 66 0 (Int32.toInt64 r)) T3 := (FR.uI (by decide)).trans (f3.mono (by decide) (by decide) (fun _ => by omega))
          have ed : vd T3 = vd T1 := by unfold vd; rw [f13.I (by decide)]; rfl
          have e13 : gA T3 2 = gA T1 2 := f13.A (k := 2) (by decide) (by decide)
          have esum : bx_sum (fun i => gA T3 (67 + j) i * gA T3 42 i) (vd T3) = bx_sum (fun i => nI (cn x i) * gA T1 2 i) (vd T1) := by
            rw [ed]
            exact bx_congr (fun i hi => by rw [b3 i (by omega), (I3.1.2.2.2.1 i (by omega)).2.2.2, e13])
          refine ⟨0, sL T1 66 0 (Int32.toInt64 r), r, T3, rfl, ?_, ?_, fun _ => ?_, I3.up⟩
          · rw [b1]
            simp only [bd]
            rw [if_neg one, w2]
            simp only
            rw [if_pos one, if_pos hb, k3, kc, b2, sumOf_eq (by omega) e2 e6 (by omega) (by omega), esum]
            simp only
            rw [nzb, nzb, hr]
            split <;> rfl
          · rw [f3.I (by decide)]
            exact gI_uI _ _ _
          · rw [f3.L]
            exact gL_out T1 _
        by_cases hw0 : w = 0
        · rw [if_neg (fun z => z hw0), nzb]
          exact key _ (by rw [if_neg (fun z => z hw0)])
        · rw [if_pos hw0, nzb]
          exact key _ (by rw [if_pos hw0])
    · obtain ⟨T3, b1, b2, b3, I3, C3, f3⟩ := mboth_yes (n := n) (T := uI (sL T1 66 0 (Int32.toInt64 (-1000000))) 2050 0) hn I1.out.same h1.out
      rw [show fX10_within n w 0 1 T1 = some (0, T1) from wi_no (a := 0) (b := 1) (by decide) (by decide) hw]
      simp only [not_true_eq_false, if_false]
      refine ⟨0, _, -1000000, T3, rfl, ?_, ?_, fun _ => ?_, I3.up⟩
      · rw [b1]
        simp only
        rw [if_neg one, show fX11_in n w 0 1 T3 = some (0, T3) from mi_no (a := 0) (b := 1) (by decide) (by decide) hw]
        simp only [not_true_eq_false, if_false]
      · rw [f3.I (by decide)]
        exact gI_uI _ _ _
      · rw [f3.L]
        exact gL_out T1 _
  · obtain ⟨T1, a1, I1, h1, f1⟩ := both_no (n := n) hn hI h
    obtain ⟨T3, b1, I3, f3⟩ := mboth_no (n := n) (T := uI (sL T1 66 0 (Int32.toInt64 (-1000000))) 2050 0) hn I1.out.same h1.out
    rw [a1]
    simp only [bd, if_true]
    refine ⟨0, _, -1000000, T3, rfl, ?_, ?_, fun _ => ?_, I3.up⟩
    · rw [b1]
      simp only [if_true]
    · rw [f3.I (by decide)]
      exact gI_uI _ _ _
    · rw [f3.L]
      exact gL_out T1 _
