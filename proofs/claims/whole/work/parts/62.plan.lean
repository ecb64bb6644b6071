/-! ===== slotted, plan ===== -/
theorem isS_yes {n s m : Nat} {T : TS} (h : gI T 550 = nI m) (hs : s < m) (h60 : m ≤ 60) : fX8_isSlot_11 n (nI s) T = some (1, T) := by
  unfold fX8_isSlot_11
  rw [if_neg (nI_pos (by omega)), h, if_neg (nI_ge hs (by omega))]
  rfl
theorem isS_no {n m : Nat} {a : Int32} {T : TS} (h : gI T 550 = nI m) (h60 : m ≤ 60) (hk : ¬ ∃ j, j < m ∧ a = nI j) : fX8_isSlot_11 n a T = some (0, T) := by
  unfold fX8_isSlot_11
  rcases ix_cases a h (by omega) with h1 | ⟨h1, h2⟩ | h1
  · rw [if_pos h1]; rfl
  · rw [if_neg h1, if_pos h2]; rfl
  · exact absurd h1 hk
theorem isSm_yes {n s m : Nat} {T : TS} (h : gI T 2067 = nI m) (hs : s < m) (h60 : m ≤ 60) : fX11_isSlot n (nI s) T = some (1, T) := by
  unfold fX11_isSlot
  rw [h, in_yes hs (by omega)]
  rfl
theorem isSm_no {n m : Nat} {a : Int32} {T : TS} (h : gI T 2067 = nI m) (h60 : m ≤ 60) (hk : ¬ ∃ j, j < m ∧ a = nI j) : fX11_isSlot n a T = some (0, T) := by
  unfold fX11_isSlot
  rw [h, in_no hk (by omega)]
  rfl
/-- what stands over the calls that lay cuts -/
theorem Inv.lay {c : Nat} {T T' : TS} (h : Inv c T) (f : FR [1100, 1200, 2050] [23, 25, 59, 60] 0 0 T T') : Inv (c + 1) T' := h.fr (Nat.le_succ c) f (by decide) (by decide) (Or.inr (Or.inr (Nat.le_refl 0))) (by decide)
theorem piecesEq {d x : Nat} (ok : okc d x) (h6 : d ≤ 6) : nsum (cn x) d = pcs x := by
  have e : nsum (cn x) 6 = pcs x := by simp [nsum, pcs]
  have H : ∀ r, d + r ≤ 6 → nsum (cn x) (d + r) = nsum (cn x) d := by
    intro r
    induction r with
    | zero => intro _; rfl
    | succ r ih =>
      intro hr
      show nsum (cn x) (d + r) + cn x (d + r) = _
      rw [ih (by omega), ok.2.1 (d + r) (by omega) (by omega), Nat.add_zero]
  rw [← e, ← H (6 - d) (by omega), show d + (6 - d) = 6 by omega]
theorem eq_slotted {n c : Nat} {T : TS} (hn : 10000 ≤ n) (hI : Inv c T) (a b : Int32) : Both c (fX10_slotted n a b) (fX11_slotted n a b) T := by
  have hM := hI.1
  have hS := hI.2.1
  have hL := hI.2.2.2.2.2.1
  obtain ⟨d1, d2, d6⟩ := hM.d
  have s1 : gI T 550 = nI (vns T) := hS.1
  have s2 : gI T 2067 = nI (vns T) := hS.2.1.trans s1
  have s3 := hS.2.2.1
  unfold Both fX10_slotted fX11_slotted
  simp only [nm]
  by_cases hk : ∃ j, j < vns T ∧ a = nI j
  · obtain ⟨s, hs, rfl⟩ := hk
    obtain ⟨c1, ok, c3, c4, -⟩ := hS.2.2.2.1 s hs
    have r1 := hS.2.2.2.2.1 s (by omega)
    have k0 : ∀ {z : Option (Int32 × TS)}, ck (nI s) 60 z = z := ck_nI (by omega) (by decide)
    have kc : (nI s).toNatClampNeg = s := nI_clamp (by omega)
    have one : ¬ (1 : Int32) = 0 := by decide
    rw [isS_yes s1 hs s3]
    simp only [bd]
    rw [if_pos one, k0, kc, c1]
    have s2' : ∀ {is as : List Nat} {lo hi : Nat} {U : TS}, FR is as lo hi T U → 2067 ∉ is → gI (uI U 2050 0) 2067 = nI (vns T) := fun f h => (f.1 2067 h).trans s2
    have I1 : Inv (c + 1) (uI T 2050 0) := hI.th
    by_cases hw : ∃ p, p < vd T ∧ b = nI (10 + p)
    · obtain ⟨p, hp, rfl⟩ := hw
      have ne : ∀ k : Nat, k < 10 → ¬ nI (10 + p) = nI k := fun k hk q => by have := (nI_eq (by omega) (by omega)).mp q; omega
      rw [if_neg (show ¬ nI (10 + p) = 0 from ne 0 (by decide)), if_neg (show ¬ nI (10 + p) = 1 from ne 1 (by decide)), if_neg (show ¬ nI (10 + p) = 2 from ne 2 (by decide)), if_neg (show ¬ nI (10 + p) = 3 from ne 3 (by decide))]
      have e1 : (10 : Int32) + gI T 55 - 1 = nI (9 + vd T) := by
        rw [d1, show (10 : Int32) = nI 10 from rfl, nI_add, nI_prd (by omega), show 10 + vd T - 1 = 9 + vd T by omega]
      rw [e1, show fX10_within n (nI (10 + p)) 10 (nI (9 + vd T)) T = some (1, T) from wi_yes (a := 10) (by omega) (by omega) (by omega)]
      have e2 : nI (10 + p) - 10 = nI p := by rw [show (10 : Int32) = nI 10 from rfl, pk_sub (by omega), show 10 + p - 10 = p by omega]
      simp only
      rw [if_neg one, e2, ofW_nI ok.1 (by omega)]
      refine ⟨nI (cn (vcs T s) p), T, uI T 2050 0, rfl, ?_, I1⟩
      rw [isSm_yes (show gI (uI T 2050 0) 2067 = nI (vns T) from s2) hs s3]
      simp only
      rw [if_pos one, isWm_yes (d := vd T) (show gI (uI T 2050 0) 2056 = nI (vd T) from d2) d6 hp]
      simp only
      rw [if_neg one, k0]
      show ak (gO T 48 s) (ck (nI p) (al (gO T 48 s)) (some (gA T (gO T 48 s) (nI p).toNatClampNeg, uI T 2050 0))) = _
      rw [ak_row (by omega) (by omega), al_6 (by omega), ck_nI (by omega) (by decide), nI_clamp (by omega), c3 p (by omega)]
    · have hw2 : ¬ ∃ j, j < vd T ∧ b - 10 = nI j := by
        rintro ⟨j, hj, q⟩
        refine hw ⟨j, hj, ?_⟩
        have : b = b - 10 + 10 := (Int32.sub_add_cancel b 10).symm
        rw [this, q, show (10 : Int32) = nI 10 from rfl, nI_add, Nat.add_comm]
      have hw3 : ¬ ∃ j, 10 ≤ j ∧ j ≤ 9 + vd T ∧ b = nI j := by
        rintro ⟨j, h1, h2, q⟩
        exact hw ⟨j - 10, by omega, by rw [q, show 10 + (j - 10) = j by omega]⟩
      have sy : ∀ U, FR [1100, 1200] [23, 25] 0 0 T U → fX11_isSlot n (nI s) (uI U 2050 0) = some (1, uI U 2050 0) := fun U f => isSm_yes (s2' f (by decide)) hs s3
      have wn : ∀ U, FR [1100, 1200] [23, 25] 0 0 T U → fX11_isWidth n (b - 10) (uI U 2050 0) = some (0, uI U 2050 0) := fun U f => isWm_no (d := vd T) (show gI (uI U 2050 0) 2056 = nI (vd T) from (f.1 2056 (by decide)).trans d2) d6 hw2
      by_cases q0 : b = 0
      · subst q0
        rw [if_pos rfl, k0]
        refine ⟨gA T 13 s, T, uI T 2050 0, rfl, ?_, I1⟩
        rw [sy T FR.rf]
        simp only
        rw [if_pos one, wn T FR.rf]
        simp only [if_true]
        rw [k0]
        show some (gA T 49 s, _) = _
        rw [c4]
      by_cases q1 : b = 1
      · subst q1
        rw [if_neg q0, if_pos rfl, wasteOf_eq (by omega) d1 d6 ok.1]
        refine ⟨_, T, uI T 2050 0, rfl, ?_, I1⟩
        rw [sy T FR.rf]
        simp only
        rw [if_pos one, wn T FR.rf]
        simp only [if_true]
        rw [if_neg q0, k0]
        rw [show gO (uI T 2050 0) 48 s = gO T 48 s from rfl, sumOf_eq (by omega) (show gI (uI T 2050 0) 2056 = nI (vd T) from d2) d6 (by omega) (by omega)]
        simp only
        rw [show gI (uI T 2050 0) 2051 = gI T 50 from hM.2.1.1, bx_congr (g := fun i => nI (cn (vcs T s) i) * gA T 2 i) (fun i hi => by
          show gA T (gO T 48 s) i * gA T 42 i = _
          rw [c3 i (by omega), (hM.2.2.2.1 i hi).2.2.2])]
      by_cases q2 : b = 2
      · subst q2
        obtain ⟨U, g1, g2⟩ := movesTo_eq (n := n) (by omega) hM hS hL hs
        rw [if_neg q0, if_neg q1, if_pos rfl, g1]
        have g3 : FR [1100, 1200, 2050] [23, 25, 59, 60] 0 0 T (uI U 2050 0) := (g2.mono (by decide) (by decide) (fun _ => by omega)).trans (FR.uI (by decide))
        have IU := hI.lay g3
        have eN : vns (uI U 2050 0) = vns T := by unfold vns; rw [g3.I (by decide)]
        have eC : ∀ k, vcs (uI U 2050 0) k = vcs T k := fun k => by unfold vcs; rw [g3.A (by decide) (by decide)]
        obtain ⟨V, l1, l2⟩ := moves_eqS (n := n) (T := uI U 2050 0) (s := s) (by omega) IU.1 IU.2.1 IU.2.2.2.2.2.1 (by rw [eN]; exact hs)
        have em : mvS (uI U 2050 0) s = mvS T s := by
          unfold mvS
          rw [eC, eC, eC, mvF_fr g3 (by decide) (by decide) (by decide) (by decide), mvP_fr g3 (by decide) (by decide)]
        rw [em] at l1
        refine ⟨nI (mvS T s), U, V, rfl, ?_, hI.lay (g3.trans (l2.mono (by decide) (by decide) (fun _ => by omega)))⟩
        rw [sy U g2]
        simp only
        rw [if_pos one, wn U g2]
        simp only [if_true]
        rw [if_neg q0, if_neg q1, l1]
      by_cases q3 : b = 3
      · subst q3
        rw [if_neg q0, if_neg q1, if_neg q2, if_pos rfl, pieces_eq (by omega) ok.1]
        refine ⟨_, T, uI T 2050 0, rfl, ?_, I1⟩
        rw [sy T FR.rf]
        simp only
        rw [if_pos one, wn T FR.rf]
        simp only [if_true]
        rw [if_neg q0, if_neg q1, if_neg q2, k0]
        rw [show gO (uI T 2050 0) 48 s = gO T 48 s from rfl, mpiecesOf_eq (by omega) (show gI (uI T 2050 0) 2056 = nI (vd T) from d2) d6 (by omega) (by omega)]
        simp only
        rw [bx_nI (g := fun i => gA (uI T 2050 0) (gO T 48 s) i) (f := cn (vcs T s)) (fun i hi => c3 i (by omega)), piecesEq ok d6]
      · rw [if_neg q0, if_neg q1, if_neg q2, if_neg q3]
        have e1 : (10 : Int32) + gI T 55 - 1 = nI (9 + vd T) := by
          rw [d1, show (10 : Int32) = nI 10 from rfl, nI_add, nI_prd (by omega), show 10 + vd T - 1 = 9 + vd T by omega]
        rw [e1, show fX10_within n b 10 (nI (9 + vd T)) T = some (0, T) from wi_no (a := 10) (by decide) (by omega) hw3]
        refine ⟨-1, T, uI T 2050 0, rfl, ?_, I1⟩
        rw [sy T FR.rf]
        simp only
        rw [if_pos one, wn T FR.rf]
        simp only [if_true]
        rw [if_neg q0, if_neg q1, if_neg q2, if_neg q3]
  · rw [isS_no s1 s3 hk]
    refine ⟨-1, T, uI T 2050 0, rfl, ?_, hI.th⟩
    rw [isSm_no (show gI (uI T 2050 0) 2067 = nI (vns T) from s2) s3 hk]
    rfl
/-! the PLAN's sums -/
theorem allRolls_eq {n : Nat} {T : TS} (hn : 100 ≤ n) (hS : GS T) : fX8_allRolls_11 n T = some (bx_sum (gA T 13) (vns T), T) := by
  obtain ⟨h1, h2, h3, h4, -⟩ := hS
  unfold fX8_allRolls_11
  refine lpn (fun f (x : Int32 × Int32 × TS) => fX8_allRolls_11_L4 n (fun e T => some (e, T)) f x.1 x.2.1 x.2.2) (fun j => (bx_sum (gA T 13) j, nI j, T)) (vns T) _ ?_ ?_ n (by omega)
  · intro j hj f
    show fX8_allRolls_11_L4 n _ (f + 1) _ (nI j) T = _
    rw [fX8_allRolls_11_L4, h1, if_neg (nI_ge hj (by omega)), ck_nI (by omega) (by decide), nI_clamp (by omega)]
    simp only [nm]
    rw [nI_1]
    rfl
  · intro f
    show fX8_allRolls_11_L4 n _ (f + 1) _ (nI (vns T)) T = _
    rw [fX8_allRolls_11_L4, h1, if_pos (nI_le (Nat.le_refl _) (by omega))]
theorem mallRolls_eq {n : Nat} {T : TS} (hn : 100 ≤ n) (hS : GS T) : fX11_plan_L55 n (fun e2_3 T_4 => some (e2_3, T_4)) n 0 0 T = some (bx_sum (gA T 13) (vns T), T) := by
  obtain ⟨h1, h2, h3, h4, -⟩ := hS
  refine lpn (fun f (x : Int32 × Int32 × TS) => fX11_plan_L55 n (fun e T => some (e, T)) f x.1 x.2.1 x.2.2) (fun j => (bx_sum (gA T 13) j, nI j, T)) (vns T) _ ?_ ?_ n (by omega)
  · intro j hj f
    show fX11_plan_L55 n _ (f + 1) _ (nI j) T = _
    rw [fX11_plan_L55, h2, h1, if_neg (nI_ge hj (by omega)), ck_nI (by omega) (by decide), nI_clamp (by omega), (h4 j hj).2.2.2.1]
    simp only [nm]
    rw [nI_1]
    rfl
  · intro f
    show fX11_plan_L55 n _ (f + 1) _ (nI (vns T)) T = _
    rw [fX11_plan_L55, h2, h1, if_pos (nI_le (Nat.le_refl _) (by omega))]
def wsI (T : TS) (s : Nat) : Int32 := gA T 13 s * (gI T 50 - bx_sum (fun i => nI (cn (vcs T s) i) * gA T 2 i) (vd T))
theorem waste_eq {n : Nat} {T : TS} (hn : 100 ≤ n) (hM : GM T) (hS : GS T) : fX10_wasteOfAll n T = some (bx_sum (wsI T) (vns T), T) := by
  obtain ⟨h1, h2, h3, h4, -⟩ := hS
  obtain ⟨d1, d2, d6⟩ := hM.d
  unfold fX10_wasteOfAll
  refine lpn (fun f (x : Int32 × Int32 × TS) => fX10_wasteOfAll_L4 n (fun e T => some (e, T)) f x.1 x.2.1 x.2.2) (fun j => (bx_sum (wsI T) j, nI j, T)) (vns T) _ ?_ ?_ n (by omega)
  · intro j hj f
    obtain ⟨c1, ok, -⟩ := h4 j hj
    show fX10_wasteOfAll_L4 n _ (f + 1) _ (nI j) T = _
    rw [fX10_wasteOfAll_L4, h1, if_neg (nI_ge hj (by omega)), ck_nI (by omega) (by decide), ck_nI (by omega) (by decide), nI_clamp (by omega), c1, wasteOf_eq (by omega) d1 d6 ok.1]
    simp only [nm, bd]
    rw [nI_1]
    rfl
  · intro f
    show fX10_wasteOfAll_L4 n _ (f + 1) _ (nI (vns T)) T = _
    rw [fX10_wasteOfAll_L4, h1, if_pos (nI_le (Nat.le_refl _) (by omega))]
theorem mwaste_eq {n : Nat} {T : TS} (hn : 100 ≤ n) (hM : GM T) (hS : GS T) : fX11_plan_L82 n (fun e2_3 T_4 => some (e2_3, T_4)) n 0 0 T = some (bx_sum (wsI T) (vns T), T) := by
  obtain ⟨h1, h2, h3, h4, h5, -⟩ := hS
  obtain ⟨d1, d2, d6⟩ := hM.d
  refine lpn (fun f (x : Int32 × Int32 × TS) => fX11_plan_L82 n (fun e T => some (e, T)) f x.1 x.2.1 x.2.2) (fun j => (bx_sum (wsI T) j, nI j, T)) (vns T) _ ?_ ?_ n (by omega)
  · intro j hj f
    obtain ⟨c1, ok, c3, c4, -⟩ := h4 j hj
    have r1 := h5 j (by omega)
    show fX11_plan_L82 n _ (f + 1) _ (nI j) T = _
    rw [fX11_plan_L82, h2, h1, if_neg (nI_ge hj (by omega)), ck_nI (by omega) (by decide), ck_nI (by omega) (by decide), nI_clamp (by omega), sumOf_eq (by omega) d2 d6 (by omega) (by omega), bx_congr (f := fun i => gA T (gO T 48 j) i * gA T 42 i) (g := fun i => nI (cn (vcs T j) i) * gA T 2 i) (fun i hi => by rw [c3 i (by omega), (hM.2.2.2.1 i hi).2.2.2]), c4, hM.2.1.1]
    simp only [nm, bd]
    rw [nI_1]
    rfl
  · intro f
    show fX11_plan_L82 n _ (f + 1) _ (nI (vns T)) T = _
    rw [fX11_plan_L82, h2, h1, if_pos (nI_le (Nat.le_refl _) (by omega))]
theorem movesAll_eq {n : Nat} {T : TS} (hn : 100 ≤ n) (hM : GM T) (hS : GS T) (hL : GL T) : ∃ T', fX10_movesOfAll n T = some (nI (nsum (mvS T) (vns T)), T') ∧ FR [1100, 1200] [23, 25] 0 0 T T' := by
  unfold fX10_movesOfAll
  have h3 := hS.2.2.1
  refine lpi (fun f (x : Int32 × Int32 × TS) => fX10_movesOfAll_L4 n (fun e T => some (e, T)) f x.1 x.2.1 x.2.2) (fun j s => s.1 = nI (nsum (mvS T) j) ∧ s.2.1 = nI j ∧ FR [1100, 1200] [23, 25] 0 0 T s.2.2) (vns T) (fun r => ∃ T', r = some (nI (nsum (mvS T) (vns T)), T') ∧ FR [1100, 1200] [23, 25] 0 0 T T') ?_ ?_ n (0, 0, T) (by omega) ⟨rfl, rfl, FR.rf⟩
  · rintro j ⟨a, b, U⟩ hj ⟨e1, e2, f1⟩
    simp only at e1 e2 f1
    subst e1 e2
    have eN : vns U = vns T := by unfold vns; rw [f1.I (by decide)]
    have eC : ∀ k, vcs U k = vcs T k := fun k => by unfold vcs; rw [f1.A (by decide) (by decide)]
    obtain ⟨V, g1, g2⟩ := movesTo_eq (n := n) (T := U) (s := j) hn (hM.fr f1 (by decide) (by decide)) (hS.fr f1 (by decide) (by decide) (by decide)) (hL.fr f1 (by decide) (by decide)) (by rw [eN]; exact hj)
    have em : mvS U j = mvS T j := by
      unfold mvS
      rw [eC, eC, eC, mvF_fr f1 (by decide) (by decide) (by decide) (by decide), mvP_fr f1 (by decide) (by decide)]
    refine ⟨(nI (nsum (mvS T) (j + 1)), nI (j + 1), V), ⟨rfl, rfl, f1.trans g2⟩, fun f => ?_⟩
    show fX10_movesOfAll_L4 n _ (f + 1) _ (nI j) U = _
    rw [fX10_movesOfAll_L4, f1.I (k := 550) (by decide), hS.1, if_neg (nI_ge hj (by omega)), g1, em]
    simp only [bd, nm]
    rw [nI_add, nI_1]
    rfl
  · rintro ⟨a, b, U⟩ ⟨e1, e2, f1⟩ f
    simp only at e1 e2 f1
    subst e1 e2
    refine ⟨U, ?_, f1⟩
    show fX10_movesOfAll_L4 n _ (f + 1) _ (nI (vns T)) U = _
    rw [fX10_movesOfAll_L4, f1.I (k := 550) (by decide), hS.1, if_pos (nI_le (Nat.le_refl _) (by omega))]
theorem mmovesAll_eq {n : Nat} {T : TS} (hn : 100 ≤ n) (hM : GM T) (hS : GS T) (hL : GL T) : ∃ T', fX11_plan_L125 n (fun e T => some (e, T)) n 0 0 T = some (nI (nsum (mvS T) (vns T)), T') ∧ FR [] [59, 60] 0 0 T T' := by
  have h3 := hS.2.2.1
  refine lpi (fun f (x : Int32 × Int32 × TS) => fX11_plan_L125 n (fun e T => some (e, T)) f x.1 x.2.1 x.2.2) (fun j s => s.1 = nI (nsum (mvS T) j) ∧ s.2.1 = nI j ∧ FR [] [59, 60] 0 0 T s.2.2) (vns T) (fun r => ∃ T', r = some (nI (nsum (mvS T) (vns T)), T') ∧ FR [] [59, 60] 0 0 T T') ?_ ?_ n (0, 0, T) (by omega) ⟨rfl, rfl, FR.rf⟩
  · rintro j ⟨a, b, U⟩ hj ⟨e1, e2, f1⟩
    simp only at e1 e2 f1
    subst e1 e2
    have eN : vns U = vns T := by unfold vns; rw [f1.I (by decide)]
    have eC : ∀ k, vcs U k = vcs T k := fun k => by unfold vcs; rw [f1.A (by decide) (by decide)]
    obtain ⟨V, g1, g2⟩ := moves_eqS (n := n) (T := U) (s := j) hn (hM.fr f1 (by decide) (by decide)) (hS.fr f1 (by decide) (by decide) (by decide)) (hL.fr f1 (by decide) (by decide)) (by rw [eN]; exact hj)
    have em : mvS U j = mvS T j := by
      unfold mvS
      rw [eC, eC, eC, mvF_fr f1 (by decide) (by decide) (by decide) (by decide), mvP_fr f1 (by decide) (by decide)]
    refine ⟨(nI (nsum (mvS T) (j + 1)), nI (j + 1), V), ⟨rfl, rfl, f1.trans g2⟩, fun f => ?_⟩
    show fX11_plan_L125 n _ (f + 1) _ (nI j) U = _
    rw [fX11_plan_L125, f1.I (k := 2067) (by decide), hS.2.1, hS.1, if_neg (nI_ge hj (by omega)), g1, em]
    simp only [bd, nm]
    rw [nI_add, nI_1]
    rfl
  · rintro ⟨a, b, U⟩ ⟨e1, e2, f1⟩ f
    simp only at e1 e2 f1
    subst e1 e2
    refine ⟨U, ?_, f1⟩
    show fX11_plan_L125 n _ (f + 1) _ (nI (vns T)) U = _
    rw [fX11_plan_L125, f1.I (k := 2067) (by decide), hS.2.1, hS.1, if_pos (nI_le (Nat.le_refl _) (by omega))]
def plI (T : TS) (i : Nat) : Int32 := bx_sum (fun s => gA T 13 s * nI (cn (vcs T s) i)) (vns T)
def waI (T : TS) (i : Nat) : Int32 := imax 0 (gA T 8 i - gA T 9 i)
theorem wanted_I {n i : Nat} {T : TS} (hi : i < 6) : fX6_wanted n (nI i) T = some (waI T i, T) := by
  unfold fX6_wanted
  rw [ck_nI hi (by decide), ck_nI hi (by decide), nI_clamp (by omega)]
  rfl
theorem mwanted_I {n i c : Nat} {T : TS} (hO : GO c T) (hi : i < 6) : fX11_wanted n (nI i) T = some (waI T i, T) := by
  obtain ⟨x, y, z, w1, w2, w3, w4, w5, w6, w7, w8, w9⟩ := hO.2.2 i hi
  unfold fX11_wanted
  rw [ck_nI hi (by decide), ck_nI hi (by decide), nI_clamp (by omega), w5, w7]
  unfold waI
  rw [w4, w6]
section FOUR
variable {n c : Nat} {T : TS}
theorem missing_eq (hn : 100 ≤ n) (hM : GM T) (hS : GS T) : fX10_piecesMissing n T = some (bx_sum (fun i => imax 0 (waI T i - plI T i)) (vd T), T) := by
  obtain ⟨d1, d2, d6⟩ := hM.d
  unfold fX10_piecesMissing
  refine lpn (fun f (x : Int32 × Int32 × TS) => fX10_piecesMissing_L4 n (fun e T => some (e, T)) f x.1 x.2.1 x.2.2) (fun j => (bx_sum (fun i => imax 0 (waI T i - plI T i)) j, nI j, T)) (vd T) _ ?_ ?_ n (by omega)
  · intro j hj f
    show fX10_piecesMissing_L4 n _ (f + 1) _ (nI j) T = _
    rw [fX10_piecesMissing_L4, d1, if_neg (nI_ge hj (by omega)), wanted_I (by omega)]
    simp only [bd]
    rw [piecesOf_eq hn hS (by omega)]
    simp only [nm]
    rw [nI_1]
    rfl
  · intro f
    show fX10_piecesMissing_L4 n _ (f + 1) _ (nI (vd T)) T = _
    rw [fX10_piecesMissing_L4, d1, if_pos (nI_le (Nat.le_refl _) (by omega))]
theorem beyond_eq (hn : 100 ≤ n) (hM : GM T) (hS : GS T) : fX10_piecesBeyond n T = some (bx_sum (fun i => imax 0 (plI T i - waI T i)) (vd T), T) := by
  obtain ⟨d1, d2, d6⟩ := hM.d
  unfold fX10_piecesBeyond
  refine lpn (fun f (x : Int32 × Int32 × TS) => fX10_piecesBeyond_L4 n (fun e T => some (e, T)) f x.1 x.2.1 x.2.2) (fun j => (bx_sum (fun i => imax 0 (plI T i - waI T i)) j, nI j, T)) (vd T) _ ?_ ?_ n (by omega)
  · intro j hj f
    show fX10_piecesBeyond_L4 n _ (f + 1) _ (nI j) T = _
    rw [fX10_piecesBeyond_L4, d1, if_neg (nI_ge hj (by omega)), piecesOf_eq hn hS (by omega)]
    simp only [bd]
    rw [wanted_I (by omega)]
    simp only [nm]
    rw [nI_1]
    rfl
  · intro f
    show fX10_piecesBeyond_L4 n _ (f + 1) _ (nI (vd T)) T = _
    rw [fX10_piecesBeyond_L4, d1, if_pos (nI_le (Nat.le_refl _) (by omega))]
theorem mmissing_eq (hn : 100 ≤ n) (hM : GM T) (hS : GS T) (hO : GO c T) : fX11_plan_L154 n (fun e T => some (e, T)) n 0 0 T = some (bx_sum (fun i => imax 0 (waI T i - plI T i)) (vd T), T) := by
  obtain ⟨d1, d2, d6⟩ := hM.d
  refine lpn (fun f (x : Int32 × Int32 × TS) => fX11_plan_L154 n (fun e T => some (e, T)) f x.1 x.2.1 x.2.2) (fun j => (bx_sum (fun i => imax 0 (waI T i - plI T i)) j, nI j, T)) (vd T) _ ?_ ?_ n (by omega)
  · intro j hj f
    show fX11_plan_L154 n _ (f + 1) _ (nI j) T = _
    rw [fX11_plan_L154, d2, if_neg (nI_ge hj (by omega)), mwanted_I hO (by omega)]
    simp only [bd]
    rw [planned_eq hn hS (by omega)]
    simp only [nm]
    rw [nI_1]
    rfl
  · intro f
    show fX11_plan_L154 n _ (f + 1) _ (nI (vd T)) T = _
    rw [fX11_plan_L154, d2, if_pos (nI_le (Nat.le_refl _) (by omega))]
theorem mbeyond_eq (hn : 100 ≤ n) (hM : GM T) (hS : GS T) (hO : GO c T) : fX11_plan_L190 n (fun e T => some (e, T)) n 0 0 T = some (bx_sum (fun i => imax 0 (plI T i - waI T i)) (vd T), T) := by
  obtain ⟨d1, d2, d6⟩ := hM.d
  refine lpn (fun f (x : Int32 × Int32 × TS) => fX11_plan_L190 n (fun e T => some (e, T)) f x.1 x.2.1 x.2.2) (fun j => (bx_sum (fun i => imax 0 (plI T i - waI T i)) j, nI j, T)) (vd T) _ ?_ ?_ n (by omega)
  · intro j hj f
    show fX11_plan_L190 n _ (f + 1) _ (nI j) T = _
    rw [fX11_plan_L190, d2, if_neg (nI_ge hj (by omega)), planned_eq hn hS (by omega)]
    simp only [bd]
    rw [mwanted_I hO (by omega)]
    simp only [nm]
    rw [nI_1]
    rfl
  · intro f
    show fX11_plan_L190 n _ (f + 1) _ (nI (vd T)) T = _
    rw [fX11_plan_L190, d2, if_pos (nI_le (Nat.le_refl _) (by omega))]
end FOUR
theorem eq_plan {n c : Nat} {T : TS} (hn : 10000 ≤ n) (hI : Inv c T) (a : Int32) : Both c (fX10_plan n a) (fX11_plan n a) T := by
  have hM := hI.1
  have hS := hI.2.1
  have hO := hI.2.2.2.2.1
  have hL := hI.2.2.2.2.2.1
  have I1 : Inv (c + 1) (uI T 2050 0) := hI.th
  unfold Both fX10_plan fX11_plan
  simp only [nm]
  by_cases q0 : a = 0
  · rw [if_pos q0]
    refine ⟨_, T, _, rfl, ?_, I1⟩
    rw [if_pos q0]
    show some (gI T 2067, _) = _
    rw [hS.2.1]
  by_cases q1 : a = 1
  · rw [if_neg q0, if_pos q1, allRolls_eq (by omega) hS]
    refine ⟨_, T, _, rfl, ?_, I1⟩
    rw [if_neg q0, if_pos q1, mallRolls_eq (by omega) I1.2.1]
    rfl
  by_cases q2 : a = 2
  · rw [if_neg q0, if_neg q1, if_pos q2, waste_eq (by omega) hM hS]
    refine ⟨_, T, _, rfl, ?_, I1⟩
    rw [if_neg q0, if_neg q1, if_pos q2, mwaste_eq (by omega) I1.1 I1.2.1]
    rfl
  by_cases q3 : a = 3
  · rw [if_neg q0, if_neg q1, if_neg q2, if_pos q3]
    obtain ⟨U, g1, g2⟩ := movesAll_eq (n := n) (by omega) hM hS hL
    have g3 : FR [1100, 1200, 2050] [23, 25, 59, 60] 0 0 T (uI U 2050 0) := (g2.mono (by decide) (by decide) (fun _ => by omega)).trans (FR.uI (by decide))
    have IU := hI.lay g3
    obtain ⟨V, l1, l2⟩ := mmovesAll_eq (n := n) (T := uI U 2050 0) (by omega) IU.1 IU.2.1 IU.2.2.2.2.2.1
    have eN : vns (uI U 2050 0) = vns T := by unfold vns; rw [g3.I (by decide)]
    have eC : ∀ k, vcs (uI U 2050 0) k = vcs T k := fun k => by unfold vcs; rw [g3.A (by decide) (by decide)]
    have em : ∀ s, mvS (uI U 2050 0) s = mvS T s := fun s => by
      unfold mvS
      rw [eC, eC, eC, mvF_fr g3 (by decide) (by decide) (by decide) (by decide), mvP_fr g3 (by decide) (by decide)]
    rw [eN, nsum_congr (fun i _ => em i)] at l1
    rw [g1]
    refine ⟨_, U, V, rfl, ?_, hI.lay (g3.trans (l2.mono (by decide) (by decide) (fun _ => by omega)))⟩
    rw [if_neg q0, if_neg q1, if_neg q2, if_pos q3]
    exact l1
  by_cases q4 : a = 4
  · rw [if_neg q0, if_neg q1, if_neg q2, if_neg q3, if_pos q4, missing_eq (by omega) hM hS]
    refine ⟨_, T, _, rfl, ?_, I1⟩
    rw [if_neg q0, if_neg q1, if_neg q2, if_neg q3, if_pos q4, mmissing_eq (by omega) I1.1 I1.2.1 I1.2.2.2.2.1]
    rfl
  by_cases q5 : a = 5
  · rw [if_neg q0, if_neg q1, if_neg q2, if_neg q3, if_neg q4, if_pos q5, beyond_eq (by omega) hM hS]
    refine ⟨_, T, _, rfl, ?_, I1⟩
    rw [if_neg q0, if_neg q1, if_neg q2, if_neg q3, if_neg q4, if_pos q5, mbeyond_eq (by omega) I1.1 I1.2.1 I1.2.2.2.2.1]
    rfl
  · rw [if_neg q0, if_neg q1, if_neg q2, if_neg q3, if_neg q4, if_neg q5]
    refine ⟨_, T, _, rfl, ?_, I1⟩
    rw [if_neg q0, if_neg q1, if_neg q2, if_neg q3, if_neg q4, if_neg q5]
