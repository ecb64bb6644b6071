/-! ===== cut: both ===== -/
theorem isL_yes {n l m : Nat} {T : TS} (h : gI T 1800 = nI m) (hs : l < m) (h60 : m ≤ 8) : fX9_isLot n (nI l) T = some (1, T) := by
  unfold fX9_isLot
  rw [if_neg (nI_pos (by omega)), h, if_neg (nI_ge hs (by omega))]
  rfl
theorem isL_no {n m : Nat} {a : Int32} {T : TS} (h : gI T 1800 = nI m) (h60 : m ≤ 8) (hk : ¬ ∃ j, j < m ∧ a = nI j) : fX9_isLot n a T = some (0, T) := by
  unfold fX9_isLot
  rcases ix_cases a h (by omega) with h1 | ⟨h1, h2⟩ | h1
  · rw [if_pos h1]; rfl
  · rw [if_neg h1, if_pos h2]; rfl
  · exact absurd h1 hk
theorem eq_cut {n c : Nat} {T : TS} (hn : 10000 ≤ n) (hI : Inv c T) (p0 p1 p2 : Int32) : Both c (fX10_cut n p0 p1 p2) (fX11_cut n p0 p1 p2) T := by
  have hM := hI.1
  have hS := hI.2.1
  obtain ⟨m, hm, e1, e2, hall⟩ := hI.2.2.2.2.2.2.1
  obtain ⟨-, ⟨v, hv0, hv, hv2, hv3⟩, -⟩ := hI.2.2.2.2.1
  have s1 : gI T 550 = nI (vns T) := hS.1
  have s2 : gI T 2067 = nI (vns T) := hS.2.1.trans s1
  have s3 := hS.2.2.1
  have I1 : Inv (c + 1) (uI T 2050 0) := hI.th
  have one : ¬ (1 : Int32) = 0 := by decide
  unfold Both
  simp only [ccut_unf, cut_unf, nm, fX10_refusalOfCut]
  by_cases hk : ¬ ∃ j, j < vns T ∧ p0 = nI j
  · rw [isS_no s1 s3 hk]
    refine ⟨1, T, uI T 2050 0, rfl, ?_, I1⟩
    rw [isSm_no (show gI (uI T 2050 0) 2067 = nI (vns T) from s2) s3 hk]
    rfl
  obtain ⟨s, hs, rfl⟩ := Classical.not_not.mp hk
  obtain ⟨c1, ok, c3, c4, r, hr, hr2, h13⟩ := hS.2.2.2.1 s hs
  have hq := hS.2.2.2.2.1 s (by omega)
  have k60 : ∀ {z : Option (Int32 × TS)}, ck (nI s) 60 z = z := ck_nI (by omega) (by decide)
  have kcs : (nI s).toNatClampNeg = s := nI_clamp (by omega)
  rw [isS_yes s1 hs s3]
  simp only [bd]
  rw [if_pos one]
  have sy : ∀ U, gI U 2067 = nI (vns T) → fX11_isSlot n (nI s) U = some (1, U) := fun U h => isSm_yes h hs s3
  by_cases hk2 : ¬ ∃ j, j < m ∧ p1 = nI j
  · rw [isL_no e1 hm hk2]
    refine ⟨2, T, uI T 2050 0, rfl, ?_, I1⟩
    rw [sy (uI T 2050 0) s2]
    simp only
    rw [if_pos one, show gI (uI T 2050 0) 2087 = nI m from e2, in_no hk2 (by omega)]
    rfl
  obtain ⟨l, hl, rfl⟩ := Classical.not_not.mp hk2
  obtain ⟨a, b, f, ha0, ha, hb2, hf, h37, h62, h38, h63, h39, h64⟩ := hall l hl
  have k8 : ∀ {z : Option (Int32 × TS)}, ck (nI l) 8 z = z := ck_nI (by omega) (by decide)
  have kcl : (nI l).toNatClampNeg = l := nI_clamp (by omega)
  have ly : ∀ U, gI U 2087 = nI m → fX11_in n (nI l) 0 (gI U 2087 - 1) U = some (1, U) := fun U h => by rw [h]; exact in_yes hl (by omega)
  rw [isL_yes e1 hl hm]
  simp only
  rw [if_pos one, k8, kcl, h38]
  by_cases hb : b = 0
  · subst hb
    rw [if_neg (show ¬ (1 : Int32) ≤ nI 0 by decide)]
    refine ⟨3, T, uI T 2050 0, rfl, ?_, I1⟩
    rw [sy (uI T 2050 0) s2]
    simp only
    rw [if_pos one, ly (uI T 2050 0) e2]
    simp only
    rw [if_pos one, k8, show gA (uI T 2050 0) 63 l = nI 0 from h63, if_neg (fun q => q rfl)]
  have hb1 : 1 ≤ b := by omega
  have b0 : ¬ nI b = 0 := fun q => hb ((nI_eq (b := 0) (by omega) (by decide)).mp q)
  rw [if_pos (show (1 : Int32) ≤ nI b from nI_le (a := 1) hb1 (by omega)), k8, h37]
  by_cases hk3 : ¬ ∃ j, 1 ≤ j ∧ j ≤ a ∧ p2 = nI j
  · rw [show fX10_within n p2 1 (nI a) T = some (0, T) from wi_no (a := 1) (by decide) (by omega) hk3]
    refine ⟨4, T, uI T 2050 0, rfl, ?_, I1⟩
    rw [sy (uI T 2050 0) s2]
    simp only
    rw [if_pos one, ly (uI T 2050 0) e2]
    simp only
    rw [if_pos one, k8, show gA (uI T 2050 0) 63 l = nI b from h63, if_pos b0, k8, show gA (uI T 2050 0) 62 l = nI a from h62, show fX11_in n p2 1 (nI a) (uI T 2050 0) = some (0, uI T 2050 0) from mi_no (a := 1) (by decide) (by omega) hk3]
    rfl
  obtain ⟨t, ht1, ht, rfl⟩ := Classical.not_not.mp hk3
  rw [show fX10_within n (nI t) 1 (nI a) T = some (1, T) from wi_yes (a := 1) ht1 ht (by omega)]
  simp only
  rw [if_pos one, k8, h39]
  obtain ⟨V, g1, fV, -⟩ := cct_eq (n := n) hn hI hs e1 hm hl h37 h38 h39 hb1 ht ha hf hv2 hv0 hv h13 hr hr2
  obtain ⟨R, q1, IR⟩ := cut_rest (n := n) (T := T) (V := V) hn hI hs e1 e2 hm hl hall h37 h38 h39 h62 h63 h64 hb1 hb2 ht1 ht ha hf hv2 hv3 hv0 hv h13 hr hr2 g1 _ rfl
  have ty : ∀ U, fX11_in n (nI t) 1 (nI a) U = some (1, U) := fun U => mi_yes (a := 1) ht1 ht (by omega)
  have v0 : ¬ nI v = 0 := fun q => by have := (nI_eq (b := 0) (by omega) (by decide)).mp q; omega
  by_cases hf0 : f = 0
  · subst hf0
    rw [if_pos (show nI 0 = 0 from rfl)]
    simp only [if_true]
    refine ⟨0, V, R, g1, ?_, IR⟩
    rw [sy (uI V 2050 0) ((fV.1 2067 (by decide)).trans s2)]
    simp only
    rw [if_pos one, ly (uI V 2050 0) ((fV.1 2087 (by decide)).trans e2)]
    simp only
    rw [if_pos one, k8, gA_uI, fV.2.1 63 (by decide), h63, if_pos b0, k8, gA_uI, fV.2.1 62 (by decide), h62, ty]
    simp only
    rw [if_pos one, k60, k8, gA_uI, fV.2.1 64 (by decide), h64, if_pos (show nI 0 = 0 from rfl), kcs]
    rw [show gI (uI V 2050 0) 2062 = nI v from (fV.1 2062 (by decide)).trans hv3]
    unfold nz
    rw [if_neg v0, pk_div (by omega) (by omega) (by omega)]
    exact q1
  · have f0 : ¬ nI f = 0 := fun q => hf0 ((nI_eq (b := 0) (by omega) (by decide)).mp q)
    rw [if_neg f0, k60, kcs, c1, fits_eq hn hM ok.1]
    simp only
    have fW : FG [1800, 1200, 1000, 550, 2050] [37, 38, 39, 9, 25, 21, 12, 13] [0, 1, 2, 3, 4, 5] [] [] T (uI V 2050 0) := (fV.mono (by decide) (by decide) (by decide) (by decide) (by decide)).trans (FG.uI (by decide))
    have mf : ∀ U, GM U → (∀ i, i < 6 → gA U (gO T 48 s) i = nI (cn (vcs T s) i)) → FLW U (vcs T s) = FLW T (vcs T s) → fX11_fitsFlawed n (gO T 48 s) U = some (b01 (FLW T (vcs T s)), U) := fun U hU hc he => by rw [mfits_eq hn hU (by omega) (by omega) hc, he]
    cases hF : FLW T (vcs T s) with
    | false =>
      rw [if_neg (show ¬ ¬ b01 false = 0 from fun q => q rfl)]
      simp only
      refine ⟨5, T, uI T 2050 0, ?_, ?_, I1⟩
      · rw [if_neg (by decide)]
      · rw [sy (uI T 2050 0) s2]
        simp only
        rw [if_pos one, ly (uI T 2050 0) e2]
        simp only
        rw [if_pos one, k8, show gA (uI T 2050 0) 63 l = nI b from h63, if_pos b0, k8, show gA (uI T 2050 0) 62 l = nI a from h62, ty]
        simp only
        rw [if_pos one, k60, k8, show gA (uI T 2050 0) 64 l = nI f from h64, if_neg f0, show gO (uI T 2050 0) 48 s = gO T 48 s from rfl, mf (uI T 2050 0) I1.1 c3 rfl, hF]
        rfl
    | true =>
      rw [if_pos (show ¬ b01 true = 0 by decide)]
      simp only [if_true]
      refine ⟨0, V, R, g1, ?_, IR⟩
      rw [sy (uI V 2050 0) ((fV.1 2067 (by decide)).trans s2)]
      simp only
      rw [if_pos one, ly (uI V 2050 0) ((fV.1 2087 (by decide)).trans e2)]
      simp only
      rw [if_pos one, k8, gA_uI, fV.2.1 63 (by decide), h63, if_pos b0, k8, gA_uI, fV.2.1 62 (by decide), h62, ty]
      simp only
      have oW : gO (uI V 2050 0) 48 = gO T 48 := fW.2.2.2.2 48 (by decide)
      have eF : FLW (uI V 2050 0) (vcs T s) = FLW T (vcs T s) := by
        unfold FLW vd
        rw [fW.1 50 (by decide), fW.1 51 (by decide), fW.1 53 (by decide), fW.1 54 (by decide), fW.1 55 (by decide), fW.2.1 2 (by decide)]
      rw [if_pos one, k60, k8, gA_uI, fV.2.1 64 (by decide), h64, if_neg f0, oW, mf _ (hM.fg fW (by decide) (by decide)) (fun i hi => by rw [fW.2.1 _ (by simp only [List.mem_cons, List.not_mem_nil, or_false]; omega)]; exact c3 i hi) eF, hF]
      simp only
      rw [if_pos (show ¬ b01 true = 0 by decide)]
      rw [show gI (uI V 2050 0) 2062 = nI v from (fV.1 2062 (by decide)).trans hv3]
      unfold nz
      rw [if_neg v0, pk_div (by omega) (by omega) (by omega)]
      rw [oW] at q1
      exact q1
