/-! ===== copies of PLANS ===== -/
theorem cp_14_11 {n m : Nat} {T : TS} (hn : 10000 ≤ n) (hm : gI T 550 = nI m) (h60 : m ≤ 60) : ∃ T', fX8_copyFrom_14_11 n T = some T' ∧ FR [700] [15, 16] 0 0 T T' ∧ gI T' 700 = nI m ∧ ∀ s, s < m → gA T' 15 s = gA T 12 s ∧ gA T' 16 s = gA T 13 s := by
  unfold fX8_copyFrom_14_11
  simp only [nm]
  rw [hm]
  have f0 : FR [700] [15, 16] 0 0 T (uI T 700 (nI m)) := FR.uI (by decide)
  refine lpi (fun f (x : Int32 × TS) => fX8_copyFrom_14_11_L10 n (fun T_4 => some T_4) f x.1 x.2) (fun j x => x.1 = nI j ∧ FR [700] [15, 16] 0 0 T x.2 ∧ gI x.2 700 = nI m ∧ ∀ s, s < j → gA x.2 15 s = gA T 12 s ∧ gA x.2 16 s = gA T 13 s) m (fun o => ∃ T', o = some T' ∧ FR [700] [15, 16] 0 0 T T' ∧ gI T' 700 = nI m ∧ ∀ s, s < m → gA T' 15 s = gA T 12 s ∧ gA T' 16 s = gA T 13 s) ?_ ?_ n (0, uI T 700 (nI m)) (by omega) ⟨rfl, f0, rfl, fun s hs => by omega⟩
  · rintro j ⟨x, U⟩ hj ⟨hx, hf, hz, hc⟩
    simp only at hx hf hz hc
    subst hx
    have e1 : gA U 12 = gA T 12 := hf.A (by decide) (by decide)
    have e2 : gA U 13 = gA T 13 := hf.A (by decide) (by decide)
    refine ⟨(nI (j + 1), sA (sA U 15 (nI j) (gA T 12 j)) 16 (nI j) (gA T 13 j)), ⟨rfl, (hf.trans (FR.sA (Or.inl (by decide)))).trans (FR.sA (Or.inl (by decide))), hz, fun s hs => ?_⟩, fun f => ?_⟩
    · have g1 : gA (sA (sA U 15 (nI j) (gA T 12 j)) 16 (nI j) (gA T 13 j)) 15 s = if s = j then gA T 12 j else gA U 15 s := by
        rw [zA_sA, if_neg (by decide), gA_sA_at (by omega)]
      have g2 : gA (sA (sA U 15 (nI j) (gA T 12 j)) 16 (nI j) (gA T 13 j)) 16 s = if s = j then gA T 13 j else gA U 16 s := by
        rw [gA_sA_at (by omega), show gA (sA U 15 (nI j) (gA T 12 j)) 16 = gA U 16 by rw [zA_sA, if_neg (by decide)]]
      by_cases h1 : s = j
      · subst h1
        exact ⟨by rw [g1, if_pos rfl], by rw [g2, if_pos rfl]⟩
      · have := hc s (by omega)
        exact ⟨by rw [g1, if_neg h1]; exact this.1, by rw [g2, if_neg h1]; exact this.2⟩
    · show fX8_copyFrom_14_11_L10 n _ (f + 1) (nI j) U = _
      have c6 : ∀ {z : Option TS}, ck (nI j) 60 z = z := ck_nI (by omega) (by decide)
      rw [fX8_copyFrom_14_11_L10, hz, if_neg (nI_ge hj (by omega)), c6, c6, nI_clamp (by omega)]
      simp only [nm]
      rw [c6, c6, nI_1, e1, show gA (sA U 15 (nI j) (gA T 12 j)) 13 = gA T 13 by rw [zA_sA, if_neg (by decide)]; exact e2]
  · rintro ⟨x, U⟩ ⟨hx, hf, hz, hc⟩ f
    simp only at hx hf hz hc
    subst hx
    refine ⟨U, ?_, hf, hz, hc⟩
    show fX8_copyFrom_14_11_L10 n _ (f + 1) (nI m) U = _
    rw [fX8_copyFrom_14_11_L10, hz, if_pos (nI_le (Nat.le_refl _) (by omega))]
theorem cp_11_14 {n m : Nat} {T : TS} (hn : 10000 ≤ n) (hm : gI T 700 = nI m) (h60 : m ≤ 60) : ∃ T', fX8_copyFrom_11_14 n T = some T' ∧ FR [550] [12, 13] 0 0 T T' ∧ gI T' 550 = nI m ∧ ∀ s, s < m → gA T' 12 s = gA T 15 s ∧ gA T' 13 s = gA T 16 s := by
  unfold fX8_copyFrom_11_14
  simp only [nm]
  rw [hm]
  have f0 : FR [550] [12, 13] 0 0 T (uI T 550 (nI m)) := FR.uI (by decide)
  refine lpi (fun f (x : Int32 × TS) => fX8_copyFrom_11_14_L10 n (fun T_4 => some T_4) f x.1 x.2) (fun j x => x.1 = nI j ∧ FR [550] [12, 13] 0 0 T x.2 ∧ gI x.2 550 = nI m ∧ ∀ s, s < j → gA x.2 12 s = gA T 15 s ∧ gA x.2 13 s = gA T 16 s) m (fun o => ∃ T', o = some T' ∧ FR [550] [12, 13] 0 0 T T' ∧ gI T' 550 = nI m ∧ ∀ s, s < m → gA T' 12 s = gA T 15 s ∧ gA T' 13 s = gA T 16 s) ?_ ?_ n (0, uI T 550 (nI m)) (by omega) ⟨rfl, f0, rfl, fun s hs => by omega⟩
  · rintro j ⟨x, U⟩ hj ⟨hx, hf, hz, hc⟩
    simp only at hx hf hz hc
    subst hx
    have e1 : gA U 15 = gA T 15 := hf.A (by decide) (by decide)
    have e2 : gA U 16 = gA T 16 := hf.A (by decide) (by decide)
    refine ⟨(nI (j + 1), sA (sA U 12 (nI j) (gA T 15 j)) 13 (nI j) (gA T 16 j)), ⟨rfl, (hf.trans (FR.sA (Or.inl (by decide)))).trans (FR.sA (Or.inl (by decide))), hz, fun s hs => ?_⟩, fun f => ?_⟩
    · have g1 : gA (sA (sA U 12 (nI j) (gA T 15 j)) 13 (nI j) (gA T 16 j)) 12 s = if s = j then gA T 15 j else gA U 12 s := by
        rw [zA_sA, if_neg (by decide), gA_sA_at (by omega)]
      have g2 : gA (sA (sA U 12 (nI j) (gA T 15 j)) 13 (nI j) (gA T 16 j)) 13 s = if s = j then gA T 16 j else gA U 13 s := by
        rw [gA_sA_at (by omega), show gA (sA U 12 (nI j) (gA T 15 j)) 13 = gA U 13 by rw [zA_sA, if_neg (by decide)]]
      by_cases h1 : s = j
      · subst h1
        exact ⟨by rw [g1, if_pos rfl], by rw [g2, if_pos rfl]⟩
      · have := hc s (by omega)
        exact ⟨by rw [g1, if_neg h1]; exact this.1, by rw [g2, if_neg h1]; exact this.2⟩
    · show fX8_copyFrom_11_14_L10 n _ (f + 1) (nI j) U = _
      have c6 : ∀ {z : Option TS}, ck (nI j) 60 z = z := ck_nI (by omega) (by decide)
      rw [fX8_copyFrom_11_14_L10, hz, if_neg (nI_ge hj (by omega)), c6, c6, nI_clamp (by omega)]
      simp only [nm]
      rw [c6, c6, nI_1, e1, show gA (sA U 12 (nI j) (gA T 15 j)) 16 = gA T 16 by rw [zA_sA, if_neg (by decide)]; exact e2]
  · rintro ⟨x, U⟩ ⟨hx, hf, hz, hc⟩ f
    simp only at hx hf hz hc
    subst hx
    refine ⟨U, ?_, hf, hz, hc⟩
    show fX8_copyFrom_11_14_L10 n _ (f + 1) (nI m) U = _
    rw [fX8_copyFrom_11_14_L10, hz, if_pos (nI_le (Nat.le_refl _) (by omega))]
theorem cp_11_17 {n m : Nat} {T : TS} (hn : 10000 ≤ n) (hm : gI T 850 = nI m) (h60 : m ≤ 60) : ∃ T', fX8_copyFrom_11_17 n T = some T' ∧ FR [550] [12, 13] 0 0 T T' ∧ gI T' 550 = nI m ∧ ∀ s, s < m → gA T' 12 s = gA T 18 s ∧ gA T' 13 s = gA T 19 s := by
  unfold fX8_copyFrom_11_17
  simp only [nm]
  rw [hm]
  have f0 : FR [550] [12, 13] 0 0 T (uI T 550 (nI m)) := FR.uI (by decide)
  refine lpi (fun f (x : Int32 × TS) => fX8_copyFrom_11_17_L10 n (fun T_4 => some T_4) f x.1 x.2) (fun j x => x.1 = nI j ∧ FR [550] [12, 13] 0 0 T x.2 ∧ gI x.2 550 = nI m ∧ ∀ s, s < j → gA x.2 12 s = gA T 18 s ∧ gA x.2 13 s = gA T 19 s) m (fun o => ∃ T', o = some T' ∧ FR [550] [12, 13] 0 0 T T' ∧ gI T' 550 = nI m ∧ ∀ s, s < m → gA T' 12 s = gA T 18 s ∧ gA T' 13 s = gA T 19 s) ?_ ?_ n (0, uI T 550 (nI m)) (by omega) ⟨rfl, f0, rfl, fun s hs => by omega⟩
  · rintro j ⟨x, U⟩ hj ⟨hx, hf, hz, hc⟩
    simp only at hx hf hz hc
    subst hx
    have e1 : gA U 18 = gA T 18 := hf.A (by decide) (by decide)
    have e2 : gA U 19 = gA T 19 := hf.A (by decide) (by decide)
    refine ⟨(nI (j + 1), sA (sA U 12 (nI j) (gA T 18 j)) 13 (nI j) (gA T 19 j)), ⟨rfl, (hf.trans (FR.sA (Or.inl (by decide)))).trans (FR.sA (Or.inl (by decide))), hz, fun s hs => ?_⟩, fun f => ?_⟩
    · have g1 : gA (sA (sA U 12 (nI j) (gA T 18 j)) 13 (nI j) (gA T 19 j)) 12 s = if s = j then gA T 18 j else gA U 12 s := by
        rw [zA_sA, if_neg (by decide), gA_sA_at (by omega)]
      have g2 : gA (sA (sA U 12 (nI j) (gA T 18 j)) 13 (nI j) (gA T 19 j)) 13 s = if s = j then gA T 19 j else gA U 13 s := by
        rw [gA_sA_at (by omega), show gA (sA U 12 (nI j) (gA T 18 j)) 13 = gA U 13 by rw [zA_sA, if_neg (by decide)]]
      by_cases h1 : s = j
      · subst h1
        exact ⟨by rw [g1, if_pos rfl], by rw [g2, if_pos rfl]⟩
      · have := hc s (by omega)
        exact ⟨by rw [g1, if_neg h1]; exact this.1, by rw [g2, if_neg h1]; exact this.2⟩
    · show fX8_copyFrom_11_17_L10 n _ (f + 1) (nI j) U = _
      have c6 : ∀ {z : Option TS}, ck (nI j) 60 z = z := ck_nI (by omega) (by decide)
      rw [fX8_copyFrom_11_17_L10, hz, if_neg (nI_ge hj (by omega)), c6, c6, nI_clamp (by omega)]
      simp only [nm]
      rw [c6, c6, nI_1, e1, show gA (sA U 12 (nI j) (gA T 18 j)) 19 = gA T 19 by rw [zA_sA, if_neg (by decide)]; exact e2]
  · rintro ⟨x, U⟩ ⟨hx, hf, hz, hc⟩ f
    simp only at hx hf hz hc
    subst hx
    refine ⟨U, ?_, hf, hz, hc⟩
    show fX8_copyFrom_11_17_L10 n _ (f + 1) (nI m) U = _
    rw [fX8_copyFrom_11_17_L10, hz, if_pos (nI_le (Nat.le_refl _) (by omega))]
theorem cp_17_11 {n m : Nat} {T : TS} (hn : 10000 ≤ n) (hm : gI T 550 = nI m) (h60 : m ≤ 60) : ∃ T', fX8_copyFrom_17_11 n T = some T' ∧ FR [850] [18, 19] 0 0 T T' ∧ gI T' 850 = nI m ∧ ∀ s, s < m → gA T' 18 s = gA T 12 s ∧ gA T' 19 s = gA T 13 s := by
  unfold fX8_copyFrom_17_11
  simp only [nm]
  rw [hm]
  have f0 : FR [850] [18, 19] 0 0 T (uI T 850 (nI m)) := FR.uI (by decide)
  refine lpi (fun f (x : Int32 × TS) => fX8_copyFrom_17_11_L10 n (fun T_4 => some T_4) f x.1 x.2) (fun j x => x.1 = nI j ∧ FR [850] [18, 19] 0 0 T x.2 ∧ gI x.2 850 = nI m ∧ ∀ s, s < j → gA x.2 18 s = gA T 12 s ∧ gA x.2 19 s = gA T 13 s) m (fun o => ∃ T', o = some T' ∧ FR [850] [18, 19] 0 0 T T' ∧ gI T' 850 = nI m ∧ ∀ s, s < m → gA T' 18 s = gA T 12 s ∧ gA T' 19 s = gA T 13 s) ?_ ?_ n (0, uI T 850 (nI m)) (by omega) ⟨rfl, f0, rfl, fun s hs => by omega⟩
  · rintro j ⟨x, U⟩ hj ⟨hx, hf, hz, hc⟩
    simp only at hx hf hz hc
    subst hx
    have e1 : gA U 12 = gA T 12 := hf.A (by decide) (by decide)
    have e2 : gA U 13 = gA T 13 := hf.A (by decide) (by decide)
    refine ⟨(nI (j + 1), sA (sA U 18 (nI j) (gA T 12 j)) 19 (nI j) (gA T 13 j)), ⟨rfl, (hf.trans (FR.sA (Or.inl (by decide)))).trans (FR.sA (Or.inl (by decide))), hz, fun s hs => ?_⟩, fun f => ?_⟩
    · have g1 : gA (sA (sA U 18 (nI j) (gA T 12 j)) 19 (nI j) (gA T 13 j)) 18 s = if s = j then gA T 12 j else gA U 18 s := by
        rw [zA_sA, if_neg (by decide), gA_sA_at (by omega)]
      have g2 : gA (sA (sA U 18 (nI j) (gA T 12 j)) 19 (nI j) (gA T 13 j)) 19 s = if s = j then gA T 13 j else gA U 19 s := by
        rw [gA_sA_at (by omega), show gA (sA U 18 (nI j) (gA T 12 j)) 19 = gA U 19 by rw [zA_sA, if_neg (by decide)]]
      by_cases h1 : s = j
      · subst h1
        exact ⟨by rw [g1, if_pos rfl], by rw [g2, if_pos rfl]⟩
      · have := hc s (by omega)
        exact ⟨by rw [g1, if_neg h1]; exact this.1, by rw [g2, if_neg h1]; exact this.2⟩
    · show fX8_copyFrom_17_11_L10 n _ (f + 1) (nI j) U = _
      have c6 : ∀ {z : Option TS}, ck (nI j) 60 z = z := ck_nI (by omega) (by decide)
      rw [fX8_copyFrom_17_11_L10, hz, if_neg (nI_ge hj (by omega)), c6, c6, nI_clamp (by omega)]
      simp only [nm]
      rw [c6, c6, nI_1, e1, show gA (sA U 18 (nI j) (gA T 12 j)) 13 = gA T 13 by rw [zA_sA, if_neg (by decide)]; exact e2]
  · rintro ⟨x, U⟩ ⟨hx, hf, hz, hc⟩ f
    simp only at hx hf hz hc
    subst hx
    refine ⟨U, ?_, hf, hz, hc⟩
    show fX8_copyFrom_17_11_L10 n _ (f + 1) (nI m) U = _
    rw [fX8_copyFrom_17_11_L10, hz, if_pos (nI_le (Nat.le_refl _) (by omega))]
theorem mcp_48_52 {n m : Nat} {T : TS} (hn : 10000 ≤ n) (h60 : m ≤ 60) (hA : ∀ s, s < 60 → 3067 ≤ gO T 48 s ∧ gO T 48 s < 3127) (hC : ∀ s, s < 60 → 3187 ≤ gO T 52 s ∧ gO T 52 s < 3247) (hi : ∀ s t, s < 60 → t < 60 → gO T 52 s = gO T 52 t → s = t) : ∃ T', fX11_copy_48_49_52_53 n (nI m) T = some T' ∧ FR [] [53] 3187 3247 T T' ∧ ∀ s, s < m → (∀ i, i < 6 → gA T' (gO T 52 s) i = gA T (gO T 48 s) i) ∧ gA T' 53 s = gA T 49 s := by
  unfold fX11_copy_48_49_52_53
  -- one row
  have row : ∀ (U : TS) (j : Nat) (kk : TS → Option TS), gO U 48 = gO T 48 → gO U 52 = gO T 52 → j < 60 → fX11_copy_48_49_52_53_L12 n (nI m) (nI j) kk n 0 U = kk (uA U (gO T 52 j) (fun i => if i < 6 then gA U (gO T 48 j) i else gA U (gO T 52 j) i)) := by
    intro U j kk h1 h2 hj
    have a1 := hA j hj
    have c1 := hC j hj
    refine rowcp (fun f x V => fX11_copy_48_49_52_53_L12 n (nI m) (nI j) kk f x V) U (gO T 48 j) (gO T 52 j) kk ?_ ?_ n (by omega)
    · intro i hi2 f
      generalize hV : uA U (gO T 52 j) (fun k => if k < i then gA U (gO T 48 j) k else gA U (gO T 52 j) k) = V
      have v1 : gO V 48 = gO T 48 := by subst hV; exact h1
      have v2 : gO V 52 = gO T 52 := by subst hV; exact h2
      have v4 : ∀ k, gA V (gO T 48 j) k = gA U (gO T 48 j) k := fun k => by subst hV; rw [zA_uA, if_neg (by omega)]
      show fX11_copy_48_49_52_53_L12 n (nI m) (nI j) kk (f + 1) (nI i) V = _
      rw [fX11_copy_48_49_52_53_L12, if_neg (show ¬ (6 : Int32) ≤ nI i from nI_ge (b := 6) hi2 (by decide)), ck_nI hj (by decide), ck_nI hj (by decide), nI_clamp (show j < 2 ^ 31 by omega), v1, v2, ak_row (by omega) (by omega), al_6 (by omega), ck_nI hi2 (by decide), ak_row (by omega) (by omega), al_6 (by omega), ck_nI hi2 (by decide), nI_clamp (show i < 2 ^ 31 by omega), v4]
      simp only [nm]
      rw [nI_1]
    · intro f
      show fX11_copy_48_49_52_53_L12 n (nI m) (nI j) kk (f + 1) (nI 6) _ = _
      rw [fX11_copy_48_49_52_53_L12, if_pos (show (6 : Int32) ≤ nI 6 by decide)]
  refine lpi (fun f (x : Int32 × TS) => fX11_copy_48_49_52_53_L3 n (nI m) (fun T_4 => some T_4) f x.1 x.2) (fun j x => x.1 = nI j ∧ FR [] [53] 3187 3247 T x.2 ∧ ∀ s, s < j → (∀ i, i < 6 → gA x.2 (gO T 52 s) i = gA T (gO T 48 s) i) ∧ gA x.2 53 s = gA T 49 s) m (fun o => ∃ T', o = some T' ∧ FR [] [53] 3187 3247 T T' ∧ ∀ s, s < m → (∀ i, i < 6 → gA T' (gO T 52 s) i = gA T (gO T 48 s) i) ∧ gA T' 53 s = gA T 49 s) ?_ ?_ n (0, T) (by omega) ⟨rfl, FR.rf, fun s hs => by omega⟩
  · rintro j ⟨x, U⟩ hj ⟨hx, hf, hc⟩
    simp only at hx hf hc
    subst hx
    have a1 := hA j (by omega)
    have c1 := hC j (by omega)
    have eA : gA U (gO T 48 j) = gA T (gO T 48 j) := hf.A (fun z => by simp only [List.mem_cons, List.not_mem_nil, or_false] at z; omega) (by omega)
    have eB : gA U 49 = gA T 49 := hf.A (by decide) (by decide)
    generalize hV : uA U (gO T 52 j) (fun i => if i < 6 then gA U (gO T 48 j) i else gA U (gO T 52 j) i) = V
    have fV : FR [] [53] 3187 3247 T V := by subst hV; exact hf.trans (FR.uA (Or.inr ⟨c1.1, c1.2⟩))
    refine ⟨(nI (j + 1), sA V 53 (nI j) (gA T 49 j)), ⟨rfl, fV.trans (FR.sA (Or.inl (by decide))), fun s hs => ?_⟩, fun f => ?_⟩
    · have cs := hC s (by omega)
      constructor
      · intro i hi2
        rw [zA_sA, if_neg (by omega)]
        subst hV
        rw [zA_uA]
        by_cases h1 : s = j
        · subst h1
          rw [if_pos rfl, if_pos hi2, eA]
        · rw [if_neg (fun q => h1 (hi s j (by omega) (by omega) q))]
          exact (hc s (by omega)).1 i hi2
      · rw [gA_sA_at (by omega)]
        by_cases h1 : s = j
        · rw [if_pos h1, h1]
        · rw [if_neg h1]
          subst hV
          rw [zA_uA, if_neg (by omega)]
          exact (hc s (by omega)).2
    · show fX11_copy_48_49_52_53_L3 n (nI m) _ (f + 1) (nI j) U = fX11_copy_48_49_52_53_L3 n (nI m) _ f (nI (j + 1)) _
      rw [fX11_copy_48_49_52_53_L3, if_neg (nI_ge hj (by omega)), row U j _ (hf.O 48) (hf.O 52) (by omega), hV]
      have c6 : ∀ {z : Option TS}, ck (nI j) 60 z = z := ck_nI (by omega) (by decide)
      rw [c6, c6, nI_clamp (by omega)]
      simp only [nm]
      rw [nI_1, show gA V 49 = gA T 49 from fV.A (by decide) (by decide)]
  · rintro ⟨x, U⟩ ⟨hx, hf, hc⟩ f
    simp only at hx hf hc
    subst hx
    refine ⟨U, ?_, hf, hc⟩
    show fX11_copy_48_49_52_53_L3 n (nI m) _ (f + 1) (nI m) U = _
    rw [fX11_copy_48_49_52_53_L3, if_pos (nI_le (Nat.le_refl _) (by omega))]
theorem mcp_52_48 {n m : Nat} {T : TS} (hn : 10000 ≤ n) (h60 : m ≤ 60) (hA : ∀ s, s < 60 → 3187 ≤ gO T 52 s ∧ gO T 52 s < 3247) (hC : ∀ s, s < 60 → 3067 ≤ gO T 48 s ∧ gO T 48 s < 3127) (hi : ∀ s t, s < 60 → t < 60 → gO T 48 s = gO T 48 t → s = t) : ∃ T', fX11_copy_52_53_48_49 n (nI m) T = some T' ∧ FR [] [49] 3067 3127 T T' ∧ ∀ s, s < m → (∀ i, i < 6 → gA T' (gO T 48 s) i = gA T (gO T 52 s) i) ∧ gA T' 49 s = gA T 53 s := by
  unfold fX11_copy_52_53_48_49
  -- one row
  have row : ∀ (U : TS) (j : Nat) (kk : TS → Option TS), gO U 52 = gO T 52 → gO U 48 = gO T 48 → j < 60 → fX11_copy_52_53_48_49_L12 n (nI m) (nI j) kk n 0 U = kk (uA U (gO T 48 j) (fun i => if i < 6 then gA U (gO T 52 j) i else gA U (gO T 48 j) i)) := by
    intro U j kk h1 h2 hj
    have a1 := hA j hj
    have c1 := hC j hj
    refine rowcp (fun f x V => fX11_copy_52_53_48_49_L12 n (nI m) (nI j) kk f x V) U (gO T 52 j) (gO T 48 j) kk ?_ ?_ n (by omega)
    · intro i hi2 f
      generalize hV : uA U (gO T 48 j) (fun k => if k < i then gA U (gO T 52 j) k else gA U (gO T 48 j) k) = V
      have v1 : gO V 52 = gO T 52 := by subst hV; exact h1
      have v2 : gO V 48 = gO T 48 := by subst hV; exact h2
      have v4 : ∀ k, gA V (gO T 52 j) k = gA U (gO T 52 j) k := fun k => by subst hV; rw [zA_uA, if_neg (by omega)]
      show fX11_copy_52_53_48_49_L12 n (nI m) (nI j) kk (f + 1) (nI i) V = _
      rw [fX11_copy_52_53_48_49_L12, if_neg (show ¬ (6 : Int32) ≤ nI i from nI_ge (b := 6) hi2 (by decide)), ck_nI hj (by decide), ck_nI hj (by decide), nI_clamp (show j < 2 ^ 31 by omega), v1, v2, ak_row (by omega) (by omega), al_6 (by omega), ck_nI hi2 (by decide), ak_row (by omega) (by omega), al_6 (by omega), ck_nI hi2 (by decide), nI_clamp (show i < 2 ^ 31 by omega), v4]
      simp only [nm]
      rw [nI_1]
    · intro f
      show fX11_copy_52_53_48_49_L12 n (nI m) (nI j) kk (f + 1) (nI 6) _ = _
      rw [fX11_copy_52_53_48_49_L12, if_pos (show (6 : Int32) ≤ nI 6 by decide)]
  refine lpi (fun f (x : Int32 × TS) => fX11_copy_52_53_48_49_L3 n (nI m) (fun T_4 => some T_4) f x.1 x.2) (fun j x => x.1 = nI j ∧ FR [] [49] 3067 3127 T x.2 ∧ ∀ s, s < j → (∀ i, i < 6 → gA x.2 (gO T 48 s) i = gA T (gO T 52 s) i) ∧ gA x.2 49 s = gA T 53 s) m (fun o => ∃ T', o = some T' ∧ FR [] [49] 3067 3127 T T' ∧ ∀ s, s < m → (∀ i, i < 6 → gA T' (gO T 48 s) i = gA T (gO T 52 s) i) ∧ gA T' 49 s = gA T 53 s) ?_ ?_ n (0, T) (by omega) ⟨rfl, FR.rf, fun s hs => by omega⟩
  · rintro j ⟨x, U⟩ hj ⟨hx, hf, hc⟩
    simp only at hx hf hc
    subst hx
    have a1 := hA j (by omega)
    have c1 := hC j (by omega)
    have eA : gA U (gO T 52 j) = gA T (gO T 52 j) := hf.A (fun z => by simp only [List.mem_cons, List.not_mem_nil, or_false] at z; omega) (by omega)
    have eB : gA U 53 = gA T 53 := hf.A (by decide) (by decide)
    generalize hV : uA U (gO T 48 j) (fun i => if i < 6 then gA U (gO T 52 j) i else gA U (gO T 48 j) i) = V
    have fV : FR [] [49] 3067 3127 T V := by subst hV; exact hf.trans (FR.uA (Or.inr ⟨c1.1, c1.2⟩))
    refine ⟨(nI (j + 1), sA V 49 (nI j) (gA T 53 j)), ⟨rfl, fV.trans (FR.sA (Or.inl (by decide))), fun s hs => ?_⟩, fun f => ?_⟩
    · have cs := hC s (by omega)
      constructor
      · intro i hi2
        rw [zA_sA, if_neg (by omega)]
        subst hV
        rw [zA_uA]
        by_cases h1 : s = j
        · subst h1
          rw [if_pos rfl, if_pos hi2, eA]
        · rw [if_neg (fun q => h1 (hi s j (by omega) (by omega) q))]
          exact (hc s (by omega)).1 i hi2
      · rw [gA_sA_at (by omega)]
        by_cases h1 : s = j
        · rw [if_pos h1, h1]
        · rw [if_neg h1]
          subst hV
          rw [zA_uA, if_neg (by omega)]
          exact (hc s (by omega)).2
    · show fX11_copy_52_53_48_49_L3 n (nI m) _ (f + 1) (nI j) U = fX11_copy_52_53_48_49_L3 n (nI m) _ f (nI (j + 1)) _
      rw [fX11_copy_52_53_48_49_L3, if_neg (nI_ge hj (by omega)), row U j _ (hf.O 52) (hf.O 48) (by omega), hV]
      have c6 : ∀ {z : Option TS}, ck (nI j) 60 z = z := ck_nI (by omega) (by decide)
      rw [c6, c6, nI_clamp (by omega)]
      simp only [nm]
      rw [nI_1, show gA V 53 = gA T 53 from fV.A (by decide) (by decide)]
  · rintro ⟨x, U⟩ ⟨hx, hf, hc⟩ f
    simp only at hx hf hc
    subst hx
    refine ⟨U, ?_, hf, hc⟩
    show fX11_copy_52_53_48_49_L3 n (nI m) _ (f + 1) (nI m) U = _
    rw [fX11_copy_52_53_48_49_L3, if_pos (nI_le (Nat.le_refl _) (by omega))]
theorem mcp_50_48 {n m : Nat} {T : TS} (hn : 10000 ≤ n) (h60 : m ≤ 60) (hA : ∀ s, s < 60 → 3127 ≤ gO T 50 s ∧ gO T 50 s < 3187) (hC : ∀ s, s < 60 → 3067 ≤ gO T 48 s ∧ gO T 48 s < 3127) (hi : ∀ s t, s < 60 → t < 60 → gO T 48 s = gO T 48 t → s = t) : ∃ T', fX11_copy_50_51_48_49 n (nI m) T = some T' ∧ FR [] [49] 3067 3127 T T' ∧ ∀ s, s < m → (∀ i, i < 6 → gA T' (gO T 48 s) i = gA T (gO T 50 s) i) ∧ gA T' 49 s = gA T 51 s := by
  unfold fX11_copy_50_51_48_49
  -- one row
  have row : ∀ (U : TS) (j : Nat) (kk : TS → Option TS), gO U 50 = gO T 50 → gO U 48 = gO T 48 → j < 60 → fX11_copy_50_51_48_49_L12 n (nI m) (nI j) kk n 0 U = kk (uA U (gO T 48 j) (fun i => if i < 6 then gA U (gO T 50 j) i else gA U (gO T 48 j) i)) := by
    intro U j kk h1 h2 hj
    have a1 := hA j hj
    have c1 := hC j hj
    refine rowcp (fun f x V => fX11_copy_50_51_48_49_L12 n (nI m) (nI j) kk f x V) U (gO T 50 j) (gO T 48 j) kk ?_ ?_ n (by omega)
    · intro i hi2 f
      generalize hV : uA U (gO T 48 j) (fun k => if k < i then gA U (gO T 50 j) k else gA U (gO T 48 j) k) = V
      have v1 : gO V 50 = gO T 50 := by subst hV; exact h1
      have v2 : gO V 48 = gO T 48 := by subst hV; exact h2
      have v4 : ∀ k, gA V (gO T 50 j) k = gA U (gO T 50 j) k := fun k => by subst hV; rw [zA_uA, if_neg (by omega)]
      show fX11_copy_50_51_48_49_L12 n (nI m) (nI j) kk (f + 1) (nI i) V = _
      rw [fX11_copy_50_51_48_49_L12, if_neg (show ¬ (6 : Int32) ≤ nI i from nI_ge (b := 6) hi2 (by decide)), ck_nI hj (by decide), ck_nI hj (by decide), nI_clamp (show j < 2 ^ 31 by omega), v1, v2, ak_row (by omega) (by omega), al_6 (by omega), ck_nI hi2 (by decide), ak_row (by omega) (by omega), al_6 (by omega), ck_nI hi2 (by decide), nI_clamp (show i < 2 ^ 31 by omega), v4]
      simp only [nm]
      rw [nI_1]
    · intro f
      show fX11_copy_50_51_48_49_L12 n (nI m) (nI j) kk (f + 1) (nI 6) _ = _
      rw [fX11_copy_50_51_48_49_L12, if_pos (show (6 : Int32) ≤ nI 6 by decide)]
  refine lpi (fun f (x : Int32 × TS) => fX11_copy_50_51_48_49_L3 n (nI m) (fun T_4 => some T_4) f x.1 x.2) (fun j x => x.1 = nI j ∧ FR [] [49] 3067 3127 T x.2 ∧ ∀ s, s < j → (∀ i, i < 6 → gA x.2 (gO T 48 s) i = gA T (gO T 50 s) i) ∧ gA x.2 49 s = gA T 51 s) m (fun o => ∃ T', o = some T' ∧ FR [] [49] 3067 3127 T T' ∧ ∀ s, s < m → (∀ i, i < 6 → gA T' (gO T 48 s) i = gA T (gO T 50 s) i) ∧ gA T' 49 s = gA T 51 s) ?_ ?_ n (0, T) (by omega) ⟨rfl, FR.rf, fun s hs => by omega⟩
  · rintro j ⟨x, U⟩ hj ⟨hx, hf, hc⟩
    simp only at hx hf hc
    subst hx
    have a1 := hA j (by omega)
    have c1 := hC j (by omega)
    have eA : gA U (gO T 50 j) = gA T (gO T 50 j) := hf.A (fun z => by simp only [List.mem_cons, List.not_mem_nil, or_false] at z; omega) (by omega)
    have eB : gA U 51 = gA T 51 := hf.A (by decide) (by decide)
    generalize hV : uA U (gO T 48 j) (fun i => if i < 6 then gA U (gO T 50 j) i else gA U (gO T 48 j) i) = V
    have fV : FR [] [49] 3067 3127 T V := by subst hV; exact hf.trans (FR.uA (Or.inr ⟨c1.1, c1.2⟩))
    refine ⟨(nI (j + 1), sA V 49 (nI j) (gA T 51 j)), ⟨rfl, fV.trans (FR.sA (Or.inl (by decide))), fun s hs => ?_⟩, fun f => ?_⟩
    · have cs := hC s (by omega)
      constructor
      · intro i hi2
        rw [zA_sA, if_neg (by omega)]
        subst hV
        rw [zA_uA]
        by_cases h1 : s = j
        · subst h1
          rw [if_pos rfl, if_pos hi2, eA]
        · rw [if_neg (fun q => h1 (hi s j (by omega) (by omega) q))]
          exact (hc s (by omega)).1 i hi2
      · rw [gA_sA_at (by omega)]
        by_cases h1 : s = j
        · rw [if_pos h1, h1]
        · rw [if_neg h1]
          subst hV
          rw [zA_uA, if_neg (by omega)]
          exact (hc s (by omega)).2
    · show fX11_copy_50_51_48_49_L3 n (nI m) _ (f + 1) (nI j) U = fX11_copy_50_51_48_49_L3 n (nI m) _ f (nI (j + 1)) _
      rw [fX11_copy_50_51_48_49_L3, if_neg (nI_ge hj (by omega)), row U j _ (hf.O 50) (hf.O 48) (by omega), hV]
      have c6 : ∀ {z : Option TS}, ck (nI j) 60 z = z := ck_nI (by omega) (by decide)
      rw [c6, c6, nI_clamp (by omega)]
      simp only [nm]
      rw [nI_1, show gA V 51 = gA T 51 from fV.A (by decide) (by decide)]
  · rintro ⟨x, U⟩ ⟨hx, hf, hc⟩ f
    simp only at hx hf hc
    subst hx
    refine ⟨U, ?_, hf, hc⟩
    show fX11_copy_50_51_48_49_L3 n (nI m) _ (f + 1) (nI m) U = _
    rw [fX11_copy_50_51_48_49_L3, if_pos (nI_le (Nat.le_refl _) (by omega))]
