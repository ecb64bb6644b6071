/-- a loop that looks for the first place where p fails -/
theorem lps {ρ : Type} (L : Nat → Int32 → ρ) (d : Nat) (K : ρ) (R : Nat → ρ) (p : Nat → Prop) (h1 : ∀ j, j < d → p j → ∀ f, L (f + 1) (nI j) = L f (nI (j + 1))) (h2 : ∀ j, j < d → ¬ p j → ∀ f, L (f + 1) (nI j) = R j) (h3 : ∀ f, L (f + 1) (nI d) = K) : ∀ f, d < f → (∃ j, j < d ∧ ¬ p j ∧ (∀ i, i < j → p i) ∧ L f 0 = R j) ∨ ((∀ i, i < d → p i) ∧ L f 0 = K) := by
  have H : ∀ r j, j + r = d → (∀ i, i < j → p i) → ∀ f, r < f → (∃ j, j < d ∧ ¬ p j ∧ (∀ i, i < j → p i) ∧ L f (nI (d - r)) = R j) ∨ ((∀ i, i < d → p i) ∧ L f (nI (d - r)) = K) := by
    intro r
    induction r with
    | zero =>
      intro j hj hp f hf
      obtain ⟨g, rfl⟩ : ∃ g, f = g + 1 := ⟨f - 1, by omega⟩
      have : j = d := by omega
      subst this
      exact Or.inr ⟨hp, h3 g⟩
    | succ r ih =>
      intro j hj hp f hf
      obtain ⟨g, rfl⟩ : ∃ g, f = g + 1 := ⟨f - 1, by omega⟩
      have ej : d - (r + 1) = j := by omega
      rw [ej]
      by_cases hq : p j
      · rw [h1 j (by omega) hq g]
        have := ih (j + 1) (by omega) (fun i hi => by
          rcases Nat.lt_or_ge i j with q | q
          · exact hp i q
          · have : i = j := by omega
            subst this
            exact hq) g (by omega)
        rw [show d - r = j + 1 by omega] at this
        exact this
      · exact Or.inl ⟨j, by omega, hq, hp, h2 j (by omega) hq g⟩
  intro f hf
  have := H d 0 (by omega) (fun i hi => by omega) f hf
  rw [Nat.sub_self] at this
  exact this
theorem eq_price {n c : Nat} {T : TS} (h : Inv c T) (a b : Int32) : Both c (fX10_price n a b) (fX11_price n a b) T := by
  have h0 := h
  obtain ⟨⟨⟨p1, p2, p3, p4, p5, p6⟩, ⟨q1, q2, q3, q4, q5, q6⟩, ⟨b1, b2, b3, b4, b5, b6, b7, b8⟩, -⟩, -, -, -, m5, -⟩ := h0
  unfold Both fX10_price fX11_price
  simp only [nm]
  by_cases ha : a = -1
  · subst ha
    by_cases hp : ∃ i, 1 ≤ i ∧ i ≤ 1000000 ∧ b = nI i
    · obtain ⟨i, hi0, hi, rfl⟩ := hp
      refine ⟨1, uI T 305 (nI i), uI (uI (uI T 305 (nI i)) 2050 0) 2061 (nI i), ?_, ?_, ?_⟩
      · rw [if_neg (by decide), show fX10_within n (nI i) 1 1000000 T = some (1, T) from wi_yes hi0 hi (by decide)]
        rfl
      · rw [if_neg (by decide), show fX11_in n (nI i) 1 1000000 (uI (uI T 305 (nI i)) 2050 0) = some (1, _) from mi_yes hi0 hi (by decide)]
        rfl
      · have f : FR [305, 2050, 2061] [] 0 0 T (uI (uI (uI T 305 (nI i)) 2050 0) 2061 (nI i)) := ((FR.uI (by decide)).trans (FR.uI (by decide))).trans (FR.uI (by decide))
        refine h.GO' f (by decide) (by decide) (by decide) ?_
        obtain ⟨g1, g2, g3⟩ := m5
        refine ⟨⟨i, hi0, hi, rfl, rfl⟩, g2, fun k hk => ?_⟩
        obtain ⟨x, y, z, w1, w2, w3⟩ := g3 k hk
        exact ⟨x, y, z, w1, by omega, w3⟩
    · refine ⟨0, T, uI T 2050 0, ?_, ?_, h.th⟩
      · rw [if_neg (by decide), show fX10_within n b 1 1000000 T = some (0, T) from wi_no (a := 1) (b := 1000000) (by decide) (by decide) hp]
        rfl
      · rw [if_neg (by decide), show fX11_in n b 1 1000000 (uI T 2050 0) = some (0, uI T 2050 0) from mi_no (a := 1) (b := 1000000) (by decide) (by decide) hp]
        rfl
  rw [if_pos ha]
  by_cases hw : ∃ j, j < vd T ∧ a = nI j
  · obtain ⟨j, hj, rfl⟩ := hw
    have e1 := isW_yes (n := n) p6 b8 hj
    by_cases hp : ∃ i, 0 ≤ i ∧ i ≤ 1000000 ∧ b = nI i
    · obtain ⟨i, hi0, hi, rfl⟩ := hp
      refine ⟨1, sA T 10 (nI j) (nI i), sA (uI (sA T 10 (nI j) (nI i)) 2050 0) 45 (nI j) (nI i), ?_, ?_, ?_⟩
      · rw [e1]
        simp only [bd]
        rw [if_neg (by decide), show fX10_within n (nI i) 0 1000000 T = some (1, T) from wi_yes hi0 hi (by decide)]
        simp only [bd]
        rw [if_pos (by decide), ck_nI (by omega) (by decide)]
        rfl
      · rw [if_pos ha, isWm_yes (n := n) (d := vd T) (show gI (uI (sA T 10 (nI j) (nI i)) 2050 0) 2056 = nI (vd T) from q6.trans p6) b8 hj]
        simp only [bd]
        rw [if_neg (by decide), show fX11_in n (nI i) 0 1000000 (uI (sA T 10 (nI j) (nI i)) 2050 0) = some (1, uI (sA T 10 (nI j) (nI i)) 2050 0) from mi_yes hi0 hi (by decide)]
        simp only [bd]
        rw [if_pos (by decide), ck_nI (by omega) (by decide)]
        rfl
      · have f : FR [2050] [10, 45] 0 0 T (sA (uI (sA T 10 (nI j) (nI i)) 2050 0) 45 (nI j) (nI i)) := ((FR.sA (Or.inl (by decide))).trans (FR.uI (by decide))).trans (FR.sA (Or.inl (by decide)))
        refine h.GO' f (by decide) (by decide) (by decide) ?_
        obtain ⟨g1, g2, g3⟩ := m5
        refine ⟨g1, g2, fun k hk => ?_⟩
        obtain ⟨x, y, z, w1, w2, w3, w4, w5, w6, w7, w8, w9⟩ := g3 k hk
        have e8 : gA (sA (uI (sA T 10 (nI j) (nI i)) 2050 0) 45 (nI j) (nI i)) 10 k = if k = j then nI i else gA T 10 k := gA_sA_at (T := T) (k := 10) (by omega) k
        have e43 : gA (sA (uI (sA T 10 (nI j) (nI i)) 2050 0) 45 (nI j) (nI i)) 45 k = if k = j then nI i else gA T 45 k := gA_sA_at (T := uI (sA T 10 (nI j) (nI i)) 2050 0) (k := 45) (by omega) k
        by_cases hkj : k = j
        · exact ⟨x, y, i, w1, by omega, hi, w4, w5, w6, w7, by rw [e8, if_pos hkj], by rw [e43, if_pos hkj]⟩
        · exact ⟨x, y, z, w1, by omega, w3, w4, w5, w6, w7, by rw [e8, if_neg hkj]; exact w8, by rw [e43, if_neg hkj]; exact w9⟩
    · refine ⟨0, T, uI T 2050 0, ?_, ?_, h.th⟩
      · rw [e1]
        simp only [bd]
        rw [if_neg (by decide), show fX10_within n b 0 1000000 T = some (0, T) from wi_no (a := 0) (b := 1000000) (by decide) (by decide) hp]
        rfl
      · rw [if_pos ha, isWm_yes (n := n) (d := vd T) (show gI (uI T 2050 0) 2056 = nI (vd T) from q6.trans p6) b8 hj]
        simp only [bd]
        rw [if_neg (by decide), show fX11_in n b 0 1000000 (uI T 2050 0) = some (0, uI T 2050 0) from mi_no (a := 0) (b := 1000000) (by decide) (by decide) hp]
        rfl
  · refine ⟨0, T, uI T 2050 0, ?_, ?_, h.th⟩
    · rw [isW_no (n := n) p6 b8 hw]
      rfl
    · rw [if_pos ha, isWm_no (n := n) (d := vd T) (show gI (uI T 2050 0) 2056 = nI (vd T) from q6.trans p6) b8 hw]
      rfl
theorem eq_area {n c : Nat} {T : TS} (h : Inv c T) (a : Int32) : BothL c (fX10_area n a) (fX11_area n a) T := by
  obtain ⟨g0, g1, g2, g3, g4, g5, g6⟩ := h.2.2.2.2.2.2.2.1
  unfold BothL fX10_area fX11_area
  simp only [nm]
  by_cases hp : ∃ i, 0 ≤ i ∧ i ≤ 6 ∧ a = nI i
  · obtain ⟨i, hi0, hi, rfl⟩ := hp
    refine ⟨gL T 65 i, T, uI T 2050 0, ?_, ?_, h.th⟩
    · rcases (show i = 0 ∨ i = 1 ∨ i = 2 ∨ i = 3 ∨ i = 4 ∨ i = 5 ∨ i = 6 by omega) with rfl | rfl | rfl | rfl | rfl | rfl | rfl
      · rw [g0]; rfl
      · rw [g1]; rfl
      · rw [g2]; rfl
      · rw [g3]; rfl
      · rw [g4]; rfl
      · rw [g5]; rfl
      · rw [g6]; rfl
    · rw [show fX11_in n (nI i) 0 6 (uI T 2050 0) = some (1, uI T 2050 0) from mi_yes hi0 hi (by decide)]
      simp only [bd]
      rw [if_neg (by decide), ck_nI (by omega) (by decide), nI_clamp (by omega)]
      rfl
  · refine ⟨-1, T, uI T 2050 0, ?_, ?_, h.th⟩
    · have e : ∀ i : Nat, i ≤ 6 → ¬ a = nI i := fun i hi q => hp ⟨i, Nat.zero_le i, hi, q⟩
      rw [if_neg (show ¬ a = 0 from e 0 (by decide)), if_neg (show ¬ a = 1 from e 1 (by decide)), if_neg (show ¬ a = 2 from e 2 (by decide)), if_neg (show ¬ a = 3 from e 3 (by decide)), if_neg (show ¬ a = 4 from e 4 (by decide)), if_neg (show ¬ a = 5 from e 5 (by decide)), if_neg (show ¬ a = 6 from e 6 (by decide))]
    · rw [show fX11_in n a 0 6 (uI T 2050 0) = some (0, uI T 2050 0) from mi_no (a := 0) (b := 6) (by decide) (by decide) hp]
      rfl
theorem eq_lotted {n c : Nat} {T : TS} (h : Inv c T) (a b : Int32) : Both c (fX10_lotted n a b) (fX11_lotted n a b) T := by
  obtain ⟨m, hm, e1, e2, hl⟩ := h.2.2.2.2.2.2.1
  have e2' : gI (uI T 2050 0) 2087 = nI m := e2
  unfold Both fX10_lotted fX11_lotted fX9_isLot
  simp only [nm]
  by_cases hp : ∃ j, j < m ∧ a = nI j
  · obtain ⟨j, hj, rfl⟩ := hp
    obtain ⟨x, y, f, w1, w2, w3, w4, w5, w6, w7, w8, w9, w10⟩ := hl j hj
    have k0 : ∀ {z : Option (Int32 × TS)}, ck (nI j) 8 z = z := ck_nI (by omega) (by decide)
    have kc : (nI j).toNatClampNeg = j := nI_clamp (by omega)
    rw [if_neg (nI_pos (by omega)), e1, if_neg (nI_ge hj (by omega)), rz1]
    have k1 := in_yes (n := n) (T := uI T 2050 0) hj (by omega)
    by_cases h0 : b = 0
    · refine ⟨gA T 37 j, T, uI T 2050 0, ?_, ?_, h.th⟩
      · simp only [bd]
        rw [if_pos (show ¬ (1 : Int32) = 0 by decide), if_pos h0, k0, kc]
      · rw [e2', k1]
        simp only [bd]
        rw [if_pos (show ¬ (1 : Int32) = 0 by decide), if_neg (fun q => q h0), k0, kc, w5]
        exact congrArg (fun q => some (q, uI T 2050 0)) w6
    by_cases h1 : b = 1
    · refine ⟨gA T 38 j, T, uI T 2050 0, ?_, ?_, h.th⟩
      · simp only [bd]
        rw [if_pos (show ¬ (1 : Int32) = 0 by decide), if_neg h0, if_pos h1, k0, kc]
      · rw [e2', k1]
        simp only [bd]
        rw [if_pos (show ¬ (1 : Int32) = 0 by decide), if_pos h0, if_neg (fun q => q h1), k0, kc, w7]
        exact congrArg (fun q => some (q, uI T 2050 0)) w8
    by_cases h2 : b = 2
    · refine ⟨if gA T 39 j = 0 then 0 else 1, T, uI T 2050 0, ?_, ?_, h.th⟩
      · simp only [bd]
        rw [if_pos (show ¬ (1 : Int32) = 0 by decide), if_neg h0, if_neg h1, if_pos h2, k0, kc]
        split <;> rfl
      · rw [e2', k1]
        simp only [bd]
        rw [if_pos (show ¬ (1 : Int32) = 0 by decide), if_pos h0, if_pos h1, if_neg (fun q => q h2), k0, kc, show gA (uI T 2050 0) 64 j = gA T 39 j from w10.trans w9.symm]
        split <;> rfl
    · refine ⟨-1, T, uI T 2050 0, ?_, ?_, h.th⟩
      · simp only [bd]
        rw [if_pos (show ¬ (1 : Int32) = 0 by decide), if_neg h0, if_neg h1, if_neg h2]
      · rw [e2', k1]
        simp only [bd]
        rw [if_pos (show ¬ (1 : Int32) = 0 by decide), if_pos h0, if_pos h1, if_pos h2]
  · refine ⟨-1, T, uI T 2050 0, ?_, ?_, h.th⟩
    · rcases ix_cases a e1 (by omega) with h1 | ⟨h1, h2⟩ | h1
      · rw [if_pos h1, rz0]; rfl
      · rw [if_neg h1, if_pos h2, rz0]; rfl
      · exact absurd h1 hp
    · rw [e2', in_no hp (by omega)]
      rfl
