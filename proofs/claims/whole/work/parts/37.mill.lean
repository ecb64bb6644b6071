/-! ===== lot, mill, width ===== -/
theorem FR.sZ {is as : List Nat} {lo hi k : Nat} {T : TS} {i x : Int32} (hk : k ∈ as ∨ (lo ≤ k ∧ k < hi)) : FR is as lo hi T (sZ T k i x) := FR.uA hk
theorem nI_s1 (m : Nat) : nI m + 1 - 1 = nI m := by rw [nI_1]; exact nI_pred m
theorem gA_sZ_at {T : TS} {k j : Nat} {x : Int32} (hj : j < 2 ^ 31) (hx : x = 0 ∨ x = 1) (i : Nat) : gA (sZ T k (nI j) x) k i = if i = j then x else gA T k i := by
  show gA (uA T k _) k i = _
  rw [gA_uA, nI_clamp hj]
  have : vp_nar .boolean x = x := by rcases hx with rfl | rfl <;> rfl
  rw [this]
  rfl
theorem gI_up (T : TS) (k : Nat) (v : Int32) (j : Nat) : gI (uI T k v) j = if j = k then v else gI T j := rfl
theorem gI_uA (T : TS) (k : Nat) (f : Nat → Int32) (j : Nat) : gI (uA T k f) j = gI T j := rfl
theorem gI_sA (T : TS) (k : Nat) (i x : Int32) (j : Nat) : gI (sA T k i x) j = gI T j := rfl
theorem gI_sZ (T : TS) (k : Nat) (i x : Int32) (j : Nat) : gI (sZ T k i x) j = gI T j := rfl
theorem gA_uI (T : TS) (k : Nat) (v : Int32) (j : Nat) : gA (uI T k v) j = gA T j := rfl
theorem full9_no {n m : Nat} {T : TS} (e : gI T 1800 = nI m) (h : m < 8) : fX9_isFull n T = some (0, T) := by
  unfold fX9_isFull
  rw [e, if_pos (show nI m < 8 from nI_lt (b := 8) h (by decide))]
  rfl
theorem full9_yes {n : Nat} {T : TS} (e : gI T 1800 = nI 8) : fX9_isFull n T = some (1, T) := by
  unfold fX9_isFull
  rw [e, if_neg (show ¬ nI 8 < 8 by decide)]
  rfl
theorem add9 {n m : Nat} {T : TS} {a b f : Int32} (e : gI T 1800 = nI m) (h : m < 8) : fX9_add n a b f T = some (uI (sZ (sA (sA T 37 (nI m) a) 38 (nI m) b) 39 (nI m) f) 1800 (nI m + 1)) := by
  unfold fX9_add
  rw [full9_no e h]
  have ck8 : ∀ {z : Option TS}, ck (nI m) 8 z = z := ck_nI h (by decide)
  simp only [bd, nm, gI_sA, gI_sZ, e, ck8]
  rfl
theorem eq_lot {n c : Nat} {T : TS} (h : Inv c T) (a b f : Int32) (hf : f = 0 ∨ f = 1) : Both c (fX10_lot n a b f) (fX11_lot n a b f) T := by
  obtain ⟨m, hm, e1, e2, hl⟩ := h.2.2.2.2.2.2.1
  unfold Both fX10_lot fX11_lot
  simp only [nm]
  by_cases hp : ¬ (∃ i, 1 ≤ i ∧ i ≤ 100000 ∧ a = nI i)
  · refine ⟨-1, T, uI T 2050 0, ?_, ?_, h.th⟩
    · rw [show fX10_within n a 1 100000 T = some (0, T) from wi_no (a := 1) (b := 100000) (by decide) (by decide) hp]
      rfl
    · rw [show fX11_in n a 1 100000 (uI T 2050 0) = some (0, uI T 2050 0) from mi_no (a := 1) (b := 100000) (by decide) (by decide) hp]
      rfl
  obtain ⟨i, hi0, hi, rfl⟩ := Classical.not_not.mp hp
  have k1 : ∀ U, fX10_within n (nI i) 1 100000 U = some (1, U) := fun U => wi_yes hi0 hi (by decide)
  have k2 : ∀ U, fX11_in n (nI i) 1 100000 U = some (1, U) := fun U => mi_yes hi0 hi (by decide)
  simp only [k1, k2, bd]
  simp only [if_neg (show ¬ (1 : Int32) = 0 by decide)]
  by_cases hp : ¬ (∃ j, 0 ≤ j ∧ j ≤ 1000 ∧ b = nI j)
  · refine ⟨-1, T, uI T 2050 0, ?_, ?_, h.th⟩
    · rw [show fX10_within n b 0 1000 T = some (0, T) from wi_no (a := 0) (b := 1000) (by decide) (by decide) hp]
      rfl
    · rw [show fX11_in n b 0 1000 (uI T 2050 0) = some (0, uI T 2050 0) from mi_no (a := 0) (b := 1000) (by decide) (by decide) hp]
      rfl
  obtain ⟨j, hj0, hj, rfl⟩ := Classical.not_not.mp hp
  have k3 : ∀ U, fX10_within n (nI j) 0 1000 U = some (1, U) := fun U => wi_yes hj0 hj (by decide)
  have k4 : ∀ U, fX11_in n (nI j) 0 1000 U = some (1, U) := fun U => mi_yes hj0 hj (by decide)
  simp only [k3, k4]
  simp only [if_neg (show ¬ (1 : Int32) = 0 by decide)]
  by_cases h8 : m = 8
  · subst h8
    refine ⟨-1, T, uI T 2050 0, ?_, ?_, h.th⟩
    · rw [full9_yes e1]
      rfl
    · rw [show gI (uI T 2050 0) 2087 = nI 8 from e2, if_neg (fun q => q rfl)]
  · have hm8 : m < 8 := by omega
    have ck8 : ∀ {z : Option TS}, ck (nI m) 8 z = z := ck_nI hm8 (by decide)
    have ck8' : ∀ {z : Option (Int32 × TS)}, ck (nI m) 8 z = z := ck_nI hm8 (by decide)
    have lt8 : nI m < 8 := nI_lt (b := 8) hm8 (by decide)
    have ne8 : ¬ nI m = 8 := fun q => h8 ((nI_eq (b := 8) (by omega) (by decide)).mp q)
    refine ⟨nI m, uI (sZ (sA (sA T 37 (nI m) (nI i)) 38 (nI m) (nI j)) 39 (nI m) f) 1800 (nI m + 1), uI (sZ (sA (sA (uI (uI (sZ (sA (sA T 37 (nI m) (nI i)) 38 (nI m) (nI j)) 39 (nI m) f) 1800 (nI m + 1)) 2050 0) 62 (nI m) (nI i)) 63 (nI m) (nI j)) 64 (nI m) f) 2087 (nI m + 1), ?_, ?_, ?_⟩
    · rw [full9_no e1 hm8]
      simp only
      rw [add9 e1 hm8]
      simp only [bv, gI_up, if_true, nI_s1]
    · simp only [gI_up, gI_sA, gI_sZ, e2, ck8', Nat.reduceEqDiff, if_false]
      rw [if_pos ne8]
      simp only [if_true, nI_s1]
    · generalize hT2 : uI (sZ (sA (sA (uI (uI (sZ (sA (sA T 37 (nI m) (nI i)) 38 (nI m) (nI j)) 39 (nI m) f) 1800 (nI m + 1)) 2050 0) 62 (nI m) (nI i)) 63 (nI m) (nI j)) 64 (nI m) f) 2087 (nI m + 1) = T2
      have fr : FR [1800, 2050, 2087] [37, 38, 39, 62, 63, 64] 0 0 T T2 := by
        subst hT2
        exact ((((((((FR.sA (Or.inl (by decide))).trans (FR.sA (Or.inl (by decide)))).trans (FR.sZ (Or.inl (by decide)))).trans (FR.uI (by decide))).trans (FR.uI (by decide))).trans (FR.sA (Or.inl (by decide)))).trans (FR.sA (Or.inl (by decide)))).trans (FR.sZ (Or.inl (by decide)))).trans (FR.uI (by decide))
      have hm31 : m < 2 ^ 31 := by omega
      have g37 : ∀ k, gA T2 37 k = if k = m then nI i else gA T 37 k := fun k => by subst hT2; exact gA_sA_at (T := T) (k := 37) hm31 k
      have g38 : ∀ k, gA T2 38 k = if k = m then nI j else gA T 38 k := fun k => by subst hT2; exact gA_sA_at (T := sA T 37 (nI m) (nI i)) (k := 38) hm31 k
      have g39 : ∀ k, gA T2 39 k = if k = m then f else gA T 39 k := fun k => by subst hT2; exact gA_sZ_at (T := sA (sA T 37 (nI m) (nI i)) 38 (nI m) (nI j)) (k := 39) hm31 hf k
      have g62 : ∀ k, gA T2 62 k = if k = m then nI i else gA T 62 k := fun k => by subst hT2; exact gA_sA_at (T := uI (uI (sZ (sA (sA T 37 (nI m) (nI i)) 38 (nI m) (nI j)) 39 (nI m) f) 1800 (nI m + 1)) 2050 0) (k := 62) hm31 k
      have g63 : ∀ k, gA T2 63 k = if k = m then nI j else gA T 63 k := fun k => by subst hT2; exact gA_sA_at (T := sA (uI (uI (sZ (sA (sA T 37 (nI m) (nI i)) 38 (nI m) (nI j)) 39 (nI m) f) 1800 (nI m + 1)) 2050 0) 62 (nI m) (nI i)) (k := 63) hm31 k
      have g64 : ∀ k, gA T2 64 k = if k = m then f else gA T 64 k := fun k => by subst hT2; exact gA_sZ_at (T := sA (sA (uI (uI (sZ (sA (sA T 37 (nI m) (nI i)) 38 (nI m) (nI j)) 39 (nI m) f) 1800 (nI m + 1)) 2050 0) 62 (nI m) (nI i)) 63 (nI m) (nI j)) (k := 64) hm31 hf k
      have gi1 : gI T2 1800 = nI (m + 1) := by subst hT2; exact nI_1 m
      have gi2 : gI T2 2087 = nI (m + 1) := by subst hT2; exact nI_1 m
      obtain ⟨m1, m2, m3, m4, m5, m6, m7, m8, m9, m10⟩ := h
      refine ⟨m1.fr fr (by decide) (by decide), m2.fr fr (by decide) (by decide) (by decide), m3.fr fr (by decide) (by decide) (by decide), m4.fr fr, m5.fr (Nat.le_succ c) fr (by decide) (by decide), m6.fr fr (by decide) (by decide), ⟨m + 1, by omega, gi1, gi2, fun k hk => ?_⟩, m8.fr fr, m9.fr fr (by decide) (by decide), m10.fr fr (by decide) (by decide) (by decide)⟩
      by_cases hkm : k = m
      · have hfn : ∃ fn, fn ≤ 1 ∧ f = nI fn := by
          rcases hf with rfl | rfl
          · exact ⟨0, by decide, rfl⟩
          · exact ⟨1, by decide, rfl⟩
        obtain ⟨fn, hfn1, hfn2⟩ := hfn
        exact ⟨i, j, fn, hi0, hi, hj, hfn1, by rw [g37, if_pos hkm], by rw [g62, if_pos hkm], by rw [g38, if_pos hkm], by rw [g63, if_pos hkm], by rw [g39, if_pos hkm]; exact hfn2, by rw [g64, if_pos hkm]; exact hfn2⟩
      · obtain ⟨x, y, z, w1, w2, w3, w4, w5, w6, w7, w8, w9, w10⟩ := hl k (by omega)
        exact ⟨x, y, z, w1, w2, w3, w4, by rw [g37, if_neg hkm]; exact w5, by rw [g62, if_neg hkm]; exact w6, by rw [g38, if_neg hkm]; exact w7, by rw [g63, if_neg hkm]; exact w8, by rw [g39, if_neg hkm]; exact w9, by rw [g64, if_neg hkm]; exact w10⟩
