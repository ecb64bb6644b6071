/-! ===== about, length, lot, mill ===== -/
theorem GM.d {T : TS} (h : GM T) : gI T 55 = nI (vd T) ∧ gI T 2056 = nI (vd T) ∧ vd T ≤ 6 := ⟨h.1.2.2.2.2.2, h.2.1.2.2.2.2.2.trans h.1.2.2.2.2.2, h.2.2.1.2.2.2.2.2.2.2⟩
theorem eq_about {n c : Nat} {T : TS} (hn : 10000 ≤ n) (h : Inv c T) (a b : Int32) : Both c (fX10_about n a b) (fX11_about n a b) T := by
  obtain ⟨d1, d2, d6⟩ := h.1.d
  have hth : Inv (c + 1) (uI T 2050 0) := h.th
  have d2' : gI (uI T 2050 0) 2056 = nI (vd T) := d2
  unfold Both fX10_about fX11_about
  simp only [nm]
  by_cases hw : ∃ j, j < vd T ∧ a = nI j
  · obtain ⟨j, hj, rfl⟩ := hw
    have e1 := isW_yes (n := n) d1 d6 hj
    have e2 := isWm_yes (n := n) d2' d6 hj
    have k0 : ∀ {z : Option (Int32 × TS)}, ck (nI j) 6 z = z := ck_nI (by omega) (by decide)
    have kc : (nI j).toNatClampNeg = j := nI_clamp (by omega)
    have hg := h.2.2.2.2.1.2.2 j (by omega)
    obtain ⟨x, y, z, w1, w2, w3, w4, w5, w6, w7, w8, w9⟩ := hg
    rw [e1]
    simp only [bd]
    rw [if_pos (show ¬ (1 : Int32) = 0 by decide)]
    simp only [k0, kc]
    have st : ∀ r : Int32, (if b = 0 then some (gA T 2 j, T) else if b = 1 then some (gA T 8 j, T) else if b = 2 then some (gA T 9 j, T) else if b = 3 then bd (fX6_wanted n (nI j) T) (fun r_4 T_3 => some (r_4, T_3)) else if b = 4 then some (gA T 10 j, T) else if b = 5 then bd (fX8_piecesOf_11 n (nI j) T) (fun r_6 T_5 => some (r_6, T_5)) else some ((-1), T)) = some (r, T) → (if b = 0 then some (gA (uI T 2050 0) 42 j, uI T 2050 0) else if b = 1 then some (gA (uI T 2050 0) 43 j, uI T 2050 0) else if b = 2 then some (gA (uI T 2050 0) 44 j, uI T 2050 0) else if b = 3 then bd (fX11_wanted n (nI j) (uI T 2050 0)) (fun r_4 T_3 => some (r_4, T_3)) else if b = 4 then some (gA (uI T 2050 0) 45 j, uI T 2050 0) else if b = 5 then bd (fX11_planned n (nI j) (uI T 2050 0)) (fun r_6 T_5 => some (r_6, T_5)) else some ((-1), uI T 2050 0)) = some (r, uI T 2050 0) → ∃ r T1 T2, (if b = 0 then some (gA T 2 j, T) else if b = 1 then some (gA T 8 j, T) else if b = 2 then some (gA T 9 j, T) else if b = 3 then bd (fX6_wanted n (nI j) T) (fun r_4 T_3 => some (r_4, T_3)) else if b = 4 then some (gA T 10 j, T) else if b = 5 then bd (fX8_piecesOf_11 n (nI j) T) (fun r_6 T_5 => some (r_6, T_5)) else some ((-1), T)) = some (r, T1) ∧ (bd (fX11_isWidth n (nI j) (uI T1 2050 0)) fun r_3 T_2 => if ¬ r_3 = 0 then if b = 0 then ck (nI j) 6 (some (gA T_2 42 (Int32.toNatClampNeg (nI j)), T_2)) else if b = 1 then ck (nI j) 6 (some (gA T_2 43 (Int32.toNatClampNeg (nI j)), T_2)) else if b = 2 then ck (nI j) 6 (some (gA T_2 44 (Int32.toNatClampNeg (nI j)), T_2)) else if b = 3 then bd (fX11_wanted n (nI j) T_2) (fun r_5 T_4 => some (r_5, T_4)) else if b = 4 then ck (nI j) 6 (some (gA T_2 45 (Int32.toNatClampNeg (nI j)), T_2)) else if b = 5 then bd (fX11_planned n (nI j) T_2) (fun r_7 T_6 => some (r_7, T_6)) else some ((-1), T_2) else some ((-1), T_2)) = some (r, T2) ∧ Inv (c + 1) T2 := by
      intro r h1 h2
      refine ⟨r, T, uI T 2050 0, h1, ?_, hth⟩
      rw [e2]
      simp only [bd]
      rw [if_pos (show ¬ (1 : Int32) = 0 by decide)]
      simp only [k0, kc]
      exact h2
    simp only [k0, kc, bd] at st ⊢
    have hj6 : j < 6 := by omega
    have aw : fX6_wanted n (nI j) T = some (imax 0 (gA T 8 j - gA T 9 j), T) := by
      unfold fX6_wanted
      rw [k0, k0, kc]
    have mw : fX11_wanted n (nI j) (uI T 2050 0) = some (imax 0 (gA T 8 j - gA T 9 j), uI T 2050 0) := by
      unfold fX11_wanted
      rw [k0, k0, kc]
      show some (imax 0 (gA T 43 j - gA T 44 j), _) = _
      rw [w4, w5, w6, w7]
    have ap := piecesOf_eq (n := n) (by omega) h.2.1 hj6
    have mp := planned_eq (n := n) (T := uI T 2050 0) (by omega) hth.2.1 hj6
    have r42 : gA (uI T 2050 0) 42 j = gA T 2 j := (h.1.2.2.2.1 j hj).2.2.2
    have r43 : gA (uI T 2050 0) 43 j = gA T 8 j := w5.trans w4.symm
    have r44 : gA (uI T 2050 0) 44 j = gA T 9 j := w7.trans w6.symm
    have r45 : gA (uI T 2050 0) 45 j = gA T 10 j := w9.trans w8.symm
    rw [aw, mw, ap, mp, r42, r43, r44, r45] at st
    rw [aw, ap]
    by_cases q0 : b = 0
    · exact st (gA T 2 j) (by rw [if_pos q0]) (by rw [if_pos q0])
    by_cases q1 : b = 1
    · exact st (gA T 8 j) (by rw [if_neg q0, if_pos q1]) (by rw [if_neg q0, if_pos q1])
    by_cases q2 : b = 2
    · exact st (gA T 9 j) (by rw [if_neg q0, if_neg q1, if_pos q2]) (by rw [if_neg q0, if_neg q1, if_pos q2])
    by_cases q3 : b = 3
    · exact st _ (by rw [if_neg q0, if_neg q1, if_neg q2, if_pos q3]) (by rw [if_neg q0, if_neg q1, if_neg q2, if_pos q3])
    by_cases q4 : b = 4
    · exact st (gA T 10 j) (by rw [if_neg q0, if_neg q1, if_neg q2, if_neg q3, if_pos q4]) (by rw [if_neg q0, if_neg q1, if_neg q2, if_neg q3, if_pos q4])
    by_cases q5 : b = 5
    · exact st _ (by rw [if_neg q0, if_neg q1, if_neg q2, if_neg q3, if_neg q4, if_pos q5]) (by rw [if_neg q0, if_neg q1, if_neg q2, if_neg q3, if_neg q4, if_pos q5]; rfl)
    · exact st (-1) (by rw [if_neg q0, if_neg q1, if_neg q2, if_neg q3, if_neg q4, if_neg q5]) (by rw [if_neg q0, if_neg q1, if_neg q2, if_neg q3, if_neg q4, if_neg q5])
  · refine ⟨-1, T, uI T 2050 0, ?_, ?_, hth⟩
    · rw [isW_no (n := n) d1 d6 hw]
      rfl
    · rw [isWm_no (n := n) d2' d6 hw]
      rfl
theorem anyDone_eq {n d : Nat} {T : TS} (hn : 10 ≤ n) (hd : gI T 55 = nI d) (h6 : d ≤ 6) : ((∃ j, j < d ∧ ¬ gA T 9 j ≤ 0) ∧ fX6_isAnyDone n T = some (1, T)) ∨ ((∀ i, i < d → gA T 9 i ≤ 0) ∧ fX6_isAnyDone n T = some (0, T)) := by
  unfold fX6_isAnyDone
  have k1 : ∀ j, j < d → (fun j => gA T 9 j ≤ 0) j → ∀ f, (fun f x => fX6_isAnyDone_L2 n (fun T_1 => rz 0 T_1) f x T) (f + 1) (nI j) = (fun f x => fX6_isAnyDone_L2 n (fun T_1 => rz 0 T_1) f x T) f (nI (j + 1)) := by
    intro j hj hp f
    show fX6_isAnyDone_L2 n _ (f + 1) (nI j) T = _
    rw [fX6_isAnyDone_L2, hd, if_neg (nI_ge hj (by omega)), ck_nI (by omega) (by decide), nI_clamp (by omega), if_pos hp, nI_1]
  have k2 : ∀ j, j < d → ¬ (fun j => gA T 9 j ≤ 0) j → ∀ f, (fun f x => fX6_isAnyDone_L2 n (fun T_1 => rz 0 T_1) f x T) (f + 1) (nI j) = (fun _ => some (1, T)) j := by
    intro j hj hp f
    show fX6_isAnyDone_L2 n _ (f + 1) (nI j) T = _
    rw [fX6_isAnyDone_L2, hd, if_neg (nI_ge hj (by omega)), ck_nI (by omega) (by decide), nI_clamp (by omega), if_neg hp]
    rfl
  have k3 : ∀ f, (fun f x => fX6_isAnyDone_L2 n (fun T_1 => rz 0 T_1) f x T) (f + 1) (nI d) = (some (0, T)) := by
    intro f
    show fX6_isAnyDone_L2 n _ (f + 1) (nI d) T = _
    rw [fX6_isAnyDone_L2, hd, if_pos (nI_le (Nat.le_refl d) (by omega))]
    rfl
  rcases lps (fun f x => fX6_isAnyDone_L2 n (fun T_1 => rz 0 T_1) f x T) d (some (0, T)) (fun _ => some (1, T)) (fun j => gA T 9 j ≤ 0) k1 k2 k3 n (by omega) with ⟨j, h1, h2, h3, h4⟩ | ⟨h1, h2⟩
  · exact Or.inl ⟨⟨j, h1, h2⟩, h4⟩
  · exact Or.inr ⟨h1, h2⟩
theorem mlen_eq {n d : Nat} {T : TS} {y : Int32} {kk : TS → Option (Int32 × TS)} (hn : 10 ≤ n) (hd : gI T 2056 = nI d) (h6 : d ≤ 6) : ((∃ j, j < d ∧ ¬ gA T 44 j ≤ 0) ∧ fX11_length_L20 n y kk n 0 T = some (0, T)) ∨ ((∀ i, i < d → gA T 44 i ≤ 0) ∧ fX11_length_L20 n y kk n 0 T = kk T) := by
  have k1 : ∀ j, j < d → (fun j => gA T 44 j ≤ 0) j → ∀ f, (fun f x => fX11_length_L20 n y kk f x T) (f + 1) (nI j) = (fun f x => fX11_length_L20 n y kk f x T) f (nI (j + 1)) := by
    intro j hj hp f
    show fX11_length_L20 n y _ (f + 1) (nI j) T = _
    rw [fX11_length_L20, hd, if_neg (nI_ge hj (by omega)), ck_nI (by omega) (by decide), nI_clamp (by omega), if_pos hp, nI_1]
  have k2 : ∀ j, j < d → ¬ (fun j => gA T 44 j ≤ 0) j → ∀ f, (fun f x => fX11_length_L20 n y kk f x T) (f + 1) (nI j) = (fun _ => some (0, T)) j := by
    intro j hj hp f
    show fX11_length_L20 n y _ (f + 1) (nI j) T = _
    rw [fX11_length_L20, hd, if_neg (nI_ge hj (by omega)), ck_nI (by omega) (by decide), nI_clamp (by omega), if_neg hp]
    rfl
  have k3 : ∀ f, (fun f x => fX11_length_L20 n y kk f x T) (f + 1) (nI d) = (kk T) := by
    intro f
    show fX11_length_L20 n y _ (f + 1) (nI d) T = _
    rw [fX11_length_L20, hd, if_pos (nI_le (Nat.le_refl d) (by omega))]
  rcases lps (fun f x => fX11_length_L20 n y kk f x T) d (kk T) (fun _ => some (0, T)) (fun j => gA T 44 j ≤ 0) k1 k2 k3 n (by omega) with ⟨j, h1, h2, h3, h4⟩ | ⟨h1, h2⟩
  · exact Or.inl ⟨⟨j, h1, h2⟩, h4⟩
  · exact Or.inr ⟨h1, h2⟩
theorem eq_length {n c : Nat} {T : TS} (hn : 10000 ≤ n) (h : Inv c T) (a : Int32) : Both c (fX10_length n a) (fX11_length n a) T := by
  obtain ⟨d1, d2, d6⟩ := h.1.d
  obtain ⟨g1, g2, g3⟩ := h.2.2.2.2.1
  unfold Both fX10_length fX11_length
  simp only [nm]
  have eq9 : ∀ i, i < vd T → gA T 44 i = gA T 9 i := fun i hi => by
    obtain ⟨x, y, z, w1, w2, w3, w4, w5, w6, w7, w8, w9⟩ := g3 i (by omega)
    rw [w6, w7]
  by_cases hp : ∃ i, 1 ≤ i ∧ i ≤ 10000 ∧ a = nI i
  · obtain ⟨i, hi0, hi, rfl⟩ := hp
    rw [show fX10_within n (nI i) 1 10000 T = some (1, T) from wi_yes hi0 hi (by decide)]
    simp only [bd]
    rw [if_neg (show ¬ (1 : Int32) = 0 by decide)]
    rcases anyDone_eq (n := n) (by omega) d1 d6 with ⟨⟨j, hj, hd⟩, e⟩ | ⟨hd, e⟩
    · refine ⟨0, T, uI T 2050 0, by rw [e]; rfl, ?_, h.th⟩
      rw [show fX11_in n (nI i) 1 10000 (uI T 2050 0) = some (1, uI T 2050 0) from mi_yes hi0 hi (by decide)]
      simp only [bd]
      rw [if_pos (show ¬ (1 : Int32) = 0 by decide)]
      rcases mlen_eq (n := n) (T := uI T 2050 0) (y := nI i) (kk := fun T_4 => rz 1 (uI T_4 2062 (nI i))) (by omega) d2 d6 with ⟨-, e2⟩ | ⟨hd2, -⟩
      · exact e2
      · exact absurd (show gA T 9 j ≤ 0 from eq9 j hj ▸ hd2 j hj) hd
    · refine ⟨1, uI T 14 (nI i), uI (uI (uI T 14 (nI i)) 2050 0) 2062 (nI i), by rw [e]; rfl, ?_, ?_⟩
      · rw [show fX11_in n (nI i) 1 10000 (uI (uI T 14 (nI i)) 2050 0) = some (1, uI (uI T 14 (nI i)) 2050 0) from mi_yes hi0 hi (by decide)]
        simp only [bd]
        rw [if_pos (show ¬ (1 : Int32) = 0 by decide)]
        rcases mlen_eq (n := n) (T := uI (uI T 14 (nI i)) 2050 0) (y := nI i) (kk := fun T_4 => rz 1 (uI T_4 2062 (nI i))) (by omega) d2 d6 with ⟨⟨j, hj, hd2⟩, -⟩ | ⟨-, e2⟩
        · exact absurd (show gA T 44 j ≤ 0 from (eq9 j hj).symm ▸ hd j hj) hd2
        · exact e2
      · have f : FR [14, 2050, 2062] [] 0 0 T (uI (uI (uI T 14 (nI i)) 2050 0) 2062 (nI i)) := ((FR.uI (by decide)).trans (FR.uI (by decide))).trans (FR.uI (by decide))
        refine h.GO' f (by decide) (by decide) (by decide) ?_
        refine ⟨g1, ⟨i, hi0, hi, rfl, rfl⟩, fun k hk => ?_⟩
        obtain ⟨x, y, z, w1, w2, w3⟩ := g3 k hk
        exact ⟨x, y, z, w1, by omega, w3⟩
  · refine ⟨0, T, uI T 2050 0, ?_, ?_, h.th⟩
    · rw [show fX10_within n a 1 10000 T = some (0, T) from wi_no (a := 1) (b := 10000) (by decide) (by decide) hp]
      rfl
    · rw [show fX11_in n a 1 10000 (uI T 2050 0) = some (0, uI T 2050 0) from mi_no (a := 1) (b := 10000) (by decide) (by decide) hp]
      rfl
