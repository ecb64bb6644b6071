theorem d1_toInt {d : Nat} (h : d < 2 ^ 30) : (nI d - 1).toInt = (d : Int) - 1 := by
  have := pk_sub_toInt (a := d) (b := 1) h (by decide)
  exact this
theorem t0 : ((0 : Int32)).toInt = 0 := rfl
theorem in_yes {n j d : Nat} {T : TS} (h : j < d) (hd : d < 2 ^ 30) : fX11_in n (nI j) 0 (nI d - 1) T = some (1, T) := by
  rw [m_in]
  have h1 : (0 : Int32) ≤ nI j := nI_pos' (by omega)
  have h2 : nI j ≤ nI d - 1 := by rw [i_le_int, nI_toInt (by omega), d1_toInt hd]; omega
  simp [h1, h2, b01]
theorem in_no {n d : Nat} {x : Int32} {T : TS} (h : ¬ ∃ j, j < d ∧ x = nI j) (hd : d < 2 ^ 30) : fX11_in n x 0 (nI d - 1) T = some (0, T) := by
  rw [m_in]
  have h2 : ¬ ((0 : Int32) ≤ x ∧ x ≤ nI d - 1) := by
    rintro ⟨a, b⟩
    obtain ⟨j, hj, rfl⟩ := nI_of (i_nlt.mpr a)
    rw [i_le_int, nI_toInt hj, d1_toInt hd] at b
    exact h ⟨j, by omega, rfl⟩
  have h3 : (decide ((0 : Int32) ≤ x) && decide (x ≤ nI d - 1)) = false := by
    rw [← Bool.decide_and]
    exact decide_eq_false h2
  rw [h3]
  rfl
theorem isW_yes {n j d : Nat} {T : TS} (hd : gI T 55 = nI d) (h6 : d ≤ 6) (h : j < d) : fX4_isWidth n (nI j) T = some (1, T) := by
  unfold fX4_isWidth
  rw [if_neg (nI_pos (by omega)), hd, if_neg (nI_ge h (by omega))]
  rfl
theorem isW_no {n d : Nat} {x : Int32} {T : TS} (hd : gI T 55 = nI d) (h6 : d ≤ 6) (h : ¬ ∃ j, j < d ∧ x = nI j) : fX4_isWidth n x T = some (0, T) := by
  unfold fX4_isWidth
  rcases ix_cases x hd (by omega) with h1 | ⟨h1, h2⟩ | h1
  · rw [if_pos h1]
    rfl
  · rw [if_neg h1, if_pos h2]
    rfl
  · exact absurd h1 h
theorem isWm_yes {n j d : Nat} {T : TS} (hd : gI T 2056 = nI d) (h6 : d ≤ 6) (h : j < d) : fX11_isWidth n (nI j) T = some (1, T) := by
  unfold fX11_isWidth
  rw [hd, in_yes h (by omega)]
  rfl
theorem isWm_no {n d : Nat} {x : Int32} {T : TS} (hd : gI T 2056 = nI d) (h6 : d ≤ 6) (h : ¬ ∃ j, j < d ∧ x = nI j) : fX11_isWidth n x T = some (0, T) := by
  unfold fX11_isWidth
  rw [hd, in_no h (by omega)]
  rfl
theorem wi_yes {n j a b : Nat} {T : TS} (h1 : a ≤ j) (h2 : j ≤ b) (hb : b < 2 ^ 31) : fX10_within n (nI j) (nI a) (nI b) T = some (1, T) := by
  rw [w_in]
  have h1' : nI a ≤ nI j := nI_le h1 (by omega)
  have h2' : nI j ≤ nI b := nI_le h2 hb
  simp [h1', h2', b01]
theorem wi_no {n a b : Nat} {x : Int32} {T : TS} (ha : a < 2 ^ 31) (hb : b < 2 ^ 31) (h : ¬ ∃ j, a ≤ j ∧ j ≤ b ∧ x = nI j) : fX10_within n x (nI a) (nI b) T = some (0, T) := by
  rw [w_in]
  have h2 : ¬ (nI a ≤ x ∧ x ≤ nI b) := fun ⟨p, q⟩ => h (rg_nI ha hb p q)
  have h3 : (decide (nI a ≤ x) && decide (x ≤ nI b)) = false := by
    rw [← Bool.decide_and]
    exact decide_eq_false h2
  rw [h3]
  rfl
theorem mi_yes {n j a b : Nat} {T : TS} (h1 : a ≤ j) (h2 : j ≤ b) (hb : b < 2 ^ 31) : fX11_in n (nI j) (nI a) (nI b) T = some (1, T) := wi_yes (n := n) h1 h2 hb
theorem mi_no {n a b : Nat} {x : Int32} {T : TS} (ha : a < 2 ^ 31) (hb : b < 2 ^ 31) (h : ¬ ∃ j, a ≤ j ∧ j ≤ b ∧ x = nI j) : fX11_in n x (nI a) (nI b) T = some (0, T) := wi_no (n := n) ha hb h
/-- all groups but one over a frame -/
theorem Inv.GO' {c : Nat} {is as : List Nat} {T T' : TS} (h : Inv c T) (f : FR is as 0 0 T T') (h1 : ∀ k ∈ [50, 51, 52, 53, 54, 55, 2051, 2052, 2053, 2054, 2055, 2056, 550, 2067, 13, 2073, 2074, 700, 2075, 1000, 2083, 1800, 2087, 202, 203, 204, 2063, 2064], k ∉ is) (h2 : ∀ k ∈ [2, 3, 42, 12, 13, 49, 15, 16, 53, 21, 58, 37, 38, 39, 62, 63, 64, 5], k ∉ as) (h3 : ∀ k ∈ as, k < 67) (g : GO (c + 1) T') : Inv (c + 1) T' := by
  obtain ⟨m1, m2, m3, m4, m5, m6, m7, m8, m9, m10⟩ := h
  have hI : ∀ l : List Nat, (∀ k ∈ l, k ∈ [50, 51, 52, 53, 54, 55, 2051, 2052, 2053, 2054, 2055, 2056, 550, 2067, 13, 2073, 2074, 700, 2075, 1000, 2083, 1800, 2087, 202, 203, 204, 2063, 2064]) → ∀ k ∈ l, k ∉ is := fun l hl k hk => h1 k (hl k hk)
  have hA : ∀ l : List Nat, (∀ k ∈ l, k ∈ [2, 3, 42, 12, 13, 49, 15, 16, 53, 21, 58, 37, 38, 39, 62, 63, 64, 5]) → ∀ k ∈ l, k ∉ as ∧ ¬ (0 ≤ k ∧ k < 0) := fun l hl k hk => ⟨h2 k (hl k hk), by omega⟩
  exact ⟨m1.fr f (hI _ (by decide)) (hA _ (by decide)), m2.fr f (hI _ (by decide)) (hA _ (by decide)) ⟨h3, Or.inl (by decide)⟩, m3.fr f (hI _ (by decide)) (hA _ (by decide)) ⟨h3, Or.inl (by decide)⟩, m4.fr f, g, m6.fr f (hI _ (by decide)) (hA _ (by decide)), m7.fr f (hI _ (by decide)) (hA _ (by decide)), m8.fr f, m9.fr f (hI _ (by decide)) (hA _ (by decide)), m10.fr f (hI _ (by decide)) (hA _ (by decide)) ⟨h3, Or.inl (by decide)⟩⟩
theorem upd_at {f : Nat → Int32} {k : Nat} {x : Int32} (i : Nat) : upd f k x i = if i = k then x else f i := rfl
theorem eq_order {n c : Nat} {T : TS} (h : Inv c T) (a b : Int32) : Both c (fX10_order n a b) (fX11_order n a b) T := by
  have h0 := h
  obtain ⟨⟨⟨p1, p2, p3, p4, p5, p6⟩, ⟨q1, q2, q3, q4, q5, q6⟩, ⟨b1, b2, b3, b4, b5, b6, b7, b8⟩, -⟩, -, -, -, m5, -⟩ := h0
  unfold Both fX10_order fX11_order
  simp only [nm]
  by_cases hw : ∃ j, j < vd T ∧ a = nI j
  · obtain ⟨j, hj, rfl⟩ := hw
    have e1 := isW_yes (n := n) p6 b8 hj
    by_cases hp : ∃ i, 0 ≤ i ∧ i ≤ 40 ∧ b = nI i
    · obtain ⟨i, hi0, hi, rfl⟩ := hp
      refine ⟨1, sA T 8 (nI j) (nI i), sA (uI (sA T 8 (nI j) (nI i)) 2050 0) 43 (nI j) (nI i), ?_, ?_, ?_⟩
      · rw [e1]
        simp only [bd]
        rw [if_neg (by decide), show (0 : Int32) = nI 0 from rfl, show (40 : Int32) = nI 40 from rfl, wi_yes hi0 hi (by decide)]
        simp only [bd]
        rw [if_pos (by decide), ck_nI (by omega) (by decide)]
        rfl
      · rw [isWm_yes (n := n) (d := vd T) (show gI (uI (sA T 8 (nI j) (nI i)) 2050 0) 2056 = nI (vd T) from q6.trans p6) b8 hj]
        simp only [bd]
        rw [if_neg (by decide), show fX11_in n (nI i) 0 40 (uI (sA T 8 (nI j) (nI i)) 2050 0) = some (1, uI (sA T 8 (nI j) (nI i)) 2050 0) from mi_yes hi0 hi (by decide)]
        simp only [bd]
        rw [if_pos (by decide), ck_nI (by omega) (by decide)]
        rfl
      · have f : FR [2050] [8, 43] 0 0 T (sA (uI (sA T 8 (nI j) (nI i)) 2050 0) 43 (nI j) (nI i)) := ((FR.sA (Or.inl (by decide))).trans (FR.uI (by decide))).trans (FR.sA (Or.inl (by decide)))
        refine h.GO' f (by decide) (by decide) (by decide) ?_
        obtain ⟨g1, g2, g3⟩ := m5
        refine ⟨g1, g2, fun k hk => ?_⟩
        obtain ⟨x, y, z, w1, w2, w3, w4, w5, w6, w7, w8, w9⟩ := g3 k hk
        have e8 : gA (sA (uI (sA T 8 (nI j) (nI i)) 2050 0) 43 (nI j) (nI i)) 8 k = if k = j then nI i else gA T 8 k := gA_sA_at (T := T) (k := 8) (by omega) k
        have e43 : gA (sA (uI (sA T 8 (nI j) (nI i)) 2050 0) 43 (nI j) (nI i)) 43 k = if k = j then nI i else gA T 43 k := gA_sA_at (T := uI (sA T 8 (nI j) (nI i)) 2050 0) (k := 43) (by omega) k
        by_cases hkj : k = j
        · exact ⟨i, y, z, hi, by omega, w3, by rw [e8, if_pos hkj], by rw [e43, if_pos hkj], w6, w7, w8, w9⟩
        · exact ⟨x, y, z, w1, by omega, w3, by rw [e8, if_neg hkj]; exact w4, by rw [e43, if_neg hkj]; exact w5, w6, w7, w8, w9⟩
    · refine ⟨0, T, uI T 2050 0, ?_, ?_, h.th⟩
      · rw [e1]
        simp only [bd]
        rw [if_neg (by decide), show fX10_within n b 0 40 T = some (0, T) from wi_no (a := 0) (b := 40) (by decide) (by decide) hp]
        rfl
      · rw [isWm_yes (n := n) (d := vd T) (show gI (uI T 2050 0) 2056 = nI (vd T) from q6.trans p6) b8 hj]
        simp only [bd]
        rw [if_neg (by decide), show fX11_in n b 0 40 (uI T 2050 0) = some (0, uI T 2050 0) from mi_no (a := 0) (b := 40) (by decide) (by decide) hp]
        rfl
  · refine ⟨0, T, uI T 2050 0, ?_, ?_, h.th⟩
    · rw [isW_no (n := n) p6 b8 hw]
      rfl
    · rw [isWm_no (n := n) (d := vd T) (show gI (uI T 2050 0) 2056 = nI (vd T) from q6.trans p6) b8 hw]
      rfl
