theorem eq_patterns {n c : Nat} {T : TS} (hn : 10000 ≤ n) (h : Inv c T) : Both c (fX10_patterns n) (fX11_patterns n) T := by
  obtain ⟨T1, a1, a2, a3⟩ := refresh_eq hn h.1 h.2.2.2.2.2.2.2.2.1
  have hI1 := h.ref a2 a3
  have hI2 : Inv c (uI T1 2050 0) := hI1.same
  obtain ⟨T3, b1, b2, b3⟩ := mnum_eq (n := n) hn hI2.1 hI2.2.2.2.2.2.2.2.2.2 hI2.2.2.2.1
  have hI3 := (hI2.cnt b2 b3).up
  have ep : psT (uI T1 2050 0) = psT T1 := rfl
  have ep3 : psT T3 = psT T1 := (ps_fr b2 (by decide) (by decide)).trans ep
  have e1 : fX5_isOverfull n T = some (b01 (decide (3000 < (psT T1).length)), T1) := by
    have := over_num (n := n) a3
    unfold fX5_isOverfull at this ⊢
    rw [ref_num a3] at this
    rw [a1]
    exact this
  unfold Both fX10_patterns fX11_patterns
  simp only [nm]
  rw [e1]
  simp only [bd]
  rw [ep] at b1
  by_cases hl : (psT T1).length ≤ 3000
  · rw [decide_eq_false (Nat.not_lt.mpr hl), if_pos (by rfl), cnt_num a3, if_pos hl]
    refine ⟨nI (psT T1).length, T1, T3, rfl, ?_, hI3⟩
    rw [b1, decide_eq_true hl]
    simp only
    rw [if_neg (show ¬ b01 true = 0 by decide), b3.2.1, ep3, Nat.min_eq_left (Nat.le_trans hl (by decide))]
  · rw [decide_eq_true (show 3000 < (psT T1).length by omega), if_neg (show ¬ b01 true = 0 by decide)]
    refine ⟨-2, T1, T3, rfl, ?_, hI3⟩
    rw [b1, decide_eq_false hl]
    rfl
/-- one of the numbers, or none, in the class: the state may have been brought up to date -/
def IsK (T : TS) (k : Int32) (j : Nat) (x : Nat) : Prop := (psT T).length ≤ 3000 ∧ k = nI j ∧ (psT T)[j]? = some x
def NoK (T : TS) (k : Int32) : Prop := 3000 < (psT T).length ∨ ¬ ∃ j, j < (psT T).length ∧ k = nI j
theorem k_cases (T : TS) (k : Int32) : (∃ j x, IsK T k j x) ∨ NoK T k := by
  by_cases hl : (psT T).length ≤ 3000
  · by_cases hk : ∃ j, j < (psT T).length ∧ k = nI j
    · obtain ⟨j, hj, e⟩ := hk
      exact Or.inl ⟨j, _, hl, e, List.getElem?_eq_getElem hj⟩
    · exact Or.inr (Or.inr hk)
  · exact Or.inr (Or.inl (by omega))
theorem isN_yes {n j x : Nat} {T : TS} {k : Int32} (hn : 10000 ≤ n) (h : IsK T k j x) (hM : GM T) (hN : GN T) : ∃ T1, fX5_isNumber n k T = some (1, T1) ∧ fX5_codeAt n k T1 = some (nI x, T1) ∧ FR [202, 203, 204] [5] 0 0 T T1 ∧ NUM T1 := by
  obtain ⟨hl, rfl, hx⟩ := h
  obtain ⟨T1, a1, a2, a3⟩ := refresh_eq hn hM hN
  have ep : psT T1 = psT T := ps_fr a2 (by decide) (by decide)
  have hj : j < (psT T).length := (List.getElem?_eq_some_iff.mp hx).1
  have g := a3.2.1 (by rw [ep]; exact hl)
  rw [ep] at g
  refine ⟨T1, ?_, ?_, a2, a3⟩
  · unfold fX5_isNumber fX5_count
    rw [if_neg (nI_pos (by omega)), a1]
    simp only [bv, bd]
    rw [g.2.1, if_neg (nI_ge hj (by omega))]
    rfl
  · unfold fX5_codeAt
    rw [if_neg (nI_pos (by omega)), g.2.1, if_neg (nI_ge hj (by omega)), ck_nI (by omega) (by decide), nI_clamp (by omega), g.2.2 j x hx]
theorem isN_no {n : Nat} {T : TS} {k : Int32} (hn : 10000 ≤ n) (h : NoK T k) (hM : GM T) (hN : GN T) : ∃ T1, fX5_isNumber n k T = some (0, T1) ∧ FR [202, 203, 204] [5] 0 0 T T1 ∧ (NUM T1 ∨ T1 = T) := by
  obtain ⟨T1, a1, a2, a3⟩ := refresh_eq hn hM hN
  have ep : psT T1 = psT T := ps_fr a2 (by decide) (by decide)
  unfold fX5_isNumber fX5_count
  by_cases hk : k < 0
  · exact ⟨T, by rw [if_pos hk]; rfl, FR.rf, Or.inr rfl⟩
  · refine ⟨T1, ?_, a2, Or.inl a3⟩
    rw [if_neg hk, a1]
    simp only [bv, bd]
    obtain ⟨j, hj, rfl⟩ := nI_of hk
    rcases h with h | h
    · rw [(a3.2.2 (by rw [ep]; exact h)).2, if_pos (nI_pos' hj)]
      rfl
    · by_cases hl : (psT T).length ≤ 3000
      · have g := a3.2.1 (by rw [ep]; exact hl)
        rw [g.2.1, ep, if_pos (nI_le (Nat.not_lt.mp (fun q => h ⟨j, q, rfl⟩)) hj)]
        rfl
      · rw [(a3.2.2 (by rw [ep]; omega)).2, if_pos (nI_pos' hj)]
        rfl
theorem isP_yes {n j x : Nat} {T : TS} {k : Int32} (hn : 10000 ≤ n) (h : IsK T k j x) (hM : GM T) (hC : GC T) (hX : GX T) : ∃ T1, fX11_isPattern n k T = some (1, T1) ∧ gO T1 46 j = 67 + j ∧ j < 3000 ∧ (∀ i, i < 6 → gA T1 (67 + j) i = nI (cn x i)) ∧ FR [2063, 2064] [47] 67 3067 T T1 ∧ CNT T1 := by
  obtain ⟨hl, rfl, hx⟩ := h
  obtain ⟨T1, a1, a2, a3⟩ := mnum_eq (n := n) hn hM hC hX
  have ep : psT T1 = psT T := ps_fr a2 (by decide) (by decide)
  have hj : j < (psT T).length := (List.getElem?_eq_some_iff.mp hx).1
  refine ⟨T1, ?_, (hX.fr a2).1 j (by omega), by omega, a3.2.2 (by rw [ep]; exact hl) j x (by rw [ep]; exact hx), a2, a3⟩
  unfold fX11_isPattern
  rw [a1, decide_eq_true hl]
  simp only [bd]
  rw [if_neg (show ¬ b01 true = 0 by decide), a3.2.1, ep, Nat.min_eq_left (Nat.le_trans hl (by decide)), in_yes hj (by omega)]
  rfl
theorem isP_no {n : Nat} {T : TS} {k : Int32} (hn : 10000 ≤ n) (h : NoK T k) (hM : GM T) (hC : GC T) (hX : GX T) : ∃ T1, fX11_isPattern n k T = some (0, T1) ∧ FR [2063, 2064] [47] 67 3067 T T1 ∧ CNT T1 := by
  obtain ⟨T1, a1, a2, a3⟩ := mnum_eq (n := n) hn hM hC hX
  have ep : psT T1 = psT T := ps_fr a2 (by decide) (by decide)
  refine ⟨T1, ?_, a2, a3⟩
  unfold fX11_isPattern
  rw [a1]
  simp only [bd]
  by_cases hl : (psT T).length ≤ 3000
  · rw [decide_eq_true hl, if_neg (show ¬ b01 true = 0 by decide), a3.2.1, ep, Nat.min_eq_left (Nat.le_trans hl (by decide)), in_no (h.elim (fun q => absurd hl (Nat.not_le.mpr q)) id) (by omega)]
    rfl
  · rw [decide_eq_false hl]
    rfl
