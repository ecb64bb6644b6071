theorem okc_cn {d x : Nat} (h : okc d x) {i : Nat} (hi : i < 6) : cn x i ≤ 20 := by
  have := h.2.2.1
  unfold pcs at this
  rcases (show i = 0 ∨ i = 1 ∨ i = 2 ∨ i = 3 ∨ i = 4 ∨ i = 5 by omega) with rfl | rfl | rfl | rfl | rfl | rfl <;> omega
theorem mfind_top {n c : Nat} {T1 T3 : TS} {b : Bool} (hn : 10000 ≤ n) (h1 : fX11_isNumbered n (uI T1 2050 0) = some (b01 b, T3)) (hb : b = decide ((psT T3).length ≤ 3000)) (hI : Inv c T3) (hC : CNT T3) (y : Nat → Int32) : (∃ j x, (psT T3).length ≤ 3000 ∧ (psT T3)[j]? = some x ∧ (∀ i, i < 6 → nI (cn x i) = y i) ∧ fX11_find n (y 0) (y 1) (y 2) (y 3) (y 4) (y 5) T1 = some (nI j, T3)) ∨ ((3000 < (psT T3).length ∨ ∀ x, x ∈ psT T3 → ¬ ∀ i, i < 6 → nI (cn x i) = y i) ∧ fX11_find n (y 0) (y 1) (y 2) (y 3) (y 4) (y 5) T1 = some (-1, T3)) := by
  unfold fX11_find
  simp only [nm]
  rw [h1]
  simp only [bd]
  by_cases hl : (psT T3).length ≤ 3000
  · have e : b = true := by rw [hb, decide_eq_true hl]
    rw [e, if_pos (show ¬ b01 true = 0 by decide)]
    have g1 : gI T3 2064 = nI (psT T3).length := by rw [hC.2.1, Nat.min_eq_left (Nat.le_trans hl (by decide))]
    have g2 := hC.2.2 hl
    rcases mfind_eq (n := n) (T := T3) (y := y) (kk := fun T_4 => some (-1, T_4)) hn g1 hl hI.2.2.2.1.1 with ⟨j, hj, hr, -, e2⟩ | ⟨hr, e2⟩
    · have hx := List.getElem?_eq_getElem hj
      exact Or.inl ⟨j, _, hl, hx, fun i hi => (g2 j _ hx i hi).symm.trans (hr i hi), e2⟩
    · refine Or.inr ⟨Or.inr (fun x hx hq => ?_), e2⟩
      obtain ⟨k, hk⟩ := List.getElem?_of_mem hx
      have hk2 := (List.getElem?_eq_some_iff.mp hk).1
      exact hr k hk2 (fun i hi => (g2 k x hk i hi).trans (hq i hi))
  · have e : b = false := by rw [hb, decide_eq_false hl]
    rw [e]
    exact Or.inr ⟨Or.inl (by omega), rfl⟩
theorem eq_find {n c : Nat} {T : TS} (hn : 10000 ≤ n) (hI : Inv c T) (p0 p1 p2 p3 p4 p5 : Int32) : Both c (fX10_find n p0 p1 p2 p3 p4 p5) (fX11_find n p0 p1 p2 p3 p4 p5) T := by
  let y : Nat → Int32 := fun i => if i = 0 then p0 else if i = 1 then p1 else if i = 2 then p2 else if i = 3 then p3 else if i = 4 then p4 else p5
  -- the reference, from any state of the invariant
  have ref : ∀ T1, Inv c T1 → ∃ T3, CNT T3 ∧ Inv c T3 ∧ psT T3 = psT T1 ∧ ((∃ j x, (psT T3).length ≤ 3000 ∧ (psT T3)[j]? = some x ∧ (∀ i, i < 6 → nI (cn x i) = y i) ∧ fX11_find n p0 p1 p2 p3 p4 p5 T1 = some (nI j, T3)) ∨ ((3000 < (psT T3).length ∨ ∀ x, x ∈ psT T3 → ¬ ∀ i, i < 6 → nI (cn x i) = y i) ∧ fX11_find n p0 p1 p2 p3 p4 p5 T1 = some (-1, T3))) := by
    intro T1 I1
    have I2 : Inv c (uI T1 2050 0) := I1.same
    obtain ⟨T3, b1, b2, b3⟩ := mnum_eq (n := n) hn I2.1 I2.2.2.2.2.2.2.2.2.2 I2.2.2.2.1
    have ep : psT T3 = psT T1 := (ps_fr b2 (by decide) (by decide)).trans rfl
    refine ⟨T3, b3, I2.cnt b2 b3, ep, ?_⟩
    exact mfind_top (y := y) hn b1 (by rw [ep]; rfl) (I2.cnt b2 b3) b3
  unfold Both
  by_cases hc : isC p0 ∧ isC p1 ∧ isC p2
  · by_cases hd : isC p3 ∧ isC p4 ∧ isC p5
    · obtain ⟨⟨a, -, ha, rfl⟩, ⟨b, -, hb, rfl⟩, ⟨cc, -, hcc, rfl⟩⟩ := hc
      obtain ⟨⟨d, -, hd, rfl⟩, ⟨e, -, he, rfl⟩, ⟨f, -, hf, rfl⟩⟩ := hd
      obtain ⟨T1, a1, a2, a3⟩ := refresh_eq (n := n) hn hI.1 hI.2.2.2.2.2.2.2.2.1
      have I1 := hI.ref a2 a3
      -- the class asks the same whether its numbers are up to date or not
      have hX := cd6_lt ha hb hcc hd he hf
      have cls : fX10_find n (nI a) (nI b) (nI cc) (nI d) (nI e) (nI f) T = bd (fX5_numberOf n (nI (cd6 a b cc d e f)) T) (fun r_20 T_19 => some (r_20, T_19)) := by
        unfold fX10_find
        rw [areC_yes ha hb hcc]
        simp only [bd]
        rw [if_neg (show ¬ (1 : Int32) = 0 by decide), areC_yes hd he hf]
        simp only
        rw [if_pos (show ¬ (1 : Int32) = 0 by decide)]
        exact packs (n := n) (T := T) (K := fun z U => bd (fX5_numberOf n z U) (fun r_20 T_19 => some (r_20, T_19))) ha hb hcc hd he hf
      have same : fX5_numberOf n (nI (cd6 a b cc d e f)) T = fX5_numberOf n (nI (cd6 a b cc d e f)) T1 := by
        have : fX5_count n T = fX5_count n T1 := by
          unfold fX5_count
          rw [a1, ref_num a3]
        unfold fX5_numberOf
        rw [this]
      obtain ⟨T3, C3, I3, ep, r3⟩ := ref T1 I1
      have iff : ∀ x, x ∈ psT T1 → ((∀ i, i < 6 → nI (cn x i) = y i) ↔ x = cd6 a b cc d e f) := by
        intro x hx
        obtain ⟨k, hk⟩ := List.getElem?_of_mem hx
        have ok := ps_ok I1.1 hk
        rw [cd6_iff ok.1 ha hb hcc hd he hf]
        have q : ∀ i, i < 6 → ∀ z, z ≤ 20 → (nI (cn x i) = nI z ↔ cn x i = z) := fun i hi z hz => nI_eq (by have := okc_cn ok hi; omega) (by omega)
        constructor
        · intro h
          exact ⟨(q 0 (by decide) a ha).mp (h 0 (by decide)), (q 1 (by decide) b hb).mp (h 1 (by decide)), (q 2 (by decide) cc hcc).mp (h 2 (by decide)), (q 3 (by decide) d hd).mp (h 3 (by decide)), (q 4 (by decide) e he).mp (h 4 (by decide)), (q 5 (by decide) f hf).mp (h 5 (by decide))⟩
        · rintro ⟨h0, h1, h2, h3, h4, h5⟩ i hi
          rcases (show i = 0 ∨ i = 1 ∨ i = 2 ∨ i = 3 ∨ i = 4 ∨ i = 5 by omega) with rfl | rfl | rfl | rfl | rfl | rfl
          · exact (q 0 (by decide) a ha).mpr h0
          · exact (q 1 (by decide) b hb).mpr h1
          · exact (q 2 (by decide) cc hcc).mpr h2
          · exact (q 3 (by decide) d hd).mpr h3
          · exact (q 4 (by decide) e he).mpr h4
          · exact (q 5 (by decide) f hf).mpr h5
      rw [cls, same]
      rw [ep] at r3
      rcases numberOf_eq (n := n) (X := cd6 a b cc d e f) hn I1.1 a3 (by omega) with ⟨k, hl, hk, ek⟩ | ⟨hno, ek⟩
      · rw [ek]
        rcases r3 with ⟨j, x, -, hj, hm, em⟩ | ⟨hno, -⟩
        · have hxe := (iff x (List.mem_of_getElem? hj)).mp hm
          subst hxe
          have hjk : j = k := by
            rcases Nat.lt_trichotomy j k with q | q | q
            · have := ps_sorted I1.1 hj hk q
              omega
            · exact q
            · have := ps_sorted I1.1 hk hj q
              omega
          subst hjk
          exact ⟨nI j, T1, T3, rfl, em, I3.up⟩
        · rcases hno with hno | hno
          · exact absurd hl (Nat.not_le.mpr hno)
          · have hmem := List.mem_of_getElem? hk
            exact absurd ((iff _ hmem).mpr rfl) (hno _ hmem)
      · rw [ek]
        rcases r3 with ⟨j, x, hl, hj, hm, -⟩ | ⟨-, em⟩
        · have hmem := List.mem_of_getElem? hj
          have hxe := (iff x hmem).mp hm
          rcases hno with hno | hno
          · exact absurd hl (Nat.not_le.mpr hno)
          · exact absurd (hxe ▸ hmem) hno
        · exact ⟨-1, T1, T3, rfl, em, I3.up⟩
    · obtain ⟨T3, C3, I3, ep, r3⟩ := ref T hI
      have cls : fX10_find n p0 p1 p2 p3 p4 p5 T = some (-1, T) := by
        obtain ⟨⟨a, -, ha, rfl⟩, ⟨b, -, hb, rfl⟩, ⟨cc, -, hcc, rfl⟩⟩ := hc
        unfold fX10_find
        rw [areC_yes ha hb hcc]
        simp only [bd]
        rw [if_neg (show ¬ (1 : Int32) = 0 by decide), areC_no hd]
        rfl
      rcases r3 with ⟨j, x, hl, hj, hm, -⟩ | ⟨-, em⟩
      · have ok := ps_ok I3.1 hj
        exact absurd ⟨⟨_, Nat.zero_le _, okc_cn ok (i := 3) (by decide), (hm 3 (by decide)).symm⟩, ⟨_, Nat.zero_le _, okc_cn ok (i := 4) (by decide), (hm 4 (by decide)).symm⟩, ⟨_, Nat.zero_le _, okc_cn ok (i := 5) (by decide), (hm 5 (by decide)).symm⟩⟩ hd
      · exact ⟨-1, T, T3, cls, em, I3.up⟩
  · obtain ⟨T3, C3, I3, ep, r3⟩ := ref T hI
    have cls : fX10_find n p0 p1 p2 p3 p4 p5 T = some (-1, T) := by
      unfold fX10_find
      rw [areC_no hc]
      rfl
    rcases r3 with ⟨j, x, hl, hj, hm, -⟩ | ⟨-, em⟩
    · have ok := ps_ok I3.1 hj
      exact absurd ⟨⟨_, Nat.zero_le _, okc_cn ok (i := 0) (by decide), (hm 0 (by decide)).symm⟩, ⟨_, Nat.zero_le _, okc_cn ok (i := 1) (by decide), (hm 1 (by decide)).symm⟩, ⟨_, Nat.zero_le _, okc_cn ok (i := 2) (by decide), (hm 2 (by decide)).symm⟩⟩ hc
    · exact ⟨-1, T, T3, cls, em, I3.up⟩
