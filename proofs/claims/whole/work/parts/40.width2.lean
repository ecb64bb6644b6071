/-! the same, so that no step is left to the kernel's own unfolding -/
theorem zA_uI (T : TS) (k : Nat) (v : Int32) (j : Nat) : gA (uI T k v) j = gA T j := by cases T; rfl
theorem zA_uA (T : TS) (k : Nat) (f : Nat → Int32) (j : Nat) : gA (uA T k f) j = if j = k then f else gA T j := by cases T; rfl
theorem zA_sA (T : TS) (k : Nat) (i x : Int32) (j : Nat) : gA (sA T k i x) j = if j = k then upd (gA T k) i.toNatClampNeg x else gA T j := by cases T; rfl
theorem zI_uI (T : TS) (k : Nat) (v : Int32) (j : Nat) : gI (uI T k v) j = if j = k then v else gI T j := by cases T; rfl
theorem zI_uA (T : TS) (k : Nat) (f : Nat → Int32) (j : Nat) : gI (uA T k f) j = gI T j := by cases T; rfl
theorem zI_sA (T : TS) (k : Nat) (i x : Int32) (j : Nat) : gI (sA T k i x) j = gI T j := by cases T; rfl
theorem width_inv {c a b q : Nat} {T T2 : TS} (h : Inv c T) (h5 : vd T < 6) (ha0 : 1 ≤ a) (ha : a ≤ vw T) (hb : b ≤ 40) (hq : q ≤ vd T) (hlt : ∀ p, p < q → a < vm T (vq T p)) (hge : ∀ p, q ≤ p → p < vd T → vm T (vq T p) < a) (hne : ∀ i, i < vd T → vm T i ≠ a)
    (fr : FR [55, 204, 550, 13, 2050, 2056, 2063, 2067, 2074] [3, 2, 8, 42, 43] 0 0 T T2) (v55 : gI T2 55 = nI (vd T + 1)) (u6 : gI T2 2056 = nI (vd T + 1)) (x1 : gI T2 204 = 1) (x2 : gI T2 550 = 0) (x3 : gI T2 13 = 0) (x4 : gI T2 2063 = 0) (x5 : gI T2 2067 = 0) (x6 : gI T2 2074 = 1) (x7 : gI T2 2073 = gI T 2073)
    (g2 : ∀ i, gA T2 2 i = if i = vd T then nI a else gA T 2 i) (g42 : ∀ i, gA T2 42 i = if i = vd T then nI a else gA T 42 i) (g8 : ∀ i, gA T2 8 i = if i = vd T then nI b else gA T 8 i) (g43 : ∀ i, gA T2 43 i = if i = vd T then nI b else gA T 43 i) (g3 : ∀ p, gA T2 3 p = if p = q then nI (vd T) else gfq (gA T 3) (vd T) q p) : Inv (c + 1) T2 := by
  have hW := h.1.2.2.1.2.1
  obtain ⟨m1, m2, m3, m4, m5, m6, m7, m8, m9, m10⟩ := h
  refine ⟨?_, m2.none x2 x5 (fr.O 48), m3.none x3 x7 x6, m4.fr fr, ?_, m6.fr fr (by decide) (by decide), m7.fr fr (by decide) (by decide), m8.fr fr, ⟨Or.inr x1, fun q => absurd (x1.symm.trans q) (by decide)⟩, ⟨Or.inl x4, fun q => absurd (x4.symm.trans q) (by decide)⟩⟩
  · obtain ⟨⟨p1, p2, p3, p4, p5, p6⟩, ⟨q1, q2, q3, q4, q5, q6⟩, ⟨b1, b2, b3, b4, b5, b6, b7, b8⟩, r1, r2, r3, r4, r5⟩ := m1
    have i50 := fr.I (k := 50) (by decide)
    have i51 := fr.I (k := 51) (by decide)
    have i52 := fr.I (k := 52) (by decide)
    have i53 := fr.I (k := 53) (by decide)
    have i54 := fr.I (k := 54) (by decide)
    have j1 := fr.I (k := 2051) (by decide)
    have j2 := fr.I (k := 2052) (by decide)
    have j3 := fr.I (k := 2053) (by decide)
    have j4 := fr.I (k := 2054) (by decide)
    have j5 := fr.I (k := 2055) (by decide)
    have ew : vw T2 = vw T := by unfold vw; rw [i50]
    have ee : ve T2 = ve T := by unfold ve; rw [i51]
    have ek : vk T2 = vk T := by unfold vk; rw [i52]
    have ef : vf T2 = vf T := by unfold vf; rw [i53]
    have eg : vg T2 = vg T := by unfold vg; rw [i54]
    have ed : vd T2 = vd T + 1 := by
      show (gI T2 55).toNatClampNeg = vd T + 1
      rw [v55, nI_clamp (by omega)]
    have em : ∀ i, vm T2 i = if i = vd T then a else vm T i := fun i => by
      unfold vm
      rw [g2]
      by_cases hi : i = vd T
      · rw [if_pos hi, if_pos hi, nI_clamp (by omega)]
      · rw [if_neg hi, if_neg hi]
    have eq : ∀ p, vq T2 p = if p = q then vd T else if q < p ∧ p ≤ vd T then vq T (p - 1) else vq T p := fun p => by
      unfold vq gfq at *
      rw [g3]
      by_cases hp : p = q
      · rw [if_pos hp, if_pos hp, nI_clamp (by omega)]
      · rw [if_neg hp, if_neg hp]
        by_cases hp2 : q < p ∧ p ≤ vd T
        · rw [if_pos hp2, if_pos hp2]
        · rw [if_neg hp2, if_neg hp2]
    have vqlt : ∀ p, p < vd T → vq T p < vd T := fun p hp => (r3 p hp).2
    -- the WIDTH at a place, behind the call
    have emq : ∀ p, p < vd T + 1 → vm T2 (vq T2 p) = if p = q then a else if q < p then vm T (vq T (p - 1)) else vm T (vq T p) := fun p hp => by
      by_cases h1 : p = q
      · have v : vq T2 p = vd T := by rw [eq, if_pos h1]
        rw [em, v, if_pos rfl, if_pos h1]
      · by_cases h2 : q < p
        · have v : vq T2 p = vq T (p - 1) := by rw [eq, if_neg h1, if_pos ⟨h2, by omega⟩]
          have hl := vqlt (p - 1) (by omega)
          rw [em, v, if_neg (by omega), if_neg h1, if_pos h2]
        · have v : vq T2 p = vq T p := by rw [eq, if_neg h1, if_neg (fun z => h2 z.1)]
          have hl := vqlt p (by omega)
          rw [em, v, if_neg (by omega), if_neg h1, if_neg h2]
    refine ⟨⟨by rw [i50, ew]; exact p1, by rw [i51, ee]; exact p2, by rw [i52, ek]; exact p3, by rw [i53, ef]; exact p4, by rw [i54, eg]; exact p5, by rw [v55, ed]⟩, ⟨by rw [j1, i50]; exact q1, by rw [j2, i51]; exact q2, by rw [j3, i52]; exact q3, by rw [j4, i53]; exact q4, by rw [j5, i54]; exact q5, by rw [u6, v55]⟩, ⟨by rw [ew]; exact b1, by rw [ew]; exact b2, by rw [ew, ee]; exact b3, by rw [ek]; exact b4, by rw [ek]; exact b5, by rw [ef, eg]; exact b6, by rw [eg, ew]; exact b7, by rw [ed]; omega⟩, ?_, ?_, ?_, ?_, ?_⟩
    · intro i hi
      rw [ed] at hi
      rw [em, g2, g42, ew]
      by_cases h1 : i = vd T
      · simp only [if_pos h1]
        exact ⟨trivial, ha0, ha, trivial⟩
      · simp only [if_neg h1]
        exact r1 i (by omega)
    · intro i j hi hj
      rw [ed] at hi hj
      rw [em, em]
      by_cases h1 : i = vd T
      · by_cases h2 : j = vd T
        · intro _
          omega
        · rw [if_pos h1, if_neg h2]
          intro z
          exact absurd z.symm (hne j (by omega))
      · by_cases h2 : j = vd T
        · rw [if_neg h1, if_pos h2]
          intro z
          exact absurd z (hne i (by omega))
        · rw [if_neg h1, if_neg h2]
          exact r2 i j (by omega) (by omega)
    · intro p hp
      rw [ed] at hp
      constructor
      · rw [g3, eq]
        unfold gfq
        by_cases h1 : p = q
        · rw [if_pos h1, if_pos h1]
        · rw [if_neg h1, if_neg h1]
          by_cases h2 : q < p ∧ p ≤ vd T
          · rw [if_pos h2, if_pos h2]
            exact (r3 (p - 1) (by omega)).1
          · rw [if_neg h2, if_neg h2]
            exact (r3 p (by omega)).1
      · rw [eq, ed]
        by_cases h1 : p = q
        · rw [if_pos h1]
          omega
        · rw [if_neg h1]
          by_cases h2 : q < p ∧ p ≤ vd T
          · rw [if_pos h2]
            have := vqlt (p - 1) (by omega)
            omega
          · rw [if_neg h2]
            have := vqlt p (by omega)
            omega
    · intro p r hpr hr
      rw [ed] at hr
      rw [emq p (by omega), emq r (by omega)]
      by_cases h1 : p = q
      · have h2 : ¬ r = q := by omega
        have h3 : q < r := by omega
        rw [if_pos h1, if_neg h2, if_pos h3]
        exact hge (r - 1) (by omega) (by omega)
      · rw [if_neg h1]
        by_cases h2 : q < p
        · have h3 : ¬ r = q := by omega
          have h4 : q < r := by omega
          rw [if_pos h2, if_neg h3, if_pos h4]
          exact r4 (p - 1) (r - 1) (by omega) (by omega)
        · rw [if_neg h2]
          have hpa := hlt p (by omega)
          by_cases h3 : r = q
          · rw [if_pos h3]
            exact hpa
          · rw [if_neg h3]
            by_cases h4 : q < r
            · rw [if_pos h4]
              have := hge (r - 1) (by omega) (by omega)
              omega
            · rw [if_neg h4]
              exact r4 p r hpr (by omega)
    · intro i hi
      rw [ed] at hi ⊢
      by_cases h1 : i = vd T
      · exact ⟨q, by omega, by rw [eq, if_pos rfl, h1]⟩
      · obtain ⟨p, hp, e⟩ := r5 i (by omega)
        rcases Nat.lt_or_ge p q with z | z
        · exact ⟨p, by omega, by rw [eq, if_neg (by omega), if_neg (by omega)]; exact e⟩
        · exact ⟨p + 1, by omega, by rw [eq, if_neg (by omega), if_pos (by omega)]; exact e⟩
  · obtain ⟨o1, o2, o3⟩ := m5
    refine ⟨by rw [fr.I (k := 305) (by decide), fr.I (k := 2061) (by decide)]; exact o1, by rw [fr.I (k := 14) (by decide), fr.I (k := 2062) (by decide)]; exact o2, fun i hi => ?_⟩
    obtain ⟨x, y, z, w1, w2, w3, w4, w5, w6, w7, w8, w9⟩ := o3 i hi
    rw [g8, g43, fr.A (k := 9) (by decide) (by decide), fr.A (k := 44) (by decide) (by decide), fr.A (k := 10) (by decide) (by decide), fr.A (k := 45) (by decide) (by decide)]
    by_cases h1 : i = vd T
    · simp only [if_pos h1]
      exact ⟨b, y, z, hb, by omega, w3, rfl, rfl, w6, w7, w8, w9⟩
    · simp only [if_neg h1]
      exact ⟨x, y, z, w1, by omega, w3, w4, w5, w6, w7, w8, w9⟩
def wT1 (T : TS) (q a b : Nat) : TS := uI (uI (uI (sA (uI (sA (sA (uA T 3 (gfq (gA T 3) (vd T) q)) 3 (nI q) (nI (vd T))) 2 (nI (vd T)) (nI a)) 55 (nI (vd T) + 1)) 8 (nI (vd T)) (nI b)) 204 1) 550 0) 13 0
def wT2 (T : TS) (q a b : Nat) : TS := uI (uI (uI (uI (sA (sA (uI (wT1 T q a b) 2050 0) 42 (nI (vd T)) (nI a)) 43 (nI (vd T)) (nI b)) 2056 (nI (vd T) + 1)) 2063 0) 2067 0) 2074 1
section W2
variable {T : TS} {q a b : Nat}
theorem wT2_fr : FR [55, 204, 550, 13, 2050, 2056, 2063, 2067, 2074] [3, 2, 8, 42, 43] 0 0 T (wT2 T q a b) := by
  unfold wT2 wT1
  exact (((((((((((((FR.uA (Or.inl (by decide))).trans (FR.sA (Or.inl (by decide)))).trans (FR.sA (Or.inl (by decide)))).trans (FR.uI (by decide))).trans (FR.sA (Or.inl (by decide)))).trans (FR.uI (by decide))).trans (FR.uI (by decide))).trans (FR.uI (by decide))).trans (FR.uI (by decide))).trans (FR.sA (Or.inl (by decide)))).trans (FR.sA (Or.inl (by decide)))).trans (FR.uI (by decide))).trans (FR.uI (by decide))).trans ((FR.uI (by decide)).trans (FR.uI (by decide)))
theorem wT2_55 : gI (wT2 T q a b) 55 = nI (vd T + 1) := nI_1 (vd T)
theorem wT2_2056 : gI (wT2 T q a b) 2056 = nI (vd T + 1) := nI_1 (vd T)
theorem wT2_204 : gI (wT2 T q a b) 204 = 1 := rfl
theorem wT2_550 : gI (wT2 T q a b) 550 = 0 := rfl
theorem wT2_13 : gI (wT2 T q a b) 13 = 0 := rfl
theorem wT2_2063 : gI (wT2 T q a b) 2063 = 0 := rfl
theorem wT2_2067 : gI (wT2 T q a b) 2067 = 0 := rfl
theorem wT2_2074 : gI (wT2 T q a b) 2074 = 1 := rfl
theorem wT2_g2 (hd : vd T < 2 ^ 31) (i : Nat) : gA (wT2 T q a b) 2 i = if i = vd T then nI a else gA T 2 i := by
  simp only [wT2, wT1, zA_uI, zA_sA, zA_uA, Nat.reduceEqDiff, if_false, if_true, nI_clamp hd, upd_at]
theorem wT2_g3 (hq : q < 2 ^ 31) (p : Nat) : gA (wT2 T q a b) 3 p = if p = q then nI (vd T) else gfq (gA T 3) (vd T) q p := by
  simp only [wT2, wT1, zA_uI, zA_sA, zA_uA, Nat.reduceEqDiff, if_false, if_true, nI_clamp hq, upd_at]
theorem wT2_g8 (hd : vd T < 2 ^ 31) (i : Nat) : gA (wT2 T q a b) 8 i = if i = vd T then nI b else gA T 8 i := by
  simp only [wT2, wT1, zA_uI, zA_sA, zA_uA, Nat.reduceEqDiff, if_false, if_true, nI_clamp hd, upd_at]
theorem wT2_g42 (hd : vd T < 2 ^ 31) (i : Nat) : gA (wT2 T q a b) 42 i = if i = vd T then nI a else gA T 42 i := by
  simp only [wT2, wT1, zA_uI, zA_sA, zA_uA, Nat.reduceEqDiff, if_false, if_true, nI_clamp hd, upd_at]
theorem wT2_g43 (hd : vd T < 2 ^ 31) (i : Nat) : gA (wT2 T q a b) 43 i = if i = vd T then nI b else gA T 43 i := by
  simp only [wT2, wT1, zA_uI, zA_sA, zA_uA, Nat.reduceEqDiff, if_false, if_true, nI_clamp hd, upd_at]
end W2
theorem eq_width {n c : Nat} {T : TS} (hn : 10000 ≤ n) (h : Inv c T) (a b : Int32) : Both c (fX10_width n a b) (fX11_width n a b) T := by
  obtain ⟨d1, d2, d6⟩ := h.1.d
  have p1 := h.1.1.1
  have q1 : gI T 2051 = nI (vw T) := h.1.2.1.1.trans p1
  have hW := h.1.2.2.1.2.1
  unfold Both fX10_width fX11_width
  simp only [nm]
  by_cases hp : ¬ (∃ i, 1 ≤ i ∧ i ≤ vw T ∧ a = nI i)
  · refine ⟨-1, T, uI T 2050 0, ?_, ?_, h.th⟩
    · rw [p1, show fX10_within n a 1 (nI (vw T)) T = some (0, T) from wi_no (a := 1) (by decide) (by omega) hp]
      rfl
    · rw [show gI (uI T 2050 0) 2051 = nI (vw T) from q1, show fX11_in n a 1 (nI (vw T)) (uI T 2050 0) = some (0, uI T 2050 0) from mi_no (a := 1) (by decide) (by omega) hp]
      rfl
  obtain ⟨a, ha0, ha, rfl⟩ := Classical.not_not.mp hp
  have k1 : ∀ U, fX10_within n (nI a) 1 (nI (vw T)) U = some (1, U) := fun U => wi_yes ha0 ha (by omega)
  have k2 : ∀ U, fX11_in n (nI a) 1 (nI (vw T)) U = some (1, U) := fun U => mi_yes ha0 ha (by omega)
  rw [p1]
  simp only [k1, bd]
  simp only [if_neg (show ¬ (1 : Int32) = 0 by decide)]
  by_cases hp : ¬ (∃ i, 0 ≤ i ∧ i ≤ 40 ∧ b = nI i)
  · refine ⟨-1, T, uI T 2050 0, ?_, ?_, h.th⟩
    · rw [show fX10_within n b 0 40 T = some (0, T) from wi_no (a := 0) (b := 40) (by decide) (by decide) hp]
      rfl
    · rw [show gI (uI T 2050 0) 2051 = nI (vw T) from q1, k2]
      simp only
      rw [if_neg (show ¬ (1 : Int32) = 0 by decide), show fX11_in n b 0 40 (uI T 2050 0) = some (0, uI T 2050 0) from mi_no (a := 0) (b := 40) (by decide) (by decide) hp]
      rfl
  obtain ⟨b, hb0, hb, rfl⟩ := Classical.not_not.mp hp
  have k3 : ∀ U, fX10_within n (nI b) 0 40 U = some (1, U) := fun U => wi_yes hb0 hb (by decide)
  have k4 : ∀ U, fX11_in n (nI b) 0 40 U = some (1, U) := fun U => mi_yes hb0 hb (by decide)
  simp only [k3, k4, if_pos (show ¬ (1 : Int32) = 0 by decide), if_neg (show ¬ (1 : Int32) = 0 by decide)]
  by_cases hd6 : vd T = 6
  · refine ⟨-1, T, uI T 2050 0, ?_, ?_, h.th⟩
    · rw [d1, hd6, if_pos (show (6 : Int32) ≤ nI 6 by decide)]
    · rw [show gI (uI T 2050 0) 2051 = nI (vw T) from q1, k2]
      simp only
      rw [if_neg (show ¬ (1 : Int32) = 0 by decide), show gI (uI T 2050 0) 2056 = nI 6 from hd6 ▸ d2, if_neg (fun q => q rfl)]
  have h5 : vd T < 6 := by omega
  rw [d1, if_neg (show ¬ (6 : Int32) ≤ nI (vd T) from nI_ge (b := 6) h5 (by decide))]
  have ne6 : ¬ nI (vd T) = 6 := fun q => hd6 ((nI_eq (b := 6) (by omega) (by decide)).mp q)
  have key42 : ∀ j, j < vd T → (gA T 42 j = nI a ↔ vm T j = a) := fun j hj => by
    have g := h.1.2.2.2.1 j hj
    rw [g.2.2.2, g.1, nI_eq (by omega) (by omega)]
  rcases hasW_eq (n := n) (by omega) h.1 (show a ≤ 10000 by omega) with ⟨⟨j, hj, hja⟩, e⟩ | ⟨hne, e⟩
  · rw [e]
    simp only
    rw [if_neg (show ¬ (1 : Int32) = 0 by decide)]
    refine ⟨-1, T, uI T 2050 0, rfl, ?_, h.th⟩
    rw [show gI (uI T 2050 0) 2051 = nI (vw T) from q1, k2]
    simp only
    rw [if_neg (show ¬ (1 : Int32) = 0 by decide), show gI (uI T 2050 0) 2056 = nI (vd T) from d2, if_pos ne6]
    rcases mwidth_eq (n := n) (T := uI T 2050 0) (y1 := nI a) (y2 := nI b) (kk := fun T_6 => ck (gI T_6 2056) 6 (ck (gI (sA T_6 42 (gI T_6 2056) (nI a)) 2056) 6 (bv (fX11_changes n (uI (sA (sA T_6 42 (gI T_6 2056) (nI a)) 43 (gI (sA T_6 42 (gI T_6 2056) (nI a)) 2056) (nI b)) 2056 (gI (sA (sA T_6 42 (gI T_6 2056) (nI a)) 43 (gI (sA T_6 42 (gI T_6 2056) (nI a)) 2056) (nI b)) 2056 + 1))) (fun T_10 => some (gI T_10 2056 - 1, T_10))))) (by omega) d2 d6 with ⟨-, e2⟩ | ⟨hq, -⟩
    · exact e2
    · exact absurd ((key42 j hj).mpr hja) (hq j hj)
  · rw [e]
    simp only
    rw [if_pos trivial]
    obtain ⟨q, hq, hlt, hge, ea⟩ := addW_eq (n := n) (by omega) h.1 (show a ≤ 10000 by omega) h5 hne
    rw [ea]
    simp only
    have ckd : ∀ {z : Option (Int32 × TS)}, ck (nI (vd T)) 6 z = z := ck_nI h5 (by decide)
    rw [ckd]
    refine ⟨nI (vd T), wT1 T q a b, wT2 T q a b, rfl, ?_, ?_⟩
    · unfold wT2
      generalize hU : wT1 T q a b = U
      have u1 : gI U 2051 = nI (vw T) := by subst hU; exact q1
      have u2 : gI U 2056 = nI (vd T) := by subst hU; exact d2
      have u3 : gA U 42 = gA T 42 := by subst hU; rfl
      clear hU
      have u1' : gI (uI U 2050 0) 2051 = nI (vw T) := u1
      have u2' : gI (uI U 2050 0) 2056 = nI (vd T) := u2
      rw [u1', k2]
      simp only
      rw [if_neg (show ¬ (1 : Int32) = 0 by decide), u2', if_pos ne6]
      rcases mwidth_eq (n := n) (T := uI U 2050 0) (y1 := nI a) (y2 := nI b) (kk := fun T_6 => ck (gI T_6 2056) 6 (ck (gI (sA T_6 42 (gI T_6 2056) (nI a)) 2056) 6 (bv (fX11_changes n (uI (sA (sA T_6 42 (gI T_6 2056) (nI a)) 43 (gI (sA T_6 42 (gI T_6 2056) (nI a)) 2056) (nI b)) 2056 (gI (sA (sA T_6 42 (gI T_6 2056) (nI a)) 43 (gI (sA T_6 42 (gI T_6 2056) (nI a)) 2056) (nI b)) 2056 + 1))) (fun T_10 => some (gI T_10 2056 - 1, T_10))))) (by omega) u2' d6 with ⟨⟨j, hj, hja⟩, -⟩ | ⟨-, e2⟩
      · exact absurd ((key42 j hj).mp (u3 ▸ hja)) (hne j hj)
      · refine e2.trans ?_
        rw [u2', ckd]
        rw [show gI (sA (uI U 2050 0) 42 (nI (vd T)) (nI a)) 2056 = nI (vd T) from u2, ckd]
        rw [show gI (sA (sA (uI U 2050 0) 42 (nI (vd T)) (nI a)) 43 (nI (vd T)) (nI b)) 2056 = nI (vd T) from u2]
        show some (nI (vd T) + 1 - 1, _) = _
        rw [nI_s1]
    · exact width_inv h h5 ha0 ha hb hq hlt hge hne wT2_fr wT2_55 wT2_2056 wT2_204 wT2_550 wT2_13 wT2_2063 wT2_2067 wT2_2074 (wT2_fr.I (by decide)) (wT2_g2 (by omega)) (wT2_g42 (by omega)) (wT2_g8 (by omega)) (wT2_g43 (by omega)) (wT2_g3 (by omega))
