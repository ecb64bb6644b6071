theorem widest_eq {n : Nat} {T : TS} (h : GM T) : fX4_widest n T = some (if vd T = 0 then 0 else nI (vm T (vq T 0)), T) := by
  obtain ⟨⟨p1, p2, p3, p4, p5, p6⟩, -, ⟨b1, b2, b3, b4, b5, b6, b7, b8⟩, r1, r2, r3, r4, r5⟩ := h
  unfold fX4_widest
  by_cases hd : vd T = 0
  · rw [p6, hd, if_neg (fun q => q rfl), if_pos rfl]
  · rw [p6, if_pos (nI_ne0 (by omega) (by omega)), if_neg hd]
    have g := r3 0 (by omega)
    rw [show (0 : Int32) = nI 0 from rfl, ck_nI (by decide) (by decide), nI_clamp (by decide), g.1, ck_nI (by omega) (by decide), nI_clamp (by omega), (r1 _ g.2).1]
theorem mmill_eq {n d : Nat} {T : TS} {y1 y2 y3 : Int32} {kk : TS → Option (Int32 × TS)} (hn : 10 ≤ n) (hd : gI T 2056 = nI d) (h6 : d ≤ 6) : ((∃ j, j < d ∧ ¬ gA T 42 j ≤ y1) ∧ fX11_mill_L43 n y1 y2 y3 kk n 0 T = some (0, T)) ∨ ((∀ i, i < d → gA T 42 i ≤ y1) ∧ fX11_mill_L43 n y1 y2 y3 kk n 0 T = kk T) := by
  have k1 : ∀ j, j < d → (fun j => gA T 42 j ≤ y1) j → ∀ f, (fun f x => fX11_mill_L43 n y1 y2 y3 kk f x T) (f + 1) (nI j) = (fun f x => fX11_mill_L43 n y1 y2 y3 kk f x T) f (nI (j + 1)) := by
    intro j hj hp f
    show fX11_mill_L43 n y1 y2 y3 _ (f + 1) (nI j) T = _
    rw [fX11_mill_L43, hd, if_neg (nI_ge hj (by omega)), ck_nI (by omega) (by decide), nI_clamp (by omega), if_pos hp, nI_1]
  have k2 : ∀ j, j < d → ¬ (fun j => gA T 42 j ≤ y1) j → ∀ f, (fun f x => fX11_mill_L43 n y1 y2 y3 kk f x T) (f + 1) (nI j) = (fun _ => some (0, T)) j := by
    intro j hj hp f
    show fX11_mill_L43 n y1 y2 y3 _ (f + 1) (nI j) T = _
    rw [fX11_mill_L43, hd, if_neg (nI_ge hj (by omega)), ck_nI (by omega) (by decide), nI_clamp (by omega), if_neg hp]
    rfl
  have k3 : ∀ f, (fun f x => fX11_mill_L43 n y1 y2 y3 kk f x T) (f + 1) (nI d) = (kk T) := by
    intro f
    show fX11_mill_L43 n y1 y2 y3 _ (f + 1) (nI d) T = _
    rw [fX11_mill_L43, hd, if_pos (nI_le (Nat.le_refl d) (by omega))]
  rcases lps (fun f x => fX11_mill_L43 n y1 y2 y3 kk f x T) d (kk T) (fun _ => some (0, T)) (fun j => gA T 42 j ≤ y1) k1 k2 k3 n (by omega) with ⟨j, h1, h2, h3, h4⟩ | ⟨h1, h2⟩
  · exact Or.inl ⟨⟨j, h1, h2⟩, h4⟩
  · exact Or.inr ⟨h1, h2⟩
theorem GM.top {T : TS} (h : GM T) {i : Nat} (hi : i < vd T) : vm T i ≤ vm T (vq T 0) := by
  obtain ⟨-, -, -, r1, r2, r3, r4, r5⟩ := h
  obtain ⟨p, hp, e⟩ := r5 i hi
  rcases Nat.eq_zero_or_pos p with q | q
  · subst q
    rw [e]
    exact Nat.le_refl _
  · have := r4 0 p q hp
    rw [e] at this
    omega
/-- a PLAN of no SLOTS -/
theorem GS.none {T T' : TS} (h : GS T) (h1 : gI T' 550 = 0) (h2 : gI T' 2067 = 0) (hO : gO T' 48 = gO T 48) : GS T' := by
  obtain ⟨-, -, -, -, a5, a6⟩ := h
  have e0 : vns T' = 0 := by unfold vns; rw [h1]; rfl
  refine ⟨by rw [h1, e0]; rfl, by rw [h1, h2], by rw [e0]; decide, fun s hs => by rw [e0] at hs; omega, by rw [hO]; exact a5, by rw [hO]; exact a6⟩
theorem GK.none {T T' : TS} (h : GK T) (h1 : gI T' 13 = 0) (h2 : gI T' 2073 = gI T 2073) (h3 : gI T' 2074 = 1) : GK T' := by
  obtain ⟨-, a2, -⟩ := h
  unfold GK
  rw [h1, h2, h3]
  exact ⟨Or.inl rfl, a2, Or.inr rfl, ⟨fun q => absurd q (by decide), fun q => absurd q.2 (by decide)⟩, fun q => absurd q (by decide)⟩
theorem eq_mill {n c : Nat} {T : TS} (hn : 10000 ≤ n) (h : Inv c T) (a b k : Int32) : Both c (fX10_mill n a b k) (fX11_mill n a b k) T := by
  obtain ⟨d1, d2, d6⟩ := h.1.d
  unfold Both fX10_mill fX11_mill
  simp only [nm]
  by_cases hp : ¬ (∃ i, 10 ≤ i ∧ i ≤ 10000 ∧ a = nI i)
  · refine ⟨0, T, uI T 2050 0, ?_, ?_, h.th⟩
    · rw [show fX10_within n a 10 10000 T = some (0, T) from wi_no (a := 10) (b := 10000) (by decide) (by decide) hp]
      rfl
    · rw [show fX11_in n a 10 10000 (uI T 2050 0) = some (0, uI T 2050 0) from mi_no (a := 10) (b := 10000) (by decide) (by decide) hp]
      rfl
  obtain ⟨w, hw0, hw, rfl⟩ := Classical.not_not.mp hp
  have k1 : ∀ U, fX10_within n (nI w) 10 10000 U = some (1, U) := fun U => wi_yes hw0 hw (by decide)
  have k2 : ∀ U, fX11_in n (nI w) 10 10000 U = some (1, U) := fun U => mi_yes hw0 hw (by decide)
  have nz4 : ∀ {x : Option (Int32 × TS)}, nz 4 x = x := by intro x; unfold nz; rw [if_neg (by decide)]
  have e4 : nI w / 4 = nI (w / 4) := pk_div (d := 4) (by omega) (by decide) (by decide)
  simp only [k1, k2, bd, nz4, e4]
  simp only [if_neg (show ¬ (1 : Int32) = 0 by decide)]
  by_cases hp : ¬ (∃ i, 0 ≤ i ∧ i ≤ w / 4 ∧ b = nI i)
  · refine ⟨0, T, uI T 2050 0, ?_, ?_, h.th⟩
    · rw [show fX10_within n b 0 (nI (w / 4)) T = some (0, T) from wi_no (a := 0) (by decide) (by omega) hp]
      rfl
    · rw [show fX11_in n b 0 (nI (w / 4)) (uI T 2050 0) = some (0, uI T 2050 0) from mi_no (a := 0) (by decide) (by omega) hp]
      rfl
  obtain ⟨e, he0, he, rfl⟩ := Classical.not_not.mp hp
  have k3 : ∀ U, fX10_within n (nI e) 0 (nI (w / 4)) U = some (1, U) := fun U => wi_yes he0 he (by omega)
  have k4 : ∀ U, fX11_in n (nI e) 0 (nI (w / 4)) U = some (1, U) := fun U => mi_yes he0 he (by omega)
  simp only [k3, k4]
  simp only [if_neg (show ¬ (1 : Int32) = 0 by decide)]
  by_cases hp : ¬ (∃ i, 1 ≤ i ∧ i ≤ 20 ∧ k = nI i)
  · refine ⟨0, T, uI T 2050 0, ?_, ?_, h.th⟩
    · rw [show fX10_within n k 1 20 T = some (0, T) from wi_no (a := 1) (b := 20) (by decide) (by decide) hp]
      rfl
    · rw [show fX11_in n k 1 20 (uI T 2050 0) = some (0, uI T 2050 0) from mi_no (a := 1) (b := 20) (by decide) (by decide) hp]
      rfl
  obtain ⟨kn, hk0, hk, rfl⟩ := Classical.not_not.mp hp
  have k5 : ∀ U, fX10_within n (nI kn) 1 20 U = some (1, U) := fun U => wi_yes hk0 hk (by decide)
  have k6 : ∀ U, fX11_in n (nI kn) 1 20 U = some (1, U) := fun U => mi_yes hk0 hk (by decide)
  simp only [k5, k6, if_pos (show ¬ (1 : Int32) = 0 by decide)]
  rw [widest_eq h.1]
  simp only
  have hle : (if vd T = 0 then 0 else nI (vm T (vq T 0))) ≤ nI w ↔ ∀ i, i < vd T → vm T i ≤ w := by
    by_cases hd : vd T = 0
    · rw [if_pos hd]
      exact ⟨fun _ i hi => by omega, fun _ => nI_pos' (by omega)⟩
    · rw [if_neg hd]
      have h0 := (h.1.2.2.2.2.2.1 0 (by omega)).2
      have hb := (h.1.2.2.2.1 _ h0).2.2.1
      have hw2 := h.1.2.2.1.2.1
      rw [nI_leI (by omega) (by omega)]
      exact ⟨fun q i hi => Nat.le_trans (h.1.top hi) q, fun q => q _ h0⟩
  have hle2 : ∀ i, i < vd T → (gA T 42 i ≤ nI w ↔ vm T i ≤ w) := fun i hi => by
    obtain ⟨a1, a2, a3, a4⟩ := h.1.2.2.2.1 i hi
    have hw2 := h.1.2.2.1.2.1
    rw [a4, a1, nI_leI (by omega) (by omega)]
  by_cases hall : ∀ i, i < vd T → vm T i ≤ w
  · rw [if_pos (hle.mpr hall)]
    refine ⟨1, uI (uI (uI (uI (uI (uI (uI (uI T 50 (nI w)) 51 (nI e)) 52 (nI kn)) 53 0) 54 0) 204 1) 550 0) 13 0, uI (uI (uI (uI (uI (uI (uI (uI (uI (uI (uI (uI (uI (uI (uI (uI (uI T 50 (nI w)) 51 (nI e)) 52 (nI kn)) 53 0) 54 0) 204 1) 550 0) 13 0) 2050 0) 2051 (nI w)) 2052 (nI e)) 2053 (nI kn)) 2054 0) 2055 0) 2063 0) 2067 0) 2074 1, rfl, ?_, ?_⟩
    · rcases mmill_eq (n := n) (T := uI (uI (uI (uI (uI (uI (uI (uI (uI T 50 (nI w)) 51 (nI e)) 52 (nI kn)) 53 0) 54 0) 204 1) 550 0) 13 0) 2050 0) (y1 := nI w) (y2 := nI e) (y3 := nI kn) (kk := fun T_8 => bv (fX11_changes n (uI (uI (uI (uI (uI T_8 2051 (nI w)) 2052 (nI e)) 2053 (nI kn)) 2054 0) 2055 0)) (fun T_14 => rz 1 T_14)) (by omega) d2 d6 with ⟨⟨j, hj, hq⟩, -⟩ | ⟨-, e2⟩
      · exact absurd ((hle2 j hj).mpr (hall j hj)) hq
      · exact e2.trans rfl
    · generalize hT2 : uI (uI (uI (uI (uI (uI (uI (uI (uI (uI (uI (uI (uI (uI (uI (uI (uI T 50 (nI w)) 51 (nI e)) 52 (nI kn)) 53 0) 54 0) 204 1) 550 0) 13 0) 2050 0) 2051 (nI w)) 2052 (nI e)) 2053 (nI kn)) 2054 0) 2055 0) 2063 0) 2067 0) 2074 1 = T2
      have fr : FR [50, 51, 52, 53, 54, 204, 550, 13, 2050, 2051, 2052, 2053, 2054, 2055, 2063, 2067, 2074] [] 0 0 T T2 := by
        subst hT2
        exact ((((((((((((((((FR.uI (by decide)).trans (FR.uI (by decide))).trans (FR.uI (by decide))).trans (FR.uI (by decide))).trans (FR.uI (by decide))).trans (FR.uI (by decide))).trans (FR.uI (by decide))).trans (FR.uI (by decide))).trans (FR.uI (by decide))).trans (FR.uI (by decide))).trans (FR.uI (by decide))).trans (FR.uI (by decide))).trans (FR.uI (by decide))).trans (FR.uI (by decide))).trans (FR.uI (by decide))).trans (FR.uI (by decide))).trans (FR.uI (by decide))
      have v50 : gI T2 50 = nI w := by subst hT2; rfl
      have v51 : gI T2 51 = nI e := by subst hT2; rfl
      have v52 : gI T2 52 = nI kn := by subst hT2; rfl
      have v53 : gI T2 53 = 0 := by subst hT2; rfl
      have v54 : gI T2 54 = 0 := by subst hT2; rfl
      have v55 : gI T2 55 = gI T 55 := by subst hT2; rfl
      have u1 : gI T2 2051 = nI w := by subst hT2; rfl
      have u2 : gI T2 2052 = nI e := by subst hT2; rfl
      have u3 : gI T2 2053 = nI kn := by subst hT2; rfl
      have u4 : gI T2 2054 = 0 := by subst hT2; rfl
      have u5 : gI T2 2055 = 0 := by subst hT2; rfl
      have u6 : gI T2 2056 = gI T 2056 := by subst hT2; rfl
      have x1 : gI T2 204 = 1 := by subst hT2; rfl
      have x2 : gI T2 550 = 0 := by subst hT2; rfl
      have x3 : gI T2 13 = 0 := by subst hT2; rfl
      have x4 : gI T2 2063 = 0 := by subst hT2; rfl
      have x5 : gI T2 2067 = 0 := by subst hT2; rfl
      have x6 : gI T2 2074 = 1 := by subst hT2; rfl
      have x7 : gI T2 2073 = gI T 2073 := by subst hT2; rfl
      clear hT2
      have a2 := fr.A (k := 2) (by decide) (by decide)
      have a3 := fr.A (k := 3) (by decide) (by decide)
      have a42 := fr.A (k := 42) (by decide) (by decide)
      obtain ⟨m1, m2, m3, m4, m5, m6, m7, m8, m9, m10⟩ := h
      refine ⟨?_, m2.none x2 x5 (fr.O 48), m3.none x3 x7 x6, m4.fr fr, m5.fr (Nat.le_succ c) fr (by decide) (by decide), m6.fr fr (by decide) (by decide), m7.fr fr (by decide) (by decide), m8.fr fr, ⟨Or.inr x1, fun q => absurd (x1.symm.trans q) (by decide)⟩, ⟨Or.inl x4, fun q => absurd (x4.symm.trans q) (by decide)⟩⟩
      obtain ⟨⟨p1, p2, p3, p4, p5, p6⟩, ⟨q1, q2, q3, q4, q5, q6⟩, ⟨b1, b2, b3, b4, b5, b6, b7, b8⟩, r1, r2, r3, r4, r5⟩ := m1
      have ew : vw T2 = w := by unfold vw; rw [v50, nI_clamp (by omega)]
      have ee : ve T2 = e := by unfold ve; rw [v51, nI_clamp (by omega)]
      have ek : vk T2 = kn := by unfold vk; rw [v52, nI_clamp (by omega)]
      have ef : vf T2 = 0 := by unfold vf; rw [v53]; rfl
      have eg : vg T2 = 0 := by unfold vg; rw [v54]; rfl
      have ed : vd T2 = vd T := by unfold vd; rw [v55]
      have em : ∀ i, vm T2 i = vm T i := fun i => by unfold vm; rw [a2]
      have eq : ∀ i, vq T2 i = vq T i := fun i => by unfold vq; rw [a3]
      unfold GM
      simp only [ew, ee, ek, ef, eg, ed, em, eq, v50, v51, v52, v53, v54, v55, u1, u2, u3, u4, u5, u6, a2, a3, a42]
      exact ⟨⟨(by first | rfl | trivial), (by first | rfl | trivial), (by first | rfl | trivial), (by first | rfl | trivial), (by first | rfl | trivial), p6⟩, ⟨(by first | rfl | trivial), (by first | rfl | trivial), (by first | rfl | trivial), (by first | rfl | trivial), (by first | rfl | trivial), q6⟩, ⟨hw0, hw, by omega, hk0, hk, Nat.le_refl 0, by omega, b8⟩, fun i hi => ⟨(r1 i hi).1, (r1 i hi).2.1, hall i hi, (r1 i hi).2.2.2⟩, r2, r3, r4, r5⟩
  · rw [if_neg (fun q => hall (hle.mp q))]
    refine ⟨0, T, uI T 2050 0, rfl, ?_, h.th⟩
    rcases mmill_eq (n := n) (T := uI T 2050 0) (y1 := nI w) (y2 := nI e) (y3 := nI kn) (kk := fun T_8 => bv (fX11_changes n (uI (uI (uI (uI (uI T_8 2051 (nI w)) 2052 (nI e)) 2053 (nI kn)) 2054 0) 2055 0)) (fun T_14 => rz 1 T_14)) (by omega) d2 d6 with ⟨-, e2⟩ | ⟨hq, -⟩
    · exact e2
    · exact absurd (fun i hi => (hle2 i hi).mp (hq i hi)) hall
