def BothV (c : Nat) (f g : TS → Option TS) (T : TS) : Prop := ∃ T1 T2, f T = some T1 ∧ g T1 = some T2 ∧ Inv (c + 1) T2
theorem eq_keep {n c : Nat} {T : TS} (hn : 10000 ≤ n) (hI : Inv c T) : BothV c (fX10_keep n) (fX11_keep n) T := by
  have S := hI.2.1
  have s1 : gI T 550 = nI (vns T) := S.1
  have s2 : gI T 2067 = nI (vns T) := S.2.1.trans s1
  obtain ⟨U, a1, a2, a3, a4⟩ := cp_14_11 (n := n) hn s1 S.2.2.1
  unfold BothV fX10_keep fX11_keep
  simp only [nm]
  rw [a1]
  simp only [bv]
  generalize hW : uI (uI (uI (uI (uI U 13 1) 2050 0) 2073 1) 2074 0) 2075 (gI (uI (uI (uI (uI U 13 1) 2050 0) 2073 1) 2074 0) 2067) = W
  have fW : FR [700, 13, 2050, 2073, 2074, 2075] [15, 16] 0 0 T W := by
    subst hW
    exact (((((a2.mono (by decide) (by decide) (fun q => absurd q (by decide))).trans (FR.uI (by decide))).trans (FR.uI (by decide))).trans (FR.uI (by decide))).trans (FR.uI (by decide))).trans (FR.uI (by decide))
  have w1 : gI W 2067 = nI (vns T) := (fW.I (by decide)).trans s2
  have w2 : gI W 2075 = nI (vns T) := by
    subst hW
    exact (a2.I (k := 2067) (by decide)).trans s2
  have w3 : gI W 13 = 1 := by subst hW; rfl
  have w4 : gI W 2073 = 1 := by subst hW; rfl
  have w5 : gI W 2074 = 0 := by subst hW; rfl
  have w6 : gI W 700 = nI (vns T) := by subst hW; exact a3
  have w7 : ∀ k, gA W k = gA U k := fun k => by subst hW; rfl
  have e67 : gI (uI (uI (uI (uI U 13 1) 2050 0) 2073 1) 2074 0) 2067 = gI W 2067 := by subst hW; rfl
  have hX52 := hI.2.2.2.1.2.2.1
  obtain ⟨V, b1, b2, b3⟩ := mcp_48_52 (n := n) (m := vns T) (T := W) hn S.2.2.1 (by rw [fW.O]; exact S.2.2.2.2.1) (by rw [fW.O]; intro s hs; rw [hX52 s hs]; omega) (by rw [fW.O]; intro s t hs ht; rw [hX52 s hs, hX52 t ht]; omega)
  refine ⟨uI U 13 1, V, rfl, ?_, ?_⟩
  · rw [hW, w1, b1]
  · have fV : FR [700, 13, 2050, 2073, 2074, 2075] [15, 16, 53] 3187 3247 T V := (fW.mono (by decide) (by decide) (fun q => absurd q (by decide))).trans (b2.mono (by decide) (by decide) (fun _ => by omega))
    obtain ⟨m1, m2, m3, m4, m5, m6, m7, m8, m9, m10⟩ := hI
    refine ⟨m1.fr fV (by decide) (by decide), m2.fr fV (by decide) (by decide) (by decide), ?_, m4.fr fV, m5.fr (Nat.le_succ c) fV (by decide) (by decide), m6.fr fV (by decide) (by decide), m7.fr fV (by decide) (by decide), m8.fr fV, m9.fr fV (by decide) (by decide), m10.fr fV (by decide) (by decide) (by decide)⟩
    have v13 : gI V 13 = 1 := (b2.I (by decide)).trans w3
    have v73 : gI V 2073 = 1 := (b2.I (by decide)).trans w4
    have v74 : gI V 2074 = 0 := (b2.I (by decide)).trans w5
    refine ⟨Or.inr v13, Or.inr v73, Or.inl v74, ⟨fun _ => ⟨v73, v74⟩, fun _ => v13⟩, fun _ => ⟨vns T, (b2.I (by decide)).trans w6, (b2.I (by decide)).trans w2, m2.2.2.1, fun s hs => ?_⟩⟩
    obtain ⟨c1, c2, c3, c4, r, r1, r2, r3⟩ := m2.2.2.2.1 s hs
    have d1 := a4 s hs
    have d2 := b3 s hs
    refine ⟨vcs T s, r, ?_, ?_, ?_, ?_, ?_, r1, r2⟩
    · rw [b2.A (k := 15) (by decide) (by decide), w7, d1.1]
      exact c1
    · rw [show vd V = vd T by unfold vd; rw [fV.I (by decide)]]
      exact c2
    · intro i hi
      have := d2.1 i hi
      rw [fW.O, hX52 s (by have := m2.2.2.1; omega), fW.O] at this
      rw [this, fW.A (k := gO T 48 s) (fun z => by have := m2.2.2.2.2.1 s (by have := m2.2.2.1; omega); simp only [List.mem_cons, List.not_mem_nil, or_false] at z; omega) (by omega)]
      exact c3 i hi
    · rw [b2.A (k := 16) (by decide) (by decide), w7, d1.2]
      exact r3
    · rw [d2.2, w7, a2.A (k := 49) (by decide) (by decide), c4]
      exact r3
theorem eq_undo {n c : Nat} {T : TS} (hn : 10000 ≤ n) (hI : Inv c T) : Both c (fX10_undo n) (fX11_undo n) T := by
  have S := hI.2.1
  obtain ⟨k1, k2, k3, k4, k5⟩ := hI.2.2.1
  unfold Both fX10_undo fX11_undo
  simp only [nm]
  by_cases h0 : gI T 13 = 0
  · rw [if_neg (fun q => q h0)]
    refine ⟨0, T, uI T 2050 0, rfl, ?_, hI.th⟩
    by_cases h1 : gI (uI T 2050 0) 2073 = 0
    · rw [if_pos h1]
      rfl
    · rw [if_neg h1]
      have h73 : gI T 2073 = 1 := k2.elim (fun q => absurd q h1) id
      rw [if_neg (show ¬ gI (uI T 2050 0) 2074 = 0 from fun q => by
        have := k4.mpr ⟨h73, q⟩
        rw [h0] at this
        exact absurd this (by decide))]
      rfl
  · have h13 : gI T 13 = 1 := k1.elim (fun q => absurd q h0) id
    obtain ⟨h73, h74⟩ := k4.mp h13
    obtain ⟨m, e1, e2, hm, hk⟩ := k5 h13
    rw [if_pos h0]
    obtain ⟨U, a1, a2, a3, a4⟩ := cp_11_14 (n := n) hn e1 hm
    rw [a1]
    simp only [bv]
    generalize hW : uI (uI U 2050 0) 2067 (gI (uI U 2050 0) 2075) = W
    have fW : FR [550, 2050, 2067] [12, 13] 0 0 T W := by
      subst hW
      exact ((a2.mono (by decide) (by decide) (fun q => absurd q (by decide))).trans (FR.uI (by decide))).trans (FR.uI (by decide))
    have w1 : gI W 2075 = nI m := (fW.I (by decide)).trans e2
    have w2 : gI W 2067 = nI m := by
      subst hW
      exact (a2.I (k := 2075) (by decide)).trans e2
    have w6 : gI W 550 = nI m := by subst hW; exact a3
    have w7 : ∀ k, gA W k = gA U k := fun k => by subst hW; rfl
    have hX52 := hI.2.2.2.1.2.2.1
    obtain ⟨V, b1, b2, b3⟩ := mcp_52_48 (n := n) (m := m) (T := W) hn hm (by rw [fW.O]; intro s hs; rw [hX52 s hs]; omega) (by rw [fW.O]; exact S.2.2.2.2.1) (by rw [fW.O]; exact S.2.2.2.2.2)
    refine ⟨1, U, V, rfl, ?_, ?_⟩
    · rw [if_neg (show ¬ gI (uI U 2050 0) 2073 = 0 by
        show ¬ gI U 2073 = 0
        rw [a2.I (k := 2073) (by decide), h73]
        decide), if_pos (show gI (uI U 2050 0) 2074 = 0 from (a2.I (k := 2074) (by decide)).trans h74), hW, w1, b1]
      rfl
    · have fV : FR [550, 2050, 2067] [12, 13, 49] 3067 3127 T V := (fW.mono (by decide) (by decide) (fun q => absurd q (by decide))).trans (b2.mono (by decide) (by decide) (fun _ => by omega))
      obtain ⟨m1, m2, m3, m4, m5, m6, m7, m8, m9, m10⟩ := hI
      refine ⟨m1.fr fV (by decide) (by decide), ?_, m3.fr fV (by decide) (by decide) (by decide), m4.fr fV, m5.fr (Nat.le_succ c) fV (by decide) (by decide), m6.fr fV (by decide) (by decide), m7.fr fV (by decide) (by decide), m8.fr fV, m9.fr fV (by decide) (by decide), m10.fr fV (by decide) (by decide) (by decide)⟩
      have v550 : gI V 550 = nI m := (b2.I (by decide)).trans w6
      have eN : vns V = m := by unfold vns; rw [v550, nI_clamp (by omega)]
      have eD : vd V = vd T := by unfold vd; rw [fV.I (by decide)]
      refine ⟨by rw [v550, eN], by rw [v550]; exact (b2.I (by decide)).trans w2, by rw [eN]; exact hm, fun s hs => ?_, by rw [fV.O]; exact m2.2.2.2.2.1, by rw [fV.O]; exact m2.2.2.2.2.2⟩
      rw [eN] at hs
      obtain ⟨x, r, c1, c2, c3, c4, c5, c6, c7⟩ := hk s hs
      have d1 := a4 s hs
      have d2 := b3 s hs
      have g12 : gA V 12 s = nI x := by rw [b2.A (k := 12) (by decide) (by decide), w7, d1.1]; exact c1
      have g13 : gA V 13 s = nI r := by rw [b2.A (k := 13) (by decide) (by decide), w7, d1.2]; exact c4
      have eC : vcs V s = x := by unfold vcs; rw [g12, nI_clamp (by have := c2.1; omega)]
      rw [eC, eD, fV.O, g12, g13]
      refine ⟨rfl, c2, fun i hi => ?_, ?_, r, c6, c7, rfl⟩
      · have := d2.1 i hi
        rw [fW.O, fW.O, hX52 s (by omega)] at this
        rw [this, fW.A (k := 3187 + s) (fun z => by simp only [List.mem_cons, List.not_mem_nil, or_false] at z; omega) (by omega)]
        exact c3 i hi
      · rw [d2.2, w7, a2.A (k := 53) (by decide) (by decide)]
        exact c5
