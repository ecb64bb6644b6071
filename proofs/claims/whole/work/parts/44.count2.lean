theorem count_eq {n wd k0 : Nat} {mm : Nat → Nat} {T0 : TS} (hn : 10000 ≤ n) (h56 : gI T0 2056 = nI wd) (h53 : gI T0 2053 = nI k0) (hk0 : k0 ≤ 20) (h6 : wd ≤ 6) (hmm : ∀ i, i < wd → gA T0 42 i = nI (mm i) ∧ 1 ≤ mm i ∧ mm i ≤ 10000) (hX : ∀ k, k < 3000 → gO T0 46 k = 67 + k) :
    ∀ (r d i c room kn : Nat) (T : TS) (L : List Nat), i + r = wd → r < d → c < 32 ^ i → kn + pcs (c * 32 ^ (6 - i)) = k0 → room ≤ 10000 → (∀ j, j < i → gA T 47 j = nI (cn (c * 32 ^ (6 - i)) j)) → MD T0 T L →
      ∃ T', fX11_count_ n d (nI i) (nI room) (nI kn) T = some T' ∧ MD T0 T' (L ++ fnz (sp mm r i (c * 32 ^ (6 - i)) room kn)) ∧ ∀ j, j < i → gA T' 47 j = gA T 47 j := by
  intro r
  induction r with
  | zero =>
    intro d i c room kn T L hi hd hc hk hr hrow hM
    obtain ⟨d, rfl⟩ : ∃ e, d = e + 1 := ⟨d - 1, by omega⟩
    have hfr := hM.fr
    rw [fX11_count_]
    unfold fX11_count__B
    have hiw : i = wd := by omega
    subst hiw
    have e56 : gI T 2056 = nI i := (hfr.I (by decide)).trans h56
    have e53 : gI T 2053 = nI k0 := (hfr.I (by decide)).trans h53
    have hC := dig_lt h6 hc
    by_cases hle : gI T 2064 ≤ 3000
    · rw [if_pos hle, e56, if_neg (fun q => q rfl), e53, sp, fnz1]
      by_cases hz : c * 32 ^ (6 - i) = 0
      · have hp := (pcs_0 hC).mpr hz
        have : kn = k0 := by omega
        subst this
        rw [if_neg (fun q => q rfl)]
        refine ⟨T, rfl, ?_, fun _ _ => rfl⟩
        unfold nzl1
        rw [if_pos hz, List.append_nil]
        exact hM
      · have hp : pcs (c * 32 ^ (6 - i)) ≠ 0 := fun q => hz ((pcs_0 hC).mp q)
        rw [if_pos (fun q => by have := (nI_eq (by omega) (by omega)).mp q; omega)]
        obtain ⟨T', a1, a2, a3⟩ := leaf_eq (n := n) (rc := fX11_count_ n d) (C := c * 32 ^ (6 - i)) hn h56 h6 hX hM hle hrow (fun j h1 h2 => cn_hi h1 h2)
        refine ⟨T', a1, ?_, fun j _ => by rw [a3]⟩
        unfold nzl1
        rw [if_neg hz]
        exact a2
    · rw [if_neg hle]
      exact ⟨T, rfl, hM.more hle, fun _ _ => rfl⟩
  | succ r ih =>
    intro d i c room kn T L hi hd hc hk hr hrow hM
    obtain ⟨d, rfl⟩ : ∃ e, d = e + 1 := ⟨d - 1, by omega⟩
    have hiw : i < wd := by omega
    obtain ⟨g1, g2, g3⟩ := hmm i hiw
    have stay : ∀ U, FR [2064] [47] 67 3067 T0 U → gI U 2056 = nI wd ∧ gA U 42 i = nI (mm i) := fun U hU => ⟨(hU.I (by decide)).trans h56, by rw [hU.A (k := 42) (by decide) (by omega)]; exact g1⟩
    obtain ⟨s1, s2⟩ := stay T hM.fr
    rw [fX11_count_]
    unfold fX11_count__B
    by_cases hle : ¬ gI T 2064 ≤ 3000
    · rw [if_neg hle]
      exact ⟨T, rfl, hM.more hle, fun _ _ => rfl⟩
    have hle := Classical.not_not.mp hle
    rw [if_pos hle, s1, if_pos (fun q => by have := (nI_eq (by omega) (by omega)).mp q; omega), ck_nI (by omega) (by decide), nI_clamp (by omega), s2]
    unfold nz
    rw [if_neg (nI_ne0 (by omega) (by omega))]
    simp only [nm]
    rw [pk_div (by omega) (by omega) (by omega), imin_nI (by omega) (by have := Nat.div_le_self room (mm i); omega)]
    have hmost : min kn (room / mm i) ≤ kn ∧ min kn (room / mm i) * mm i ≤ room := ⟨Nat.min_le_left _ _, Nat.le_trans (Nat.mul_le_mul_right _ (Nat.min_le_right _ _)) (Nat.div_mul_le_self _ _)⟩
    rw [sp]
    generalize hm : min kn (room / mm i) = most at hmost ⊢
    have loop : ∀ x, x ≤ most → ∀ (T : TS) (L : List Nat) (fuel : Nat), x + 1 < fuel → (∀ j, j < i → gA T 47 j = nI (cn (c * 32 ^ (6 - i)) j)) → MD T0 T L →
        ∃ T', fX11_count__L111 n (fX11_count_ n d) (nI i) (nI room) (nI kn) (fun T_5 => some T_5) fuel (nI x) T = some T' ∧ MD T0 T' (L ++ fnz ((dn x).flatMap (fun y => sp mm r (i + 1) (c * 32 ^ (6 - i) + y * 32 ^ (5 - i)) (room - y * mm i) (kn - y)))) ∧ ∀ j, j < i → gA T' 47 j = gA T 47 j := by
      -- one count
      have one : ∀ x, x ≤ most → ∀ (T : TS) (L : List Nat), (∀ j, j < i → gA T 47 j = nI (cn (c * 32 ^ (6 - i)) j)) → MD T0 T L → ∃ T', fX11_count_ n d (nI (i + 1)) (nI (room - x * mm i)) (nI (kn - x)) (sA T 47 (nI i) (nI x)) = some T' ∧ MD T0 T' (L ++ fnz (sp mm r (i + 1) (c * 32 ^ (6 - i) + x * 32 ^ (5 - i)) (room - x * mm i) (kn - x))) ∧ ∀ j, j < i → gA T' 47 j = gA T 47 j := by
        intro x hx T L hrow hM
        have hM2 : MD T0 (sA T 47 (nI i) (nI x)) L := by
          rcases hM with ⟨a1, a2, a3, a4⟩ | ⟨a1, a2, a3⟩
          · refine Or.inl ⟨a1, a2.trans (FR.sA (Or.inl (by decide))), a3, fun k y hk j hj => ?_⟩
            rw [zA_sA, if_neg (by omega)]
            exact a4 k y hk j hj
          · exact Or.inr ⟨a1, a2.trans (FR.sA (Or.inl (by decide))), a3⟩
        have hrow2 : ∀ j, j < i + 1 → gA (sA T 47 (nI i) (nI x)) 47 j = nI (cn ((c * 32 + x) * 32 ^ (6 - (i + 1))) j) := by
          intro j hj
          rw [gA_sA_at (by omega), ← add_dig (by omega)]
          by_cases h1 : j = i
          · rw [if_pos h1, h1, cn_at (by omega) (by omega)]
          · rw [if_neg h1, cn_lo (by omega) (by omega) (by omega)]
            exact hrow j (by omega)
        obtain ⟨T', a1, a2, a3⟩ := ih d (i + 1) (c * 32 + x) (room - x * mm i) (kn - x) (sA T 47 (nI i) (nI x)) L (by omega) (by omega) (dig_s (by omega) hc (by omega)) (by rw [← add_dig (by omega), pcs_add (by omega) (by omega)]; omega) (by omega) hrow2 hM2
        refine ⟨T', a1, by rw [add_dig (by omega)]; exact a2, fun j hj => ?_⟩
        rw [a3 j (by omega), gA_sA_at (by omega), if_neg (by omega)]
      intro x
      induction x with
      | zero =>
        intro hx T L fuel hf hrow hM
        obtain ⟨f, rfl⟩ : ∃ f, fuel = f + 1 := ⟨fuel - 1, by omega⟩
        obtain ⟨f, rfl⟩ : ∃ g, f = g + 1 := ⟨f - 1, by omega⟩
        rw [fX11_count__L111, if_neg (nI_pos (by omega)), ck_nI (by omega) (by decide)]
        simp only [nm]
        rw [ck_nI (by omega) (by decide), nI_clamp (by omega), show gA (sA T 47 (nI i) (nI 0)) 42 i = nI (mm i) by rw [zA_sA, if_neg (by decide)]; exact (stay T hM.fr).2, show nI i + 1 = nI (i + 1) from nI_1 i, pk_mul, pk_sub (show 0 * mm i ≤ room by omega), pk_sub (show 0 ≤ kn by omega)]
        obtain ⟨T', a1, a2, a3⟩ := one 0 (by omega) T L hrow hM
        rw [a1]
        simp only [bv]
        rw [show nI 0 + (-1) = (-1 : Int32) by decide, fX11_count__L111, if_pos (by decide)]
        refine ⟨T', rfl, ?_, a3⟩
        simp only [dn, List.flatMap_cons, List.flatMap_nil, List.append_nil]
        exact a2
      | succ x ihx =>
        intro hx T L fuel hf hrow hM
        obtain ⟨f, rfl⟩ : ∃ f, fuel = f + 1 := ⟨fuel - 1, by omega⟩
        have hxm : (x + 1) * mm i ≤ room := Nat.le_trans (Nat.mul_le_mul_right _ hx) hmost.2
        rw [fX11_count__L111, if_neg (nI_pos (by omega)), ck_nI (by omega) (by decide)]
        simp only [nm]
        rw [ck_nI (by omega) (by decide), nI_clamp (by omega), show gA (sA T 47 (nI i) (nI (x + 1))) 42 i = nI (mm i) by rw [zA_sA, if_neg (by decide)]; exact (stay T hM.fr).2, show nI i + 1 = nI (i + 1) from nI_1 i, pk_mul, pk_sub hxm, pk_sub (show x + 1 ≤ kn by omega)]
        obtain ⟨T', a1, a2, a3⟩ := one (x + 1) hx T L hrow hM
        rw [a1]
        simp only [bv]
        rw [pk_m1]
        obtain ⟨T'', b1, b2, b3⟩ := ihx (by omega) T' _ f (by omega) (fun j hj => by rw [a3 j hj]; exact hrow j hj) a2
        refine ⟨T'', b1, ?_, fun j hj => by rw [b3 j hj, a3 j hj]⟩
        rw [dn, List.flatMap_cons]
        unfold fnz at b2 ⊢
        rw [List.filter_append, ← List.append_assoc]
        exact b2
    exact loop most (Nat.le_refl _) T L n (by omega) hrow hM
