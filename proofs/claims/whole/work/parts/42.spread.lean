theorem or_dig {i c x : Nat} (hi : i < 6) (hx : x < 32) : nI (c * 32 ^ (6 - i)) ||| nI (x * 32 ^ (5 - i)) = nI ((c * 32 + x) * 32 ^ (6 - (i + 1))) := by
  rcases (show i = 0 ∨ i = 1 ∨ i = 2 ∨ i = 3 ∨ i = 4 ∨ i = 5 by omega) with rfl | rfl | rfl | rfl | rfl | rfl
  · refine (or_add (a := c) (b := x * 32 ^ 5) (k := 30) (by omega)).trans (congrArg nI ?_)
    show c * 2 ^ 30 + x * 32 ^ 5 = (c * 32 + x) * 32 ^ 5
    omega
  · refine (or_add (a := c) (b := x * 32 ^ 4) (k := 25) (by omega)).trans (congrArg nI ?_)
    show c * 2 ^ 25 + x * 32 ^ 4 = (c * 32 + x) * 32 ^ 4
    omega
  · refine (or_add (a := c) (b := x * 32 ^ 3) (k := 20) (by omega)).trans (congrArg nI ?_)
    show c * 2 ^ 20 + x * 32 ^ 3 = (c * 32 + x) * 32 ^ 3
    omega
  · refine (or_add (a := c) (b := x * 32 ^ 2) (k := 15) (by omega)).trans (congrArg nI ?_)
    show c * 2 ^ 15 + x * 32 ^ 2 = (c * 32 + x) * 32 ^ 2
    omega
  · refine (or_add (a := c) (b := x * 32 ^ 1) (k := 10) (by omega)).trans (congrArg nI ?_)
    show c * 2 ^ 10 + x * 32 ^ 1 = (c * 32 + x) * 32 ^ 1
    omega
  · refine (or_add (a := c) (b := x * 32 ^ 0) (k := 5) (by omega)).trans (congrArg nI ?_)
    show c * 2 ^ 5 + x * 32 ^ 0 = (c * 32 + x) * 32 ^ 0
    omega
theorem add_dig {i c x : Nat} (hi : i < 6) : c * 32 ^ (6 - i) + x * 32 ^ (5 - i) = (c * 32 + x) * 32 ^ (6 - (i + 1)) := by
  rcases (show i = 0 ∨ i = 1 ∨ i = 2 ∨ i = 3 ∨ i = 4 ∨ i = 5 by omega) with rfl | rfl | rfl | rfl | rfl | rfl <;> omega
theorem dig_lt {i c : Nat} (hi : i ≤ 6) (hc : c < 32 ^ i) : c * 32 ^ (6 - i) < 2 ^ 30 := by
  rcases (show i = 0 ∨ i = 1 ∨ i = 2 ∨ i = 3 ∨ i = 4 ∨ i = 5 ∨ i = 6 by omega) with rfl | rfl | rfl | rfl | rfl | rfl | rfl <;> omega
theorem dig_s {i c x : Nat} (hi : i < 6) (hc : c < 32 ^ i) (hx : x < 32) : c * 32 + x < 32 ^ (i + 1) := by
  rcases (show i = 0 ∨ i = 1 ∨ i = 2 ∨ i = 3 ∨ i = 4 ∨ i = 5 by omega) with rfl | rfl | rfl | rfl | rfl | rfl <;> omega
abbrev fnz (l : List Nat) : List Nat := l.filter (fun c => decide (c ≠ 0))
theorem fnz1 (c : Nat) : fnz [c] = nzl1 c := by
  unfold fnz nzl1
  by_cases h : c = 0
  · simp [h]
  · simp [h]
theorem spread_eq {n wd : Nat} {mm : Nat → Nat} {T0 : TS} (hn : 10000 ≤ n) (h55 : gI T0 55 = nI wd) (h6 : wd ≤ 6) (hmm : ∀ i, i < wd → gA T0 2 i = nI (mm i) ∧ 1 ≤ mm i ∧ mm i ≤ 10000) :
    ∀ (r d i c room kn : Nat) (T : TS) (L : List Nat), i + r = wd → r < d → c < 32 ^ i → kn ≤ 20 → room ≤ 10000 → ND T0 T L → gI T 203 = 0 →
      ∃ T', fX5_spread n d (nI i) (nI (c * 32 ^ (6 - i))) (nI room) (nI kn) T = some T' ∧ ND T0 T' (L ++ fnz (sp mm r i (c * 32 ^ (6 - i)) room kn)) := by
  intro r
  induction r with
  | zero =>
    intro d i c room kn T L hi hd hc hk hr hN h0
    obtain ⟨d, rfl⟩ : ∃ e, d = e + 1 := ⟨d - 1, by omega⟩
    have hfr := hN.fr
    rw [fX5_spread]
    unfold fX5_spread_B
    have e55 : gI T 55 = nI wd := (hfr.I (by decide)).trans h55
    have hiw : i = wd := by omega
    subst hiw
    rw [e55, if_neg (nI_nlt (Nat.le_refl _) (by omega))]
    obtain ⟨T', a1, a2⟩ := add5_eq (n := n) (c := c * 32 ^ (6 - i)) hN h0 (by have := dig_lt h6 hc; omega)
    rw [a1]
    refine ⟨T', rfl, ?_⟩
    rw [sp, fnz1]
    exact a2
  | succ r ih =>
    intro d i c room kn T L hi hd hc hk hr hN h0
    obtain ⟨d, rfl⟩ : ∃ e, d = e + 1 := ⟨d - 1, by omega⟩
    have hiw : i < wd := by omega
    obtain ⟨g1, g2, g3⟩ := hmm i hiw
    have stay : ∀ U, FR [202, 203] [5] 0 0 T0 U → gI U 55 = nI wd ∧ gA U 2 i = nI (mm i) := fun U hU => ⟨(hU.I (by decide)).trans h55, by rw [hU.A (k := 2) (by decide) (by omega)]; exact g1⟩
    obtain ⟨s1, s2⟩ := stay T hN.fr
    rw [fX5_spread]
    unfold fX5_spread_B
    rw [s1, if_pos (nI_lt hiw (by omega)), ck_nI (by omega) (by decide), nI_clamp (by omega), s2, quot_nI (by omega) (by omega) (by omega)]
    simp only [bd, nm]
    rw [imin_nI (by omega) (by have := Nat.div_le_self room (mm i); omega)]
    have hmost : min kn (room / mm i) ≤ kn ∧ min kn (room / mm i) * mm i ≤ room := ⟨Nat.min_le_left _ _, Nat.le_trans (Nat.mul_le_mul_right _ (Nat.min_le_right _ _)) (Nat.div_mul_le_self _ _)⟩
    rw [sp]
    generalize hm : min kn (room / mm i) = most at hmost ⊢
    -- the loop from a count x down to 0
    have loop : ∀ x, x ≤ most → ∀ (T : TS) (L : List Nat) (fuel : Nat), x + 1 < fuel → ND T0 T L →
        ∃ T', fX5_spread_L41 n (fX5_spread n d) (nI i) (nI (c * 32 ^ (6 - i))) (nI room) (nI kn) (fun T_8 => some T_8) fuel (nI x) T = some T' ∧ ND T0 T' (L ++ fnz ((dn x).flatMap (fun y => sp mm r (i + 1) (c * 32 ^ (6 - i) + y * 32 ^ (5 - i)) (room - y * mm i) (kn - y)))) := by
      intro x
      induction x with
      | zero =>
        intro hx T L fuel hf hN
        obtain ⟨f, rfl⟩ : ∃ f, fuel = f + 1 := ⟨fuel - 1, by omega⟩
        obtain ⟨f, rfl⟩ : ∃ g, f = g + 1 := ⟨f - 1, by omega⟩
        rw [fX5_spread_L41, if_neg (nI_pos (by omega))]
        by_cases h0 : gI T 203 = 0
        · rw [if_neg (fun q => q h0), pack_nI (by omega) (by omega)]
          simp only [bd]
          rw [ck_nI (by omega) (by decide), nI_clamp (by omega), (stay T hN.fr).2, or_dig (by omega) (by omega), show nI i + 1 = nI (i + 1) from nI_1 i, pk_mul, pk_sub (show 0 * mm i ≤ room by omega), pk_sub (show 0 ≤ kn by omega)]
          obtain ⟨T', a1, a2⟩ := ih d (i + 1) (c * 32 + 0) (room - 0 * mm i) (kn - 0) T L (by omega) (by omega) (dig_s (by omega) hc (by omega)) (by omega) (by omega) hN h0
          rw [a1]
          simp only [bv]
          rw [show nI 0 + (-1) = (-1 : Int32) by decide, fX5_spread_L41, if_pos (by decide)]
          refine ⟨T', rfl, ?_⟩
          simp only [dn, List.flatMap_cons, List.flatMap_nil, List.append_nil]
          rw [add_dig (by omega)]
          exact a2
        · rw [if_pos h0]
          exact ⟨T, rfl, hN.more h0⟩
      | succ x ihx =>
        intro hx T L fuel hf hN
        obtain ⟨f, rfl⟩ : ∃ f, fuel = f + 1 := ⟨fuel - 1, by omega⟩
        rw [fX5_spread_L41, if_neg (nI_pos (by omega))]
        have hxm : (x + 1) * mm i ≤ room := Nat.le_trans (Nat.mul_le_mul_right _ hx) hmost.2
        by_cases h0 : gI T 203 = 0
        · rw [if_neg (fun q => q h0), pack_nI (by omega) (by omega)]
          simp only [bd]
          rw [ck_nI (by omega) (by decide), nI_clamp (by omega), (stay T hN.fr).2, or_dig (by omega) (by omega), show nI i + 1 = nI (i + 1) from nI_1 i, pk_mul, pk_sub hxm, pk_sub (show x + 1 ≤ kn by omega)]
          obtain ⟨T', a1, a2⟩ := ih d (i + 1) (c * 32 + (x + 1)) (room - (x + 1) * mm i) (kn - (x + 1)) T L (by omega) (by omega) (dig_s (by omega) hc (by omega)) (by omega) (by omega) hN h0
          rw [a1]
          simp only [bv]
          rw [pk_m1]
          obtain ⟨T'', b1, b2⟩ := ihx (by omega) T' _ f (by omega) a2
          refine ⟨T'', b1, ?_⟩
          rw [dn, List.flatMap_cons]
          unfold fnz at b2 ⊢
          rw [List.filter_append, ← List.append_assoc, add_dig (by omega)]
          exact b2
        · rw [if_pos h0]
          exact ⟨T, rfl, hN.more h0⟩
    exact loop most (Nat.le_refl _) T L n (by omega) hN
