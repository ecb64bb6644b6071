theorem uA_uA (T : TS) (k : Nat) (f g : Nat → Int32) : uA (uA T k f) k g = uA T k g := by
  show (T.1, T.2.1, va_up (va_up T.2.2.1 k f) k g, T.2.2.2) = (T.1, T.2.1, va_up T.2.2.1 k g, T.2.2.2)
  have : va_up (va_up T.2.2.1 k f) k g = va_up T.2.2.1 k g := by
    funext j
    unfold va_up
    by_cases h : j = k <;> simp [h]
  rw [this]
theorem hasW_eq {n : Nat} {T : TS} {a : Nat} (hn : 10 ≤ n) (h : GM T) (ha : a ≤ 10000) : ((∃ j, j < vd T ∧ vm T j = a) ∧ fX4_hasWidthOf n (nI a) T = some (1, T)) ∨ ((∀ i, i < vd T → vm T i ≠ a) ∧ fX4_hasWidthOf n (nI a) T = some (0, T)) := by
  obtain ⟨d1, d2, d6⟩ := h.d
  have hb := h.2.2.1.2.1
  have key : ∀ j, j < vd T → (gA T 2 j = nI a ↔ vm T j = a) := fun j hj => by
    have g := h.2.2.2.1 j hj
    rw [g.1, nI_eq (by omega) (by omega)]
  unfold fX4_hasWidthOf
  have k1 : ∀ j, j < vd T → (fun j => vm T j ≠ a) j → ∀ f, (fun f x => fX4_hasWidthOf_L2 n (nI a) (fun T_1 => rz 0 T_1) f x T) (f + 1) (nI j) = (fun f x => fX4_hasWidthOf_L2 n (nI a) (fun T_1 => rz 0 T_1) f x T) f (nI (j + 1)) := by
    intro j hj hp f
    show fX4_hasWidthOf_L2 n (nI a) _ (f + 1) (nI j) T = _
    rw [fX4_hasWidthOf_L2, d1, if_neg (nI_ge hj (by omega)), ck_nI (by omega) (by decide), nI_clamp (by omega), if_pos (fun q => hp ((key j hj).mp q)), nI_1]
  have k2 : ∀ j, j < vd T → ¬ (fun j => vm T j ≠ a) j → ∀ f, (fun f x => fX4_hasWidthOf_L2 n (nI a) (fun T_1 => rz 0 T_1) f x T) (f + 1) (nI j) = (fun _ => some (1, T)) j := by
    intro j hj hp f
    show fX4_hasWidthOf_L2 n (nI a) _ (f + 1) (nI j) T = _
    rw [fX4_hasWidthOf_L2, d1, if_neg (nI_ge hj (by omega)), ck_nI (by omega) (by decide), nI_clamp (by omega), if_neg (fun q => q ((key j hj).mpr (Classical.not_not.mp hp)))]
    rfl
  have k3 : ∀ f, (fun f x => fX4_hasWidthOf_L2 n (nI a) (fun T_1 => rz 0 T_1) f x T) (f + 1) (nI (vd T)) = some (0, T) := by
    intro f
    show fX4_hasWidthOf_L2 n (nI a) _ (f + 1) (nI (vd T)) T = _
    rw [fX4_hasWidthOf_L2, d1, if_pos (nI_le (Nat.le_refl _) (by omega))]
    rfl
  rcases lps (fun f x => fX4_hasWidthOf_L2 n (nI a) (fun T_1 => rz 0 T_1) f x T) (vd T) (some (0, T)) (fun _ => some (1, T)) (fun j => vm T j ≠ a) k1 k2 k3 n (by omega) with ⟨j, h1, h2, h3, h4⟩ | ⟨h1, h2⟩
  · exact Or.inl ⟨⟨j, h1, Classical.not_not.mp h2⟩, h4⟩
  · exact Or.inr ⟨h1, h2⟩
theorem mwidth_eq {n d : Nat} {T : TS} {y1 y2 : Int32} {kk : TS → Option (Int32 × TS)} (hn : 10 ≤ n) (hd : gI T 2056 = nI d) (h6 : d ≤ 6) : ((∃ j, j < d ∧ gA T 42 j = y1) ∧ fX11_width_L40 n y1 y2 kk n 0 T = some (-1, T)) ∨ ((∀ i, i < d → ¬ gA T 42 i = y1) ∧ fX11_width_L40 n y1 y2 kk n 0 T = kk T) := by
  have k1 : ∀ j, j < d → (fun j => ¬ gA T 42 j = y1) j → ∀ f, (fun f x => fX11_width_L40 n y1 y2 kk f x T) (f + 1) (nI j) = (fun f x => fX11_width_L40 n y1 y2 kk f x T) f (nI (j + 1)) := by
    intro j hj hp f
    show fX11_width_L40 n y1 y2 _ (f + 1) (nI j) T = _
    rw [fX11_width_L40, hd, if_neg (nI_ge hj (by omega)), ck_nI (by omega) (by decide), nI_clamp (by omega), if_pos hp, nI_1]
  have k2 : ∀ j, j < d → ¬ (fun j => ¬ gA T 42 j = y1) j → ∀ f, (fun f x => fX11_width_L40 n y1 y2 kk f x T) (f + 1) (nI j) = (fun _ => some (-1, T)) j := by
    intro j hj hp f
    show fX11_width_L40 n y1 y2 _ (f + 1) (nI j) T = _
    rw [fX11_width_L40, hd, if_neg (nI_ge hj (by omega)), ck_nI (by omega) (by decide), nI_clamp (by omega), if_neg hp]
  have k3 : ∀ f, (fun f x => fX11_width_L40 n y1 y2 kk f x T) (f + 1) (nI d) = (kk T) := by
    intro f
    show fX11_width_L40 n y1 y2 _ (f + 1) (nI d) T = _
    rw [fX11_width_L40, hd, if_pos (nI_le (Nat.le_refl d) (by omega))]
  rcases lps (fun f x => fX11_width_L40 n y1 y2 kk f x T) d (kk T) (fun _ => some (-1, T)) (fun j => ¬ gA T 42 j = y1) k1 k2 k3 n (by omega) with ⟨j, h1, h2, h3, h4⟩ | ⟨h1, h2⟩
  · exact Or.inl ⟨⟨j, h1, Classical.not_not.mp h2⟩, h4⟩
  · exact Or.inr ⟨h1, h2⟩
/-- the order of the WIDTHS with a place q made free -/
def gfq (f : Nat → Int32) (d q : Nat) : Nat → Int32 := fun p => if q < p ∧ p ≤ d then f (p - 1) else f p
theorem addW_eq {n a : Nat} {T : TS} (hn : 10 ≤ n) (h : GM T) (ha : a ≤ 10000) (h5 : vd T < 6) (hne : ∀ i, i < vd T → vm T i ≠ a) : ∃ q, q ≤ vd T ∧ (∀ p, p < q → a < vm T (vq T p)) ∧ (∀ p, q ≤ p → p < vd T → vm T (vq T p) < a) ∧ fX4_addWidth n (nI a) T = some (nI (vd T), uI (sA (sA (uA T 3 (gfq (gA T 3) (vd T) q)) 3 (nI q) (nI (vd T))) 2 (nI (vd T)) (nI a)) 55 (nI (vd T) + 1)) := by
  obtain ⟨d1, d2, d6⟩ := h.d
  obtain ⟨-, -, ⟨-, hb, -⟩, r1, r2, r3, r4, r5⟩ := h
  generalize hdd : vd T = d at *
  -- the least place whose WIDTH is narrower
  obtain ⟨q, hq, hlt, hge⟩ : ∃ q, q ≤ d ∧ (∀ p, p < q → a < vm T (vq T p)) ∧ ∀ p, q ≤ p → p < d → vm T (vq T p) < a := by
    obtain ⟨q, hq1, hq2⟩ := pk_least (fun q => ∀ p, q ≤ p → p < d → vm T (vq T p) < a) ⟨d, fun p h1 h2 => by omega⟩
    have hqd : q ≤ d := by
      rcases Nat.lt_or_ge d q with z | z
      · exact absurd (fun p h1 h2 => by omega) (hq2 d z)
      · exact z
    refine ⟨q, hqd, fun p hp => ?_, hq1⟩
    have hq0 : 0 < q := by omega
    have h0 : ¬ vm T (vq T (q - 1)) < a := fun z => hq2 (q - 1) (by omega) (fun p h1 h2 => by
      rcases Nat.lt_or_ge p q with w | w
      · have : p = q - 1 := by omega
        subst this
        exact z
      · exact hq1 p w h2)
    have hn1 := hne _ (r3 (q - 1) (by omega)).2
    have : a < vm T (vq T (q - 1)) := by omega
    rcases Nat.lt_or_ge p (q - 1) with w | w
    · have := r4 p (q - 1) w (by omega)
      omega
    · have : p = q - 1 := by omega
      subst this
      assumption
  refine ⟨q, hq, hlt, hge, ?_⟩
  unfold fX4_addWidth
  simp only [nm]
  rw [d1]
  have key : ∀ (K : Int32 → TS → Option (Int32 × TS)), fX4_addWidth_L7 n (nI a) (nI d) K n (nI d) T = K (nI q) (uA T 3 (gfq (gA T 3) d q)) := by
    intro K
    have e0 : gfq (gA T 3) d d = gA T 3 := by
      funext p
      unfold gfq
      rw [if_neg (by omega)]
    have eT : uA T 3 (gA T 3) = T := by
      show (T.1, T.2.1, va_up T.2.2.1 3 (T.2.2.1 3), T.2.2.2) = T
      have : va_up T.2.2.1 3 (T.2.2.1 3) = T.2.2.1 := by
        funext j
        unfold va_up
        by_cases hj : j = 3 <;> simp [hj]
      rw [this]
    have main := lpn (fun f (x : Int32 × TS) => fX4_addWidth_L7 n (nI a) (nI d) K f x.1 x.2) (fun j => (nI (d - j), uA T 3 (gfq (gA T 3) d (d - j)))) (d - q) (K (nI q) (uA T 3 (gfq (gA T 3) d q))) ?_ ?_ n (by omega)
    · simp only [Nat.sub_zero, e0, eT] at main
      exact main
    · intro j hj f
      obtain ⟨x, hx⟩ : ∃ x, d - j = x + 1 := ⟨d - j - 1, by omega⟩
      have hx2 : d - (j + 1) = x := by omega
      show fX4_addWidth_L7 n (nI a) (nI d) K (f + 1) (nI (d - j)) (uA T 3 (gfq (gA T 3) d (d - j))) = fX4_addWidth_L7 n (nI a) (nI d) K f (nI (d - (j + 1))) (uA T 3 (gfq (gA T 3) d (d - (j + 1))))
      rw [hx, hx2, fX4_addWidth_L7, if_neg (nI_nle (by omega) (by omega)), show nI (x + 1) - 1 = nI x from nI_pred x, ck_nI (by omega) (by decide), nI_clamp (by omega)]
      have g3 : gA (uA T 3 (gfq (gA T 3) d (x + 1))) 3 x = nI (vq T x) := by
        rw [gA_uA]
        unfold gfq
        rw [if_neg (by omega)]
        exact (r3 x (by omega)).1
      have g2 : ∀ i, gA (uA T 3 (gfq (gA T 3) d (x + 1))) 2 i = gA T 2 i := fun _ => rfl
      have hv := (r3 x (by omega)).2
      rw [g3, ck_nI (by omega) (by decide), nI_clamp (by omega), g2, (r1 _ hv).1, if_neg (by
        have := hge x (by omega) (by omega)
        exact nI_ge this (by omega)), ck_nI (by omega) (by decide), ck_nI (by omega) (by decide)]
      simp only [nm]
      rw [pk_m1]
      congr 1
      show uA (uA T 3 _) 3 (upd (gA (uA T 3 _) 3) _ _) = _
      rw [uA_uA, gA_uA, nI_clamp (by omega)]
      congr 1
      funext p
      unfold upd gfq
      by_cases hp : p = x + 1
      · rw [if_pos hp, if_pos (by omega), hp, ← (r3 x (by omega)).1]
        rfl
      · rw [if_neg hp]
        by_cases hp2 : x + 1 < p ∧ p ≤ d
        · rw [if_pos hp2, if_pos (by omega)]
        · rw [if_neg hp2, if_neg (by omega)]
    · intro f
      have hdq : d - (d - q) = q := by omega
      show fX4_addWidth_L7 n (nI a) (nI d) K (f + 1) (nI (d - (d - q))) (uA T 3 (gfq (gA T 3) d (d - (d - q)))) = _
      rw [hdq, fX4_addWidth_L7]
      by_cases hq0 : q = 0
      · subst hq0
        rw [if_pos (show nI 0 ≤ 0 by decide)]
      · obtain ⟨x, rfl⟩ : ∃ x, q = x + 1 := ⟨q - 1, by omega⟩
        rw [if_neg (nI_nle (by omega) (by omega)), show nI (x + 1) - 1 = nI x from nI_pred x, ck_nI (by omega) (by decide), nI_clamp (by omega)]
        have g3 : gA (uA T 3 (gfq (gA T 3) d (x + 1))) 3 x = nI (vq T x) := by
          rw [gA_uA]
          unfold gfq
          rw [if_neg (by omega)]
          exact (r3 x (by omega)).1
        have g2 : ∀ i, gA (uA T 3 (gfq (gA T 3) d (x + 1))) 2 i = gA T 2 i := fun _ => rfl
        have hv := (r3 x (by omega)).2
        rw [g3, ck_nI (by omega) (by decide), nI_clamp (by omega), g2, (r1 _ hv).1, if_pos (nI_le (Nat.le_of_lt (hlt x (by omega))) (by have := (r1 _ hv).2.2.1; omega))]
  rw [key]
  rw [ck_nI (by omega) (by decide), ck_nI (by omega) (by decide)]
  have e55 : gI (sA (sA (uA T 3 (gfq (gA T 3) d q)) 3 (nI q) (nI d)) 2 (nI d) (nI a)) 55 = nI d := d1
  rw [e55]
