def isC (x : Int32) : Prop := ∃ j : Nat, 0 ≤ j ∧ j ≤ 20 ∧ x = nI j
theorem areC_yes {n a b c : Nat} {T : TS} (ha : a ≤ 20) (hb : b ≤ 20) (hc : c ≤ 20) : fX10_areCounts n (nI a) (nI b) (nI c) T = some (1, T) := by
  unfold fX10_areCounts
  have k : ∀ x, x ≤ 20 → ∀ U, fX10_within n (nI x) 0 20 U = some (1, U) := fun x hx U => wi_yes (a := 0) (b := 20) (Nat.zero_le _) hx (by decide)
  rw [k a ha]
  simp only [bd]
  rw [if_neg (by decide), k b hb]
  simp only
  rw [if_neg (by decide), k c hc]
  rfl
theorem areC_no {n : Nat} {x y z : Int32} {T : TS} (h : ¬ (isC x ∧ isC y ∧ isC z)) : fX10_areCounts n x y z T = some (0, T) := by
  unfold fX10_areCounts
  have one : ¬ (1 : Int32) = 0 := by decide
  have kn : ∀ w, ¬ isC w → ∀ U, fX10_within n w 0 20 U = some (0, U) := fun w hw U => wi_no (a := 0) (b := 20) (by decide) (by decide) hw
  have ky : ∀ w, isC w → ∀ U, fX10_within n w 0 20 U = some (1, U) := fun w hw U => by
    obtain ⟨j, h0, h1, rfl⟩ := hw
    exact wi_yes (a := 0) (b := 20) h0 h1 (by decide)
  by_cases hx : isC x
  · rw [ky x hx]
    simp only [bd]
    rw [if_neg one]
    by_cases hy : isC y
    · rw [ky y hy]
      simp only
      rw [if_neg one, kn z (fun hz => h ⟨hx, hy, hz⟩)]
      rfl
    · rw [kn y hy]
      rfl
  · rw [kn x hx]
    rfl
def cd6 (a b c d e f : Nat) : Nat := a * 33554432 + b * 1048576 + c * 32768 + d * 1024 + e * 32 + f
theorem cd6_lt {a b c d e f : Nat} (ha : a ≤ 20) (hb : b ≤ 20) (hc : c ≤ 20) (hd : d ≤ 20) (he : e ≤ 20) (hf : f ≤ 20) : cd6 a b c d e f < 2 ^ 30 := by
  unfold cd6
  omega
theorem cd6_iff {a b c d e f x : Nat} (hx : x < 2 ^ 30) (ha : a ≤ 20) (hb : b ≤ 20) (hc : c ≤ 20) (hd : d ≤ 20) (he : e ≤ 20) (hf : f ≤ 20) : x = cd6 a b c d e f ↔ (cn x 0 = a ∧ cn x 1 = b ∧ cn x 2 = c ∧ cn x 3 = d ∧ cn x 4 = e ∧ cn x 5 = f) := by
  unfold cd6 cn
  show x = _ ↔ (x / 33554432 % 32 = a ∧ x / 1048576 % 32 = b ∧ x / 32768 % 32 = c ∧ x / 1024 % 32 = d ∧ x / 32 % 32 = e ∧ x / 1 % 32 = f)
  have e1 : x / 1024 = x / 32 / 32 := by rw [Nat.div_div_eq_div_mul]
  have e2 : x / 32768 = x / 32 / 32 / 32 := by rw [Nat.div_div_eq_div_mul, Nat.div_div_eq_div_mul]
  have e3 : x / 1048576 = x / 32 / 32 / 32 / 32 := by rw [Nat.div_div_eq_div_mul, Nat.div_div_eq_div_mul, Nat.div_div_eq_div_mul]
  have e4 : x / 33554432 = x / 32 / 32 / 32 / 32 / 32 := by rw [Nat.div_div_eq_div_mul, Nat.div_div_eq_div_mul, Nat.div_div_eq_div_mul, Nat.div_div_eq_div_mul]
  constructor
  · rintro rfl
    refine ⟨by omega, by omega, by omega, by omega, by omega, by omega⟩
  · rintro ⟨h1, h2, h3, h4, h5, h6⟩
    have hf : x / 32 / 32 / 32 / 32 / 32 < 32 := by rw [← e4]; omega
    rw [e1] at h4
    rw [e2] at h3
    rw [e3] at h2
    rw [e4] at h1
    rw [Nat.div_one] at h6
    clear e1 e2 e3 e4
    generalize hb' : x / 32 = p at *
    generalize hc' : p / 32 = q at *
    generalize hd' : q / 32 = r at *
    generalize he' : r / 32 = s at *
    generalize hf' : s / 32 = t at *
    omega
theorem packs {n a b c d e f : Nat} {T : TS} {K : Int32 → TS → Option (Int32 × TS)} (ha : a ≤ 20) (hb : b ≤ 20) (hc : c ≤ 20) (hd : d ≤ 20) (he : e ≤ 20) (hf : f ≤ 20) :
    bd (fX0_packed n 0 (nI a) T) (fun r_6 T_5 => bd (fX0_packed n 1 (nI b) T_5) (fun r_8 T_7 => bd (fX0_packed n 2 (nI c) T_7) (fun r_10 T_9 => bd (fX0_packed n 3 (nI d) T_9) (fun r_13 T_12 => bd (fX0_packed n 4 (nI e) T_12) (fun r_15 T_14 => bd (fX0_packed n 5 (nI f) T_14) (fun r_17 T_16 => K ((r_6 ||| r_8 ||| r_10) ||| (r_13 ||| r_15 ||| r_17)) T_16)))))) = K (nI (cd6 a b c d e f)) T := by
  have k0 := pack_nI (n := n) (T := T) (i := 0) (x := a) (by decide) (by omega)
  have k1 := pack_nI (n := n) (T := T) (i := 1) (x := b) (by decide) (by omega)
  have k2 := pack_nI (n := n) (T := T) (i := 2) (x := c) (by decide) (by omega)
  have k3 := pack_nI (n := n) (T := T) (i := 3) (x := d) (by decide) (by omega)
  have k4 := pack_nI (n := n) (T := T) (i := 4) (x := e) (by decide) (by omega)
  have k5 := pack_nI (n := n) (T := T) (i := 5) (x := f) (by decide) (by omega)
  rw [show (0 : Int32) = nI 0 from rfl, show (1 : Int32) = nI 1 from rfl, show (2 : Int32) = nI 2 from rfl, show (3 : Int32) = nI 3 from rfl, show (4 : Int32) = nI 4 from rfl, show (5 : Int32) = nI 5 from rfl, k0]
  simp only [bd]
  rw [k1]
  simp only
  rw [k2]
  simp only
  rw [k3]
  simp only
  rw [k4]
  simp only
  rw [k5]
  simp only
  have o1 : nI (a * 32 ^ (5 - 0)) ||| nI (b * 32 ^ (5 - 1)) = nI ((a * 32 + b) * 2 ^ 20) := (or_add (a := a) (b := b * 2 ^ 20) (k := 25) (by omega)).trans (congrArg nI (by omega))
  have o2 : nI ((a * 32 + b) * 2 ^ 20) ||| nI (c * 32 ^ (5 - 2)) = nI (((a * 32 + b) * 32 + c) * 2 ^ 15) := (or_add (a := a * 32 + b) (b := c * 2 ^ 15) (k := 20) (by omega)).trans (congrArg nI (by omega))
  have o3 : nI (d * 32 ^ (5 - 3)) ||| nI (e * 32 ^ (5 - 4)) = nI ((d * 32 + e) * 2 ^ 5) := (or_add (a := d) (b := e * 2 ^ 5) (k := 10) (by omega)).trans (congrArg nI (by omega))
  have o4 : nI ((d * 32 + e) * 2 ^ 5) ||| nI (f * 32 ^ (5 - 5)) = nI ((d * 32 + e) * 2 ^ 5 + f) := (or_add (a := d * 32 + e) (b := f * 32 ^ (5 - 5)) (k := 5) (by show f * 1 < 2 ^ 5; omega)).trans (congrArg nI (by show _ + f * 1 = _; omega))
  have o5 : nI (((a * 32 + b) * 32 + c) * 2 ^ 15) ||| nI ((d * 32 + e) * 2 ^ 5 + f) = nI (cd6 a b c d e f) := (or_add (by omega)).trans (congrArg nI (by unfold cd6; omega))
  rw [o1, o2, o3, o4, o5]
def rwm (T : TS) (y : Nat → Int32) (k : Nat) : Prop := ∀ i, i < 6 → gA T (67 + k) i = y i
theorem mfind_eq {n L : Nat} {T : TS} {y : Nat → Int32} {kk : TS → Option (Int32 × TS)} (hn : 10000 ≤ n) (hm : gI T 2064 = nI L) (hL : L ≤ 3000) (hX : ∀ k, k < 3000 → gO T 46 k = 67 + k) : (∃ j, j < L ∧ rwm T y j ∧ (∀ i, i < j → ¬ rwm T y i) ∧ fX11_find_L17 n (y 0) (y 1) (y 2) (y 3) (y 4) (y 5) kk n 0 T = some (nI j, T)) ∨ ((∀ i, i < L → ¬ rwm T y i) ∧ fX11_find_L17 n (y 0) (y 1) (y 2) (y 3) (y 4) (y 5) kk n 0 T = kk T) := by
  have stepA : ∀ k, k < L → ∀ f, fX11_find_L17 n (y 0) (y 1) (y 2) (y 3) (y 4) (y 5) kk (f + 1) (nI k) T = @ite _ (rwm T y k) (Classical.propDecidable _) (some (nI k, T)) (fX11_find_L17 n (y 0) (y 1) (y 2) (y 3) (y 4) (y 5) kk f (nI (k + 1)) T) := by
    intro k hk f
    have c6 : ∀ i, i < 6 → ∀ {z : Option (Int32 × TS)}, ck (nI i) 6 z = z := fun i hi => ck_nI hi (by decide)
    rw [fX11_find_L17, hm, if_neg (nI_ge hk (by omega)), ck_nI (by omega) (by decide), nI_clamp (by omega), hX k (by omega), al_6 (by omega), nI_1]
    simp only [ak_row (show 67 ≤ 67 + k by omega) (show 67 + k < 3503 by omega), show (0 : Int32) = nI 0 from rfl, show (1 : Int32) = nI 1 from rfl, show (2 : Int32) = nI 2 from rfl, show (3 : Int32) = nI 3 from rfl, show (4 : Int32) = nI 4 from rfl, show (5 : Int32) = nI 5 from rfl, c6 0 (by decide), c6 1 (by decide), c6 2 (by decide), c6 3 (by decide), c6 4 (by decide), c6 5 (by decide), nI_clamp (show 0 < 2 ^ 31 by decide), nI_clamp (show 1 < 2 ^ 31 by decide), nI_clamp (show 2 < 2 ^ 31 by decide), nI_clamp (show 3 < 2 ^ 31 by decide), nI_clamp (show 4 < 2 ^ 31 by decide), nI_clamp (show 5 < 2 ^ 31 by decide)]
    by_cases h0 : gA T (67 + k) 0 = y 0
    · by_cases h1 : gA T (67 + k) 1 = y 1
      · by_cases h2 : gA T (67 + k) 2 = y 2
        · by_cases h3 : gA T (67 + k) 3 = y 3
          · by_cases h4 : gA T (67 + k) 4 = y 4
            · by_cases h5 : gA T (67 + k) 5 = y 5
              · have hr : rwm T y k := fun i hi => by
                  rcases (show i = 0 ∨ i = 1 ∨ i = 2 ∨ i = 3 ∨ i = 4 ∨ i = 5 by omega) with rfl | rfl | rfl | rfl | rfl | rfl <;> assumption
                simp [h0, h1, h2, h3, h4, h5, hr]
              · have hr : ¬ rwm T y k := fun q => h5 (q 5 (by decide))
                simp [h0, h1, h2, h3, h4, h5, hr]
            · have hr : ¬ rwm T y k := fun q => h4 (q 4 (by decide))
              simp [h0, h1, h2, h3, h4, hr]
          · have hr : ¬ rwm T y k := fun q => h3 (q 3 (by decide))
            simp [h0, h1, h2, h3, hr]
        · have hr : ¬ rwm T y k := fun q => h2 (q 2 (by decide))
          simp [h0, h1, h2, hr]
      · have hr : ¬ rwm T y k := fun q => h1 (q 1 (by decide))
        simp [h0, h1, hr]
    · have hr : ¬ rwm T y k := fun q => h0 (q 0 (by decide))
      simp [h0, hr]
  have k3 : ∀ f, (fun f x => fX11_find_L17 n (y 0) (y 1) (y 2) (y 3) (y 4) (y 5) kk f x T) (f + 1) (nI L) = kk T := by
    intro f
    show fX11_find_L17 n _ _ _ _ _ _ kk (f + 1) (nI L) T = _
    rw [fX11_find_L17, hm, if_pos (nI_le (Nat.le_refl _) (by omega))]
  rcases lps (fun f x => fX11_find_L17 n (y 0) (y 1) (y 2) (y 3) (y 4) (y 5) kk f x T) L (kk T) (fun j => some (nI j, T)) (fun j => ¬ rwm T y j) (fun j hj hp f => by
      show fX11_find_L17 n _ _ _ _ _ _ kk (f + 1) (nI j) T = _
      rw [stepA j hj, if_neg hp]) (fun j hj hp f => by
      show fX11_find_L17 n _ _ _ _ _ _ kk (f + 1) (nI j) T = _
      rw [stepA j hj, if_pos (Classical.not_not.mp hp)]) k3 n (by omega) with ⟨j, h1, h2, h3, h4⟩ | ⟨h1, h2⟩
  · exact Or.inl ⟨j, h1, Classical.not_not.mp h2, h3, h4⟩
  · exact Or.inr ⟨h1, h2⟩
