theorem fp_congr {m1 m2 : Nat → Int32} {cc : Nat → Nat} : ∀ (r i : Nat) (l g : Int32), (∀ j, i ≤ j → j < i + r → m1 j = m2 j) → fp m1 cc r i l g = fp m2 cc r i l g := by
  intro r
  induction r with
  | zero => intro i l g h; rfl
  | succ r ih =>
    intro i l g h
    rw [fp, fp, h i (Nat.le_refl i) (by omega)]
    congr 1
    funext x
    rw [ih (i + 1) _ _ (fun j h1 h2 => h j (by omega) (by omega))]
theorem isParted_eq {n wd q : Nat} {cc : Nat → Nat} {T : TS} (hn : 10000 ≤ n) (h56 : gI T 2056 = nI wd) (h6 : wd ≤ 6) (hq1 : 67 ≤ q) (hq2 : q < 3247) (hcc : ∀ i, i < 6 → gA T q i = nI (cc i) ∧ cc i < 32) : ∀ (r d i : Nat) (l g : Int32), i + r = wd → r < d → fX11_isParted n d q (nI i) l g T = some (b01 (decide (¬ l < 0) && decide (¬ g < 0) && fp (gA T 42) cc r i l g), T) := by
  intro r
  induction r with
  | zero =>
    intro d i l g hi hd
    obtain ⟨d, rfl⟩ : ∃ e, d = e + 1 := ⟨d - 1, by omega⟩
    rw [fX11_isParted]
    unfold fX11_isParted_B
    have hiw : i = wd := by omega
    by_cases q1 : l < 0
    · rw [if_pos q1]
      simp [q1, b01, rz]
    · rw [if_neg q1]
      by_cases q2 : g < 0
      · rw [if_neg (i_nle.mpr q2)]
        simp [q2, b01, rz]
      · rw [if_pos (i_nlt.mp q2), h56, hiw, if_neg (fun z => z rfl), fp]
        simp [q1, q2, b01, rz]
  | succ r ih =>
    intro d i l g hi hd
    obtain ⟨d, rfl⟩ : ∃ e, d = e + 1 := ⟨d - 1, by omega⟩
    rw [fX11_isParted]
    unfold fX11_isParted_B
    by_cases q1 : l < 0
    · rw [if_pos q1]
      simp [q1, b01, rz]
    rw [if_neg q1]
    by_cases q2 : g < 0
    · rw [if_neg (i_nle.mpr q2)]
      simp [q2, b01, rz]
    rw [if_pos (i_nlt.mp q2), h56, if_pos (fun z => by have := (nI_eq (by omega) (by omega)).mp z; omega)]
    obtain ⟨g1, g2⟩ := hcc i (by omega)
    generalize hm : cc i = m at g1 g2
    let p : Nat → Bool := fun x => decide (¬ l - nI x * gA T 42 i < 0) && decide (¬ g - (nI m - nI x) * gA T 42 i < 0) && fp (gA T 42) cc r (i + 1) (l - nI x * gA T 42 i) (g - (nI m - nI x) * gA T 42 i)
    have hfp : fp (gA T 42) cc (r + 1) i l g = (List.range (m + 1)).any p := by rw [fp, hm]
    rw [hfp, show (decide (¬ l < 0) && decide (¬ g < 0) && (List.range (m + 1)).any p) = (List.range (m + 1)).any p by simp [q1, q2]]
    -- one turn of the loop
    have turn : ∀ x, x ≤ m → ∀ f, fX11_isParted_L27 n (fX11_isParted n d) q (nI i) l g (fun e5_3 T_4 => rz e5_3 T_4) (f + 1) 0 (nI x) T = fX11_isParted_L27 n (fX11_isParted n d) q (nI i) l g (fun e5_3 T_4 => rz e5_3 T_4) f (b01 (p x)) (nI (x + 1)) T := by
      intro x hx f
      rw [fX11_isParted_L27, ak_row hq1 (by omega), al_6 hq2, ck_nI (by omega) (by decide), nI_clamp (by omega), g1, if_neg (nI_nlt hx (by omega)), if_neg (fun z => z rfl), ck_nI (by omega) (by decide), ak_row hq1 (by omega), ck_nI (by omega) (by decide), ck_nI (by omega) (by decide), show nI i + 1 = nI (i + 1) from nI_1 i, ih d (i + 1) _ _ (by omega) (by omega)]
      simp only [bd]
      rw [nI_1]
    have stop1 : ∀ x f, fX11_isParted_L27 n (fX11_isParted n d) q (nI i) l g (fun e5_3 T_4 => rz e5_3 T_4) (f + 1) 1 (nI x) T = some (1, T) := by
      intro x f
      rw [fX11_isParted_L27, ak_row hq1 (by omega), al_6 hq2, ck_nI (by omega) (by decide), nI_clamp (by omega), g1]
      by_cases z : nI m < nI x
      · rw [if_pos z]
        rfl
      · rw [if_neg z, if_pos (by decide)]
        rfl
    have stop0 : ∀ f, fX11_isParted_L27 n (fX11_isParted n d) q (nI i) l g (fun e5_3 T_4 => rz e5_3 T_4) (f + 1) 0 (nI (m + 1)) T = some (0, T) := by
      intro f
      rw [fX11_isParted_L27, ak_row hq1 (by omega), al_6 hq2, ck_nI (by omega) (by decide), nI_clamp (by omega), g1, if_pos (nI_lt (by omega) (by omega))]
      rfl
    have H : ∀ k x, x + k = m + 1 → (∀ y, y < x → p y = false) → ∀ f, k + 1 < f → fX11_isParted_L27 n (fX11_isParted n d) q (nI i) l g (fun e5_3 T_4 => rz e5_3 T_4) f 0 (nI x) T = some (b01 ((List.range (m + 1)).any p), T) := by
      intro k
      induction k with
      | zero =>
        intro x hx hp f hf
        obtain ⟨f, rfl⟩ : ∃ g, f = g + 1 := ⟨f - 1, by omega⟩
        have : x = m + 1 := by omega
        subst this
        have hany : (List.range (m + 1)).any p = false := by
          cases hq : (List.range (m + 1)).any p with
          | false => rfl
          | true =>
            obtain ⟨y, hy, hpy⟩ := (any_split m).mp hq
            rw [hp y (by omega)] at hpy
            cases hpy
        rw [stop0, hany]
        rfl
      | succ k ihk =>
        intro x hx hp f hf
        obtain ⟨f, rfl⟩ : ∃ g, f = g + 1 := ⟨f - 1, by omega⟩
        rw [turn x (by omega)]
        cases hpx : p x with
        | false =>
          exact ihk (x + 1) (by omega) (fun y hy => by
            rcases Nat.lt_or_ge y x with w | w
            · exact hp y w
            · have : y = x := by omega
              subst this
              exact hpx) f (by omega)
        | true =>
          obtain ⟨f, rfl⟩ : ∃ g, f = g + 1 := ⟨f - 1, by omega⟩
          have hany : (List.range (m + 1)).any p = true := (any_split m).mpr ⟨x, by omega, hpx⟩
          rw [hany]
          exact stop1 (x + 1) f
    exact H (m + 1) 0 (by omega) (fun y hy => by omega) n (by omega)
theorem imax0 (x : Int32) : ¬ imax 0 x < 0 := by
  unfold imax
  by_cases h : (0 : Int32) < x
  · rw [if_pos h]
    rw [i_lt_int] at h ⊢
    omega
  · rw [if_neg h]
    decide
/-- whether a code FITS a FLAWED roll -/
def FLW (T : TS) (C : Nat) : Bool := if gI T 53 < gI T 54 then fp (gA T 2) (cn C) (vd T) 0 (imax 0 (imin (gI T 53) (gI T 50 - gI T 51) - gI T 51)) (imax 0 (gI T 50 - gI T 51 - imax (gI T 54) (gI T 51))) else true
theorem fits_eq {n C : Nat} {T : TS} (hn : 10000 ≤ n) (hM : GM T) (hC : C < 2 ^ 30) : fX4_fitsFlawed n (nI C) T = some (b01 (FLW T C), T) := by
  obtain ⟨d1, d2, d6⟩ := hM.d
  unfold fX4_fitsFlawed FLW
  by_cases h : gI T 53 < gI T 54
  · rw [if_pos h, if_pos h]
    simp only [nm]
    rw [show (0 : Int32) = nI 0 from rfl, canPart_eq hn d1 d6 hC (vd T) 8 0 _ _ (by omega) (by omega)]
    simp only [bd]
    rw [rzb]
  · rw [if_neg h, if_neg h]
    rfl
theorem mfits_eq {n C q : Nat} {T : TS} (hn : 10000 ≤ n) (hM : GM T) (hq1 : 67 ≤ q) (hq2 : q < 3247) (hcc : ∀ i, i < 6 → gA T q i = nI (cn C i)) : fX11_fitsFlawed n q T = some (b01 (FLW T C), T) := by
  obtain ⟨d1, d2, d6⟩ := hM.d
  obtain ⟨-, ⟨e1, e2, e3, e4, e5, e6⟩, -, r1, -⟩ := id hM
  unfold fX11_fitsFlawed FLW
  rw [e1, e2, e4, e5]
  by_cases h : gI T 53 < gI T 54
  · rw [if_pos h, if_pos h]
    simp only [nm]
    rw [show fX11_isParted n 8 q 0 (imax 0 (imin (gI T 53) (gI T 50 - gI T 51) - gI T 51)) (imax 0 (gI T 50 - gI T 51 - imax (gI T 54) (gI T 51))) T = _ from isParted_eq (cc := cn C) hn d2 d6 hq1 hq2 (fun i hi => ⟨hcc i hi, cn_lt C i⟩) (vd T) 8 0 _ _ (by omega) (by omega)]
    simp only [bd]
    rw [rzb, decide_eq_true (imax0 _), decide_eq_true (imax0 _), Bool.true_and, Bool.true_and, fp_congr (m1 := gA T 42) (m2 := gA T 2) (vd T) 0 _ _ (fun j _ hj => (r1 j (by omega)).2.2.2)]
  · rw [if_neg h, if_neg h]
    rfl
