/-! ===== pattern, slot ===== -/
theorem okc_d {d c : Nat} (h : okc d c) : c < 2 ^ 30 := h.1
/-- members of the list of PATTERNS -/
theorem sp_ok {mm : Nat → Nat} : ∀ (r i c room kn : Nat), i + r ≤ 6 → c < 32 ^ i → kn ≤ 20 → ∀ x, x ∈ sp mm r i (c * 32 ^ (6 - i)) room kn → x < 2 ^ 30 ∧ (∀ j, i + r ≤ j → j < 6 → cn x j = 0) ∧ pcs x ≤ pcs (c * 32 ^ (6 - i)) + kn := by
  intro r
  induction r with
  | zero =>
    intro i c room kn hi hc hk x hx
    rw [sp, List.mem_singleton] at hx
    subst hx
    exact ⟨dig_lt (by omega) hc, fun j h1 h2 => cn_hi (by omega) h2, by omega⟩
  | succ r ih =>
    intro i c room kn hi hc hk x hx
    rw [sp, List.mem_flatMap] at hx
    obtain ⟨y, hy, hx⟩ := hx
    have hy2 : y ≤ kn := by
      have : ∀ m z, z ∈ dn m → z ≤ m := by
        intro m
        induction m with
        | zero => intro z hz; simp [dn] at hz; omega
        | succ m ihm =>
          intro z hz
          rw [dn, List.mem_cons] at hz
          rcases hz with hz | hz
          · omega
          · have := ihm z hz
            omega
      exact Nat.le_trans (this _ y hy) (Nat.min_le_left _ _)
    rw [add_dig (by omega)] at hx
    obtain ⟨h1, h2, h3⟩ := ih (i + 1) (c * 32 + y) _ _ (by omega) (dig_s (by omega) hc (by omega)) (by omega) x hx
    rw [← add_dig (by omega), pcs_add (by omega) (by omega)] at h3
    exact ⟨h1, fun j q1 q2 => h2 j (by omega) q2, by omega⟩
theorem ps_ok {T : TS} (hM : GM T) {k x : Nat} (hx : (psT T)[k]? = some x) : okc (vd T) x := by
  obtain ⟨-, -, ⟨b1, b2, b3, b4, b5, b6, b7, b8⟩, -⟩ := hM
  have hm := List.mem_of_getElem? hx
  unfold psT pl at hm
  rw [List.mem_filter] at hm
  obtain ⟨h1, h2, h3⟩ := sp_ok (vd T) 0 0 (vw T - 2 * ve T) (vk T) (by omega) (by decide) b5 x hm.1
  have hne : x ≠ 0 := by simpa using hm.2
  refine ⟨h1, fun i q1 q2 => h2 i (by omega) q2, ?_, ?_⟩
  · rw [show pcs (0 * 32 ^ (6 - 0)) = 0 from rfl] at h3
    omega
  · have : pcs x ≠ 0 := fun q => hne ((pcs_0 h1).mp q)
    omega
/-- COUNTS beyond the WIDTHS add nothing -/
theorem bx_ext {f : Nat → Int32} {d : Nat} (hd : d ≤ 6) (h : ∀ i, d ≤ i → i < 6 → f i = 0) : bx_sum f 6 = bx_sum f d := by
  have : ∀ m, d + m ≤ 6 → bx_sum f (d + m) = bx_sum f d := by
    intro m
    induction m with
    | zero => intro _; rfl
    | succ m ih =>
      intro hm
      show bx_sum f (d + m) + f (d + m) = _
      rw [ih (by omega), h (d + m) (by omega) (by omega), Int32.add_zero]
  have := this (6 - d) (by omega)
  rw [show d + (6 - d) = 6 by omega] at this
  exact this
/-! FITS a FLAWED roll: both ask the same of the same COUNTS -/
def fp (mm : Nat → Int32) (cc : Nat → Nat) : Nat → Nat → Int32 → Int32 → Bool
  | 0, _, _, _ => true
  | r + 1, i, l, g => (List.range (cc i + 1)).any (fun x => decide (¬ l - nI x * mm i < 0) && decide (¬ g - (nI (cc i) - nI x) * mm i < 0) && fp mm cc r (i + 1) (l - nI x * mm i) (g - (nI (cc i) - nI x) * mm i))
theorem any_split {p : Nat → Bool} (m : Nat) : (List.range (m + 1)).any p = true ↔ ∃ x, x ≤ m ∧ p x = true := by
  rw [List.any_eq_true]
  constructor
  · rintro ⟨x, hx, h⟩
    exact ⟨x, by rw [List.mem_range] at hx; omega, h⟩
  · rintro ⟨x, hx, h⟩
    exact ⟨x, by rw [List.mem_range]; omega, h⟩
theorem canPart_eq {n wd C : Nat} {T : TS} (hn : 10000 ≤ n) (h55 : gI T 55 = nI wd) (h6 : wd ≤ 6) (hC : C < 2 ^ 30) : ∀ (r d i : Nat) (l g : Int32), i + r = wd → r < d → fX4_canPart n d (nI C) (nI i) l g T = some (b01 (fp (gA T 2) (cn C) r i l g), T) := by
  intro r
  induction r with
  | zero =>
    intro d i l g hi hd
    obtain ⟨d, rfl⟩ : ∃ e, d = e + 1 := ⟨d - 1, by omega⟩
    rw [fX4_canPart]
    unfold fX4_canPart_B
    rw [h55, if_neg (nI_nlt (by omega) (by omega)), fp]
    rfl
  | succ r ih =>
    intro d i l g hi hd
    obtain ⟨d, rfl⟩ : ∃ e, d = e + 1 := ⟨d - 1, by omega⟩
    rw [fX4_canPart]
    unfold fX4_canPart_B
    rw [h55, if_pos (nI_lt (by omega) (by omega)), ofW_nI hC (by omega)]
    simp only [bd]
    generalize hm : cn C i = m
    have hm32 : m < 32 := hm ▸ cn_lt C i
    let p : Nat → Bool := fun x => decide (¬ l - nI x * gA T 2 i < 0) && decide (¬ g - (nI m - nI x) * gA T 2 i < 0) && fp (gA T 2) (cn C) r (i + 1) (l - nI x * gA T 2 i) (g - (nI m - nI x) * gA T 2 i)
    have k1 : ∀ x, x < m + 1 → (fun x => p x = false) x → ∀ f, (fun f y => fX4_canPart_L20 n (fX4_canPart n d) (nI C) (nI i) l g (nI m) (fun T_7 => rz 0 T_7) f y T) (f + 1) (nI x) = (fun f y => fX4_canPart_L20 n (fX4_canPart n d) (nI C) (nI i) l g (nI m) (fun T_7 => rz 0 T_7) f y T) f (nI (x + 1)) := by
      intro x hx hp f
      show fX4_canPart_L20 n (fX4_canPart n d) (nI C) (nI i) l g (nI m) _ (f + 1) (nI x) T = _
      rw [fX4_canPart_L20, if_neg (nI_nlt (by omega) (by omega)), ck_nI (by omega) (by decide), nI_clamp (by omega)]
      simp only [nm]
      rw [ck_nI (by omega) (by decide), nI_1]
      by_cases q1 : l - nI x * gA T 2 i < 0
      · rw [if_pos q1]
      · rw [if_neg q1]
        by_cases q2 : g - (nI m - nI x) * gA T 2 i < 0
        · rw [if_pos q2]
        · rw [if_neg q2, show nI i + 1 = nI (i + 1) from nI_1 i, ih d (i + 1) _ _ (by omega) (by omega)]
          simp only [bd]
          have : fp (gA T 2) (cn C) r (i + 1) (l - nI x * gA T 2 i) (g - (nI m - nI x) * gA T 2 i) = false := by
            have h := hp
            simp only [p, q1, q2, not_false_eq_true, decide_true, Bool.true_and] at h
            exact h
          rw [this, if_pos (show b01 false = 0 from rfl)]
    have k2 : ∀ x, x < m + 1 → ¬ (fun x => p x = false) x → ∀ f, (fun f y => fX4_canPart_L20 n (fX4_canPart n d) (nI C) (nI i) l g (nI m) (fun T_7 => rz 0 T_7) f y T) (f + 1) (nI x) = (fun _ => some (1, T)) x := by
      intro x hx hp f
      show fX4_canPart_L20 n (fX4_canPart n d) (nI C) (nI i) l g (nI m) _ (f + 1) (nI x) T = _
      have hp : p x = true := by simpa using hp
      simp only [p, Bool.and_eq_true, decide_eq_true_eq] at hp
      rw [fX4_canPart_L20, if_neg (nI_nlt (by omega) (by omega)), ck_nI (by omega) (by decide), nI_clamp (by omega)]
      simp only [nm]
      rw [ck_nI (by omega) (by decide), if_neg hp.1.1, if_neg hp.1.2, show nI i + 1 = nI (i + 1) from nI_1 i, ih d (i + 1) _ _ (by omega) (by omega), hp.2]
      simp only [bd]
      rw [if_neg (show ¬ b01 true = 0 by decide)]
      rfl
    have k3 : ∀ f, (fun f y => fX4_canPart_L20 n (fX4_canPart n d) (nI C) (nI i) l g (nI m) (fun T_7 => rz 0 T_7) f y T) (f + 1) (nI (m + 1)) = some (0, T) := by
      intro f
      show fX4_canPart_L20 n (fX4_canPart n d) (nI C) (nI i) l g (nI m) _ (f + 1) (nI (m + 1)) T = _
      rw [fX4_canPart_L20, if_pos (nI_lt (by omega) (by omega))]
      rfl
    have hfp : fp (gA T 2) (cn C) (r + 1) i l g = (List.range (m + 1)).any p := by rw [fp, hm]
    rw [hfp]
    rcases lps (fun f y => fX4_canPart_L20 n (fX4_canPart n d) (nI C) (nI i) l g (nI m) (fun T_7 => rz 0 T_7) f y T) (m + 1) (some (0, T)) (fun _ => some (1, T)) (fun x => p x = false) k1 k2 k3 n (by omega) with ⟨x, h1, h2, h3, h4⟩ | ⟨h1, h2⟩
    · have : (List.range (m + 1)).any p = true := (any_split m).mpr ⟨x, by omega, by simpa using h2⟩
      rw [this]
      exact h4
    · have : (List.range (m + 1)).any p = false := by
        cases hq : (List.range (m + 1)).any p with
        | false => rfl
        | true =>
          obtain ⟨x, hx, hpx⟩ := (any_split m).mp hq
          have := h1 x (by omega)
          rw [hpx] at this
          cases this
      rw [this]
      exact h2
