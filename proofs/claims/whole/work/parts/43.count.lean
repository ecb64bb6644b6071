/-! ===== PATTERNS: the reference's rows ===== -/
theorem cn_lo {i j c x : Nat} (hi : i < 6) (hj : j < i) (hx : x < 32) : cn (c * 32 ^ (6 - i) + x * 32 ^ (5 - i)) j = cn (c * 32 ^ (6 - i)) j := by
  unfold cn
  rcases (show i = 1 ∨ i = 2 ∨ i = 3 ∨ i = 4 ∨ i = 5 by omega) with rfl | rfl | rfl | rfl | rfl
  · rcases (show j = 0 by omega) with rfl
    show (c * 33554432 + x * 1048576) / 33554432 % 32 = c * 33554432 / 33554432 % 32
    omega
  · rcases (show j = 0 ∨ j = 1 by omega) with rfl | rfl
    · show (c * 1048576 + x * 32768) / 33554432 % 32 = c * 1048576 / 33554432 % 32
      omega
    · show (c * 1048576 + x * 32768) / 1048576 % 32 = c * 1048576 / 1048576 % 32
      omega
  · rcases (show j = 0 ∨ j = 1 ∨ j = 2 by omega) with rfl | rfl | rfl
    · show (c * 32768 + x * 1024) / 33554432 % 32 = c * 32768 / 33554432 % 32
      omega
    · show (c * 32768 + x * 1024) / 1048576 % 32 = c * 32768 / 1048576 % 32
      omega
    · show (c * 32768 + x * 1024) / 32768 % 32 = c * 32768 / 32768 % 32
      omega
  · rcases (show j = 0 ∨ j = 1 ∨ j = 2 ∨ j = 3 by omega) with rfl | rfl | rfl | rfl
    · show (c * 1024 + x * 32) / 33554432 % 32 = c * 1024 / 33554432 % 32
      omega
    · show (c * 1024 + x * 32) / 1048576 % 32 = c * 1024 / 1048576 % 32
      omega
    · show (c * 1024 + x * 32) / 32768 % 32 = c * 1024 / 32768 % 32
      omega
    · show (c * 1024 + x * 32) / 1024 % 32 = c * 1024 / 1024 % 32
      omega
  · rcases (show j = 0 ∨ j = 1 ∨ j = 2 ∨ j = 3 ∨ j = 4 by omega) with rfl | rfl | rfl | rfl | rfl
    · show (c * 32 + x * 1) / 33554432 % 32 = c * 32 / 33554432 % 32
      omega
    · show (c * 32 + x * 1) / 1048576 % 32 = c * 32 / 1048576 % 32
      omega
    · show (c * 32 + x * 1) / 32768 % 32 = c * 32 / 32768 % 32
      omega
    · show (c * 32 + x * 1) / 1024 % 32 = c * 32 / 1024 % 32
      omega
    · show (c * 32 + x * 1) / 32 % 32 = c * 32 / 32 % 32
      omega
theorem cn_at {i c x : Nat} (hi : i < 6) (hx : x < 32) : cn (c * 32 ^ (6 - i) + x * 32 ^ (5 - i)) i = x := by
  unfold cn
  rcases (show i = 0 ∨ i = 1 ∨ i = 2 ∨ i = 3 ∨ i = 4 ∨ i = 5 by omega) with rfl | rfl | rfl | rfl | rfl | rfl
  · show (c * 1073741824 + x * 33554432) / 33554432 % 32 = x
    omega
  · show (c * 33554432 + x * 1048576) / 1048576 % 32 = x
    omega
  · show (c * 1048576 + x * 32768) / 32768 % 32 = x
    omega
  · show (c * 32768 + x * 1024) / 1024 % 32 = x
    omega
  · show (c * 1024 + x * 32) / 32 % 32 = x
    omega
  · show (c * 32 + x * 1) / 1 % 32 = x
    omega
theorem cn_hi {i j c : Nat} (hj : i ≤ j) (hj6 : j < 6) : cn (c * 32 ^ (6 - i)) j = 0 := by
  unfold cn
  have e : 32 ^ (6 - i) = 32 ^ (5 - j) * (32 * 32 ^ (j - i)) := by
    rw [show 6 - i = (5 - j) + (1 + (j - i)) by omega, Nat.pow_add, Nat.pow_add, Nat.pow_one]
  rw [e, Nat.mul_left_comm, Nat.mul_div_cancel_left _ (Nat.pow_pos (by decide)), Nat.mul_left_comm, Nat.mul_mod_right]
theorem pcs_sum (c : Nat) : pcs c = nsum (cn c) 6 := by simp [nsum, pcs]
theorem nsum_split {f : Nat → Nat} (a : Nat) : ∀ b, nsum f (a + b) = nsum f a + nsum (fun j => f (a + j)) b
  | 0 => rfl
  | b + 1 => by
    show nsum f (a + b) + f (a + b) = nsum f a + (nsum (fun j => f (a + j)) b + f (a + b))
    rw [nsum_split a b, Nat.add_assoc]
theorem nsum_zero {f : Nat → Nat} : ∀ {d : Nat}, (∀ i, i < d → f i = 0) → nsum f d = 0
  | 0, _ => rfl
  | d + 1, h => by
    show nsum f d + f d = 0
    rw [nsum_zero (fun i hi => h i (by omega)), h d (by omega)]
theorem pcs_pre {i c : Nat} (hi : i ≤ 6) : pcs (c * 32 ^ (6 - i)) = nsum (cn (c * 32 ^ (6 - i))) i := by
  rw [pcs_sum, show 6 = i + (6 - i) by omega, nsum_split i (6 - i), show i + (6 - i) = 6 by omega, nsum_zero (d := 6 - i) (fun j hj => cn_hi (by omega) (by omega)), Nat.add_zero]
theorem pcs_add {i c x : Nat} (hi : i < 6) (hx : x < 32) : pcs (c * 32 ^ (6 - i) + x * 32 ^ (5 - i)) = pcs (c * 32 ^ (6 - i)) + x := by
  rw [add_dig hi, pcs_pre (i := i + 1) (by omega), ← add_dig hi, pcs_pre (i := i) (by omega)]
  show nsum _ i + cn _ i = _
  rw [cn_at hi hx, nsum_congr (fun j hj => cn_lo hi hj hx)]
theorem pcs_0 {c : Nat} (hc : c < 2 ^ 30) : pcs c = 0 ↔ c = 0 := by
  unfold pcs cn
  show c / 33554432 % 32 + c / 1048576 % 32 + c / 32768 % 32 + c / 1024 % 32 + c / 32 % 32 + c / 1 % 32 = 0 ↔ c = 0
  have e1 : c / 1024 = c / 32 / 32 := by rw [Nat.div_div_eq_div_mul]
  have e2 : c / 32768 = c / 32 / 32 / 32 := by rw [Nat.div_div_eq_div_mul, Nat.div_div_eq_div_mul]
  have e3 : c / 1048576 = c / 32 / 32 / 32 / 32 := by rw [Nat.div_div_eq_div_mul, Nat.div_div_eq_div_mul, Nat.div_div_eq_div_mul]
  have e4 : c / 33554432 = c / 32 / 32 / 32 / 32 / 32 := by rw [Nat.div_div_eq_div_mul, Nat.div_div_eq_div_mul, Nat.div_div_eq_div_mul, Nat.div_div_eq_div_mul]
  rw [e1, e2, e3, e4, Nat.div_one]
  have hf : c / 32 / 32 / 32 / 32 / 32 < 32 := by rw [← e4]; omega
  generalize hb : c / 32 = b at *
  generalize ha : b / 32 = a at *
  generalize hd : a / 32 = d at *
  generalize he : d / 32 = e at *
  generalize hg : e / 32 = f at *
  constructor
  · intro h
    have z1 : f % 32 = 0 := by omega
    have z2 : e % 32 = 0 := by omega
    have z3 : d % 32 = 0 := by omega
    have z4 : a % 32 = 0 := by omega
    have z5 : b % 32 = 0 := by omega
    have z6 : c % 32 = 0 := by omega
    omega
  · intro h
    omega
def MD (T0 T : TS) (L : List Nat) : Prop :=
  (L.length ≤ 3000 ∧ FR [2064] [47] 67 3067 T0 T ∧ gI T 2064 = nI L.length ∧ ∀ k c, L[k]? = some c → ∀ i, i < 6 → gA T (67 + k) i = nI (cn c i)) ∨ (3000 < L.length ∧ FR [2064] [47] 67 3067 T0 T ∧ gI T 2064 = nI 3001)
theorem MD.fr {T0 T : TS} {L : List Nat} (h : MD T0 T L) : FR [2064] [47] 67 3067 T0 T := h.elim (fun h => h.2.1) (fun h => h.2.1)
theorem MD.more {T0 T : TS} {L M : List Nat} (h : MD T0 T L) (h1 : ¬ gI T 2064 ≤ 3000) : MD T0 T (L ++ M) := by
  rcases h with h | h
  · exact absurd (show gI T 2064 ≤ 3000 by rw [h.2.2.1]; exact nI_le (b := 3000) h.1 (by decide)) h1
  · exact Or.inr ⟨by rw [List.length_append]; omega, h.2.1, h.2.2⟩
/-- a leaf: a row is written and counted -/
theorem leaf_eq {n wd : Nat} {T0 T : TS} {L : List Nat} {rc : Int32 → Int32 → Int32 → TS → Option TS} {C : Nat} (hn : 10000 ≤ n) (h56 : gI T0 2056 = nI wd) (h6 : wd ≤ 6) (hX : ∀ k, k < 3000 → gO T0 46 k = 67 + k) (hM : MD T0 T L) (hle : gI T 2064 ≤ 3000) (hrow : ∀ j, j < wd → gA T 47 j = nI (cn C j)) (hz : ∀ j, wd ≤ j → j < 6 → cn C j = 0) :
    ∃ T', fX11_count__L31 n rc (fun T_8 => nm (uI T_8 2064 (gI T_8 2064 + 1)) (fun T_9 => some T_9)) n 0 T = some T' ∧ MD T0 T' (L ++ [C]) ∧ gA T' 47 = gA T 47 := by
  obtain ⟨hl, hf, h2, h3⟩ : L.length ≤ 3000 ∧ FR [2064] [47] 67 3067 T0 T ∧ gI T 2064 = nI L.length ∧ ∀ k c, L[k]? = some c → ∀ i, i < 6 → gA T (67 + k) i = nI (cn c i) := by
    rcases hM with h | ⟨-, -, h1⟩
    · exact h
    · rw [h1] at hle
      exact absurd hle (by decide)
  by_cases hl2 : L.length = 3000
  · obtain ⟨f, rfl⟩ : ∃ f, n = f + 1 := ⟨n - 1, by omega⟩
    rw [fX11_count__L31, if_neg (by decide), h2, if_pos (show (3000 : Int32) ≤ nI L.length by rw [hl2]; decide)]
    refine ⟨uI T 2064 (nI 3000 + 1), by simp only [nm]; rw [hl2], Or.inr ⟨by rw [List.length_append, hl2]; show 3000 < 3000 + 1; decide, hf.trans (FR.uI (by decide)), rfl⟩, rfl⟩
  · have hl3 : L.length < 3000 := by omega
    generalize hq : 67 + L.length = q at *
    have g56 : gI T 2056 = nI wd := (hf.I (by decide)).trans h56
    have gO46 : gO T 46 L.length = q := by rw [hf.O, hX _ hl3, hq]
    let v : Nat → Int32 := fun i => if i < wd then gA T 47 i else 0
    have key : fX11_count__L31 n rc (fun T_8 => nm (uI T_8 2064 (gI T_8 2064 + 1)) (fun T_9 => some T_9)) n 0 T = some (uI (uA T q (fun i => if i < 6 then v i else gA T q i)) 2064 (nI L.length + 1)) := by
      have eT : uA T q (fun i => if i < 0 then v i else gA T q i) = T := by
        have e1 : (fun i => if i < 0 then v i else gA T q i) = gA T q := by
          funext i
          rw [if_neg (by omega)]
        rw [e1]
        show (T.1, T.2.1, va_up T.2.2.1 q (T.2.2.1 q), T.2.2.2) = T
        have : va_up T.2.2.1 q (T.2.2.1 q) = T.2.2.1 := by
          funext j
          unfold va_up
          by_cases hj : j = q <;> simp [hj]
        rw [this]
      have main := lpn (fun f (x : Int32 × TS) => fX11_count__L31 n rc (fun T_8 => nm (uI T_8 2064 (gI T_8 2064 + 1)) (fun T_9 => some T_9)) f x.1 x.2) (fun j => (nI j, uA T q (fun i => if i < j then v i else gA T q i))) 6 (some (uI (uA T q (fun i => if i < 6 then v i else gA T q i)) 2064 (nI L.length + 1))) ?_ ?_ n (by omega)
      · simp only [eT] at main
        exact main
      · intro j hj f
        show fX11_count__L31 n rc _ (f + 1) (nI j) (uA T q _) = fX11_count__L31 n rc _ f (nI (j + 1)) (uA T q _)
        have s1 : ∀ F, gI (uA T q F) 2064 = nI L.length := fun F => h2
        have s2 : ∀ F, gI (uA T q F) 2056 = nI wd := fun F => g56
        have s3 : ∀ F k, gO (uA T q F) 46 k = gO T 46 k := fun F k => rfl
        have s4 : ∀ F k, gA (uA T q F) 47 k = gA T 47 k := fun F k => by rw [zA_uA, if_neg (by omega)]
        have stp : ∀ y, y = v j → sA (uA T q (fun i => if i < j then v i else gA T q i)) q (nI j) y = uA T q (fun i => if i < j + 1 then v i else gA T q i) := by
          intro y hy
          show uA (uA T q _) q (upd (gA (uA T q _) q) _ _) = _
          rw [uA_uA, gA_uA, nI_clamp (by omega), hy]
          congr 1
          funext i
          rw [upd_at]
          by_cases h1 : i = j
          · rw [if_pos h1, if_pos (by omega), h1]
          · rw [if_neg h1]
            by_cases h2 : i < j
            · rw [if_pos h2, if_pos (by omega)]
            · rw [if_neg h2, if_neg (by omega)]
        rw [fX11_count__L31, if_neg (show ¬ (6 : Int32) ≤ nI j from nI_ge (b := 6) hj (by decide)), s1, if_neg (show ¬ (3000 : Int32) ≤ nI L.length from nI_ge (b := 3000) hl3 (by decide)), ck_nI hl3 (by decide), s2, nI_clamp (show L.length < 2 ^ 31 by omega), s3, gO46]
        by_cases hw : wd ≤ j
        · rw [if_pos (nI_le hw (by omega)), ak_row (by omega) (by omega), al_6 (by omega), ck_nI hj (by decide)]
          simp only [nm]
          rw [stp 0 (by show _ = v j; simp only [v]; rw [if_neg (by omega)]), nI_1]
        · rw [if_neg (nI_ge (by omega) (by omega)), ck_nI (by omega) (by decide), ak_row (by omega) (by omega), al_6 (by omega), ck_nI hj (by decide), nI_clamp (show j < 2 ^ 31 by omega), s4]
          simp only [nm]
          rw [stp _ (by show _ = v j; simp only [v]; rw [if_pos (by omega)]), nI_1]
      · intro f
        show fX11_count__L31 n rc _ (f + 1) (nI 6) (uA T q _) = _
        rw [fX11_count__L31, if_pos (show (6 : Int32) ≤ nI 6 by decide)]
        simp only [nm]
        rw [show gI (uA T q (fun i => if i < 6 then v i else gA T q i)) 2064 = nI L.length from h2]
    refine ⟨_, key, Or.inl ⟨by rw [List.length_append]; simp; omega, (hf.trans (FR.uA (Or.inr ⟨by omega, by omega⟩))).trans (FR.uI (by decide)), ?_, ?_⟩, ?_⟩
    · rw [List.length_append, zI_uI, if_pos rfl, nI_1]
      rfl
    · intro k x hk i hi
      rw [zA_uI, zA_uA]
      by_cases hkl : k = L.length
      · rw [if_pos (by omega), if_pos hi]
        subst hkl
        rw [List.getElem?_append_right (Nat.le_refl _), Nat.sub_self] at hk
        cases hk
        simp only [v]
        by_cases hiw : i < wd
        · rw [if_pos hiw]
          exact hrow i hiw
        · rw [if_neg hiw, hz i (by omega) hi]
          rfl
      · rw [if_neg (by omega)]
        have hkl2 : k < L.length := by
          have := (List.getElem?_eq_some_iff.mp hk).1
          rw [List.length_append] at this
          simp at this
          omega
        rw [List.getElem?_append_left hkl2] at hk
        exact h3 k x hk i hi
    · funext i
      rw [zA_uI, zA_uA, if_neg (by omega)]
