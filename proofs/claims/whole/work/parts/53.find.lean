/-! ===== find ===== -/
theorem dn_le : ∀ {m z : Nat}, z ∈ dn m → z ≤ m
  | 0, z, h => by simp [dn] at h; omega
  | m + 1, z, h => by
    rw [dn, List.mem_cons] at h
    rcases h with h | h
    · omega
    · have := dn_le h
      omega
theorem sp_rng {mm : Nat → Nat} : ∀ (r i c room kn : Nat), i + r ≤ 6 → kn ≤ 20 → ∀ x, x ∈ sp mm r i (c * 32 ^ (6 - i)) room kn → c * 32 ^ (6 - i) ≤ x ∧ x < c * 32 ^ (6 - i) + 32 ^ (6 - i) := by
  intro r
  induction r with
  | zero =>
    intro i c room kn hi hk x hx
    rw [sp, List.mem_singleton] at hx
    subst hx
    exact ⟨Nat.le_refl _, Nat.lt_add_of_pos_right (Nat.pow_pos (by decide))⟩
  | succ r ih =>
    intro i c room kn hi hk x hx
    rw [sp, List.mem_flatMap] at hx
    obtain ⟨y, hy, hx⟩ := hx
    have hy2 : y ≤ kn := Nat.le_trans (dn_le hy) (Nat.min_le_left _ _)
    rw [add_dig (by omega)] at hx
    obtain ⟨h1, h2⟩ := ih (i + 1) (c * 32 + y) _ _ (by omega) (by omega) x hx
    have e : 32 ^ (6 - i) = 32 * 32 ^ (6 - (i + 1)) := by rw [show 6 - i = (6 - (i + 1)) + 1 by omega, Nat.pow_succ, Nat.mul_comm]
    rw [e]
    generalize 32 ^ (6 - (i + 1)) = B at *
    have e1 : (c * 32 + y) * B = c * (32 * B) + y * B := by rw [Nat.add_mul, Nat.mul_assoc]
    rw [e1] at h1 h2
    have e2 : y * B + B ≤ 32 * B := by
      have : (y + 1) * B ≤ 32 * B := Nat.mul_le_mul_right _ (by omega)
      rw [Nat.add_mul, Nat.one_mul] at this
      exact this
    omega
theorem sp_sorted {mm : Nat → Nat} : ∀ (r i c room kn : Nat), i + r ≤ 6 → kn ≤ 20 → (sp mm r i (c * 32 ^ (6 - i)) room kn).Pairwise (fun a b => b < a) := by
  intro r
  induction r with
  | zero =>
    intro i c room kn hi hk
    rw [sp]
    exact List.pairwise_singleton _ _
  | succ r ih =>
    intro i c room kn hi hk
    rw [sp]
    have hm : min kn (room / mm i) ≤ kn := Nat.min_le_left _ _
    generalize min kn (room / mm i) = m at hm
    induction m with
    | zero =>
      simp only [dn, List.flatMap_cons, List.flatMap_nil, List.append_nil]
      rw [add_dig (by omega)]
      exact ih (i + 1) (c * 32 + 0) _ _ (by omega) (by omega)
    | succ m ihm =>
      rw [dn, List.flatMap_cons, List.pairwise_append]
      refine ⟨?_, ihm (by omega), ?_⟩
      · rw [add_dig (by omega)]
        exact ih (i + 1) (c * 32 + (m + 1)) _ _ (by omega) (by omega)
      · intro x hx y hy
        rw [add_dig (by omega)] at hx
        rw [List.mem_flatMap] at hy
        obtain ⟨z, hz, hy⟩ := hy
        rw [add_dig (by omega)] at hy
        have hz2 := dn_le hz
        have h1 := (sp_rng r (i + 1) (c * 32 + (m + 1)) _ _ (by omega) (by omega) x hx).1
        have h2 := (sp_rng r (i + 1) (c * 32 + z) _ _ (by omega) (by omega) y hy).2
        generalize 32 ^ (6 - (i + 1)) = B at *
        have : (c * 32 + z) * B + B ≤ (c * 32 + (m + 1)) * B := by
          have := Nat.mul_le_mul_right B (show c * 32 + z + 1 ≤ c * 32 + (m + 1) by omega)
          rw [Nat.add_mul, Nat.one_mul] at this
          exact this
        omega
theorem ps_sorted {T : TS} (hM : GM T) {i j x y : Nat} (hx : (psT T)[i]? = some x) (hy : (psT T)[j]? = some y) (hij : i < j) : y < x := by
  have hP : (psT T).Pairwise (fun a b => b < a) := by
    unfold psT pl
    exact (sp_sorted (vd T) 0 0 _ _ (by have := hM.d.2.2; omega) hM.2.2.1.2.2.2.2.1).filter _
  obtain ⟨hi, ei⟩ := List.getElem?_eq_some_iff.mp hx
  obtain ⟨hj, ej⟩ := List.getElem?_eq_some_iff.mp hy
  have := (List.pairwise_iff_getElem.mp hP) i j hi hj hij
  rw [ei, ej] at this
  exact this
/-- where a code stands -/
theorem search_eq {n X : Nat} {T : TS} {K : Int32 → TS → Option (Int32 × TS)} (hn : 10000 ≤ n) (hM : GM T) (hN : NUM T) (hl : (psT T).length ≤ 3000) (hX : X < 2 ^ 31) : ∃ p, p ≤ (psT T).length ∧ (∀ k x, k < p → (psT T)[k]? = some x → X < x) ∧ (∀ k x, p ≤ k → (psT T)[k]? = some x → x ≤ X) ∧ fX5_numberOf_L10 n (nI X) K n 0 (nI (psT T).length) 0 T = K (nI p) T := by
  have g := hN.2.1 hl
  have H : ∀ w low high cnt f, high = low + w → high ≤ (psT T).length → cnt + w ≤ 3000 → w < f → (∀ k x, k < low → (psT T)[k]? = some x → X < x) → (∀ k x, high ≤ k → (psT T)[k]? = some x → x ≤ X) → ∃ p, p ≤ (psT T).length ∧ (∀ k x, k < p → (psT T)[k]? = some x → X < x) ∧ (∀ k x, p ≤ k → (psT T)[k]? = some x → x ≤ X) ∧ fX5_numberOf_L10 n (nI X) K f (nI low) (nI high) (nI cnt) T = K (nI p) T := by
    intro w
    induction w using Nat.strongRecOn with
    | _ w ih =>
      intro low high cnt f hw hh hc hf h1 h2
      obtain ⟨f, rfl⟩ : ∃ g, f = g + 1 := ⟨f - 1, by omega⟩
      rw [fX5_numberOf_L10]
      by_cases h0 : w = 0
      · have : high = low := by omega
        subst this
        refine ⟨high, hh, h1, h2, ?_⟩
        by_cases hc3 : (3000 : Int32) ≤ nI cnt
        · rw [if_pos hc3]
        · rw [if_neg hc3, if_pos (nI_le (Nat.le_refl _) (by omega))]
      · rw [if_neg (show ¬ (3000 : Int32) ≤ nI cnt from nI_ge (b := 3000) (by omega) (by decide)), if_neg (nI_ge (by omega) (by omega))]
        have em : (Int32.toUInt32 (nI low + nI high) >>> (Int32.toUInt32 1 &&& Int32.toUInt32 31)).toInt32 = nI ((low + high) / 2) := by
          rw [nI_add]
          exact pk_ushrN (by omega) 1 1 (by decide)
        rw [em]
        simp only [nm]
        generalize hm : (low + high) / 2 = mid
        have m1 : low ≤ mid := by omega
        have m2 : mid < high := by omega
        have hx := List.getElem?_eq_getElem (show mid < (psT T).length by omega)
        rw [ck_nI (by omega) (by decide), nI_clamp (by omega), g.2.2 mid _ hx]
        have okm := (ps_ok hM hx).1
        by_cases hle : (psT T)[mid] ≤ X
        · rw [if_pos (nI_le hle hX), nI_1]
          exact ih (mid - low) (by omega) low mid (cnt + 1) f (by omega) (by omega) (by omega) (by omega) h1 (fun k x hk hkx => by
            rcases Nat.lt_or_ge mid k with q | q
            · have := ps_sorted hM hx hkx q
              omega
            · have : k = mid := by omega
              subst this
              rw [hx] at hkx
              cases hkx
              exact hle)
        · rw [if_neg (nI_ge (by omega) (by omega)), show nI mid + 1 = nI (mid + 1) from nI_1 mid, nI_1]
          exact ih (high - (mid + 1)) (by omega) (mid + 1) high (cnt + 1) f (by omega) hh (by omega) (by omega) (fun k x hk hkx => by
            rcases Nat.lt_or_ge k mid with q | q
            · have := ps_sorted hM hkx hx q
              omega
            · have : k = mid := by omega
              subst this
              rw [hx] at hkx
              cases hkx
              omega) h2
  exact H (psT T).length 0 (psT T).length 0 n (by omega) (Nat.le_refl _) (by omega) (by omega) (fun k x hk => by omega) (fun k x hk hkx => by
    have := (List.getElem?_eq_some_iff.mp hkx).1
    omega)
theorem numberOf_eq {n X : Nat} {T : TS} (hn : 10000 ≤ n) (hM : GM T) (hN : NUM T) (hX : X < 2 ^ 31) : (∃ k, (psT T).length ≤ 3000 ∧ (psT T)[k]? = some X ∧ fX5_numberOf n (nI X) T = some (nI k, T)) ∨ ((3000 < (psT T).length ∨ X ∉ psT T) ∧ fX5_numberOf n (nI X) T = some (-1, T)) := by
  unfold fX5_numberOf
  rw [cnt_num hN]
  simp only [bd]
  by_cases hl : (psT T).length ≤ 3000
  · rw [if_pos hl]
    have g := hN.2.1 hl
    obtain ⟨p, p1, p2, p3, e⟩ := search_eq (n := n) (X := X) (K := fun e2_5 T_6 => bd (fX5_isNumber n e2_5 T_6) (fun r_8 T_7 => if r_8 = 0 then some (-1, T_7) else ck e2_5 3000 (if ¬ gA T_7 5 (Int32.toNatClampNeg e2_5) = nI X then some (-1, T_7) else some (e2_5, T_7)))) hn hM hN hl hX
    have e := e
    simp only [bd] at e
    rw [e]
    have isn : fX5_isNumber n (nI p) T = some (if p < (psT T).length then 1 else 0, T) := by
      unfold fX5_isNumber
      rw [if_neg (nI_pos (by omega)), cnt_num hN, if_pos hl]
      simp only [bd]
      by_cases hp : p < (psT T).length
      · rw [if_neg (nI_ge hp (by omega)), if_pos hp]
        rfl
      · rw [if_pos (nI_le (by omega) (by omega)), if_neg hp]
        rfl
    rw [isn]
    simp only
    by_cases hp : p < (psT T).length
    · have hx := List.getElem?_eq_getElem hp
      have okp := (ps_ok hM hx).1
      rw [if_pos hp, if_neg (show ¬ (1 : Int32) = 0 by decide), ck_nI (by omega) (by decide), nI_clamp (by omega), g.2.2 p _ hx]
      by_cases he : (psT T)[p] = X
      · rw [if_neg (fun q => q (by rw [he]))]
        exact Or.inl ⟨p, hl, by rw [hx, he], rfl⟩
      · rw [if_pos (fun q => he ((nI_eq (by omega) hX).mp q))]
        refine Or.inr ⟨Or.inr (fun hmem => ?_), rfl⟩
        obtain ⟨k, hk⟩ := List.getElem?_of_mem hmem
        rcases Nat.lt_or_ge k p with q | q
        · have := p2 k X q hk
          omega
        · have h1 := p3 p _ (Nat.le_refl p) hx
          rcases Nat.lt_or_ge p k with q2 | q2
          · have := ps_sorted hM hx hk q2
            omega
          · have : k = p := by omega
            subst this
            rw [hx] at hk
            cases hk
            exact he rfl
    · rw [if_neg hp, if_pos rfl]
      refine Or.inr ⟨Or.inr (fun hmem => ?_), rfl⟩
      obtain ⟨k, hk⟩ := List.getElem?_of_mem hmem
      have hk2 := (List.getElem?_eq_some_iff.mp hk).1
      have := p2 k X (by omega) hk
      omega
  · rw [if_neg hl]
    refine Or.inr ⟨Or.inl (by omega), ?_⟩
    obtain ⟨f, rfl⟩ : ∃ f, n = f + 1 := ⟨n - 1, by omega⟩
    rw [fX5_numberOf_L10, if_neg (show ¬ (3000 : Int32) ≤ 0 by decide), if_pos (show nI 0 ≤ 0 by decide)]
    have isn : fX5_isNumber (f + 1) 0 T = some (0, T) := by
      unfold fX5_isNumber
      rw [if_neg (by decide), cnt_num hN, if_neg hl]
      rfl
    rw [isn]
    rfl
