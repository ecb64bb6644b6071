/-! ===== PATTERNS: the class's numbers ===== -/
theorem imin_nI {a b : Nat} (ha : a < 2 ^ 31) (hb : b < 2 ^ 31) : imin (nI a) (nI b) = nI (min a b) := by
  unfold imin
  by_cases h : b < a
  · rw [if_pos ((nI_ltI hb ha).mpr h), Nat.min_eq_right (by omega)]
  · rw [if_neg (fun q => h ((nI_ltI hb ha).mp q)), Nat.min_eq_left (by omega)]
theorem imax_nI {a b : Nat} (ha : a < 2 ^ 31) (hb : b < 2 ^ 31) : imax (nI a) (nI b) = nI (max a b) := by
  unfold imax
  by_cases h : a < b
  · rw [if_pos ((nI_ltI ha hb).mpr h), Nat.max_eq_right (by omega)]
  · rw [if_neg (fun q => h ((nI_ltI ha hb).mp q)), Nat.max_eq_left (by omega)]
theorem quot_nI {n a b : Nat} {T : TS} (ha : a < 2 ^ 31) (h0 : 0 < b) (hb : b < 2 ^ 31) : fX10_quotient n (nI a) (nI b) T = some (nI (a / b), T) := by
  unfold fX10_quotient nz
  rw [if_pos (show (1 : Int32) ≤ nI b from nI_le (a := 1) h0 hb), if_neg (nI_ne0 h0 hb), pk_div ha h0 hb]
/-- what is in the class's numbers: T0 the state ahead of it, L the PATTERNS so far -/
def ND (T0 T : TS) (L : List Nat) : Prop :=
  (L.length ≤ 3000 ∧ FR [202, 203] [5] 0 0 T0 T ∧ gI T 203 = 0 ∧ gI T 202 = nI L.length ∧ ∀ k c, L[k]? = some c → gA T 5 k = nI c) ∨ (3000 < L.length ∧ FR [202, 203] [5] 0 0 T0 T ∧ gI T 203 = 1)
theorem ND.fr {T0 T : TS} {L : List Nat} (h : ND T0 T L) : FR [202, 203] [5] 0 0 T0 T := h.elim (fun h => h.2.1) (fun h => h.2.1)
theorem ND.more {T0 T : TS} {L M : List Nat} (h : ND T0 T L) (h1 : ¬ gI T 203 = 0) : ND T0 T (L ++ M) := by
  rcases h with h | h
  · exact absurd h.2.2.1 h1
  · exact Or.inr ⟨by rw [List.length_append]; omega, h.2.1, h.2.2⟩
def nzl1 (c : Nat) : List Nat := if c = 0 then [] else [c]
theorem add5_eq {n c : Nat} {T0 T : TS} {L : List Nat} (h : ND T0 T L) (h0 : gI T 203 = 0) (hc : c < 2 ^ 31) : ∃ T', fX5_add n (nI c) T = some T' ∧ ND T0 T' (L ++ nzl1 c) := by
  obtain ⟨hl, hf, h1, h2, h3⟩ : L.length ≤ 3000 ∧ FR [202, 203] [5] 0 0 T0 T ∧ gI T 203 = 0 ∧ gI T 202 = nI L.length ∧ ∀ k c, L[k]? = some c → gA T 5 k = nI c := by
    rcases h with h | ⟨-, -, h1⟩
    · exact h
    · exact absurd (h1.symm.trans h0) (by decide)
  unfold fX5_add nzl1
  by_cases hz : c = 0
  · subst hz
    rw [if_neg (fun q => q rfl), if_pos rfl, List.append_nil]
    exact ⟨T, rfl, Or.inl ⟨hl, hf, h1, h2, h3⟩⟩
  · rw [if_pos (nI_ne0 (by omega) hc), if_neg hz, h2]
    by_cases hl2 : L.length = 3000
    · rw [if_neg (show ¬ nI L.length < 3000 by rw [hl2]; decide)]
      refine ⟨uI T 203 1, rfl, Or.inr ⟨by rw [List.length_append]; simp; omega, hf.trans (FR.uI (by decide)), rfl⟩⟩
    · have hl3 : L.length < 3000 := by omega
      rw [if_pos (show nI L.length < 3000 from nI_lt (b := 3000) hl3 (by decide)), ck_nI hl3 (by decide)]
      refine ⟨uI (sA T 5 (nI L.length) (nI c)) 202 (nI L.length + 1), by simp only [nm]; rw [show gI (sA T 5 (nI L.length) (nI c)) 202 = nI L.length from h2], Or.inl ⟨by rw [List.length_append]; simp; omega, (hf.trans (FR.sA (Or.inl (by decide)))).trans (FR.uI (by decide)), h1, ?_, ?_⟩⟩
      · rw [List.length_append, zI_uI, if_pos rfl, nI_1]
        rfl
      · intro k x hk
        rw [zA_uI, gA_sA_at (by omega)]
        by_cases hkl : k = L.length
        · rw [if_pos hkl]
          subst hkl
          rw [List.getElem?_append_right (Nat.le_refl _), Nat.sub_self] at hk
          cases hk
          rfl
        · rw [if_neg hkl]
          have hkl2 : k < L.length := by
            have := (List.getElem?_eq_some_iff.mp hk).1
            rw [List.length_append] at this
            simp at this
            omega
          rw [List.getElem?_append_left hkl2] at hk
          exact h3 k x hk
