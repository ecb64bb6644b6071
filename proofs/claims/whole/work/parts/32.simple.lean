/-! ===== calls that ask and set ===== -/
theorem nI_le_lt {a b : Nat} (ha : a < 2 ^ 31) (hb : b < 2 ^ 31) : ¬ nI a < nI b ↔ b ≤ a := by rw [i_nlt, nI_leI hb ha]
/-- an int between two numbers -/
theorem rg_nI {x : Int32} {a b : Nat} (ha : a < 2 ^ 31) (hb : b < 2 ^ 31) (h1 : nI a ≤ x) (h2 : x ≤ nI b) : ∃ j, a ≤ j ∧ j ≤ b ∧ x = nI j := by
  rcases rg_cases x a b ha hb with h | h | h
  · exact absurd h1 (i_nle.mpr h)
  · exact absurd h2 (i_nle.mpr h)
  · exact h
theorem eq_strip {n c : Nat} {T : TS} (h : Inv c T) (a b : Int32) : Both c (fX10_strip n a b) (fX11_strip n a b) T := by
  unfold Both fX10_strip fX11_strip
  simp only [nm]
  have e : gI T 2051 = gI T 50 := h.1.2.1.1
  by_cases h1 : a < 0
  · exact ⟨0, T, uI T 2050 0, by rw [if_pos h1]; rfl, by rw [if_pos h1]; rfl, h.th⟩
  by_cases h2 : b < a
  · exact ⟨0, T, uI T 2050 0, by rw [if_neg h1, if_pos h2]; rfl, by rw [if_neg h1, if_pos h2]; rfl, h.th⟩
  by_cases h3 : b ≤ gI T 50
  · refine ⟨1, uI (uI T 53 a) 54 b, uI (uI (uI (uI (uI T 53 a) 54 b) 2050 0) 2054 a) 2055 b, by rw [if_neg h1, if_neg h2, if_pos h3]; rfl, ?_, ?_⟩
    · rw [if_neg h1, if_neg h2, if_pos (show b ≤ gI (uI (uI (uI T 53 a) 54 b) 2050 0) 2051 from (show b ≤ gI T 2051 by rw [e]; exact h3))]
      rfl
    · obtain ⟨m1, m2, m3, m4, m5, m6, m7, m8, m9, m10⟩ := h
      have f : FR [53, 54, 2050, 2054, 2055] [] 0 0 T (uI (uI (uI (uI (uI T 53 a) 54 b) 2050 0) 2054 a) 2055 b) := ((((FR.uI (by decide)).trans (FR.uI (by decide))).trans (FR.uI (by decide))).trans (FR.uI (by decide))).trans (FR.uI (by decide))
      refine ⟨?_, m2.fr f (by decide) (by decide) (by decide), m3.fr f (by decide) (by decide) (by decide), m4.fr f, m5.fr (Nat.le_succ c) f (by decide) (by decide), m6.fr f (by decide) (by decide), m7.fr f (by decide) (by decide), m8.fr f, m9.fr f (by decide) (by decide), m10.fr f (by decide) (by decide) (by decide)⟩
      obtain ⟨⟨p1, p2, p3, p4, p5, p6⟩, ⟨q1, q2, q3, q4, q5, q6⟩, ⟨b1, b2, b3, b4, b5, b6, b7, b8⟩, r1, r2, r3⟩ := m1
      obtain ⟨ja, hja, rfl⟩ := nI_of h1
      have hb0 : ¬ b < 0 := fun q => h2 (by rw [i_lt_int] at q ⊢; rw [nI_toInt hja]; have : ((0 : Int32)).toInt = 0 := rfl; omega)
      obtain ⟨jb, hjb, rfl⟩ := nI_of hb0
      rw [nI_le_lt hjb hja] at h2
      rw [p1, nI_leI hjb (by omega)] at h3
      refine ⟨⟨p1, p2, p3, ?_, ?_, p6⟩, ⟨q1, q2, q3, rfl, rfl, q6⟩, ⟨b1, b2, b3, b4, b5, ?_, ?_, b8⟩, r1, r2, r3⟩
      · show nI ja = nI (nI ja).toNatClampNeg
        rw [nI_clamp hja]
      · show nI jb = nI (nI jb).toNatClampNeg
        rw [nI_clamp hjb]
      · show (nI ja).toNatClampNeg ≤ (nI jb).toNatClampNeg
        rw [nI_clamp hja, nI_clamp hjb]
        exact h2
      · show (nI jb).toNatClampNeg ≤ vw T
        rw [nI_clamp hjb]
        exact h3
  · exact ⟨0, T, uI T 2050 0, by rw [if_neg h1, if_neg h2, if_neg h3]; rfl, by rw [if_neg h1, if_neg h2, if_neg (show ¬ b ≤ gI (uI T 2050 0) 2051 from (show ¬ b ≤ gI T 2051 by rw [e]; exact h3))]; rfl, h.th⟩
