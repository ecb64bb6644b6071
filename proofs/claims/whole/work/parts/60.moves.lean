/-! ===== MOVES told ===== -/
theorem mf20_in {n m j o : Nat} {y2 : Int32} {T : TS} (hn : 100 ≤ n) (hm : gI T 1000 = nI m) (h21 : m ≤ 21) (hj : j < 21) (ho : o ≤ m) : ∃ o', o ≤ o' ∧ o' ≤ m ∧ (∀ i, o ≤ i → i < o' → gA T 21 i < gA T 25 j) ∧ (o' = m ∨ gA T 25 j ≤ gA T 21 o') ∧ (fun kk => fX1_movesFrom_24_20_L16 n y2 (nI j) kk n (nI o) T) = fun kk => kk (nI o') T := by
  have H : ∀ r o, o + r = m → ∀ f, r < f → ∃ o', o ≤ o' ∧ o' ≤ m ∧ (∀ i, o ≤ i → i < o' → gA T 21 i < gA T 25 j) ∧ (o' = m ∨ gA T 25 j ≤ gA T 21 o') ∧ (fun kk => fX1_movesFrom_24_20_L16 n y2 (nI j) kk f (nI o) T) = fun kk => kk (nI o') T := by
    intro r
    induction r with
    | zero =>
      intro o ho f hf
      obtain ⟨g, rfl⟩ : ∃ g, f = g + 1 := ⟨f - 1, by omega⟩
      refine ⟨o, Nat.le_refl _, by omega, fun i a b => by omega, Or.inl (by omega), funext fun kk => ?_⟩
      rw [fX1_movesFrom_24_20_L16, hm, if_pos (nI_le (by omega) (by omega))]
    | succ r ih =>
      intro o ho f hf
      obtain ⟨g, rfl⟩ : ∃ g, f = g + 1 := ⟨f - 1, by omega⟩
      by_cases q : gA T 25 j ≤ gA T 21 o
      · refine ⟨o, Nat.le_refl _, by omega, fun i a b => by omega, Or.inr q, funext fun kk => ?_⟩
        rw [fX1_movesFrom_24_20_L16, hm, if_neg (nI_ge (by omega) (by omega)), ck_nI (by omega) (by decide), ck_nI hj (by decide), nI_clamp (show j < 2 ^ 31 by omega), nI_clamp (show o < 2 ^ 31 by omega), if_pos q]
      · obtain ⟨o', a1, a2, a3, a4, a5⟩ := ih (o + 1) (by omega) g (by omega)
        refine ⟨o', by omega, a2, fun i b1 b2 => ?_, a4, funext fun kk => ?_⟩
        · rcases Nat.eq_or_lt_of_le b1 with b | b
          · rw [← b]
            exact i_nle.mp q
          · exact a3 i b b2
        · rw [fX1_movesFrom_24_20_L16, hm, if_neg (nI_ge (by omega) (by omega)), ck_nI (by omega) (by decide), ck_nI hj (by decide), nI_clamp (show j < 2 ^ 31 by omega), nI_clamp (show o < 2 ^ 31 by omega), if_neg q, nI_1]
          exact congrFun a5 kk
  exact H (m - o) o (by omega) n (by omega)
theorem mf20 {n m p : Nat} {T : TS} (hn : 100 ≤ n) (hm : gI T 1000 = nI m) (h21 : m ≤ 21) (hp : gI T 1200 = nI p) (hp21 : p ≤ 21) (ra : RI (gA T 21) m) (rb : RI (gA T 25) p) : fX1_movesFrom_24_20 n T = some (nI (mvn (gA T 21) m (gA T 25) p), T) := by
  unfold fX1_movesFrom_24_20
  refine lpi (fun f (s : Int32 × Int32 × Int32 × TS) => fX1_movesFrom_24_20_L7 n (fun e2_3 T_4 => some (e2_3, T_4)) f s.1 s.2.1 s.2.2.1 s.2.2.2) (fun j s => s.1 = nI (mvn (gA T 21) m (gA T 25) j) ∧ (∃ o, o ≤ m ∧ s.2.1 = nI o ∧ ∀ i k, i < o → j ≤ k → k < p → gA T 21 i < gA T 25 k) ∧ s.2.2.1 = nI j ∧ s.2.2.2 = T) p (fun r => r = some (nI (mvn (gA T 21) m (gA T 25) p), T)) ?_ ?_ n (0, 0, 0, T) (by omega) ⟨rfl, ⟨0, Nat.zero_le m, rfl, fun i k a => by omega⟩, rfl, rfl⟩
  · rintro j ⟨a, b, d, U⟩ hj ⟨h1, ⟨o, ho, h2, hlt⟩, h3, h4⟩
    simp only at h1 h2 h3 h4
    subst h1 h2 h3 h4
    obtain ⟨o', a1, a2, a3, a4, a5⟩ := mf20_in (n := n) (y2 := nI (mvn (gA U 21) m (gA U 25) j)) hn hm h21 (show j < 21 by omega) ho
    have lt' : ∀ i k, i < o' → j ≤ k → k < p → gA U 21 i < gA U 25 k := by
      intro i k b1 b2 b3
      have c1 : gA U 21 i < gA U 25 j := by
        rcases Nat.lt_or_ge i o with q | q
        · exact hlt i j q (Nat.le_refl j) hj
        · exact a3 i q b1
      rcases Nat.eq_or_lt_of_le b2 with b | b
      · rw [← b]
        exact c1
      · have c2 := rb j k b b3
        rw [i_lt_int] at c1 c2 ⊢
        omega
    have fnd : isin (gA U 21) (gA U 25 j) m = true ↔ o' < m ∧ gA U 21 o' = gA U 25 j := by
      rw [isin_iff]
      constructor
      · rintro ⟨i, b1, b2⟩
        have c1 : ¬ i < o' := fun q => by
          have := lt' i j q (Nat.le_refl j) hj
          rw [b2, i_lt_int] at this
          omega
        have c2 : o' < m := by omega
        rcases a4 with q | q
        · omega
        · rcases Nat.eq_or_lt_of_le (show o' ≤ i by omega) with b | b
          · exact ⟨c2, by rw [b]; exact b2⟩
          · have c3 := ra o' i b b1
            rw [b2, i_lt_int] at c3
            rw [i_le_int] at q
            omega
      · rintro ⟨b1, b2⟩
        exact ⟨o', b1, b2⟩
    have sc : mvn (gA U 21) m (gA U 25) (j + 1) = mvn (gA U 21) m (gA U 25) j + (if isin (gA U 21) (gA U 25 j) m then 0 else 1) := rfl
    refine ⟨(nI (mvn (gA U 21) m (gA U 25) (j + 1)), nI o', nI (j + 1), U), ⟨rfl, ⟨o', a2, rfl, fun i k b1 b2 b3 => lt' i k b1 (by omega) b3⟩, rfl, rfl⟩, fun f => ?_⟩
    show fX1_movesFrom_24_20_L7 n _ (f + 1) (nI (mvn (gA U 21) m (gA U 25) j)) (nI o) (nI j) U = _
    rw [fX1_movesFrom_24_20_L7, hp, if_neg (nI_ge hj (by omega)), congrFun a5]
    simp only
    rw [hm, sc]
    by_cases q1 : o' < m
    · rw [if_neg (nI_ge q1 (by omega)), ck_nI (by omega) (by decide), ck_nI (by omega) (by decide), nI_clamp (show o' < 2 ^ 31 by omega), nI_clamp (show j < 2 ^ 31 by omega)]
      by_cases q2 : gA U 21 o' = gA U 25 j
      · rw [if_pos q2, if_pos (fnd.mpr ⟨q1, q2⟩), nI_1]; rfl
      · rw [if_neg q2, if_neg (fun q => q2 (fnd.mp q).2), nI_1, nI_1]
    · rw [if_pos (nI_le (by omega) (by omega)), if_neg (fun q => q1 (fnd.mp q).1), nI_1, nI_1]
  · rintro ⟨a, b, d, U⟩ ⟨h1, ⟨o, ho, h2, hlt⟩, h3, h4⟩ f
    simp only at h1 h2 h3 h4
    subst h1 h2 h3 h4
    show fX1_movesFrom_24_20_L7 n _ (f + 1) _ _ (nI p) U = _
    rw [fX1_movesFrom_24_20_L7, hp, if_pos (nI_le (Nat.le_refl _) (by omega))]

theorem mf22_in {n m j o : Nat} {y2 : Int32} {T : TS} (hn : 100 ≤ n) (hm : gI T 1100 = nI m) (h21 : m ≤ 21) (hj : j < 21) (ho : o ≤ m) : ∃ o', o ≤ o' ∧ o' ≤ m ∧ (∀ i, o ≤ i → i < o' → gA T 23 i < gA T 25 j) ∧ (o' = m ∨ gA T 25 j ≤ gA T 23 o') ∧ (fun kk => fX1_movesFrom_24_22_L16 n y2 (nI j) kk n (nI o) T) = fun kk => kk (nI o') T := by
  have H : ∀ r o, o + r = m → ∀ f, r < f → ∃ o', o ≤ o' ∧ o' ≤ m ∧ (∀ i, o ≤ i → i < o' → gA T 23 i < gA T 25 j) ∧ (o' = m ∨ gA T 25 j ≤ gA T 23 o') ∧ (fun kk => fX1_movesFrom_24_22_L16 n y2 (nI j) kk f (nI o) T) = fun kk => kk (nI o') T := by
    intro r
    induction r with
    | zero =>
      intro o ho f hf
      obtain ⟨g, rfl⟩ : ∃ g, f = g + 1 := ⟨f - 1, by omega⟩
      refine ⟨o, Nat.le_refl _, by omega, fun i a b => by omega, Or.inl (by omega), funext fun kk => ?_⟩
      rw [fX1_movesFrom_24_22_L16, hm, if_pos (nI_le (by omega) (by omega))]
    | succ r ih =>
      intro o ho f hf
      obtain ⟨g, rfl⟩ : ∃ g, f = g + 1 := ⟨f - 1, by omega⟩
      by_cases q : gA T 25 j ≤ gA T 23 o
      · refine ⟨o, Nat.le_refl _, by omega, fun i a b => by omega, Or.inr q, funext fun kk => ?_⟩
        rw [fX1_movesFrom_24_22_L16, hm, if_neg (nI_ge (by omega) (by omega)), ck_nI (by omega) (by decide), ck_nI hj (by decide), nI_clamp (show j < 2 ^ 31 by omega), nI_clamp (show o < 2 ^ 31 by omega), if_pos q]
      · obtain ⟨o', a1, a2, a3, a4, a5⟩ := ih (o + 1) (by omega) g (by omega)
        refine ⟨o', by omega, a2, fun i b1 b2 => ?_, a4, funext fun kk => ?_⟩
        · rcases Nat.eq_or_lt_of_le b1 with b | b
          · rw [← b]
            exact i_nle.mp q
          · exact a3 i b b2
        · rw [fX1_movesFrom_24_22_L16, hm, if_neg (nI_ge (by omega) (by omega)), ck_nI (by omega) (by decide), ck_nI hj (by decide), nI_clamp (show j < 2 ^ 31 by omega), nI_clamp (show o < 2 ^ 31 by omega), if_neg q, nI_1]
          exact congrFun a5 kk
  exact H (m - o) o (by omega) n (by omega)
theorem mf22 {n m p : Nat} {T : TS} (hn : 100 ≤ n) (hm : gI T 1100 = nI m) (h21 : m ≤ 21) (hp : gI T 1200 = nI p) (hp21 : p ≤ 21) (ra : RI (gA T 23) m) (rb : RI (gA T 25) p) : fX1_movesFrom_24_22 n T = some (nI (mvn (gA T 23) m (gA T 25) p), T) := by
  unfold fX1_movesFrom_24_22
  refine lpi (fun f (s : Int32 × Int32 × Int32 × TS) => fX1_movesFrom_24_22_L7 n (fun e2_3 T_4 => some (e2_3, T_4)) f s.1 s.2.1 s.2.2.1 s.2.2.2) (fun j s => s.1 = nI (mvn (gA T 23) m (gA T 25) j) ∧ (∃ o, o ≤ m ∧ s.2.1 = nI o ∧ ∀ i k, i < o → j ≤ k → k < p → gA T 23 i < gA T 25 k) ∧ s.2.2.1 = nI j ∧ s.2.2.2 = T) p (fun r => r = some (nI (mvn (gA T 23) m (gA T 25) p), T)) ?_ ?_ n (0, 0, 0, T) (by omega) ⟨rfl, ⟨0, Nat.zero_le m, rfl, fun i k a => by omega⟩, rfl, rfl⟩
  · rintro j ⟨a, b, d, U⟩ hj ⟨h1, ⟨o, ho, h2, hlt⟩, h3, h4⟩
    simp only at h1 h2 h3 h4
    subst h1 h2 h3 h4
    obtain ⟨o', a1, a2, a3, a4, a5⟩ := mf22_in (n := n) (y2 := nI (mvn (gA U 23) m (gA U 25) j)) hn hm h21 (show j < 21 by omega) ho
    have lt' : ∀ i k, i < o' → j ≤ k → k < p → gA U 23 i < gA U 25 k := by
      intro i k b1 b2 b3
      have c1 : gA U 23 i < gA U 25 j := by
        rcases Nat.lt_or_ge i o with q | q
        · exact hlt i j q (Nat.le_refl j) hj
        · exact a3 i q b1
      rcases Nat.eq_or_lt_of_le b2 with b | b
      · rw [← b]
        exact c1
      · have c2 := rb j k b b3
        rw [i_lt_int] at c1 c2 ⊢
        omega
    have fnd : isin (gA U 23) (gA U 25 j) m = true ↔ o' < m ∧ gA U 23 o' = gA U 25 j := by
      rw [isin_iff]
      constructor
      · rintro ⟨i, b1, b2⟩
        have c1 : ¬ i < o' := fun q => by
          have := lt' i j q (Nat.le_refl j) hj
          rw [b2, i_lt_int] at this
          omega
        have c2 : o' < m := by omega
        rcases a4 with q | q
        · omega
        · rcases Nat.eq_or_lt_of_le (show o' ≤ i by omega) with b | b
          · exact ⟨c2, by rw [b]; exact b2⟩
          · have c3 := ra o' i b b1
            rw [b2, i_lt_int] at c3
            rw [i_le_int] at q
            omega
      · rintro ⟨b1, b2⟩
        exact ⟨o', b1, b2⟩
    have sc : mvn (gA U 23) m (gA U 25) (j + 1) = mvn (gA U 23) m (gA U 25) j + (if isin (gA U 23) (gA U 25 j) m then 0 else 1) := rfl
    refine ⟨(nI (mvn (gA U 23) m (gA U 25) (j + 1)), nI o', nI (j + 1), U), ⟨rfl, ⟨o', a2, rfl, fun i k b1 b2 b3 => lt' i k b1 (by omega) b3⟩, rfl, rfl⟩, fun f => ?_⟩
    show fX1_movesFrom_24_22_L7 n _ (f + 1) (nI (mvn (gA U 23) m (gA U 25) j)) (nI o) (nI j) U = _
    rw [fX1_movesFrom_24_22_L7, hp, if_neg (nI_ge hj (by omega)), congrFun a5]
    simp only
    rw [hm, sc]
    by_cases q1 : o' < m
    · rw [if_neg (nI_ge q1 (by omega)), ck_nI (by omega) (by decide), ck_nI (by omega) (by decide), nI_clamp (show o' < 2 ^ 31 by omega), nI_clamp (show j < 2 ^ 31 by omega)]
      by_cases q2 : gA U 23 o' = gA U 25 j
      · rw [if_pos q2, if_pos (fnd.mpr ⟨q1, q2⟩), nI_1]; rfl
      · rw [if_neg q2, if_neg (fun q => q2 (fnd.mp q).2), nI_1, nI_1]
    · rw [if_pos (nI_le (by omega) (by omega)), if_neg (fun q => q1 (fnd.mp q).1), nI_1, nI_1]
  · rintro ⟨a, b, d, U⟩ ⟨h1, ⟨o, ho, h2, hlt⟩, h3, h4⟩ f
    simp only at h1 h2 h3 h4
    subst h1 h2 h3 h4
    show fX1_movesFrom_24_22_L7 n _ (f + 1) _ _ (nI p) U = _
    rw [fX1_movesFrom_24_22_L7, hp, if_pos (nI_le (Nat.le_refl _) (by omega))]

theorem un58_in {n m j : Nat} {y3 y4 : Int32} {T : TS} {kk : Int32 → TS → Option (Int32 × TS)} (hn : 100 ≤ n) (h21 : m ≤ 21) (hj : j < 21) : fX11_unlike_58_60_L18 n (nI m) y3 y4 (nI j) kk n 0 0 T = kk (b01 (isin (gA T 58) (gA T 60 j) m)) T := by
  refine lpn (fun f (s : Int32 × Int32 × TS) => fX11_unlike_58_60_L18 n (nI m) y3 y4 (nI j) kk f s.1 s.2.1 s.2.2) (fun i => (b01 (isin (gA T 58) (gA T 60 j) i), nI i, T)) m _ ?_ ?_ n (by omega)
  · intro i hi f
    show fX11_unlike_58_60_L18 n (nI m) y3 y4 (nI j) kk (f + 1) (b01 (isin (gA T 58) (gA T 60 j) i)) (nI i) T = fX11_unlike_58_60_L18 n (nI m) y3 y4 (nI j) kk f (b01 (isin (gA T 58) (gA T 60 j) (i + 1))) (nI (i + 1)) T
    rw [fX11_unlike_58_60_L18, if_neg (nI_ge hi (by omega)), nI_1, isin]
    cases hb : isin (gA T 58) (gA T 60 j) i with
    | true => rw [if_pos (show ¬ b01 true = 0 by decide)]; rfl
    | false =>
      rw [if_neg (show ¬ ¬ b01 false = 0 by decide), ck_nI (by omega) (by decide), ck_nI hj (by decide), nI_clamp (show i < 2 ^ 31 by omega), nI_clamp (show j < 2 ^ 31 by omega)]
      by_cases q : gA T 58 i = gA T 60 j
      · rw [if_neg (fun z => z q), decide_eq_true q]; rfl
      · rw [if_pos q, decide_eq_false q]; rfl
  · intro f
    show fX11_unlike_58_60_L18 n (nI m) y3 y4 (nI j) kk (f + 1) _ (nI m) T = _
    rw [fX11_unlike_58_60_L18, if_pos (nI_le (Nat.le_refl _) (by omega))]
theorem un58 {n m p : Nat} {T : TS} (hn : 100 ≤ n) (h21 : m ≤ 21) (hp21 : p ≤ 21) : fX11_unlike_58_60 n (nI m) (nI p) T = some (nI (mvn (gA T 58) m (gA T 60) p), T) := by
  unfold fX11_unlike_58_60
  refine lpn (fun f (s : Int32 × Int32 × TS) => fX11_unlike_58_60_L6 n (nI m) (nI p) (fun e4_5 T_6 => some (e4_5, T_6)) f s.1 s.2.1 s.2.2) (fun j => (nI (mvn (gA T 58) m (gA T 60) j), nI j, T)) p _ ?_ ?_ n (by omega)
  · intro j hj f
    show fX11_unlike_58_60_L6 n (nI m) (nI p) _ (f + 1) (nI (mvn (gA T 58) m (gA T 60) j)) (nI j) T = fX11_unlike_58_60_L6 n (nI m) (nI p) _ f (nI (mvn (gA T 58) m (gA T 60) j + (if isin (gA T 58) (gA T 60 j) m then 0 else 1))) (nI (j + 1)) T
    rw [fX11_unlike_58_60_L6, if_neg (nI_ge hj (by omega)), un58_in hn h21 (by omega)]
    simp only [nm]
    cases hb : isin (gA T 58) (gA T 60 j) m with
    | true =>
      rw [if_neg (show ¬ b01 true = 0 by decide), Int32.add_zero, nI_1]
      rfl
    | false =>
      rw [if_pos (show b01 false = 0 by decide), nI_1, nI_1]
      rfl
  · intro f
    show fX11_unlike_58_60_L6 n (nI m) (nI p) _ (f + 1) _ (nI p) T = _
    rw [fX11_unlike_58_60_L6, if_pos (nI_le (Nat.le_refl _) (by omega))]

theorem un59_in {n m j : Nat} {y3 y4 : Int32} {T : TS} {kk : Int32 → TS → Option (Int32 × TS)} (hn : 100 ≤ n) (h21 : m ≤ 21) (hj : j < 21) : fX11_unlike_59_60_L18 n (nI m) y3 y4 (nI j) kk n 0 0 T = kk (b01 (isin (gA T 59) (gA T 60 j) m)) T := by
  refine lpn (fun f (s : Int32 × Int32 × TS) => fX11_unlike_59_60_L18 n (nI m) y3 y4 (nI j) kk f s.1 s.2.1 s.2.2) (fun i => (b01 (isin (gA T 59) (gA T 60 j) i), nI i, T)) m _ ?_ ?_ n (by omega)
  · intro i hi f
    show fX11_unlike_59_60_L18 n (nI m) y3 y4 (nI j) kk (f + 1) (b01 (isin (gA T 59) (gA T 60 j) i)) (nI i) T = fX11_unlike_59_60_L18 n (nI m) y3 y4 (nI j) kk f (b01 (isin (gA T 59) (gA T 60 j) (i + 1))) (nI (i + 1)) T
    rw [fX11_unlike_59_60_L18, if_neg (nI_ge hi (by omega)), nI_1, isin]
    cases hb : isin (gA T 59) (gA T 60 j) i with
    | true => rw [if_pos (show ¬ b01 true = 0 by decide)]; rfl
    | false =>
      rw [if_neg (show ¬ ¬ b01 false = 0 by decide), ck_nI (by omega) (by decide), ck_nI hj (by decide), nI_clamp (show i < 2 ^ 31 by omega), nI_clamp (show j < 2 ^ 31 by omega)]
      by_cases q : gA T 59 i = gA T 60 j
      · rw [if_neg (fun z => z q), decide_eq_true q]; rfl
      · rw [if_pos q, decide_eq_false q]; rfl
  · intro f
    show fX11_unlike_59_60_L18 n (nI m) y3 y4 (nI j) kk (f + 1) _ (nI m) T = _
    rw [fX11_unlike_59_60_L18, if_pos (nI_le (Nat.le_refl _) (by omega))]
theorem un59 {n m p : Nat} {T : TS} (hn : 100 ≤ n) (h21 : m ≤ 21) (hp21 : p ≤ 21) : fX11_unlike_59_60 n (nI m) (nI p) T = some (nI (mvn (gA T 59) m (gA T 60) p), T) := by
  unfold fX11_unlike_59_60
  refine lpn (fun f (s : Int32 × Int32 × TS) => fX11_unlike_59_60_L6 n (nI m) (nI p) (fun e4_5 T_6 => some (e4_5, T_6)) f s.1 s.2.1 s.2.2) (fun j => (nI (mvn (gA T 59) m (gA T 60) j), nI j, T)) p _ ?_ ?_ n (by omega)
  · intro j hj f
    show fX11_unlike_59_60_L6 n (nI m) (nI p) _ (f + 1) (nI (mvn (gA T 59) m (gA T 60) j)) (nI j) T = fX11_unlike_59_60_L6 n (nI m) (nI p) _ f (nI (mvn (gA T 59) m (gA T 60) j + (if isin (gA T 59) (gA T 60 j) m then 0 else 1))) (nI (j + 1)) T
    rw [fX11_unlike_59_60_L6, if_neg (nI_ge hj (by omega)), un59_in hn h21 (by omega)]
    simp only [nm]
    cases hb : isin (gA T 59) (gA T 60 j) m with
    | true =>
      rw [if_neg (show ¬ b01 true = 0 by decide), Int32.add_zero, nI_1]
      rfl
    | false =>
      rw [if_pos (show b01 false = 0 by decide), nI_1, nI_1]
      rfl
  · intro f
    show fX11_unlike_59_60_L6 n (nI m) (nI p) _ (f + 1) _ (nI p) T = _
    rw [fX11_unlike_59_60_L6, if_pos (nI_le (Nat.le_refl _) (by omega))]
