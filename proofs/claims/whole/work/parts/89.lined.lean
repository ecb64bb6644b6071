/-! ===== line: the class's solve and walk ===== -/
theorem nI_dec {s : Nat} (h : 1 ≤ s) : nI s + (-1) = nI (s - 1) := by
  rw [← nI_prd h, Int32.sub_eq_add_neg]
/-- the sets above b are solved -/
def LDN (T U : TS) (b : Nat) : Prop := ∀ set s, b < set → set < 2 ^ vns T → s < vns T → set.testBit s = true → gA U 28 (set * 9 + (s + 1)) = nI (lvT T set (s + 1))
theorem LDN.h28 {T U : TS} {b set : Nat} (h : LDN T U b) (h8 : vns T ≤ 8) (hb : b ≤ set) (hset : set < 2 ^ vns T) (s : Nat) (hs : s < vns T) (hbit : set.testBit s = false) : gA U 28 ((set ||| 2 ^ s) * 9 + (s + 1)) = nI (lvT T (set ||| 2 ^ s) (s + 1)) := by
  obtain ⟨o1, o2⟩ := or_in h8 hset hs hbit
  have hp : 0 < 2 ^ s := Nat.pow_pos (by decide)
  refine h _ s (by omega) o2 hs ?_
  rw [Nat.testBit_or, Nat.testBit_two_pow, decide_eq_true rfl, Bool.or_true]
theorem sol47 {n set : Nat} {T U : TS} (hn : 10000 ≤ n) (hM : GM T) (hS : GS T) (h8 : vns T ≤ 8) (h : ST T U) (hL : LDN T U set) (h1 : set + 1 < 2 ^ vns T) : ∃ V, FR [] [28] 0 0 U V ∧ (∀ s, s < vns T → set.testBit s = true → gA V 28 (set * 9 + (s + 1)) = nI (lvT T set (s + 1))) ∧ (∀ k, (k < set * 9 ∨ (set + 1) * 9 ≤ k) → gA V 28 k = gA U 28 k) ∧ (fun kk => fX3_solve_L47 n (nI set) kk n 0 U) = fun kk => kk V := by
  have hp := pw8 h8
  refine lpi (fun g (a : Int32 × TS) kk => fX3_solve_L47 n (nI set) kk g a.1 a.2) (fun j a => a.1 = nI j ∧ FR [] [28] 0 0 U a.2 ∧ (∀ s, s < j → set.testBit s = true → gA a.2 28 (set * 9 + (s + 1)) = nI (lvT T set (s + 1))) ∧ ∀ k, (k < set * 9 ∨ (set + 1) * 9 ≤ k) → gA a.2 28 k = gA U 28 k) (vns T) (fun r => ∃ V, FR [] [28] 0 0 U V ∧ (∀ s, s < vns T → set.testBit s = true → gA V 28 (set * 9 + (s + 1)) = nI (lvT T set (s + 1))) ∧ (∀ k, (k < set * 9 ∨ (set + 1) * 9 ≤ k) → gA V 28 k = gA U 28 k) ∧ r = fun kk => kk V) ?_ ?_ n (0, U) (by omega) ⟨rfl, FR.rf, fun s hs => by omega, fun k _ => rfl⟩
  · rintro j ⟨a, V⟩ hj ⟨e, fV, g1, g2⟩
    simp only at e fV g1 g2
    subst e
    have hV : ST T V := h.mv fV (by decide) (by decide) (by decide) (by decide)
    have LV : LDN T V set := fun t s ht ht2 hs hb => by
      rw [g2 _ (Or.inr (by omega))]
      exact hL t s ht ht2 hs hb
    cases hb : set.testBit j with
    | true =>
      refine ⟨(nI (j + 1), sA V 28 (nI (set * 9 + (j + 1))) (nI (lvT T set (j + 1)))), ⟨rfl, fV.trans (FR.sA (Or.inl (by decide))), fun s hs hb2 => ?_, fun k hk => ?_⟩, fun g => funext fun kk => ?_⟩
      · show gA (sA V 28 (nI (set * 9 + (j + 1))) _) 28 (set * 9 + (s + 1)) = _
        rw [gA_sA_at (by omega)]
        by_cases q : s = j
        · rw [if_pos (by rw [q]), q]
        · rw [if_neg (by omega)]
          exact g1 s (by omega) hb2
      · show gA (sA V 28 (nI (set * 9 + (j + 1))) _) 28 k = _
        rw [gA_sA_at (by omega), if_neg (by omega)]
        exact g2 k hk
      · show fX3_solve_L47 n (nI set) kk (g + 1) (nI j) V = fX3_solve_L47 n (nI set) kk g (nI (j + 1)) _
        rw [fX3_solve_L47, hV.2.1, if_neg (nI_ge hj (by omega)), cHas (by omega) (by omega)]
        simp only [bd]
        rw [hb, if_neg (show ¬ (if true = true then (1 : Int32) else 0) = 0 by decide), nI_1, cLeast (by omega) hM hS h8 hV h1 (by omega) (fun s hs hb2 => LV.h28 h8 (Nat.le_refl _) (by omega) s hs hb2)]
        simp only [bd]
        have e2 : nI set * 9 + nI j + 1 = nI (set * 9 + (j + 1)) := by
          rw [show (9 : Int32) = nI 9 from rfl, pk_mul, nI_add, nI_1]
          rfl
        rw [e2, ck_nI (by omega) (by decide)]
        simp only [nm]
    | false =>
      refine ⟨(nI (j + 1), V), ⟨rfl, fV, fun s hs hb2 => ?_, g2⟩, fun g => funext fun kk => ?_⟩
      · by_cases q : s = j
        · subst q
          rw [hb] at hb2
          cases hb2
        · exact g1 s (by omega) hb2
      · show fX3_solve_L47 n (nI set) kk (g + 1) (nI j) V = fX3_solve_L47 n (nI set) kk g (nI (j + 1)) V
        rw [fX3_solve_L47, hV.2.1, if_neg (nI_ge hj (by omega)), cHas (by omega) (by omega)]
        simp only [bd]
        rw [hb, if_pos (show (if false = true then (1 : Int32) else 0) = 0 by decide), nI_1]
  · rintro ⟨a, V⟩ ⟨e, fV, g1, g2⟩ g
    simp only at e fV g1 g2
    subst e
    have hV : ST T V := h.mv fV (by decide) (by decide) (by decide) (by decide)
    refine ⟨V, fV, g1, g2, funext fun kk => ?_⟩
    show fX3_solve_L47 n (nI set) kk (g + 1) (nI (vns T)) V = _
    rw [fX3_solve_L47, hV.2.1, if_pos (nI_le (Nat.le_refl _) (by omega))]
theorem sol41 {n : Nat} {T U : TS} (hn : 10000 ≤ n) (hM : GM T) (hS : GS T) (h8 : vns T ≤ 8) (h : ST T U) (hU : LDN T U (2 ^ vns T - 2)) : ∃ V, FR [] [28] 0 0 U V ∧ LDN T V 0 ∧ (fun kk => fX3_solve_L41 n kk n (nI (2 ^ vns T - 2)) U) = fun kk => kk V := by
  have hp := pw8 h8
  refine lpi (fun g (a : Int32 × TS) kk => fX3_solve_L41 n kk g a.1 a.2) (fun j a => a.1 = nI (2 ^ vns T - 2 - j) ∧ FR [] [28] 0 0 U a.2 ∧ LDN T a.2 (2 ^ vns T - 2 - j)) (2 ^ vns T - 2) (fun r => ∃ V, FR [] [28] 0 0 U V ∧ LDN T V 0 ∧ r = fun kk => kk V) ?_ ?_ n (nI (2 ^ vns T - 2), U) (by omega) ⟨rfl, FR.rf, hU⟩
  · rintro j ⟨a, V⟩ hj ⟨e, fV, g1⟩
    simp only at e fV g1
    obtain ⟨set, hset⟩ : ∃ set, set = 2 ^ vns T - 2 - j := ⟨_, rfl⟩
    rw [← hset] at e g1
    subst e
    have hV : ST T V := h.mv fV (by decide) (by decide) (by decide) (by decide)
    obtain ⟨W, w1, w2, w3, w4⟩ := sol47 (n := n) (set := set) hn hM hS h8 hV g1 (by omega)
    refine ⟨(nI (set - 1), W), ⟨congrArg nI (show set - 1 = 2 ^ vns T - 2 - (j + 1) by omega), fV.trans w1, fun t s ht ht2 hs hb => ?_⟩, fun g => funext fun kk => ?_⟩
    · show gA W 28 (t * 9 + (s + 1)) = _
      by_cases q : t = set
      · subst q
        exact w2 s hs hb
      · rw [w3 _ (Or.inr (by omega))]
        exact g1 t s (by omega) ht2 hs hb
    · show fX3_solve_L41 n kk (g + 1) (nI set) V = fX3_solve_L41 n kk g (nI (set - 1)) W
      rw [fX3_solve_L41, if_neg (show ¬ nI set ≤ (0 : Int32) from nI_ge (a := 0) (by omega) (by omega)), congrFun w4, nI_dec (by omega)]
  · rintro ⟨a, V⟩ ⟨e, fV, g1⟩ g
    simp only [Nat.sub_self] at e fV g1
    subst e
    refine ⟨V, fV, g1, funext fun kk => ?_⟩
    show fX3_solve_L41 n kk (g + 1) (nI 0) V = _
    rw [fX3_solve_L41, if_pos (show nI 0 ≤ (0 : Int32) by decide)]
theorem sol11 {n all : Nat} {T U : TS} (hn : 10000 ≤ n) (h8 : vns T ≤ 8) (hall : all < 256) (hU : gI U 1300 = nI (vns T)) : ∃ V, FR [] [28] 0 0 U V ∧ (∀ r, r ≤ vns T → gA V 28 (all * 9 + r) = nI 0) ∧ (fun kk => fX3_solve_L11 n (nI all) kk n 0 U) = fun kk => kk V := by
  refine lpi (fun g (a : Int32 × TS) kk => fX3_solve_L11 n (nI all) kk g a.1 a.2) (fun j a => a.1 = nI j ∧ FR [] [28] 0 0 U a.2 ∧ ∀ r, r < j → gA a.2 28 (all * 9 + r) = nI 0) (vns T + 1) (fun r => ∃ V, FR [] [28] 0 0 U V ∧ (∀ r, r ≤ vns T → gA V 28 (all * 9 + r) = nI 0) ∧ r = fun kk => kk V) ?_ ?_ n (0, U) (by omega) ⟨rfl, FR.rf, fun s hs => by omega⟩
  · rintro j ⟨a, V⟩ hj ⟨e, fV, g1⟩
    simp only at e fV g1
    subst e
    refine ⟨(nI (j + 1), sA V 28 (nI (all * 9 + j)) 0), ⟨rfl, fV.trans (FR.sA (Or.inl (by decide))), fun r hr => ?_⟩, fun g => funext fun kk => ?_⟩
    · show gA (sA V 28 (nI (all * 9 + j)) 0) 28 (all * 9 + r) = _
      rw [gA_sA_at (by omega)]
      by_cases q : r = j
      · rw [if_pos (by rw [q])]
        rfl
      · rw [if_neg (by omega)]
        exact g1 r (by omega)
    · show fX3_solve_L11 n (nI all) kk (g + 1) (nI j) V = fX3_solve_L11 n (nI all) kk g (nI (j + 1)) _
      have e1 : nI all * 9 + nI j = nI (all * 9 + j) := by rw [show (9 : Int32) = nI 9 from rfl, pk_mul, nI_add]
      rw [fX3_solve_L11, fV.I (k := 1300) (by decide), hU, if_neg (show ¬ nI (vns T) < nI j from (nI_le_lt (by omega) (by omega)).mpr (by omega)), e1, ck_nI (by omega) (by decide)]
      simp only [nm]
      rw [nI_1]
  · rintro ⟨a, V⟩ ⟨e, fV, g1⟩ g
    simp only at e fV g1
    subst e
    refine ⟨V, fV, fun r hr => g1 r (by omega), funext fun kk => ?_⟩
    show fX3_solve_L11 n (nI all) kk (g + 1) (nI (vns T + 1)) V = _
    rw [fX3_solve_L11, fV.I (k := 1300) (by decide), hU, if_pos (nI_lt (by omega) (by omega))]
theorem walk_eq {n : Nat} {T U : TS} (hn : 10000 ≤ n) (hM : GM T) (hS : GS T) (h8 : vns T ≤ 8) (h : ST T U) (hL : LDN T U 0) (h0 : gA U 28 0 = nI (lvT T 0 0)) : ∃ V, fX3_walk n U = some V ∧ FR [] [29] 0 0 U V ∧ ∀ p, p < vns T → gA V 29 p = nI (tn (vns T) (mvT T) p) := by
  have hp := pw8 h8
  unfold fX3_walk
  refine lpi (fun g (a : Int32 × Int32 × Int32 × TS) => fX3_walk_L6 n (fun T_6 => some T_6) g a.1 a.2.1 a.2.2.1 a.2.2.2) (fun j a => a.1 = nI (wk (vns T) (mvT T) j).1 ∧ a.2.1 = nI (wk (vns T) (mvT T) j).2 ∧ a.2.2.1 = nI j ∧ FR [] [29] 0 0 U a.2.2.2 ∧ ∀ p, p < j → gA a.2.2.2 29 p = nI (tn (vns T) (mvT T) p)) (vns T) (fun o => ∃ V, o = some V ∧ FR [] [29] 0 0 U V ∧ ∀ p, p < vns T → gA V 29 p = nI (tn (vns T) (mvT T) p)) ?_ ?_ n (0, 0, 0, U) (by omega) ⟨rfl, rfl, rfl, FR.rf, fun p hp => by omega⟩
  · rintro j ⟨a, b, c, V⟩ hj ⟨ea, eb, ec, fV, g1⟩
    simp only at ea eb ec fV g1
    subst ea eb ec
    have hm := mvT_le hM hS
    obtain ⟨k1, k2, k3⟩ := wk_ok (mv := mvT T) h8 hm j (by omega)
    have k4 := wk_lt (mv := mvT T) h8 hm hj
    have k5 : fsl (vns T) (mvT T) (wk (vns T) (mvT T) j).1 (wk (vns T) (mvT T) j).2 < vns T := tn_lt (mv := mvT T) h8 hm hj
    have hV : ST T V := h.mv fV (by decide) (by decide) (by decide) (by decide)
    have LV : LDN T V 0 := fun t s ht ht2 hs hb => by
      rw [fV.A (k := 28) (by decide) (by decide)]
      exact hL t s ht ht2 hs hb
    have hme : gA V 28 ((wk (vns T) (mvT T) j).1 * 9 + (wk (vns T) (mvT T) j).2) = nI (lvT T (wk (vns T) (mvT T) j).1 (wk (vns T) (mvT T) j).2) := by
      rw [fV.A (k := 28) (by decide) (by decide)]
      rcases wk_row (mv := mvT T) h8 hm (p := j) (by omega) with q | ⟨s, q1, q2, q3⟩
      · subst q
        exact h0
      · rw [q2]
        refine hL _ s ?_ k1 q1 q3
        rcases Nat.eq_zero_or_pos (wk (vns T) (mvT T) j).1 with z | z
        · rw [z, Nat.zero_testBit] at q3
          cases q3
        · exact z
    have low := cLow (n := n) (by omega) hM hS h8 hV k4 k3 (fun s hs hb => LV.h28 h8 (Nat.zero_le _) k1 s hs hb) hme
    refine ⟨(nI (wk (vns T) (mvT T) (j + 1)).1, nI (wk (vns T) (mvT T) (j + 1)).2, nI (j + 1), sA V 29 (nI j) (nI (tn (vns T) (mvT T) j))), ⟨rfl, rfl, rfl, fV.trans (FR.sA (Or.inl (by decide))), fun p hp => ?_⟩, fun g => ?_⟩
    · show gA (sA V 29 (nI j) _) 29 p = _
      rw [gA_sA_at (by omega)]
      by_cases q : p = j
      · rw [if_pos q, q]
      · rw [if_neg q]
        exact g1 p (by omega)
    · show fX3_walk_L6 n _ (g + 1) (nI (wk (vns T) (mvT T) j).1) (nI (wk (vns T) (mvT T) j).2) (nI j) V = fX3_walk_L6 n _ g (nI (wk (vns T) (mvT T) (j + 1)).1) (nI (wk (vns T) (mvT T) (j + 1)).2) (nI (j + 1)) (sA V 29 (nI j) (nI (tn (vns T) (mvT T) j)))
      rw [fX3_walk_L6, hV.2.1, if_neg (nI_ge hj (by omega)), low]
      simp only [bd]
      rw [ck_nI (by omega) (by decide)]
      simp only [nm]
      rw [shl_nI (by omega), nx_or, nI_1, nI_1]
      rfl
  · rintro ⟨a, b, c, V⟩ ⟨ea, eb, ec, fV, g1⟩ g
    simp only at ea eb ec fV g1
    subst ec
    have hV : ST T V := h.mv fV (by decide) (by decide) (by decide) (by decide)
    refine ⟨V, ?_, fV, g1⟩
    show fX3_walk_L6 n _ (g + 1) a b (nI (vns T)) V = _
    rw [fX3_walk_L6, hV.2.1, if_pos (nI_le (Nat.le_refl _) (by omega))]
theorem ck0 {z : Option (Int32 × TS)} : ck (0 : Int32) 2304 z = z := ck_nI (j := 0) (by decide) (by decide)
theorem cl0 : Int32.toNatClampNeg 0 = 0 := by decide
theorem solveL_eq {n : Nat} {T U : TS} (hn : 10000 ≤ n) (hM : GM T) (hS : GS T) (h8 : vns T ≤ 8) (h : ST T U) : ∃ V, fX3_solve n U = some (nI (lvT T 0 0), V) ∧ FR [] [28, 29] 0 0 U V ∧ ∀ p, p < vns T → gA V 29 p = nI (tn (vns T) (mvT T) p) := by
  have hp := pw8 h8
  have hpos : 0 < 2 ^ vns T := Nat.pow_pos (by decide)
  unfold fX3_solve
  simp only [nm]
  rw [h.2.1, shl_nI (by omega), nI_prd (by omega)]
  obtain ⟨V, v1, v2, v3⟩ := sol11 (n := n) (all := 2 ^ vns T - 1) (U := U) hn h8 (by omega) h.2.1
  rw [congrFun v3]
  have hV : ST T V := h.mv v1 (by decide) (by decide) (by decide) (by decide)
  rcases Nat.eq_zero_or_pos (vns T) with hz | hz
  · have e0 : 2 ^ vns T = 1 := by rw [hz]
    have l0 : lvT T 0 0 = 0 := lv_full (by rw [e0]) 0
    have q0 : gA V 28 0 = nI (lvT T 0 0) := by
      have := v2 0 (Nat.zero_le _)
      rw [e0] at this
      rw [l0]
      exact this
    obtain ⟨W, w1, w2, w3⟩ := walk_eq (n := n) hn hM hS h8 hV (fun t s ht ht2 hs hb => by omega) q0
    refine ⟨W, ?_, (v1.mono (by decide) (by decide) (fun _ => by omega)).trans (w2.mono (by decide) (by decide) (fun _ => by omega)), w3⟩
    rw [e0]
    obtain ⟨m, rfl⟩ : ∃ m, n = m + 1 := ⟨n - 1, by omega⟩
    rw [fX3_solve_L41, if_pos (show nI (1 - 1) - 1 ≤ (0 : Int32) by decide), hV.2.1, if_pos (show nI (vns T) ≤ (0 : Int32) by rw [hz]; decide), w1]
    simp only [bv]
    rw [ck0, cl0, w2.A (k := 28) (by decide) (by decide), q0]
  · have hp2 : 2 ^ 1 ≤ 2 ^ vns T := Nat.pow_le_pow_right (by decide) hz
    have LV : LDN T V (2 ^ vns T - 2) := fun t s ht ht2 hs hb => by
      have e : t = 2 ^ vns T - 1 := by omega
      subst e
      rw [show lvT T (2 ^ vns T - 1) (s + 1) = 0 from lv_full (by omega) _]
      exact v2 (s + 1) (by omega)
    obtain ⟨X, x1, x2, x3⟩ := sol41 (n := n) hn hM hS h8 hV LV
    have hX : ST T X := hV.mv x1 (by decide) (by decide) (by decide) (by decide)
    have hl : fX3_leastBehind n 0 0 X = some (nI (lvT T 0 0), X) := cLeast (n := n) (set := 0) (r := 0) (T := T) (U := X) (by omega) hM hS h8 hX (by omega) (Nat.zero_le _) (fun s hs hb => x2.h28 h8 (Nat.le_refl _) (by omega) s hs hb)
    generalize hY : sA X 28 (0 : Int32) (nI (lvT T 0 0)) = Y
    have fY : FR [] [28] 0 0 X Y := by rw [← hY]; exact FR.sA (Or.inl (by decide))
    have gY : ∀ k, gA Y 28 k = if k = 0 then nI (lvT T 0 0) else gA X 28 k := fun k => by
      rw [← hY]
      exact gA_sA_at (j := 0) (by decide) k
    obtain ⟨W, w1, w2, w3⟩ := walk_eq (n := n) (U := Y) hn hM hS h8 (hX.mv fY (by decide) (by decide) (by decide) (by decide)) (fun t s ht ht2 hs hb => by
      rw [gY, if_neg (by omega)]
      exact x2 t s ht ht2 hs hb) (by rw [gY, if_pos rfl])
    refine ⟨W, ?_, ((v1.trans (x1.trans fY)).mono (by decide) (by decide) (fun _ => by omega)).trans (w2.mono (by decide) (by decide) (fun _ => by omega)), w3⟩
    rw [nI_prd (show 1 ≤ 2 ^ vns T - 1 by omega), show 2 ^ vns T - 1 - 1 = 2 ^ vns T - 2 by omega, congrFun x3, hX.2.1, if_neg (show ¬ nI (vns T) ≤ (0 : Int32) from nI_ge (a := 0) hz (by omega)), hl]
    simp only [bd]
    rw [ck0, hY, w1]
    simp only [bv]
    rw [ck0, cl0, w2.A (k := 28) (by decide) (by decide), gY, if_pos rfl]
theorem l173 {n N : Nat} {U : TS} {y1 : Int32} {ts : Nat → Nat} (hn : 10000 ≤ n) (hN : N ≤ 8) (h850 : gI U 850 = nI N) (h550 : gI U 550 = nI 0) (ht : ∀ p, p < N → ts p < N ∧ gA U 29 p = nI (ts p)) : ∃ V, FR [550] [12, 13] 0 0 U V ∧ gI V 550 = nI N ∧ (∀ p, p < N → gA V 12 p = gA U 18 (ts p) ∧ gA V 13 p = gA U 19 (ts p)) ∧ (fun kk => fX10_line_L173 n y1 kk n 0 U) = fun kk => kk V := by
  refine lpi (fun g (a : Int32 × TS) kk => fX10_line_L173 n y1 kk g a.1 a.2) (fun j a => a.1 = nI j ∧ FR [550] [12, 13] 0 0 U a.2 ∧ gI a.2 550 = nI j ∧ ∀ p, p < j → gA a.2 12 p = gA U 18 (ts p) ∧ gA a.2 13 p = gA U 19 (ts p)) N (fun r => ∃ V, FR [550] [12, 13] 0 0 U V ∧ gI V 550 = nI N ∧ (∀ p, p < N → gA V 12 p = gA U 18 (ts p) ∧ gA V 13 p = gA U 19 (ts p)) ∧ r = fun kk => kk V) ?_ ?_ n (0, U) (by omega) ⟨rfl, FR.rf, h550, fun s hs => by omega⟩
  · rintro j ⟨a, V⟩ hj ⟨e, fV, g0, g1⟩
    simp only at e fV g0 g1
    subst e
    obtain ⟨t1, t2⟩ := ht j hj
    refine ⟨(nI (j + 1), uI (sA (sA V 12 (nI j) (gA U 18 (ts j))) 13 (nI j) (gA U 19 (ts j))) 550 (nI (j + 1))), ⟨rfl, ((fV.trans (FR.sA (Or.inl (by decide)))).trans (FR.sA (Or.inl (by decide)))).trans (FR.uI (by decide)), gI_uI _ _ _, fun p hp => ?_⟩, fun g => funext fun kk => ?_⟩
    · show gA (uI (sA (sA V 12 (nI j) (gA U 18 (ts j))) 13 (nI j) (gA U 19 (ts j))) 550 (nI (j + 1))) 12 p = _ ∧ gA (uI (sA (sA V 12 (nI j) (gA U 18 (ts j))) 13 (nI j) (gA U 19 (ts j))) 550 (nI (j + 1))) 13 p = _
      have g12 : gA (sA (sA V 12 (nI j) (gA U 18 (ts j))) 13 (nI j) (gA U 19 (ts j))) 12 p = if p = j then gA U 18 (ts j) else gA V 12 p := by
        rw [zA_sA, if_neg (by decide), gA_sA_at (by omega)]
      have g13 : gA (sA (sA V 12 (nI j) (gA U 18 (ts j))) 13 (nI j) (gA U 19 (ts j))) 13 p = if p = j then gA U 19 (ts j) else gA V 13 p := by
        rw [gA_sA_at (by omega), show gA (sA V 12 (nI j) (gA U 18 (ts j))) 13 = gA V 13 by rw [zA_sA, if_neg (by decide)]]
      rw [zA_uI, zA_uI, g12, g13]
      by_cases q : p = j
      · rw [if_pos q, if_pos q, q]
        exact ⟨rfl, rfl⟩
      · rw [if_neg q, if_neg q]
        exact g1 p (by omega)
    · show fX10_line_L173 n y1 kk (g + 1) (nI j) V = fX10_line_L173 n y1 kk g (nI (j + 1)) _
      rw [fX10_line_L173, fV.I (k := 850) (by decide), h850, if_neg (nI_ge hj (by omega))]
      unfold fX3_slotAt
      rw [ck_nI (by omega) (by decide), nI_clamp (by omega), fV.A (k := 29) (by decide) (by decide), t2]
      simp only [bd]
      rw [ck_nI (by omega) (by decide), ck_nI (by omega) (by decide), nI_clamp (by omega), fV.A (k := 18) (by decide) (by decide), fV.A (k := 19) (by decide) (by decide), add11 g0 (by omega)]
      simp only [bv]
      rw [nI_1]
  · rintro ⟨a, V⟩ ⟨e, fV, g0, g1⟩ g
    simp only at e fV g0 g1
    subst e
    refine ⟨V, fV, g0, g1, funext fun kk => ?_⟩
    show fX10_line_L173 n y1 kk (g + 1) (nI N) V = _
    rw [fX10_line_L173, fV.I (k := 850) (by decide), h850, if_pos (nI_le (Nat.le_refl _) (by omega))]
theorem line_c {n : Nat} {T : TS} (hn : 10000 ≤ n) (hM : GM T) (hS : GS T) (hL : GL T) (h8 : vns T ≤ 8) : ∃ V, fX10_line n T = some (nI (lvT T 0 0), V) ∧ FR [1300, 1100, 1200, 850, 550] [27, 28, 29, 23, 25, 18, 19, 12, 13] 0 0 T V ∧ gI V 550 = nI (vns T) ∧ ∀ p, p < vns T → gA V 12 p = gA T 12 (tn (vns T) (mvT T) p) ∧ gA V 13 p = gA T 13 (tn (vns T) (mvT T) p) := by
  unfold fX10_line
  rw [hS.1, if_pos (show nI (vns T) ≤ (8 : Int32) from nI_le (b := 8) h8 (by decide))]
  unfold fX3_start
  rw [show imin (nI (vns T)) 8 = nI (vns T) from by rw [show (8 : Int32) = nI 8 from rfl, imin_nI (by omega) (by decide), Nat.min_eq_left h8]]
  simp only [nm, bv]
  obtain ⟨V, v1, v2⟩ := steps_eq (n := n) (by omega) hM hS hL h8 (FR.uI (k := 1300) (v := nI (vns T)) (by decide)) (gI_uI _ _ _)
  rw [congrFun v2]
  obtain ⟨W, w1, w2, w3⟩ := solveL_eq (n := n) hn hM hS h8 v1
  rw [w1]
  simp only [bd]
  have fW : FR [1300, 1100, 1200, 850, 550] [27, 28, 29, 23, 25, 18, 19, 12, 13] 0 0 T W := (v1.1.mono (by decide) (by decide) (fun _ => by omega)).trans (w2.mono (by decide) (by decide) (fun _ => by omega))
  have e1 : gI W 550 = nI (vns T) := by rw [w2.I (by decide), v1.1.I (by decide)]; exact hS.1
  obtain ⟨Y, y1, y2, y3, y4⟩ := cp_17_11 (n := n) (m := vns T) (T := W) hn e1 hS.2.2.1
  rw [y1]
  simp only [bv]
  unfold fX8_clear_11
  simp only [nm, bv]
  have hm := mvT_le hM hS
  generalize hZ : uI Y 550 (0 : Int32) = Z
  have fZ : FR [550] [] 0 0 Y Z := by rw [← hZ]; exact FR.uI (by decide)
  have z1 : gI Z 550 = nI 0 := by rw [← hZ]; exact gI_uI _ _ _
  obtain ⟨R, r1, r2, r3, r4⟩ := l173 (n := n) (N := vns T) (U := Z) (y1 := nI (lvT T 0 0)) (ts := tn (vns T) (mvT T)) hn h8 ((fZ.I (by decide)).trans y3) z1 (fun p hp => ⟨tn_lt h8 hm hp, by rw [fZ.A (k := 29) (by decide) (by decide), y2.A (k := 29) (by decide) (by decide)]; exact w3 p hp⟩)
  rw [congrFun r4]
  refine ⟨R, rfl, ((fW.trans (y2.mono (by decide) (by decide) (fun _ => by omega))).trans (fZ.mono (by decide) (by decide) (fun _ => by omega))).trans (r1.mono (by decide) (by decide) (fun _ => by omega)), r2, fun p hp => ?_⟩
  obtain ⟨p1, p2⟩ := r3 p hp
  have hlt := tn_lt (mv := mvT T) h8 hm hp
  rw [p1, p2, fZ.A (k := 18) (by decide) (by decide), fZ.A (k := 19) (by decide) (by decide), (y4 _ hlt).1, (y4 _ hlt).2]
  have q1 : gA W 12 = gA T 12 := by rw [w2.A (k := 12) (by decide) (by decide), v1.1.A (k := 12) (by decide) (by decide)]
  have q2 : gA W 13 = gA T 13 := by rw [w2.A (k := 13) (by decide) (by decide), v1.1.A (k := 13) (by decide) (by decide)]
  rw [q1, q2]
  exact ⟨rfl, rfl⟩
