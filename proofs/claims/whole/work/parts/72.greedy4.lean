/-! ===== greedy: both ===== -/
def wo (T : TS) (i : Nat) : Nat := if i < vd T then wa T i else 0
theorem startOpen_eq {n c : Nat} {T : TS} (hn : 100 ≤ n) (hM : GM T) (hO : GO c T) (hc : c ≤ 520) : ∃ T', fX6_startOpen n T = some T' ∧ FR [] [7] 0 0 T T' ∧ ∀ i, i < vd T → gA T' 7 i = nI (wa T i) := by
  obtain ⟨d1, d2, d6⟩ := hM.d
  unfold fX6_startOpen
  refine lpi (fun f (s : Int32 × TS) => fX6_startOpen_L2 n (fun T_4 => some T_4) f s.1 s.2) (fun j s => s.1 = nI j ∧ FR [] [7] 0 0 T s.2 ∧ ∀ i, i < j → gA s.2 7 i = nI (wa T i)) (vd T) (fun r => ∃ T', r = some T' ∧ FR [] [7] 0 0 T T' ∧ ∀ i, i < vd T → gA T' 7 i = nI (wa T i)) ?_ ?_ n (0, T) (by omega) ⟨rfl, FR.rf, fun i hi => by omega⟩
  · rintro j ⟨a, U⟩ hj ⟨e, f1, g⟩
    simp only at e f1 g
    subst e
    have hOU : GO c U := hO.fr (Nat.le_refl c) f1 (by decide) (by decide)
    obtain ⟨w1, -, w3⟩ := wanted_eq (n := n) (T := U) hOU hc (show j < 6 by omega)
    rw [wa_fr f1 (by decide)] at w1 w3
    refine ⟨(nI (j + 1), sA U 7 (nI j) (nI (wa T j))), ⟨rfl, f1.trans (FR.sA (Or.inl (by decide))), fun i hi => ?_⟩, fun f => ?_⟩
    · show gA (sA U 7 (nI j) _) 7 i = _
      rw [gA_sA_at (by omega)]
      by_cases q : i = j
      · rw [if_pos q, q]
      · rw [if_neg q]
        exact g i (by omega)
    · show fX6_startOpen_L2 n _ (f + 1) (nI j) U = _
      rw [fX6_startOpen_L2, f1.I (by decide), d1, if_neg (nI_ge hj (by omega)), w1]
      simp only [bd, nm]
      rw [ck_nI (by omega) (by decide), nI_1]
  · rintro ⟨a, U⟩ ⟨e, f1, g⟩ f
    simp only at e f1 g
    subst e
    refine ⟨U, ?_, f1, g⟩
    show fX6_startOpen_L2 n _ (f + 1) (nI (vd T)) U = _
    rw [fX6_startOpen_L2, f1.I (by decide), d1, if_pos (nI_le (Nat.le_refl _) (by omega))]
theorem mstart_eq {n c : Nat} {T : TS} (hn : 100 ≤ n) (hM : GM T) (hO : GO c T) (hc : c ≤ 520) : ∃ T', FR [] [54] 0 0 T T' ∧ (∀ i, i < 6 → gA T' 54 i = nI (wo T i)) ∧ (fun kk => fX11_greedy_L24 n kk n 0 0 T) = fun kk => kk (nI (nsum (wo T) 6)) T' := by
  obtain ⟨d1, d2, d6⟩ := hM.d
  refine lpi (fun f (s : Int32 × Int32 × TS) kk => fX11_greedy_L24 n kk f s.1 s.2.1 s.2.2) (fun j s => s.1 = nI (nsum (wo T) j) ∧ s.2.1 = nI j ∧ FR [] [54] 0 0 T s.2.2 ∧ ∀ i, i < j → gA s.2.2 54 i = nI (wo T i)) 6 (fun r => ∃ T', FR [] [54] 0 0 T T' ∧ (∀ i, i < 6 → gA T' 54 i = nI (wo T i)) ∧ r = fun kk => kk (nI (nsum (wo T) 6)) T') ?_ ?_ n (0, 0, T) (by omega) ⟨rfl, rfl, FR.rf, fun i hi => by omega⟩
  · rintro j ⟨a, b, U⟩ hj ⟨e, e', f1, g⟩
    simp only at e e' f1 g
    subst e e'
    have hOU : GO c U := hO.fr (Nat.le_refl c) f1 (by decide) (by decide)
    obtain ⟨-, w1, w3⟩ := wanted_eq (n := n) (T := U) hOU hc hj
    rw [wa_fr f1 (by decide)] at w1 w3
    refine ⟨(nI (nsum (wo T) (j + 1)), nI (j + 1), sA U 54 (nI j) (nI (wo T j))), ⟨rfl, rfl, f1.trans (FR.sA (Or.inl (by decide))), fun i hi => ?_⟩, fun f => funext fun kk => ?_⟩
    · show gA (sA U 54 (nI j) _) 54 i = _
      rw [gA_sA_at (by omega)]
      by_cases q : i = j
      · rw [if_pos q, q]
      · rw [if_neg q]
        exact g i (by omega)
    · show fX11_greedy_L24 n kk (f + 1) (nI (nsum (wo T) j)) (nI j) U = _
      have k6 : ∀ {z : Option (Int32 × TS)}, ck (nI j) 6 z = z := ck_nI hj (by decide)
      have kc : (nI j).toNatClampNeg = j := nI_clamp (by omega)
      have e1 : ∀ v, gA (sA U 54 (nI j) v) 54 j = v := fun v => by rw [gA_sA_at (by omega), if_pos rfl]
      rw [fX11_greedy_L24, if_neg (show ¬ (6 : Int32) ≤ nI j from nI_ge (b := 6) hj (by decide)), f1.I (by decide), d2]
      by_cases q : j < vd T
      · have ew : wo T j = wa T j := if_pos q
        rw [if_neg (nI_ge q (by omega)), w1, ew]
        simp only [bd, nm]
        rw [k6, k6, kc, e1, nI_add, nI_1, show nsum (wo T) (j + 1) = nsum (wo T) j + wa T j by rw [← ew]; rfl]
      · have ew : wo T j = 0 := if_neg q
        rw [if_pos (nI_le (by omega) (by omega)), ew, k6]
        simp only [nm]
        rw [k6, kc, e1, nI_1, show nsum (wo T) (j + 1) = nsum (wo T) j by show nsum (wo T) j + wo T j = _; rw [ew]; rfl, Int32.add_zero]
        rfl
  · rintro ⟨a, b, U⟩ ⟨e, e', f1, g⟩ f
    simp only at e e' f1 g
    subst e e'
    refine ⟨U, f1, g, funext fun kk => ?_⟩
    show fX11_greedy_L24 n kk (f + 1) _ (nI 6) U = _
    rw [fX11_greedy_L24, if_pos (show (6 : Int32) ≤ nI 6 by decide)]
theorem GX.n50 {T : TS} (h : GX T) : ∀ s, s < 60 → gO T 50 s = 3127 + s := h.2.1
abbrev isP : List Nat := [850, 550, 2067, 2050, 2070]
abbrev asP : List Nat := [7, 18, 19, 12, 13, 49, 51, 54, 55]
theorem gout_fr {is as : List Nat} {lo hi : Nat} {T T' : TS} (f : FR is as lo hi T T') (h1 : ∀ k ∈ [50, 51, 52, 55], k ∉ is) (h2 : ∀ k ∈ [2, 3], k ∉ as ∧ ¬ (lo ≤ k ∧ k < hi)) : ∀ (k : Nat) (o : Nat → Nat) (D : Dr), gout T' k o D = gout T k o D
  | 0, _, _ => rfl
  | k + 1, o, D => by
    have e : vd T' = vd T := by unfold vd; rw [f.1 55 (h1 55 (by decide))]
    have e1 : gcode T' o = gcode T o := by unfold gcode; rw [gsT_fr f h1 h2, e]
    have e2 : gnext T' o = gnext T o := by unfold gnext; rw [gsT_fr f h1 h2, e]
    rw [gout, gout, e1, e2]
    cases ar D (gcode T o) with
    | none => rfl
    | some D' => simp only; rw [gout_fr f h1 h2 k]
theorem tw_fr {is as : List Nat} {lo hi : Nat} {T U : TS} (f : FR is as lo hi T U) (h1 : ∀ k ∈ [50, 51, 55], k ∉ is) (h2 : ∀ k ∈ [2, 8, 9], k ∉ as ∧ ¬ (lo ≤ k ∧ k < hi)) (i : Nat) : TW U i ↔ TW T i := by
  unfold TW rm vw ve vm
  rw [wa_fr f (fun k hk => h2 k (by simp only [List.mem_cons, List.not_mem_nil, or_false] at hk ⊢; omega)), f.1 50 (h1 50 (by decide)), f.1 51 (h1 51 (by decide)), f.A (h2 2 (by decide)).1 (h2 2 (by decide)).2]
theorem eq_greedy {n c : Nat} {T : TS} (hn : 10000 ≤ n) (hc : c ≤ 520) (hI : Inv c T) : Both c (fX10_greedy n) (fX11_greedy n) T := by
  have hM := hI.1
  have hO := hI.2.2.2.2.1
  have hX := hI.2.2.2.1
  obtain ⟨d1, d2, d6⟩ := hM.d
  have one : ¬ (1 : Int32) = 0 := by decide
  unfold Both fX10_greedy fX11_greedy
  simp only [nm]
  rcases tw_eq (n := n) (by omega) hM hO hc with ⟨⟨j, hj, htw⟩, e1⟩ | ⟨hno, e1⟩
  · rw [e1]
    refine ⟨-2, T, uI T 2050 0, rfl, ?_, hI.th⟩
    rcases mtw_eq (n := n) (T := uI T 2050 0) (c := c) (by omega) (hI.same (v := 0)).1 (hI.same (v := 0)).2.2.2.2.1 hc with ⟨-, e2⟩ | ⟨hno, -⟩
    · rw [e2]
      rfl
    · exact absurd ((tw_fr (FR.uI (is := [2050]) (as := []) (lo := 0) (hi := 0) (by decide)) (by decide) (by decide) j).mpr htw) (hno j hj)
  · rw [e1]
    simp only [bd]
    rw [if_pos trivial]
    unfold fX8_clear_17
    simp only [nm, bv]
    have f0 : FR [850] [7, 18, 19] 0 0 T (uI T 850 0) := FR.uI (by decide)
    obtain ⟨A, a1, a2, a3⟩ := startOpen_eq (n := n) (T := uI T 850 0) (c := c) (by omega) (hM.fr f0 (by decide) (by decide)) (hO.fr (Nat.le_refl c) f0 (by decide) (by decide)) hc
    rw [a1]
    simp only
    have fA : FR [850] [7, 18, 19] 0 0 T A := f0.trans (a2.mono (by decide) (by decide) (fun _ => by omega))
    have hOP : OP T (wo T) := by
      refine ⟨fun i hi => ?_, fun i hi _ => if_neg (by omega), fun i hi hp => ?_⟩
      · unfold wo
        split
        · exact (wanted_eq (n := n) hO hc hi).2.2
        · omega
      · have ew : wo T i = wa T i := if_pos hi
        rw [ew] at hp
        exact Nat.le_of_not_lt (fun q => hno i hi ⟨hp, q⟩)
    have b240 : nsum (wo T) 6 ≤ 6 * 40 := nsum_bd hOP.1
    let D0 : Dr := (0, fun _ => 0, fun _ => 0)
    have hD0 : OKD (vd T) D0 := ⟨by decide, fun k hk => absurd hk (Nat.not_lt_zero k)⟩
    have hCA : DC A D0 := ⟨(a2.I (by decide)).trans (gI_uI T 850 0), fun k hk => absurd hk (Nat.not_lt_zero k)⟩
    have h7A : ∀ i, i < vd T → gA A 7 i = nI (wo T i) := fun i hi => by
      rw [a3 i hi, wa_fr f0 (by decide), show wo T i = wa T i from if_pos hi]
    -- the reference, from a state with the same PLAN
    have mref : ∀ (U : TS) {is as : List Nat}, FR is as 3067 3187 T U → (∀ k ∈ [50, 51, 52, 53, 54, 55, 2051, 2052, 2053, 2054, 2055, 2056, 305, 2061, 14, 2062], k ∉ is) → (∀ k ∈ [2, 3, 42, 8, 9, 10, 43, 44, 45], k ∉ as) → ∀ kk : TS → Option (Int32 × TS), (gout T 240 (wo T) D0 = none ∧ ∃ U', (bd (fX11_isTooWide n (uI U 2050 0)) fun r_3 T_2 => if r_3 = 0 then fX11_greedy_L24 n (fun e1_11 T_12 => fX11_greedy_L68 n kk n e1_11 T_12) n 0 0 (uI T_2 2070 0) else some (-2, T_2)) = some (-3, U') ∧ FR [2070, 2050] [51, 54, 55] 3127 3187 U U') ∨ ∃ D' U', gout T 240 (wo T) D0 = some D' ∧ (bd (fX11_isTooWide n (uI U 2050 0)) fun r_3 T_2 => if r_3 = 0 then fX11_greedy_L24 n (fun e1_11 T_12 => fX11_greedy_L68 n kk n e1_11 T_12) n 0 0 (uI T_2 2070 0) else some (-2, T_2)) = kk U' ∧ FR [2070, 2050] [51, 54, 55] 3127 3187 U U' ∧ DM U' D' := by
      intro U is as fU h1 h2 kk
      have h1' : ∀ l : List Nat, (∀ k ∈ l, k ∈ [50, 51, 52, 53, 54, 55, 2051, 2052, 2053, 2054, 2055, 2056, 305, 2061, 14, 2062]) → ∀ k ∈ l, k ∉ is := fun l hl k hk => h1 k (hl k hk)
      have h2' : ∀ l : List Nat, (∀ k ∈ l, k ∈ [2, 3, 42, 8, 9, 10, 43, 44, 45]) → ∀ k ∈ l, k ∉ as ∧ ¬ (3067 ≤ k ∧ k < 3187) := fun l hl k hk => ⟨h2 k (hl k hk), fun q => by
        have := hl k hk
        simp only [List.mem_cons, List.not_mem_nil, or_false] at this
        omega⟩
      have fP : FR [2050] [] 0 0 U (uI U 2050 0) := FR.uI (by decide)
      have hMU : GM U := hM.fr fU (h1' _ (by decide)) (h2' _ (by decide))
      have hOU : GO c U := hO.fr (Nat.le_refl c) fU (h1' _ (by decide)) (h2' _ (by decide))
      have hMP : GM (uI U 2050 0) := hMU.fr fP (by decide) (by decide)
      have hOP' : GO c (uI U 2050 0) := hOU.fr (Nat.le_refl c) fP (by decide) (by decide)
      have vP : vd (uI U 2050 0) = vd T := by unfold vd; rw [fP.I (by decide), fU.1 55 (h1 55 (by decide))]
      rcases mtw_eq (n := n) (T := uI U 2050 0) (c := c) (by omega) hMP hOP' hc with ⟨⟨j, hj, htw⟩, -⟩ | ⟨-, e2⟩
      · exact absurd ((tw_fr fU (h1' _ (by decide)) (h2' _ (by decide)) j).mp ((tw_fr fP (by decide) (by decide) j).mp htw)) (hno j (by rw [← vP]; exact hj))
      · rw [e2]
        simp only [bd]
        rw [if_pos trivial]
        generalize hQ : uI (uI U 2050 0) 2070 0 = Q
        have fQ : FR [2070, 2050] [51, 54, 55] 3127 3187 U Q := by rw [← hQ]; exact (FR.uI (by decide)).trans (FR.uI (by decide))
        have q70 : gI Q 2070 = nI 0 := by rw [← hQ]; exact gI_uI _ _ _
        have hMQ : GM Q := hMU.fr fQ (by decide) (by decide)
        have hOQ : GO c Q := hOU.fr (Nat.le_refl c) fQ (by decide) (by decide)
        have vQ : vd Q = vd T := by unfold vd; rw [fQ.I (by decide), fU.1 55 (h1 55 (by decide))]
        have woQ : wo Q = wo T := by
          funext i
          unfold wo
          rw [vQ, wa_fr fQ (by decide), wa_fr fU (h2' _ (by decide))]
        obtain ⟨R, r1, r2, r3⟩ := mstart_eq (n := n) (T := Q) (c := c) (by omega) hMQ hOQ hc
        rw [congrFun r3]
        rw [woQ] at r2 ⊢
        have fQR : FR [2070] [51, 54, 55] 3127 3187 Q R := r1.mono (by decide) (by decide) (fun _ => by omega)
        have oQ : OP Q (wo T) := by
          refine ⟨hOP.1, fun i hi => hOP.2.1 i (by rw [vQ] at hi; exact hi), fun i hi hp => ?_⟩
          have := hOP.2.2 i (by rw [vQ] at hi; exact hi) hp
          have e1 : vm Q i = vm T i := by unfold vm; rw [fQ.A (by decide) (by decide), fU.2.1 2 (h2 2 (by decide)) (by omega)]
          have e2 : rm Q = rm T := by unfold rm vw ve; rw [fQ.I (by decide), fQ.I (by decide), fU.1 50 (h1 50 (by decide)), fU.1 51 (h1 51 (by decide))]
          rw [e1, e2]
          exact this
        have gQ : gout Q 240 (wo T) D0 = gout T 240 (wo T) D0 := (gout_fr fQ (by decide) (by decide) 240 _ _).trans (gout_fr fU (h1' _ (by decide)) (h2' _ (by decide)) 240 _ _)
        have := mgloop (n := n) (T := Q) (kk := kk) hn hMQ (fun s hs => by rw [fQ.O 50, fU.O 50]; exact hX.2.1 s hs) 240 (wo T) D0 R n (by omega) (by omega) oQ (by rw [vQ]; exact hD0) ⟨(r1.I (by decide)).trans q70, fun k hk => absurd hk (Nat.not_lt_zero k)⟩ fQR r2
        rw [gQ] at this
        rcases this with ⟨p1, U', p2, p3⟩ | ⟨D', U', p1, p2, p3, p4⟩
        · exact Or.inl ⟨p1, U', p2, fQ.trans (p3.mono (by decide) (by decide) (fun _ => by omega))⟩
        · exact Or.inr ⟨D', U', p1, p2, fQ.trans (p3.mono (by decide) (by decide) (fun _ => by omega)), p4⟩
    rcases gloop (n := n) (T := T) (kk := fun e1_13 T_14 => bv (fX8_copyFrom_11_17 n T_14) (fun T_15 => some (e1_13, T_15))) hn hM 240 (wo T) D0 A n (by omega) (by show 0 + 240 ≤ 240; omega) (by omega) hOP hD0 hCA fA h7A with ⟨p1, U, p2, p3⟩ | ⟨D', U, p1, p2, p3, p4, p5, p6⟩
    · refine ⟨-3, U, ?_⟩
      have fU : FR [850] [7, 18, 19] 3067 3187 T U := p3.mono (by decide) (by decide) (fun _ => by omega)
      rcases mref U fU (by decide) (by decide) (fun T_30 => bd (fX11_becomes n T_30) (fun r_32 T_31 => some (r_32, T_31))) with ⟨-, V, v1, v2⟩ | ⟨D', V, v0, -⟩
      · refine ⟨V, p2, v1, hI.fr (Nat.le_succ c) ((p3.mono (is' := [850, 2070, 2050]) (as' := [7, 18, 19, 51, 54, 55]) (lo' := 3127) (hi' := 3187) (by decide) (by decide) (fun _ => by omega)).trans (v2.mono (by decide) (by decide) (fun _ => by omega))) (by decide) (by decide) (Or.inl ⟨rfl, rfl⟩) (by decide)⟩
      · rw [p1] at v0
        cases v0
    · obtain ⟨V, v1, v2, v3⟩ := plan_of (n := n) (c' := c + 1) (D := D') hn (Nat.le_succ c) hI p5 (by omega) U (is := isP) (as := asP) (p3.mono (by decide) (by decide) (fun _ => by omega)) p4 (by decide) (by decide) (by decide) (by decide) (by decide)
      refine ⟨nI (nsum D'.2.2 D'.1), V, ?_⟩
      rcases mref V v2 (by decide) (by decide) (fun T_30 => bd (fX11_becomes n T_30) (fun r_32 T_31 => some (r_32, T_31))) with ⟨w0, -⟩ | ⟨D2, W, w0, w1, w2, w3⟩
      · rw [p1] at w0
        cases w0
      · rw [p1] at w0
        cases w0
        obtain ⟨R, r1, r2⟩ := v3 W (v2.trans (w2.mono (by decide) (by decide) (fun _ => by omega))) (fun k _ => by rw [w2.A (k := 12) (by decide) (by decide), w2.A (k := 13) (by decide) (by decide)]; exact ⟨rfl, rfl⟩) (w2.I (by decide)) w3
        refine ⟨R, ?_, ?_, r2⟩
        · refine p2.trans ?_
          rw [v1]
          rfl
        · refine w1.trans ?_
          rw [r1]
          rfl
