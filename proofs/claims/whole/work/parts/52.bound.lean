theorem wow_eq {n c : Nat} {T : TS} (hn : 10000 ≤ n) (hc : c ≤ 520) (hM : GM T) (h : GO c T) : fX6_worthOfWanted n T = some (nI (nsum (fun i => wa T i * pN T i) (vd T)), T) := by
  obtain ⟨d1, d2, d6⟩ := hM.d
  unfold fX6_worthOfWanted
  refine lpn (fun f (x : Int32 × Int32 × TS) => fX6_worthOfWanted_L4 n (fun e T => some (e, T)) f x.1 x.2.1 x.2.2) (fun j => (nI (nsum (fun i => wa T i * pN T i) j), nI j, T)) (vd T) _ ?_ ?_ n (by omega)
  · intro j hj f
    show fX6_worthOfWanted_L4 n _ (f + 1) _ (nI j) T = _
    rw [fX6_worthOfWanted_L4, d1, if_neg (nI_ge hj (by omega)), (wanted_eq (n := n) h hc (show j < 6 by omega)).1]
    simp only [bd, nm]
    rw [ck_nI (by omega) (by decide), nI_clamp (by omega), (h.p (i := j) (by omega)).1, pk_mul, nI_add, nI_1]
    rfl
  · intro f
    show fX6_worthOfWanted_L4 n _ (f + 1) _ (nI (vd T)) T = _
    rw [fX6_worthOfWanted_L4, d1, if_pos (nI_le (Nat.le_refl _) (by omega))]
theorem mwow_eq {n c : Nat} {T : TS} {kk : Int64 → TS → Option (Int32 × TS)} (hn : 10000 ≤ n) (hc : c ≤ 520) (hM : GM T) (h : GO c T) : fX11_bound_L50 n kk n 0 0 T = kk (lN (nsum (fun i => wa T i * pN T i) (vd T))) T := by
  obtain ⟨d1, d2, d6⟩ := hM.d
  refine lpn (fun f (x : Int64 × Int32 × TS) => fX11_bound_L50 n kk f x.1 x.2.1 x.2.2) (fun j => (lN (nsum (fun i => wa T i * pN T i) j), nI j, T)) (vd T) _ ?_ ?_ n (by omega)
  · intro j hj f
    show fX11_bound_L50 n kk (f + 1) _ (nI j) T = _
    obtain ⟨w1, w2, w3⟩ := wanted_eq (n := n) h hc (show j < 6 by omega)
    have hp := h.p (i := j) (by omega)
    rw [fX11_bound_L50, d2, if_neg (nI_ge hj (by omega)), w2]
    simp only [bd, nm]
    rw [ck_nI (by omega) (by decide), nI_clamp (by omega), hp.2.1, nI_l (by omega), nI_l (by omega), lN_mul, lN_add, nI_1]
    rfl
  · intro f
    show fX11_bound_L50 n kk (f + 1) _ (nI (vd T)) T = _
    rw [fX11_bound_L50, d2, if_pos (nI_le (Nat.le_refl _) (by omega))]
theorem wwN_le {c : Nat} {T : TS} (hc : c ≤ 520) (hM : GM T) (h : GO c T) : nsum (fun i => wa T i * pN T i) (vd T) ≤ 240000000 := by
  have d6 := hM.d.2.2
  have : nsum (fun i => wa T i * pN T i) (vd T) ≤ vd T * 40000000 := nsum_bd (fun i hi => by
    have h1 := (wanted_eq (n := 0) h hc (show i < 6 by omega)).2.2
    have h2 := (h.p (i := i) (by omega)).2.2
    calc wa T i * pN T i ≤ 40 * 1000000 := Nat.mul_le_mul h1 h2
      _ = 40000000 := rfl)
  omega
theorem wa_fr {is as : List Nat} {lo hi : Nat} {T T' : TS} (f : FR is as lo hi T T') (h2 : ∀ k ∈ [8, 9], k ∉ as ∧ ¬ (lo ≤ k ∧ k < hi)) : wa T' = wa T := by
  funext i
  unfold wa
  rw [f.A (h2 8 (by decide)).1 (h2 8 (by decide)).2, f.A (h2 9 (by decide)).1 (h2 9 (by decide)).2]
theorem eq_bound {n c : Nat} {T : TS} (hn : 10000 ≤ n) (hc : c ≤ 520) (hI : Inv c T) : Both c (fX10_bound n) (fX11_bound n) T := by
  obtain ⟨T1, T3, a1, N1, I1, b1, C3, I3, f3⟩ := both_nums (n := n) hn hI
  have ep : psT T3 = psT T1 := ps_fr f3 (by decide) (by decide)
  unfold Both fX10_bound fX11_bound
  simp only [nm]
  rw [a1]
  simp only [bd]
  by_cases hl : ¬ (psT T1).length ≤ 3000
  · rw [decide_eq_true (show 3000 < (psT T1).length by omega), if_neg (show ¬ b01 true = 0 by decide)]
    refine ⟨-1, T1, T3, rfl, ?_, I3.up⟩
    rw [b1, decide_eq_false hl]
    rfl
  have hl := Classical.not_not.mp hl
  rw [decide_eq_false (Nat.not_lt.mpr hl), if_pos (by rfl), worthiest_eq hn I1 N1 hl]
  simp only
  have B3 := mbestOf_eq (n := n) hn I3 C3 (by rw [ep]; exact hl)
  rw [ep, wK_fr f3 (by decide) (by decide)] at B3
  obtain ⟨v, hv0, hv, e1, e2⟩ := I1.2.2.2.2.1.1
  have e3 : gI T3 2061 = nI v := (f3.I (by decide)).trans e2
  have W1 := wow_eq (n := n) hn hc I1.1 I1.2.2.2.2.1
  have WB := wwN_le hc I1.1 I1.2.2.2.2.1
  generalize hS : nsum (fun i => wa T1 i * pN T1 i) (vd T1) = S at W1 WB
  have eS : nsum (fun i => wa T3 i * pN T3 i) (vd T3) = S := by
    rw [← hS, wa_fr f3 (by decide), show vd T3 = vd T1 by unfold vd; rw [f3.I (by decide)]]
    refine nsum_congr (fun i hi => ?_)
    unfold pN
    rw [f3.A (k := 10) (by decide) (by decide)]
  -- the class's quotient and the reference's
  have Q1 : fX10_quotient n (nI S + nI v - 1) (nI v) T1 = some (nI ((S + v - 1) / v), T1) := by
    rw [nI_add, show nI (S + v) - 1 = nI (S + v - 1) from pk_sub (a := S + v) (b := 1) (by omega)]
    exact quot_nI (by omega) (by omega) (by omega)
  have hq : (S + v - 1) / v < 2 ^ 31 := Nat.lt_of_le_of_lt (Nat.div_le_self _ _) (by omega)
  have Q3 : ∀ U, gI U 2061 = nI v → nzl (Int32.toInt64 (gI U 2061)) (some (Int64.toInt32 ((lN S + Int32.toInt64 (gI U 2061) - 1) / Int32.toInt64 (gI U 2061)), U)) = some (nI ((S + v - 1) / v), U) := by
    intro U hU
    unfold nzl
    rw [hU, nI_l (by omega), if_neg (show ¬ lN v = 0 from fun q => by have := (lN_eq (b := 0) (by omega) (by decide)).mp q; omega), lN_add, show lN (S + v) - 1 = lN (S + v - 1) from lN_sub (a := S + v) (b := 1) (by omega), pk_lDiv (by omega) (by omega) (by omega), lN_i]
  have W3 : ∀ kk : Int64 → TS → Option (Int32 × TS), fX11_bound_L50 n kk n 0 0 T3 = kk (lN S) T3 := fun kk => by rw [mwow_eq hn hc I3.1 I3.2.2.2.2.1, eS]
  cases hb : fa (wK T1) (psT T1).length with
  | none =>
    rw [if_pos (show eO none = -1 from rfl), W1]
    simp only
    rw [e1, Q1]
    refine ⟨_, T1, T3, rfl, ?_, I3.up⟩
    rw [b1, decide_eq_true hl]
    simp only
    rw [if_pos (show ¬ b01 true = 0 by decide), B3, hb]
    simp only
    rw [if_pos (show eO none = -1 from rfl), W3]
    exact Q3 T3 e3
  | some b =>
    have hbk := fa_lt hb
    have hne : ¬ eO (some b) = -1 := by
      intro q
      have := congrArg Int32.toInt q
      rw [show (eO (some b)).toInt = (nI b).toInt from rfl, nI_toInt (by omega)] at this
      have e : ((-1 : Int32)).toInt = -1 := rfl
      omega
    have hx := List.getElem?_eq_getElem hbk
    have ok := ps_ok I1.1 hx
    have eW : wN T1 (psT T1)[b] = wK T1 b := by unfold wK; rw [psT_getD hx]
    have g := N1.2.1 hl
    have hW := wN_lt I1.1 I1.2.2.2.2.1 (psT T1)[b]
    have c1 : fX5_codeAt n (eO (some b)) T1 = some (nI (psT T1)[b], T1) := by
      show fX5_codeAt n (nI b) T1 = _
      unfold fX5_codeAt
      rw [if_neg (nI_pos (by omega)), g.2.1, if_neg (nI_ge hbk (by omega)), ck_nI (by omega) (by decide), nI_clamp (by omega), g.2.2 b _ hx]
    have m1 : fX11_worthOf n (67 + b) T3 = some (lN (wK T1 b), T3) := by
      rw [← eW, ← wN_fr f3 (by decide) (by decide)]
      exact mworth_nI hn I3.1 I3.2.2.2.2.1 (by omega) (by omega) (C3.2.2 (by rw [ep]; exact hl) b _ (by rw [ep]; exact hx))
    rw [if_neg hne, c1]
    simp only
    rw [worth_nI hn I1.1 I1.2.2.2.2.1 ok.1, eW]
    simp only
    rw [e1]
    by_cases hle : wK T1 b ≤ v
    · rw [if_pos (nI_le hle (by omega)), W1]
      simp only
      rw [e1, Q1]
      refine ⟨_, T1, T3, rfl, ?_, I3.up⟩
      rw [b1, decide_eq_true hl]
      simp only
      rw [if_pos (show ¬ b01 true = 0 by decide), B3, hb]
      simp only
      rw [if_neg hne, show eO (some b) = nI b from rfl, ck_nI (show b < 3000 by omega) (by decide), nI_clamp (show b < 2 ^ 31 by omega), I3.2.2.2.1.1 b (by omega), m1]
      simp only
      rw [e3, nI_l (by omega), if_pos ((lg_cmp_le _ _).mpr ((lN_le (by omega) (by omega)).mpr hle)), W3]
      exact Q3 T3 e3
    · rw [if_neg (nI_ge (by omega) (by omega))]
      refine ⟨-1, T1, T3, rfl, ?_, I3.up⟩
      rw [b1, decide_eq_true hl]
      simp only
      rw [if_pos (show ¬ b01 true = 0 by decide), B3, hb]
      simp only
      rw [if_neg hne, show eO (some b) = nI b from rfl, ck_nI (show b < 3000 by omega) (by decide), nI_clamp (show b < 2 ^ 31 by omega), I3.2.2.2.1.1 b (by omega), m1]
      simp only
      rw [e3, nI_l (by omega), if_neg (fun q => hle ((lN_le (by omega) (by omega)).mp ((lg_cmp_le _ _).mp q)))]
