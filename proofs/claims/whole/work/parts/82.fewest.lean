/-! ===== fewest: both ===== -/
theorem fout_eq {T V : TS} (h1 : wa V = wa T) (h2 : vd V = vd T) (h3 : psT V = psT T) : ∀ q s D, fout V q s D = fout T q s D := by
  have hP : PK V = PK T := by funext k; unfold PK; rw [h3]
  have hn : ndT V = ndT T := by unfold ndT; rw [h1, h2, h3, hP]
  have hb : ∀ s k, bhT V s k = bhT T s k := fun s k => by unfold bhT; rw [h1, h2, hP]
  have hf : ∀ s, fkT V s = fkT T s := fun s => by
    unfold fkT
    rw [hn, h3]
    congr 1
    funext k
    rw [hb]
  intro q
  induction q with
  | zero => intro s D; rfl
  | succ q ih =>
    intro s D
    unfold fout
    rw [hP, hf, hb]
    cases ar D (PK T (fkT T s)) with
    | none => rfl
    | some D' => exact ih _ _
theorem eq_fewest {n c : Nat} {T : TS} (hn : 10000 ≤ n) (hc : c ≤ 520) (hI : Inv c T) : Both c (fX10_fewest n) (fX11_fewest n) T := by
  obtain ⟨T1, T3, a1, N1, I1, b1, C3, I3, f3⟩ := both_nums (n := n) hn hI
  unfold Both fX10_fewest fX11_fewest
  simp only [nm]
  rw [a1]
  simp only [bd]
  by_cases hl : (psT T1).length ≤ 3000
  case neg =>
    rw [decide_eq_true (show 3000 < (psT T1).length by omega)]
    rw [decide_eq_false hl] at b1
    refine ⟨-4, T1, T3, ?_, ?_, I3.up⟩
    · rw [if_pos (show ¬ b01 true = 0 by decide)]
    · rw [b1]
      simp only [bd]
      rw [if_neg (fun z => z rfl)]
  clear b1 C3 I3 f3 T3 a1
  rw [decide_eq_false (show ¬ 3000 < (psT T1).length by omega), if_neg (show ¬ ¬ b01 false = 0 from fun z => z rfl), countF N1 hl (FR.rf (T := T1))]
  simp only [bd]
  have hM := I1.1
  have hO := I1.2.2.2.2.1
  obtain ⟨d1, d2, d6⟩ := hM.d
  have hw : ∀ i, i < vd T1 → wa T1 i ≤ 40 := fun i hi => uu_wa hM hO hc n hi
  -- what the reference does first, from any state the class leaves
  have ref : ∀ (U : TS) (is as : List Nat), FR is as 0 0 T1 U → (∀ k ∈ iPl, k ∉ is) → (∀ k ∈ aPl, k ∉ as) → (∀ k ∈ as, k < 67) → ∃ V V2, fX11_isNumbered n (uI U 2050 0) = some (1, V) ∧ (fun kk => fX11_fewest_L19 n kk n 1 0 V) = (fun kk => kk (lN (ub (wa T1) (vd T1))) V2) ∧ InvP c V2 ∧ CNT V2 ∧ wa V2 = wa T1 ∧ vd V2 = vd T1 ∧ psT V2 = psT T1 ∧ (∀ i, i < vd T1 → gA V2 57 i = nI (min 10000 (ub (wa T1) i))) ∧ FR [2050, 2063, 2064] [47, 57] 67 3067 U V2 := by
    intro U is as fU h1 h2 h3
    have iU : InvP c U := I1.p.fr (Nat.le_refl c) fU h1 h2 (Or.inr (Or.inr (Nat.le_refl 0))) h3
    have f2 : FR [2050] [] 0 0 U (uI U 2050 0) := FR.uI (by decide)
    have iU2 : InvP c (uI U 2050 0) := iU.fr (Nat.le_refl c) f2 (by decide) (by decide) (Or.inr (Or.inr (Nat.le_refl 0))) (by decide)
    obtain ⟨V, v1, v2, v3⟩ := mnum_eq (n := n) (T := uI U 2050 0) hn iU2.1 iU2.2.2.2.2.2.2.2.2.2 iU2.2.2.2.1
    have iV : InvP c V := iU2.cnt v2 v3
    have eps0 : psT U = psT T1 := psT.mv (fun k hk => fU.1 k (h1 k (by
      simp only [List.mem_cons, List.not_mem_nil, or_false] at hk ⊢
      omega))) (fU.2.1 2 (h2 2 (by decide)) (by omega))
    have ewa0 : wa U = wa T1 := wa_fr fU (fun k hk => ⟨h2 k (by
      simp only [List.mem_cons, List.not_mem_nil, or_false] at hk ⊢
      omega), by omega⟩)
    have evd0 : vd U = vd T1 := by unfold vd; rw [fU.1 55 (h1 55 (by decide))]
    have fUV : FR [2050, 2063, 2064] [47, 57] 67 3067 U V := (f2.mono (by decide) (by decide) (fun _ => by omega)).trans (v2.mono (by decide) (by decide) (fun _ => by omega))
    obtain ⟨V2, w1, w2, w3⟩ := units_eq (n := n) (T := V) (by omega) iV.1 iV.2.2.2.2.1 hc
    have ewa : wa V = wa T1 := (wa_fr fUV (by decide)).trans ewa0
    have evd : vd V = vd T1 := by
      refine Eq.trans ?_ evd0
      unfold vd
      rw [fUV.I (by decide)]
    have eps : psT V = psT T1 := (ps_fr fUV (by decide) (by decide)).trans eps0
    have ewa2 : wa V2 = wa T1 := (wa_fr w1 (by decide)).trans ewa
    have evd2 : vd V2 = vd T1 := by
      refine Eq.trans ?_ evd
      unfold vd
      rw [w1.I (by decide)]
    have eps2 : psT V2 = psT T1 := (ps_fr w1 (by decide) (by decide)).trans eps
    rw [ewa, evd] at w2 w3
    rw [ps_fr f2 (by decide) (by decide), eps0, decide_eq_true hl] at v1
    refine ⟨V, V2, v1, w3, iV.fr (Nat.le_refl c) w1 (by decide) (by decide) (Or.inr (Or.inr (Nat.le_refl 0))) (by decide), ?_, ewa2, evd2, eps2, w2, fUV.trans (w1.mono (by decide) (by decide) (fun _ => by omega))⟩
    obtain ⟨c1, c2, c3⟩ := v3
    refine ⟨(w1.I (by decide)).trans c1, ?_, fun hl' k x hk i hi => ?_⟩
    · rw [w1.I (by decide), eps2, ← eps]
      exact c2
    · rw [w1.A (k := 67 + k) (by simp only [List.mem_cons, List.not_mem_nil, or_false]; omega) (by omega)]
      rw [eps2, ← eps] at hk hl'
      exact c3 hl' k x hk i hi
  have invQ : ∀ V U, InvP c V → FR [2050, 2063, 2064] [47, 57] 67 3067 U V → FR isQ asQ 0 0 T1 U → Inv (c + 1) V := by
    intro V U hV hf fU
    refine ((hV.fr (c' := c + 1) (Nat.le_succ c) (FR.rf (is := []) (as := []) (lo := 0) (hi := 0)) (by decide) (by decide) (Or.inr (Or.inr (Nat.le_refl 0))) (by decide)).gs ?_)
    exact (I1.2.1.fr fU (by decide) (by decide) ⟨by decide, Or.inl (by decide)⟩).fr hf (by decide) (by decide) ⟨by decide, Or.inl (by decide)⟩
  have em : ∀ V, CNT V → psT V = psT T1 → gI V 2064 = nI (psT T1).length := fun V hV e => by rw [hV.2.1, e, Nat.min_eq_left (by omega)]
  have hub : ub (wa T1) (vd T1) ≤ 10000000 := Nat.min_le_left _ _
  rcases start_eq (n := n) (m := (psT T1).length) (by omega) hM hO hc hl with ⟨h5, h2M, U, s1, sU⟩ | ⟨hno, U, s1, fU⟩
  case inr =>
    rw [s1]
    simp only [bd]
    rw [if_neg (fun z => z trivial)]
    obtain ⟨V, V2, r1, r2, r3, r4, r5, r6, r7, r8, r9⟩ := ref U isQ asQ fU (by decide) (by decide) (by decide)
    refine ⟨-4, U, V2, rfl, ?_, invQ V2 U r3 r9 fU⟩
    rw [r1]
    simp only [bd]
    rw [if_pos (show ¬ (1 : Int32) = 0 by decide), congrFun r2]
    by_cases q : uu (wa T1) (vd T1) ≤ 5000
    · have e : ub (wa T1) (vd T1) = uu (wa T1) (vd T1) := Nat.min_eq_right (by omega)
      have hb : uu (wa T1) (vd T1) * (psT T1).length ≤ 5000 * 3000 := Nat.mul_le_mul q hl
      rw [e, if_neg (fun z => by
        have := (lN_lt (a := 5000) (by decide) (by omega)).mp ((lg_cmp_gt _ _).mp z)
        omega), em V2 r4 r7, nI_l (by omega), lN_mul, if_neg (fun z => by
        have := (lN_le (b := 2000000) (by omega) (by decide)).mp ((lg_cmp_le _ _).mp z)
        exact hno ⟨q, this⟩)]
    · have e : 5000 < ub (wa T1) (vd T1) := by unfold ub; omega
      rw [if_pos (show 0 < lg_cmp (lN (ub (wa T1) (vd T1))) 5000 from (lg_cmp_gt _ _).mpr ((lN_lt (a := 5000) (by decide) (by omega)).mpr e))]
  have hup := uu_pos (w := wa T1) (vd T1)
  have eub : ub (wa T1) (vd T1) = uu (wa T1) (vd T1) := Nat.min_eq_right (by omega)
  have g1 : ¬ 0 < lg_cmp (lN (uu (wa T1) (vd T1))) 5000 := fun z => by
    have := (lN_lt (a := 5000) (by decide) (by omega)).mp ((lg_cmp_gt _ _).mp z)
    omega
  have g2 : lg_cmp (lN (uu (wa T1) (vd T1)) * (nI (psT T1).length).toInt64) 2000000 ≤ 0 := by
    rw [nI_l (by omega), lN_mul]
    exact (lg_cmp_le _ _).mpr ((lN_le (b := 2000000) (by omega) (by decide)).mpr h2M)
  rw [s1]
  simp only [bd]
  rw [if_pos (show ¬ (1 : Int32) = 0 by decide)]
  have hMU : GM U := hM.fr sU.1 (by decide) (by decide)
  have hOU : GO c U := hO.fr (Nat.le_refl c) sU.1 (by decide) (by decide)
  have evU : vd U = vd T1 := by unfold vd; rw [sU.1.I (by decide)]
  rcases tw_eq (n := n) (T := U) (by omega) hMU hOU hc with ⟨⟨j, hj, htw⟩, t2⟩ | ⟨hno, t2⟩
  · -- one is too wide
    rw [t2]
    simp only [bd]
    rw [if_neg (show ¬ (1 : Int32) = 0 by decide)]
    obtain ⟨V, V2, r1, r2, r3, r4, r5, r6, r7, r8, r9⟩ := ref U isQ asQ sU.1 (by decide) (by decide) (by decide)
    refine ⟨-2, U, V2, rfl, ?_, invQ V2 U r3 r9 sU.1⟩
    rw [r1]
    simp only [bd]
    rw [if_pos (show ¬ (1 : Int32) = 0 by decide), congrFun r2, eub, if_neg g1, em V2 r4 r7, if_pos g2]
    rcases mtw_eq (n := n) (T := V2) (c := c) (by omega) r3.1 r3.2.2.2.2.1 hc with ⟨-, e2⟩ | ⟨hno2, -⟩
    · rw [e2]
      simp only [bd]
      rw [if_neg (show ¬ (1 : Int32) = 0 by decide)]
    · exact absurd ((tw_fr r9 (by decide) (by decide) j).mpr htw) (hno2 j (by rw [r6, ← evU]; exact hj))
  rw [t2]
  simp only [bd]
  rw [if_pos trivial]
  have hno1 : ∀ i, i < vd T1 → ¬ TW T1 i := fun i hi z => hno i (by rw [evU]; exact hi) ((tw_fr sU.1 (by decide) (by decide) i).mpr z)
  have hone := one_T (c := c) hM hno1
  obtain ⟨A, p1, p2⟩ := solve_eq (n := n) hn hM hO hc N1 hl h5 hone sU
  rw [p1]
  simp only [bv]
  rw [left_eq h5 p2]
  simp only [bd]
  generalize hR : ndT T1 (uu (wa T1) (vd T1) - 1) = R
  have hR1 : R ≤ 1000 := by rw [← hR]; exact nd_T T1 _
  unfold fX10_draftFewest fX8_clear_17
  simp only [nm, bv]
  let D0 : Dr := (0, fun _ => 0, fun _ => 0)
  have hD0 : OKD (vd T1) D0 := ⟨Nat.zero_le _, fun k hk => absurd hk (Nat.not_lt_zero k)⟩
  have pB : SV T1 (uI A 850 0) (uu (wa T1) (vd T1) - 1) := p2.mv (FR.uI (is := [850]) (as := []) (by decide)) (by decide) (by decide) (by decide) (by decide) (by decide)
  -- the reference's way, from a state that the class leaves
  have mref : ∀ (U : TS) (is as : List Nat), FR is as 0 0 T1 U → (∀ k ∈ iPl, k ∉ is) → (∀ k ∈ aPl, k ∉ as) → (∀ k ∈ as, k < 67) → ∃ V, InvP c V ∧ vd V = vd T1 ∧ ((fout T1 R (uu (wa T1) (vd T1) - 1) D0 = none ∧ fX11_fewest n U = some (-3, V)) ∨ ∃ D', fout T1 R (uu (wa T1) (vd T1) - 1) D0 = some D' ∧ fX11_fewest n U = bd (fX11_becomes n V) (fun r_33 T_32 => some (r_33, T_32)) ∧ DM V D') ∧ FR [2050, 2063, 2064, 2070] [47, 57, 51, 56] 67 3187 U V ∧ (∀ k, 3067 ≤ k → k < 3127 → gA V k = gA U k) := by
    intro U is as fU h1 h2 h3
    obtain ⟨V, V2, r1, r2, r3, r4, r5, r6, r7, r8, r9⟩ := ref U is as fU h1 h2 h3
    have eP : PK V2 = PK T1 := by funext k; unfold PK; rw [r7]
    have en : ndT V2 = ndT T1 := by unfold ndT; rw [r5, r6, r7, eP]
    have hMC0 : MC c V2 := ⟨r3.1, r3.2.2.2.2.1, hc, r4, by rw [r7]; exact hl, r3.2.2.2.1, by rw [r5, r6]; exact h5, by rw [r5, r6, r7, eP]; exact hone, fun i hi => by
      rw [r6] at hi
      rw [r8 i hi, r5]
      have : uu (wa T1) i ≤ uu (wa T1) (vd T1) := uu_le (by omega)
      congr 1
      unfold ub
      omega⟩
    have e2 : fX11_isTooWide n V2 = some (0, V2) := by
      rcases mtw_eq (n := n) (T := V2) (c := c) (by omega) r3.1 r3.2.2.2.2.1 hc with ⟨⟨j, hj, htw⟩, -⟩ | ⟨-, e2⟩
      · have fT : TW V2 j ↔ TW U j := tw_fr r9 (by decide) (by decide) j
        have fT2 : TW U j ↔ TW T1 j := by
          unfold TW wa rm vw ve vm
          rw [fU.2.1 8 (h2 8 (by decide)) (by omega), fU.2.1 9 (h2 9 (by decide)) (by omega), fU.1 50 (h1 50 (by decide)), fU.1 51 (h1 51 (by decide)), fU.2.1 2 (h2 2 (by decide)) (by omega)]
        exact absurd (fT2.mp (fT.mp htw)) (hno1 j (by rw [← r6]; exact hj))
      · exact e2
    have fB0 : FR isR asR 3127 3187 V2 (sA V2 56 0 0) := FR.sA (Or.inl (by decide))
    obtain ⟨W, w1, w2, w3⟩ := m108 (n := n) (U := sA V2 56 0 0) hn hMC0 fB0 (by
      show gA (sA V2 56 (nI 0) 0) 56 0 = 0
      rw [gA_sA_at (by decide), if_pos rfl])
    rw [r5, r6] at w2 w3
    have fW : FR isR asR 3127 3187 V2 (uI W 2070 0) := (fB0.trans (w1.mono (by decide) (by decide) (fun _ => by omega))).trans (FR.uI (by decide))
    have unf : fX11_fewest n U = fX11_fewest_L202 n (fun T_31 => bd (fX11_becomes n T_31) (fun r_33 T_32 => some (r_33, T_32))) n (nI (uu (wa T1) (vd T1) - 1)) (uI W 2070 0) := by
      unfold fX11_fewest
      simp only [nm]
      rw [r1]
      simp only [bd]
      rw [if_pos (show ¬ (1 : Int32) = 0 by decide), congrFun r2, eub, if_neg g1, em V2 r4 r7, if_pos g2, e2]
      simp only [bd]
      rw [if_pos trivial, show ck (0 : Int32) 5000 = ck (nI 0) 5000 from rfl, ck_nI (by decide) (by decide), congrFun w3, lN_i, nI_prd hup]
    have fin : ∀ V, FR isR asR 3127 3187 V2 V → InvP c V ∧ vd V = vd T1 ∧ FR [2050, 2063, 2064, 2070] [47, 57, 51, 56] 67 3187 U V ∧ (∀ k, 3067 ≤ k → k < 3127 → gA V k = gA U k) := by
      intro V hV
      refine ⟨r3.fr (Nat.le_refl c) hV (by decide) (by decide) (Or.inl ⟨by decide, by decide⟩) (by decide), ?_, (r9.mono (by decide) (by decide) (fun _ => by omega)).trans (hV.mono (by decide) (by decide) (fun _ => by omega)), fun k k1 k2 => ?_⟩
      · rw [← r6]
        unfold vd
        rw [hV.I (by decide)]
      · rw [hV.A (k := k) (by simp only [List.mem_cons, List.not_mem_nil, or_false]; omega) (by omega), r9.A (k := k) (by simp only [List.mem_cons, List.not_mem_nil, or_false]; omega) (by omega)]
    have fo := fout_eq r5 r6 r7
    rcases m202 (n := n) (T := V2) (kk := fun T_31 => bd (fX11_becomes n T_31) (fun r_33 T_32 => some (r_33, T_32))) hn hMC0 R (uu (wa T1) (vd T1) - 1) D0 (uI W 2070 0) n (by rw [en]; exact hR) (by rw [r5, r6]; omega) (by omega) fW (fun t ht => by
      rw [gA_uI]
      rw [r5, r6] at ht
      exact w2 t ht) (by rw [r6]; exact hD0) ⟨gI_uI _ _ _, fun k hk => absurd hk (Nat.not_lt_zero k)⟩ with ⟨q1, V3, q2, q3⟩ | ⟨D', V3, q1, q2, q3, q4⟩
    · obtain ⟨y1, y2, y3, y4⟩ := fin V3 q3
      exact ⟨V3, y1, y2, Or.inl ⟨(fo _ _ _).symm.trans q1, unf.trans q2⟩, y3, y4⟩
    · obtain ⟨y1, y2, y3, y4⟩ := fin V3 q3
      exact ⟨V3, y1, y2, Or.inr ⟨D', (fo _ _ _).symm.trans q1, unf.trans q2, q4⟩, y3, y4⟩
  have upP : ∀ V, InvP c V → InvP (c + 1) V := fun V hV => hV.fr (Nat.le_succ c) (FR.rf (is := []) (as := []) (lo := 0) (hi := 0)) (by decide) (by decide) (Or.inr (Or.inr (Nat.le_refl 0))) (by decide)
  rcases dloop (n := n) (R := R) (T := T1) (kk := fun T_11 => rz (1 : Int32) T_11) hn hM hO hc N1 hl h5 hone hR1 R (uu (wa T1) (vd T1) - 1) 0 D0 (uI A 850 0) n hR (by omega) pB (fun j hj => by omega) hD0 ⟨gI_uI _ _ _, fun k hk => absurd hk (Nat.not_lt_zero k)⟩ (by show 0 + R = R; omega) with ⟨q1, V, q2, q3⟩ | ⟨D', V, q1, q2, q3, q4, q5, q6⟩
  · refine ⟨-3, V, ?_⟩
    obtain ⟨W, w1, w2, w3, w4, w5⟩ := mref V isQ asQ q3 (by decide) (by decide) (by decide)
    rcases w3 with ⟨z1, z2⟩ | ⟨D', z1, -, -⟩
    · refine ⟨W, ?_, z2, (upP W w1).gs ?_⟩
      · rw [show fX10_draftFewest_L11 n (nI R) (fun T_11 => rz (1 : Int32) T_11) n (0 : Int32) (0 : Int32) (uI A 850 0) = some (0, V) from q2]
        simp only [bd]
        rw [if_neg (fun z => z trivial)]
      · have gV : GS V := I1.2.1.fr q3 (by decide) (by decide) ⟨by decide, Or.inl (by decide)⟩
        exact gV.mv (fun k hk => w4.1 k (by simp only [List.mem_cons, List.not_mem_nil, or_false] at hk ⊢; omega)) (fun k hk => w4.2.1 k (by simp only [List.mem_cons, List.not_mem_nil, or_false] at hk ⊢; omega) (by simp only [List.mem_cons, List.not_mem_nil, or_false] at hk; omega)) (fun k a b => w5 k a b) (w4.O 48)
    · rw [q1] at z1
      cases z1
  · obtain ⟨V2, v1, v2, v3, v4⟩ := cp_11_17 (n := n) (m := D'.1) (T := V) hn q4.1 q5.1
    obtain ⟨W, w1, w2, w3, w4, w5⟩ := mref V2 ([550] ++ isQ) ([12, 13] ++ asQ) ((q3.mono (by decide) (by decide) (fun _ => by omega)).trans (v2.mono (by decide) (by decide) (fun _ => by omega))) (by decide) (by decide) (by decide)
    rcases w3 with ⟨z1, -⟩ | ⟨D2, z1, z2, z3⟩
    · rw [q1] at z1
      cases z1
    · rw [q1] at z1
      cases z1
      obtain ⟨Z, y1, y2⟩ := plan_w (n := n) (D := D') hn (upP W w1) (by rw [w2]; exact q5) (by omega) ((w4.I (by decide)).trans v3) (fun k hk => by
        rw [w4.A (k := 12) (by decide) (by decide), w4.A (k := 13) (by decide) (by decide), (v4 k hk).1, (v4 k hk).2]
        exact q4.2 k hk) z3
      refine ⟨nI R, V2, Z, ?_, ?_, y2⟩
      · rw [show fX10_draftFewest_L11 n (nI R) (fun T_11 => rz (1 : Int32) T_11) n (0 : Int32) (0 : Int32) (uI A 850 0) = some (1, V) from q2]
        simp only [bd]
        rw [if_pos (show ¬ (1 : Int32) = 0 by decide), v1]
      · refine Eq.trans (show _ = fX11_fewest n V2 from rfl) ?_
        rw [z2, y1, q6]
        rfl
