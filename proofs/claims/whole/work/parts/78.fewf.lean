/-! ===== fewest: the class's table is the least rolls ===== -/
theorem nd_T (T : TS) (s : Nat) : ndT T s ≤ 1000 := nd_top s
theorem least_eq {n s tr : Nat} {T U : TS} (hn : 10000 ≤ n) (hM : GM T) (hw : ∀ i, i < vd T → wa T i ≤ 40) (h5 : uu (wa T) (vd T) ≤ 5000) (hone : ONE (wa T) (vd T) (PK T) (psT T).length) (h : SO T U s) (h0 : 0 < s) (hF : GF T U tr) (h34 : ∀ t, t < s → gA U 34 t = nI (ndT T t)) (hx : ∀ x c, c < 2 ^ 30 → SO T x s → fX7_indexBehind n (nI c) x = some (nI (bh (wa T) (vd T) s c), x)) : ∃ V, fX7_setLeastHere n U = some V ∧ FR [] [34] 0 0 U V ∧ ∀ t, t < s + 1 → gA V 34 t = nI (ndT T t) := by
  obtain ⟨d1, d2, d6⟩ := hM.d
  have hsc := h.1
  have hs := h.2.1
  have h7 := h.2.2.1
  have h33 := h.2.2.2
  have e55 : gI U 55 = nI (vd T) := (hsc.1.I (by decide)).trans d1
  have hpos : 0 < nsum (wa T) (vd T) := by
    obtain ⟨i, hi, hd⟩ := dg_ne hs h0
    have := dg_le (w := wa T) s i
    have := nsum_ge (f := wa T) hi
    omega
  have hds : dsum (wa T) (vd T) s < 1000 := by
    have : nsum (dg (wa T) s) (vd T) ≤ vd T * 40 := nsum_bd (fun i hi => Nat.le_trans (dg_le s i) (hw i hi))
    unfold dsum
    omega
  obtain ⟨val1, val2⟩ := few_val hone hs h0 hds (F := fun k => FLv T (wa T) (cn (PK T k))) (full_T hM hone hpos)
  unfold fX7_setLeastHere
  generalize hR : rls (wa T) (vd T) (PK T) (psT T).length s (vd T) = R at val1 val2
  have hR1 : R ≤ ndT T s := by rw [← hR]; exact rls_le hs (Nat.le_refl _)
  have hR2 := nd_T T s
  have hrl : ∀ j, j ≤ vd T → rls (wa T) (vd T) (PK T) (psT T).length s j ≤ 1000 := fun j hj => Nat.le_trans (rls_le hs hj) hR2
  let kk : Int32 → TS → Option TS := fun e1_2 T_3 => ck (gI T_3 1507) 5000 (nm (sA T_3 34 (gI T_3 1507) (e1_2 + (1 : Int32))) (fun T_4 => fX7_setLeastHere_L65 n e1_2 (fun T_8 => some T_8) n (0 : Int32) T_4))
  have a1 : fX7_setLeastHere_L4 n kk n 0 0 U = kk (nI R) U := by
    rw [← hR]
    refine lpn (fun f (x : Int32 × Int32) => fX7_setLeastHere_L4 n kk f x.1 x.2 U) (fun j => (nI (rls (wa T) (vd T) (PK T) (psT T).length s j), nI j)) (vd T) _ (fun j hj f => ?_) (fun f => ?_) n (by omega)
    · show fX7_setLeastHere_L4 n kk (f + 1) (nI (rls (wa T) (vd T) (PK T) (psT T).length s j)) (nI j) U = fX7_setLeastHere_L4 n kk f (nI (rls (wa T) (vd T) (PK T) (psT T).length s (j + 1))) (nI (j + 1)) U
      have l1 := dg_le (w := wa T) s j
      have l2 := hw j hj
      rw [fX7_setLeastHere_L4, e55, if_neg (nI_ge hj (by omega)), ck_nI (by omega) (by decide), nI_clamp (show j < 2 ^ 31 by omega), h33 j hj, ck_nI (by omega) (by decide), (hsc.2.1 j hj).2, h7, nI_1, rls]
      by_cases q : dg (wa T) s j = 0
      · rw [if_pos (by rw [q]; decide), if_neg (by omega)]
      · have hle : uu (wa T) j ≤ s := by
          have e := dg_sum hs
          have := nsum_ge (f := fun i => uu (wa T) i * dg (wa T) s i) hj
          have h2 : uu (wa T) j * 1 ≤ uu (wa T) j * dg (wa T) s j := Nat.mul_le_mul_left _ (by omega)
          omega
        have hu := uu_pos (w := wa T) j
        rw [if_neg (nI_nle (by omega) (by omega)), if_pos (by omega), pk_sub hle, ck_nI (by omega) (by decide), nI_clamp (by omega), h34 _ (by omega)]
        simp only [nm]
        rw [imax_nI (by have := hrl j (by omega); omega) (by have := nd_T T (s - uu (wa T) j); omega)]
    · show fX7_setLeastHere_L4 n kk (f + 1) _ (nI (vd T)) U = _
      rw [fX7_setLeastHere_L4, e55, if_pos (nI_le (Nat.le_refl _) (by omega))]
  have a2 : kk (nI R) U = fX7_setLeastHere_L65 n (nI R) (fun T_8 => some T_8) n 0 (sA U 34 (nI s) (nI (R + 1))) := by
    show ck (gI U 1507) 5000 (nm (sA U 34 (gI U 1507) (nI R + 1)) (fun T_4 => fX7_setLeastHere_L65 n (nI R) (fun T_8 => some T_8) n (0 : Int32) T_4)) = _
    rw [h7, ck_nI (by omega) (by decide), nI_1]
    rfl
  rw [a1, a2]
  generalize hW : sA U 34 (nI s) (nI (R + 1)) = W
  have fW : FR [] [34] 0 0 U W := by rw [← hW]; exact FR.sA (Or.inl (by decide))
  have gW : ∀ t, gA W 34 t = if t = s then nI (R + 1) else gA U 34 t := fun t => by rw [← hW, gA_sA_at (by omega)]
  have sW : SO T W s := ⟨hsc.mv fW (by decide) (by decide) (by decide) (by decide), hs, (fW.I (by decide)).trans h7, fun i hi => by rw [fW.A (k := 33) (by decide) (by decide)]; exact h33 i hi⟩
  obtain ⟨f1, f2, f3, f4⟩ := hF
  have w8 : gI W 1508 = nI tr := (fW.I (by decide)).trans f1
  have w35 : gA W 35 = gA U 35 := fW.A (by decide) (by decide)
  have hbd : ∀ c, bh (wa T) (vd T) s c < 5000 := fun c => Nat.lt_of_lt_of_le bh_lt h5
  let X : Nat → Nat := fun t => (gA U 35 t).toNatClampNeg
  have step : ∀ t f, t < tr → (R ≤ ndT T (bh (wa T) (vd T) s (X t)) → fX7_setLeastHere_L65 n (nI R) (fun T_8 => some T_8) (f + 1) (nI t) W = fX7_setLeastHere_L65 n (nI R) (fun T_8 => some T_8) f (nI (t + 1)) W) ∧ (¬ R ≤ ndT T (bh (wa T) (vd T) s (X t)) → fX7_setLeastHere_L65 n (nI R) (fun T_8 => some T_8) (f + 1) (nI t) W = some (sA W 34 (nI s) (nI R))) := by
    intro t f ht
    obtain ⟨k, k1, k2, k3⟩ := f3 t ht
    have ok := (ps_out hM k1).2
    have hxp : PK T k < 2 ^ 30 := ok.1
    have eX : X t = PK T k := by
      show (gA U 35 t).toNatClampNeg = _
      rw [k3, nI_clamp (by omega)]
    rw [eX]
    have hb := hbd (PK T k)
    have hle := bh_le (c := PK T k) hs
    rw [fX7_setLeastHere_L65, w8, if_neg (nI_ge ht (by omega)), ck_nI (by omega) (by decide), nI_clamp (by omega), w35, k3, hx W _ hxp sW]
    simp only [bd, nm]
    rw [ck_nI hb (by decide), nI_clamp (by omega), sW.2.2.1, ck_nI (by omega) (by decide), gW, nI_1]
    by_cases q : bh (wa T) (vd T) s (PK T k) = s
    · rw [if_pos q, if_pos (nI_le (Nat.le_succ R) (by omega)), q]
      exact ⟨fun _ => rfl, fun z => absurd hR1 z⟩
    · rw [if_neg q, h34 _ (by omega)]
      have hb2 := nd_T T (bh (wa T) (vd T) s (PK T k))
      by_cases q2 : R ≤ ndT T (bh (wa T) (vd T) s (PK T k))
      · rw [if_pos (nI_le q2 (by omega))]
        exact ⟨fun _ => rfl, fun z => absurd q2 z⟩
      · rw [if_neg (nI_ge (by omega) (by omega))]
        exact ⟨fun z => absurd z q2, fun _ => rfl⟩
  rcases lps (fun f t => fX7_setLeastHere_L65 n (nI R) (fun T_8 => some T_8) f t W) tr (some W) (fun _ => some (sA W 34 (nI s) (nI R))) (fun t => R ≤ ndT T (bh (wa T) (vd T) s (X t))) (fun t ht hp f => (step t f ht).1 hp) (fun t ht hp f => (step t f ht).2 hp) (fun f => by
    show fX7_setLeastHere_L65 n _ _ (f + 1) (nI tr) W = _
    rw [fX7_setLeastHere_L65, w8, if_pos (nI_le (Nat.le_refl _) (by omega))]) n (by omega) with ⟨t, t1, t2, -, t4⟩ | ⟨t1, t2⟩
  · refine ⟨_, t4, fW.trans (FR.sA (Or.inl (by decide))), fun u hu => ?_⟩
    obtain ⟨k, k1, k2, k3⟩ := f3 t t1
    have hxp : PK T k < 2 ^ 30 := (ps_out hM k1).2.1
    have eX : X t = PK T k := by
      show (gA U 35 t).toNatClampNeg = _
      rw [k3, nI_clamp (by omega)]
    rw [eX] at t2
    have ev := val1 ⟨k, k1, k2, Nat.lt_of_not_le t2⟩
    rw [gA_sA_at (by omega)]
    by_cases q : u = s
    · rw [if_pos q, q, ← ev]
    · rw [if_neg q, gW, if_neg q]
      exact h34 u (by omega)
  · refine ⟨W, t2, fW, fun u hu => ?_⟩
    have ev := val2 (fun z => by
      obtain ⟨k, k1, k2, k3⟩ := z
      obtain ⟨t, ht, e⟩ := f4 k k1 k2
      have hxp : PK T k < 2 ^ 30 := (ps_out hM k1).2.1
      have eX : X t = PK T k := by
        show (gA U 35 t).toNatClampNeg = _
        rw [e, nI_clamp (by omega)]
      have := t1 t ht
      rw [eX] at this
      exact absurd k3 (Nat.not_lt.mpr this))
    rw [gW]
    by_cases q : u = s
    · rw [if_pos q, q, ← ev]
    · rw [if_neg q]
      exact h34 u (by omega)
/-- solved: at state s -/
def SV (T U : TS) (s : Nat) : Prop := SO T U s ∧ ∀ t, t < uu (wa T) (vd T) → gA U 34 t = nI (ndT T t)
theorem solve_eq {n c : Nat} {T U : TS} (hn : 10000 ≤ n) (hM : GM T) (hO : GO c T) (hc : c ≤ 520) (hN : NUM T) (hl : (psT T).length ≤ 3000) (h5 : uu (wa T) (vd T) ≤ 5000) (hone : ONE (wa T) (vd T) (PK T) (psT T).length) (h : SC T U) : ∃ V, fX7_solve n U = some V ∧ SV T V (uu (wa T) (vd T) - 1) := by
  obtain ⟨d1, d2, d6⟩ := hM.d
  have hw : ∀ i, i < vd T → wa T i ≤ 40 := fun i hi => uu_wa hM hO hc n hi
  have hu := uu_pos (w := wa T) (vd T)
  obtain ⟨A, tr, a1, sA1, gF⟩ := gather_eq hn hM hN hl h hw
  unfold fX7_solve
  rw [a1]
  simp only [bv]
  -- nothing is open
  have z33 : ∃ B, FR [] [33] 0 0 A B ∧ (∀ i, i < vd T → gA B 33 i = nI 0) ∧ (fun kk => fX7_solve_L7 n kk n 0 A) = fun kk => kk B := by
    refine lpi (fun f (s : Int32 × TS) kk => fX7_solve_L7 n kk f s.1 s.2) (fun j s => s.1 = nI j ∧ FR [] [33] 0 0 A s.2 ∧ ∀ i, i < j → gA s.2 33 i = nI 0) (vd T) (fun r => ∃ B, FR [] [33] 0 0 A B ∧ (∀ i, i < vd T → gA B 33 i = nI 0) ∧ r = fun kk => kk B) ?_ ?_ n (0, A) (by omega) ⟨rfl, FR.rf, fun i hi => by omega⟩
    · rintro j ⟨a, V⟩ hj ⟨e, fV, g⟩
      simp only at e fV g
      subst e
      refine ⟨(nI (j + 1), sA V 33 (nI j) 0), ⟨rfl, fV.trans (FR.sA (Or.inl (by decide))), fun i hi => ?_⟩, fun f => funext fun kk => ?_⟩
      · show gA (sA V 33 (nI j) 0) 33 i = nI 0
        rw [gA_sA_at (by omega)]
        by_cases q : i = j
        · rw [if_pos q]; rfl
        · rw [if_neg q]; exact g i (by omega)
      · show fX7_solve_L7 n kk (f + 1) (nI j) V = _
        rw [fX7_solve_L7, fV.I (k := 55) (by decide), sA1.1.I (k := 55) (by decide), d1, if_neg (nI_ge hj (by omega)), ck_nI (by omega) (by decide)]
        simp only [nm]
        rw [nI_1]
    · rintro ⟨a, V⟩ ⟨e, fV, g⟩ f
      simp only at e fV g
      subst e
      refine ⟨V, fV, g, funext fun kk => ?_⟩
      show fX7_solve_L7 n kk (f + 1) (nI (vd T)) V = _
      rw [fX7_solve_L7, fV.I (k := 55) (by decide), sA1.1.I (k := 55) (by decide), d1, if_pos (nI_le (Nat.le_refl _) (by omega))]
  obtain ⟨B, fB, gB, eB⟩ := z33
  rw [congrFun eB]
  rw [show ck (0 : Int32) 5000 = ck (nI 0) 5000 from rfl]
  rw [ck_nI (by decide) (by decide)]
  simp only [nm]
  have fC : FR [] [33, 34] 0 0 A (sA B 34 0 0) := (fB.mono (by decide) (by decide) (fun _ => by omega)).trans (FR.sA (Or.inl (by decide)))
  refine lpi (fun f (s : Int32 × TS) => fX7_solve_L40 n (fun T_11 => some (uI T_11 1507 ((gI T_11 1506) - (1 : Int32)))) f s.1 s.2) (fun j s => s.1 = nI (j + 1) ∧ SC T s.2 ∧ GF T s.2 tr ∧ (∀ i, i < vd T → gA s.2 33 i = nI (dg (wa T) j i)) ∧ ∀ t, t < j + 1 → gA s.2 34 t = nI (ndT T t)) (uu (wa T) (vd T) - 1) (fun r => ∃ V, r = some V ∧ SV T V (uu (wa T) (vd T) - 1)) ?_ ?_ n (1, sA B 34 0 0) (by omega) ⟨rfl, sA1.mv fC (by decide) (by decide) (by decide) (by decide), gF.mv fC (by decide) (by decide), fun i hi => ?_, fun t ht => ?_⟩
  · rintro j ⟨a, V⟩ hj ⟨e, sV, gV, g33, g34⟩
    simp only at e sV gV g33 g34
    subst e
    have f1 : FR [1507] [33, 34] 0 0 V (uI V 1507 (nI (j + 1))) := FR.uI (by decide)
    have s1 : SC T (uI V 1507 (nI (j + 1))) := sV.mv f1 (by decide) (by decide) (by decide) (by decide)
    obtain ⟨V2, b1, b2, b3⟩ := more_eq (n := n) (s := j) (by omega) hM s1 hw (by omega) (fun i hi => by rw [gA_uI]; exact g33 i hi)
    have f2 : FR [1507] [33, 34] 0 0 V V2 := f1.trans (b2.mono (by decide) (by decide) (fun _ => by omega))
    have s2 : SC T V2 := sV.mv f2 (by decide) (by decide) (by decide) (by decide)
    have so2 : SO T V2 (j + 1) := ⟨s2, by omega, (b2.I (by decide)).trans (gI_uI _ _ _), b3⟩
    obtain ⟨V3, c1, c2, c3⟩ := least_eq (n := n) (tr := tr) hn hM hw h5 hone so2 (by omega) (gV.mv f2 (by decide) (by decide)) (fun t ht => by
      rw [b2.A (k := 34) (by decide) (by decide), gA_uI]
      exact g34 t (by omega)) (fun x cc hcc hso => idx_eq (by omega) hM hO hc h5 hso hcc)
    have f3 : FR [1507] [33, 34] 0 0 V V3 := f2.trans (c2.mono (by decide) (by decide) (fun _ => by omega))
    refine ⟨(nI (j + 1 + 1), V3), ⟨rfl, sV.mv f3 (by decide) (by decide) (by decide) (by decide), gV.mv f3 (by decide) (by decide), fun i hi => ?_, c3⟩, fun f => ?_⟩
    · show gA V3 33 i = _
      rw [c2.A (k := 33) (by decide) (by decide)]
      exact b3 i hi
    · show fX7_solve_L40 n _ (f + 1) (nI (j + 1)) V = _
      rw [fX7_solve_L40, sV.2.2, if_neg (nI_ge (by omega) (by omega))]
      simp only [nm]
      rw [b1]
      simp only [bv]
      rw [c1]
      simp only [bv]
      rw [nI_1]
  · rintro ⟨a, V⟩ ⟨e, sV, gV, g33, g34⟩ f
    simp only at e sV gV g33 g34
    subst e
    have f1 : FR [1507] [33, 34] 0 0 V (uI V 1507 (nI (uu (wa T) (vd T) - 1))) := FR.uI (by decide)
    refine ⟨uI V 1507 (nI (uu (wa T) (vd T) - 1)), ?_, ⟨sV.mv f1 (by decide) (by decide) (by decide) (by decide), by omega, gI_uI _ _ _, fun i hi => by rw [gA_uI]; exact g33 i hi⟩, fun t ht => by rw [gA_uI]; exact g34 t (by omega)⟩
    show fX7_solve_L40 n _ (f + 1) (nI (uu (wa T) (vd T) - 1 + 1)) V = _
    rw [fX7_solve_L40, sV.2.2, if_pos (nI_le (by omega) (by omega)), nI_prd (by omega)]
  · show gA (sA B 34 0 0) 33 i = _
    rw [zA_sA, if_neg (show ¬ (33 : Nat) = 34 by decide), dg_0]
    exact gB i hi
  · show gA (sA B 34 (nI 0) 0) 34 t = _
    rw [gA_sA_at (by decide), if_pos (by omega), show t = 0 by omega]
    show (0 : Int32) = nI (ndT T 0)
    rw [show ndT T 0 = 0 from nd_0]
    rfl
