/-! ===== fewest: the class, its table ===== -/
theorem imax_0s {a b : Nat} (ha : a < 2 ^ 30) (hb : b < 2 ^ 30) : imax 0 (nI a - nI b) = nI (a - b) := by
  rcases Nat.lt_or_ge a b with q | q
  · have h := pk_sneg hb q
    unfold imax
    rw [show a - b = 0 by omega, if_neg (by
      rw [i_lt_int]
      rw [i_lt_int] at h
      omega)]
    rfl
  · rw [pk_sub q]
    exact (imax_nI (a := 0) (b := a - b) (by omega) (by omega)).trans (by rw [Nat.zero_max])
theorem codeF {n k : Nat} {T U : TS} (hN : NUM T) (hl : (psT T).length ≤ 3000) (f : FR isQ asQ 0 0 T U) (hk : k < (psT T).length) : fX5_codeAt n (nI k) U = some (nI (PK T k), U) := by
  obtain ⟨n1, n2, n3⟩ := hN
  obtain ⟨m1, m2, m3⟩ := n2 hl
  unfold fX5_codeAt
  rw [if_neg (nI_pos (by omega)), f.I (k := 202) (by decide), m2, if_neg (nI_ge hk (by omega)), ck_nI (by omega) (by decide), nI_clamp (by omega), f.A (k := 5) (by decide) (by decide), m3 k _ (List.getElem?_eq_getElem hk)]
  unfold PK
  rw [psT_getD (List.getElem?_eq_getElem hk)]
theorem countF {n : Nat} {T U : TS} (hN : NUM T) (hl : (psT T).length ≤ 3000) (f : FR isQ asQ 0 0 T U) : fX5_count n U = some (nI (psT T).length, U) := by
  obtain ⟨n1, n2, n3⟩ := hN
  unfold fX5_count fX5_refresh
  rw [f.I (k := 204) (by decide), n1]
  rw [if_neg (show ¬ ¬ (0 : Int32) = 0 from fun q => q rfl)]
  simp only [bv]
  rw [f.I (k := 202) (by decide), (n2 hl).2.1]
theorem okc_sum {d x : Nat} (h : okc d x) (hd : d ≤ 6) : pcs x = nsum (cn x) d := by
  rw [pcs_sum, show 6 = d + (6 - d) by omega, nsum_split, nsum_zero (f := fun j => cn x (d + j)) (fun i hi => h.2.1 (d + i) (by omega) (by omega))]
  rfl
theorem full_eq {n k : Nat} {T U : TS} (hn : 100 ≤ n) (hM : GM T) (h : SC T U) (hw : ∀ i, i < vd T → wa T i ≤ 40) (hk : k < (psT T).length) : (FLv T (wa T) (cn (PK T k)) ∧ fX7_isFullest n (nI (PK T k)) U = some (1, U)) ∨ (¬ FLv T (wa T) (cn (PK T k)) ∧ fX7_isFullest n (nI (PK T k)) U = some (0, U)) := by
  obtain ⟨d1, d2, d6⟩ := hM.d
  obtain ⟨⟨ft1, ft2⟩, ok⟩ := ps_out hM hk
  obtain ⟨fU, hA, -⟩ := h
  generalize hx : PK T k = x
  have hx' : (psT T).getD k 0 = x := hx
  rw [hx'] at ft1 ft2 ok
  have hMU : GM U := hM.fr fU (by decide) (by decide)
  have e55 : gI U 55 = nI (vd T) := (fU.I (by decide)).trans d1
  have erm : rm U = rm T := by unfold rm vw ve; rw [fU.I (by decide), fU.I (by decide)]
  have es : bx_sum (fun i => nI (cn x i) * gA U 2 i) (vd T) = nI (nsum (fun i => cn x i * vm T i) (vd T)) := bx_nI (fun i hi => by rw [fU.A (k := 2) (by decide) (by decide), (hM.2.2.2.1 i hi).1, pk_mul])
  have e52 : gI U 52 = nI (vk T) := (fU.I (by decide)).trans hM.1.2.2.1
  have hb := hM.2.2.1
  have hs := okc_sum ok d6
  unfold fX7_isFullest
  rw [(room_eq (n := n) hMU).1, erm]
  simp only [bd]
  rw [spanOf_eq (by omega) e55 d6 ok.1, es]
  simp only [bd, nm]
  rw [pk_sub ft1, pieces_eq (by omega) ok.1]
  simp only [bd]
  have hrm : rm T ≤ 10000 := by unfold rm; omega
  have lp : ∀ y3 : Int32, (y3 = 0 ↔ ¬ nsum (cn x) (vd T) < vk T) → (FLv T (wa T) (cn x) ∧ fX7_isFullest_L40 n (nI x) (nI (rm T - nsum (fun i => cn x i * vm T i) (vd T))) y3 (fun T_10 => rz (1 : Int32) T_10) n 0 U = some (1, U)) ∨ (¬ FLv T (wa T) (cn x) ∧ fX7_isFullest_L40 n (nI x) (nI (rm T - nsum (fun i => cn x i * vm T i) (vd T))) y3 (fun T_10 => rz (1 : Int32) T_10) n 0 U = some (0, U)) := by
    intro y3 hy
    let p : Nat → Prop := fun j => cn x j ≤ wa T j ∧ ¬ (cn x j < wa T j ∧ nsum (cn x) (vd T) < vk T ∧ vm T j ≤ rm T - nsum (fun j => cn x j * vm T j) (vd T))
    have step : ∀ j f, j < vd T → (p j → fX7_isFullest_L40 n (nI x) (nI (rm T - nsum (fun i => cn x i * vm T i) (vd T))) y3 (fun T_10 => rz (1 : Int32) T_10) (f + 1) (nI j) U = fX7_isFullest_L40 n (nI x) (nI (rm T - nsum (fun i => cn x i * vm T i) (vd T))) y3 (fun T_10 => rz (1 : Int32) T_10) f (nI (j + 1)) U) ∧ (¬ p j → fX7_isFullest_L40 n (nI x) (nI (rm T - nsum (fun i => cn x i * vm T i) (vd T))) y3 (fun T_10 => rz (1 : Int32) T_10) (f + 1) (nI j) U = some (0, U)) := by
      intro j f hj
      have l1 := cn_lt x j
      have l2 := hw j hj
      obtain ⟨m1, m2, m3, -⟩ := hM.2.2.2.1 j hj
      rw [fX7_isFullest_L40, e55, if_neg (nI_ge hj (by omega)), ofW_nI ok.1 (by omega)]
      simp only [bd]
      rw [ck_nI (by omega) (by decide), ck_nI (by omega) (by decide), ck_nI (by omega) (by decide), nI_clamp (show j < 2 ^ 31 by omega), (hA j hj).1, fU.A (k := 2) (by decide) (by decide), m1, nI_1]
      by_cases q1 : wa T j < cn x j
      · rw [if_pos (nI_lt q1 (by omega))]
        exact ⟨fun z => absurd z.1 (by omega), fun _ => rfl⟩
      · rw [if_neg (nI_nlt (by omega) (by omega))]
        by_cases q2 : wa T j ≤ cn x j
        · rw [if_pos (nI_le q2 (by omega))]
          exact ⟨fun _ => rfl, fun z => absurd ⟨by omega, fun w => by omega⟩ z⟩
        · rw [if_neg (nI_ge (by omega) (by omega))]
          by_cases q3 : nsum (cn x) (vd T) < vk T
          · rw [if_neg (fun z => hy.mp z q3)]
            by_cases q4 : vm T j ≤ rm T - nsum (fun i => cn x i * vm T i) (vd T)
            · rw [if_neg (nI_nlt q4 (by omega))]
              exact ⟨fun z => absurd ⟨by omega, q3, q4⟩ z.2, fun _ => rfl⟩
            · rw [if_pos (nI_lt (by omega) (by omega))]
              exact ⟨fun _ => rfl, fun z => absurd ⟨by omega, fun w => q4 w.2.2⟩ z⟩
          · rw [if_pos (hy.mpr q3)]
            exact ⟨fun _ => rfl, fun z => absurd ⟨by omega, fun w => q3 w.2.1⟩ z⟩
    rcases lps (fun f j => fX7_isFullest_L40 n (nI x) (nI (rm T - nsum (fun i => cn x i * vm T i) (vd T))) y3 (fun T_10 => rz (1 : Int32) T_10) f j U) (vd T) (some (1, U)) (fun _ => some (0, U)) p (fun j hj hp f => (step j f hj).1 hp) (fun j hj hp f => (step j f hj).2 hp) (fun f => by
      show fX7_isFullest_L40 n _ _ _ _ (f + 1) (nI (vd T)) U = _
      rw [fX7_isFullest_L40, e55, if_pos (nI_le (Nat.le_refl _) (by omega))]
      rfl) n (by omega) with ⟨j, h1, h2, h3, h4⟩ | ⟨h1, h2⟩
    · exact Or.inr ⟨fun z => h2 (z j h1), h4⟩
    · exact Or.inl ⟨fun i hi => h1 i hi, h2⟩
  rw [e52, hs]
  by_cases q : vk T ≤ nsum (cn x) (vd T)
  · rw [if_pos (nI_le q (by omega))]
    exact lp 0 ⟨fun _ => by omega, fun _ => rfl⟩
  · rw [if_neg (nI_ge (by omega) (by omega))]
    exact lp 1 ⟨fun z => absurd z (by decide), fun z => absurd (show nsum (cn x) (vd T) < vk T by omega) z⟩
/-- the PATTERNS that are full -/
def GF (T U : TS) (tr : Nat) : Prop := gI U 1508 = nI tr ∧ tr ≤ 3000 ∧ (∀ t, t < tr → ∃ k, k < (psT T).length ∧ FLv T (wa T) (cn (PK T k)) ∧ gA U 35 t = nI (PK T k)) ∧ ∀ k, k < (psT T).length → FLv T (wa T) (cn (PK T k)) → ∃ t, t < tr ∧ gA U 35 t = nI (PK T k)
theorem GF.mv {T U V : TS} {tr : Nat} {is as : List Nat} (h : GF T U tr) (f : FR is as 0 0 U V) (h1 : 1508 ∉ is) (h2 : 35 ∉ as) : GF T V tr := by
  unfold GF
  rw [f.I h1, f.A h2 (by omega)]
  exact h
theorem gather_eq {n : Nat} {T U : TS} (hn : 10000 ≤ n) (hM : GM T) (hN : NUM T) (hl : (psT T).length ≤ 3000) (h : SC T U) (hw : ∀ i, i < vd T → wa T i ≤ 40) : ∃ V tr, fX7_gatherFullest n U = some V ∧ SC T V ∧ GF T V tr := by
  unfold fX7_gatherFullest
  simp only [nm]
  have h1 : SC T (uI U 1508 0) := h.mv (FR.uI (is := [1508]) (as := []) (by decide)) (by decide) (by decide) (by decide) (by decide)
  rw [countF hN hl h1.1]
  simp only [bd]
  refine lpi (fun f (s : Int32 × TS) => fX7_gatherFullest_L12 n (nI (psT T).length) (fun T_12 => some T_12) f s.1 s.2) (fun j s => s.1 = nI j ∧ SC T s.2 ∧ ∃ tr, tr ≤ j ∧ gI s.2 1508 = nI tr ∧ (∀ t, t < tr → ∃ k, k < j ∧ FLv T (wa T) (cn (PK T k)) ∧ gA s.2 35 t = nI (PK T k)) ∧ ∀ k, k < j → FLv T (wa T) (cn (PK T k)) → ∃ t, t < tr ∧ gA s.2 35 t = nI (PK T k)) (psT T).length (fun r => ∃ V tr, r = some V ∧ SC T V ∧ GF T V tr) ?_ ?_ n (0, uI U 1508 0) (by omega) ⟨rfl, h1, 0, Nat.le_refl 0, gI_uI _ _ _, fun t ht => by omega, fun k hk => by omega⟩
  · rintro j ⟨a, V⟩ hj ⟨e, sV, tr, htr, g8, gt, gk⟩
    simp only at e sV g8 gt gk
    subst e
    have unf : ∀ f, fX7_gatherFullest_L12 n (nI (psT T).length) (fun T_12 => some T_12) (f + 1) (nI j) V = bd (fX7_isFullest n (nI (PK T j)) V) (fun r_7 T_6 => if r_7 = 0 then fX7_gatherFullest_L12 n (nI (psT T).length) (fun T_12 => some T_12) f (nI j + 1) T_6 else if (3000 : Int32) ≤ (gI T_6 1508) then fX7_gatherFullest_L12 n (nI (psT T).length) (fun T_12 => some T_12) f (nI j + 1) T_6 else bd (fX5_codeAt n (nI j) T_6) (fun r_9 T_8 => ck (gI T_6 1508) 3000 (nm (sA T_8 35 (gI T_6 1508) r_9) (fun T_10 => nm (uI T_10 1508 ((gI T_10 1508) + (1 : Int32))) (fun T_11 => fX7_gatherFullest_L12 n (nI (psT T).length) (fun T_12 => some T_12) f (nI j + 1) T_11)))) ) := by
      intro f
      rw [fX7_gatherFullest_L12, if_neg (nI_ge hj (by omega)), codeF hN hl sV.1 hj]
      rfl
    rcases full_eq (n := n) (k := j) (by omega) hM sV hw hj with ⟨p1, p2⟩ | ⟨p1, p2⟩
    · have e8 : gI (sA V 35 (nI tr) (nI (PK T j))) 1508 = nI tr := (zI_sA _ _ _ _ _).trans g8
      refine ⟨(nI (j + 1), uI (sA V 35 (nI tr) (nI (PK T j))) 1508 (nI (tr + 1))), ⟨rfl, sV.mv ((FR.sA (is := [1508]) (as := [35]) (Or.inl (by decide))).trans (FR.uI (by decide))) (by decide) (by decide) (by decide) (by decide), tr + 1, by omega, gI_uI _ _ _, fun t ht => ?_, fun k hk hF => ?_⟩, fun f => ?_⟩
      · show ∃ k, k < j + 1 ∧ FLv T (wa T) (cn (PK T k)) ∧ gA (uI (sA V 35 (nI tr) (nI (PK T j))) 1508 _) 35 t = nI (PK T k)
        rw [gA_uI, gA_sA_at (by omega)]
        by_cases q : t = tr
        · rw [if_pos q]
          exact ⟨j, by omega, p1, rfl⟩
        · rw [if_neg q]
          obtain ⟨k, k1, k2, k3⟩ := gt t (by omega)
          exact ⟨k, by omega, k2, k3⟩
      · show ∃ t, t < tr + 1 ∧ gA (uI (sA V 35 (nI tr) (nI (PK T j))) 1508 _) 35 t = nI (PK T k)
        by_cases q : k = j
        · refine ⟨tr, by omega, ?_⟩
          rw [gA_uI, gA_sA_at (by omega), if_pos rfl, q]
        · obtain ⟨t, t1, t2⟩ := gk k (by omega) hF
          refine ⟨t, by omega, ?_⟩
          rw [gA_uI, gA_sA_at (by omega), if_neg (by omega)]
          exact t2
      · show fX7_gatherFullest_L12 n _ _ (f + 1) (nI j) V = _
        rw [unf, p2]
        simp only [bd]
        rw [if_neg (show ¬ (1 : Int32) = 0 by decide), g8, if_neg (show ¬ (3000 : Int32) ≤ nI tr from nI_ge (b := 3000) (by omega) (by decide)), codeF hN hl sV.1 hj]
        simp only [bd, nm]
        rw [ck_nI (by omega) (by decide), e8, nI_1, nI_1]
    · refine ⟨(nI (j + 1), V), ⟨rfl, sV, tr, by omega, g8, fun t ht => ?_, fun k hk hF => ?_⟩, fun f => ?_⟩
      · obtain ⟨k, k1, k2, k3⟩ := gt t ht
        exact ⟨k, by omega, k2, k3⟩
      · by_cases q : k = j
        · rw [q] at hF
          exact absurd hF p1
        · exact gk k (by omega) hF
      · show fX7_gatherFullest_L12 n _ _ (f + 1) (nI j) V = _
        rw [unf, p2]
        simp only [bd]
        rw [if_pos trivial, nI_1]
  · rintro ⟨a, V⟩ ⟨e, sV, tr, htr, g8, gt, gk⟩ f
    simp only at e sV g8 gt gk
    subst e
    refine ⟨V, tr, ?_, sV, g8, by omega, gt, gk⟩
    show fX7_gatherFullest_L12 n _ _ (f + 1) (nI (psT T).length) V = _
    rw [fX7_gatherFullest_L12, if_pos (nI_le (Nat.le_refl _) (by omega))]
