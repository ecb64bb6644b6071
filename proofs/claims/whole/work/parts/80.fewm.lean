/-! ===== fewest: the reference ===== -/
theorem lmin_lN {a b : Nat} (ha : a < 2 ^ 31) (hb : b < 2 ^ 31) : lmin (lN a) (lN b) = lN (min a b) := by
  unfold lmin
  by_cases q : b < a
  · rw [if_pos ((lN_lt hb ha).mpr q), Nat.min_eq_right (by omega)]
  · rw [if_neg (fun z => q ((lN_lt hb ha).mp z)), Nat.min_eq_left (by omega)]
def ub (w : Nat → Nat) (j : Nat) : Nat := min 10000000 (uu w j)
theorem ub_succ (w : Nat → Nat) (j : Nat) : min 10000000 (ub w j * (w j + 1)) = ub w (j + 1) := by
  unfold ub
  show _ = min 10000000 (uu w j * (w j + 1))
  rcases Nat.le_total 10000000 (uu w j) with q | q
  · rw [Nat.min_eq_left q]
    have h1 : 10000000 ≤ 10000000 * (w j + 1) := Nat.le_mul_of_pos_right _ (Nat.succ_pos _)
    have h2 : uu w j ≤ uu w j * (w j + 1) := Nat.le_mul_of_pos_right _ (Nat.succ_pos _)
    omega
  · rw [Nat.min_eq_right q]
theorem units_eq {n c : Nat} {T : TS} (hn : 100 ≤ n) (hM : GM T) (hO : GO c T) (hc : c ≤ 520) : ∃ V, FR [] [57] 0 0 T V ∧ (∀ i, i < vd T → gA V 57 i = nI (min 10000 (ub (wa T) i))) ∧ (fun kk => fX11_fewest_L19 n kk n 1 0 T) = fun kk => kk (lN (ub (wa T) (vd T))) V := by
  obtain ⟨d1, d2, d6⟩ := hM.d
  refine lpi (fun f (s : Int64 × Int32 × TS) kk => fX11_fewest_L19 n kk f s.1 s.2.1 s.2.2) (fun j s => s.1 = lN (ub (wa T) j) ∧ s.2.1 = nI j ∧ FR [] [57] 0 0 T s.2.2 ∧ ∀ i, i < j → gA s.2.2 57 i = nI (min 10000 (ub (wa T) i))) (vd T) (fun r => ∃ V, FR [] [57] 0 0 T V ∧ (∀ i, i < vd T → gA V 57 i = nI (min 10000 (ub (wa T) i))) ∧ r = fun kk => kk (lN (ub (wa T) (vd T))) V) ?_ ?_ n (1, 0, T) (by omega) ⟨rfl, rfl, FR.rf, fun i hi => by omega⟩
  · rintro j ⟨a, b, U⟩ hj ⟨e, e', fU, g⟩
    simp only at e e' fU g
    subst e e'
    have f2 : FR [] [57] 0 0 T (sA U 57 (nI j) (nI (min 10000 (ub (wa T) j)))) := fU.trans (FR.sA (Or.inl (by decide)))
    have hOU : GO c (sA U 57 (nI j) (nI (min 10000 (ub (wa T) j)))) := hO.fr (Nat.le_refl c) f2 (by decide) (by decide)
    obtain ⟨-, w1, w3⟩ := wanted_eq (n := n) hOU hc (show j < 6 by omega)
    rw [wa_fr f2 (by decide)] at w1 w3
    have hu : ub (wa T) j ≤ 10000000 := Nat.min_le_left _ _
    have hm : ub (wa T) j * (wa T j + 1) ≤ 10000000 * 41 := Nat.mul_le_mul hu (by omega)
    refine ⟨(lN (ub (wa T) (j + 1)), nI (j + 1), sA U 57 (nI j) (nI (min 10000 (ub (wa T) j)))), ⟨rfl, rfl, f2, fun i hi => ?_⟩, fun f => funext fun kk => ?_⟩
    · show gA (sA U 57 (nI j) _) 57 i = _
      rw [gA_sA_at (by omega)]
      by_cases q : i = j
      · rw [if_pos q, q]
      · rw [if_neg q]; exact g i (by omega)
    · show fX11_fewest_L19 n kk (f + 1) (lN (ub (wa T) j)) (nI j) U = _
      rw [fX11_fewest_L19, fU.I (k := 2056) (by decide), d2, if_neg (nI_ge hj (by omega)), ck_nI (by omega) (by decide), show (10000 : Int64) = lN 10000 from rfl, lmin_lN (by omega) (by decide), lN_i, Nat.min_comm]
      simp only [nm]
      rw [w1]
      simp only [bd]
      rw [nI_1, nI_l (by omega), lN_mul, show (10000000 : Int64) = lN 10000000 from rfl, lmin_lN (by decide) (by omega), ub_succ, nI_1]
  · rintro ⟨a, b, U⟩ ⟨e, e', fU, g⟩ f
    simp only at e e' fU g
    subst e e'
    refine ⟨U, fU, g, funext fun kk => ?_⟩
    show fX11_fewest_L19 n kk (f + 1) _ (nI (vd T)) U = _
    rw [fX11_fewest_L19, fU.I (k := 2056) (by decide), d2, if_pos (nI_le (Nat.le_refl _) (by omega))]
/-- where the reference's search stands -/
def MC (c : Nat) (T : TS) : Prop := GM T ∧ GO c T ∧ c ≤ 520 ∧ CNT T ∧ (psT T).length ≤ 3000 ∧ GX T ∧ uu (wa T) (vd T) ≤ 5000 ∧ ONE (wa T) (vd T) (PK T) (psT T).length ∧ ∀ i, i < vd T → gA T 57 i = nI (uu (wa T) i)
abbrev isR : List Nat := [2070]
abbrev asR : List Nat := [51, 56]
theorem CNT.row {T : TS} (h : CNT T) (hl : (psT T).length ≤ 3000) {k : Nat} (hk : k < (psT T).length) {i : Nat} (hi : i < 6) : gA T (67 + k) i = nI (cn (PK T k) i) := by
  have := h.2.2 hl k _ (List.getElem?_eq_getElem hk) i hi
  unfold PK
  rw [psT_getD (List.getElem?_eq_getElem hk)]
  exact this
theorem mbehind_eq {n c s k : Nat} {T U : TS} (hn : 100 ≤ n) (h : MC c T) (f : FR isR asR 3127 3187 T U) (hs : s < uu (wa T) (vd T)) (hk : k < (psT T).length) : fX11_behind n (nI s) (67 + k) U = some (nI (bhT T s k), U) := by
  obtain ⟨hM, hO, hc, hC, hl, hX, h5, -, hu⟩ := h
  obtain ⟨d1, d2, d6⟩ := hM.d
  have hOU : GO c U := hO.fr (Nat.le_refl c) f (by decide) (by decide)
  unfold fX11_behind
  refine lpn (fun g (a : Int32 × Int32) => fX11_behind_L5 n (nI s) (67 + k) (fun e3_4 T_5 => some (e3_4, T_5)) g a.1 a.2 U) (fun j => (nI (nsum (fun i => uu (wa T) i * (dg (wa T) s i - cn (PK T k) i)) j), nI j)) (vd T) _ (fun j hj g => ?_) (fun g => ?_) n (by omega)
  · show fX11_behind_L5 n (nI s) (67 + k) _ (g + 1) (nI (nsum (fun i => uu (wa T) i * (dg (wa T) s i - cn (PK T k) i)) j)) (nI j) U = fX11_behind_L5 n (nI s) (67 + k) _ g (nI (nsum (fun i => uu (wa T) i * (dg (wa T) s i - cn (PK T k) i)) j + uu (wa T) j * (dg (wa T) s j - cn (PK T k) j))) (nI (j + 1)) U
    obtain ⟨-, w1, w3⟩ := wanted_eq (n := n) hOU hc (show j < 6 by omega)
    rw [wa_fr f (by decide)] at w1 w3
    have hup := uu_pos (w := wa T) j
    have hul : uu (wa T) j ≤ 5000 := Nat.le_trans (uu_le (show j ≤ vd T by omega)) h5
    have l1 := dg_le (w := wa T) s j
    have l3 := cn_lt (PK T k) j
    have e57 : gA U 57 j = nI (uu (wa T) j) := by rw [f.A (k := 57) (by decide) (by decide)]; exact hu j hj
    have er : gA U (67 + k) j = nI (cn (PK T k) j) := by
      rw [f.A (k := 67 + k) (by simp only [List.mem_cons, List.not_mem_nil, or_false]; omega) (by omega)]
      exact hC.row hl hk (by omega)
    have hq : s / uu (wa T) j < 2 ^ 31 := Nat.lt_of_le_of_lt (Nat.div_le_self _ _) (by omega)
    rw [fX11_behind_L5, f.I (k := 2056) (by decide), d2, if_neg (nI_ge hj (by omega)), ck_nI (by omega) (by decide), ck_nI (by omega) (by decide), nI_clamp (show j < 2 ^ 31 by omega), e57]
    unfold nz
    rw [if_neg (nI_ne0 hup (by omega)), w1]
    simp only [bd, nm]
    rw [nI_1, if_neg (nI_ne0 (Nat.succ_pos _) (by omega)), ak_q (by omega), al_6 (by omega), ck_nI (by omega) (by decide), er, pk_div (by omega) hup (by omega), pk_rem hq (Nat.succ_pos _) (by omega), show s / uu (wa T) j % (wa T j + 1) = dg (wa T) s j from rfl, imax_0s (by omega) (by omega), pk_mul, nI_add, nI_1]
  · show fX11_behind_L5 n (nI s) (67 + k) _ (g + 1) _ (nI (vd T)) U = _
    rw [fX11_behind_L5, f.I (k := 2056) (by decide), d2, if_pos (nI_le (Nat.le_refl _) (by omega))]
    rfl
theorem m127 {n c s : Nat} {T U : TS} {y1 : Int64} (hn : 10000 ≤ n) (h : MC c T) (f : FR isR asR 3127 3187 T U) (h0 : 0 < s) (hs : s < uu (wa T) (vd T)) (h56 : ∀ t, t < s → gA U 56 t = nI (ndT T t)) (h1 : gA U 56 s = nI 1000) : ∃ V, FR [] [56] 0 0 U V ∧ (∀ t, t < s + 1 → gA V 56 t = nI (ndT T t)) ∧ (fun kk => fX11_fewest_L127 n y1 (nI s) kk n 0 U) = fun kk => kk V := by
  have h' := h
  obtain ⟨hM, hO, hc, hC, hl, hX, h5, hone, hu⟩ := h
  have em : gI U 2064 = nI (psT T).length := by
    rw [f.I (k := 2064) (by decide), hC.2.1, Nat.min_eq_left (by omega)]
  refine lpi (fun g (a : Int32 × TS) kk => fX11_fewest_L127 n y1 (nI s) kk g a.1 a.2) (fun j a => a.1 = nI j ∧ FR [] [56] 0 0 U a.2 ∧ (∀ t, t < s → gA a.2 56 t = nI (ndT T t)) ∧ gA a.2 56 s = nI (mnk (wa T) (vd T) (PK T) (ndT T) s j)) (psT T).length (fun r => ∃ V, FR [] [56] 0 0 U V ∧ (∀ t, t < s + 1 → gA V 56 t = nI (ndT T t)) ∧ r = fun kk => kk V) ?_ ?_ n (0, U) (by omega) ⟨rfl, FR.rf, h56, h1⟩
  · rintro j ⟨a, V⟩ hj ⟨e, fV, g1, g2⟩
    simp only at e fV g1 g2
    subst e
    have fTV : FR isR asR 3127 3187 T V := f.trans (fV.mono (by decide) (by decide) (fun _ => by omega))
    have hb : bhT T s j ≤ s := bh_le hs
    have unf : ∀ g kk, fX11_fewest_L127 n y1 (nI s) kk (g + 1) (nI j) V = if bhT T s j < s then fX11_fewest_L127 n y1 (nI s) kk g (nI (j + 1)) (sA V 56 (nI s) (nI (min (mnk (wa T) (vd T) (PK T) (ndT T) s j) (ndT T (bhT T s j) + 1)))) else fX11_fewest_L127 n y1 (nI s) kk g (nI (j + 1)) V := by
      intro g kk
      rw [fX11_fewest_L127, fV.I (k := 2064) (by decide), em, if_neg (nI_ge hj (by omega)), ck_nI (by omega) (by decide), nI_clamp (by omega), fTV.O 46, hX.1 j (by omega), mbehind_eq (by omega) h' fTV hs hj]
      simp only [bd]
      by_cases q : bhT T s j < s
      · have t1 : mnk (wa T) (vd T) (PK T) (ndT T) s j ≤ 1000 := mnk_top j
        have t2 := nd_T T (bhT T s j)
        rw [if_neg (nI_ge q (by omega)), if_pos q, ck_nI (by omega) (by decide), ck_nI (by omega) (by decide), ck_nI (by omega) (by decide), nI_clamp (by omega), nI_clamp (by omega), g2, g1 _ q, nI_1, imin_nI (by omega) (by omega), nI_1]
        rfl
      · rw [if_pos (nI_le (by omega) (by omega)), if_neg q, nI_1]
    by_cases q : bhT T s j < s
    · refine ⟨(nI (j + 1), sA V 56 (nI s) (nI (min (mnk (wa T) (vd T) (PK T) (ndT T) s j) (ndT T (bhT T s j) + 1)))), ⟨rfl, fV.trans (FR.sA (Or.inl (by decide))), fun t ht => ?_, ?_⟩, fun g => funext fun kk => ?_⟩
      · show gA (sA V 56 (nI s) _) 56 t = _
        rw [gA_sA_at (by omega), if_neg (by omega)]
        exact g1 t ht
      · show gA (sA V 56 (nI s) _) 56 s = _
        rw [gA_sA_at (by omega), if_pos rfl, mnk, if_pos q]
      · show fX11_fewest_L127 n y1 (nI s) kk (g + 1) (nI j) V = _
        rw [unf, if_pos q]
    · refine ⟨(nI (j + 1), V), ⟨rfl, fV, g1, ?_⟩, fun g => funext fun kk => ?_⟩
      · show gA V 56 s = _
        rw [mnk, if_neg q]
        exact g2
      · show fX11_fewest_L127 n y1 (nI s) kk (g + 1) (nI j) V = _
        rw [unf, if_neg q]
  · rintro ⟨a, V⟩ ⟨e, fV, g1, g2⟩ g
    simp only at e fV g1 g2
    subst e
    refine ⟨V, fV, fun t ht => ?_, funext fun kk => ?_⟩
    · by_cases q : t = s
      · rw [q, g2, show ndT T s = _ from nd_val h0]
      · exact g1 t (by omega)
    · show fX11_fewest_L127 n y1 (nI s) kk (g + 1) (nI (psT T).length) V = _
      rw [fX11_fewest_L127, fV.I (k := 2064) (by decide), em, if_pos (nI_le (Nat.le_refl _) (by omega))]
theorem m108 {n c : Nat} {T U : TS} (hn : 10000 ≤ n) (h : MC c T) (f : FR isR asR 3127 3187 T U) (h56 : gA U 56 0 = 0) : ∃ V, FR [] [56] 0 0 U V ∧ (∀ t, t < uu (wa T) (vd T) → gA V 56 t = nI (ndT T t)) ∧ (fun kk => fX11_fewest_L108 n (lN (uu (wa T) (vd T))) kk n 1 U) = fun kk => kk V := by
  have h' := h
  obtain ⟨hM, hO, hc, hC, hl, hX, h5, hone, hu⟩ := h
  have hup := uu_pos (w := wa T) (vd T)
  refine lpi (fun g (a : Int32 × TS) kk => fX11_fewest_L108 n (lN (uu (wa T) (vd T))) kk g a.1 a.2) (fun j a => a.1 = nI (j + 1) ∧ FR [] [56] 0 0 U a.2 ∧ ∀ t, t < j + 1 → gA a.2 56 t = nI (ndT T t)) (uu (wa T) (vd T) - 1) (fun r => ∃ V, FR [] [56] 0 0 U V ∧ (∀ t, t < uu (wa T) (vd T) → gA V 56 t = nI (ndT T t)) ∧ r = fun kk => kk V) ?_ ?_ n (1, U) (by omega) ⟨rfl, FR.rf, fun t ht => by
    rw [show t = 0 by omega, show ndT T 0 = 0 from nd_0]
    exact h56⟩
  · rintro j ⟨a, V⟩ hj ⟨e, fV, g⟩
    simp only at e fV g
    subst e
    have f2 : FR [] [56] 0 0 U (sA V 56 (nI (j + 1)) (nI 1000)) := fV.trans (FR.sA (Or.inl (by decide)))
    obtain ⟨W, w1, w2, w3⟩ := m127 (n := n) (s := j + 1) (U := sA V 56 (nI (j + 1)) (nI 1000)) (y1 := lN (uu (wa T) (vd T))) hn h' (f.trans (f2.mono (by decide) (by decide) (fun _ => by omega))) (by omega) (by omega) (fun t ht => by
      rw [gA_sA_at (by omega), if_neg (by omega)]
      exact g t ht) (by rw [gA_sA_at (by omega), if_pos rfl])
    refine ⟨(nI (j + 1 + 1), W), ⟨rfl, f2.trans w1, w2⟩, fun gg => funext fun kk => ?_⟩
    show fX11_fewest_L108 n _ kk (gg + 1) (nI (j + 1)) V = _
    rw [fX11_fewest_L108, nI_l (by omega), if_neg (fun z => by
      have := (lN_le (by omega) (by omega)).mp ((lg_cmp_ge _ _).mp z)
      omega), ck_nI (by omega) (by decide)]
    simp only [nm]
    rw [nI_1]
    exact congrFun w3 _
  · rintro ⟨a, V⟩ ⟨e, fV, g⟩ gg
    simp only at e fV g
    subst e
    refine ⟨V, fV, fun t ht => g t (by omega), funext fun kk => ?_⟩
    show fX11_fewest_L108 n _ kk (gg + 1) (nI (uu (wa T) (vd T) - 1 + 1)) V = _
    rw [fX11_fewest_L108, nI_l (by omega), if_pos ((lg_cmp_ge _ _).mpr ((lN_le (by omega) (by omega)).mpr (by omega)))]
theorem m209 {n c s k0 : Nat} {T U : TS} (hn : 10000 ≤ n) (h : MC c T) (f : FR isR asR 3127 3187 T U) (hs : s < uu (wa T) (vd T)) (h56 : ∀ t, t < uu (wa T) (vd T) → gA U 56 t = nI (ndT T t)) (hF : FK T s k0) : (fun kk => fX11_fewest_L209 n (nI s) kk n 0 U) = fun kk => kk (nI k0) U := by
  have h' := h
  obtain ⟨hM, hO, hc, hC, hl, hX, h5, hone, hu⟩ := h
  have en := nd_fk hs hF
  obtain ⟨k1, k2, k3⟩ := hF
  have t0 := nd_T T s
  have step : ∀ j g kk, j < (psT T).length → fX11_fewest_L209 n (nI s) kk (g + 1) (nI j) U = if bhT T s j < s ∧ ndT T (bhT T s j) = ndT T s - 1 then kk (nI j) U else fX11_fewest_L209 n (nI s) kk g (nI (j + 1)) U := by
    intro j g kk hj
    have hb : bhT T s j ≤ s := bh_le hs
    have t2 := nd_T T (bhT T s j)
    rw [fX11_fewest_L209, ck_nI (by omega) (by decide), nI_clamp (show j < 2 ^ 31 by omega), f.O 46, hX.1 j (by omega), mbehind_eq (by omega) h' f hs hj]
    simp only [bd]
    by_cases q : bhT T s j < s
    · rw [if_neg (nI_ge q (by omega)), ck_nI (by omega) (by decide), f.O 46, hX.1 j (by omega), mbehind_eq (by omega) h' f hs hj]
      simp only [bd]
      rw [ck_nI (by omega) (by decide), ck_nI (by omega) (by decide), nI_clamp (show bhT T s j < 2 ^ 31 by omega), nI_clamp (show s < 2 ^ 31 by omega), h56 _ (by omega), h56 s hs, nI_prd (by omega), nI_1]
      by_cases q2 : ndT T (bhT T s j) = ndT T s - 1
      · rw [if_pos (by rw [q2]), if_pos ⟨q, q2⟩]
      · rw [if_neg (fun z => q2 ((nI_eq (by omega) (by omega)).mp z)), if_neg (fun z => q2 z.2)]
    · rw [if_pos (nI_le (by omega) (by omega)), if_neg (fun z => q z.1), nI_1]
  have key : ∀ r j g kk, j + r = k0 → r < g → fX11_fewest_L209 n (nI s) kk g (nI j) U = kk (nI k0) U := by
    intro r
    induction r with
    | zero =>
      intro j g kk hj hg
      obtain ⟨g, rfl⟩ : ∃ g', g = g' + 1 := ⟨g - 1, by omega⟩
      have e : j = k0 := by omega
      subst e
      have hlt : bhT T s j < s := by
        have hb : bhT T s j ≤ s := bh_le hs
        rcases Nat.lt_or_ge (bhT T s j) s with z | z
        · exact z
        · rw [show bhT T s j = s by omega] at k2
          omega
      rw [step j g kk k1, if_pos ⟨hlt, by omega⟩]
    | succ r ih =>
      intro j g kk hj hg
      obtain ⟨g, rfl⟩ : ∃ g', g = g' + 1 := ⟨g - 1, by omega⟩
      rw [step j g kk (by omega), if_neg (fun z => by
        have := k3 j (by omega)
        omega)]
      exact ih (j + 1) g kk (by omega) (by omega)
  exact funext fun kk => key k0 0 n kk (by omega) (by omega)
theorem m202 {n c : Nat} {T : TS} {kk : TS → Option (Int32 × TS)} (hn : 10000 ≤ n) (h : MC c T) : ∀ (q s : Nat) (D : Dr) (U : TS) (g : Nat), ndT T s = q → s < uu (wa T) (vd T) → q < g → FR isR asR 3127 3187 T U → (∀ t, t < uu (wa T) (vd T) → gA U 56 t = nI (ndT T t)) → OKD (vd T) D → DM U D → (fout T q s D = none ∧ ∃ U', fX11_fewest_L202 n kk g (nI s) U = some (-3, U') ∧ FR isR asR 3127 3187 T U') ∨ ∃ D' U', fout T q s D = some D' ∧ fX11_fewest_L202 n kk g (nI s) U = kk U' ∧ FR isR asR 3127 3187 T U' ∧ DM U' D' := by
  have h' := h
  obtain ⟨hM, hO, hc, hC, hl, hX, h5, hone, hu⟩ := h
  have hw : ∀ i, i < vd T → wa T i ≤ 40 := fun i hi => uu_wa hM hO hc n hi
  intro q
  induction q with
  | zero =>
    intro s D U g hq hs hg f h56 hD hT
    obtain ⟨g, rfl⟩ : ∃ g', g = g' + 1 := ⟨g - 1, by omega⟩
    have z := nd_z hone hs (dsum_T hM hw s) hq
    refine Or.inr ⟨D, U, rfl, ?_, f, hT⟩
    rw [fX11_fewest_L202, z, if_pos (show nI 0 ≤ 0 by decide)]
  | succ q ih =>
    intro s D U g hq hs hg f h56 hD hT
    obtain ⟨g, rfl⟩ : ∃ g', g = g' + 1 := ⟨g - 1, by omega⟩
    have hs0 : 0 < s := by
      rcases Nat.eq_zero_or_pos s with z | z
      · rw [z, show ndT T 0 = 0 from nd_0] at hq
        omega
      · exact z
    have hF := FK.ex hone hs hs0 (dsum_T hM hw s)
    unfold fout
    generalize hk0 : fkT T s = k0 at hF ⊢
    obtain ⟨ft, ok⟩ := ps_out hM hF.1
    have hx : PK T k0 < 2 ^ 30 := ok.1
    have k1 := hF.1
    rw [fX11_fewest_L202, if_neg (nI_nle hs0 (by omega)), congrFun (m209 hn h' f hs h56 hF), ck_nI (by omega) (by decide), nI_clamp (by omega), f.O 46, hX.1 k0 (by omega)]
    rcases mroll (n := n) (q := 67 + k0) (by omega) (fun t ht => by rw [f.O 50]; exact hX.2.1 t ht) hD hT hx (Or.inr ⟨by omega, by omega⟩) (fun i hi => by
      rw [f.A (k := 67 + k0) (by simp only [List.mem_cons, List.not_mem_nil, or_false]; omega) (by omega)]
      exact hC.row hl k1 hi) with ⟨a1, a2⟩ | ⟨D', V, a1, a2, a3, a4⟩
    · rw [a1, a2]
      simp only [bd]
      rw [if_neg (fun z => z trivial)]
      exact Or.inl ⟨trivial, U, rfl, f⟩
    · rw [a1, a2]
      simp only [bd]
      have fV : FR isR asR 3127 3187 T V := f.trans (a3.mono (by decide) (by decide) (fun _ => by omega))
      rw [if_pos (show ¬ (1 : Int32) = 0 by decide), ck_nI (by omega) (by decide), fV.O 46, hX.1 k0 (by omega), mbehind_eq (by omega) h' fV hs k1]
      simp only [bd]
      have en := nd_fk hs hF
      exact ih (bhT T s k0) D' V g (by omega) bh_lt (by omega) fV (fun t ht => by rw [a3.A (k := 56) (by decide) (by decide)]; exact h56 t ht) (ar_ok hD ok a1) a4
