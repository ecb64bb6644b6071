/-! ===== drop ===== -/
def sk (s k : Nat) : Nat := if k < s then k else k + 1
theorem remove_eq {n m s : Nat} {T : TS} (hn : 10000 ≤ n) (hm : gI T 550 = nI m) (h60 : m ≤ 60) (hs : s < m) : ∃ T', fX8_remove_11 n (nI s) T = some T' ∧ FR [550] [12, 13] 0 0 T T' ∧ gI T' 550 = nI (m - 1) ∧ ∀ k, k < m - 1 → gA T' 12 k = gA T 12 (sk s k) ∧ gA T' 13 k = gA T 13 (sk s k) := by
  unfold fX8_remove_11
  simp only [nm]
  rw [show nI s + 1 = nI (s + 1) from nI_1 s]
  refine lpi (fun f (x : Int32 × TS) => fX8_remove_11_L4 n (fun T_4 => some (uI T_4 550 (gI T_4 550 - 1))) f x.1 x.2) (fun j x => x.1 = nI (s + 1 + j) ∧ FR [] [12, 13] 0 0 T x.2 ∧ ∀ k, gA x.2 12 k = (if s ≤ k ∧ k < s + j then gA T 12 (k + 1) else gA T 12 k) ∧ gA x.2 13 k = (if s ≤ k ∧ k < s + j then gA T 13 (k + 1) else gA T 13 k)) (m - (s + 1)) (fun o => ∃ T', o = some T' ∧ FR [550] [12, 13] 0 0 T T' ∧ gI T' 550 = nI (m - 1) ∧ ∀ k, k < m - 1 → gA T' 12 k = gA T 12 (sk s k) ∧ gA T' 13 k = gA T 13 (sk s k)) ?_ ?_ n (nI (s + 1), T) (by omega) ⟨rfl, FR.rf, fun k => by rw [if_neg (by omega), if_neg (by omega)]; exact ⟨rfl, rfl⟩⟩
  · rintro j ⟨x, U⟩ hj ⟨hx, hf, hc⟩
    simp only at hx hf hc
    subst hx
    have z : gI U 550 = nI m := (hf.I (by decide)).trans hm
    refine ⟨(nI (s + 1 + (j + 1)), sA (sA U 12 (nI (s + j)) (gA T 12 (s + 1 + j))) 13 (nI (s + j)) (gA T 13 (s + 1 + j))), ⟨rfl, (hf.trans (FR.sA (Or.inl (by decide)))).trans (FR.sA (Or.inl (by decide))), fun k => ?_⟩, fun f => ?_⟩
    · have g1 : gA (sA (sA U 12 (nI (s + j)) (gA T 12 (s + 1 + j))) 13 (nI (s + j)) (gA T 13 (s + 1 + j))) 12 k = if k = s + j then gA T 12 (s + 1 + j) else gA U 12 k := by
        rw [zA_sA, if_neg (by decide), gA_sA_at (by omega)]
      have g2 : gA (sA (sA U 12 (nI (s + j)) (gA T 12 (s + 1 + j))) 13 (nI (s + j)) (gA T 13 (s + 1 + j))) 13 k = if k = s + j then gA T 13 (s + 1 + j) else gA U 13 k := by
        rw [gA_sA_at (by omega), show gA (sA U 12 (nI (s + j)) (gA T 12 (s + 1 + j))) 13 = gA U 13 by rw [zA_sA, if_neg (by decide)]]
      rw [g1, g2, (hc k).1, (hc k).2]
      by_cases h1 : k = s + j
      · rw [if_pos h1, if_pos h1, if_pos (by omega), if_pos (by omega), show s + 1 + j = k + 1 by omega]
        exact ⟨rfl, rfl⟩
      · rw [if_neg h1, if_neg h1]
        by_cases h2 : s ≤ k ∧ k < s + j
        · rw [if_pos h2, if_pos h2, if_pos (by omega), if_pos (by omega)]
          exact ⟨rfl, rfl⟩
        · rw [if_neg h2, if_neg h2, if_neg (by omega), if_neg (by omega)]
          exact ⟨rfl, rfl⟩
    · show fX8_remove_11_L4 n _ (f + 1) (nI (s + 1 + j)) U = _
      have e1 : nI (s + 1 + j) - 1 = nI (s + j) := by rw [show s + 1 + j = (s + j) + 1 by omega]; exact nI_pred _
      have c1 : ∀ {z : Option TS}, ck (nI (s + 1 + j)) 60 z = z := ck_nI (by omega) (by decide)
      have c2 : ∀ {z : Option TS}, ck (nI (s + j)) 60 z = z := ck_nI (by omega) (by decide)
      have k1 : gA U 12 (s + 1 + j) = gA T 12 (s + 1 + j) := by rw [(hc _).1, if_neg (by omega)]
      have k2 : gA U 13 (s + 1 + j) = gA T 13 (s + 1 + j) := by rw [(hc _).2, if_neg (by omega)]
      rw [fX8_remove_11_L4, z, if_neg (nI_ge (by omega) (by omega)), e1, c1, c2, nI_clamp (by omega)]
      simp only [nm]
      rw [c1, c2, nI_1, k1, show gA (sA U 12 (nI (s + j)) (gA T 12 (s + 1 + j))) 13 (s + 1 + j) = gA T 13 (s + 1 + j) by rw [zA_sA, if_neg (by decide)]; exact k2]
      rfl
  · rintro ⟨x, U⟩ ⟨hx, hf, hc⟩ f
    simp only at hx hf hc
    subst hx
    have z : gI U 550 = nI m := (hf.I (by decide)).trans hm
    refine ⟨uI U 550 (nI (m - 1)), ?_, (hf.mono (by decide) (by decide) (fun q => absurd q (by decide))).trans (FR.uI (by decide)), by rw [zI_uI, if_pos rfl], fun k hk => ?_⟩
    · show fX8_remove_11_L4 n _ (f + 1) (nI (s + 1 + (m - (s + 1)))) U = _
      rw [fX8_remove_11_L4, z, if_pos (nI_le (by omega) (by omega)), show nI m - 1 = nI (m - 1) from pk_sub (a := m) (b := 1) (by omega)]
    · rw [zA_uI, zA_uI, (hc k).1, (hc k).2]
      unfold sk
      by_cases h1 : k < s
      · rw [if_pos h1, if_neg (by omega), if_neg (by omega)]
        exact ⟨rfl, rfl⟩
      · rw [if_neg h1, if_pos (by omega), if_pos (by omega)]
        exact ⟨rfl, rfl⟩
/-- a frame in which the order of the PLAN's rows may change too -/
def FO (is as : List Nat) (T T' : TS) : Prop := (∀ k, k ∉ is → gI T' k = gI T k) ∧ (∀ k, k ∉ as → gA T' k = gA T k) ∧ (∀ k, gJ T' k = gJ T k) ∧ (∀ k, gL T' k = gL T k) ∧ ∀ k, k ≠ 48 → gO T' k = gO T k
theorem FO.rf {is as : List Nat} {T : TS} : FO is as T T := ⟨fun _ _ => rfl, fun _ _ => rfl, fun _ => rfl, fun _ => rfl, fun _ _ => rfl⟩
theorem FO.trans {is as : List Nat} {T T1 T2 : TS} (h : FO is as T T1) (g : FO is as T1 T2) : FO is as T T2 := ⟨fun k hk => (g.1 k hk).trans (h.1 k hk), fun k hk => (g.2.1 k hk).trans (h.2.1 k hk), fun k => (g.2.2.1 k).trans (h.2.2.1 k), fun k => (g.2.2.2.1 k).trans (h.2.2.2.1 k), fun k hk => (g.2.2.2.2 k hk).trans (h.2.2.2.2 k hk)⟩
theorem FO.mono {is as is' as' : List Nat} {T T1 : TS} (h : FO is as T T1) (hi : ∀ k ∈ is, k ∈ is') (ha : ∀ k ∈ as, k ∈ as') : FO is' as' T T1 := ⟨fun k hk => h.1 k (fun q => hk (hi k q)), fun k hk => h.2.1 k (fun q => hk (ha k q)), h.2.2⟩
theorem FR.fo {is as : List Nat} {T T' : TS} (h : FR is as 0 0 T T') : FO is as T T' := ⟨h.1, fun k hk => h.2.1 k hk (by omega), h.J, h.L, fun k _ => h.O k⟩
theorem zO_sO (T : TS) (k : Nat) (i : Int32) (q j : Nat) : gO (sO T k i q) j = if j = k then va_up (gO T k) i.toNatClampNeg q else gO T j := by cases T; rfl
theorem FO.sO {is as : List Nat} {T : TS} {i : Int32} {q : Nat} : FO is as T (sO T 48 i q) := ⟨fun _ _ => rfl, fun _ _ => rfl, fun _ => rfl, fun _ => rfl, fun k hk => by rw [zO_sO, if_neg hk]⟩
theorem goes_eq {n m s : Nat} {T : TS} (hn : 10000 ≤ n) (hm : gI T 2067 = nI m) (h60 : m ≤ 60) (hs : s < m) (hR : ∀ k, k < 60 → 3067 ≤ gO T 48 k ∧ gO T 48 k < 3127) : ∃ T', fX11_goes n (nI s) T = some T' ∧ FO [2067] [49] T T' ∧ gI T' 2067 = nI (m - 1) ∧ (∀ k, k < m - 1 → gA T' 49 k = gA T 49 (sk s k)) ∧ (∀ k, gO T' 48 k = if k = m - 1 then gO T 48 s else if s ≤ k ∧ k < m - 1 then gO T 48 (k + 1) else gO T 48 k) := by
  unfold fX11_goes
  rw [ck_nI (by omega) (by decide), nI_clamp (by omega)]
  generalize hfirst : gO T 48 s = first
  have hfr : 3067 ≤ first ∧ first < 3127 := hfirst ▸ hR s (by omega)
  refine lpi (fun f (x : Int32 × TS) => fX11_goes_L9 n first (fun T_3 => nm (uI T_3 2067 (gI T_3 2067 - 1)) (fun T_4 => ak first (ck (gI T_4 2067) 60 (nm (sO T_4 48 (gI T_4 2067) first) (fun T_5 => some T_5))))) f x.1 x.2) (fun j x => x.1 = nI (s + j) ∧ FO [] [49] T x.2 ∧ (∀ k, gA x.2 49 k = if s ≤ k ∧ k < s + j then gA T 49 (k + 1) else gA T 49 k) ∧ ∀ k, gO x.2 48 k = if s ≤ k ∧ k < s + j then gO T 48 (k + 1) else gO T 48 k) (m - 1 - s) (fun o => ∃ T', o = some T' ∧ FO [2067] [49] T T' ∧ gI T' 2067 = nI (m - 1) ∧ (∀ k, k < m - 1 → gA T' 49 k = gA T 49 (sk s k)) ∧ (∀ k, gO T' 48 k = if k = m - 1 then first else if s ≤ k ∧ k < m - 1 then gO T 48 (k + 1) else gO T 48 k)) ?_ ?_ n (nI s, T) (by omega) ⟨rfl, FO.rf, fun k => by rw [if_neg (by omega)], fun k => by rw [if_neg (by omega)]⟩
  · rintro j ⟨x, U⟩ hj ⟨hx, hf, hc, ho⟩
    simp only at hx hf hc ho
    subst hx
    have z : gI U 2067 = nI m := (hf.1 2067 (by decide)).trans hm
    have r1 := hR (s + j + 1) (by omega)
    have o1 : gO U 48 (s + j + 1) = gO T 48 (s + j + 1) := by rw [ho, if_neg (by omega)]
    have a1 : gA U 49 (s + j + 1) = gA T 49 (s + j + 1) := by rw [hc, if_neg (by omega)]
    refine ⟨(nI (s + (j + 1)), sA (sO U 48 (nI (s + j)) (gO T 48 (s + j + 1))) 49 (nI (s + j)) (gA T 49 (s + j + 1))), ⟨rfl, (hf.trans FO.sO).trans ((FR.sA (is := []) (as := [49]) (lo := 0) (hi := 0) (Or.inl (by decide))).fo), fun k => ?_, fun k => ?_⟩, fun f => ?_⟩
    · rw [gA_sA_at (by omega), show gA (sO U 48 (nI (s + j)) (gO T 48 (s + j + 1))) 49 k = gA U 49 k from rfl, hc]
      by_cases h1 : k = s + j
      · rw [if_pos h1, if_pos (by omega), h1]
      · rw [if_neg h1]
        by_cases h2 : s ≤ k ∧ k < s + j
        · rw [if_pos h2, if_pos (by omega)]
        · rw [if_neg h2, if_neg (by omega)]
    · rw [show gO (sA (sO U 48 (nI (s + j)) (gO T 48 (s + j + 1))) 49 (nI (s + j)) (gA T 49 (s + j + 1))) 48 = gO (sO U 48 (nI (s + j)) (gO T 48 (s + j + 1))) 48 from rfl, zO_sO, if_pos rfl, nI_clamp (by omega)]
      show (if k = s + j then gO T 48 (s + j + 1) else gO U 48 k) = _
      rw [ho]
      by_cases h1 : k = s + j
      · rw [if_pos h1, if_pos (by omega), h1]
      · rw [if_neg h1]
        by_cases h2 : s ≤ k ∧ k < s + j
        · rw [if_pos h2, if_pos (by omega)]
        · rw [if_neg h2, if_neg (by omega)]
    · show fX11_goes_L9 n first _ (f + 1) (nI (s + j)) U = _
      have c1 : ∀ {z : Option TS}, ck (nI (s + j + 1)) 60 z = z := ck_nI (by omega) (by decide)
      have c2 : ∀ {z : Option TS}, ck (nI (s + j)) 60 z = z := ck_nI (by omega) (by decide)
      rw [fX11_goes_L9, z, nI_1, if_neg (nI_ge (by omega) (by omega)), c1, nI_clamp (by omega), o1, ak_row (by omega) (by omega), c2]
      simp only [nm]
      rw [c1, c2, show gA (sO U 48 (nI (s + j)) (gO T 48 (s + j + 1))) 49 (s + j + 1) = gA T 49 (s + j + 1) from a1]
      rfl
  · rintro ⟨x, U⟩ ⟨hx, hf, hc, ho⟩ f
    simp only at hx hf hc ho
    subst hx
    have z : gI U 2067 = nI m := (hf.1 2067 (by decide)).trans hm
    have zz : gI (uI U 2067 (nI (m - 1))) 2067 = nI (m - 1) := by rw [zI_uI, if_pos rfl]
    refine ⟨sO (uI U 2067 (nI (m - 1))) 48 (nI (m - 1)) first, ?_, (hf.mono (by decide) (by decide)).trans (((FR.uI (is := [2067]) (as := [49]) (lo := 0) (hi := 0) (by decide)).fo).trans FO.sO), zz, fun k hk => ?_, fun k => ?_⟩
    · show fX11_goes_L9 n first _ (f + 1) (nI (s + (m - 1 - s))) U = _
      rw [fX11_goes_L9, z, nI_1, if_pos (nI_le (by omega) (by omega))]
      simp only [nm]
      rw [show nI m - 1 = nI (m - 1) from pk_sub (a := m) (b := 1) (by omega), zz, ak_row (by omega) (by omega), ck_nI (by omega) (by decide)]
    · show gA U 49 k = _
      rw [hc]
      unfold sk
      by_cases h1 : k < s
      · rw [if_pos h1, if_neg (by omega)]
      · rw [if_neg h1, if_pos (by omega)]
    · rw [zO_sO, if_pos rfl, nI_clamp (by omega)]
      show (if k = m - 1 then first else gO U 48 k) = _
      rw [ho]
      by_cases h1 : k = m - 1
      · rw [if_pos h1, if_pos h1]
      · rw [if_neg h1, if_neg h1]
        by_cases h2 : s ≤ k ∧ k < m - 1
        · rw [if_pos h2, if_pos (by omega)]
        · rw [if_neg h2, if_neg (by omega)]
/-- the PLAN without its SLOT s -/
theorem GS.less {T T' : TS} {s : Nat} (h : GS T) (hs : s < vns T) (hd : gI T' 55 = gI T 55) (n1 : gI T' 550 = nI (vns T - 1)) (n2 : gI T' 2067 = nI (vns T - 1)) (g12 : ∀ k, k < vns T - 1 → gA T' 12 k = gA T 12 (sk s k)) (g13 : ∀ k, k < vns T - 1 → gA T' 13 k = gA T 13 (sk s k)) (g49 : ∀ k, k < vns T - 1 → gA T' 49 k = gA T 49 (sk s k)) (gO' : ∀ k, gO T' 48 k = if k = vns T - 1 then gO T 48 s else if s ≤ k ∧ k < vns T - 1 then gO T 48 (k + 1) else gO T 48 k) (gr : ∀ q, 3067 ≤ q → q < 3127 → gA T' q = gA T q) : GS T' := by
  obtain ⟨h1, h2, h3, h4, h5, h6⟩ := h
  have eN : vns T' = vns T - 1 := by
    show (gI T' 550).toNatClampNeg = _
    rw [n1, nI_clamp (by omega)]
  have eD : vd T' = vd T := by unfold vd; rw [hd]
  -- the place from which a row comes
  have place : ∀ k, k < 60 → ∃ p, p < 60 ∧ gO T' 48 k = gO T 48 p ∧ p = (if k = vns T - 1 then s else if s ≤ k ∧ k < vns T - 1 then k + 1 else k) := by
    intro k hk
    rw [gO']
    by_cases a1 : k = vns T - 1
    · exact ⟨s, by omega, by rw [if_pos a1], by rw [if_pos a1]⟩
    · by_cases a2 : s ≤ k ∧ k < vns T - 1
      · exact ⟨k + 1, by omega, by rw [if_neg a1, if_pos a2], by rw [if_neg a1, if_pos a2]⟩
      · exact ⟨k, hk, by rw [if_neg a1, if_neg a2], by rw [if_neg a1, if_neg a2]⟩
  refine ⟨by rw [n1, eN], by rw [n1, n2], by rw [eN]; omega, ?_, ?_, ?_⟩
  · intro k hk
    rw [eN] at hk
    have hsk : sk s k < vns T := by
      unfold sk
      by_cases q : k < s
      · rw [if_pos q]; omega
      · rw [if_neg q]; omega
    obtain ⟨a1, a2, a3, a4, a5⟩ := h4 (sk s k) hsk
    have eC : vcs T' k = vcs T (sk s k) := by unfold vcs; rw [g12 k hk]
    have eO : gO T' 48 k = gO T 48 (sk s k) := by
      rw [gO', if_neg (by omega)]
      unfold sk
      by_cases q : k < s
      · rw [if_pos q, if_neg (by omega)]
      · rw [if_neg q, if_pos (by omega)]
    rw [eC, g12 k hk, g13 k hk, g49 k hk, eD, eO]
    refine ⟨a1, a2, fun i hi => ?_, a4, a5⟩
    rw [gr _ (h5 _ (by omega)).1 (h5 _ (by omega)).2]
    exact a3 i hi
  · intro k hk
    obtain ⟨p, hp, e, -⟩ := place k hk
    rw [e]
    exact h5 p hp
  · intro k t hk ht he
    obtain ⟨p, hp, e1, e2⟩ := place k hk
    obtain ⟨q, hq, e3, e4⟩ := place t ht
    rw [e1, e3] at he
    have := h6 p q hp hq he
    subst this
    rw [e2] at e4
    by_cases a1 : k = vns T - 1
    · by_cases b1 : t = vns T - 1
      · omega
      · rw [if_pos a1, if_neg b1] at e4
        by_cases b2 : s ≤ t ∧ t < vns T - 1
        · rw [if_pos b2] at e4; omega
        · rw [if_neg b2] at e4; omega
    · rw [if_neg a1] at e4
      by_cases a2 : s ≤ k ∧ k < vns T - 1
      · rw [if_pos a2] at e4
        by_cases b1 : t = vns T - 1
        · rw [if_pos b1] at e4; omega
        · rw [if_neg b1] at e4
          by_cases b2 : s ≤ t ∧ t < vns T - 1
          · rw [if_pos b2] at e4; omega
          · rw [if_neg b2] at e4; omega
      · rw [if_neg a2] at e4
        by_cases b1 : t = vns T - 1
        · rw [if_pos b1] at e4; omega
        · rw [if_neg b1] at e4
          by_cases b2 : s ≤ t ∧ t < vns T - 1
          · rw [if_pos b2] at e4; omega
          · rw [if_neg b2] at e4; omega
/-- all but the PLAN over such a frame -/
theorem Inv.fo {c c' : Nat} {is as : List Nat} {T T' : TS} (h : Inv c T) (hc : c ≤ c') (f : FO is as T T') (h1 : ∀ k ∈ [50, 51, 52, 53, 54, 55, 2051, 2052, 2053, 2054, 2055, 2056, 13, 2073, 2074, 700, 2075, 305, 2061, 14, 2062, 1000, 2083, 1800, 2087, 202, 203, 204, 2063, 2064], k ∉ is) (h2 : ∀ k ∈ [2, 3, 42, 15, 16, 53, 8, 9, 10, 43, 44, 45, 21, 58, 37, 38, 39, 62, 63, 64, 5], k ∉ as) (h3 : ∀ k ∈ as, k < 67) (g : GS T') : Inv c' T' := by
  obtain ⟨m1, m2, m3, m4, m5, m6, m7, m8, m9, m10⟩ := h
  have hI : ∀ l : List Nat, (∀ k ∈ l, k ∈ [50, 51, 52, 53, 54, 55, 2051, 2052, 2053, 2054, 2055, 2056, 13, 2073, 2074, 700, 2075, 305, 2061, 14, 2062, 1000, 2083, 1800, 2087, 202, 203, 204, 2063, 2064]) → ∀ k ∈ l, gI T' k = gI T k := fun l hl k hk => f.1 k (h1 k (hl k hk))
  have hA : ∀ l : List Nat, (∀ k ∈ l, k ∈ [2, 3, 42, 15, 16, 53, 8, 9, 10, 43, 44, 45, 21, 58, 37, 38, 39, 62, 63, 64, 5]) → ∀ k ∈ l, gA T' k = gA T k := fun l hl k hk => f.2.1 k (h2 k (hl k hk))
  have hR : ∀ k, 67 ≤ k → gA T' k = gA T k := fun k hk => f.2.1 k (fun q => by have := h3 k q; omega)
  exact ⟨m1.mv (hI _ (by decide)) (hA _ (by decide)), g, m3.mv (hI _ (by decide)) (hA _ (by decide)) (fun k a _ => hR k (by omega)), m4.mv (fun k hk => f.2.2.2.2 k (by intro q; subst q; simp at hk)), m5.mv hc (hI _ (by decide)) (hA _ (by decide)), m6.mv (hI _ (by decide)) (hA _ (by decide)), m7.mv (hI _ (by decide)) (hA _ (by decide)), m8.mv f.2.2.1 (f.2.2.2.1 65), m9.mv (hI _ (by decide)) (hA _ (by decide)), m10.mv (hI _ (by decide)) (hA [2] (by decide) 2 (by decide)) (fun k a _ => hR k a)⟩
theorem eq_drop {n c : Nat} {T : TS} (hn : 10000 ≤ n) (hI : Inv c T) (a : Int32) : Both c (fX10_drop n a) (fX11_drop n a) T := by
  have S := hI.2.1
  have s1 : gI T 550 = nI (vns T) := S.1
  have s2 : gI T 2067 = nI (vns T) := S.2.1.trans s1
  have s3 := S.2.2.1
  unfold Both fX10_drop fX11_drop
  simp only [nm]
  by_cases ha : a = -1
  · subst ha
    refine ⟨1, uI T 550 0, uI (uI (uI T 550 0) 2050 0) 2067 0, rfl, rfl, ?_⟩
    have f : FR [550, 2050, 2067] [] 0 0 T (uI (uI (uI T 550 0) 2050 0) 2067 0) := ((FR.uI (by decide)).trans (FR.uI (by decide))).trans (FR.uI (by decide))
    exact hI.fo (Nat.le_succ c) f.fo (by decide) (by decide) (by decide) (S.none rfl rfl rfl)
  rw [if_pos ha]
  by_cases hk : ∃ j, j < vns T ∧ a = nI j
  · obtain ⟨s, hs, rfl⟩ := hk
    have e1 : fX8_isSlot_11 n (nI s) T = some (1, T) := by
      unfold fX8_isSlot_11
      rw [if_neg (nI_pos (by omega)), s1, if_neg (nI_ge hs (by omega))]
      rfl
    obtain ⟨U, a1, a2, a3, a4⟩ := remove_eq (n := n) hn s1 s3 hs
    rw [e1]
    simp only [bd]
    rw [if_pos (show ¬ (1 : Int32) = 0 by decide), a1]
    have u1 : gI (uI U 2050 0) 2067 = nI (vns T) := (a2.I (k := 2067) (by decide)).trans s2
    have uO : gO (uI U 2050 0) 48 = gO T 48 := a2.O 48
    obtain ⟨V, b1, b2, b3, b4, b5⟩ := goes_eq (n := n) (T := uI U 2050 0) hn u1 s3 hs (by rw [uO]; exact S.2.2.2.2.1)
    refine ⟨1, U, V, rfl, ?_, ?_⟩
    · rw [if_pos ha]
      unfold fX11_isSlot
      rw [u1, in_yes hs (by omega)]
      simp only [bd]
      rw [rz1]
      simp only
      rw [if_pos (show ¬ (1 : Int32) = 0 by decide), b1]
      rfl
    · have fo : FO [550, 2050, 2067] [12, 13, 49] T V := ((a2.fo.mono (by decide) (by decide)).trans ((FR.uI (is := [550, 2050, 2067]) (as := [12, 13, 49]) (lo := 0) (hi := 0) (by decide)).fo)).trans (b2.mono (by decide) (by decide))
      refine hI.fo (Nat.le_succ c) fo (by decide) (by decide) (by decide) ?_
      refine S.less hs (fo.1 55 (by decide)) ((b2.1 550 (by decide)).trans a3) b3 (fun k hk => ?_) (fun k hk => ?_) (fun k hk => ?_) (fun k => ?_) (fun q q1 q2 => fo.2.1 q (fun z => by simp only [List.mem_cons, List.not_mem_nil, or_false] at z; omega))
      · rw [b2.2.1 12 (by decide)]
        exact (a4 k hk).1
      · rw [b2.2.1 13 (by decide)]
        exact (a4 k hk).2
      · rw [b4 k hk]
        show gA U 49 _ = _
        rw [a2.A (k := 49) (by decide) (by decide)]
      · rw [b5, uO]
  · have e1 : fX8_isSlot_11 n a T = some (0, T) := by
      unfold fX8_isSlot_11
      rcases ix_cases a s1 (by omega) with h1 | ⟨h1, h2⟩ | h1
      · rw [if_pos h1]; rfl
      · rw [if_neg h1, if_pos h2]; rfl
      · exact absurd h1 hk
    rw [e1]
    refine ⟨0, T, uI T 2050 0, rfl, ?_, hI.th⟩
    rw [if_pos ha]
    unfold fX11_isSlot
    rw [show gI (uI T 2050 0) 2067 = nI (vns T) from s2, in_no hk (by omega)]
    rfl
