/-! ===== cut: its parts ===== -/
/-- a frame for everything -/
def FG (is as js ls os : List Nat) (T T' : TS) : Prop := (∀ k, k ∉ is → gI T' k = gI T k) ∧ (∀ k, k ∉ as → gA T' k = gA T k) ∧ (∀ k, k ∉ js → gJ T' k = gJ T k) ∧ (∀ k, k ∉ ls → gL T' k = gL T k) ∧ ∀ k, k ∉ os → gO T' k = gO T k
section FGS
variable {is as js ls os is' as' js' ls' os' : List Nat} {T T1 T2 : TS}
theorem FG.trans (h : FG is as js ls os T T1) (g : FG is as js ls os T1 T2) : FG is as js ls os T T2 := ⟨fun k hk => (g.1 k hk).trans (h.1 k hk), fun k hk => (g.2.1 k hk).trans (h.2.1 k hk), fun k hk => (g.2.2.1 k hk).trans (h.2.2.1 k hk), fun k hk => (g.2.2.2.1 k hk).trans (h.2.2.2.1 k hk), fun k hk => (g.2.2.2.2 k hk).trans (h.2.2.2.2 k hk)⟩
theorem FG.mono (h : FG is as js ls os T T1) (h1 : ∀ k ∈ is, k ∈ is') (h2 : ∀ k ∈ as, k ∈ as') (h3 : ∀ k ∈ js, k ∈ js') (h4 : ∀ k ∈ ls, k ∈ ls') (h5 : ∀ k ∈ os, k ∈ os') : FG is' as' js' ls' os' T T1 := ⟨fun k hk => h.1 k (fun q => hk (h1 k q)), fun k hk => h.2.1 k (fun q => hk (h2 k q)), fun k hk => h.2.2.1 k (fun q => hk (h3 k q)), fun k hk => h.2.2.2.1 k (fun q => hk (h4 k q)), fun k hk => h.2.2.2.2 k (fun q => hk (h5 k q))⟩
theorem FR.fg (h : FR is as 0 0 T T1) (h1 : ∀ k ∈ is, k ∈ is') (h2 : ∀ k ∈ as, k ∈ as') : FG is' as' js' ls' os' T T1 := ⟨fun k hk => h.1 k (fun q => hk (h1 k q)), fun k hk => h.2.1 k (fun q => hk (h2 k q)) (by omega), fun k _ => h.J k, fun k _ => h.L k, fun k _ => h.O k⟩
theorem FO.fg (h : FO is as T T1) (h1 : ∀ k ∈ is, k ∈ is') (h2 : ∀ k ∈ as, k ∈ as') (h3 : 48 ∈ os') : FG is' as' js' ls' os' T T1 := ⟨fun k hk => h.1 k (fun q => hk (h1 k q)), fun k hk => h.2.1 k (fun q => hk (h2 k q)), fun k _ => h.2.2.1 k, fun k _ => h.2.2.2.1 k, fun k hk => h.2.2.2.2 k (fun q => hk (by rw [q]; exact h3))⟩
theorem gJ_uJ (T : TS) (k : Nat) (v : Int64) (j : Nat) : gJ (uJ T k v) j = if j = k then v else gJ T j := rfl
theorem FG.uJ {k : Nat} {v : Int64} (hk : k ∈ js) : FG is as js ls os T (uJ T k v) := ⟨fun _ _ => rfl, fun _ _ => rfl, fun j hj => by rw [gJ_uJ, if_neg (fun q => hj (by rw [q]; exact hk))], fun _ _ => rfl, fun _ _ => rfl⟩
theorem gL_sL (T : TS) (k : Nat) (i : Int32) (v : Int64) (j : Nat) : gL (sL T k i v) j = if j = k then vp_updL (gL T k) i.toNatClampNeg v else gL T j := by
  cases T
  rfl
theorem FG.sL {k : Nat} {i : Int32} {v : Int64} (hk : k ∈ ls) : FG is as js ls os T (sL T k i v) := ⟨fun _ _ => rfl, fun _ _ => rfl, fun _ _ => rfl, fun j hj => by rw [gL_sL, if_neg (fun q => hj (by rw [q]; exact hk))], fun _ _ => rfl⟩
theorem FG.uI {k : Nat} {v : Int32} (hk : k ∈ is) : FG is as js ls os T (uI T k v) := (FR.uI (is := [k]) (as := []) (lo := 0) (hi := 0) (List.mem_singleton.mpr rfl)).fg (fun j hj => by rw [List.mem_singleton] at hj; rw [hj]; exact hk) (by simp)
theorem FG.sA {k : Nat} {i v : Int32} (hk : k ∈ as) : FG is as js ls os T (sA T k i v) := (FR.sA (is := []) (as := [k]) (lo := 0) (hi := 0) (Or.inl (List.mem_singleton.mpr rfl))).fg (by simp) (fun j hj => by rw [List.mem_singleton] at hj; rw [hj]; exact hk)
theorem gL_at (T : TS) (i : Nat) (hi : i < 7) (v : Int64) (j : Nat) : gL (sL T 65 (nI i) v) 65 j = if j = i then v else gL T 65 j := by
  rw [gL_sL, if_pos rfl, nI_clamp (by omega)]
  rfl
end FGS
/-- lots behind one roll taken -/
def LT (a1 a2 a3 : Nat) (T T' : TS) (m m' l rest b f : Nat) : Prop := ∀ i, i < m' → gA T' a1 i = (if i = m then nI rest else gA T a1 i) ∧ gA T' a2 i = (if i = m then nI 1 else if i = l then nI (b - 1) else gA T a2 i) ∧ gA T' a3 i = (if i = m then nI f else gA T a3 i)
theorem f01 {f : Nat} (h : f ≤ 1) : nI f = 0 ∨ nI f = 1 := by
  rcases (show f = 0 ∨ f = 1 by omega) with rfl | rfl
  · exact Or.inl rfl
  · exact Or.inr rfl
theorem zA_sZ (T : TS) (k : Nat) (i x : Int32) (j : Nat) : gA (sZ T k i x) j = if j = k then upd (gA T k) i.toNatClampNeg (vp_nar .boolean x) else gA T j := by cases T; rfl
theorem nar01 {f : Nat} (h : f ≤ 1) : vp_nar .boolean (nI f) = nI f := by
  rcases (show f = 0 ∨ f = 1 by omega) with rfl | rfl <;> rfl
theorem tk9 {n m l a b f t v : Nat} {T : TS} (e : gI T 1800 = nI m) (hm : m ≤ 8) (hl : l < m) (h37 : gA T 37 l = nI a) (h38 : gA T 38 l = nI b) (h39 : gA T 39 l = nI f) (hb : 1 ≤ b) (ht : t ≤ a) (ha : a ≤ 100000) (hf : f ≤ 1) (hv : v ≤ 10000) : ∃ T', fX9_takeRoll n (nI l) (nI t) (nI v) T = some (nI (if a - t < v ∨ m = 8 then 0 else a - t), T') ∧ FR [1800] [37, 38, 39] 0 0 T T' ∧ gI T' 1800 = nI (if a - t < v ∨ m = 8 then m else m + 1) ∧ LT 37 38 39 T T' m (if a - t < v ∨ m = 8 then m else m + 1) l (a - t) b f := by
  unfold fX9_takeRoll
  have k8 : ∀ {z : Option (Int32 × TS)}, ck (nI l) 8 z = z := ck_nI (by omega) (by decide)
  have kc : (nI l).toNatClampNeg = l := nI_clamp (by omega)
  have e1 : nI b - 1 = nI (b - 1) := nI_prd hb
  simp only [k8, kc, nm, h38, e1]
  rw [show gA (sA T 38 (nI l) (nI (b - 1))) 37 l = nI a from h37, pk_sub ht]
  have f0 : FR [1800] [37, 38, 39] 0 0 T (sA T 38 (nI l) (nI (b - 1))) := FR.sA (Or.inl (by decide))
  have g38 : ∀ i, gA (sA T 38 (nI l) (nI (b - 1))) 38 i = if i = l then nI (b - 1) else gA T 38 i := gA_sA_at (by omega)
  have stay : LT 37 38 39 T (sA T 38 (nI l) (nI (b - 1))) m m l (a - t) b f := by
    intro i hi
    have q : ¬ i = m := by omega
    rw [if_neg q, if_neg q, if_neg q]
    exact ⟨rfl, g38 i, rfl⟩
  by_cases q1 : a - t < v
  · rw [if_pos (nI_lt q1 (by omega)), if_pos (Or.inl q1), if_pos (Or.inl q1)]
    exact ⟨_, rfl, f0, e, stay⟩
  · rw [if_neg (nI_nlt (by omega) (by omega))]
    by_cases q2 : m = 8
    · rw [full9_yes (T := sA T 38 (nI l) (nI (b - 1))) (show gI T 1800 = nI 8 by rw [e, q2])]
      simp only [bd]
      rw [if_neg (show ¬ (1 : Int32) = 0 by decide), if_pos (Or.inr q2), if_pos (Or.inr q2)]
      exact ⟨_, rfl, f0, e, stay⟩
    · have hm8 : m < 8 := by omega
      rw [full9_no (T := sA T 38 (nI l) (nI (b - 1))) e hm8]
      simp only [bd]
      rw [if_pos trivial, show gA (sA T 38 (nI l) (nI (b - 1))) 39 l = nI f from h39, add9 (T := sA T 38 (nI l) (nI (b - 1))) e hm8, if_neg (by omega), if_neg (by omega)]
      simp only [bv]
      refine ⟨_, rfl, ?_, ?_, ?_⟩
      · exact ((((f0.trans (FR.sA (Or.inl (by decide)))).trans (FR.sA (Or.inl (by decide)))).trans (FR.sZ (Or.inl (by decide)))).trans (FR.uI (by decide)))
      · rw [gI_uI, nI_1]
      · intro i hi
        refine ⟨?_, ?_, ?_⟩
        · rw [gA_uI, zA_sZ, if_neg (by decide), zA_sA, if_neg (by decide), gA_sA_at (by omega), zA_sA, if_neg (show ¬ (37 : Nat) = 38 by decide)]
        · rw [gA_uI, zA_sZ, if_neg (by decide), gA_sA_at (by omega), zA_sA, if_neg (show ¬ (38 : Nat) = 37 by decide)]
          by_cases q : i = m
          · rw [if_pos q, if_pos q]
            rfl
          · rw [if_neg q, if_neg q]
            exact g38 i
        · rw [gA_uI, gA_sZ_at (by omega) (f01 hf), zA_sA, if_neg (show ¬ (39 : Nat) = 38 by decide), zA_sA, if_neg (show ¬ (39 : Nat) = 37 by decide), zA_sA, if_neg (show ¬ (39 : Nat) = 38 by decide)]
theorem done9 {n x d k : Nat} {T : TS} (hn : 100 ≤ n) (hd : gI T 55 = nI d) (h6 : d ≤ 6) (hx : x < 2 ^ 30) : ∃ T', fX6_addDone n (nI x) (nI k) T = some T' ∧ FR [] [9] 0 0 T T' ∧ ∀ i, gA T' 9 i = if i < d then gA T 9 i + nI (cn x i * k) else gA T 9 i := by
  unfold fX6_addDone
  refine lpi (fun f (s : Int32 × TS) => fX6_addDone_L2 n (nI x) (nI k) (fun T_4 => some T_4) f s.1 s.2) (fun j s => s.1 = nI j ∧ FR [] [9] 0 0 T s.2 ∧ ∀ i, gA s.2 9 i = if i < j then gA T 9 i + nI (cn x i * k) else gA T 9 i) d (fun r => ∃ T', r = some T' ∧ FR [] [9] 0 0 T T' ∧ ∀ i, gA T' 9 i = if i < d then gA T 9 i + nI (cn x i * k) else gA T 9 i) ?_ ?_ n (0, T) (by omega) ⟨rfl, FR.rf, fun i => by rw [if_neg (by omega)]⟩
  · rintro j ⟨a, U⟩ hj ⟨e, f1, g⟩
    simp only at e f1 g
    subst e
    refine ⟨(nI (j + 1), sA U 9 (nI j) (gA T 9 j + nI (cn x j * k))), ⟨rfl, f1.trans (FR.sA (Or.inl (by decide))), fun i => ?_⟩, fun f => ?_⟩
    · show gA (sA U 9 (nI j) _) 9 i = _
      rw [gA_sA_at (by omega)]
      rcases Nat.lt_trichotomy i j with q | q | q
      · rw [if_neg (by omega), g, if_pos q, if_pos (by omega)]
      · rw [if_pos q, if_pos (by omega), q]
      · rw [if_neg (by omega), g, if_neg (by omega), if_neg (by omega)]
    · show fX6_addDone_L2 n (nI x) (nI k) _ (f + 1) (nI j) U = _
      rw [fX6_addDone_L2, f1.I (by decide), hd, if_neg (nI_ge hj (by omega)), ck_nI (by omega) (by decide), ofW_nI hx (by omega)]
      simp only [bd, nm]
      rw [ck_nI (by omega) (by decide), nI_clamp (by omega), g, if_neg (by omega), pk_mul, nI_1]
  · rintro ⟨a, U⟩ ⟨e, f1, g⟩ f
    simp only at e f1 g
    subst e
    refine ⟨U, ?_, f1, g⟩
    show fX6_addDone_L2 n (nI x) (nI k) _ (f + 1) (nI d) U = _
    rw [fX6_addDone_L2, f1.I (by decide), hd, if_pos (nI_le (Nat.le_refl _) (by omega))]
theorem done44 {n x d k q : Nat} {y1 y2 y3 : Int32} {T : TS} (hn : 100 ≤ n) (hd : gI T 2056 = nI d) (h6 : d ≤ 6) (hq1 : 67 ≤ q) (hq2 : q < 3247) (hcc : ∀ i, i < 6 → gA T q i = nI (cn x i)) : ∃ T', FR [] [44] 0 0 T T' ∧ (∀ i, gA T' 44 i = if i < d then gA T 44 i + nI (cn x i * k) else gA T 44 i) ∧ (fun kk => fX11_cut_L97 n y1 y2 y3 q (nI k) kk n 0 T) = fun kk => kk T' := by
  refine lpi (fun f (s : Int32 × TS) kk => fX11_cut_L97 n y1 y2 y3 q (nI k) kk f s.1 s.2) (fun j s => s.1 = nI j ∧ FR [] [44] 0 0 T s.2 ∧ ∀ i, gA s.2 44 i = if i < j then gA T 44 i + nI (cn x i * k) else gA T 44 i) d (fun r => ∃ T', FR [] [44] 0 0 T T' ∧ (∀ i, gA T' 44 i = if i < d then gA T 44 i + nI (cn x i * k) else gA T 44 i) ∧ r = fun kk => kk T') ?_ ?_ n (0, T) (by omega) ⟨rfl, FR.rf, fun i => by rw [if_neg (by omega)]⟩
  · rintro j ⟨a, U⟩ hj ⟨e, f1, g⟩
    simp only at e f1 g
    subst e
    refine ⟨(nI (j + 1), sA U 44 (nI j) (gA T 44 j + nI (cn x j * k))), ⟨rfl, f1.trans (FR.sA (Or.inl (by decide))), fun i => ?_⟩, fun f => funext fun kk => ?_⟩
    · show gA (sA U 44 (nI j) _) 44 i = _
      rw [gA_sA_at (by omega)]
      rcases Nat.lt_trichotomy i j with q | q | q
      · rw [if_neg (by omega), g, if_pos q, if_pos (by omega)]
      · rw [if_pos q, if_pos (by omega), q]
      · rw [if_neg (by omega), g, if_neg (by omega), if_neg (by omega)]
    · show fX11_cut_L97 n y1 y2 y3 q (nI k) kk (f + 1) (nI j) U = _
      rw [fX11_cut_L97, f1.I (by decide), hd, if_neg (nI_ge hj (by omega)), ck_nI (by omega) (by decide), ak_row hq1 (by omega), al_6 hq2, ck_nI (by omega) (by decide), ck_nI (by omega) (by decide), nI_clamp (by omega), g, if_neg (by omega), f1.A (k := q) (by simp only [List.mem_cons, List.not_mem_nil, or_false]; omega) (by omega), hcc j (by omega), pk_mul]
      simp only [nm]
      rw [nI_1]
  · rintro ⟨a, U⟩ ⟨e, f1, g⟩ f
    simp only at e f1 g
    subst e
    refine ⟨U, f1, g, funext fun kk => ?_⟩
    show fX11_cut_L97 n y1 y2 y3 q (nI k) kk (f + 1) (nI d) U = _
    rw [fX11_cut_L97, f1.I (by decide), hd, if_pos (nI_le (Nat.le_refl _) (by omega))]
theorem cp2024 {n m : Nat} {T : TS} (hn : 100 ≤ n) (hm : gI T 1200 = nI m) (h21 : m ≤ 21) : ∃ T', fX1_copyFrom_20_24 n T = some T' ∧ FR [1000] [21] 0 0 T T' ∧ gI T' 1000 = nI m ∧ ∀ i, i < m → gA T' 21 i = gA T 25 i := by
  unfold fX1_copyFrom_20_24
  simp only [nm]
  rw [hm]
  have f0 : FR [1000] [21] 0 0 T (uI T 1000 (nI m)) := FR.uI (by decide)
  refine lpi (fun f (s : Int32 × TS) => fX1_copyFrom_20_24_L10 n (fun T_3 => some T_3) f s.1 s.2) (fun j s => s.1 = nI j ∧ FR [1000] [21] 0 0 T s.2 ∧ gI s.2 1000 = nI m ∧ ∀ i, i < j → gA s.2 21 i = gA T 25 i) m (fun r => ∃ T', r = some T' ∧ FR [1000] [21] 0 0 T T' ∧ gI T' 1000 = nI m ∧ ∀ i, i < m → gA T' 21 i = gA T 25 i) ?_ ?_ n (0, uI T 1000 (nI m)) (by omega) ⟨rfl, f0, gI_uI _ _ _, fun i hi => by omega⟩
  · rintro j ⟨a, U⟩ hj ⟨e, f1, s1, g⟩
    simp only at e f1 s1 g
    subst e
    refine ⟨(nI (j + 1), sA U 21 (nI j) (gA T 25 j)), ⟨rfl, f1.trans (FR.sA (Or.inl (by decide))), s1, fun i hi => ?_⟩, fun f => ?_⟩
    · show gA (sA U 21 (nI j) _) 21 i = _
      rw [gA_sA_at (by omega)]
      by_cases q : i = j
      · rw [if_pos q, q]
      · rw [if_neg q]
        exact g i (by omega)
    · show fX1_copyFrom_20_24_L10 n _ (f + 1) (nI j) U = _
      rw [fX1_copyFrom_20_24_L10, s1, if_neg (nI_ge hj (by omega)), ck_nI (by omega) (by decide), ck_nI (by omega) (by decide), nI_clamp (by omega), f1.A (k := 25) (by decide) (by decide)]
      simp only [nm]
      rw [nI_1]
  · rintro ⟨a, U⟩ ⟨e, f1, s1, g⟩ f
    simp only at e f1 s1 g
    subst e
    refine ⟨U, ?_, f1, s1, g⟩
    show fX1_copyFrom_20_24_L10 n _ (f + 1) (nI m) U = _
    rw [fX1_copyFrom_20_24_L10, s1, if_pos (nI_le (Nat.le_refl _) (by omega))]
/-- one roll of a SLOT goes -/
theorem tk8 {n m s r : Nat} {T : TS} (hn : 10000 ≤ n) (hm : gI T 550 = nI m) (h60 : m ≤ 60) (hs : s < m) (h13 : gA T 13 s = nI r) (hr : 1 ≤ r) (hr2 : r ≤ 1000) : ∃ T', fX8_takeRoll_11 n (nI s) T = some T' ∧ FR [550] [12, 13] 0 0 T T' ∧ (r = 1 → gI T' 550 = nI (m - 1) ∧ ∀ k, k < m - 1 → gA T' 12 k = gA T 12 (sk s k) ∧ gA T' 13 k = gA T 13 (sk s k)) ∧ (r ≠ 1 → gI T' 550 = nI m ∧ gA T' 12 = gA T 12 ∧ ∀ k, gA T' 13 k = if k = s then nI (r - 1) else gA T 13 k) := by
  unfold fX8_takeRoll_11
  have k8 : ∀ {z : Option TS}, ck (nI s) 60 z = z := ck_nI (by omega) (by decide)
  have kc : (nI s).toNatClampNeg = s := nI_clamp (by omega)
  have e1 : nI r - 1 = nI (r - 1) := nI_prd hr
  simp only [k8, kc, nm, h13, e1]
  have g13 : ∀ i, gA (sA T 13 (nI s) (nI (r - 1))) 13 i = if i = s then nI (r - 1) else gA T 13 i := gA_sA_at (by omega)
  have f0 : FR [550] [12, 13] 0 0 T (sA T 13 (nI s) (nI (r - 1))) := FR.sA (Or.inl (by decide))
  rw [g13 s, if_pos rfl]
  by_cases q : r = 1
  · rw [if_neg (show ¬ (1 : Int32) ≤ nI (r - 1) by rw [q]; decide)]
    obtain ⟨U, a1, a2, a3, a4⟩ := remove_eq (n := n) (T := sA T 13 (nI s) (nI (r - 1))) hn hm h60 hs
    rw [a1]
    refine ⟨U, rfl, f0.trans a2, fun _ => ⟨a3, fun k hk => ?_⟩, fun h => absurd q h⟩
    obtain ⟨b1, b2⟩ := a4 k hk
    refine ⟨b1, ?_⟩
    rw [b2, g13, if_neg (by unfold sk; split <;> omega)]
  · rw [if_pos (show (1 : Int32) ≤ nI (r - 1) from nI_le (a := 1) (by omega) (by omega))]
    exact ⟨_, rfl, f0, fun h => absurd h q, fun _ => ⟨hm, rfl, g13⟩⟩
theorem GS.dec {T T' : TS} {s r : Nat} (h : GS T) (hs : s < vns T) (h13 : gA T 13 s = nI r) (hr : 2 ≤ r) (hr2 : r ≤ 1000) (hd : gI T' 55 = gI T 55) (n1 : gI T' 550 = gI T 550) (n2 : gI T' 2067 = gI T 2067) (g12 : gA T' 12 = gA T 12) (g13 : ∀ k, gA T' 13 k = if k = s then nI (r - 1) else gA T 13 k) (g49 : ∀ k, gA T' 49 k = if k = s then nI (r - 1) else gA T 49 k) (gO' : gO T' 48 = gO T 48) (gr : ∀ q, 3067 ≤ q → q < 3127 → gA T' q = gA T q) : GS T' := by
  obtain ⟨h1, h2, h3, h4, h5, h6⟩ := h
  have eN : vns T' = vns T := by unfold vns; rw [n1]
  have eD : vd T' = vd T := by unfold vd; rw [hd]
  have eC : ∀ k, vcs T' k = vcs T k := fun k => by unfold vcs; rw [g12]
  refine ⟨by rw [n1, eN]; exact h1, by rw [n1, n2]; exact h2, by rw [eN]; exact h3, ?_, by rw [gO']; exact h5, by rw [gO']; exact h6⟩
  intro k hk
  rw [eN] at hk
  obtain ⟨a1, a2, a3, a4, a5⟩ := h4 k hk
  rw [eC, g12, eD, gO', g13, g49]
  refine ⟨a1, a2, fun i hi => ?_, ?_, ?_⟩
  · rw [gr _ (h5 k (by omega)).1 (h5 k (by omega)).2]
    exact a3 i hi
  · rw [a4]
  · by_cases q : k = s
    · rw [if_pos q]
      exact ⟨r - 1, by omega, by omega, rfl⟩
    · rw [if_neg q]
      exact a5
