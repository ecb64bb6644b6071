/-! ===== line: the reference's copy, walk and new order ===== -/
theorem mcp_48_50 {n m : Nat} {T : TS} (hn : 10000 ≤ n) (h60 : m ≤ 60) (hA : ∀ s, s < 60 → 3067 ≤ gO T 48 s ∧ gO T 48 s < 3127) (hC : ∀ s, s < 60 → 3127 ≤ gO T 50 s ∧ gO T 50 s < 3187) (hi : ∀ s t, s < 60 → t < 60 → gO T 50 s = gO T 50 t → s = t) : ∃ T', fX11_copy_48_49_50_51 n (nI m) T = some T' ∧ FR [] [51] 3127 3187 T T' ∧ ∀ s, s < m → (∀ i, i < 6 → gA T' (gO T 50 s) i = gA T (gO T 48 s) i) ∧ gA T' 51 s = gA T 49 s := by
  unfold fX11_copy_48_49_50_51
  -- one row
  have row : ∀ (U : TS) (j : Nat) (kk : TS → Option TS), gO U 48 = gO T 48 → gO U 50 = gO T 50 → j < 60 → fX11_copy_48_49_50_51_L12 n (nI m) (nI j) kk n 0 U = kk (uA U (gO T 50 j) (fun i => if i < 6 then gA U (gO T 48 j) i else gA U (gO T 50 j) i)) := by
    intro U j kk h1 h2 hj
    have a1 := hA j hj
    have c1 := hC j hj
    refine rowcp (fun f x V => fX11_copy_48_49_50_51_L12 n (nI m) (nI j) kk f x V) U (gO T 48 j) (gO T 50 j) kk ?_ ?_ n (by omega)
    · intro i hi2 f
      generalize hV : uA U (gO T 50 j) (fun k => if k < i then gA U (gO T 48 j) k else gA U (gO T 50 j) k) = V
      have v1 : gO V 48 = gO T 48 := by subst hV; exact h1
      have v2 : gO V 50 = gO T 50 := by subst hV; exact h2
      have v4 : ∀ k, gA V (gO T 48 j) k = gA U (gO T 48 j) k := fun k => by subst hV; rw [zA_uA, if_neg (by omega)]
      show fX11_copy_48_49_50_51_L12 n (nI m) (nI j) kk (f + 1) (nI i) V = _
      rw [fX11_copy_48_49_50_51_L12, if_neg (show ¬ (6 : Int32) ≤ nI i from nI_ge (b := 6) hi2 (by decide)), ck_nI hj (by decide), ck_nI hj (by decide), nI_clamp (show j < 2 ^ 31 by omega), v1, v2, ak_row (by omega) (by omega), al_6 (by omega), ck_nI hi2 (by decide), ak_row (by omega) (by omega), al_6 (by omega), ck_nI hi2 (by decide), nI_clamp (show i < 2 ^ 31 by omega), v4]
      simp only [nm]
      rw [nI_1]
    · intro f
      show fX11_copy_48_49_50_51_L12 n (nI m) (nI j) kk (f + 1) (nI 6) _ = _
      rw [fX11_copy_48_49_50_51_L12, if_pos (show (6 : Int32) ≤ nI 6 by decide)]
  refine lpi (fun f (x : Int32 × TS) => fX11_copy_48_49_50_51_L3 n (nI m) (fun T_4 => some T_4) f x.1 x.2) (fun j x => x.1 = nI j ∧ FR [] [51] 3127 3187 T x.2 ∧ ∀ s, s < j → (∀ i, i < 6 → gA x.2 (gO T 50 s) i = gA T (gO T 48 s) i) ∧ gA x.2 51 s = gA T 49 s) m (fun o => ∃ T', o = some T' ∧ FR [] [51] 3127 3187 T T' ∧ ∀ s, s < m → (∀ i, i < 6 → gA T' (gO T 50 s) i = gA T (gO T 48 s) i) ∧ gA T' 51 s = gA T 49 s) ?_ ?_ n (0, T) (by omega) ⟨rfl, FR.rf, fun s hs => by omega⟩
  · rintro j ⟨x, U⟩ hj ⟨hx, hf, hc⟩
    simp only at hx hf hc
    subst hx
    have a1 := hA j (by omega)
    have c1 := hC j (by omega)
    have eA : gA U (gO T 48 j) = gA T (gO T 48 j) := hf.A (fun z => by simp only [List.mem_cons, List.not_mem_nil, or_false] at z; omega) (by omega)
    have eB : gA U 49 = gA T 49 := hf.A (by decide) (by decide)
    generalize hV : uA U (gO T 50 j) (fun i => if i < 6 then gA U (gO T 48 j) i else gA U (gO T 50 j) i) = V
    have fV : FR [] [51] 3127 3187 T V := by subst hV; exact hf.trans (FR.uA (Or.inr ⟨c1.1, c1.2⟩))
    refine ⟨(nI (j + 1), sA V 51 (nI j) (gA T 49 j)), ⟨rfl, fV.trans (FR.sA (Or.inl (by decide))), fun s hs => ?_⟩, fun f => ?_⟩
    · have cs := hC s (by omega)
      constructor
      · intro i hi2
        rw [zA_sA, if_neg (by omega)]
        subst hV
        rw [zA_uA]
        by_cases h1 : s = j
        · subst h1
          rw [if_pos rfl, if_pos hi2, eA]
        · rw [if_neg (fun q => h1 (hi s j (by omega) (by omega) q))]
          exact (hc s (by omega)).1 i hi2
      · rw [gA_sA_at (by omega)]
        by_cases h1 : s = j
        · rw [if_pos h1, h1]
        · rw [if_neg h1]
          subst hV
          rw [zA_uA, if_neg (by omega)]
          exact (hc s (by omega)).2
    · show fX11_copy_48_49_50_51_L3 n (nI m) _ (f + 1) (nI j) U = fX11_copy_48_49_50_51_L3 n (nI m) _ f (nI (j + 1)) _
      rw [fX11_copy_48_49_50_51_L3, if_neg (nI_ge hj (by omega)), row U j _ (hf.O 48) (hf.O 50) (by omega), hV]
      have c6 : ∀ {z : Option TS}, ck (nI j) 60 z = z := ck_nI (by omega) (by decide)
      rw [c6, c6, nI_clamp (by omega)]
      simp only [nm]
      rw [nI_1, show gA V 49 = gA T 49 from fV.A (by decide) (by decide)]
  · rintro ⟨x, U⟩ ⟨hx, hf, hc⟩ f
    simp only at hx hf hc
    subst hx
    refine ⟨U, ?_, hf, hc⟩
    show fX11_copy_48_49_50_51_L3 n (nI m) _ (f + 1) (nI m) U = _
    rw [fX11_copy_48_49_50_51_L3, if_pos (nI_le (Nat.le_refl _) (by omega))]
def c244 (n : Nat) (y2 y4 y5 y6 : Int32) (y100 : Nat → Int32) (kk : Int32 → TS → Option (Int32 × TS)) (fuel : Nat) (x7 : Int32) (r_26 : Int32) (T_25 : TS) : Option (Int32 × TS) := ck (y4 ||| ((1 : Int32) <<< (x7 &&& 31))) 256 (ak (gO T_25 61 (Int32.toNatClampNeg (y4 ||| ((1 : Int32) <<< (x7 &&& 31))))) (ck x7 (al (gO T_25 61 (Int32.toNatClampNeg (y4 ||| ((1 : Int32) <<< (x7 &&& 31)))))) (ck y4 256 (ak (gO T_25 61 (Int32.toNatClampNeg y4)) (ck y5 (al (gO T_25 61 (Int32.toNatClampNeg y4))) (if (r_26 + (gA T_25 (gO T_25 61 (Int32.toNatClampNeg (y4 ||| ((1 : Int32) <<< (x7 &&& 31))))) (Int32.toNatClampNeg x7))) = (gA T_25 (gO T_25 61 (Int32.toNatClampNeg y4)) (Int32.toNatClampNeg y5)) then kk x7 T_25 else fX11_line_L244 n y2 y4 y5 y6 y100 kk fuel (x7 + 1) T_25))))))
theorem unf244 (n : Nat) (y2 y4 y5 y6 : Int32) (y100 : Nat → Int32) (kk : Int32 → TS → Option (Int32 × TS)) (fuel : Nat) (x7 : Int32) (T : TS) : fX11_line_L244 n y2 y4 y5 y6 y100 kk (fuel + 1) x7 T = if ((y4 >>> (x7 &&& 31)) &&& (1 : Int32)) = (1 : Int32) then fX11_line_L244 n y2 y4 y5 y6 y100 kk fuel (x7 + 1) T else if ¬ y5 = (8 : Int32) then bd (fX11_moves n y5 x7 T) (c244 n y2 y4 y5 y6 y100 kk fuel x7) else bd (fX11_moves n (-1 : Int32) x7 T) (c244 n y2 y4 y5 y6 y100 kk fuel x7) := by
  rw [fX11_line_L244]
  rfl
/-- the table is full -/
def TB (T U : TS) : Prop := (∀ t s, t < 2 ^ vns T → s < vns T → gA U (3247 + t) s = nI (lvT T t (s + 1))) ∧ gA U 3247 8 = nI (lvT T 0 0)
theorem TB.fr {T U V : TS} {lo hi : Nat} {as : List Nat} (h : TB T U) (h8 : vns T ≤ 8) (f : FR [] as lo hi U V) (h1 : ∀ k ∈ as, k < 3247) (h2 : hi ≤ 3247) : TB T V := by
  have hp := pw8 h8
  refine ⟨fun t s ht hs => ?_, ?_⟩
  · rw [f.A (fun z => by have := h1 _ z; omega) (by omega)]
    exact h.1 t s ht hs
  · rw [f.A (fun z => by have := h1 _ z; omega) (by omega)]
    exact h.2
theorem r244 {n set la r : Nat} {T U : TS} {y2 y6 : Int32} {y100 : Nat → Int32} (hn : 10000 ≤ n) (hM : GM T) (hS : GS T) (hL : GL T) (h8 : vns T ≤ 8) (h : RfL T U) (hX : ∀ r, r < 256 → gO T 61 r = 3247 + r) (hTB : TB T U) (hset : set + 1 < 2 ^ vns T) (hla : LA T set la r) : ∃ V, FR [] [59, 60] 0 0 U V ∧ (fun kk => fX11_line_L244 n y2 (nI set) (nI la) y6 y100 kk n 0 U) = fun kk => kk (nI (fsl (vns T) (mvT T) set r)) V := by
  have hp := pw8 h8
  have hla9 : la < 9 := by rcases hla with q | q <;> omega
  obtain ⟨f1, f2, f3⟩ := fsl_ok (mv := mvT T) (r := r) h8 (mvT_le hM hS) hset
  have lb := lvT_le hM hS h8 (show set < 2 ^ vns T by omega) r
  -- one turn
  have one : ∀ j V, j < vns T → FR [] [59, 60] 0 0 U V → ∃ X, FR [] [59, 60] 0 0 U X ∧ (∀ g kk, fX11_line_L244 n y2 (nI set) (nI la) y6 y100 kk (g + 1) (nI j) V = if okS (vns T) (mvT T) set r j = true then kk (nI j) X else fX11_line_L244 n y2 (nI set) (nI la) y6 y100 kk g (nI (j + 1)) X) := by
    intro j V hj fV
    have hV : RfL T V := h.fr hS fV (by decide) (Or.inr (by omega))
    have tV : TB T V := hTB.fr h8 fV (by decide) (by omega)
    cases hb : set.testBit j with
    | true =>
      refine ⟨V, fV, fun g kk => ?_⟩
      rw [unf244, has_nI (by omega) (by omega), hb, if_pos (show (if true = true then (1 : Int32) else 0) = 1 by decide), nI_1, if_neg (show ¬ okS (vns T) (mvT T) set r j = true from fun z => by have := okS_bit z; rw [hb] at this; cases this)]
    | false =>
      obtain ⟨o1, o2⟩ := or_in h8 (show set < 2 ^ vns T by omega) hj hb
      have mvs : ∃ X, (if ¬ nI la = (8 : Int32) then fX11_moves n (nI la) (nI j) V else fX11_moves n (-1) (nI j) V) = some (nI (mvT T r j), X) ∧ FR [] [59, 60] 0 0 V X := by
        rcases hla with ⟨q1, q2, q3⟩ | ⟨q1, q2⟩
        · rw [if_neg (show ¬ ¬ nI la = 8 from fun z => z (by rw [q1]; rfl)), q3]
          exact movesR0 (by omega) hM hS hL hV hj
        · rw [if_pos (show ¬ nI la = (8 : Int32) from fun z => by have := (nI_eq (a := la) (b := 8) (by omega) (by decide)).mp z; omega), q2]
          exact movesR1 (by omega) hM hS hV hj q1
      obtain ⟨X, x1, x2⟩ := mvs
      have fX : FR [] [59, 60] 0 0 U X := fV.trans x2
      have tX : TB T X := hTB.fr h8 fX (by decide) (by omega)
      have eX : ∀ k, gO X k = gO T k := fun k => (fX.O k).trans (h.2.2.2.2.1 k)
      have b2 := lvT_le hM hS h8 o2 (j + 1)
      have b3 := mvT_le hM hS r j hj
      have hme : gA X (3247 + set) la = nI (lvT T set r) := by
        rcases hla with ⟨q1, q2, q3⟩ | ⟨q1, q2⟩
        · rw [q1, q2, q3]
          exact tX.2
        · rw [q2]
          exact tX.1 set la (by omega) q1
      refine ⟨X, fX, fun g kk => ?_⟩
      have ebd : (if ¬ nI la = (8 : Int32) then bd (fX11_moves n (nI la) (nI j) V) (c244 n y2 (nI set) (nI la) y6 y100 kk g (nI j)) else bd (fX11_moves n (-1 : Int32) (nI j) V) (c244 n y2 (nI set) (nI la) y6 y100 kk g (nI j))) = c244 n y2 (nI set) (nI la) y6 y100 kk g (nI j) (nI (mvT T r j)) X := by
        by_cases z : nI la = (8 : Int32)
        · rw [if_neg (fun y => y z)] at x1 ⊢
          rw [x1]
          rfl
        · rw [if_pos z] at x1 ⊢
          rw [x1]
          rfl
      rw [unf244, has_nI (by omega) (by omega), hb, if_neg (show ¬ (if false = true then (1 : Int32) else 0) = 1 by decide), ebd]
      unfold c244
      rw [shl_nI (by omega), nx_or, ck_nI (by omega) (by decide), nI_clamp (show set ||| 2 ^ j < 2 ^ 31 by omega), eX, hX _ (by omega), ak_row (by omega) (by omega), al_9 (by omega), ck_nI (by omega) (by decide), ck_nI (by omega) (by decide), nI_clamp (show set < 2 ^ 31 by omega), hX set (by omega), ak_row (by omega) (by omega), al_9 (by omega), ck_nI hla9 (by decide), nI_clamp (show j < 2 ^ 31 by omega), nI_clamp (show la < 2 ^ 31 by omega), tX.1 _ j o2 hj, hme, nI_add, nI_1]
      unfold okS
      rw [hb]
      by_cases q : mvT T r j + lvT T (set ||| 2 ^ j) (j + 1) = lvT T set r
      · rw [if_pos (by rw [q]), if_pos (by rw [decide_eq_true q]; rfl)]
      · rw [if_neg (fun z => q ((nI_eq (by omega) (by omega)).mp z)), if_neg (by rw [decide_eq_false q]; decide)]
  refine lpi (fun g (a : Int32 × TS) kk => fX11_line_L244 n y2 (nI set) (nI la) y6 y100 kk g a.1 a.2) (fun j a => a.1 = nI j ∧ FR [] [59, 60] 0 0 U a.2) (fsl (vns T) (mvT T) set r) (fun o => ∃ V, FR [] [59, 60] 0 0 U V ∧ o = fun kk => kk (nI (fsl (vns T) (mvT T) set r)) V) ?_ ?_ n (0, U) (by omega) ⟨rfl, FR.rf⟩
  · rintro j ⟨a, V⟩ hj ⟨e, fV⟩
    simp only at e fV
    subst e
    obtain ⟨X, x1, x2⟩ := one j V (by omega) fV
    refine ⟨(nI (j + 1), X), ⟨rfl, x1⟩, fun g => funext fun kk => ?_⟩
    show fX11_line_L244 n y2 (nI set) (nI la) y6 y100 kk (g + 1) (nI j) V = _
    rw [x2, f3 j hj, if_neg (by decide)]
  · rintro ⟨a, V⟩ ⟨e, fV⟩ g
    simp only at e fV
    subst e
    obtain ⟨X, x1, x2⟩ := one _ V f1 fV
    refine ⟨X, x1, funext fun kk => ?_⟩
    show fX11_line_L244 n y2 (nI set) (nI la) y6 y100 kk (g + 1) (nI (fsl (vns T) (mvT T) set r)) V = _
    rw [x2, if_pos f2]
/-- 'last' where the walk stands -/
def lst (r : Nat) : Nat := if r = 0 then 8 else r - 1
theorem r232 {n : Nat} {T U : TS} {y2 : Int32} (hn : 10000 ≤ n) (hM : GM T) (hS : GS T) (hL : GL T) (h8 : vns T ≤ 8) (h : RfL T U) (hX : ∀ r, r < 256 → gO T 61 r = 3247 + r) (hTB : TB T U) : ∃ (o : Nat → Int32) (V : TS), FR [] [59, 60] 0 0 U V ∧ (∀ p, p < vns T → o p = nI (tn (vns T) (mvT T) p)) ∧ (fun kk => fX11_line_L232 n y2 kk n 0 8 0 (fun _ => 0) U) = fun kk => kk o V := by
  have hp := pw8 h8
  have hm := mvT_le hM hS
  refine lpi (fun g (a : Int32 × Int32 × Int32 × (Nat → Int32) × TS) kk => fX11_line_L232 n y2 kk g a.1 a.2.1 a.2.2.1 a.2.2.2.1 a.2.2.2.2) (fun j a => a.1 = nI (wk (vns T) (mvT T) j).1 ∧ a.2.1 = nI (lst (wk (vns T) (mvT T) j).2) ∧ a.2.2.1 = nI j ∧ (∀ p, p < j → a.2.2.2.1 p = nI (tn (vns T) (mvT T) p)) ∧ FR [] [59, 60] 0 0 U a.2.2.2.2) (vns T) (fun z => ∃ (o : Nat → Int32) (V : TS), FR [] [59, 60] 0 0 U V ∧ (∀ p, p < vns T → o p = nI (tn (vns T) (mvT T) p)) ∧ z = fun kk => kk o V) ?_ ?_ n (0, 8, 0, (fun _ => 0), U) (by omega) ⟨rfl, rfl, rfl, fun p hp => by omega, FR.rf⟩
  · rintro j ⟨a, b, c, o, V⟩ hj ⟨ea, eb, ec, go, fV⟩
    simp only at ea eb ec go fV
    subst ea eb ec
    obtain ⟨k1, k2, k3⟩ := wk_ok (mv := mvT T) h8 hm j (by omega)
    have k4 := wk_lt (mv := mvT T) h8 hm hj
    have k5 : fsl (vns T) (mvT T) (wk (vns T) (mvT T) j).1 (wk (vns T) (mvT T) j).2 < vns T := tn_lt (mv := mvT T) h8 hm hj
    have hV : RfL T V := h.fr hS fV (by decide) (Or.inr (by omega))
    have hla : LA T (wk (vns T) (mvT T) j).1 (lst (wk (vns T) (mvT T) j).2) (wk (vns T) (mvT T) j).2 := by
      rcases wk_row (mv := mvT T) h8 hm (p := j) (by omega) with q | ⟨s, q1, q2, q3⟩
      · subst q
        exact Or.inl ⟨rfl, rfl, rfl⟩
      · refine Or.inr ⟨?_, ?_⟩
        · unfold lst
          rw [q2, if_neg (by omega)]
          omega
        · unfold lst
          rw [q2, if_neg (by omega)]
          omega
    obtain ⟨X, x1, x2⟩ := r244 (n := n) (y2 := y2) (y6 := nI j) (y100 := o) hn hM hS hL h8 hV hX (hTB.fr h8 fV (by decide) (by omega)) k4 hla
    refine ⟨(nI (wk (vns T) (mvT T) (j + 1)).1, nI (lst (wk (vns T) (mvT T) (j + 1)).2), nI (j + 1), upd o j (nI (tn (vns T) (mvT T) j)), X), ⟨rfl, rfl, rfl, fun p hp => ?_, fV.trans x1⟩, fun g => funext fun kk => ?_⟩
    · show upd o j (nI (tn (vns T) (mvT T) j)) p = _
      rw [upd_at]
      by_cases q : p = j
      · rw [if_pos q, q]
      · rw [if_neg q]
        exact go p (by omega)
    · show fX11_line_L232 n y2 kk (g + 1) (nI (wk (vns T) (mvT T) j).1) (nI (lst (wk (vns T) (mvT T) j).2)) (nI j) o V = fX11_line_L232 n y2 kk g (nI (wk (vns T) (mvT T) (j + 1)).1) (nI (lst (wk (vns T) (mvT T) (j + 1)).2)) (nI (j + 1)) (upd o j (nI (tn (vns T) (mvT T) j))) X
      rw [fX11_line_L232, hV.2.2.2.1, if_neg (nI_ge hj (by omega)), congrFun x2, ck_nI (by omega) (by decide), nI_clamp (by omega)]
      simp only [nm]
      rw [shl_nI (by omega), nx_or, nI_1]
      rfl
  · rintro ⟨a, b, c, o, V⟩ ⟨ea, eb, ec, go, fV⟩ g
    simp only at ea eb ec go fV
    subst ec
    have hV : RfL T V := h.fr hS fV (by decide) (Or.inr (by omega))
    refine ⟨o, V, fV, go, funext fun kk => ?_⟩
    show fX11_line_L232 n y2 kk (g + 1) a b (nI (vns T)) o V = _
    rw [fX11_line_L232, hV.2.2.2.1, if_pos (nI_le (Nat.le_refl _) (by omega))]
theorem r349 {n j t : Nat} {U : TS} {y2 : Int32} {o : Nat → Int32} (hn : 10000 ≤ n) (hj : j < 8) (ht : t < 8) (ho : o j = nI t) (h48 : 3067 ≤ gO U 48 j ∧ gO U 48 j < 3127) (h50 : gO U 50 t = 3127 + t) (kk : TS → Option (Int32 × TS)) : fX11_line_L349 n y2 (nI j) o kk n 0 U = kk (uA U (gO U 48 j) (fun i => if i < 6 then gA U (3127 + t) i else gA U (gO U 48 j) i)) := by
  refine rowcp (fun f x V => fX11_line_L349 n y2 (nI j) o kk f x V) U (3127 + t) (gO U 48 j) kk ?_ ?_ n (by omega)
  · intro i hi f
    generalize hV : uA U (gO U 48 j) (fun k => if k < i then gA U (3127 + t) k else gA U (gO U 48 j) k) = V
    have v1 : gO V 48 = gO U 48 := by subst hV; rfl
    have v2 : gO V 50 = gO U 50 := by subst hV; rfl
    have v4 : ∀ k, gA V (3127 + t) k = gA U (3127 + t) k := fun k => by subst hV; rw [zA_uA, if_neg (by omega)]
    show fX11_line_L349 n y2 (nI j) o kk (f + 1) (nI i) V = _
    rw [fX11_line_L349, if_neg (show ¬ (6 : Int32) ≤ nI i from nI_ge (b := 6) hi (by decide)), ck_nI (by omega) (by decide), ck_nI hj (by decide), nI_clamp (show j < 2 ^ 31 by omega), ho, ck_nI (by omega) (by decide), nI_clamp (show t < 2 ^ 31 by omega), v1, v2, h50, ak_row (by omega) (by omega), al_6 (by omega), ck_nI hi (by decide), ak_row (by omega) (by omega), al_6 (by omega), ck_nI hi (by decide), nI_clamp (show i < 2 ^ 31 by omega), v4]
    simp only [nm]
    rw [nI_1]
  · intro f
    show fX11_line_L349 n y2 (nI j) o kk (f + 1) (nI 6) _ = _
    rw [fX11_line_L349, if_pos (show (6 : Int32) ≤ nI 6 by decide)]
theorem r337 {n N : Nat} {U : TS} {y2 : Int32} {o : Nat → Int32} {ts : Nat → Nat} (hn : 10000 ≤ n) (hN : N ≤ 8) (h2067 : gI U 2067 = nI N) (ho : ∀ p, p < N → ts p < N ∧ o p = nI (ts p)) (h48 : ∀ s, s < 60 → 3067 ≤ gO U 48 s ∧ gO U 48 s < 3127) (hi48 : ∀ s t, s < 60 → t < 60 → gO U 48 s = gO U 48 t → s = t) (h50 : ∀ s, s < 60 → gO U 50 s = 3127 + s) : ∃ V, FR [] [49] 3067 3127 U V ∧ (∀ p, p < N → (∀ i, i < 6 → gA V (gO U 48 p) i = gA U (3127 + ts p) i) ∧ gA V 49 p = gA U 51 (ts p)) ∧ (fun kk => fX11_line_L337 n y2 o kk n 0 U) = fun kk => kk V := by
  refine lpi (fun g (a : Int32 × TS) kk => fX11_line_L337 n y2 o kk g a.1 a.2) (fun j a => a.1 = nI j ∧ FR [] [49] 3067 3127 U a.2 ∧ ∀ p, p < j → (∀ i, i < 6 → gA a.2 (gO U 48 p) i = gA U (3127 + ts p) i) ∧ gA a.2 49 p = gA U 51 (ts p)) N (fun r => ∃ V, FR [] [49] 3067 3127 U V ∧ (∀ p, p < N → (∀ i, i < 6 → gA V (gO U 48 p) i = gA U (3127 + ts p) i) ∧ gA V 49 p = gA U 51 (ts p)) ∧ r = fun kk => kk V) ?_ ?_ n (0, U) (by omega) ⟨rfl, FR.rf, fun p hp => by omega⟩
  · rintro j ⟨a, V⟩ hj ⟨e, fV, g1⟩
    simp only at e fV g1
    subst e
    obtain ⟨t1, t2⟩ := ho j hj
    have hj48 := h48 j (by omega)
    have e48 : gO V 48 = gO U 48 := fV.O 48
    have e50 : gO V 50 = gO U 50 := fV.O 50
    have eR : gA V (3127 + ts j) = gA U (3127 + ts j) := fV.A (fun z => by simp only [List.mem_cons, List.not_mem_nil, or_false] at z; omega) (by omega)
    generalize hW : uA V (gO U 48 j) (fun i => if i < 6 then gA V (3127 + ts j) i else gA V (gO U 48 j) i) = W
    have fW : FR [] [49] 3067 3127 U W := by rw [← hW]; exact fV.trans (FR.uA (Or.inr hj48))
    refine ⟨(nI (j + 1), sA W 49 (nI j) (gA U 51 (ts j))), ⟨rfl, fW.trans (FR.sA (Or.inl (by decide))), fun p hp => ?_⟩, fun g => funext fun kk => ?_⟩
    · have hp48 := h48 p (by omega)
      constructor
      · intro i hi
        show gA (sA W 49 (nI j) (gA U 51 (ts j))) (gO U 48 p) i = _
        rw [zA_sA, if_neg (by omega), ← hW, zA_uA]
        by_cases q : p = j
        · subst q
          rw [if_pos rfl, if_pos hi, eR]
        · rw [if_neg (fun z => q (hi48 p j (by omega) (by omega) z))]
          exact (g1 p (by omega)).1 i hi
      · show gA (sA W 49 (nI j) (gA U 51 (ts j))) 49 p = _
        rw [gA_sA_at (by omega)]
        by_cases q : p = j
        · rw [if_pos q, q]
        · rw [if_neg q, ← hW, zA_uA, if_neg (by omega)]
          exact (g1 p (by omega)).2
    · show fX11_line_L337 n y2 o kk (g + 1) (nI j) V = fX11_line_L337 n y2 o kk g (nI (j + 1)) _
      rw [fX11_line_L337, fV.I (k := 2067) (by decide), h2067, if_neg (nI_ge hj (by omega)), r349 hn (by omega) (by omega) t2 (by rw [e48]; exact hj48) (by rw [e50]; exact h50 _ (by omega)), e48, hW, ck_nI (by omega) (by decide), nI_clamp (by omega), t2, ck_nI (by omega) (by decide), ck_nI (by omega) (by decide), nI_clamp (by omega), fW.A (k := 51) (by decide) (by decide)]
      simp only [nm]
      rw [nI_1]
  · rintro ⟨a, V⟩ ⟨e, fV, g1⟩ g
    simp only at e fV g1
    subst e
    refine ⟨V, fV, g1, funext fun kk => ?_⟩
    show fX11_line_L337 n y2 o kk (g + 1) (nI N) V = _
    rw [fX11_line_L337, fV.I (k := 2067) (by decide), h2067, if_pos (nI_le (Nat.le_refl _) (by omega))]
