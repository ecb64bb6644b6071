/-! ===== line: the class ===== -/
def mvT (T : TS) (r s : Nat) : Nat := if r = 0 then mvF T (vcs T s) else mvP T (vcs T (r - 1)) (vcs T s)
theorem mvT_le {T : TS} (hM : GM T) (hS : GS T) (r s : Nat) (hs : s < vns T) : mvT T r s ≤ 21 := by
  have h := ctT_le hM (hS.2.2.2.1 s hs).2.1
  unfold mvT
  split
  · exact Nat.le_trans mvn_le h
  · exact Nat.le_trans mvn_le h
abbrev isL : List Nat := [1300, 1100, 1200]
abbrev asL : List Nat := [27, 28, 29, 23, 25]
/-- the steps are laid out -/
def ST (T U : TS) : Prop := FR isL asL 0 0 T U ∧ gI U 1300 = nI (vns T) ∧ ∀ r s, r ≤ vns T → s < vns T → gA U 27 (r * 8 + s) = nI (mvT T r s)
theorem ST.mv {T U V : TS} {is as : List Nat} (h : ST T U) (f : FR is as 0 0 U V) (h1 : ∀ k ∈ is, k ∈ isL) (h2 : ∀ k ∈ as, k ∈ asL) (h3 : 1300 ∉ is) (h4 : 27 ∉ as) : ST T V :=
  ⟨h.1.trans (f.mono h1 h2 (fun _ => by omega)), (f.I h3).trans h.2.1, fun r s hr hs => by rw [f.A h4 (by omega)]; exact h.2.2 r s hr hs⟩
theorem steps_in {n j y : Nat} {T U : TS} (hn : 100 ≤ n) (hM : GM T) (hS : GS T) (h8 : vns T ≤ 8) (hj : j < vns T) (hy : y = vcs T j) (fU : FR isL asL 0 0 T U) (h2 : gI U 1200 = nI (ctT T y).length) (a2 : AL U 25 (ctT T y)) : ∃ V, FR [1100] [23, 27] 0 0 U V ∧ (∀ f, f < vns T → gA V 27 ((f + 1) * 8 + j) = nI (mvT T (f + 1) j)) ∧ (∀ k, (∀ f, f < vns T → k ≠ (f + 1) * 8 + j) → gA V 27 k = gA U 27 k) ∧ (fun kk => fX10_line_L82 n (nI j) kk n 0 U) = fun kk => kk V := by
  obtain ⟨s1, s2, s3, s4, s5, s6⟩ := hS
  refine lpi (fun g (a : Int32 × TS) kk => fX10_line_L82 n (nI j) kk g a.1 a.2) (fun i a => a.1 = nI i ∧ FR [1100] [23, 27] 0 0 U a.2 ∧ (∀ f, f < i → gA a.2 27 ((f + 1) * 8 + j) = nI (mvT T (f + 1) j)) ∧ ∀ k, (∀ f, f < i → k ≠ (f + 1) * 8 + j) → gA a.2 27 k = gA U 27 k) (vns T) (fun r => ∃ V, FR [1100] [23, 27] 0 0 U V ∧ (∀ f, f < vns T → gA V 27 ((f + 1) * 8 + j) = nI (mvT T (f + 1) j)) ∧ (∀ k, (∀ f, f < vns T → k ≠ (f + 1) * 8 + j) → gA V 27 k = gA U 27 k) ∧ r = fun kk => kk V) ?_ ?_ n (0, U) (by omega) ⟨rfl, FR.rf, fun f hf => by omega, fun k _ => rfl⟩
  · rintro i ⟨a, V⟩ hi ⟨e, fV, g1, g2⟩
    simp only at e fV g1 g2
    subst e
    obtain ⟨b1, b2, -⟩ := s4 i hi
    obtain ⟨c1, c2, -⟩ := s4 j hj
    have fTV : FR isL asL 0 0 T V := fU.trans (fV.mono (by decide) (by decide) (fun _ => by omega))
    have hMV : GM V := hM.fr fTV (by decide) (by decide)
    have evd : vd V = vd T := by unfold vd; rw [fTV.I (by decide)]
    have ect : ∀ x, ctT V x = ctT T x := fun x => ctT_fr fTV (by decide) (by decide) x
    obtain ⟨W, w1, w2, w3, w4⟩ := lay22 (n := n) (x := vcs T i) (T := V) hn hMV (by rw [evd]; exact b2)
    rw [ect] at w3 w4
    have m22 := mf22_eq (n := n) (T := T) (U := W) (x := vcs T i) (y := y) hn hM b2 (by rw [hy]; exact c2) w4 ((w2.I (by decide)).trans ((fV.I (by decide)).trans h2)) w3 (fun k v hk => by rw [w2.A (k := 25) (by decide) (by decide), fV.A (k := 25) (by decide) (by decide)]; exact a2 k v hk)
    have emv : mvP T (vcs T i) y = mvT T (i + 1) j := by
      unfold mvT
      rw [if_neg (by omega), Nat.add_sub_cancel, hy]
    rw [emv] at m22
    have eix : (nI i + 1) * 8 + nI j = nI ((i + 1) * 8 + j) := by
      rw [nI_1, show (8 : Int32) = nI 8 from rfl, pk_mul, nI_add]
    refine ⟨(nI (i + 1), sA W 27 (nI ((i + 1) * 8 + j)) (nI (mvT T (i + 1) j))), ⟨rfl, (fV.trans (w2.mono (by decide) (by decide) (fun _ => by omega))).trans (FR.sA (Or.inl (by decide))), fun f hf => ?_, fun k hk => ?_⟩, fun g => funext fun kk => ?_⟩
    · show gA (sA W 27 (nI ((i + 1) * 8 + j)) _) 27 ((f + 1) * 8 + j) = _
      rw [gA_sA_at (by omega)]
      by_cases q : f = i
      · rw [if_pos (by rw [q]), q]
      · rw [if_neg (by omega), w2.A (k := 27) (by decide) (by decide)]
        exact g1 f (by omega)
    · show gA (sA W 27 (nI ((i + 1) * 8 + j)) _) 27 k = _
      rw [gA_sA_at (by omega), if_neg (hk i (by omega)), w2.A (k := 27) (by decide) (by decide)]
      exact g2 k (fun f hf => hk f (by omega))
    · show fX10_line_L82 n (nI j) kk (g + 1) (nI i) V = _
      rw [fX10_line_L82, fTV.I (k := 550) (by decide), s1, if_neg (nI_ge hi (by omega)), ck_nI (by omega) (by decide), nI_clamp (by omega), fTV.A (k := 12) (by decide) (by decide), b1, w1]
      simp only [bv]
      rw [m22]
      simp only [bd]
      unfold fX3_setStep
      rw [eix, ck_nI (by omega) (by decide)]
      simp only [nm, bv]
      rw [nI_1]
  · rintro ⟨a, V⟩ ⟨e, fV, g1, g2⟩ g
    simp only at e fV g1 g2
    subst e
    have fTV : FR isL asL 0 0 T V := fU.trans (fV.mono (by decide) (by decide) (fun _ => by omega))
    refine ⟨V, fV, g1, g2, funext fun kk => ?_⟩
    show fX10_line_L82 n (nI j) kk (g + 1) (nI (vns T)) V = _
    rw [fX10_line_L82, fTV.I (k := 550) (by decide), s1, if_pos (nI_le (Nat.le_refl _) (by omega))]
theorem steps_eq {n : Nat} {T U : TS} (hn : 100 ≤ n) (hM : GM T) (hS : GS T) (hL : GL T) (h8 : vns T ≤ 8) (fU : FR isL asL 0 0 T U) (hU : gI U 1300 = nI (vns T)) : ∃ V, ST T V ∧ (fun kk => fX10_line_L30 n kk n 0 U) = fun kk => kk V := by
  have hS' := hS
  obtain ⟨s1, s2, s3, s4, s5, s6⟩ := hS
  refine lpi (fun g (a : Int32 × TS) kk => fX10_line_L30 n kk g a.1 a.2) (fun j a => a.1 = nI j ∧ FR isL asL 0 0 T a.2 ∧ gI a.2 1300 = nI (vns T) ∧ ∀ r s, r ≤ vns T → s < j → gA a.2 27 (r * 8 + s) = nI (mvT T r s)) (vns T) (fun r => ∃ V, ST T V ∧ r = fun kk => kk V) ?_ ?_ n (0, U) (by omega) ⟨rfl, fU, hU, fun r s _ hs => by omega⟩
  · rintro j ⟨a, V⟩ hj ⟨e, fV, g0, g1⟩
    simp only at e fV g0 g1
    subst e
    obtain ⟨b1, b2, -⟩ := s4 j hj
    have hMV : GM V := hM.fr fV (by decide) (by decide)
    have evd : vd V = vd T := by unfold vd; rw [fV.I (by decide)]
    have ect : ∀ x, ctT V x = ctT T x := fun x => ctT_fr fV (by decide) (by decide) x
    obtain ⟨W, w1, w2, w3, w4⟩ := lay24 (n := n) (x := vcs T j) (T := V) hn hMV (by rw [evd]; exact b2)
    rw [ect] at w3 w4
    have fW : FR isL asL 0 0 T W := fV.trans (w2.mono (by decide) (by decide) (fun _ => by omega))
    have m20 := mf20_eq (n := n) (T := T) (U := W) (y := vcs T j) hn hM hL b2 (fW.I (by decide)) (fW.A (by decide) (by decide)) w4 w3
    generalize hZ : sA W 27 (nI j) (nI (mvF T (vcs T j))) = Z
    have fWZ : FR [] [27] 0 0 W Z := by rw [← hZ]; exact FR.sA (Or.inl (by decide))
    have gZ : ∀ k, gA Z 27 k = if k = j then nI (mvF T (vcs T j)) else gA V 27 k := fun k => by
      rw [← hZ, gA_sA_at (by omega), w2.A (k := 27) (by decide) (by decide)]
    have fZ : FR isL asL 0 0 T Z := fW.trans (fWZ.mono (by decide) (by decide) (fun _ => by omega))
    obtain ⟨Y, y1, y2, y3, y4⟩ := steps_in (n := n) (j := j) (y := vcs T j) (U := Z) hn hM hS' h8 hj rfl fZ ((fWZ.I (by decide)).trans w4) (fun k v hk => by rw [fWZ.A (k := 25) (by decide) (by decide)]; exact w3 k v hk)
    refine ⟨(nI (j + 1), Y), ⟨rfl, fZ.trans (y1.mono (by decide) (by decide) (fun _ => by omega)), ?_, fun r s hr hs => ?_⟩, fun g => funext fun kk => ?_⟩
    · show gI Y 1300 = _
      rw [y1.I (by decide), fWZ.I (by decide), w2.I (by decide)]
      exact g0
    · show gA Y 27 (r * 8 + s) = _
      by_cases q : s = j
      · subst q
        by_cases q0 : r = 0
        · subst q0
          rw [y3 _ (fun f hf => by omega), gZ, if_pos (by omega)]
          unfold mvT
          rw [if_pos rfl]
        · obtain ⟨r', rfl⟩ : ∃ r', r = r' + 1 := ⟨r - 1, by omega⟩
          exact y2 r' (by omega)
      · rw [y3 _ (fun f hf => by omega), gZ, if_neg (by omega)]
        exact g1 r s hr (by omega)
    · show fX10_line_L30 n kk (g + 1) (nI j) V = _
      rw [fX10_line_L30, fV.I (k := 550) (by decide), s1, if_neg (nI_ge hj (by omega)), ck_nI (by omega) (by decide), nI_clamp (by omega), fV.A (k := 12) (by decide) (by decide), b1, w1]
      simp only [bv]
      rw [m20]
      simp only [bd]
      unfold fX3_setFromLatest
      rw [ck_nI (by omega) (by decide)]
      simp only [nm, bv]
      rw [hZ, congrFun y4, nI_1]
  · rintro ⟨a, V⟩ ⟨e, fV, g0, g1⟩ g
    simp only at e fV g0 g1
    subst e
    refine ⟨V, ⟨fV, g0, g1⟩, funext fun kk => ?_⟩
    show fX10_line_L30 n kk (g + 1) (nI (vns T)) V = _
    rw [fX10_line_L30, fV.I (k := 550) (by decide), s1, if_pos (nI_le (Nat.le_refl _) (by omega))]
abbrev lvT (T : TS) : Nat → Nat → Nat := lv (vns T) (mvT T)
theorem lvT_le {T : TS} (hM : GM T) (hS : GS T) (h8 : vns T ≤ 8) {set : Nat} (h : set < 2 ^ vns T) (r : Nat) : lvT T set r ≤ 5376 := lv_le h8 (mvT_le hM hS) h r
theorem cHas {n set s : Nat} {T : TS} (h1 : set < 256) (h2 : s < 8) : fX3_has n (nI set) (nI s) T = some (if set.testBit s then 1 else 0, T) := by
  unfold fX3_has
  rw [has_nI h1 h2]
  cases set.testBit s with
  | true => rfl
  | false => rfl
theorem cBy {n set r s : Nat} {T U : TS} (h8 : vns T ≤ 8) (h : ST T U) (hset : set < 2 ^ vns T) (hr : r ≤ vns T) (hs : s < vns T) (hb : set.testBit s = false) (h28 : gA U 28 ((set ||| 2 ^ s) * 9 + (s + 1)) = nI (lvT T (set ||| 2 ^ s) (s + 1))) : fX3_movesBy n (nI set) (nI r) (nI s) U = some (nI (mvT T r s + lvT T (set ||| 2 ^ s) (s + 1)), U) := by
  have hp := pw8 h8
  obtain ⟨o1, o2⟩ := or_in h8 hset hs hb
  have e1 : nI r * 8 + nI s = nI (r * 8 + s) := by rw [show (8 : Int32) = nI 8 from rfl, pk_mul, nI_add]
  have e2 : (nI set ||| (1 : Int32) <<< (nI s &&& 31)) * 9 + nI s + 1 = nI ((set ||| 2 ^ s) * 9 + (s + 1)) := by
    rw [shl_nI (by omega), nx_or, show (9 : Int32) = nI 9 from rfl, pk_mul, nI_add, nI_1]
    rfl
  unfold fX3_movesBy
  rw [e1, e2, ck_nI (by omega) (by decide), ck_nI (by omega) (by decide), nI_clamp (by omega), nI_clamp (by omega), h.2.2 r s hr hs, h28, nI_add]
theorem cLeast {n set r : Nat} {T U : TS} (hn : 100 ≤ n) (hM : GM T) (hS : GS T) (h8 : vns T ≤ 8) (h : ST T U) (hset : set + 1 < 2 ^ vns T) (hr : r ≤ vns T) (h28 : ∀ s, s < vns T → set.testBit s = false → gA U 28 ((set ||| 2 ^ s) * 9 + (s + 1)) = nI (lvT T (set ||| 2 ^ s) (s + 1))) : fX3_leastBehind n (nI set) (nI r) U = some (nI (lvT T set r), U) := by
  have hp := pw8 h8
  unfold fX3_leastBehind
  rw [show lvT T set r = _ from (lv_any2 (C := 169) h8 (mvT_le hM hS) hset r (by decide) (by decide)).symm]
  refine lpn (fun f (a : Int32 × Int32) => fX3_leastBehind_L7 n (nI set) (nI r) (fun e3_6 T_7 => some (e3_6, T_7)) f a.1 a.2 U) (fun j => (nI (mnB 169 (fun s => mvT T r s + lvT T (set ||| 2 ^ s) (s + 1)) set j), nI j)) (vns T) _ (fun j hj f => ?_) (fun f => ?_) n (by omega)
  · show fX3_leastBehind_L7 n (nI set) (nI r) _ (f + 1) (nI (mnB 169 (fun s => mvT T r s + lvT T (set ||| 2 ^ s) (s + 1)) set j)) (nI j) U = fX3_leastBehind_L7 n (nI set) (nI r) _ f (nI (mnB 169 (fun s => mvT T r s + lvT T (set ||| 2 ^ s) (s + 1)) set (j + 1))) (nI (j + 1)) U
    rw [fX3_leastBehind_L7, h.2.1, if_neg (nI_ge hj (by omega)), cHas (by omega) (by omega)]
    simp only [bd]
    rw [mnB]
    cases hb : set.testBit j with
    | true =>
      rw [if_pos (show ¬ (if true = true then (1 : Int32) else 0) = 0 by decide), nI_1]
      simp only [if_true]
    | false =>
      obtain ⟨o1, o2⟩ := or_in h8 (show set < 2 ^ vns T by omega) hj hb
      rw [if_neg (show ¬ ¬ (if false = true then (1 : Int32) else 0) = 0 from fun z => z (by decide)), cBy h8 h (by omega) hr hj hb (h28 j hj hb)]
      simp only [bd, nm, Bool.false_eq_true, if_false]
      have b1 : mnB 169 (fun s => mvT T r s + lvT T (set ||| 2 ^ s) (s + 1)) set j ≤ 169 := mnB_top j
      have b2 := lvT_le hM hS h8 o2 (j + 1)
      have b3 := mvT_le hM hS r j hj
      rw [imin_nI (by omega) (by omega), nI_1]
  · show fX3_leastBehind_L7 n (nI set) (nI r) _ (f + 1) _ (nI (vns T)) U = _
    rw [fX3_leastBehind_L7, h.2.1, if_pos (nI_le (Nat.le_refl _) (by omega))]
theorem cLow {n set r : Nat} {T U : TS} (hn : 100 ≤ n) (hM : GM T) (hS : GS T) (h8 : vns T ≤ 8) (h : ST T U) (hset : set + 1 < 2 ^ vns T) (hr : r ≤ vns T) (h28 : ∀ s, s < vns T → set.testBit s = false → gA U 28 ((set ||| 2 ^ s) * 9 + (s + 1)) = nI (lvT T (set ||| 2 ^ s) (s + 1))) (hme : gA U 28 (set * 9 + r) = nI (lvT T set r)) : fX3_lowestOf n (nI set) (nI r) U = some (nI (fsl (vns T) (mvT T) set r), U) := by
  have hp := pw8 h8
  obtain ⟨f1, f2, f3⟩ := fsl_ok (mv := mvT T) (r := r) h8 (mvT_le hM hS) hset
  unfold fX3_lowestOf
  have e1 : nI set * 9 + nI r = nI (set * 9 + r) := by rw [show (9 : Int32) = nI 9 from rfl, pk_mul, nI_add]
  have lb := lvT_le hM hS h8 (show set < 2 ^ vns T by omega) r
  have step : ∀ j g, j < vns T → fX3_lowestOf_L2 n (nI set) (nI r) (fun T_5 => some ((0 : Int32), T_5)) (g + 1) (nI j) U = if okS (vns T) (mvT T) set r j = true then some (nI j, U) else fX3_lowestOf_L2 n (nI set) (nI r) (fun T_5 => some ((0 : Int32), T_5)) g (nI (j + 1)) U := by
    intro j g hj
    rw [fX3_lowestOf_L2, h.2.1, if_neg (nI_ge hj (by omega)), cHas (by omega) (by omega)]
    simp only [bd]
    unfold okS
    cases hb : set.testBit j with
    | true =>
      rw [if_pos (show ¬ (if true = true then (1 : Int32) else 0) = 0 by decide), nI_1]
      simp
    | false =>
      obtain ⟨o1, o2⟩ := or_in h8 (show set < 2 ^ vns T by omega) hj hb
      rw [if_neg (show ¬ ¬ (if false = true then (1 : Int32) else 0) = 0 from fun z => z (by decide)), cBy h8 h (by omega) hr hj hb (h28 j hj hb)]
      simp only [bd]
      have b2 := lvT_le hM hS h8 o2 (j + 1)
      have b3 := mvT_le hM hS r j hj
      rw [e1, ck_nI (by omega) (by decide), nI_clamp (by omega), hme, nI_1]
      by_cases q : mvT T r j + lvT T (set ||| 2 ^ j) (j + 1) = lvT T set r
      · rw [if_neg (fun z => z (by rw [q])), if_pos (by rw [decide_eq_true q]; rfl)]
      · rw [if_pos (fun z => q ((nI_eq (by omega) (by omega)).mp z)), if_neg (by rw [decide_eq_false q]; decide)]
  have key : ∀ d j g, j + d = fsl (vns T) (mvT T) set r → d < g → fX3_lowestOf_L2 n (nI set) (nI r) (fun T_5 => some ((0 : Int32), T_5)) g (nI j) U = some (nI (fsl (vns T) (mvT T) set r), U) := by
    intro d
    induction d with
    | zero =>
      intro j g hj hg
      obtain ⟨g, rfl⟩ : ∃ g', g = g' + 1 := ⟨g - 1, by omega⟩
      have e : j = fsl (vns T) (mvT T) set r := by omega
      rw [step j g (by omega), e, if_pos f2]
    | succ d ih =>
      intro j g hj hg
      obtain ⟨g, rfl⟩ : ∃ g', g = g' + 1 := ⟨g - 1, by omega⟩
      rw [step j g (by omega), f3 j (by omega), if_neg (by decide)]
      exact ih (j + 1) g (by omega) (by omega)
  exact key (fsl (vns T) (mvT T) set r) 0 n (by omega) (by omega)
