/-! ===== greedy ===== -/
def gcode (T : TS) (o : Nat → Nat) : Nat := (gsT T o (vd T)).2.2.2
def gnext (T : TS) (o : Nat → Nat) : Nat → Nat := (gsT T o (vd T)).1
theorem gsT_fr {is as : List Nat} {lo hi : Nat} {T T' : TS} (f : FR is as lo hi T T') (h1 : ∀ k ∈ [50, 51, 52, 55], k ∉ is) (h2 : ∀ k ∈ [2, 3], k ∉ as ∧ ¬ (lo ≤ k ∧ k < hi)) (o : Nat → Nat) (p : Nat) : gsT T' o p = gsT T o p := by
  have e1 : vm T' = vm T := funext fun i => by unfold vm; rw [f.A (h2 2 (by decide)).1 (h2 2 (by decide)).2]
  have e2 : vq T' = vq T := funext fun i => by unfold vq; rw [f.A (h2 3 (by decide)).1 (h2 3 (by decide)).2]
  unfold gsT rm vw ve vk
  rw [e1, e2, f.1 50 (h1 50 (by decide)), f.1 51 (h1 51 (by decide)), f.1 52 (h1 52 (by decide))]
theorem nsum_add {f g h : Nat → Nat} : ∀ {d : Nat}, (∀ i, i < d → f i + g i = h i) → nsum f d + nsum g d = nsum h d
  | 0, _ => rfl
  | d + 1, H => by
    have := nsum_add (d := d) (fun i hi => H i (by omega))
    have h2 := H d (by omega)
    show nsum f d + f d + (nsum g d + g d) = nsum h d + h d
    omega
theorem nsum_z0 {f : Nat → Nat} : ∀ {d : Nat}, nsum f d = 0 ↔ ∀ i, i < d → f i = 0
  | 0 => by simp [nsum]
  | d + 1 => by
    show nsum f d + f d = 0 ↔ _
    constructor
    · intro h i hi
      have h1 : nsum f d = 0 := by omega
      rcases Nat.lt_or_ge i d with q | q
      · exact nsum_z0.mp h1 i q
      · rw [show i = d by omega]; omega
    · intro h
      have h1 := nsum_z0.mpr (fun i (hi : i < d) => h i (by omega))
      have h2 := h d (by omega)
      omega
/-- what is still open, and fits -/
def OP (T : TS) (o : Nat → Nat) : Prop := (∀ i, i < 6 → o i ≤ 40) ∧ (∀ i, vd T ≤ i → i < 6 → o i = 0) ∧ ∀ i, i < vd T → 0 < o i → vm T i ≤ rm T
theorem OP.next {T : TS} {o : Nat → Nat} (hM : GM T) (h : OP T o) (h0 : ¬ nsum o 6 = 0) : OP T (gnext T o) ∧ okc (vd T) (gcode T o) ∧ nsum (gnext T o) 6 + pcs (gcode T o) = nsum o 6 := by
  obtain ⟨g1, g2, g3, g4, g5⟩ := gsT_ok hM o (Nat.le_refl (vd T))
  have hw := hM.2.2.1
  obtain ⟨h1, h2, h3⟩ := h
  refine ⟨⟨fun i hi => ?_, fun i hi hi6 => ?_, fun i hi hp => ?_⟩, ⟨g1, fun i hi hi6 => g2 i hi6 (fun p' hp' e => by have := vq_lt hM p' hp'; omega), ?_, ?_⟩, ?_⟩
  · have := g4 i hi; have := h1 i hi; show (gsT T o (vd T)).1 i ≤ 40; omega
  · have := g4 i hi6; have := h2 i hi hi6; show (gsT T o (vd T)).1 i = 0; omega
  · have a := g4 i (by omega)
    have hp' : 0 < (gsT T o (vd T)).1 i := hp
    exact h3 i hi (by omega)
  · show pcs (gsT T o (vd T)).2.2.2 ≤ 20; omega
  · -- some WIDTH is open
    have : ∃ i, i < 6 ∧ ¬ o i = 0 := Classical.byContradiction (fun q => h0 (nsum_z0.mpr (fun i hi => Classical.byContradiction (fun z => q ⟨i, hi, z⟩))))
    obtain ⟨i, hi, hz⟩ := this
    have hid : i < vd T := by
      rcases Nat.lt_or_ge i (vd T) with q | q
      · exact q
      · exact absurd (h2 i q hi) hz
    obtain ⟨p, hp, e⟩ := hM.2.2.2.2.2.2.2 i hid
    refine gs_pos hM.d.2.2 (vq_lt hM) (vq_inj hM) hM.2.2.1.2.2.2.2.1 hM.2.2.1.2.2.2.1 (fun j hj => (hM.2.2.2.1 j hj).2.1) hp ?_ ?_
    · rw [e]; omega
    · rw [e]; exact h3 i hid (by omega)
  · show nsum (gsT T o (vd T)).1 6 + pcs (gsT T o (vd T)).2.2.2 = nsum o 6
    rw [pcs_sum]
    exact nsum_add g4
/-- what becomes of it all -/
def gout (T : TS) : Nat → (Nat → Nat) → Dr → Option Dr
  | 0, _, D => some D
  | k + 1, o, D => if nsum o 6 = 0 then some D else match ar D (gcode T o) with
    | none => none
    | some D' => gout T k (gnext T o) D'
theorem anyOpen_eq {n d : Nat} {T : TS} {o : Nat → Nat} (hn : 10 ≤ n) (hd : gI T 55 = nI d) (h6 : d ≤ 6) (ho : ∀ i, i < 6 → o i ≤ 40) (hz : ∀ i, d ≤ i → i < 6 → o i = 0) (h7 : ∀ i, i < d → gA T 7 i = nI (o i)) : fX6_isAnyOpen n T = some (b01 (decide (¬ nsum o 6 = 0)), T) := by
  unfold fX6_isAnyOpen
  have key := lps (fun f x => fX6_isAnyOpen_L2 n (fun T_1 => rz 0 T_1) f x T) d (some (0, T)) (fun _ => some (1, T)) (fun j => o j = 0) (fun j hj hp f => by
      show fX6_isAnyOpen_L2 n _ (f + 1) (nI j) T = _
      rw [fX6_isAnyOpen_L2, hd, if_neg (nI_ge hj (by omega)), ck_nI (by omega) (by decide), nI_clamp (by omega), h7 j hj, hp, if_pos (show nI 0 ≤ 0 by decide), nI_1]) (fun j hj hp f => by
      show fX6_isAnyOpen_L2 n _ (f + 1) (nI j) T = _
      have := ho j (by omega)
      rw [fX6_isAnyOpen_L2, hd, if_neg (nI_ge hj (by omega)), ck_nI (by omega) (by decide), nI_clamp (by omega), h7 j hj, if_neg (nI_nle (by omega) (by omega))]
      rfl) (fun f => by
      show fX6_isAnyOpen_L2 n _ (f + 1) (nI d) T = _
      rw [fX6_isAnyOpen_L2, hd, if_pos (nI_le (Nat.le_refl d) (by omega))]
      rfl) n (by omega)
  rcases key with ⟨j, h1, h2, h3, h4⟩ | ⟨h1, h2⟩
  · have z : ¬ nsum o 6 = 0 := fun q => h2 (nsum_z0.mp q j (by omega))
    rw [decide_eq_true z]
    exact h4
  · have z : ¬ ¬ nsum o 6 = 0 := fun q => q (nsum_z0.mpr (fun i hi => by
      rcases Nat.lt_or_ge i d with w | w
      · exact h1 i w
      · exact hz i w hi))
    rw [decide_eq_false z]
    exact h2
/-- the class's loop -/
theorem gloop {n : Nat} {T : TS} {kk : Int32 → TS → Option (Int32 × TS)} (hn : 10000 ≤ n) (hM : GM T) : ∀ (k : Nat) (o : Nat → Nat) (D : Dr) (U : TS) (f : Nat), nsum o 6 ≤ k → nsum D.2.2 D.1 + k ≤ 240 → k < f → OP T o → OKD (vd T) D → DC U D → FR [850] [7, 18, 19] 0 0 T U → (∀ i, i < vd T → gA U 7 i = nI (o i)) → (gout T k o D = none ∧ ∃ U', fX10_greedy_L28 n kk f (nI (nsum D.2.2 D.1)) (nI (nsum D.2.2 D.1)) U = some (-3, U') ∧ FR [850] [7, 18, 19] 0 0 T U') ∨ ∃ D' U', gout T k o D = some D' ∧ fX10_greedy_L28 n kk f (nI (nsum D.2.2 D.1)) (nI (nsum D.2.2 D.1)) U = kk (nI (nsum D'.2.2 D'.1)) U' ∧ FR [850] [7, 18, 19] 0 0 T U' ∧ DC U' D' ∧ OKD (vd T) D' ∧ nsum D'.2.2 D'.1 ≤ 240 := by
  obtain ⟨d1, d2, d6⟩ := hM.d
  have stop : ∀ (o : Nat → Nat) (D : Dr) (U : TS) (f : Nat), nsum o 6 = 0 → OP T o → FR [850] [7, 18, 19] 0 0 T U → (∀ i, i < vd T → gA U 7 i = nI (o i)) → nsum D.2.2 D.1 ≤ 240 → fX10_greedy_L28 n kk (f + 1) (nI (nsum D.2.2 D.1)) (nI (nsum D.2.2 D.1)) U = kk (nI (nsum D.2.2 D.1)) U := by
    intro o D U f h0 hO fU h7 hj
    rw [fX10_greedy_L28]
    by_cases z : (240 : Int32) ≤ nI (nsum D.2.2 D.1)
    · rw [if_pos z]
    · rw [if_neg z, anyOpen_eq (o := o) (by omega) ((fU.I (by decide)).trans d1) d6 hO.1 hO.2.1 h7, decide_eq_false (fun q => q h0)]
      simp only [bd]
      rw [if_pos (show b01 false = 0 from rfl)]
  intro k
  induction k with
  | zero =>
    intro o D U f h0 hj hf hO hD hC fU h7
    obtain ⟨g, rfl⟩ : ∃ g, f = g + 1 := ⟨f - 1, by omega⟩
    exact Or.inr ⟨D, U, rfl, stop o D U g (by omega) hO fU h7 (by omega), fU, hC, hD, by omega⟩
  | succ k ih =>
    intro o D U f h0 hj hf hO hD hC fU h7
    obtain ⟨g, rfl⟩ : ∃ g, f = g + 1 := ⟨f - 1, by omega⟩
    rw [gout]
    by_cases z : nsum o 6 = 0
    · rw [if_pos z]
      exact Or.inr ⟨D, U, rfl, stop o D U g z hO fU h7 (by omega), fU, hC, hD, by omega⟩
    · rw [if_neg z]
      obtain ⟨hO', okx, hs⟩ := hO.next hM z
      have hMU : GM U := hM.fr fU (by decide) (by decide)
      have vU : vd U = vd T := by unfold vd; rw [fU.I (by decide)]
      obtain ⟨V, t1, t2, t3⟩ := take_eq (n := n) (T := U) (by omega) hMU o hO.1 (by rw [vU]; exact h7)
      rw [vU, gsT_fr fU (by decide) (by decide)] at t1 t3
      have fV : FR [850] [7, 18, 19] 0 0 T V := fU.trans (t2.mono (by decide) (by decide) (fun _ => by omega))
      have hCV : DC V D := by
        refine ⟨(t2.I (by decide)).trans hC.1, fun k hk => ?_⟩
        rw [t2.A (k := 18) (by decide) (by decide), t2.A (k := 19) (by decide) (by decide)]
        exact hC.2 k hk
      have st : ∀ X, fX8_addRoll_17 n (nI (gcode T o)) V = X → fX10_greedy_L28 n kk (g + 1) (nI (nsum D.2.2 D.1)) (nI (nsum D.2.2 D.1)) U = bd X (fun r_12 T_11 => if ¬ r_12 = 0 then fX10_greedy_L28 n kk g (nI (nsum D.2.2 D.1 + 1)) (nI (nsum D.2.2 D.1 + 1)) T_11 else some (-3, T_11)) := by
        intro X hX
        rw [fX10_greedy_L28, if_neg (show ¬ (240 : Int32) ≤ nI (nsum D.2.2 D.1) from nI_ge (b := 240) (by omega) (by decide)), anyOpen_eq (o := o) (by omega) ((fU.I (by decide)).trans d1) d6 hO.1 hO.2.1 h7, decide_eq_true z]
        simp only [bd]
        rw [if_neg (show ¬ b01 true = 0 by decide), t1]
        simp only
        rw [show (gsT T o (vd T)).2.2.2 = gcode T o from rfl, hX, nI_1]
      rcases aroll (n := n) hD hCV okx.1 with ⟨a1, a2⟩ | ⟨D', V', a1, a2, a3, a4⟩
      · rw [a1]
        refine Or.inl ⟨rfl, V, ?_, fV⟩
        rw [st _ a2]
        rfl
      · rw [a1]
        have hs2 := ar_sum a1
        have hp := okx.2.2.2
        have fV' : FR [850] [7, 18, 19] 0 0 T V' := fV.trans (a3.mono (by decide) (by decide) (fun _ => by omega))
        have := ih (gnext T o) D' V' g (by omega) (by omega) (by omega) hO' (ar_ok hD okx a1) a4 fV' (fun i hi => by
          rw [a3.A (k := 7) (by decide) (by decide)]
          exact t3 i hi)
        rw [hs2] at this
        have e : fX10_greedy_L28 n kk (g + 1) (nI (nsum D.2.2 D.1)) (nI (nsum D.2.2 D.1)) U = fX10_greedy_L28 n kk g (nI (nsum D.2.2 D.1 + 1)) (nI (nsum D.2.2 D.1 + 1)) V' := by
          rw [st _ a2]
          rfl
        rw [e]
        exact this
/-- the reference's counts set to 0 -/
theorem clr55 {n : Nat} {T : TS} {y1 : Int32} (hn : 100 ≤ n) : ∃ T', FR [] [54, 55] 0 0 T T' ∧ gA T' 54 = gA T 54 ∧ (∀ i, i < 6 → gA T' 55 i = 0) ∧ (fun kk => fX11_greedy_L74 n y1 kk n 0 T) = fun kk => kk T' := by
  refine lpi (fun f (s : Int32 × TS) kk => fX11_greedy_L74 n y1 kk f s.1 s.2) (fun j s => s.1 = nI j ∧ FR [] [54, 55] 0 0 T s.2 ∧ gA s.2 54 = gA T 54 ∧ ∀ i, i < j → gA s.2 55 i = 0) 6 (fun r => ∃ T', FR [] [54, 55] 0 0 T T' ∧ gA T' 54 = gA T 54 ∧ (∀ i, i < 6 → gA T' 55 i = 0) ∧ r = fun kk => kk T') ?_ ?_ n (0, T) (by omega) ⟨rfl, FR.rf, rfl, fun i hi => by omega⟩
  · rintro j ⟨a, U⟩ hj ⟨e, f1, g0, g⟩
    simp only at e f1 g0 g
    subst e
    refine ⟨(nI (j + 1), sA U 55 (nI j) 0), ⟨rfl, f1.trans (FR.sA (Or.inl (by decide))), ?_, fun i hi => ?_⟩, fun f => funext fun kk => ?_⟩
    · rw [zA_sA, if_neg (show ¬ (54 : Nat) = 55 by decide), g0]
    · show gA (sA U 55 (nI j) 0) 55 i = 0
      rw [gA_sA_at (by omega)]
      by_cases q : i = j
      · rw [if_pos q]
      · rw [if_neg q]
        exact g i (by omega)
    · show fX11_greedy_L74 n y1 kk (f + 1) (nI j) U = _
      rw [fX11_greedy_L74, if_neg (show ¬ (6 : Int32) ≤ nI j from nI_ge (b := 6) hj (by decide)), ck_nI hj (by decide)]
      simp only [nm]
      rw [nI_1]
  · rintro ⟨a, U⟩ ⟨e, f1, g0, g⟩ f
    simp only at e f1 g0 g
    subst e
    refine ⟨U, f1, g0, g, funext fun kk => ?_⟩
    show fX11_greedy_L74 n y1 kk (f + 1) (nI 6) U = _
    rw [fX11_greedy_L74, if_pos (show (6 : Int32) ≤ nI 6 by decide)]
theorem mgloop {n : Nat} {T : TS} {kk : TS → Option (Int32 × TS)} (hn : 10000 ≤ n) (hM : GM T) (hX : ∀ s, s < 60 → gO T 50 s = 3127 + s) : ∀ (k : Nat) (o : Nat → Nat) (D : Dr) (U : TS) (f : Nat), nsum o 6 ≤ k → k < f → OP T o → OKD (vd T) D → DM U D → FR [2070] [51, 54, 55] 3127 3187 T U → (∀ i, i < 6 → gA U 54 i = nI (o i)) → (gout T k o D = none ∧ ∃ U', fX11_greedy_L68 n kk f (nI (nsum o 6)) U = some (-3, U') ∧ FR [2070] [51, 54, 55] 3127 3187 T U') ∨ ∃ D' U', gout T k o D = some D' ∧ fX11_greedy_L68 n kk f (nI (nsum o 6)) U = kk U' ∧ FR [2070] [51, 54, 55] 3127 3187 T U' ∧ DM U' D' := by
  obtain ⟨d1, d2, d6⟩ := hM.d
  have hw := hM.2.2.1
  intro k
  induction k with
  | zero =>
    intro o D U f h0 hf hO hD hC fU h7
    obtain ⟨g, rfl⟩ : ∃ g, f = g + 1 := ⟨f - 1, by omega⟩
    refine Or.inr ⟨D, U, rfl, ?_, fU, hC⟩
    rw [fX11_greedy_L68, if_pos (show nI (nsum o 6) ≤ 0 by rw [show nsum o 6 = 0 by omega]; decide)]
  | succ k ih =>
    intro o D U f h0 hf hO hD hC fU h7
    obtain ⟨g, rfl⟩ : ∃ g, f = g + 1 := ⟨f - 1, by omega⟩
    rw [gout]
    by_cases z : nsum o 6 = 0
    · rw [if_pos z]
      refine Or.inr ⟨D, U, rfl, ?_, fU, hC⟩
      rw [fX11_greedy_L68, if_pos (show nI (nsum o 6) ≤ 0 by rw [z]; decide)]
    · rw [if_neg z]
      obtain ⟨hO', okx, hs⟩ := hO.next hM z
      have b240 : nsum o 6 ≤ 6 * 40 := nsum_bd hO.1
      obtain ⟨A, a1, a2, a3, a4⟩ := clr55 (n := n) (T := U) (y1 := nI (nsum o 6)) (by omega)
      have fA : FR [2070] [51, 54, 55] 3127 3187 T A := fU.trans (a1.mono (by decide) (by decide) (fun _ => by omega))
      have hMA : GM A := hM.fr fA (by decide) (by decide)
      have vA : vd A = vd T := by unfold vd; rw [fA.I (by decide)]
      have gA' : ∀ p, gsT A o p = gsT T o p := gsT_fr fA (by decide) (by decide) o
      have rA : rm A = rm T := by unfold rm vw ve; rw [fA.I (by decide), fA.I (by decide)]
      have kA : vk A = vk T := by unfold vk; rw [fA.I (by decide)]
      have hwA := hMA.2.2.1
      have mmA : ∀ i, i < vd A → vm A i ≤ 10000 := fun i hi => by have := (hMA.2.2.2.1 i hi).2.2.1; omega
      have w0 : fX11_widest n 10001 A = some (wq A 0, A) := mwidest_eq (y := 10001) (by omega) hMA (Nat.zero_le _) (by decide) (fun p' hp' => by omega) (fun p' _ hp2 => by
        have := mmA _ (vq_lt hMA p' hp2)
        omega)
      obtain ⟨B, b1, b2, b3⟩ := mtake_eq (n := n) (M := nsum o 6) (T := A) (by omega) hMA o hO.1 (by rw [a2]; exact h7) a3 (by rw [vA, gA']; show pcs (gcode T o) ≤ _; omega)
      have fB : FR [2070] [51, 54, 55] 3127 3187 T B := fA.trans (b1.mono (by decide) (by decide) (fun _ => by omega))
      have fUB : FR [] [54, 55] 0 0 U B := a1.trans b1
      have hCB : DM B D := by
        refine ⟨(fUB.I (by decide)).trans hC.1, fun k hk => ?_⟩
        rw [fUB.A (k := 51) (by decide) (by decide), fUB.A (k := 3127 + k) (by simp only [List.mem_cons, List.not_mem_nil, or_false]; omega) (by omega)]
        exact hC.2 k hk
      rw [vA, gA'] at b2 b3
      have b2' : ∀ i, i < 6 → gA B 54 i = nI (gnext T o i) ∧ gA B 55 i = nI (cn (gcode T o) i) := b2
      have eM : nsum o 6 - pcs (gsT T o (vd T)).2.2.2 = nsum (gnext T o) 6 := by show nsum o 6 - pcs (gcode T o) = _; omega
      rw [eM] at b3
      have st : ∀ X, fX11_rolls n 55 B = X → fX11_greedy_L68 n kk (g + 1) (nI (nsum o 6)) U = bd X (fun r_29 T_28 => if ¬ r_29 = 0 then fX11_greedy_L68 n kk g (nI (nsum (gnext T o) 6)) T_28 else some (-3, T_28)) := by
        intro X hX
        rw [fX11_greedy_L68, if_neg (nI_nle (by omega) (by omega)), congrFun a4]
        simp only [nm]
        rw [(room_eq (n := n) hMA).2, show gI A 2053 = nI (vk A) from hMA.2.1.2.2.1.trans hMA.1.2.2.1, w0]
        simp only [bd]
        rw [congrFun b3, hX]
      rcases mroll (n := n) (q := 55) (T := B) (by omega) (fun s hs => by rw [fB.O 50]; exact hX s hs) hD hCB okx.1 (Or.inl rfl) (fun i hi => (b2' i hi).2) with ⟨m1, m2⟩ | ⟨D', V', m1, m2, m3, m4⟩
      · rw [m1]
        refine Or.inl ⟨rfl, B, ?_, fB⟩
        rw [st _ m2]
        rfl
      · rw [m1]
        have hp := okx.2.2.2
        have fV' : FR [2070] [51, 54, 55] 3127 3187 T V' := fB.trans (m3.mono (by decide) (by decide) (fun _ => by omega))
        have := ih (gnext T o) D' V' g (by omega) (by omega) hO' (ar_ok hD okx m1) m4 fV' (fun i hi => by
          rw [m3.A (k := 54) (by decide) (by decide)]
          exact (b2' i hi).1)
        have e : fX11_greedy_L68 n kk (g + 1) (nI (nsum o 6)) U = fX11_greedy_L68 n kk g (nI (nsum (gnext T o) 6)) V' := by
          rw [st _ m2]
          rfl
        rw [e]
        exact this
