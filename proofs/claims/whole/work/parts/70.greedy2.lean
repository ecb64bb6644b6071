/-! ===== greedy: one roll in both ===== -/
def gsT (T : TS) (o : Nat → Nat) (p : Nat) : GSt := gs (vm T) (vq T) o (rm T) (vk T) p
theorem vq_inj {T : TS} (hM : GM T) : ∀ p p', p < p' → p' < vd T → vq T p ≠ vq T p' := by
  intro p p' h h' e
  have := hM.2.2.2.2.2.2.1 p p' h h'
  rw [e] at this
  omega
theorem vq_lt {T : TS} (hM : GM T) : ∀ p, p < vd T → vq T p < vd T := fun p h => (hM.2.2.2.2.2.1 p h).2
theorem gsT_ok {T : TS} (hM : GM T) (o : Nat → Nat) {p : Nat} (hp : p ≤ vd T) : (gsT T o p).2.2.2 < 2 ^ 30 ∧ (∀ i, i < 6 → (∀ p', p' < p → vq T p' ≠ i) → cn (gsT T o p).2.2.2 i = 0) ∧ pcs (gsT T o p).2.2.2 + (gsT T o p).2.2.1 = vk T ∧ (∀ i, i < 6 → (gsT T o p).1 i + cn (gsT T o p).2.2.2 i = o i) ∧ (gsT T o p).2.1 ≤ rm T := gs_ok hM.d.2.2 (vq_lt hM) (vq_inj hM) hM.2.2.1.2.2.2.2.1 p hp
theorem take_eq {n : Nat} {T : TS} (hn : 100 ≤ n) (hM : GM T) (o : Nat → Nat) (ho : ∀ i, i < 6 → o i ≤ 40) (h7 : ∀ i, i < vd T → gA T 7 i = nI (o i)) : ∃ T', fX6_takeGreedily n T = some (nI (gsT T o (vd T)).2.2.2, T') ∧ FR [] [7] 0 0 T T' ∧ ∀ i, i < vd T → gA T' 7 i = nI ((gsT T o (vd T)).1 i) := by
  obtain ⟨d1, d2, d6⟩ := hM.d
  have hw := hM.2.2.1
  have hrm : rm T ≤ 10000 := by unfold rm; omega
  unfold fX6_takeGreedily
  rw [(room_eq (n := n) hM).1]
  simp only [bd, nm]
  rw [hM.1.2.2.1]
  refine lpi (fun f (s : Int32 × Int32 × Int32 × Int32 × TS) => fX6_takeGreedily_L21 n (fun e1_14 T_15 => some (e1_14, T_15)) f s.1 s.2.1 s.2.2.1 s.2.2.2.1 s.2.2.2.2) (fun p s => s.1 = nI (gsT T o p).2.2.2 ∧ s.2.1 = nI (gsT T o p).2.1 ∧ s.2.2.1 = nI (gsT T o p).2.2.1 ∧ s.2.2.2.1 = nI p ∧ FR [] [7] 0 0 T s.2.2.2.2 ∧ ∀ i, i < vd T → gA s.2.2.2.2 7 i = nI ((gsT T o p).1 i)) (vd T) (fun r => ∃ T', r = some (nI (gsT T o (vd T)).2.2.2, T') ∧ FR [] [7] 0 0 T T' ∧ ∀ i, i < vd T → gA T' 7 i = nI ((gsT T o (vd T)).1 i)) ?_ ?_ n (0, nI (rm T), nI (vk T), 0, T) (by omega) ⟨rfl, rfl, rfl, rfl, FR.rf, h7⟩
  · rintro p ⟨a, b, c, e, U⟩ hp ⟨h1, h2, h3, h4, h5, h6⟩
    simp only at h1 h2 h3 h4 h5 h6
    subst h1 h2 h3 h4
    obtain ⟨g1, g2, g3, g4, g5⟩ := gsT_ok hM o (Nat.le_of_lt hp)
    have hqp := hM.2.2.2.2.2.1 p hp
    have hi := hqp.2
    obtain ⟨m1, m2, m3, m4⟩ := hM.2.2.2.1 (vq T p) hi
    have h0 := g2 (vq T p) (by omega) (fun p' hp' => vq_inj hM p' p hp' hp)
    have eS : gsT T o (p + 1) = (nup (gsT T o p).1 (vq T p) ((gsT T o p).1 (vq T p) - gx (vm T) (gsT T o p).1 (gsT T o p).2.1 (gsT T o p).2.2.1 (vq T p)), (gsT T o p).2.1 - gx (vm T) (gsT T o p).1 (gsT T o p).2.1 (gsT T o p).2.2.1 (vq T p) * vm T (vq T p), (gsT T o p).2.2.1 - gx (vm T) (gsT T o p).1 (gsT T o p).2.1 (gsT T o p).2.2.1 (vq T p), (gsT T o p).2.2.2 + gx (vm T) (gsT T o p).1 (gsT T o p).2.1 (gsT T o p).2.2.1 (vq T p) * 32 ^ (5 - vq T p)) := rfl
    generalize hS : gsT T o p = S at g1 g2 g3 g4 g5 h0 eS h6
    have hi6 : vq T p < 6 := by omega
    generalize hqq : vq T p = i at hqp hi m1 m2 m3 m4 h0 eS hi6
    have ho1 := ho i hi6
    have ho2 := g4 i hi6
    have ex : gx (vm T) S.1 S.2.1 S.2.2.1 i = min (S.1 i) (min S.2.2.1 (S.2.1 / vm T i)) := rfl
    have hdiv : S.2.1 / vm T i * vm T i ≤ S.2.1 := Nat.div_mul_le_self _ _
    have hdiv2 : S.2.1 / vm T i ≤ S.2.1 := Nat.div_le_self _ _
    generalize hx : gx (vm T) S.1 S.2.1 S.2.2.1 i = x at eS ex
    have hx1 : x ≤ S.1 i ∧ x ≤ S.2.2.1 ∧ x ≤ S.2.1 / vm T i := by omega
    have hx2 : x * vm T i ≤ S.2.1 := Nat.le_trans (Nat.mul_le_mul_right _ hx1.2.2) hdiv
    have hx32 : x < 32 := by omega
    refine ⟨(nI (S.2.2.2 + x * 32 ^ (5 - i)), nI (S.2.1 - x * vm T i), nI (S.2.2.1 - x), nI (p + 1), sA U 7 (nI i) (nI (S.1 i - x))), ⟨by rw [eS], by rw [eS], by rw [eS], rfl, h5.trans (FR.sA (Or.inl (by decide))), fun j hj => ?_⟩, fun f => ?_⟩
    · rw [eS]
      show gA (sA U 7 (nI i) _) 7 j = nI (nup S.1 i (S.1 i - x) j)
      rw [gA_sA_at (by omega)]
      unfold nup
      by_cases e : j = i
      · rw [if_pos e, if_pos e]
      · rw [if_neg e, if_neg e]
        exact h6 j hj
    · show fX6_takeGreedily_L21 n _ (f + 1) (nI S.2.2.2) (nI S.2.1) (nI S.2.2.1) (nI p) U = _
      have k6 : ∀ {z : Option (Int32 × TS)}, ck (nI i) 6 z = z := ck_nI hi6 (by decide)
      have kc : (nI i).toNatClampNeg = i := nI_clamp (by omega)
      have qd : fX10_quotient n (nI S.2.1) (nI (vm T i)) U = some (nI (S.2.1 / vm T i), U) := by
        unfold fX10_quotient nz
        rw [if_pos (show (1 : Int32) ≤ nI (vm T i) from nI_le (a := 1) m2 (by omega)), if_neg (show ¬ nI (vm T i) = 0 from fun z => by have := (nI_eq (b := 0) (by omega) (by decide)).mp z; omega), pk_div (by omega) (by omega) (by omega)]
      rw [fX6_takeGreedily_L21, h5.I (k := 55) (by decide), d1, if_neg (nI_ge hp (by omega)), ck_nI (by omega) (by decide), nI_clamp (show p < 2 ^ 31 by omega), h5.A (k := 3) (by decide) (by decide), hqp.1]
      simp only [nm]
      rw [k6, k6, kc, h5.A (k := 2) (by decide) (by decide), m1, qd]
      simp only [bd]
      rw [h6 i hi, imin_nI (by omega) (by omega), imin_nI (by omega) (by omega), ← ex, k6, k6, pk_sub hx1.1, k6, show gA (sA U 7 (nI i) (nI (S.1 i - x))) 2 i = nI (vm T i) from by rw [zA_sA, if_neg (show ¬ (2 : Nat) = 7 by decide), h5.A (k := 2) (by decide) (by decide), m1], pk_mul, pk_sub hx2, pk_sub hx1.2.1, pack_nI hi6 hx32]
      simp only
      rw [put_or hi6 hx32 h0, nI_1]
  · rintro ⟨a, b, c, e, U⟩ ⟨h1, h2, h3, h4, h5, h6⟩ f
    simp only at h1 h2 h3 h4 h5 h6
    subst h1 h2 h3 h4
    refine ⟨U, ?_, h5, h6⟩
    show fX6_takeGreedily_L21 n _ (f + 1) _ _ _ (nI (vd T)) U = _
    rw [fX6_takeGreedily_L21, h5.I (k := 55) (by decide), d1, if_pos (nI_le (Nat.le_refl _) (by omega))]

def wq (T : TS) (p : Nat) : Int32 := if p < vd T then nI (vq T p) else -1
theorem mwidest_eq {n p y : Nat} {T : TS} (hn : 100 ≤ n) (hM : GM T) (hp : p ≤ vd T) (hy : y ≤ 20000) (h1 : ∀ p', p' < p → y ≤ vm T (vq T p')) (h2 : ∀ p', p ≤ p' → p' < vd T → vm T (vq T p') < y) : fX11_widest n (nI y) T = some (wq T p, T) := by
  obtain ⟨d1, d2, d6⟩ := hM.d
  have hw := hM.2.2.1
  unfold fX11_widest
  refine lpi (fun f (s : Int32 × Int32 × TS) => fX11_widest_L4 n (nI y) (fun e2_1 T_2 => some (e2_1, T_2)) f s.1 s.2.1 s.2.2) (fun i s => ((s.1 = -1 ∧ ∀ j, j < i → y ≤ vm T j) ∨ ∃ b, b < i ∧ s.1 = nI b ∧ vm T b < y ∧ ∀ j, j < i → vm T j < y → vm T j ≤ vm T b) ∧ s.2.1 = nI i ∧ s.2.2 = T) (vd T) (fun r => r = some (wq T p, T)) ?_ ?_ n (-1, 0, T) (by omega) ⟨Or.inl ⟨rfl, fun j hj => by omega⟩, rfl, rfl⟩
  · rintro i ⟨a, b, U⟩ hi ⟨g1, g2, g3⟩
    simp only at g1 g2 g3
    subst g2 g3
    obtain ⟨m1, m2, m3, m4⟩ := hM.2.2.2.1 i hi
    have st : ∀ f, fX11_widest_L4 n (nI y) (fun e2_1 T_2 => some (e2_1, T_2)) (f + 1) a (nI i) U = if y ≤ vm U i then fX11_widest_L4 n (nI y) (fun e2_1 T_2 => some (e2_1, T_2)) f a (nI (i + 1)) U else if a = -1 then fX11_widest_L4 n (nI y) (fun e2_1 T_2 => some (e2_1, T_2)) f (nI i) (nI (i + 1)) U else ck a 6 (if gA U 42 i ≤ gA U 42 (Int32.toNatClampNeg a) then fX11_widest_L4 n (nI y) (fun e2_1 T_2 => some (e2_1, T_2)) f a (nI (i + 1)) U else fX11_widest_L4 n (nI y) (fun e2_1 T_2 => some (e2_1, T_2)) f (nI i) (nI (i + 1)) U) := by
      intro f
      rw [fX11_widest_L4, d2, if_neg (nI_ge hi (by omega)), ck_nI (by omega) (by decide), nI_clamp (show i < 2 ^ 31 by omega), ck_nI (by omega) (by decide), m4, m1, nI_1]
      by_cases z : y ≤ vm U i
      · rw [if_pos z, if_pos (nI_le z (by omega))]
      · rw [if_neg z, if_neg (nI_ge (by omega) (by omega))]
    by_cases z : y ≤ vm U i
    · refine ⟨(a, nI (i + 1), U), ⟨?_, rfl, rfl⟩, fun f => by show _ = fX11_widest_L4 n (nI y) _ f a (nI (i + 1)) U; exact (st f).trans (if_pos z)⟩
      rcases g1 with ⟨e1, e2⟩ | ⟨b, b1, b2, b3, b4⟩
      · refine Or.inl ⟨e1, fun j hj => ?_⟩
        rcases Nat.lt_or_ge j i with w | w
        · exact e2 j w
        · rw [show j = i by omega]; exact z
      · refine Or.inr ⟨b, by omega, b2, b3, fun j hj hj2 => ?_⟩
        rcases Nat.lt_or_ge j i with w | w
        · exact b4 j w hj2
        · rw [show j = i by omega] at hj2; omega
    · rcases g1 with ⟨e1, e2⟩ | ⟨b, b1, b2, b3, b4⟩
      · refine ⟨(nI i, nI (i + 1), U), ⟨Or.inr ⟨i, by omega, rfl, by omega, fun j hj hj2 => ?_⟩, rfl, rfl⟩, fun f => by show _ = fX11_widest_L4 n (nI y) _ f (nI i) (nI (i + 1)) U; exact (st f).trans ((if_neg z).trans (if_pos e1))⟩
        rcases Nat.lt_or_ge j i with w | w
        · have := e2 j w; omega
        · rw [show j = i by omega]; exact Nat.le_refl _
      · have a1 : ¬ a = -1 := by rw [b2]; exact nI_ne_neg (by omega)
        obtain ⟨n1, n2, n3, n4⟩ := hM.2.2.2.1 b (by omega)
        by_cases w : vm U i ≤ vm U b
        · refine ⟨(a, nI (i + 1), U), ⟨Or.inr ⟨b, by omega, b2, b3, fun j hj hj2 => ?_⟩, rfl, rfl⟩, fun f => ?_⟩
          · rcases Nat.lt_or_ge j i with w2 | w2
            · exact b4 j w2 hj2
            · rw [show j = i by omega]; exact w
          · show fX11_widest_L4 n (nI y) _ (f + 1) a (nI i) U = fX11_widest_L4 n (nI y) _ f a (nI (i + 1)) U
            rw [st f, if_neg z, if_neg a1, b2, ck_nI (by omega) (by decide), nI_clamp (by omega), m4, m1, n4, n1, if_pos (nI_le w (by omega))]
        · refine ⟨(nI i, nI (i + 1), U), ⟨Or.inr ⟨i, by omega, rfl, by omega, fun j hj hj2 => ?_⟩, rfl, rfl⟩, fun f => ?_⟩
          · rcases Nat.lt_or_ge j i with w2 | w2
            · have := b4 j w2 hj2; omega
            · rw [show j = i by omega]; exact Nat.le_refl _
          · show fX11_widest_L4 n (nI y) _ (f + 1) a (nI i) U = fX11_widest_L4 n (nI y) _ f (nI i) (nI (i + 1)) U
            rw [st f, if_neg z, if_neg a1, b2, ck_nI (by omega) (by decide), nI_clamp (by omega), m4, m1, n4, n1, if_neg (nI_ge (by omega) (by omega))]
  · rintro ⟨a, b, U⟩ ⟨g1, g2, g3⟩ f
    simp only at g1 g2 g3
    subst g2 g3
    show fX11_widest_L4 n (nI y) _ (f + 1) a (nI (vd U)) U = _
    rw [fX11_widest_L4, d2, if_pos (nI_le (Nat.le_refl _) (by omega))]
    have ea : a = wq U p := by
      unfold wq
      rcases g1 with ⟨e1, e2⟩ | ⟨b, b1, b2, b3, b4⟩
      · rw [if_neg (fun z => by
          have a1 := h2 p (Nat.le_refl _) z
          have a2 := e2 (vq U p) (vq_lt hM p z)
          omega)]
        exact e1
      · obtain ⟨p', hp', e⟩ := hM.2.2.2.2.2.2.2 b b1
        have c1 : p ≤ p' := by
          rcases Nat.lt_or_ge p' p with w | w
          · have := h1 p' w
            rw [e] at this
            omega
          · exact w
        have c2 : p < vd U := by omega
        rw [if_pos c2, b2]
        congr 1
        have c3 := b4 (vq U p) (vq_lt hM p c2) (h2 p (Nat.le_refl _) c2)
        rcases Nat.eq_or_lt_of_le c1 with w | w
        · rw [w, e]
        · have := hM.2.2.2.2.2.2.1 p p' w hp'
          rw [e] at this
          omega
    rw [ea]
theorem mtake_eq {n M : Nat} {T : TS} (hn : 100 ≤ n) (hM : GM T) (o : Nat → Nat) (ho : ∀ i, i < 6 → o i ≤ 40) (h54 : ∀ i, i < 6 → gA T 54 i = nI (o i)) (h55 : ∀ i, i < 6 → gA T 55 i = 0) (hMo : pcs (gsT T o (vd T)).2.2.2 ≤ M) : ∃ T', FR [] [54, 55] 0 0 T T' ∧ (∀ i, i < 6 → gA T' 54 i = nI ((gsT T o (vd T)).1 i) ∧ gA T' 55 i = nI (cn (gsT T o (vd T)).2.2.2 i)) ∧ (fun kk => fX11_greedy_L119 n kk n (nI M) (nI (rm T)) (nI (vk T)) (wq T 0) T) = fun kk => kk (nI (M - pcs (gsT T o (vd T)).2.2.2)) T' := by
  obtain ⟨d1, d2, d6⟩ := hM.d
  have hw := hM.2.2.1
  have hrm : rm T ≤ 10000 := by unfold rm; omega
  refine lpi (fun f (s : Int32 × Int32 × Int32 × Int32 × TS) kk => fX11_greedy_L119 n kk f s.1 s.2.1 s.2.2.1 s.2.2.2.1 s.2.2.2.2) (fun p s => s.1 = nI M - nI (pcs (gsT T o p).2.2.2) ∧ s.2.1 = nI (gsT T o p).2.1 ∧ s.2.2.1 = nI (gsT T o p).2.2.1 ∧ s.2.2.2.1 = wq T p ∧ FR [] [54, 55] 0 0 T s.2.2.2.2 ∧ ∀ i, i < 6 → gA s.2.2.2.2 54 i = nI ((gsT T o p).1 i) ∧ gA s.2.2.2.2 55 i = nI (cn (gsT T o p).2.2.2 i)) (vd T) (fun r => ∃ T', FR [] [54, 55] 0 0 T T' ∧ (∀ i, i < 6 → gA T' 54 i = nI ((gsT T o (vd T)).1 i) ∧ gA T' 55 i = nI (cn (gsT T o (vd T)).2.2.2 i)) ∧ r = fun kk => kk (nI (M - pcs (gsT T o (vd T)).2.2.2)) T') ?_ ?_ n (nI M, nI (rm T), nI (vk T), wq T 0, T) (by omega) ⟨?_, rfl, rfl, rfl, FR.rf, fun i hi => ⟨h54 i hi, ?_⟩⟩
  · rintro p ⟨a, b, c, e, U⟩ hp ⟨h1, h2, h3, h4, h5, h6⟩
    simp only at h1 h2 h3 h4 h5 h6
    subst h1 h2 h3 h4
    obtain ⟨g1, g2, g3, g4, g5⟩ := gsT_ok hM o (Nat.le_of_lt hp)
    have hqp := hM.2.2.2.2.2.1 p hp
    have hi := hqp.2
    obtain ⟨m1, m2, m3, m4⟩ := hM.2.2.2.1 (vq T p) hi
    have h0 := g2 (vq T p) (by omega) (fun p' hp' => vq_inj hM p' p hp' hp)
    have eS : gsT T o (p + 1) = (nup (gsT T o p).1 (vq T p) ((gsT T o p).1 (vq T p) - gx (vm T) (gsT T o p).1 (gsT T o p).2.1 (gsT T o p).2.2.1 (vq T p)), (gsT T o p).2.1 - gx (vm T) (gsT T o p).1 (gsT T o p).2.1 (gsT T o p).2.2.1 (vq T p) * vm T (vq T p), (gsT T o p).2.2.1 - gx (vm T) (gsT T o p).1 (gsT T o p).2.1 (gsT T o p).2.2.1 (vq T p), (gsT T o p).2.2.2 + gx (vm T) (gsT T o p).1 (gsT T o p).2.1 (gsT T o p).2.2.1 (vq T p) * 32 ^ (5 - vq T p)) := rfl
    have hwq : wq T p = nI (vq T p) := if_pos hp
    have wn : ∀ V, FR [] [54, 55] 0 0 T V → fX11_widest n (nI (vm T (vq T p))) V = some (wq T (p + 1), V) := by
      intro V fV
      have eV : vd V = vd T := by unfold vd; rw [fV.I (by decide)]
      have eQ : ∀ p, vq V p = vq T p := fun p => by unfold vq; rw [fV.A (by decide) (by decide)]
      have eMm : ∀ p, vm V p = vm T p := fun p => by unfold vm; rw [fV.A (by decide) (by decide)]
      have := mwidest_eq (n := n) (p := p + 1) (y := vm T (vq T p)) (T := V) hn (hM.fr fV (by decide) (by decide)) (by rw [eV]; omega) (by omega) (fun p' hp' => by
          rw [eQ, eMm]
          rcases Nat.lt_or_ge p' p with w | w
          · exact Nat.le_of_lt (hM.2.2.2.2.2.2.1 p' p w hp)
          · rw [show p' = p by omega]; exact Nat.le_refl _) (fun p' hp' hp2 => by
          rw [eV] at hp2
          rw [eQ, eMm]
          exact hM.2.2.2.2.2.2.1 p p' (by omega) hp2)
      rw [this]
      unfold wq
      rw [eV, eQ]
    generalize hS : gsT T o p = S at g1 g2 g3 g4 g5 h0 eS h6
    have hi6 : vq T p < 6 := by omega
    rw [hwq]
    generalize hqq : vq T p = i at hqp hi m1 m2 m3 m4 h0 eS hi6 wn
    have ho1 := ho i hi6
    have ho2 := g4 i hi6
    have ex : gx (vm T) S.1 S.2.1 S.2.2.1 i = min (S.1 i) (min S.2.2.1 (S.2.1 / vm T i)) := rfl
    have hdiv : S.2.1 / vm T i * vm T i ≤ S.2.1 := Nat.div_mul_le_self _ _
    have hdiv2 : S.2.1 / vm T i ≤ S.2.1 := Nat.div_le_self _ _
    generalize hx : gx (vm T) S.1 S.2.1 S.2.2.1 i = x at eS ex
    have hx1 : x ≤ S.1 i ∧ x ≤ S.2.2.1 ∧ x ≤ S.2.1 / vm T i := by omega
    have hx2 : x * vm T i ≤ S.2.1 := Nat.le_trans (Nat.mul_le_mul_right _ hx1.2.2) hdiv
    have hx32 : x < 32 := by omega
    have fU2 : FR [] [54, 55] 0 0 T (sA (sA U 55 (nI i) (nI x)) 54 (nI i) (nI (S.1 i - x))) := (h5.trans (FR.sA (Or.inl (by decide)))).trans (FR.sA (Or.inl (by decide)))
    refine ⟨(nI M - nI (pcs (gsT T o (p + 1)).2.2.2), nI (S.2.1 - x * vm T i), nI (S.2.2.1 - x), wq T (p + 1), sA (sA U 55 (nI i) (nI x)) 54 (nI i) (nI (S.1 i - x))), ⟨rfl, by rw [eS], by rw [eS], rfl, fU2, fun j hj => ?_⟩, fun f => funext fun kk => ?_⟩
    · rw [eS]
      show gA (sA (sA U 55 (nI i) (nI x)) 54 (nI i) (nI (S.1 i - x))) 54 j = nI (nup S.1 i (S.1 i - x) j) ∧ gA (sA (sA U 55 (nI i) (nI x)) 54 (nI i) (nI (S.1 i - x))) 55 j = nI (cn (S.2.2.2 + x * 32 ^ (5 - i)) j)
      rw [gA_sA_at (by omega), zA_sA _ 54 _ _ 55, if_neg (show ¬ (55 : Nat) = 54 by decide), gA_sA_at (by omega), zA_sA _ 55 _ _ 54, if_neg (show ¬ (54 : Nat) = 55 by decide), cn_put hi6 hj g1 hx32 h0]
      unfold nup
      by_cases e : j = i
      · rw [if_pos e, if_pos e, if_pos e, if_pos e]
        exact ⟨rfl, rfl⟩
      · rw [if_neg e, if_neg e, if_neg e, if_neg e]
        exact h6 j hj
    · show fX11_greedy_L119 n kk (f + 1) (nI M - nI (pcs S.2.2.2)) (nI S.2.1) (nI S.2.2.1) (nI i) U = _
      have k6 : ∀ {z : Option (Int32 × TS)}, ck (nI i) 6 z = z := ck_nI hi6 (by decide)
      have kc : (nI i).toNatClampNeg = i := nI_clamp (by omega)
      have e42 : gA U 42 i = nI (vm T i) := by rw [h5.A (k := 42) (by decide) (by decide), m4, m1]
      have a55 : gA (sA U 55 (nI i) (nI x)) 55 i = nI x := by rw [gA_sA_at (by omega), if_pos rfl]
      have a54 : gA (sA U 55 (nI i) (nI x)) 54 i = nI (S.1 i) := by
        rw [zA_sA, if_neg (show ¬ (54 : Nat) = 55 by decide)]
        exact (h6 i hi6).1
      have b55 : gA (sA (sA U 55 (nI i) (nI x)) 54 (nI i) (nI (S.1 i - x))) 55 i = nI x := by rw [zA_sA, if_neg (show ¬ (55 : Nat) = 54 by decide), a55]
      have b42 : gA (sA (sA U 55 (nI i) (nI x)) 54 (nI i) (nI (S.1 i - x))) 42 i = nI (vm T i) := by rw [zA_sA, if_neg (show ¬ (42 : Nat) = 54 by decide), zA_sA, if_neg (show ¬ (42 : Nat) = 55 by decide), e42]
      rw [fX11_greedy_L119, if_neg (nI_ne_neg (by omega)), k6, k6, kc, e42]
      unfold nz
      rw [if_neg (show ¬ nI (vm T i) = 0 from fun z => by have := (nI_eq (b := 0) (by omega) (by decide)).mp z; omega), k6, (h6 i hi6).1, pk_div (by omega) (by omega) (by omega), imin_nI (by omega) (by omega), imin_nI (by omega) (by omega), ← ex]
      simp only [nm]
      rw [k6, k6, k6, a55, a54, pk_sub hx1.1, k6, b55, k6, k6, k6, b42, pk_mul, pk_sub hx2, pk_sub hx1.2.1, k6, wn _ fU2]
      simp only [bd]
      have ep : nI M - nI (pcs S.2.2.2) - nI x = nI M - nI (pcs (gsT T o (p + 1)).2.2.2) := by
        rw [eS]
        show _ = nI M - nI (pcs (S.2.2.2 + x * 32 ^ (5 - i)))
        rw [pcs_put hi6 g1 hx32 h0, ← nI_add, Int32.sub_sub]
      rw [ep]
  · rintro ⟨a, b, c, e, U⟩ ⟨h1, h2, h3, h4, h5, h6⟩ f
    simp only at h1 h2 h3 h4 h5 h6
    subst h1 h2 h3 h4
    refine ⟨U, h5, h6, funext fun kk => ?_⟩
    show fX11_greedy_L119 n kk (f + 1) (nI M - nI (pcs (gsT T o (vd T)).2.2.2)) _ _ (wq T (vd T)) U = _
    rw [fX11_greedy_L119, if_pos (show wq T (vd T) = -1 from if_neg (by omega)), pk_sub hMo]
  · show nI M = nI M - nI (pcs 0)
    rw [show pcs 0 = 0 from rfl, pk_sub (Nat.zero_le M)]
    rfl
  · show gA T 55 i = nI (cn 0 i)
    rw [h55 i hi]
    unfold cn
    rw [Nat.zero_div]
    rfl
