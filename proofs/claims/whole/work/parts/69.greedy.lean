/-! ===== greedy: one roll ===== -/
theorem cn_put {c x i j : Nat} (hi : i < 6) (hj : j < 6) (hc : c < 2 ^ 30) (hx : x < 32) (h0 : cn c i = 0) : cn (c + x * 32 ^ (5 - i)) j = if j = i then x else cn c j := by
  unfold cn at h0 ⊢
  rcases (show i = 0 ∨ i = 1 ∨ i = 2 ∨ i = 3 ∨ i = 4 ∨ i = 5 by omega) with rfl | rfl | rfl | rfl | rfl | rfl <;> rcases (show j = 0 ∨ j = 1 ∨ j = 2 ∨ j = 3 ∨ j = 4 ∨ j = 5 by omega) with rfl | rfl | rfl | rfl | rfl | rfl <;> simp only [Nat.reduceSub, Nat.reducePow, Nat.reduceEqDiff, if_true, if_false, reduceCtorEq] at h0 hc ⊢ <;> omega
theorem put_lt {c x i : Nat} (hi : i < 6) (hc : c < 2 ^ 30) (hx : x < 32) (h0 : cn c i = 0) : c + x * 32 ^ (5 - i) < 2 ^ 30 := by
  unfold cn at h0
  rcases (show i = 0 ∨ i = 1 ∨ i = 2 ∨ i = 3 ∨ i = 4 ∨ i = 5 by omega) with rfl | rfl | rfl | rfl | rfl | rfl <;> simp only [Nat.reduceSub, Nat.reducePow] at h0 hc ⊢ <;> omega
theorem put_or {c x i : Nat} (hi : i < 6) (hx : x < 32) (h0 : cn c i = 0) : nI c ||| nI (x * 32 ^ (5 - i)) = nI (c + x * 32 ^ (5 - i)) := by
  rw [nx_or]
  congr 1
  have key : ∀ k, c / 2 ^ k % 32 = 0 → c ||| x * 2 ^ k = c + x * 2 ^ k := by
    intro k hk
    have e1 : c = 2 ^ (k + 5) * (c / 2 ^ k / 32) + c % 2 ^ k := by
      have a1 := Nat.div_add_mod c (2 ^ k)
      have a2 := Nat.div_add_mod (c / 2 ^ k) 32
      rw [hk, Nat.add_zero] at a2
      rw [Nat.pow_add, Nat.mul_assoc, show 2 ^ 5 * (c / 2 ^ k / 32) = c / 2 ^ k from a2]
      exact a1.symm
    have lt1 : c % 2 ^ k < 2 ^ k := Nat.mod_lt _ (Nat.two_pow_pos k)
    generalize c / 2 ^ k / 32 = h at e1
    generalize c % 2 ^ k = l at e1 lt1
    have p5 : 2 ^ (k + 5) = 2 ^ k * 32 := Nat.pow_add 2 k 5
    have lt2 : l < 2 ^ (k + 5) := by omega
    have lt3 : 2 ^ k * x + l < 2 ^ (k + 5) := by
      have : 2 ^ k * x ≤ 2 ^ k * 31 := Nat.mul_le_mul_left _ (by omega)
      omega
    calc c ||| x * 2 ^ k = (2 ^ (k + 5) * h + l) ||| 2 ^ k * x := by rw [← e1, Nat.mul_comm x]
      _ = (2 ^ (k + 5) * h ||| l) ||| 2 ^ k * x := by rw [Nat.two_pow_add_eq_or_of_lt lt2]
      _ = 2 ^ (k + 5) * h ||| (2 ^ k * x ||| l) := by rw [Nat.or_assoc, Nat.or_comm l]
      _ = 2 ^ (k + 5) * h ||| (2 ^ k * x + l) := by rw [Nat.two_pow_add_eq_or_of_lt lt1]
      _ = 2 ^ (k + 5) * h + (2 ^ k * x + l) := by rw [Nat.two_pow_add_eq_or_of_lt lt3]
      _ = c + x * 2 ^ k := by rw [Nat.mul_comm x]; omega
  unfold cn at h0
  rcases (show i = 0 ∨ i = 1 ∨ i = 2 ∨ i = 3 ∨ i = 4 ∨ i = 5 by omega) with rfl | rfl | rfl | rfl | rfl | rfl
  · exact key 25 h0
  · exact key 20 h0
  · exact key 15 h0
  · exact key 10 h0
  · exact key 5 h0
  · exact key 0 h0
def gx (mm o : Nat → Nat) (rm kn i : Nat) : Nat := min (o i) (min kn (rm / mm i))
abbrev GSt := (Nat → Nat) × Nat × Nat × Nat
def gs (mm q o : Nat → Nat) (rm kn : Nat) : Nat → GSt
  | 0 => (o, rm, kn, 0)
  | p + 1 => (nup (gs mm q o rm kn p).1 (q p) ((gs mm q o rm kn p).1 (q p) - gx mm (gs mm q o rm kn p).1 (gs mm q o rm kn p).2.1 (gs mm q o rm kn p).2.2.1 (q p)), (gs mm q o rm kn p).2.1 - gx mm (gs mm q o rm kn p).1 (gs mm q o rm kn p).2.1 (gs mm q o rm kn p).2.2.1 (q p) * mm (q p), (gs mm q o rm kn p).2.2.1 - gx mm (gs mm q o rm kn p).1 (gs mm q o rm kn p).2.1 (gs mm q o rm kn p).2.2.1 (q p), (gs mm q o rm kn p).2.2.2 + gx mm (gs mm q o rm kn p).1 (gs mm q o rm kn p).2.1 (gs mm q o rm kn p).2.2.1 (q p) * 32 ^ (5 - q p))

theorem pcs_put {c x i : Nat} (hi : i < 6) (hc : c < 2 ^ 30) (hx : x < 32) (h0 : cn c i = 0) : pcs (c + x * 32 ^ (5 - i)) = pcs c + x := by
  have h := fun j (hj : j < 6) => cn_put (c := c) (x := x) hi hj hc hx h0
  unfold pcs
  rw [h 0 (by decide), h 1 (by decide), h 2 (by decide), h 3 (by decide), h 4 (by decide), h 5 (by decide)]
  rcases (show i = 0 ∨ i = 1 ∨ i = 2 ∨ i = 3 ∨ i = 4 ∨ i = 5 by omega) with rfl | rfl | rfl | rfl | rfl | rfl <;> simp only [Nat.reduceEqDiff, if_true, if_false, reduceCtorEq] <;> omega
section GRD
variable {mm q o : Nat → Nat} {rm kn d : Nat}
/-- what holds at each place -/
theorem gs_ok (hd : d ≤ 6) (hq : ∀ p, p < d → q p < d) (hinj : ∀ p p', p < p' → p' < d → q p ≠ q p') (hk : kn ≤ 20) : ∀ p, p ≤ d → (gs mm q o rm kn p).2.2.2 < 2 ^ 30 ∧ (∀ i, i < 6 → (∀ p', p' < p → q p' ≠ i) → cn (gs mm q o rm kn p).2.2.2 i = 0) ∧ pcs (gs mm q o rm kn p).2.2.2 + (gs mm q o rm kn p).2.2.1 = kn ∧ (∀ i, i < 6 → (gs mm q o rm kn p).1 i + cn (gs mm q o rm kn p).2.2.2 i = o i) ∧ (gs mm q o rm kn p).2.1 ≤ rm
  | 0, _ => ⟨by show (0 : Nat) < _; decide, fun i _ _ => by show cn 0 i = 0; unfold cn; rw [Nat.zero_div], by show pcs 0 + kn = kn; rw [show pcs 0 = 0 from rfl, Nat.zero_add], fun i _ => by show o i + cn 0 i = o i; unfold cn; rw [Nat.zero_div]; rfl, Nat.le_refl _⟩
  | p + 1, hp => by
    obtain ⟨h1, h2, h3, h4, h5⟩ := gs_ok hd hq hinj hk p (by omega)
    have hi := hq p (by omega)
    have i6 : q p < 6 := by omega
    have h0 := h2 (q p) i6 (fun p' hp' => hinj p' p hp' (by omega))
    rw [gs]
    simp only
    generalize hS : gs mm q o rm kn p = S at *
    have hx : gx mm S.1 S.2.1 S.2.2.1 (q p) ≤ S.2.2.1 ∧ gx mm S.1 S.2.1 S.2.2.1 (q p) ≤ S.1 (q p) := by
      unfold gx
      omega
    generalize gx mm S.1 S.2.1 S.2.2.1 (q p) = x at hx
    have hx32 : x < 32 := by omega
    refine ⟨put_lt i6 h1 hx32 h0, fun i hi6 hn => ?_, ?_, fun i hi6 => ?_, by omega⟩
    · rw [cn_put i6 hi6 h1 hx32 h0, if_neg (fun e => hn p (by omega) e.symm)]
      exact h2 i hi6 (fun p' hp' => hn p' (by omega))
    · rw [pcs_put i6 h1 hx32 h0]
      omega
    · rw [cn_put i6 hi6 h1 hx32 h0]
      unfold nup
      have := h4 i hi6
      by_cases e : i = q p
      · rw [if_pos e, if_pos e, ← e]
        rw [← e] at h0 hx
        omega
      · rw [if_neg e, if_neg e]
        exact this
/-- at least one piece goes -/
theorem gs_pos (hd : d ≤ 6) (hq : ∀ p, p < d → q p < d) (hinj : ∀ p p', p < p' → p' < d → q p ≠ q p') (hk : kn ≤ 20) (hk1 : 1 ≤ kn) (hmm : ∀ i, i < d → 1 ≤ mm i) {p : Nat} (hp : p < d) (ho : 0 < o (q p)) (hr : mm (q p) ≤ rm) : 1 ≤ pcs (gs mm q o rm kn d).2.2.2 := by
  have mono : ∀ r p', p' + r ≤ d → pcs (gs mm q o rm kn p').2.2.2 ≤ pcs (gs mm q o rm kn (p' + r)).2.2.2 := by
    intro r
    induction r with
    | zero => intro p' _; exact Nat.le_refl _
    | succ r ih =>
      intro p' h
      refine Nat.le_trans (ih p' (by omega)) ?_
      obtain ⟨h1, h2, h3, h4, h5⟩ := gs_ok (mm := mm) (o := o) (rm := rm) hd hq hinj hk (p' + r) (by omega)
      have hi := hq (p' + r) (by omega)
      have h0 := h2 (q (p' + r)) (by omega) (fun p'' hp' => hinj p'' (p' + r) hp' (by omega))
      show _ ≤ pcs (gs mm q o rm kn (p' + r + 1)).2.2.2
      rw [gs]
      simp only
      have hx : gx mm (gs mm q o rm kn (p' + r)).1 (gs mm q o rm kn (p' + r)).2.1 (gs mm q o rm kn (p' + r)).2.2.1 (q (p' + r)) ≤ (gs mm q o rm kn (p' + r)).2.2.1 := by unfold gx; omega
      rw [pcs_put (by omega) h1 (by omega) h0]
      omega
  by_cases z : 1 ≤ pcs (gs mm q o rm kn p).2.2.2
  · have := mono (d - p) p (by omega)
    rw [show p + (d - p) = d by omega] at this
    omega
  · -- nothing has gone before
    have still : ∀ r, r ≤ p → gs mm q o rm kn r = (o, rm, kn, 0) := by
      intro r
      induction r with
      | zero => intro _; rfl
      | succ r ih =>
        intro h
        have e := ih (by omega)
        obtain ⟨h1, h2, h3, h4, h5⟩ := gs_ok (mm := mm) (o := o) (rm := rm) hd hq hinj hk (r + 1) (by omega)
        have m1 := mono (p - (r + 1)) (r + 1) (by omega)
        rw [show r + 1 + (p - (r + 1)) = p by omega] at m1
        rw [gs, e] at h3 m1 ⊢
        simp only at h3 m1 ⊢
        have hx : gx mm o rm kn (q r) ≤ kn := by unfold gx; omega
        have hx0 : gx mm o rm kn (q r) = 0 := by omega
        rw [hx0, Nat.sub_zero, Nat.zero_mul, Nat.sub_zero, Nat.sub_zero, Nat.zero_mul, Nat.add_zero]
        have : nup o (q r) (o (q r)) = o := by
          funext j
          unfold nup
          by_cases e : j = q r
          · rw [if_pos e, e]
          · rw [if_neg e]
        rw [this]
    have e := still p (Nat.le_refl _)
    obtain ⟨h1, h2, h3, h4, h5⟩ := gs_ok (mm := mm) (o := o) (rm := rm) hd hq hinj hk (p + 1) (by omega)
    have m1 := mono (d - (p + 1)) (p + 1) (by omega)
    rw [show p + 1 + (d - (p + 1)) = d by omega] at m1
    have hx1 : 1 ≤ gx mm o rm kn (q p) := by
      unfold gx
      have : 1 ≤ rm / mm (q p) := (Nat.le_div_iff_mul_le (hmm _ (hq p hp))).mpr (by omega)
      omega
    rw [gs, e] at m1
    simp only at m1
    have hx : gx mm o rm kn (q p) ≤ kn := by unfold gx; omega
    have hz : cn 0 (q p) = 0 := by unfold cn; rw [Nat.zero_div]
    rw [pcs_put (by have := hq p hp; omega) (by decide) (by omega) hz] at m1
    omega
end GRD
