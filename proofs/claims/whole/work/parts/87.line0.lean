/-! ===== line: numbers ===== -/
theorem bit_or : ∀ a : Fin 256, ∀ b : Fin 8, a.val.testBit b.val = false → a.val ||| 2 ^ b.val = a.val + 2 ^ b.val := by decide +kernel
theorem bit_has : ∀ a : Fin 256, ∀ b : Fin 8, ((nI a.val >>> (nI b.val &&& 31)) &&& 1) = (if a.val.testBit b.val then 1 else 0) := by decide +kernel
theorem bit_shl : ∀ b : Fin 9, ((1 : Int32) <<< (nI b.val &&& 31)) = nI (2 ^ b.val) := by decide +kernel
theorem has_nI {a b : Nat} (ha : a < 256) (hb : b < 8) : ((nI a >>> (nI b &&& 31)) &&& 1) = (if a.testBit b then 1 else 0) := bit_has ⟨a, ha⟩ ⟨b, hb⟩
theorem shl_nI {b : Nat} (hb : b < 9) : ((1 : Int32) <<< (nI b &&& 31)) = nI (2 ^ b) := bit_shl ⟨b, hb⟩
theorem or_nI {a b : Nat} (ha : a < 256) (hb : b < 8) (h : a.testBit b = false) : a ||| 2 ^ b = a + 2 ^ b := bit_or ⟨a, ha⟩ ⟨b, hb⟩ h
def mnB (B : Nat) (g : Nat → Nat) (set : Nat) : Nat → Nat
  | 0 => B
  | k + 1 => if set.testBit k then mnB B g set k else min (mnB B g set k) (g k)
def lvf (N : Nat) (mv : Nat → Nat → Nat) : Nat → Nat → Nat → Nat
  | 0, _, _ => 0
  | f + 1, set, r => if set + 1 = 2 ^ N then 0 else mnB 1000000 (fun s => mv r s + lvf N mv f (set ||| 2 ^ s) (s + 1)) set N
def lv (N : Nat) (mv : Nat → Nat → Nat) (set r : Nat) : Nat := lvf N mv (2 ^ N - set) set r
section LINE
variable {N : Nat} {mv : Nat → Nat → Nat}
theorem mnB_congr {B set : Nat} {g g' : Nat → Nat} : ∀ {k : Nat}, (∀ s, s < k → set.testBit s = false → g s = g' s) → mnB B g set k = mnB B g' set k
  | 0, _ => rfl
  | k + 1, h => by
    rw [mnB, mnB, mnB_congr (fun s hs => h s (by omega))]
    cases hb : set.testBit k with
    | true => rfl
    | false => rw [h k (by omega) hb]
theorem pw8 (hN : N ≤ 8) : 2 ^ N ≤ 256 := Nat.pow_le_pow_right (by decide) hN
theorem or_in {set s : Nat} (hN : N ≤ 8) (hs : set < 2 ^ N) (hsN : s < N) (hb : set.testBit s = false) : set ||| 2 ^ s = set + 2 ^ s ∧ set ||| 2 ^ s < 2 ^ N := by
  have := pw8 hN
  refine ⟨or_nI (by omega) (by omega) hb, Nat.or_lt_two_pow hs (Nat.pow_lt_pow_right (by decide) hsN)⟩
theorem lvf_fuel (hN : N ≤ 8) : ∀ (f g set r : Nat), set < 2 ^ N → 2 ^ N ≤ set + f → 2 ^ N ≤ set + g → lvf N mv f set r = lvf N mv g set r
  | 0, g, set, r, h, h1, h2 => by omega
  | f + 1, 0, set, r, h, h1, h2 => by omega
  | f + 1, g + 1, set, r, h, h1, h2 => by
    rw [lvf, lvf]
    by_cases q : set + 1 = 2 ^ N
    · rw [if_pos q, if_pos q]
    · rw [if_neg q, if_neg q]
      refine mnB_congr (fun s hs hb => ?_)
      obtain ⟨o1, o2⟩ := or_in hN h hs hb
      have hp : 0 < 2 ^ s := Nat.pow_pos (by decide)
      rw [lvf_fuel hN f g (set ||| 2 ^ s) (s + 1) o2 (by omega) (by omega)]
theorem lv_full {set : Nat} (h : set + 1 = 2 ^ N) (r : Nat) : lv N mv set r = 0 := by
  unfold lv
  rw [show 2 ^ N - set = 0 + 1 by omega, lvf, if_pos h]
theorem lv_step (hN : N ≤ 8) {set : Nat} (h : set + 1 < 2 ^ N) (r : Nat) : lv N mv set r = mnB 1000000 (fun s => mv r s + lv N mv (set ||| 2 ^ s) (s + 1)) set N := by
  have e : lv N mv set r = lvf N mv (2 ^ N - set - 1 + 1) set r := by
    unfold lv
    rw [show 2 ^ N - set - 1 + 1 = 2 ^ N - set by omega]
  rw [e, lvf, if_neg (by omega)]
  refine mnB_congr (fun s hs hb => ?_)
  obtain ⟨o1, o2⟩ := or_in hN (by omega) hs hb
  have hp : 0 < 2 ^ s := Nat.pow_pos (by decide)
  unfold lv
  rw [lvf_fuel hN (2 ^ N - set - 1) (2 ^ N - (set ||| 2 ^ s)) (set ||| 2 ^ s) (s + 1) o2 (by omega) (by omega)]
theorem free_ex {set : Nat} (h : set + 1 < 2 ^ N) : ∃ s, s < N ∧ set.testBit s = false := Classical.byContradiction (fun q => by
  have : set = 2 ^ N - 1 := by
    apply Nat.eq_of_testBit_eq
    intro i
    rw [Nat.testBit_two_pow_sub_one]
    by_cases hi : i < N
    · rw [decide_eq_true hi]
      cases hb : set.testBit i with
      | true => rfl
      | false => exact absurd ⟨i, hi, hb⟩ q
    · rw [decide_eq_false hi]
      exact Nat.testBit_lt_two_pow (Nat.lt_of_lt_of_le (show set < 2 ^ N by omega) (Nat.pow_le_pow_right (by decide) (by omega)))
  omega)
theorem mnB_le {B set s : Nat} {g : Nat → Nat} (hb : set.testBit s = false) : ∀ {k : Nat}, s < k → mnB B g set k ≤ g s
  | 0, h => by omega
  | k + 1, h => by
    rw [mnB]
    rcases Nat.lt_or_ge s k with q | q
    · have := mnB_le (B := B) (g := g) hb q
      split <;> omega
    · have : s = k := by omega
      subst this
      rw [hb]
      simp only [Bool.false_eq_true, if_false]
      omega
theorem mnB_ex {B set : Nat} {g : Nat → Nat} : ∀ (k : Nat), mnB B g set k = B ∨ ∃ s, s < k ∧ set.testBit s = false ∧ mnB B g set k = g s
  | 0 => Or.inl rfl
  | k + 1 => by
    rw [mnB]
    have ih := mnB_ex (B := B) (set := set) (g := g) k
    cases hb : set.testBit k with
    | true =>
      simp only [if_true]
      rcases ih with h | ⟨s, h1, h2, h3⟩
      · exact Or.inl h
      · exact Or.inr ⟨s, by omega, h2, h3⟩
    | false =>
      simp only [Bool.false_eq_true, if_false]
      rcases Nat.le_total (mnB B g set k) (g k) with z | z
      · rw [Nat.min_eq_left z]
        rcases ih with h | ⟨s, h1, h2, h3⟩
        · exact Or.inl h
        · exact Or.inr ⟨s, by omega, h2, h3⟩
      · rw [Nat.min_eq_right z]
        exact Or.inr ⟨k, by omega, hb, rfl⟩
theorem mnB_min {B C set : Nat} {g : Nat → Nat} (h : B ≤ C) : ∀ (k : Nat), mnB B g set k = min B (mnB C g set k)
  | 0 => by show B = min B C; omega
  | k + 1 => by
    rw [mnB, mnB, mnB_min h k]
    split <;> omega
theorem mnB_top {B set : Nat} {g : Nat → Nat} : ∀ (k : Nat), mnB B g set k ≤ B
  | 0 => Nat.le_refl _
  | k + 1 => by
    rw [mnB]
    have := mnB_top (B := B) (set := set) (g := g) k
    split <;> omega
theorem lv_bd (hN : N ≤ 8) (hm : ∀ r s, s < N → mv r s ≤ 21) : ∀ (d set r : Nat), set + d = 2 ^ N → 0 < d → lv N mv set r ≤ 21 * d := by
  intro d
  induction d using Nat.strongRecOn with
  | ind d ih =>
    intro set r h h0
    by_cases q : set + 1 = 2 ^ N
    · rw [lv_full q]; omega
    · obtain ⟨s, hs, hb⟩ := free_ex (N := N) (set := set) (by omega)
      obtain ⟨o1, o2⟩ := or_in hN (show set < 2 ^ N by omega) hs hb
      have hp : 0 < 2 ^ s := Nat.pow_pos (by decide)
      rw [lv_step hN (by omega)]
      have a := mnB_le (B := 1000000) (g := fun s => mv r s + lv N mv (set ||| 2 ^ s) (s + 1)) hb hs
      have b := ih (2 ^ N - (set ||| 2 ^ s)) (by omega) (set ||| 2 ^ s) (s + 1) (by omega) (by omega)
      have c := hm r s hs
      omega
theorem lv_le (hN : N ≤ 8) (hm : ∀ r s, s < N → mv r s ≤ 21) {set : Nat} (h : set < 2 ^ N) (r : Nat) : lv N mv set r ≤ 5376 := by
  have := lv_bd hN hm (2 ^ N - set) set r (by omega) (by omega)
  have := pw8 hN
  omega
/-- any dearer start gives the same least -/
theorem lv_any (hN : N ≤ 8) (hm : ∀ r s, s < N → mv r s ≤ 21) {set : Nat} (h : set + 1 < 2 ^ N) (r : Nat) {C : Nat} (hC : 1000000 ≤ C) : mnB C (fun s => mv r s + lv N mv (set ||| 2 ^ s) (s + 1)) set N = lv N mv set r := by
  rw [lv_step hN h, mnB_min hC]
  obtain ⟨s, hs, hb⟩ := free_ex h
  obtain ⟨o1, o2⟩ := or_in hN (show set < 2 ^ N by omega) hs hb
  have a := mnB_le (B := C) (g := fun s => mv r s + lv N mv (set ||| 2 ^ s) (s + 1)) hb hs
  have b := lv_le hN hm o2 (s + 1)
  have c := hm r s hs
  omega
/-- how many bits below k are not set -/
def frc (set : Nat) : Nat → Nat
  | 0 => 0
  | k + 1 => (if set.testBit k then 0 else 1) + frc set k
theorem frc_le {set : Nat} : ∀ (k : Nat), frc set k ≤ k
  | 0 => Nat.le_refl _
  | k + 1 => by
    rw [frc]
    have := frc_le (set := set) k
    split <;> omega
theorem tb_or {set s i : Nat} : (set ||| 2 ^ s).testBit i = (set.testBit i || decide (s = i)) := by
  rw [Nat.testBit_or, Nat.testBit_two_pow]
theorem frc_hi {set s : Nat} : ∀ {k : Nat}, k ≤ s → frc (set ||| 2 ^ s) k = frc set k
  | 0, _ => rfl
  | k + 1, h => by
    rw [frc, frc, frc_hi (k := k) (by omega), tb_or, decide_eq_false (show ¬ s = k by omega), Bool.or_false]
theorem frc_or {set s : Nat} (hb : set.testBit s = false) : ∀ {k : Nat}, s < k → frc (set ||| 2 ^ s) k + 1 = frc set k
  | 0, h => by omega
  | k + 1, h => by
    rw [frc, frc, tb_or]
    rcases Nat.lt_or_ge s k with q | q
    · have := frc_or (k := k) hb q
      rw [decide_eq_false (show ¬ s = k by omega), Bool.or_false]
      omega
    · have : s = k := by omega
      subst this
      rw [frc_hi (Nat.le_refl _), hb, decide_eq_true rfl]
      simp only [Bool.or_true, Bool.false_eq_true, if_true, if_false]
      omega
theorem lv_fr (hN : N ≤ 8) (hm : ∀ r s, s < N → mv r s ≤ 21) : ∀ (c set r : Nat), set < 2 ^ N → frc set N = c → lv N mv set r ≤ 21 * c := by
  intro c
  induction c with
  | zero =>
    intro set r h h0
    by_cases q : set + 1 = 2 ^ N
    · rw [lv_full q]; omega
    · obtain ⟨s, hs, hb⟩ := free_ex (N := N) (set := set) (by omega)
      have := frc_or hb hs
      omega
  | succ c ih =>
    intro set r h h0
    by_cases q : set + 1 = 2 ^ N
    · rw [lv_full q]; omega
    · obtain ⟨s, hs, hb⟩ := free_ex (N := N) (set := set) (by omega)
      obtain ⟨o1, o2⟩ := or_in hN h hs hb
      rw [lv_step hN (by omega)]
      have a := mnB_le (B := 1000000) (g := fun s => mv r s + lv N mv (set ||| 2 ^ s) (s + 1)) hb hs
      have e := frc_or hb hs
      have b := ih (set ||| 2 ^ s) (s + 1) o2 (by omega)
      have d := hm r s hs
      omega
/-- so does any start above all sums -/
theorem lv_any2 (hN : N ≤ 8) (hm : ∀ r s, s < N → mv r s ≤ 21) {set : Nat} (h : set + 1 < 2 ^ N) (r : Nat) {C : Nat} (hC : 169 ≤ C) (hC2 : C ≤ 1000000) : mnB C (fun s => mv r s + lv N mv (set ||| 2 ^ s) (s + 1)) set N = lv N mv set r := by
  have a := lv_fr hN hm (frc set N) set r (by omega) rfl
  have b := frc_le (set := set) N
  rw [mnB_min hC2, ← lv_step hN h]
  omega
/-- the lowest SLOT that keeps the sum least -/
def okS (N : Nat) (mv : Nat → Nat → Nat) (set r s : Nat) : Bool := !set.testBit s && decide (mv r s + lv N mv (set ||| 2 ^ s) (s + 1) = lv N mv set r)
def fq (p : Nat → Bool) : Nat → Nat → Nat
  | 0, k => k
  | f + 1, k => if p k then k else fq p f (k + 1)
theorem fq_of {p : Nat → Bool} {k0 : Nat} (h1 : p k0 = true) (h2 : ∀ j, j < k0 → p j = false) : ∀ (f k : Nat), k ≤ k0 → k0 < k + f → fq p f k = k0
  | 0, k, a, e => by omega
  | f + 1, k, a, e => by
    rw [fq]
    by_cases q : k = k0
    · rw [q, h1]; rfl
    · rw [h2 k (by omega)]
      exact fq_of h1 h2 f (k + 1) (by omega) (by omega)
theorem fq_ex {p : Nat → Bool} : ∀ (m : Nat), (∃ k, k < m ∧ p k = true) → ∃ k, k < m ∧ p k = true ∧ ∀ j, j < k → p j = false
  | 0, ⟨k, h, _⟩ => by omega
  | m + 1, ⟨k, h, hk⟩ => by
    by_cases q : ∃ k, k < m ∧ p k = true
    · obtain ⟨k', a1, a2, a3⟩ := fq_ex m q
      exact ⟨k', by omega, a2, a3⟩
    · exact ⟨k, h, hk, fun j hj => by
        cases hp : p j with
        | false => rfl
        | true => exact absurd ⟨j, by omega, hp⟩ q⟩
def fsl (N : Nat) (mv : Nat → Nat → Nat) (set r : Nat) : Nat := fq (okS N mv set r) N 0
theorem fsl_ok (hN : N ≤ 8) (hm : ∀ r s, s < N → mv r s ≤ 21) {set r : Nat} (h : set + 1 < 2 ^ N) : fsl N mv set r < N ∧ okS N mv set r (fsl N mv set r) = true ∧ ∀ j, j < fsl N mv set r → okS N mv set r j = false := by
  have ex : ∃ k, k < N ∧ okS N mv set r k = true := by
    have e := lv_step (mv := mv) hN h r
    rcases mnB_ex (B := 1000000) (set := set) (g := fun s => mv r s + lv N mv (set ||| 2 ^ s) (s + 1)) N with q | ⟨s, h1, h2, h3⟩
    · have := lv_le hN hm (show set < 2 ^ N by omega) r
      omega
    · refine ⟨s, h1, ?_⟩
      unfold okS
      rw [h2, decide_eq_true (by rw [e, h3])]
      rfl
  obtain ⟨k, h1, h2, h3⟩ := fq_ex N ex
  have e : fsl N mv set r = k := fq_of h2 h3 N 0 (Nat.zero_le _) (by omega)
  rw [e]
  exact ⟨h1, h2, h3⟩
theorem okS_bit {set r s : Nat} (h : okS N mv set r s = true) : set.testBit s = false := by
  unfold okS at h
  cases hb : set.testBit s with
  | false => rfl
  | true =>
    rw [hb] at h
    simp at h
def wk (N : Nat) (mv : Nat → Nat → Nat) : Nat → Nat × Nat
  | 0 => (0, 0)
  | p + 1 => ((wk N mv p).1 ||| 2 ^ fsl N mv (wk N mv p).1 (wk N mv p).2, fsl N mv (wk N mv p).1 (wk N mv p).2 + 1)
/-- whose turn it is -/
def tn (N : Nat) (mv : Nat → Nat → Nat) (p : Nat) : Nat := fsl N mv (wk N mv p).1 (wk N mv p).2
def bc (N set : Nat) : Nat := nsum (fun s => if set.testBit s then 1 else 0) N
theorem bc_or {set s : Nat} (hs : s < N) (hb : set.testBit s = false) : bc N (set ||| 2 ^ s) = bc N set + 1 := by
  have e : bc N (set ||| 2 ^ s) = nsum (nup (fun s => if set.testBit s then 1 else 0) s 1) N := nsum_congr (fun j hj => by
    unfold nup
    rw [Nat.testBit_or, Nat.testBit_two_pow]
    by_cases q : j = s
    · rw [if_pos q, q, decide_eq_true rfl, Bool.or_true]
      rfl
    · rw [if_neg q, decide_eq_false (fun z => q z.symm), Bool.or_false])
  have e2 := nsum_up (f := fun s => if set.testBit s then 1 else 0) (i := s) (x := 1) hs
  simp only [hb] at e2
  rw [e]
  unfold bc
  simpa using e2
theorem bc_full {set : Nat} (h : set + 1 = 2 ^ N) : bc N set = N := by
  have : bc N set = nsum (fun _ => 1) N := nsum_congr (fun s hs => by
    rw [show set = 2 ^ N - 1 by omega, Nat.testBit_two_pow_sub_one, decide_eq_true hs]
    rfl)
  rw [this, nsum_const, Nat.mul_one]
theorem wk_ok (hN : N ≤ 8) (hm : ∀ r s, s < N → mv r s ≤ 21) : ∀ (p : Nat), p ≤ N → (wk N mv p).1 < 2 ^ N ∧ bc N (wk N mv p).1 = p ∧ (wk N mv p).2 ≤ N
  | 0, _ => ⟨Nat.pow_pos (by decide), by
      show bc N 0 = 0
      exact nsum_zero (fun s _ => by rw [Nat.zero_testBit]; rfl), Nat.zero_le _⟩
  | p + 1, h => by
    obtain ⟨h1, h2, h3⟩ := wk_ok hN hm p (by omega)
    have hlt : (wk N mv p).1 + 1 < 2 ^ N := by
      rcases Nat.lt_or_ge ((wk N mv p).1 + 1) (2 ^ N) with q | q
      · exact q
      · have := bc_full (N := N) (set := (wk N mv p).1) (by omega)
        omega
    obtain ⟨f1, f2, f3⟩ := fsl_ok (mv := mv) (r := (wk N mv p).2) hN hm hlt
    have hb := okS_bit f2
    obtain ⟨o1, o2⟩ := or_in hN h1 f1 hb
    refine ⟨o2, ?_, f1⟩
    show bc N ((wk N mv p).1 ||| 2 ^ fsl N mv (wk N mv p).1 (wk N mv p).2) = p + 1
    rw [bc_or f1 hb, h2]
theorem wk_lt (hN : N ≤ 8) (hm : ∀ r s, s < N → mv r s ≤ 21) {p : Nat} (h : p < N) : (wk N mv p).1 + 1 < 2 ^ N := by
  obtain ⟨h1, h2, h3⟩ := wk_ok (mv := mv) hN hm p (by omega)
  rcases Nat.lt_or_ge ((wk N mv p).1 + 1) (2 ^ N) with q | q
  · exact q
  · have := bc_full (N := N) (set := (wk N mv p).1) (by omega)
    omega
theorem tn_lt (hN : N ≤ 8) (hm : ∀ r s, s < N → mv r s ≤ 21) {p : Nat} (h : p < N) : tn N mv p < N := (fsl_ok hN hm (wk_lt hN hm h)).1
/-- where the walk stands: at the start, or behind a SLOT that is in the set -/
theorem wk_row (hN : N ≤ 8) (hm : ∀ r s, s < N → mv r s ≤ 21) : ∀ {p : Nat}, p ≤ N → p = 0 ∨ ∃ s, s < N ∧ (wk N mv p).2 = s + 1 ∧ (wk N mv p).1.testBit s = true
  | 0, _ => Or.inl rfl
  | p + 1, h => by
    obtain ⟨f1, f2, f3⟩ := fsl_ok (mv := mv) (r := (wk N mv p).2) hN hm (wk_lt hN hm (show p < N by omega))
    refine Or.inr ⟨fsl N mv (wk N mv p).1 (wk N mv p).2, f1, rfl, ?_⟩
    show ((wk N mv p).1 ||| 2 ^ fsl N mv (wk N mv p).1 (wk N mv p).2).testBit (fsl N mv (wk N mv p).1 (wk N mv p).2) = true
    rw [Nat.testBit_or, Nat.testBit_two_pow, decide_eq_true rfl, Bool.or_true]
end LINE
