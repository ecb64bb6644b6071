/-! ===== pure rows: numbers, frames, loops ===== -/
theorem ck_nI {α : Type} {j n : Nat} {x : Option α} (h : j < n) (hn : n < 2 ^ 31) : ck (nI j) n x = x := by
  unfold ck
  rw [if_pos ⟨nI_pos (by omega), by rw [nI_clamp (by omega)]; exact h⟩]
theorem ak_row {α : Type} {q : Nat} {x : Option α} (h1 : 67 ≤ q) (h2 : q < 3503) : ak q x = x := by
  unfold ak
  rw [if_pos (Or.inr ⟨h1, h2⟩)]
theorem al_6 {q : Nat} (h : q < 3247) : al q = 6 := if_pos h
theorem al_9 {q : Nat} (h : ¬ q < 3247) : al q = 9 := if_neg h
theorem i_nlt {x y : Int32} : ¬ x < y ↔ y ≤ x := Int32.not_lt
theorem i_nle {x y : Int32} : ¬ x ≤ y ↔ y < x := Int32.not_le
theorem i_le_int {x y : Int32} : x ≤ y ↔ x.toInt ≤ y.toInt := Int32.le_iff_toInt_le
theorem i_lt_int {x y : Int32} : x < y ↔ x.toInt < y.toInt := Int32.lt_iff_toInt_lt
theorem nI_lit (k : Nat) : nI k = Int32.ofNat k := rfl
/-- one of the script's ints against a length -/
theorem ix_cases (x : Int32) {L : Int32} {n : Nat} (hL : L = nI n) (hn : n < 2 ^ 31) : x < 0 ∨ (¬ x < 0 ∧ L ≤ x) ∨ ∃ j : Nat, j < n ∧ x = nI j := by
  rcases pk_ix x hn with h | h | h
  · exact Or.inl h
  · by_cases h0 : x < 0
    · exact Or.inl h0
    · exact Or.inr (Or.inl ⟨h0, by rw [hL]; exact h⟩)
  · exact Or.inr (Or.inr h)
/-- between two numbers -/
theorem rg_cases (x : Int32) (a b : Nat) (ha : a < 2 ^ 31) (hb : b < 2 ^ 31) : x < nI a ∨ nI b < x ∨ ∃ j : Nat, a ≤ j ∧ j ≤ b ∧ x = nI j := by
  by_cases h1 : x < nI a
  · exact Or.inl h1
  · by_cases h2 : nI b < x
    · exact Or.inr (Or.inl h2)
    · rw [i_nlt] at h1 h2
      have h0 : ¬ x < 0 := by
        rw [i_lt_int]
        rw [i_le_int, nI_toInt (by omega)] at h1
        show ¬ x.toInt < 0
        omega
      obtain ⟨j, hj, rfl⟩ := nI_of h0
      rw [nI_leI (by omega) hj] at h1
      rw [nI_leI hj hb] at h2
      exact Or.inr (Or.inr ⟨j, h1, h2, rfl⟩)
/-! frames: which ints and arrays may have changed, and rows between two numbers -/
def FR (is as : List Nat) (lo hi : Nat) (T T' : TS) : Prop := (∀ k, k ∉ is → gI T' k = gI T k) ∧ (∀ k, k ∉ as → ¬ (lo ≤ k ∧ k < hi) → gA T' k = gA T k) ∧ T'.2.1 = T.2.1 ∧ T'.2.2.2 = T.2.2.2
theorem FR.rf {is as : List Nat} {lo hi : Nat} {T : TS} : FR is as lo hi T T := ⟨fun _ _ => rfl, fun _ _ _ => rfl, rfl, rfl⟩
theorem FR.trans {is as : List Nat} {lo hi : Nat} {T T1 T2 : TS} (h : FR is as lo hi T T1) (g : FR is as lo hi T1 T2) : FR is as lo hi T T2 :=
  ⟨fun k hk => (g.1 k hk).trans (h.1 k hk), fun k hk hr => (g.2.1 k hk hr).trans (h.2.1 k hk hr), g.2.2.1.trans h.2.2.1, g.2.2.2.trans h.2.2.2⟩
theorem FR.mono {is as is' as' : List Nat} {lo hi lo' hi' : Nat} {T T1 : TS} (h : FR is as lo hi T T1) (hi1 : ∀ k ∈ is, k ∈ is') (ha : ∀ k ∈ as, k ∈ as') (hr : lo < hi → lo' ≤ lo ∧ hi ≤ hi') : FR is' as' lo' hi' T T1 :=
  ⟨fun k hk => h.1 k (fun q => hk (hi1 k q)), fun k hk hr2 => h.2.1 k (fun q => hk (ha k q)) (fun q => hr2 (by have := hr (by omega); omega)), h.2.2.1, h.2.2.2⟩
theorem FR.uI {is as : List Nat} {lo hi k : Nat} {T : TS} {v : Int32} (hk : k ∈ is) : FR is as lo hi T (uI T k v) :=
  ⟨fun j hj => by
    show va_up T.1 k v j = T.1 j
    unfold va_up
    exact if_neg (fun e : j = k => hj (by rw [e]; exact hk)), fun _ _ _ => rfl, rfl, rfl⟩
theorem FR.uA {is as : List Nat} {lo hi k : Nat} {T : TS} {f : Nat → Int32} (hk : k ∈ as ∨ (lo ≤ k ∧ k < hi)) : FR is as lo hi T (uA T k f) :=
  ⟨fun _ _ => rfl, fun j hj hr => by
    show va_up T.2.2.1 k f j = T.2.2.1 j
    unfold va_up
    exact if_neg (fun e : j = k => hk.elim (fun h => hj (by rw [e]; exact h)) (fun h => hr (by rw [e]; exact h))), rfl, rfl⟩
theorem FR.sA {is as : List Nat} {lo hi k : Nat} {T : TS} {i x : Int32} (hk : k ∈ as ∨ (lo ≤ k ∧ k < hi)) : FR is as lo hi T (sA T k i x) := FR.uA hk
theorem FR.I {is as : List Nat} {lo hi : Nat} {T T' : TS} (h : FR is as lo hi T T') {k : Nat} (hk : k ∉ is) : gI T' k = gI T k := h.1 k hk
theorem FR.A {is as : List Nat} {lo hi : Nat} {T T' : TS} (h : FR is as lo hi T T') {k : Nat} (hk : k ∉ as) (hr : ¬ (lo ≤ k ∧ k < hi)) : gA T' k = gA T k := h.2.1 k hk hr
theorem FR.O {is as : List Nat} {lo hi : Nat} {T T' : TS} (h : FR is as lo hi T T') (k : Nat) : gO T' k = gO T k := by
  show T'.2.2.2.2 k = T.2.2.2.2 k
  rw [h.2.2.2]
theorem FR.J {is as : List Nat} {lo hi : Nat} {T T' : TS} (h : FR is as lo hi T T') (k : Nat) : gJ T' k = gJ T k := by
  show T'.2.1 k = T.2.1 k
  rw [h.2.2.1]
theorem FR.L {is as : List Nat} {lo hi : Nat} {T T' : TS} (h : FR is as lo hi T T') (k : Nat) : gL T' k = gL T k := by
  show T'.2.2.2.1 k = T.2.2.2.1 k
  rw [h.2.2.2]
theorem gA_uA (T : TS) (k : Nat) (f : Nat → Int32) : gA (uA T k f) k = f := by
  show va_up T.2.2.1 k f k = f
  unfold va_up
  rw [if_pos rfl]
theorem gI_uI (T : TS) (k : Nat) (v : Int32) : gI (uI T k v) k = v := by
  show va_up T.1 k v k = v
  unfold va_up
  rw [if_pos rfl]
theorem gA_sA {T : TS} {k : Nat} {i x : Int32} : gA (sA T k i x) k = upd (gA T k) i.toNatClampNeg x := gA_uA T k _
theorem gA_sA_at {T : TS} {k j : Nat} {x : Int32} (hj : j < 2 ^ 31) (i : Nat) : gA (sA T k (nI j) x) k i = if i = j then x else gA T k i := by
  rw [gA_sA, nI_clamp hj]
  rfl
/-! loops -/
theorem lpn {σ ρ : Type} (L : Nat → σ → ρ) (s : Nat → σ) (m : Nat) (R : ρ) (hs : ∀ j, j < m → ∀ f, L (f + 1) (s j) = L f (s (j + 1))) (he : ∀ f, L (f + 1) (s m) = R) : ∀ f, m < f → L f (s 0) = R := by
  have H : ∀ d j, j + d = m → ∀ f, d < f → L f (s j) = R := by
    intro d
    induction d with
    | zero =>
      intro j hj f hf
      obtain ⟨g, rfl⟩ : ∃ g, f = g + 1 := ⟨f - 1, by omega⟩
      have : j = m := by omega
      subst this
      exact he g
    | succ d ih =>
      intro j hj f hf
      obtain ⟨g, rfl⟩ : ∃ g, f = g + 1 := ⟨f - 1, by omega⟩
      rw [hs j (by omega) g]
      exact ih (j + 1) (by omega) g (by omega)
  exact fun f hf => H m 0 (by omega) f hf
theorem lpi {σ ρ : Type} (L : Nat → σ → ρ) (P : Nat → σ → Prop) (m : Nat) (Q : ρ → Prop) (hs : ∀ j s, j < m → P j s → ∃ s', P (j + 1) s' ∧ ∀ f, L (f + 1) s = L f s') (he : ∀ s, P m s → ∀ f, Q (L (f + 1) s)) : ∀ f s, m < f → P 0 s → Q (L f s) := by
  have H : ∀ d j, j + d = m → ∀ f s, d < f → P j s → Q (L f s) := by
    intro d
    induction d with
    | zero =>
      intro j hj f s hf hP
      obtain ⟨g, rfl⟩ : ∃ g, f = g + 1 := ⟨f - 1, by omega⟩
      have : j = m := by omega
      subst this
      exact he s hP g
    | succ d ih =>
      intro j hj f s hf hP
      obtain ⟨g, rfl⟩ : ∃ g, f = g + 1 := ⟨f - 1, by omega⟩
      obtain ⟨s', h1, h2⟩ := hs j s (by omega) hP
      rw [h2 g]
      exact ih (j + 1) (by omega) g s' (by omega) h1
  exact fun f s hf hP => H m 0 (by omega) f s hf hP
theorem bx_congr {f g : Nat → Int32} : ∀ {n : Nat}, (∀ i, i < n → f i = g i) → bx_sum f n = bx_sum g n
  | 0, _ => rfl
  | n + 1, h => by
    show bx_sum f n + f n = bx_sum g n + g n
    rw [bx_congr (fun i hi => h i (by omega)), h n (by omega)]
def b01 (b : Bool) : Int32 := if b then 1 else 0
theorem w_in {n : Nat} {x a b : Int32} {T : TS} : fX10_within n x a b T = some (b01 (decide (a ≤ x) && decide (x ≤ b)), T) := by
  unfold fX10_within
  by_cases h1 : x < a
  · rw [if_pos h1]
    have : ¬ a ≤ x := fun q => i_nlt.mpr q h1
    simp [rz, b01, this]
  · rw [if_neg h1]
    have h1' : a ≤ x := i_nlt.mp h1
    by_cases h2 : b < x
    · rw [if_pos h2]
      have : ¬ x ≤ b := fun q => i_nlt.mpr q h2
      simp [rz, b01, this]
    · rw [if_neg h2]
      have h2' : x ≤ b := i_nlt.mp h2
      simp [rz, b01, h1', h2']
theorem m_in {n : Nat} {x a b : Int32} {T : TS} : fX11_in n x a b T = some (b01 (decide (a ≤ x) && decide (x ≤ b)), T) := w_in (n := n)
theorem b01_0 {b : Bool} : b01 b = 0 ↔ b = false := by cases b <;> decide
theorem rz0 (T : TS) : rz 0 T = some (0, T) := rfl
theorem rz1 (T : TS) : rz 1 T = some (1, T) := rfl
theorem rzb (b : Bool) (T : TS) : rz (b01 b) T = some (b01 b, T) := by cases b <;> rfl
