/-! ===== fewest: numbers of states ===== -/
def uu (w : Nat → Nat) : Nat → Nat
  | 0 => 1
  | i + 1 => uu w i * (w i + 1)
def dg (w : Nat → Nat) (s i : Nat) : Nat := s / uu w i % (w i + 1)
/-- the state behind a roll with these COUNTS -/
def bh (w : Nat → Nat) (d s c : Nat) : Nat := nsum (fun i => uu w i * (dg w s i - cn c i)) d
section FEW
variable {w : Nat → Nat}
theorem uu_pos : ∀ i, 0 < uu w i
  | 0 => Nat.one_pos
  | i + 1 => Nat.mul_pos (uu_pos i) (Nat.succ_pos _)
theorem uu_le {i j : Nat} (h : i ≤ j) : uu w i ≤ uu w j := by
  induction j with
  | zero => rw [show i = 0 by omega]; exact Nat.le_refl _
  | succ j ih =>
    rcases Nat.lt_or_ge i (j + 1) with q | q
    · exact Nat.le_trans (ih (by omega)) (Nat.le_mul_of_pos_right _ (Nat.succ_pos _))
    · rw [show i = j + 1 by omega]; exact Nat.le_refl _
theorem dg_le (s i : Nat) : dg w s i ≤ w i := Nat.le_of_lt_succ (Nat.mod_lt _ (Nat.succ_pos _))
theorem dg_mod (s : Nat) : ∀ k, nsum (fun i => uu w i * dg w s i) k = s % uu w k
  | 0 => by show 0 = s % 1; rw [Nat.mod_one]
  | k + 1 => by
    show nsum (fun i => uu w i * dg w s i) k + uu w k * dg w s k = s % (uu w k * (w k + 1))
    rw [dg_mod s k, Nat.mod_mul]
    rfl
theorem dg_sum {d s : Nat} (h : s < uu w d) : nsum (fun i => uu w i * dg w s i) d = s := by rw [dg_mod, Nat.mod_eq_of_lt h]
theorem ix_lt {v : Nat → Nat} : ∀ {k : Nat}, (∀ i, i < k → v i ≤ w i) → nsum (fun i => uu w i * v i) k < uu w k
  | 0, _ => by show 0 < 1; decide
  | k + 1, h => by
    have h1 := ix_lt (v := v) (k := k) (fun i hi => h i (by omega))
    have h2 : uu w k * v k ≤ uu w k * w k := Nat.mul_le_mul_left _ (h k (by omega))
    show nsum (fun i => uu w i * v i) k + uu w k * v k < uu w k * (w k + 1)
    rw [Nat.mul_succ]
    omega
theorem ix_dg {v : Nat → Nat} {j : Nat} : ∀ {k : Nat}, j < k → (∀ i, i < k → v i ≤ w i) → dg w (nsum (fun i => uu w i * v i) k) j = v j
  | 0, h, _ => by omega
  | k + 1, hj, h => by
    have h1 := ix_lt (w := w) (v := v) (k := k) (fun i hi => h i (by omega))
    show dg w (nsum (fun i => uu w i * v i) k + uu w k * v k) j = v j
    rcases Nat.lt_or_ge j k with q | q
    · have ih := ix_dg (v := v) (k := k) q (fun i hi => h i (by omega))
      -- uu k is a multiple of uu (j + 1)
      have dv : ∀ r, ∃ m, uu w (j + 1 + r) = uu w (j + 1) * m := by
        intro r
        induction r with
        | zero => exact ⟨1, (Nat.mul_one _).symm⟩
        | succ r ih =>
          obtain ⟨m, hm⟩ := ih
          exact ⟨m * (w (j + 1 + r) + 1), by show uu w (j + 1 + r) * _ = _; rw [hm, Nat.mul_assoc]; rfl⟩
      obtain ⟨m, hm⟩ := dv (k - (j + 1))
      rw [show j + 1 + (k - (j + 1)) = k by omega] at hm
      rw [← ih]
      unfold dg
      rw [hm, show uu w (j + 1) = uu w j * (w j + 1) from rfl, Nat.mul_assoc, Nat.mul_assoc, Nat.add_mul_div_left _ _ (uu_pos j), Nat.add_mul_mod_self_left]
    · have : j = k := by omega
      subst this
      unfold dg
      rw [Nat.add_mul_div_left _ _ (uu_pos j), Nat.div_eq_of_lt h1, Nat.zero_add, Nat.mod_eq_of_lt (by have := h j (by omega); omega)]
theorem nsum_lt {f g : Nat → Nat} : ∀ {d : Nat}, (∀ i, i < d → f i ≤ g i) → nsum f d = nsum g d → ∀ i, i < d → f i = g i
  | 0, _, _, i, hi => by omega
  | d + 1, h, e, i, hi => by
    have h1 : nsum f d ≤ nsum g d := nsum_le (fun i hi => h i (by omega))
    have h2 := h d (by omega)
    have e' : nsum f d + f d = nsum g d + g d := e
    rcases Nat.lt_or_ge i d with q | q
    · exact nsum_lt (fun i hi => h i (by omega)) (by omega) i q
    · rw [show i = d by omega]; omega
variable {d : Nat}
theorem bh_dg {s c j : Nat} (hj : j < d) : dg w (bh w d s c) j = dg w s j - cn c j := ix_dg (v := fun i => dg w s i - cn c i) hj (fun i _ => Nat.le_trans (Nat.sub_le _ _) (dg_le s i))
theorem bh_le {s c : Nat} (h : s < uu w d) : bh w d s c ≤ s := by
  have e := dg_sum h
  have : bh w d s c ≤ nsum (fun i => uu w i * dg w s i) d := nsum_le (fun i _ => Nat.mul_le_mul_left _ (Nat.sub_le _ _))
  omega
theorem bh_lt {s c : Nat} : bh w d s c < uu w d := ix_lt (fun i _ => Nat.le_trans (Nat.sub_le _ _) (dg_le s i))
theorem dg_ext {s t : Nat} (hs : s < uu w d) (ht : t < uu w d) (h : ∀ i, i < d → dg w s i = dg w t i) : s = t := by
  rw [← dg_sum hs, ← dg_sum ht]
  exact nsum_congr (fun i hi => by rw [h i hi])
theorem dg_mono {s t : Nat} (hs : s < uu w d) (ht : t < uu w d) (h : ∀ i, i < d → dg w s i ≤ dg w t i) : s ≤ t := by
  rw [← dg_sum hs, ← dg_sum ht]
  exact nsum_le (fun i hi => Nat.mul_le_mul_left _ (h i hi))
theorem dg_0 (i : Nat) : dg w 0 i = 0 := by unfold dg; rw [Nat.zero_div, Nat.zero_mod]
theorem dg_ne {s : Nat} (hs : s < uu w d) (h : 0 < s) : ∃ i, i < d ∧ 0 < dg w s i := Classical.byContradiction (fun q => by
  have : s = 0 := dg_ext hs (uu_pos d) (fun i hi => by
    rw [dg_0]
    exact Classical.byContradiction (fun z => q ⟨i, hi, by omega⟩))
  omega)
theorem bh_comm {s a b : Nat} : bh w d (bh w d s a) b = bh w d (bh w d s b) a := nsum_congr (fun i hi => by rw [bh_dg hi, bh_dg hi]; congr 1; omega)
/-- one piece less -/
theorem bh_one {s c i : Nat} (hs : s < uu w d) (hi : i < d) (hd : 0 < dg w s i) (hc : ∀ j, j < d → cn c j = if j = i then 1 else 0) : bh w d s c + uu w i = s := by
  have e := dg_sum hs
  have e2 : bh w d s c = nsum (nup (fun j => uu w j * dg w s j) i (uu w i * (dg w s i - 1))) d := nsum_congr (fun j hj => by
    unfold nup
    rw [hc j hj]
    by_cases q : j = i
    · rw [if_pos q, if_pos q, q]
    · rw [if_neg q, if_neg q, Nat.sub_zero])
  have e3 := nsum_up (f := fun j => uu w j * dg w s j) (x := uu w i * (dg w s i - 1)) hi
  rw [← e2, e] at e3
  have e4 : uu w i * dg w s i = uu w i * (dg w s i - 1) + uu w i := by
    obtain ⟨k, hk⟩ : ∃ k, dg w s i = k + 1 := ⟨dg w s i - 1, by omega⟩
    rw [hk, Nat.add_sub_cancel, Nat.mul_succ]
  omega
theorem one_dg {s i : Nat} (hs : s < uu w d) (hi : i < d) (hd : 0 < dg w s i) {j : Nat} (hj : j < d) : dg w (s - uu w i) j = if j = i then dg w s i - 1 else dg w s j := by
  have e : s - uu w i = nsum (fun j => uu w j * (if j = i then dg w s i - 1 else dg w s j)) d := by
    have e0 := dg_sum hs
    have e2 : nsum (fun j => uu w j * (if j = i then dg w s i - 1 else dg w s j)) d = nsum (nup (fun j => uu w j * dg w s j) i (uu w i * (dg w s i - 1))) d := nsum_congr (fun j hj => by
      unfold nup
      by_cases q : j = i
      · rw [if_pos q, if_pos q, q]
      · rw [if_neg q, if_neg q])
    have e3 := nsum_up (f := fun j => uu w j * dg w s j) (x := uu w i * (dg w s i - 1)) hi
    rw [← e2, e0] at e3
    have e4 : uu w i * dg w s i = uu w i * (dg w s i - 1) + uu w i := by
      obtain ⟨k, hk⟩ : ∃ k, dg w s i = k + 1 := ⟨dg w s i - 1, by omega⟩
      rw [hk, Nat.add_sub_cancel, Nat.mul_succ]
    omega
  rw [e]
  exact ix_dg hj (fun k hk => by
    by_cases q : k = i
    · rw [if_pos q, q]; exact Nat.le_trans (Nat.sub_le _ _) (dg_le s i)
    · rw [if_neg q]; exact dg_le s k)
/-! the reference's least rolls -/
variable (w d) in
def mnk (P : Nat → Nat) (A : Nat → Nat) (s : Nat) : Nat → Nat
  | 0 => 1000
  | k + 1 => if bh w d s (P k) < s then min (mnk P A s k) (A (bh w d s (P k)) + 1) else mnk P A s k
variable (w d) in
def tab (P : Nat → Nat) (m : Nat) : Nat → Nat → Nat
  | 0 => fun _ => 0
  | s + 1 => nup (tab P m s) s (if s = 0 then 0 else mnk w d P (tab P m s) s m)
variable (w d) in
def nd (P : Nat → Nat) (m s : Nat) : Nat := tab w d P m (s + 1) s
variable {P : Nat → Nat} {m : Nat}
theorem tab_nd {t : Nat} : ∀ {s : Nat}, t < s → tab w d P m s t = nd w d P m t
  | 0, h => by omega
  | s + 1, h => by
    rcases Nat.lt_or_ge t s with q | q
    · show nup (tab w d P m s) s _ t = _
      unfold nup
      rw [if_neg (by omega)]
      exact tab_nd q
    · have : t = s := by omega
      subst this
      rfl
theorem mnk_congr {A B : Nat → Nat} {s : Nat} (h : ∀ t, t < s → A t = B t) : ∀ k, mnk w d P A s k = mnk w d P B s k
  | 0 => rfl
  | k + 1 => by
    rw [mnk, mnk, mnk_congr h k]
    by_cases q : bh w d s (P k) < s
    · rw [if_pos q, if_pos q, h _ q]
    · rw [if_neg q, if_neg q]
theorem nd_0 : nd w d P m 0 = 0 := by
  show nup (tab w d P m 0) 0 (if 0 = 0 then 0 else mnk w d P (tab w d P m 0) 0 m) 0 = 0
  rw [if_pos rfl]
  unfold nup
  rw [if_pos rfl]
theorem nd_val {s : Nat} (h : 0 < s) : nd w d P m s = mnk w d P (nd w d P m) s m := by
  show nup (tab w d P m s) s _ s = _
  unfold nup
  rw [if_pos rfl, if_neg (by omega)]
  exact mnk_congr (fun t ht => tab_nd ht) m
theorem mnk_le {A : Nat → Nat} {s k : Nat} : ∀ {r : Nat}, k < r → bh w d s (P k) < s → mnk w d P A s r ≤ A (bh w d s (P k)) + 1
  | 0, h, _ => by omega
  | r + 1, h, hb => by
    rw [mnk]
    rcases Nat.lt_or_ge k r with q | q
    · have := mnk_le (A := A) q hb
      split <;> omega
    · have : k = r := by omega
      subst this
      rw [if_pos hb]
      omega
theorem mnk_ex {A : Nat → Nat} {s : Nat} : ∀ (r : Nat), mnk w d P A s r = 1000 ∨ ∃ k, k < r ∧ bh w d s (P k) < s ∧ mnk w d P A s r = A (bh w d s (P k)) + 1
  | 0 => Or.inl rfl
  | r + 1 => by
    rw [mnk]
    have ih := mnk_ex (A := A) (s := s) r
    by_cases q : bh w d s (P r) < s
    · rw [if_pos q]
      rcases Nat.le_total (mnk w d P A s r) (A (bh w d s (P r)) + 1) with z | z
      · rw [Nat.min_eq_left z]
        rcases ih with h | ⟨k, h1, h2, h3⟩
        · exact Or.inl h
        · exact Or.inr ⟨k, by omega, h2, h3⟩
      · rw [Nat.min_eq_right z]
        exact Or.inr ⟨r, by omega, q, rfl⟩
    · rw [if_neg q]
      rcases ih with h | ⟨k, h1, h2, h3⟩
      · exact Or.inl h
      · exact Or.inr ⟨k, by omega, h2, h3⟩
theorem mnk_top {A : Nat → Nat} {s : Nat} : ∀ (r : Nat), mnk w d P A s r ≤ 1000
  | 0 => Nat.le_refl _
  | r + 1 => by
    rw [mnk]
    have := mnk_top (A := A) (s := s) r
    split <;> omega
theorem nd_le {s k : Nat} (h : k < m) (hb : bh w d s (P k) < s) : nd w d P m s ≤ nd w d P m (bh w d s (P k)) + 1 := by
  rw [nd_val (by omega)]
  exact mnk_le h hb
theorem nd_le' {s k : Nat} (hs : s < uu w d) (h : k < m) : nd w d P m s ≤ nd w d P m (bh w d s (P k)) + 1 := by
  rcases Nat.lt_or_ge (bh w d s (P k)) s with q | q
  · exact nd_le h q
  · have : bh w d s (P k) = s := Nat.le_antisymm (bh_le hs) q
    rw [this]
    omega
theorem nd_ex {s : Nat} (h : 0 < s) : nd w d P m s = 1000 ∨ ∃ k, k < m ∧ bh w d s (P k) < s ∧ nd w d P m s = nd w d P m (bh w d s (P k)) + 1 := by
  rw [nd_val h]
  exact mnk_ex m
theorem nd_top (s : Nat) : nd w d P m s ≤ 1000 := by
  rcases Nat.eq_zero_or_pos s with q | q
  · rw [q, nd_0]; omega
  · rw [nd_val q]; exact mnk_top m
theorem nd_mono : ∀ (t s : Nat), s < uu w d → t < uu w d → (∀ i, i < d → dg w s i ≤ dg w t i) → nd w d P m s ≤ nd w d P m t := by
  intro t
  induction t using Nat.strongRecOn with
  | ind t ih =>
    intro s hs ht h
    rcases Nat.eq_zero_or_pos t with q | q
    · have : s = 0 := by have := dg_mono hs ht h; omega
      rw [this, q]
      exact Nat.le_refl _
    · rcases nd_ex (w := w) (d := d) (P := P) (m := m) q with e | ⟨k, h1, h2, h3⟩
      · rw [e]; exact nd_top s
      · have hb : ∀ i, i < d → dg w (bh w d s (P k)) i ≤ dg w (bh w d t (P k)) i := fun i hi => by
          rw [bh_dg hi, bh_dg hi]
          have := h i hi
          omega
        have := ih _ h2 (bh w d s (P k)) bh_lt bh_lt hb
        have := nd_le' (P := P) (m := m) hs h1
        omega
def dsum (w : Nat → Nat) (d s : Nat) : Nat := nsum (dg w s) d
variable (w d P m) in
/-- each WIDTH that is WANTED is a PATTERN alone -/
def ONE : Prop := ∀ i, i < d → 0 < w i → ∃ k, k < m ∧ ∀ j, j < d → cn (P k) j = if j = i then 1 else 0
theorem nd_one (h1 : ONE w d P m) {s i : Nat} (hs : s < uu w d) (hi : i < d) (hd : 0 < dg w s i) : nd w d P m s ≤ nd w d P m (s - uu w i) + 1 := by
  have hw : 0 < w i := Nat.lt_of_lt_of_le hd (dg_le s i)
  obtain ⟨k, hk, hc⟩ := h1 i hi hw
  have e := bh_one hs hi hd hc
  have hu := uu_pos (w := w) i
  have := nd_le (w := w) (d := d) (P := P) (m := m) (s := s) hk (by omega)
  rw [show bh w d s (P k) = s - uu w i by omega] at this
  exact this
theorem nd_dsum (h1 : ONE w d P m) : ∀ (s : Nat), s < uu w d → nd w d P m s ≤ dsum w d s := by
  intro s
  induction s using Nat.strongRecOn with
  | ind s ih =>
    intro hs
    rcases Nat.eq_zero_or_pos s with q | q
    · rw [q, nd_0]; omega
    · obtain ⟨i, hi, hd⟩ := dg_ne hs q
      have a := nd_one h1 hs hi hd
      have hu := uu_pos (w := w) i
      have hle : uu w i ≤ s := by
        have e := dg_sum hs
        have := nsum_ge (f := fun i => uu w i * dg w s i) hi
        have h2 : uu w i * 1 ≤ uu w i * dg w s i := Nat.mul_le_mul_left _ hd
        omega
      have b := ih (s - uu w i) (by omega) (by omega)
      have e : dsum w d (s - uu w i) = nsum (nup (dg w s) i (dg w s i - 1)) d := nsum_congr (fun j hj => by rw [one_dg hs hi hd hj]; rfl)
      have e2 := nsum_up (f := dg w s) (x := dg w s i - 1) hi
      have e3 : dsum w d s = nsum (dg w s) d := rfl
      omega
theorem nd_pos (h1 : ONE w d P m) {s : Nat} (hs : s < uu w d) (h : 0 < s) (hb : dsum w d s < 1000) : ∃ k, k < m ∧ bh w d s (P k) < s ∧ nd w d P m s = nd w d P m (bh w d s (P k)) + 1 := by
  rcases nd_ex (w := w) (d := d) (P := P) (m := m) h with e | e
  · have := nd_dsum h1 s hs
    omega
  · exact e
/-! the class's way -/
variable (w d P m) in
def rls (s : Nat) : Nat → Nat
  | 0 => 0
  | i + 1 => if 0 < dg w s i then max (rls s i) (nd w d P m (s - uu w i)) else rls s i
theorem rls_ge {s i : Nat} (hi : 0 < dg w s i) : ∀ {k : Nat}, i < k → nd w d P m (s - uu w i) ≤ rls w d P m s k
  | 0, h => by omega
  | k + 1, h => by
    rw [rls]
    rcases Nat.lt_or_ge i k with q | q
    · have := rls_ge hi q
      split <;> omega
    · have : i = k := by omega
      subst this
      rw [if_pos hi]
      omega
theorem rls_le {s : Nat} (hs : s < uu w d) : ∀ {k : Nat}, k ≤ d → rls w d P m s k ≤ nd w d P m s
  | 0, _ => Nat.zero_le _
  | k + 1, h => by
    rw [rls]
    have a := rls_le hs (k := k) (by omega)
    by_cases q : 0 < dg w s k
    · rw [if_pos q]
      have hle : s - uu w k < uu w d := by omega
      have b := nd_mono (P := P) (m := m) s (s - uu w k) hle hs (fun i hi => by
        rw [one_dg hs (by omega) q hi]
        by_cases z : i = k
        · rw [if_pos z, z]; omega
        · rw [if_neg z]; exact Nat.le_refl _)
      omega
    · rw [if_neg q]; exact a
theorem few_val (h1 : ONE w d P m) {s : Nat} (hs : s < uu w d) (h : 0 < s) (hb : dsum w d s < 1000) {F : Nat → Prop} (hf : ∀ k, k < m → ∃ k', k' < m ∧ F k' ∧ ∀ i, i < d → min (cn (P k) i) (w i) ≤ cn (P k') i) : ((∃ k, k < m ∧ F k ∧ nd w d P m (bh w d s (P k)) < rls w d P m s d) → nd w d P m s = rls w d P m s d) ∧ (¬ (∃ k, k < m ∧ F k ∧ nd w d P m (bh w d s (P k)) < rls w d P m s d) → nd w d P m s = rls w d P m s d + 1) := by
  have a1 := rls_le (P := P) (m := m) hs (Nat.le_refl d)
  obtain ⟨i, hi, hd⟩ := dg_ne hs h
  have a2 := nd_one h1 hs hi hd
  have a3 := rls_ge (w := w) (d := d) (P := P) (m := m) hd hi
  refine ⟨fun q => ?_, fun q => ?_⟩
  · obtain ⟨k, k1, k2, k3⟩ := q
    have := nd_le' (P := P) (m := m) hs k1
    omega
  · have : ¬ nd w d P m s = rls w d P m s d := by
      intro e
      obtain ⟨k, k1, k2, k3⟩ := nd_pos h1 hs h hb
      obtain ⟨k', j1, j2, j3⟩ := hf k k1
      refine q ⟨k', j1, j2, ?_⟩
      have := nd_mono (P := P) (m := m) (bh w d s (P k)) (bh w d s (P k')) bh_lt bh_lt (fun i hi => by
        rw [bh_dg hi, bh_dg hi]
        have z1 := j3 i hi
        have z2 := dg_le (w := w) s i
        omega)
      omega
    omega
/-- the first PATTERN of the next roll doesn't come before that of this one -/
theorem few_next {s k j : Nat} (hs : s < uu w d) (hk : k < m) (hk2 : nd w d P m (bh w d s (P k)) + 1 = nd w d P m s) (hj : nd w d P m s ≤ nd w d P m (bh w d s (P j))) : nd w d P m (bh w d s (P k)) ≤ nd w d P m (bh w d (bh w d s (P k)) (P j)) := by
  rw [bh_comm]
  have := nd_le' (w := w) (d := d) (P := P) (m := m) (s := bh w d s (P j)) bh_lt hk
  omega
end FEW
