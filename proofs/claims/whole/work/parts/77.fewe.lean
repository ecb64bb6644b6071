/-! ===== fewest: one state after the other ===== -/
section ODO
variable {w : Nat → Nat}
theorem uu_full {g : Nat → Nat} : ∀ {i : Nat}, (∀ j, j < i → g j = w j) → nsum (fun j => uu w j * g j) i + 1 = uu w i
  | 0, _ => rfl
  | i + 1, h => by
    have ih := uu_full (g := g) (i := i) (fun j hj => h j (by omega))
    show nsum (fun j => uu w j * g j) i + uu w i * g i + 1 = uu w i * (w i + 1)
    rw [h i (by omega), Nat.mul_succ]
    omega
theorem odo_sum {s i : Nat} (h1 : ∀ j, j < i → dg w s j = w j) : ∀ {d : Nat}, i < d → nsum (fun j => uu w j * (if j < i then 0 else if j = i then dg w s i + 1 else dg w s j)) d = nsum (fun j => uu w j * dg w s j) d + 1
  | 0, h => by omega
  | d + 1, h => by
    rcases Nat.lt_or_ge i d with q | q
    · have ih := odo_sum h1 (d := d) q
      show nsum (fun j => uu w j * (if j < i then 0 else if j = i then dg w s i + 1 else dg w s j)) d + uu w d * (if d < i then 0 else if d = i then dg w s i + 1 else dg w s d) = nsum (fun j => uu w j * dg w s j) d + uu w d * dg w s d + 1
      rw [ih, if_neg (by omega), if_neg (by omega)]
      omega
    · have e : d = i := by omega
      subst e
      have e1 := uu_full (g := dg w s) h1
      have e2 : nsum (fun j => uu w j * (if j < d then 0 else if j = d then dg w s d + 1 else dg w s j)) d = 0 := nsum_zero (fun j hj => by rw [if_pos hj]; rfl)
      show nsum (fun j => uu w j * (if j < d then 0 else if j = d then dg w s d + 1 else dg w s j)) d + uu w d * (if d < d then 0 else if d = d then dg w s d + 1 else dg w s d) = nsum (fun j => uu w j * dg w s j) d + uu w d * dg w s d + 1
      rw [e2, if_neg (Nat.lt_irrefl d), if_pos rfl, Nat.mul_succ]
      omega
theorem odo {d s i j : Nat} (hs : s < uu w d) (hi : i < d) (h1 : ∀ j, j < i → dg w s j = w j) (h2 : dg w s i < w i) (hj : j < d) : dg w (s + 1) j = if j < i then 0 else if j = i then dg w s i + 1 else dg w s j := by
  have e := odo_sum h1 hi
  rw [dg_sum hs] at e
  rw [← e]
  refine ix_dg (v := fun j => if j < i then 0 else if j = i then dg w s i + 1 else dg w s j) hj (fun k hk => ?_)
  show (if k < i then 0 else if k = i then dg w s i + 1 else dg w s k) ≤ w k
  split
  · omega
  · split
    · rename_i z
      rw [z]
      omega
    · exact dg_le s k
end ODO
theorem more_eq {n s : Nat} {T U : TS} (hn : 100 ≤ n) (hM : GM T) (h : SC T U) (hw : ∀ i, i < vd T → wa T i ≤ 40) (hs : s + 1 < uu (wa T) (vd T)) (h33 : ∀ i, i < vd T → gA U 33 i = nI (dg (wa T) s i)) : ∃ V, fX7_openOneMore n U = some V ∧ FR [] [33] 0 0 U V ∧ ∀ i, i < vd T → gA V 33 i = nI (dg (wa T) (s + 1) i) := by
  obtain ⟨d1, d2, d6⟩ := hM.d
  unfold fX7_openOneMore
  have key : ∀ r j W f, j + r = vd T → r < f → (∀ i, i < j → dg (wa T) s i = wa T i) → FR [] [33] 0 0 U W → (∀ i, i < vd T → gA W 33 i = nI (if i < j then 0 else dg (wa T) s i)) → ∃ V, fX7_openOneMore_L2 n (fun T_3 => some T_3) f (nI j) W = some V ∧ FR [] [33] 0 0 U V ∧ ∀ i, i < vd T → gA V 33 i = nI (dg (wa T) (s + 1) i) := by
    intro r
    induction r with
    | zero =>
      intro j W f hj hf hall fW gW
      have e := uu_full (w := wa T) (g := dg (wa T) s) (i := vd T) (fun i hi => hall i (by omega))
      rw [dg_sum (show s < uu (wa T) (vd T) by omega)] at e
      omega
    | succ r ih =>
      intro j W f hj hf hall fW gW
      obtain ⟨g, rfl⟩ : ∃ g, f = g + 1 := ⟨f - 1, by omega⟩
      have hjd : j < vd T := by omega
      have l1 := hw j hjd
      have l2 := dg_le (w := wa T) s j
      have kc : (nI j).toNatClampNeg = j := nI_clamp (by omega)
      have gj : gA W 33 j = nI (dg (wa T) s j) := by rw [gW j hjd, if_neg (Nat.lt_irrefl j)]
      have k6 : ∀ {z : Option TS}, ck (nI j) 6 z = z := ck_nI (by omega) (by decide)
      rw [fX7_openOneMore_L2, fW.I (k := 55) (by decide), h.1.I (k := 55) (by decide), d1, if_neg (nI_ge hjd (by omega)), k6, k6, kc, fW.A (k := 31) (by decide) (by decide), (h.2.1 j hjd).1, gj]
      simp only [nm]
      rw [k6, k6]
      by_cases q : wa T j ≤ dg (wa T) s j
      · rw [if_pos (nI_le q (by omega)), nI_1]
        refine ih (j + 1) _ g (by omega) (by omega) (fun i hi => ?_) (fW.trans (FR.sA (Or.inl (by decide)))) (fun i hi => ?_)
        · by_cases z : i = j
          · rw [z]; omega
          · exact hall i (by omega)
        · rw [gA_sA_at (by omega)]
          by_cases z : i = j
          · rw [if_pos z, if_pos (by omega)]
            rfl
          · rw [if_neg z, gW i hi]
            by_cases z2 : i < j
            · rw [if_pos z2, if_pos (by omega)]
            · rw [if_neg z2, if_neg (by omega)]
      · rw [if_neg (nI_ge (by omega) (by omega)), k6, nI_1]
        refine ⟨_, rfl, fW.trans (FR.sA (Or.inl (by decide))), fun i hi => ?_⟩
        rw [odo (by omega) hjd hall (by omega) hi, gA_sA_at (by omega), gW i hi]
        by_cases z : i = j
        · rw [if_pos z, if_neg (by omega), if_pos z]
        · rw [if_neg z]
          by_cases z2 : i < j
          · rw [if_pos z2, if_pos z2]
          · rw [if_neg z2, if_neg z2, if_neg z]
  exact key (vd T) 0 U n (by omega) (by omega) (fun i hi => by omega) FR.rf (fun i hi => by rw [if_neg (Nat.not_lt_zero i)]; exact h33 i hi)
abbrev ndT (T : TS) : Nat → Nat := nd (wa T) (vd T) (PK T) (psT T).length
abbrev bhT (T : TS) (s k : Nat) : Nat := bh (wa T) (vd T) s (PK T k)
/-- every WIDTH that is WANTED has room -/
theorem one_T {c : Nat} {T : TS} (hM : GM T) (htw : ∀ i, i < vd T → ¬ TW T i) : ONE (wa T) (vd T) (PK T) (psT T).length := by
  intro i hi hw
  have hb := hM.2.2.1
  have hv : nsum (fun j => if j = i then 1 else 0) (vd T) = 1 := by
    have := nsum_up (f := fun _ => 0) (i := i) (x := 1) hi
    rw [nsum_zero (f := fun _ => 0) (fun _ _ => rfl)] at this
    exact this
  have hv2 : nsum (fun j => (if j = i then 1 else 0) * vm T j) (vd T) = vm T i := by
    have e : nsum (fun j => (if j = i then 1 else 0) * vm T j) (vd T) = nsum (nup (fun _ => 0) i (vm T i)) (vd T) := nsum_congr (fun j _ => by
      unfold nup
      by_cases q : j = i
      · rw [if_pos q, if_pos q, q, Nat.one_mul]
      · rw [if_neg q, if_neg q, Nat.zero_mul])
    have := nsum_up (f := fun _ => 0) (i := i) (x := vm T i) hi
    rw [nsum_zero (f := fun _ => 0) (fun _ _ => rfl)] at this
    omega
  have hfit : vm T i ≤ rm T := Classical.byContradiction (fun q => htw i hi ⟨hw, by omega⟩)
  obtain ⟨k, hk, hc⟩ := ps_in hM (v := fun j => if j = i then 1 else 0) ⟨by rw [hv2]; exact hfit, by rw [hv]; omega⟩ (by rw [hv]; exact Nat.le_refl 1)
  refine ⟨k, hk, fun j hj => ?_⟩
  have := hc j (by have := hM.d.2.2; omega)
  rw [if_pos hj] at this
  exact this
theorem nsum_min {f g : Nat → Nat} {d : Nat} : nsum (fun i => min (f i) (g i)) d ≤ nsum f d := nsum_le (fun i _ => Nat.min_le_left _ _)
theorem full_T {T : TS} (hM : GM T) (hone : ONE (wa T) (vd T) (PK T) (psT T).length) (hpos : 0 < nsum (wa T) (vd T)) (k : Nat) (hk : k < (psT T).length) : ∃ k', k' < (psT T).length ∧ FLv T (wa T) (cn (PK T k')) ∧ ∀ i, i < vd T → min (cn (PK T k) i) (wa T i) ≤ cn (PK T k') i := by
  obtain ⟨⟨ft1, ft2⟩, ok⟩ := ps_out hM hk
  have hb := hM.2.2.1
  have go : ∀ v : Nat → Nat, FT T v → (∀ i, i < vd T → v i ≤ wa T i) → 1 ≤ nsum v (vd T) → ∃ k', k' < (psT T).length ∧ FLv T (wa T) (cn (PK T k')) ∧ ∀ i, i < vd T → v i ≤ cn (PK T k') i := by
    intro v hv hle h1
    obtain ⟨v', a1, a2, a3⟩ := fill (T := T) (w := wa T) (vk T - nsum v (vd T)) v (by have := hv.2; omega) hv hle
    have h1' : nsum v (vd T) ≤ nsum v' (vd T) := nsum_le a1
    obtain ⟨k', k1, k2⟩ := ps_in hM a2 (by omega)
    have d6 := hM.d.2.2
    have ev : ∀ i, i < vd T → cn (PK T k') i = v' i := fun i hi => by
      have := k2 i (by omega)
      rw [if_pos hi] at this
      exact this
    refine ⟨k', k1, fun i hi => ?_, fun i hi => by rw [ev i hi]; exact a1 i hi⟩
    have := a3 i hi
    rw [ev i hi, nsum_congr (f := cn (PK T k')) (g := v') ev, nsum_congr (f := fun j => cn (PK T k') j * vm T j) (g := fun j => v' j * vm T j) (fun j hj => by rw [ev j hj])]
    exact this
  by_cases q : 1 ≤ nsum (fun i => min (cn (PK T k) i) (wa T i)) (vd T)
  · have e1 : nsum (fun j => min (cn (PK T k) j) (wa T j) * vm T j) (vd T) ≤ nsum (fun j => cn (PK T k) j * vm T j) (vd T) := nsum_le (fun j _ => Nat.mul_le_mul_right _ (Nat.min_le_left _ _))
    have e2 : nsum (fun j => min (cn (PK T k) j) (wa T j)) (vd T) ≤ nsum (cn (PK T k)) (vd T) := nsum_min
    exact go (fun i => min (cn (PK T k) i) (wa T i)) ⟨Nat.le_trans e1 ft1, Nat.le_trans e2 ft2⟩ (fun i _ => Nat.min_le_right _ _) q
  · -- nothing of it is WANTED: any full PATTERN does
    have hz : nsum (fun i => min (cn (PK T k) i) (wa T i)) (vd T) = 0 := by omega
    have hz' := nsum_z0.mp hz
    obtain ⟨i, hi, hwi⟩ : ∃ i, i < vd T ∧ 0 < wa T i := Classical.byContradiction (fun z => by
      have : nsum (wa T) (vd T) = 0 := nsum_z0.mpr (fun i hi => Classical.byContradiction (fun y => z ⟨i, hi, by omega⟩))
      omega)
    obtain ⟨k1, hk1, hc1⟩ := hone i hi hwi
    obtain ⟨⟨gt1, gt2⟩, -⟩ := ps_out hM hk1
    have s1 : 1 ≤ nsum (cn (PK T k1)) (vd T) := by
      have := nsum_ge (f := cn (PK T k1)) hi
      have e := hc1 i hi
      rw [if_pos rfl] at e
      omega
    obtain ⟨k', a1, a2, a3⟩ := go (cn (PK T k1)) ⟨gt1, gt2⟩ (fun j hj => by
      rw [hc1 j hj]
      split
      · rename_i z; rw [z]; exact hwi
      · exact Nat.zero_le _) s1
    exact ⟨k', a1, a2, fun j hj => by rw [hz' j hj]; exact Nat.zero_le _⟩
