/-! ===== a PLAN in the making ===== -/
theorem cn_ext {x y : Nat} (hx : x < 2 ^ 30) (hy : y < 2 ^ 30) (h : ∀ i, i < 6 → cn x i = cn y i) : x = y := by
  have h0 : x / 33554432 % 32 = y / 33554432 % 32 := h 0 (by decide)
  have h1 : x / 1048576 % 32 = y / 1048576 % 32 := h 1 (by decide)
  have h2 : x / 32768 % 32 = y / 32768 % 32 := h 2 (by decide)
  have h3 : x / 1024 % 32 = y / 1024 % 32 := h 3 (by decide)
  have h4 : x / 32 % 32 = y / 32 % 32 := h 4 (by decide)
  have h5 : x / 1 % 32 = y / 1 % 32 := h 5 (by decide)
  omega
def nup (f : Nat → Nat) (k v : Nat) : Nat → Nat := fun j => if j = k then v else f j
abbrev Dr := Nat × (Nat → Nat) × (Nat → Nat)
/-- one roll more -/
def ar (D : Dr) (c : Nat) : Option Dr := if 0 < D.1 ∧ D.2.1 (D.1 - 1) = c then some (D.1, D.2.1, nup D.2.2 (D.1 - 1) (D.2.2 (D.1 - 1) + 1)) else if D.1 < 60 then some (D.1 + 1, nup D.2.1 D.1 c, nup D.2.2 D.1 1) else none
def OKD (d : Nat) (D : Dr) : Prop := D.1 ≤ 60 ∧ ∀ k, k < D.1 → okc d (D.2.1 k) ∧ 1 ≤ D.2.2 k
def DC (T : TS) (D : Dr) : Prop := gI T 850 = nI D.1 ∧ ∀ k, k < D.1 → gA T 18 k = nI (D.2.1 k) ∧ gA T 19 k = nI (D.2.2 k)
def DM (T : TS) (D : Dr) : Prop := gI T 2070 = nI D.1 ∧ ∀ k, k < D.1 → (∀ i, i < 6 → gA T (3127 + k) i = nI (cn (D.2.1 k) i)) ∧ gA T 51 k = nI (D.2.2 k)
theorem nsum_nup {f : Nat → Nat} {k v : Nat} : ∀ {d : Nat}, d ≤ k → nsum (nup f k v) d = nsum f d
  | 0, _ => rfl
  | d + 1, h => by
    show nsum (nup f k v) d + nup f k v d = nsum f d + f d
    rw [nsum_nup (by omega)]
    unfold nup
    rw [if_neg (by omega)]
theorem ar_sum {D D' : Dr} {c : Nat} (h : ar D c = some D') : nsum D'.2.2 D'.1 = nsum D.2.2 D.1 + 1 := by
  obtain ⟨m, C, R⟩ := D
  unfold ar at h
  simp only at h ⊢
  by_cases q : 0 < m ∧ C (m - 1) = c
  · rw [if_pos q] at h
    cases h
    obtain ⟨k, rfl⟩ : ∃ k, m = k + 1 := ⟨m - 1, by omega⟩
    show nsum (nup R (k + 1 - 1) _) k + nup R (k + 1 - 1) _ k = nsum R k + R k + 1
    rw [Nat.add_sub_cancel, nsum_nup (Nat.le_refl k)]
    unfold nup
    rw [if_pos rfl]
    omega
  · rw [if_neg q] at h
    by_cases q2 : m < 60
    · rw [if_pos q2] at h
      cases h
      show nsum (nup R m 1) m + nup R m 1 m = nsum R m + 1
      rw [nsum_nup (Nat.le_refl m)]
      unfold nup
      rw [if_pos rfl]
    · rw [if_neg q2] at h
      cases h
theorem ar_ok {d c : Nat} {D D' : Dr} (hD : OKD d D) (hc : okc d c) (h : ar D c = some D') : OKD d D' := by
  obtain ⟨m, C, R⟩ := D
  obtain ⟨h1, h2⟩ := hD
  unfold ar at h
  simp only at h h1 h2
  by_cases q : 0 < m ∧ C (m - 1) = c
  · rw [if_pos q] at h
    cases h
    refine ⟨h1, fun k hk => ⟨(h2 k hk).1, ?_⟩⟩
    show 1 ≤ nup R (m - 1) _ k
    unfold nup
    split
    · omega
    · exact (h2 k hk).2
  · rw [if_neg q] at h
    by_cases q2 : m < 60
    · rw [if_pos q2] at h
      cases h
      refine ⟨q2, fun k hk => ?_⟩
      show okc d (nup C m c k) ∧ 1 ≤ nup R m 1 k
      unfold nup
      have hk' : k < m + 1 := hk
      by_cases q3 : k = m
      · rw [if_pos q3, if_pos q3]
        exact ⟨hc, Nat.le_refl 1⟩
      · rw [if_neg q3, if_neg q3]
        exact h2 k (by omega)
    · rw [if_neg q2] at h
      cases h
theorem full17 {n m : Nat} {T : TS} (h : gI T 850 = nI m) (h60 : m ≤ 60) : fX8_isFull_17 n T = some (b01 (decide (m = 60)), T) := by
  unfold fX8_isFull_17
  rw [h]
  by_cases q : m = 60
  · rw [if_neg (show ¬ nI m < 60 by rw [q]; decide), decide_eq_true q]
    rfl
  · rw [if_pos (show nI m < 60 from nI_lt (b := 60) (by omega) (by decide)), decide_eq_false q]
    rfl
theorem add17 {n m : Nat} {T : TS} {a b : Int32} (e : gI T 850 = nI m) (h : m < 60) : fX8_add_17 n a b T = some (uI (sA (sA T 18 (nI m) a) 19 (nI m) b) 850 (nI (m + 1))) := by
  unfold fX8_add_17
  rw [full17 e (by omega), decide_eq_false (by omega)]
  have ck8 : ∀ {z : Option TS}, ck (nI m) 60 z = z := ck_nI h (by decide)
  simp only [bd]
  rw [if_neg (show ¬ ¬ b01 false = 0 from fun q => q rfl)]
  simp only [nm, gI_sA, e, ck8]
  rw [nI_1]
theorem aroll {n d c : Nat} {D : Dr} {T : TS} (hD : OKD d D) (hT : DC T D) (hc : c < 2 ^ 30) : (ar D c = none ∧ fX8_addRoll_17 n (nI c) T = some (0, T)) ∨ ∃ D' T', ar D c = some D' ∧ fX8_addRoll_17 n (nI c) T = some (1, T') ∧ FR [850] [18, 19] 0 0 T T' ∧ DC T' D' := by
  obtain ⟨m, C, R⟩ := D
  obtain ⟨h1, h2⟩ := hD
  obtain ⟨t1, t2⟩ := hT
  simp only at h1 h2 t1 t2
  unfold fX8_addRoll_17 ar
  simp only
  -- the new SLOT
  have new : ¬ (0 < m ∧ C (m - 1) = c) → ∀ Z, Z = (bd (fX8_isFull_17 n T) (fun r_2 T_1 => if r_2 = 0 then bv (fX8_add_17 n (nI c) 1 T_1) (fun T_3 => rz 1 T_3) else rz 0 T_1)) → ((if 0 < m ∧ C (m - 1) = c then some (m, C, nup R (m - 1) (R (m - 1) + 1)) else if m < 60 then some (m + 1, nup C m c, nup R m 1) else none) = none ∧ Z = some (0, T)) ∨ ∃ D' T', (if 0 < m ∧ C (m - 1) = c then some (m, C, nup R (m - 1) (R (m - 1) + 1)) else if m < 60 then some (m + 1, nup C m c, nup R m 1) else none) = some D' ∧ Z = some (1, T') ∧ FR [850] [18, 19] 0 0 T T' ∧ DC T' D' := by
    rintro q Z rfl
    rw [if_neg q, full17 t1 h1]
    by_cases q2 : m < 60
    · rw [if_pos q2, decide_eq_false (by omega)]
      simp only [bd]
      rw [if_pos (show b01 false = 0 from rfl), add17 t1 q2]
      refine Or.inr ⟨_, _, rfl, rfl, ((FR.sA (Or.inl (by decide))).trans (FR.sA (Or.inl (by decide)))).trans (FR.uI (by decide)), gI_uI _ _ _, fun k hk => ?_⟩
      have hk' : k < m + 1 := hk
      show gA (uI (sA (sA T 18 (nI m) (nI c)) 19 (nI m) 1) 850 _) 18 k = nI (nup C m c k) ∧ gA (uI (sA (sA T 18 (nI m) (nI c)) 19 (nI m) 1) 850 _) 19 k = nI (nup R m 1 k)
      rw [gA_uI, gA_uI, gA_sA_at (k := 19) (by omega), zA_sA _ 19, if_neg (show ¬ (18 : Nat) = 19 by decide), gA_sA_at (k := 18) (by omega), zA_sA T 18 _ _ 19, if_neg (show ¬ (19 : Nat) = 18 by decide)]
      unfold nup
      by_cases q3 : k = m
      · rw [if_pos q3, if_pos q3, if_pos q3, if_pos q3]
        exact ⟨rfl, rfl⟩
      · rw [if_neg q3, if_neg q3, if_neg q3, if_neg q3]
        exact t2 k (by omega)
    · rw [if_neg q2, decide_eq_true (by omega)]
      exact Or.inl ⟨rfl, rfl⟩
  rw [t1]
  by_cases q0 : m = 0
  · rw [if_pos (show nI m ≤ 0 by rw [q0]; decide)]
    exact new (by omega) _ rfl
  · rw [if_neg (nI_nle (by omega) (by omega)), nI_prd (by omega), ck_nI (by omega) (by decide), nI_clamp (by omega), (t2 (m - 1) (by omega)).1]
    have hb := (h2 (m - 1) (by omega)).1.1
    by_cases q1 : C (m - 1) = c
    · rw [if_pos ⟨by omega, q1⟩, if_neg (show ¬ ¬ nI (C (m - 1)) = nI c from fun z => z (by rw [q1])), ck_nI (by omega) (by decide), ck_nI (by omega) (by decide), (t2 (m - 1) (by omega)).2]
      simp only [nm]
      rw [nI_1]
      refine Or.inr ⟨_, _, rfl, rfl, FR.sA (Or.inl (by decide)), t1, fun k hk => ?_⟩
      have hk' : k < m := hk
      show gA (sA T 19 (nI (m - 1)) _) 18 k = nI (C k) ∧ gA (sA T 19 (nI (m - 1)) _) 19 k = nI (nup R (m - 1) (R (m - 1) + 1) k)
      rw [gA_sA_at (by omega), zA_sA, if_neg (show ¬ (18 : Nat) = 19 by decide)]
      unfold nup
      refine ⟨(t2 k hk').1, ?_⟩
      by_cases q3 : k = m - 1
      · rw [if_pos q3, if_pos q3]
      · rw [if_neg q3, if_neg q3]
        exact (t2 k hk').2
    · rw [if_pos (show ¬ nI (C (m - 1)) = nI c from fun z => q1 ((nI_eq (by omega) (by omega)).mp z))]
      exact new (fun z => q1 z.2) _ rfl

theorem ak_q {α : Type} {q : Nat} {x : Option α} (h : q = 55 ∨ (67 ≤ q ∧ q < 3247)) : ak q x = x := by
  unfold ak
  rw [if_pos]
  rcases h with h | h
  · exact Or.inl h
  · exact Or.inr ⟨h.1, show q < 67 + rN from Nat.lt_of_lt_of_le h.2 (by decide)⟩
theorem rolls15 {n c q m : Nat} {D : Dr} {T : TS} {kk : Int32 → TS → Option (Int32 × TS)} (hn : 100 ≤ n) (hX : ∀ s, s < 60 → gO T 50 s = 3127 + s) (hT : DM T D) (hm : D.1 = m + 1) (h60 : m < 60) (hD : D.2.1 m < 2 ^ 30) (hc : c < 2 ^ 30) (hq : q = 55 ∨ (67 ≤ q ∧ q < 3247)) (hrow : ∀ i, i < 6 → gA T q i = nI (cn c i)) : fX11_rolls_L15 n q kk n 1 0 T = kk (b01 (decide (D.2.1 m = c))) T := by
  obtain ⟨t1, t2⟩ := hT
  rw [hm] at t1
  have hr := (t2 m (by omega)).1
  have hal : al q = 6 := al_6 (by omega)
  have step : ∀ j x f, j < 6 → ¬ x = 0 → fX11_rolls_L15 n q kk (f + 1) x (nI j) T = if cn (D.2.1 m) j = cn c j then fX11_rolls_L15 n q kk f 1 (nI (j + 1)) T else fX11_rolls_L15 n q kk f 0 (nI (j + 1)) T := by
    intro j x f hj hx
    rw [fX11_rolls_L15, if_neg (show ¬ (6 : Int32) ≤ nI j from nI_ge (b := 6) hj (by decide)), if_neg hx, t1, nI_prd (by omega), Nat.add_sub_cancel, ck_nI h60 (by decide), nI_clamp (show m < 2 ^ 31 by omega), hX m h60, ak_row (by omega) (by omega), al_6 (by omega), ck_nI hj (by decide), ak_q hq, hal, ck_nI hj (by decide), nI_clamp (show j < 2 ^ 31 by omega), hr j hj, hrow j hj, nI_1]
    have l1 := cn_lt (D.2.1 m) j
    have l2 := cn_lt c j
    by_cases z : cn (D.2.1 m) j = cn c j
    · rw [if_pos z, if_neg (fun w => w (by rw [z]))]
    · rw [if_neg z, if_pos (fun w => z ((nI_eq (by omega) (by omega)).mp w))]
  have zero : ∀ j f, fX11_rolls_L15 n q kk (f + 1) 0 (nI j) T = kk 0 T := by
    intro j f
    rw [fX11_rolls_L15]
    by_cases z : (6 : Int32) ≤ nI j
    · rw [if_pos z]
    · rw [if_neg z, if_pos rfl]
  obtain ⟨g, rfl⟩ : ∃ g, n = g + 1 := ⟨n - 1, by omega⟩
  have key := lps (fun f x => fX11_rolls_L15 (g + 1) q kk (f + 1) 1 x T) 6 (kk 1 T) (fun _ => kk 0 T) (fun j => cn (D.2.1 m) j = cn c j) (fun j hj hp f => by
      show fX11_rolls_L15 (g + 1) q kk (f + 1 + 1) 1 (nI j) T = fX11_rolls_L15 (g + 1) q kk (f + 1) 1 (nI (j + 1)) T
      rw [step j 1 (f + 1) hj (by decide), if_pos hp]) (fun j hj hp f => by
      show fX11_rolls_L15 (g + 1) q kk (f + 1 + 1) 1 (nI j) T = kk 0 T
      rw [step j 1 (f + 1) hj (by decide), if_neg hp, zero]) (fun f => by
      show fX11_rolls_L15 (g + 1) q kk (f + 1 + 1) 1 (nI 6) T = kk 1 T
      rw [fX11_rolls_L15, if_pos (show (6 : Int32) ≤ nI 6 by decide)]) g (by omega)
  rcases key with ⟨j, h1, h2, h3, h4⟩ | ⟨h1, h2⟩
  · rw [decide_eq_false (fun z => h2 (by rw [z]))]
    exact h4
  · rw [decide_eq_true (cn_ext hD hc h1)]
    exact h2
theorem rolls73 {n q m : Nat} {T : TS} {kk : TS → Option (Int32 × TS)} (hn : 100 ≤ n) (h50 : gO T 50 m = 3127 + m) (hm : gI T 2070 = nI m) (h60 : m < 60) (hq : q = 55 ∨ (67 ≤ q ∧ q < 3067)) : fX11_rolls_L73 n q kk n 0 T = kk (uA T (3127 + m) (fun i => if i < 6 then gA T q i else gA T (3127 + m) i)) := by
  refine rowcp (fun f x U => fX11_rolls_L73 n q kk f x U) T q (3127 + m) kk ?_ ?_ n (by omega)
  · intro i hi f
    generalize hU : uA T (3127 + m) (fun k => if k < i then gA T q k else gA T (3127 + m) k) = U
    have u1 : gI U 2070 = nI m := by subst hU; exact hm
    have u2 : gO U 50 m = 3127 + m := by subst hU; exact h50
    have u4 : ∀ k, gA U q k = gA T q k := fun k => by subst hU; rw [zA_uA, if_neg (by omega)]
    show fX11_rolls_L73 n q kk (f + 1) (nI i) U = _
    rw [fX11_rolls_L73, if_neg (show ¬ (6 : Int32) ≤ nI i from nI_ge (b := 6) hi (by decide)), u1, ck_nI h60 (by decide), ak_q (by omega), al_6 (show q < 3247 by omega), ck_nI hi (by decide), nI_clamp (show m < 2 ^ 31 by omega), u2, ak_row (by omega) (by omega), al_6 (by omega), ck_nI hi (by decide), nI_clamp (show i < 2 ^ 31 by omega), u4]
    simp only [nm]
    rw [nI_1]
  · intro f
    show fX11_rolls_L73 n q kk (f + 1) (nI 6) _ = _
    rw [fX11_rolls_L73, if_pos (show (6 : Int32) ≤ nI 6 by decide)]
/-- the reference's new SLOT -/
def mrk (n q0 : Nat) (e2_1 : Int32) (T_2 : TS) : Option (Int32 × TS) := if ¬ e2_1 = 0 then ck ((gI T_2 2070) - (1 : Int32)) 60 (ck ((gI T_2 2070) - (1 : Int32)) 60 (nm (sA T_2 51 ((gI T_2 2070) - (1 : Int32)) ((gA T_2 51 (Int32.toNatClampNeg ((gI T_2 2070) - (1 : Int32)))) + (1 : Int32))) (fun T_3 => rz (1 : Int32) T_3))) else if ¬ (gI T_2 2070) = (60 : Int32) then fX11_rolls_L73 n q0 (fun T_5 => ck (gI T_5 2070) 60 (nm (sA T_5 51 (gI T_5 2070) (0 : Int32)) (fun T_6 => nm (uI T_6 2070 ((gI T_6 2070) + (1 : Int32))) (fun T_7 => ck ((gI T_7 2070) - (1 : Int32)) 60 (ck ((gI T_7 2070) - (1 : Int32)) 60 (nm (sA T_7 51 ((gI T_7 2070) - (1 : Int32)) ((gA T_7 51 (Int32.toNatClampNeg ((gI T_7 2070) - (1 : Int32)))) + (1 : Int32))) (fun T_8 => rz (1 : Int32) T_8))))))) n (0 : Int32) T_2 else rz (0 : Int32) T_2
theorem rolls_unf (n q0 : Nat) (T : TS) : fX11_rolls n q0 T = if (gI T 2070) ≤ 0 then fX11_rolls_L15 n q0 (mrk n q0) n (0 : Int32) (0 : Int32) T else fX11_rolls_L15 n q0 (mrk n q0) n (1 : Int32) (0 : Int32) T := rfl
theorem mroll {n d c q : Nat} {D : Dr} {T : TS} (hn : 100 ≤ n) (hX : ∀ s, s < 60 → gO T 50 s = 3127 + s) (hD : OKD d D) (hT : DM T D) (hc : c < 2 ^ 30) (hq : q = 55 ∨ (67 ≤ q ∧ q < 3067)) (hrow : ∀ i, i < 6 → gA T q i = nI (cn c i)) : (ar D c = none ∧ fX11_rolls n q T = some (0, T)) ∨ ∃ D' T', ar D c = some D' ∧ fX11_rolls n q T = some (1, T') ∧ FR [2070] [51] 3127 3187 T T' ∧ DM T' D' := by
  have hT0 := hT
  obtain ⟨m, C, R⟩ := D
  obtain ⟨h1, h2⟩ := hD
  obtain ⟨t1, t2⟩ := hT
  simp only at h1 h2 t1 t2
  rw [rolls_unf]
  unfold ar
  simp only
  have new : ¬ (0 < m ∧ C (m - 1) = c) → ((if 0 < m ∧ C (m - 1) = c then some (m, C, nup R (m - 1) (R (m - 1) + 1)) else if m < 60 then some (m + 1, nup C m c, nup R m 1) else none) = none ∧ mrk n q 0 T = some (0, T)) ∨ ∃ D' T', (if 0 < m ∧ C (m - 1) = c then some (m, C, nup R (m - 1) (R (m - 1) + 1)) else if m < 60 then some (m + 1, nup C m c, nup R m 1) else none) = some D' ∧ mrk n q 0 T = some (1, T') ∧ FR [2070] [51] 3127 3187 T T' ∧ DM T' D' := by
    intro q1
    rw [if_neg q1]
    unfold mrk
    rw [if_neg (show ¬ ¬ (0 : Int32) = 0 from fun z => z rfl), t1]
    by_cases q2 : m < 60
    · rw [if_pos q2, if_pos (show ¬ nI m = 60 from fun z => by have := (nI_eq (b := 60) (by omega) (by decide)).mp z; omega), rolls73 hn (hX m q2) t1 q2 hq]
      generalize hU : uA T (3127 + m) (fun i => if i < 6 then gA T q i else gA T (3127 + m) i) = U
      have fU : FR [2070] [51] 3127 3187 T U := by rw [← hU]; exact FR.uA (Or.inr (by omega))
      have uA1 : ∀ j, gA U j = if j = 3127 + m then (fun i => if i < 6 then gA T q i else gA T (3127 + m) i) else gA T j := fun j => by rw [← hU]; exact zA_uA _ _ _ _
      have uI1 : gI U 2070 = nI m := by rw [← hU]; exact t1
      clear hU
      have e2 : gI (sA U 51 (nI m) 0) 2070 = nI m := uI1
      rw [uI1, ck_nI q2 (by decide)]
      simp only [nm]
      rw [e2, nI_1, gI_uI, nI_prd (by omega), Nat.add_sub_cancel, ck_nI q2 (by decide), ck_nI q2 (by decide), nI_clamp (by omega), gA_uI, gA_sA_at (by omega), if_pos rfl]
      refine Or.inr ⟨_, _, rfl, rfl, ((fU.trans (FR.sA (Or.inl (by decide)))).trans (FR.uI (by decide))).trans (FR.sA (Or.inl (by decide))), ?_, fun k hk => ?_⟩
      · rw [zI_sA]
        exact gI_uI _ _ _
      · have hk' : k < m + 1 := hk
        show (∀ i, i < 6 → gA (sA (uI (sA U 51 (nI m) 0) 2070 (nI (m + 1))) 51 (nI m) (0 + 1)) (3127 + k) i = nI (cn (nup C m c k) i)) ∧ gA (sA (uI (sA U 51 (nI m) 0) 2070 (nI (m + 1))) 51 (nI m) (0 + 1)) 51 k = nI (nup R m 1 k)
        rw [gA_sA_at (by omega), zA_sA _ 51 _ _ (3127 + k), if_neg (show ¬ 3127 + k = 51 by omega), gA_uI, gA_uI, gA_sA_at (by omega), zA_sA _ 51 _ _ (3127 + k), if_neg (show ¬ 3127 + k = 51 by omega), uA1, uA1, if_neg (show ¬ 51 = 3127 + m by omega)]
        unfold nup
        by_cases q3 : k = m
        · rw [if_pos q3, if_pos q3, if_pos q3, if_pos (by omega)]
          refine ⟨fun i hi => ?_, rfl⟩
          show (if i < 6 then gA T q i else gA T (3127 + m) i) = _
          rw [if_pos hi]
          exact hrow i hi
        · rw [if_neg q3, if_neg q3, if_neg q3, if_neg q3, if_neg (by omega)]
          exact t2 k (by omega)
    · rw [if_neg q2, if_neg (show ¬ ¬ nI m = 60 from fun z => z (by rw [show m = 60 by omega]; rfl))]
      exact Or.inl ⟨rfl, rfl⟩
  rw [t1]
  by_cases q0 : m = 0
  · rw [if_pos (show nI m ≤ 0 by rw [q0]; decide)]
    obtain ⟨g, rfl⟩ : ∃ g, n = g + 1 := ⟨n - 1, by omega⟩
    rw [fX11_rolls_L15, if_neg (show ¬ (6 : Int32) ≤ 0 by decide), if_pos rfl]
    exact new (by omega)
  · rw [if_neg (nI_nle (by omega) (by omega)), rolls15 (m := m - 1) (D := (m, C, R)) hn hX hT0 (show m = m - 1 + 1 by omega) (by omega) (h2 (m - 1) (by omega)).1.1 hc (by omega) hrow]
    show (_ ∧ mrk n q (b01 (decide (C (m - 1) = c))) T = _) ∨ ∃ D' T', _ ∧ mrk n q (b01 (decide (C (m - 1) = c))) T = _ ∧ _
    by_cases q1 : C (m - 1) = c
    · rw [if_pos ⟨by omega, q1⟩, decide_eq_true q1]
      unfold mrk
      rw [if_pos (show ¬ b01 true = 0 by decide), t1, nI_prd (by omega), ck_nI (by omega) (by decide), ck_nI (by omega) (by decide), nI_clamp (by omega), (t2 (m - 1) (by omega)).2]
      simp only [nm]
      rw [nI_1]
      refine Or.inr ⟨_, _, rfl, rfl, FR.sA (Or.inl (by decide)), t1, fun k hk => ?_⟩
      have hk' : k < m := hk
      show (∀ i, i < 6 → gA (sA T 51 (nI (m - 1)) _) (3127 + k) i = nI (cn (C k) i)) ∧ gA (sA T 51 (nI (m - 1)) _) 51 k = nI (nup R (m - 1) (R (m - 1) + 1) k)
      rw [gA_sA_at (by omega), zA_sA, if_neg (show ¬ 3127 + k = 51 by omega)]
      unfold nup
      refine ⟨(t2 k hk').1, ?_⟩
      by_cases q3 : k = m - 1
      · rw [if_pos q3, if_pos q3]
      · rw [if_neg q3, if_neg q3]
        exact (t2 k hk').2
    · rw [decide_eq_false q1]
      exact new (fun z => q1 z.2)
