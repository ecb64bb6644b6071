/-! ===== fewest: the class's PLAN ===== -/
/-- the first PATTERN with which one roll fewer is enough -/
def FK (T : TS) (s k : Nat) : Prop := k < (psT T).length ∧ ndT T (bhT T s k) < ndT T s ∧ ∀ j, j < k → ndT T s ≤ ndT T (bhT T s j)
def fk (g : Nat → Nat) (b : Nat) : Nat → Nat → Nat
  | 0, k => k
  | f + 1, k => if g k < b then k else fk g b f (k + 1)
theorem fk_of {g : Nat → Nat} {b k0 : Nat} (h1 : g k0 < b) (h2 : ∀ j, j < k0 → b ≤ g j) : ∀ (f k : Nat), k ≤ k0 → k0 < k + f → fk g b f k = k0
  | 0, k, a, e => by omega
  | f + 1, k, a, e => by
    rw [fk]
    by_cases q : k = k0
    · rw [q, if_pos h1]
    · rw [if_neg (by have := h2 k (by omega); omega)]
      exact fk_of h1 h2 f (k + 1) (by omega) (by omega)
def fkT (T : TS) (s : Nat) : Nat := fk (fun k => ndT T (bhT T s k)) (ndT T s) (psT T).length 0
theorem FK.eq {T : TS} {s k : Nat} (h : FK T s k) : fkT T s = k := fk_of (g := fun k => ndT T (bhT T s k)) (k0 := k) h.2.1 h.2.2 _ 0 (Nat.zero_le _) (by have := h.1; omega)
theorem fk_ex {g : Nat → Nat} {b : Nat} : ∀ (m : Nat), (∃ k, k < m ∧ g k < b) → ∃ k, k < m ∧ g k < b ∧ ∀ j, j < k → b ≤ g j
  | 0, ⟨k, h, _⟩ => by omega
  | m + 1, ⟨k, h, hk⟩ => by
    by_cases q : ∃ k, k < m ∧ g k < b
    · obtain ⟨k', a1, a2, a3⟩ := fk_ex m q
      exact ⟨k', by omega, a2, a3⟩
    · exact ⟨k, h, hk, fun j hj => Classical.byContradiction (fun z => q ⟨j, by omega, by omega⟩)⟩
theorem FK.ex {T : TS} {s : Nat} (hone : ONE (wa T) (vd T) (PK T) (psT T).length) (hs : s < uu (wa T) (vd T)) (h0 : 0 < s) (hd : dsum (wa T) (vd T) s < 1000) : FK T s (fkT T s) := by
  obtain ⟨k, k1, k2, k3⟩ := nd_pos hone hs h0 hd
  obtain ⟨k', a1, a2, a3⟩ := fk_ex (g := fun k => ndT T (bhT T s k)) (b := ndT T s) (psT T).length ⟨k, k1, by
    show nd (wa T) (vd T) (PK T) (psT T).length (bh (wa T) (vd T) s (PK T k)) < nd (wa T) (vd T) (PK T) (psT T).length s
    omega⟩
  have h : FK T s k' := ⟨a1, a2, a3⟩
  rw [h.eq]
  exact h
theorem dsum_T {T : TS} (hM : GM T) (hw : ∀ i, i < vd T → wa T i ≤ 40) (s : Nat) : dsum (wa T) (vd T) s < 1000 := by
  have d6 := hM.d.2.2
  have : nsum (dg (wa T) s) (vd T) ≤ vd T * 40 := nsum_bd (fun i hi => Nat.le_trans (dg_le s i) (hw i hi))
  unfold dsum
  omega
theorem SV.mv {T U V : TS} {s : Nat} {is as : List Nat} (h : SV T U s) (f : FR is as 0 0 U V) (h1 : ∀ k ∈ is, k ∈ isQ) (h2 : ∀ k ∈ as, k ∈ asQ) (h3 : 1506 ∉ is ∧ 1507 ∉ is) (h4 : 31 ∉ as ∧ 32 ∉ as) (h5 : 33 ∉ as ∧ 34 ∉ as) : SV T V s :=
  ⟨⟨h.1.1.mv f h1 h2 h3.1 h4, h.1.2.1, (f.I h3.2).trans h.1.2.2.1, fun i hi => by rw [f.A (k := 33) h5.1 (by omega)]; exact h.1.2.2.2 i hi⟩, fun t ht => by rw [f.A (k := 34) h5.2 (by omega)]; exact h.2 t ht⟩
theorem left_eq {n s : Nat} {T U : TS} (h5 : uu (wa T) (vd T) ≤ 5000) (h : SV T U s) : fX7_rollsLeft n U = some (nI (ndT T s), U) := by
  have hs := h.1.2.1
  unfold fX7_rollsLeft
  rw [h.1.2.2.1, ck_nI (by omega) (by decide), nI_clamp (by omega), h.2 s hs]
theorem first_eq {n c s k k0 : Nat} {T U : TS} (hn : 10000 ≤ n) (hM : GM T) (hO : GO c T) (hc : c ≤ 520) (hN : NUM T) (hl : (psT T).length ≤ 3000) (h5 : uu (wa T) (vd T) ≤ 5000) (h : SV T U s) (hk0 : FK T s k0) (hk : k ≤ k0) : fX7_firstFrom n (nI k) U = some (nI k0, U) := by
  have hs := h.1.2.1
  obtain ⟨k1, k2, k3⟩ := hk0
  unfold fX7_firstFrom
  rw [countF hN hl h.1.1.1]
  simp only [bd]
  have key : ∀ r j f, j + r = k0 → r < f → fX7_firstFrom_L8 n (nI k) (nI (psT T).length) (fun T_7 => some (nI k, T_7)) f (nI j) U = some (nI k0, U) := by
    intro r
    induction r with
    | zero =>
      intro j f hj hf
      obtain ⟨g, rfl⟩ : ∃ g, f = g + 1 := ⟨f - 1, by omega⟩
      have e : j = k0 := by omega
      subst e
      have hx : PK T j < 2 ^ 30 := (ps_out hM k1).2.1
      have hb : bh (wa T) (vd T) s (PK T j) < uu (wa T) (vd T) := bh_lt
      have t1 := nd_T T s
      have t2 := nd_T T (bhT T s j)
      rw [fX7_firstFrom_L8, if_neg (nI_ge k1 (by omega)), codeF hN hl h.1.1.1 k1]
      simp only [bd]
      rw [idx_eq (n := n) (by omega) hM hO hc h5 h.1 hx]
      simp only [bd]
      rw [ck_nI (by omega) (by decide), h.1.2.2.1, ck_nI (by omega) (by decide), nI_clamp (by omega), nI_clamp (by omega), h.2 s hs, h.2 _ hb, if_neg (nI_ge k2 (by omega))]
    | succ r ih =>
      intro j f hj hf
      obtain ⟨g, rfl⟩ : ∃ g, f = g + 1 := ⟨f - 1, by omega⟩
      have hjl : j < (psT T).length := by omega
      have hx : PK T j < 2 ^ 30 := (ps_out hM hjl).2.1
      have hb : bh (wa T) (vd T) s (PK T j) < uu (wa T) (vd T) := bh_lt
      have t1 := nd_T T s
      have t2 := nd_T T (bhT T s j)
      rw [fX7_firstFrom_L8, if_neg (nI_ge hjl (by omega)), codeF hN hl h.1.1.1 hjl]
      simp only [bd]
      rw [idx_eq (n := n) (by omega) hM hO hc h5 h.1 hx]
      simp only [bd]
      rw [ck_nI (by omega) (by decide), h.1.2.2.1, ck_nI (by omega) (by decide), nI_clamp (by omega), nI_clamp (by omega), h.2 s hs, h.2 _ hb, if_pos (nI_le (k3 j (by omega)) (by omega)), nI_1]
      exact ih (j + 1) g (by omega) (by omega)
  exact key (k0 - k) k n (by omega) (by omega)
theorem taken_eq {n c s x : Nat} {T U : TS} (hn : 10000 ≤ n) (hM : GM T) (hO : GO c T) (hc : c ≤ 520) (h5 : uu (wa T) (vd T) ≤ 5000) (h : SV T U s) (hx : x < 2 ^ 30) : ∃ V, fX7_take n (nI x) U = some V ∧ FR [1507] [33] 0 0 U V ∧ SV T V (bh (wa T) (vd T) s x) := by
  obtain ⟨d1, d2, d6⟩ := hM.d
  unfold fX7_take
  rw [idx_eq (n := n) (by omega) hM hO hc h5 h.1 hx]
  simp only [bd, nm]
  have f0 : FR [1507] [33] 0 0 U (uI U 1507 (nI (bh (wa T) (vd T) s x))) := FR.uI (by decide)
  refine lpi (fun f (a : Int32 × TS) => fX7_take_L11 n (nI x) (fun T_7 => some T_7) f a.1 a.2) (fun j a => a.1 = nI j ∧ FR [1507] [33] 0 0 U a.2 ∧ gI a.2 1507 = nI (bh (wa T) (vd T) s x) ∧ ∀ i, i < vd T → gA a.2 33 i = if i < j then nI (dg (wa T) s i - cn x i) else nI (dg (wa T) s i)) (vd T) (fun r => ∃ V, r = some V ∧ FR [1507] [33] 0 0 U V ∧ SV T V (bh (wa T) (vd T) s x)) ?_ ?_ n (0, _) (by omega) ⟨rfl, f0, gI_uI _ _ _, fun i hi => by rw [if_neg (Nat.not_lt_zero i)]; exact h.1.2.2.2 i hi⟩
  · rintro j ⟨a, V⟩ hj ⟨e, fV, g7, g33⟩
    simp only at e fV g7 g33
    subst e
    have l1 := dg_le (w := wa T) s j
    have l2 := uu_wa hM hO hc n hj
    have l3 := cn_lt x j
    refine ⟨(nI (j + 1), sA V 33 (nI j) (nI (dg (wa T) s j - cn x j))), ⟨rfl, fV.trans (FR.sA (Or.inl (by decide))), (zI_sA _ _ _ _ _).trans g7, fun i hi => ?_⟩, fun f => ?_⟩
    · show gA (sA V 33 (nI j) _) 33 i = _
      rw [gA_sA_at (by omega), g33 i hi]
      by_cases q : i = j
      · rw [if_pos q, if_pos (by omega), q]
      · rw [if_neg q]
        by_cases q2 : i < j
        · rw [if_pos q2, if_pos (by omega)]
        · rw [if_neg q2, if_neg (by omega)]
    · show fX7_take_L11 n (nI x) _ (f + 1) (nI j) V = _
      rw [fX7_take_L11, fV.I (k := 55) (by decide), h.1.1.1.I (k := 55) (by decide), d1, if_neg (nI_ge hj (by omega)), ck_nI (by omega) (by decide), ofW_nI hx (by omega)]
      simp only [bd, nm]
      rw [ck_nI (by omega) (by decide), nI_clamp (by omega), g33 j hj, if_neg (Nat.lt_irrefl j), imax_0s (by omega) (by omega), nI_1]
  · rintro ⟨a, V⟩ ⟨e, fV, g7, g33⟩ f
    simp only at e fV g7 g33
    subst e
    refine ⟨V, ?_, fV, ⟨h.1.1.mv fV (by decide) (by decide) (by decide) (by decide), bh_lt, g7, fun i hi => ?_⟩, fun t ht => ?_⟩
    · show fX7_take_L11 n (nI x) _ (f + 1) (nI (vd T)) V = _
      rw [fX7_take_L11, fV.I (k := 55) (by decide), h.1.1.1.I (k := 55) (by decide), d1, if_pos (nI_le (Nat.le_refl _) (by omega))]
    · rw [g33 i hi, if_pos hi, bh_dg hi]
    · rw [fV.A (k := 34) (by decide) (by decide)]
      exact h.2 t ht
/-- the PLAN that comes of it -/
def fout (T : TS) : Nat → Nat → Dr → Option Dr
  | 0, _, D => some D
  | q + 1, s, D => match ar D (PK T (fkT T s)) with
    | none => none
    | some D' => fout T q (bhT T s (fkT T s)) D'
theorem nd_z {T : TS} {s : Nat} (hone : ONE (wa T) (vd T) (PK T) (psT T).length) (hs : s < uu (wa T) (vd T)) (hd : dsum (wa T) (vd T) s < 1000) (h : ndT T s = 0) : s = 0 := by
  rcases Nat.eq_zero_or_pos s with q | q
  · exact q
  · obtain ⟨k, -, -, k3⟩ := nd_pos hone hs q hd
    have h' : nd (wa T) (vd T) (PK T) (psT T).length s = 0 := h
    omega
theorem nd_fk {T : TS} {s : Nat} (hs : s < uu (wa T) (vd T)) {k : Nat} (h : FK T s k) : ndT T (bhT T s k) + 1 = ndT T s := by
  have h1 := h.2.1
  have h2 : ndT T s ≤ ndT T (bhT T s k) + 1 := nd_le' hs h.1
  omega
theorem dloop {n c R : Nat} {T : TS} {kk : TS → Option (Int32 × TS)} (hn : 10000 ≤ n) (hM : GM T) (hO : GO c T) (hc : c ≤ 520) (hN : NUM T) (hl : (psT T).length ≤ 3000) (h5 : uu (wa T) (vd T) ≤ 5000) (hone : ONE (wa T) (vd T) (PK T) (psT T).length) (hR : R ≤ 1000) : ∀ (q s k : Nat) (D : Dr) (U : TS) (f : Nat), ndT T s = q → q < f → SV T U s → (∀ j, j < k → ndT T s ≤ ndT T (bhT T s j)) → OKD (vd T) D → DC U D → nsum D.2.2 D.1 + q = R → (fout T q s D = none ∧ ∃ U', fX10_draftFewest_L11 n (nI R) kk f (nI k) (nI (nsum D.2.2 D.1)) U = some (0, U') ∧ FR isQ asQ 0 0 T U') ∨ ∃ D' U', fout T q s D = some D' ∧ fX10_draftFewest_L11 n (nI R) kk f (nI k) (nI (nsum D.2.2 D.1)) U = kk U' ∧ FR isQ asQ 0 0 T U' ∧ DC U' D' ∧ OKD (vd T) D' ∧ nsum D'.2.2 D'.1 = R := by
  have hw : ∀ i, i < vd T → wa T i ≤ 40 := fun i hi => uu_wa hM hO hc n hi
  intro q
  induction q with
  | zero =>
    intro s k D U f hq hf hV hk hD hT hs
    obtain ⟨g, rfl⟩ : ∃ g, f = g + 1 := ⟨f - 1, by omega⟩
    refine Or.inr ⟨D, U, rfl, ?_, hV.1.1.1, hT, hD, by omega⟩
    rw [fX10_draftFewest_L11, if_pos (nI_le (by omega) (by omega))]
  | succ q ih =>
    intro s k D U f hq hf hV hk hD hT hs
    obtain ⟨g, rfl⟩ : ∃ g, f = g + 1 := ⟨f - 1, by omega⟩
    have hs' := hV.1.2.1
    have hs0 : 0 < s := by
      rcases Nat.eq_zero_or_pos s with z | z
      · rw [z, show ndT T 0 = 0 from nd_0] at hq
        omega
      · exact z
    have hF := FK.ex hone hs' hs0 (dsum_T hM hw s)
    generalize hk0 : fkT T s = k0 at hF
    have hkk : k ≤ k0 := Classical.byContradiction (fun z => by
      have := hk k0 (by omega)
      have := hF.2.1
      omega)
    obtain ⟨ft, ok⟩ := ps_out hM hF.1
    have hx : PK T k0 < 2 ^ 30 := ok.1
    have unf : fX10_draftFewest_L11 n (nI R) kk (g + 1) (nI k) (nI (nsum D.2.2 D.1)) U = bd (fX8_addRoll_17 n (nI (PK T k0)) U) (fun r_8 T_7 => if ¬ r_8 = 0 then bv (fX7_take n (nI (PK T k0)) T_7) (fun T_9 => fX10_draftFewest_L11 n (nI R) kk g (nI k0) (nI (nsum D.2.2 D.1) + 1) T_9) else rz (0 : Int32) T_7) := by
      rw [fX10_draftFewest_L11, if_neg (nI_ge (by omega) (by omega)), first_eq hn hM hO hc hN hl h5 hV hF hkk]
      simp only [bd]
      rw [codeF hN hl hV.1.1.1 hF.1]
    rw [unf]
    unfold fout
    rw [hk0]
    rcases aroll (n := n) hD hT hx with ⟨a1, a2⟩ | ⟨D', V, a1, a2, a3, a4⟩
    · rw [a1, a2]
      exact Or.inl ⟨rfl, U, rfl, hV.1.1.1⟩
    · rw [a1, a2]
      simp only [bd]
      rw [if_pos (show ¬ (1 : Int32) = 0 by decide)]
      have hV2 : SV T V s := hV.mv a3 (by decide) (by decide) (by decide) (by decide) (by decide)
      obtain ⟨W, b1, b2, b3⟩ := taken_eq (n := n) hn hM hO hc h5 hV2 hx
      rw [b1]
      simp only [bv]
      have es := ar_sum a1
      have en := nd_fk hs' hF
      rw [nI_1, ← es]
      refine ih (bhT T s k0) k0 D' W g (by omega) (by omega) b3 (fun j hj => ?_) (ar_ok hD ok a1) ⟨(b2.I (by decide)).trans a4.1, fun i hi => by rw [b2.A (k := 18) (by decide) (by decide), b2.A (k := 19) (by decide) (by decide)]; exact a4.2 i hi⟩ (by omega)
      exact few_next hs' hF.1 en (hF.2.2 j hj)
