/-! ===== CUTS and MOVES ===== -/
/-- an array's first numbers -/
def AL (T : TS) (a : Nat) (l : List Nat) : Prop := ∀ k v, l[k]? = some v → gA T a k = nI v
theorem AL.push {T T' : TS} {a : Nat} {l : List Nat} {v : Nat} (h : AL T a l) (hb : l.length < 2 ^ 31) (e : gA T' a = gA (sA T a (nI l.length) (nI v)) a) : AL T' a (l ++ [v]) := by
  intro k w hk
  rw [e, gA_sA_at hb k]
  rcases Nat.lt_trichotomy k l.length with q | q | q
  · rw [if_neg (by omega)]
    rw [List.getElem?_append_left q] at hk
    exact h k w hk
  · rw [if_pos q]
    rw [q, List.getElem?_append_right (Nat.le_refl _), Nat.sub_self] at hk
    have : v = w := by simpa using hk
    rw [this]
  · rw [List.getElem?_eq_none (by rw [List.length_append]; show l.length + 1 ≤ k; omega)] at hk
    exact absurd hk (by simp)
def rep (p w : Nat) : Nat → List Nat
  | 0 => []
  | k + 1 => rep p w k ++ [p + (k + 1) * w]
theorem rep_len (p w : Nat) : ∀ k, (rep p w k).length = k
  | 0 => rfl
  | k + 1 => by rw [rep, List.length_append, rep_len p w k]; rfl
/-- where the next piece begins -/
def ca (mm : Nat → Nat) (x e : Nat) (i : Nat) : Nat := e + nsum (fun j => cn x j * mm j) i
def ct (mm : Nat → Nat) (x e : Nat) : Nat → List Nat
  | 0 => [e]
  | i + 1 => ct mm x e i ++ rep (ca mm x e i) (mm i) (cn x i)
theorem ca_succ (mm : Nat → Nat) (x e i : Nat) : ca mm x e (i + 1) = ca mm x e i + cn x i * mm i := (Nat.add_assoc _ _ _).symm
def ctT (T : TS) (x : Nat) : List Nat := ct (vm T) x (ve T) (vd T)
theorem ct_len (mm : Nat → Nat) (x e : Nat) : ∀ i, (ct mm x e i).length = 1 + nsum (cn x) i
  | 0 => rfl
  | i + 1 => by
    rw [ct, List.length_append, rep_len, ct_len mm x e i]
    show _ = 1 + (nsum (cn x) i + cn x i)
    omega
theorem nsum_mono (f : Nat → Nat) {a : Nat} : ∀ {b : Nat}, a ≤ b → nsum f a ≤ nsum f b
  | 0, h => by
    have : a = 0 := by omega
    rw [this]
    exact Nat.le_refl _
  | b + 1, h => by
    rcases Nat.lt_or_ge a (b + 1) with q | q
    · exact Nat.le_trans (nsum_mono f (show a ≤ b by omega)) (Nat.le_add_right _ _)
    · have : a = b + 1 := by omega
      rw [this]
      exact Nat.le_refl _
theorem ct_le {mm : Nat → Nat} {x e d i : Nat} (ok : okc d x) (h : i ≤ 6) : (ct mm x e i).length ≤ 21 := by
  rw [ct_len]
  have h1 := nsum_mono (cn x) h
  have h2 : nsum (cn x) 6 = pcs x := by simp [nsum, pcs]
  have := ok.2.2.1
  omega
theorem rep_mem {p w v : Nat} : ∀ {k : Nat}, v ∈ rep p w k → ∃ j, 1 ≤ j ∧ j ≤ k ∧ v = p + j * w
  | 0, h => by simp [rep] at h
  | k + 1, h => by
    rw [rep, List.mem_append] at h
    rcases h with h | h
    · obtain ⟨j, a, b, c⟩ := rep_mem h
      exact ⟨j, a, by omega, c⟩
    · exact ⟨k + 1, by omega, Nat.le_refl _, by simpa using h⟩
theorem rep_pw {p w : Nat} (hw : 1 ≤ w) : ∀ k, (rep p w k).Pairwise (· < ·)
  | 0 => List.Pairwise.nil
  | k + 1 => by
    rw [rep, List.pairwise_append]
    refine ⟨rep_pw hw k, by simp, fun a ha b hb => ?_⟩
    obtain ⟨j, h1, h2, h3⟩ := rep_mem ha
    have : b = p + (k + 1) * w := by simpa using hb
    have h4 : j * w ≤ k * w := Nat.mul_le_mul_right w h2
    rw [Nat.succ_mul] at this
    omega
theorem ct_mem {mm : Nat → Nat} {x e v : Nat} : ∀ {i : Nat}, v ∈ ct mm x e i → v ≤ ca mm x e i
  | 0, h => by
    have : v = e := by simpa [ct] using h
    rw [this]
    exact Nat.le_add_right _ _
  | i + 1, h => by
    rw [ct, List.mem_append] at h
    show v ≤ e + (nsum (fun j => cn x j * mm j) i + cn x i * mm i)
    rcases h with h | h
    · have := ct_mem h
      unfold ca at this
      omega
    · obtain ⟨j, h1, h2, h3⟩ := rep_mem h
      have h4 : j * mm i ≤ cn x i * mm i := Nat.mul_le_mul_right _ h2
      unfold ca at h3
      omega
theorem ct_pw {mm : Nat → Nat} {x e : Nat} : ∀ {i : Nat}, (∀ j, j < i → 1 ≤ mm j) → (ct mm x e i).Pairwise (· < ·)
  | 0, _ => by simp [ct]
  | i + 1, h => by
    rw [ct, List.pairwise_append]
    refine ⟨ct_pw (fun j hj => h j (by omega)), rep_pw (h i (by omega)) _, fun a ha b hb => ?_⟩
    have h1 := ct_mem ha
    obtain ⟨j, h2, h3, h4⟩ := rep_mem hb
    have h5 : 1 * mm i ≤ j * mm i := Nat.mul_le_mul_right _ h2
    have h6 := h i (by omega)
    omega
theorem ct_bd {T : TS} (hM : GM T) {x v : Nat} (h : v ∈ ctT T x) : v < 2 ^ 31 := by
  have h1 := ct_mem h
  have d6 := hM.d.2.2
  have b := hM.2.2.1
  have h2 : nsum (fun j => cn x j * vm T j) (vd T) ≤ vd T * 310000 := nsum_bd (fun i hi => by
    have h1 := cn_lt x i
    have h2 := (hM.2.2.2.1 i hi).2.2.1
    calc cn x i * vm T i ≤ 31 * 10000 := Nat.mul_le_mul (by omega) (by omega)
      _ = 310000 := rfl)
  unfold ca at h1
  omega
/-- numbers that rise -/
def RI (A : Nat → Int32) (m : Nat) : Prop := ∀ i j, i < j → j < m → A i < A j
theorem AL.ri {T T0 : TS} {a x : Nat} (hM : GM T0) (h : AL T a (ctT T0 x)) : RI (gA T a) (ctT T0 x).length := by
  intro i j hij hj
  have hi : i < (ctT T0 x).length := by omega
  have e1 : (ctT T0 x)[i]? = some (ctT T0 x)[i] := List.getElem?_eq_getElem hi
  have e2 : (ctT T0 x)[j]? = some (ctT T0 x)[j] := List.getElem?_eq_getElem hj
  rw [h i _ e1, h j _ e2]
  have hp : (ctT T0 x).Pairwise (· < ·) := ct_pw (fun k hk => (hM.2.2.2.1 k hk).2.1)
  exact nI_lt (List.pairwise_iff_getElem.mp hp i j hi hj hij) (ct_bd hM (List.getElem_mem hj))
theorem AL.eq {T T' : TS} {a b : Nat} {l : List Nat} (h : AL T a l) (g : AL T' b l) {k : Nat} (hk : k < l.length) : gA T a k = gA T' b k := by
  have e : l[k]? = some l[k] := List.getElem?_eq_getElem hk
  rw [h k _ e, g k _ e]
theorem ctT_fr {is as : List Nat} {lo hi : Nat} {T T' : TS} (f : FR is as lo hi T T') (h1 : 51 ∉ is ∧ 55 ∉ is) (h2 : 2 ∉ as ∧ ¬ (lo ≤ 2 ∧ 2 < hi)) (x : Nat) : ctT T' x = ctT T x := by
  have e : vm T' = vm T := funext fun i => by unfold vm; rw [f.A h2.1 h2.2]
  unfold ctT vd ve
  rw [e, f.1 51 h1.1, f.1 55 h1.2]
def isin (A : Nat → Int32) (v : Int32) : Nat → Bool
  | 0 => false
  | m + 1 => isin A v m || decide (A m = v)
theorem isin_iff {A : Nat → Int32} {v : Int32} : ∀ {m : Nat}, isin A v m = true ↔ ∃ i, i < m ∧ A i = v
  | 0 => by simp [isin]
  | m + 1 => by
    rw [isin, Bool.or_eq_true, isin_iff, decide_eq_true_iff]
    constructor
    · rintro (⟨i, a, b⟩ | h)
      · exact ⟨i, by omega, b⟩
      · exact ⟨m, by omega, h⟩
    · rintro ⟨i, a, b⟩
      rcases Nat.lt_or_ge i m with q | q
      · exact Or.inl ⟨i, q, b⟩
      · have : i = m := by omega
        subst this
        exact Or.inr b
theorem isin_congr {A A' : Nat → Int32} {v : Int32} : ∀ {m : Nat}, (∀ i, i < m → A i = A' i) → isin A v m = isin A' v m
  | 0, _ => rfl
  | m + 1, h => by rw [isin, isin, isin_congr (fun i hi => h i (by omega)), h m (by omega)]
def mvn (A : Nat → Int32) (m : Nat) (B : Nat → Int32) (j : Nat) : Nat := nsum (fun k => if isin A (B k) m then 0 else 1) j
theorem mvn_congr {A A' B B' : Nat → Int32} {m p : Nat} (hA : ∀ i, i < m → A i = A' i) (hB : ∀ i, i < p → B i = B' i) : mvn A m B p = mvn A' m B' p := nsum_congr (fun k hk => by rw [hB k hk, isin_congr hA])
theorem mvn_le {A B : Nat → Int32} {m p : Nat} : mvn A m B p ≤ p := by
  have := nsum_bd (f := fun k => if isin A (B k) m then 0 else 1) (d := p) (b := 1) (fun k _ => by split <;> omega)
  unfold mvn
  omega

theorem add24 {n L v : Nat} {T : TS} (hL : gI T 1200 = nI L) (h : L < 21) : fX1_add_24 n (nI v) T = some (uI (sA T 25 (nI L) (nI v)) 1200 (nI (L + 1))) := by
  unfold fX1_add_24
  rw [hL, if_neg (show ¬ (21 : Int32) ≤ nI L from nI_ge (b := 21) h (by decide)), ck_nI h (by decide)]
  simp only [nm]
  rw [show gI (sA T 25 (nI L) (nI v)) 1200 = nI L from hL, nI_1]
theorem lay24_in {n p w c i : Nat} {l : List Nat} {y2 : Int32} {T : TS} (hn : 100 ≤ n) (hi : i < 6) (hw : gA T 2 i = nI w) (hl : AL T 25 l) (hs : gI T 1200 = nI l.length) (hc : l.length + c ≤ 21) : ∃ T', FR [1200] [25] 0 0 T T' ∧ AL T' 25 (l ++ rep p w c) ∧ gI T' 1200 = nI (l.length + c) ∧ (fun kk => fX1_lay_24_1_L38 n y2 (nI i) (nI c) kk n (nI p) 0 T) = fun kk => kk (nI (p + c * w)) T' := by
  refine lpi (fun f (s : Int32 × Int32 × TS) kk => fX1_lay_24_1_L38 n y2 (nI i) (nI c) kk f s.1 s.2.1 s.2.2) (fun j s => s.1 = nI (p + j * w) ∧ s.2.1 = nI j ∧ FR [1200] [25] 0 0 T s.2.2 ∧ AL s.2.2 25 (l ++ rep p w j) ∧ gI s.2.2 1200 = nI (l.length + j)) c (fun r => ∃ T', FR [1200] [25] 0 0 T T' ∧ AL T' 25 (l ++ rep p w c) ∧ gI T' 1200 = nI (l.length + c) ∧ r = fun kk => kk (nI (p + c * w)) T') ?_ ?_ n (nI p, 0, T) (by omega) ⟨by rw [Nat.zero_mul]; rfl, rfl, FR.rf, by rw [rep, List.append_nil]; exact hl, hs⟩
  · rintro j ⟨a, b, U⟩ hj ⟨h1, h2, h3, h4, h5⟩
    simp only at h1 h2 h3 h4 h5
    subst h1 h2
    refine ⟨(nI (p + (j + 1) * w), nI (j + 1), uI (sA U 25 (nI (l.length + j)) (nI (p + (j + 1) * w))) 1200 (nI (l.length + j + 1))), ⟨rfl, rfl, ?_, ?_, ?_⟩, fun f => funext fun kk => ?_⟩
    · exact (h3.trans (FR.sA (Or.inl (by decide)))).trans (FR.uI (by decide))
    · rw [rep, ← List.append_assoc]
      refine h4.push (by rw [List.length_append, rep_len]; omega) ?_
      rw [List.length_append, rep_len]
      rfl
    · exact gI_uI _ _ _
    · show fX1_lay_24_1_L38 n y2 (nI i) (nI c) kk (f + 1) (nI (p + j * w)) (nI j) U = _
      rw [fX1_lay_24_1_L38, if_neg (nI_ge hj (by omega)), ck_nI hi (by decide), nI_clamp (by omega), h3.A (k := 2) (by decide) (by decide), hw]
      simp only [nm]
      rw [nI_add, show p + j * w + w = p + (j + 1) * w by rw [Nat.succ_mul]; omega, add24 h5 (by omega), nI_1]
      rfl
  · rintro ⟨a, b, U⟩ ⟨h1, h2, h3, h4, h5⟩ f
    simp only at h1 h2 h3 h4 h5
    subst h1 h2
    refine ⟨U, h3, h4, h5, funext fun kk => ?_⟩
    show fX1_lay_24_1_L38 n y2 (nI i) (nI c) kk (f + 1) (nI (p + c * w)) (nI c) U = _
    rw [fX1_lay_24_1_L38, if_pos (nI_le (Nat.le_refl c) (by omega))]
theorem lay24 {n x : Nat} {T : TS} (hn : 100 ≤ n) (hM : GM T) (ok : okc (vd T) x) : ∃ T', fX1_lay_24_1 n (nI x) T = some T' ∧ FR [1200] [25] 0 0 T T' ∧ AL T' 25 (ctT T x) ∧ gI T' 1200 = nI (ctT T x).length := by
  obtain ⟨d1, d2, d6⟩ := hM.d
  unfold fX1_lay_24_1
  simp only [nm]
  have e0 : gI (uI T 1200 0) 51 = nI (ve T) := hM.1.2.1
  rw [e0, add24 (T := uI T 1200 0) (L := 0) (show gI (uI T 1200 0) 1200 = nI 0 from gI_uI T 1200 0) (by decide)]
  show ∃ T', fX1_lay_24_1_L18 n (nI x) (fun T_12 => some T_12) n (nI (ve T)) 0 (uI (sA (uI T 1200 0) 25 (nI 0) (nI (ve T))) 1200 (nI (0 + 1))) = some T' ∧ _
  have f0 : FR [1200] [25] 0 0 T (uI (sA (uI T 1200 0) 25 (nI 0) (nI (ve T))) 1200 (nI (0 + 1))) := ((FR.uI (by decide)).trans (FR.sA (Or.inl (by decide)))).trans (FR.uI (by decide))
  have l0 : AL (uI (sA (uI T 1200 0) 25 (nI 0) (nI (ve T))) 1200 (nI (0 + 1))) 25 (ct (vm T) x (ve T) 0) := AL.push (T := uI T 1200 0) (l := []) (fun k v hk => by simp at hk) (by decide) rfl
  refine lpi (fun f (s : Int32 × Int32 × TS) => fX1_lay_24_1_L18 n (nI x) (fun T_12 => some T_12) f s.1 s.2.1 s.2.2) (fun j s => s.1 = nI (ca (vm T) x (ve T) j) ∧ s.2.1 = nI j ∧ FR [1200] [25] 0 0 T s.2.2 ∧ AL s.2.2 25 (ct (vm T) x (ve T) j) ∧ gI s.2.2 1200 = nI (ct (vm T) x (ve T) j).length) (vd T) (fun r => ∃ T', r = some T' ∧ FR [1200] [25] 0 0 T T' ∧ AL T' 25 (ctT T x) ∧ gI T' 1200 = nI (ctT T x).length) ?_ ?_ n (nI (ve T), 0, _) (by omega) ⟨rfl, rfl, f0, l0, gI_uI _ _ _⟩
  · rintro j ⟨a, b, U⟩ hj ⟨h1, h2, h3, h4, h5⟩
    simp only at h1 h2 h3 h4 h5
    subst h1 h2
    have hlen := ct_le (mm := vm T) (e := ve T) ok (show j + 1 ≤ 6 by omega)
    rw [ct, List.length_append, rep_len] at hlen
    obtain ⟨V, g1, g2, g3, g4⟩ := lay24_in (n := n) (p := ca (vm T) x (ve T) j) (w := vm T j) (c := cn x j) (i := j) (l := ct (vm T) x (ve T) j) (y2 := nI x) (T := U) hn (by omega) (by rw [h3.A (k := 2) (by decide) (by decide)]; exact (hM.2.2.2.1 j hj).1) h4 h5 hlen
    refine ⟨(nI (ca (vm T) x (ve T) (j + 1)), nI (j + 1), V), ⟨rfl, rfl, h3.trans g1, g2, ?_⟩, fun f => ?_⟩
    · show gI V 1200 = _
      rw [g3, ct, List.length_append, rep_len]
    · show fX1_lay_24_1_L18 n (nI x) _ (f + 1) (nI (ca (vm T) x (ve T) j)) (nI j) U = _
      rw [fX1_lay_24_1_L18, h3.I (k := 55) (by decide), d1, if_neg (nI_ge hj (by omega)), ofW_nI ok.1 (by omega)]
      simp only [bd]
      rw [congrFun g4, nI_1, ca_succ]
  · rintro ⟨a, b, U⟩ ⟨h1, h2, h3, h4, h5⟩ f
    simp only at h1 h2 h3 h4 h5
    subst h1 h2
    refine ⟨U, ?_, h3, h4, h5⟩
    show fX1_lay_24_1_L18 n (nI x) _ (f + 1) _ (nI (vd T)) U = _
    rw [fX1_lay_24_1_L18, h3.I (k := 55) (by decide), d1, if_pos (nI_le (Nat.le_refl _) (by omega))]

theorem add22 {n L v : Nat} {T : TS} (hL : gI T 1100 = nI L) (h : L < 21) : fX1_add_22 n (nI v) T = some (uI (sA T 23 (nI L) (nI v)) 1100 (nI (L + 1))) := by
  unfold fX1_add_22
  rw [hL, if_neg (show ¬ (21 : Int32) ≤ nI L from nI_ge (b := 21) h (by decide)), ck_nI h (by decide)]
  simp only [nm]
  rw [show gI (sA T 23 (nI L) (nI v)) 1100 = nI L from hL, nI_1]
theorem lay22_in {n p w c i : Nat} {l : List Nat} {y2 : Int32} {T : TS} (hn : 100 ≤ n) (hi : i < 6) (hw : gA T 2 i = nI w) (hl : AL T 23 l) (hs : gI T 1100 = nI l.length) (hc : l.length + c ≤ 21) : ∃ T', FR [1100] [23] 0 0 T T' ∧ AL T' 23 (l ++ rep p w c) ∧ gI T' 1100 = nI (l.length + c) ∧ (fun kk => fX1_lay_22_1_L38 n y2 (nI i) (nI c) kk n (nI p) 0 T) = fun kk => kk (nI (p + c * w)) T' := by
  refine lpi (fun f (s : Int32 × Int32 × TS) kk => fX1_lay_22_1_L38 n y2 (nI i) (nI c) kk f s.1 s.2.1 s.2.2) (fun j s => s.1 = nI (p + j * w) ∧ s.2.1 = nI j ∧ FR [1100] [23] 0 0 T s.2.2 ∧ AL s.2.2 23 (l ++ rep p w j) ∧ gI s.2.2 1100 = nI (l.length + j)) c (fun r => ∃ T', FR [1100] [23] 0 0 T T' ∧ AL T' 23 (l ++ rep p w c) ∧ gI T' 1100 = nI (l.length + c) ∧ r = fun kk => kk (nI (p + c * w)) T') ?_ ?_ n (nI p, 0, T) (by omega) ⟨by rw [Nat.zero_mul]; rfl, rfl, FR.rf, by rw [rep, List.append_nil]; exact hl, hs⟩
  · rintro j ⟨a, b, U⟩ hj ⟨h1, h2, h3, h4, h5⟩
    simp only at h1 h2 h3 h4 h5
    subst h1 h2
    refine ⟨(nI (p + (j + 1) * w), nI (j + 1), uI (sA U 23 (nI (l.length + j)) (nI (p + (j + 1) * w))) 1100 (nI (l.length + j + 1))), ⟨rfl, rfl, ?_, ?_, ?_⟩, fun f => funext fun kk => ?_⟩
    · exact (h3.trans (FR.sA (Or.inl (by decide)))).trans (FR.uI (by decide))
    · rw [rep, ← List.append_assoc]
      refine h4.push (by rw [List.length_append, rep_len]; omega) ?_
      rw [List.length_append, rep_len]
      rfl
    · exact gI_uI _ _ _
    · show fX1_lay_22_1_L38 n y2 (nI i) (nI c) kk (f + 1) (nI (p + j * w)) (nI j) U = _
      rw [fX1_lay_22_1_L38, if_neg (nI_ge hj (by omega)), ck_nI hi (by decide), nI_clamp (by omega), h3.A (k := 2) (by decide) (by decide), hw]
      simp only [nm]
      rw [nI_add, show p + j * w + w = p + (j + 1) * w by rw [Nat.succ_mul]; omega, add22 h5 (by omega), nI_1]
      rfl
  · rintro ⟨a, b, U⟩ ⟨h1, h2, h3, h4, h5⟩ f
    simp only at h1 h2 h3 h4 h5
    subst h1 h2
    refine ⟨U, h3, h4, h5, funext fun kk => ?_⟩
    show fX1_lay_22_1_L38 n y2 (nI i) (nI c) kk (f + 1) (nI (p + c * w)) (nI c) U = _
    rw [fX1_lay_22_1_L38, if_pos (nI_le (Nat.le_refl c) (by omega))]
theorem lay22 {n x : Nat} {T : TS} (hn : 100 ≤ n) (hM : GM T) (ok : okc (vd T) x) : ∃ T', fX1_lay_22_1 n (nI x) T = some T' ∧ FR [1100] [23] 0 0 T T' ∧ AL T' 23 (ctT T x) ∧ gI T' 1100 = nI (ctT T x).length := by
  obtain ⟨d1, d2, d6⟩ := hM.d
  unfold fX1_lay_22_1
  simp only [nm]
  have e0 : gI (uI T 1100 0) 51 = nI (ve T) := hM.1.2.1
  rw [e0, add22 (T := uI T 1100 0) (L := 0) (show gI (uI T 1100 0) 1100 = nI 0 from gI_uI T 1100 0) (by decide)]
  show ∃ T', fX1_lay_22_1_L18 n (nI x) (fun T_12 => some T_12) n (nI (ve T)) 0 (uI (sA (uI T 1100 0) 23 (nI 0) (nI (ve T))) 1100 (nI (0 + 1))) = some T' ∧ _
  have f0 : FR [1100] [23] 0 0 T (uI (sA (uI T 1100 0) 23 (nI 0) (nI (ve T))) 1100 (nI (0 + 1))) := ((FR.uI (by decide)).trans (FR.sA (Or.inl (by decide)))).trans (FR.uI (by decide))
  have l0 : AL (uI (sA (uI T 1100 0) 23 (nI 0) (nI (ve T))) 1100 (nI (0 + 1))) 23 (ct (vm T) x (ve T) 0) := AL.push (T := uI T 1100 0) (l := []) (fun k v hk => by simp at hk) (by decide) rfl
  refine lpi (fun f (s : Int32 × Int32 × TS) => fX1_lay_22_1_L18 n (nI x) (fun T_12 => some T_12) f s.1 s.2.1 s.2.2) (fun j s => s.1 = nI (ca (vm T) x (ve T) j) ∧ s.2.1 = nI j ∧ FR [1100] [23] 0 0 T s.2.2 ∧ AL s.2.2 23 (ct (vm T) x (ve T) j) ∧ gI s.2.2 1100 = nI (ct (vm T) x (ve T) j).length) (vd T) (fun r => ∃ T', r = some T' ∧ FR [1100] [23] 0 0 T T' ∧ AL T' 23 (ctT T x) ∧ gI T' 1100 = nI (ctT T x).length) ?_ ?_ n (nI (ve T), 0, _) (by omega) ⟨rfl, rfl, f0, l0, gI_uI _ _ _⟩
  · rintro j ⟨a, b, U⟩ hj ⟨h1, h2, h3, h4, h5⟩
    simp only at h1 h2 h3 h4 h5
    subst h1 h2
    have hlen := ct_le (mm := vm T) (e := ve T) ok (show j + 1 ≤ 6 by omega)
    rw [ct, List.length_append, rep_len] at hlen
    obtain ⟨V, g1, g2, g3, g4⟩ := lay22_in (n := n) (p := ca (vm T) x (ve T) j) (w := vm T j) (c := cn x j) (i := j) (l := ct (vm T) x (ve T) j) (y2 := nI x) (T := U) hn (by omega) (by rw [h3.A (k := 2) (by decide) (by decide)]; exact (hM.2.2.2.1 j hj).1) h4 h5 hlen
    refine ⟨(nI (ca (vm T) x (ve T) (j + 1)), nI (j + 1), V), ⟨rfl, rfl, h3.trans g1, g2, ?_⟩, fun f => ?_⟩
    · show gI V 1100 = _
      rw [g3, ct, List.length_append, rep_len]
    · show fX1_lay_22_1_L18 n (nI x) _ (f + 1) (nI (ca (vm T) x (ve T) j)) (nI j) U = _
      rw [fX1_lay_22_1_L18, h3.I (k := 55) (by decide), d1, if_neg (nI_ge hj (by omega)), ofW_nI ok.1 (by omega)]
      simp only [bd]
      rw [congrFun g4, nI_1, ca_succ]
  · rintro ⟨a, b, U⟩ ⟨h1, h2, h3, h4, h5⟩ f
    simp only at h1 h2 h3 h4 h5
    subst h1 h2
    refine ⟨U, ?_, h3, h4, h5⟩
    show fX1_lay_22_1_L18 n (nI x) _ (f + 1) _ (nI (vd T)) U = _
    rw [fX1_lay_22_1_L18, h3.I (k := 55) (by decide), d1, if_pos (nI_le (Nat.le_refl _) (by omega))]

theorem cuts60_in {n p w c i q : Nat} {l : List Nat} {T : TS} (hn : 100 ≤ n) (hq1 : 67 ≤ q) (hq2 : q < 3247) (hi : i < 6) (hw : gA T 42 i = nI w) (hq : gA T q i = nI c) (hl : AL T 60 l) (hc : l.length + c ≤ 21) : ∃ T', FR [] [60] 0 0 T T' ∧ AL T' 60 (l ++ rep p w c) ∧ (fun kk => fX11_cutsOf_60_L31 n q (nI i) kk n (nI p) (nI l.length) 0 T) = fun kk => kk (nI (p + c * w)) (nI (l.length + c)) T' := by
  refine lpi (fun f (s : Int32 × Int32 × Int32 × TS) kk => fX11_cutsOf_60_L31 n q (nI i) kk f s.1 s.2.1 s.2.2.1 s.2.2.2) (fun j s => s.1 = nI (p + j * w) ∧ s.2.1 = nI (l.length + j) ∧ s.2.2.1 = nI j ∧ FR [] [60] 0 0 T s.2.2.2 ∧ AL s.2.2.2 60 (l ++ rep p w j)) c (fun r => ∃ T', FR [] [60] 0 0 T T' ∧ AL T' 60 (l ++ rep p w c) ∧ r = fun kk => kk (nI (p + c * w)) (nI (l.length + c)) T') ?_ ?_ n (nI p, nI l.length, 0, T) (by omega) ⟨by rw [Nat.zero_mul]; rfl, rfl, rfl, FR.rf, by rw [rep, List.append_nil]; exact hl⟩
  · rintro j ⟨a, b, d, U⟩ hj ⟨h1, h2, h2', h3, h4⟩
    simp only at h1 h2 h2' h3 h4
    subst h1 h2 h2'
    refine ⟨(nI (p + (j + 1) * w), nI (l.length + (j + 1)), nI (j + 1), sA U 60 (nI (l.length + j)) (nI (p + (j + 1) * w))), ⟨rfl, rfl, rfl, ?_, ?_⟩, fun f => funext fun kk => ?_⟩
    · exact h3.trans (FR.sA (Or.inl (by decide)))
    · rw [rep, ← List.append_assoc]
      refine h4.push (by rw [List.length_append, rep_len]; omega) ?_
      rw [List.length_append, rep_len]
    · show fX11_cutsOf_60_L31 n q (nI i) kk (f + 1) (nI (p + j * w)) (nI (l.length + j)) (nI j) U = _
      rw [fX11_cutsOf_60_L31, ak_row hq1 (by omega), al_6 hq2, ck_nI hi (by decide), nI_clamp (show i < 2 ^ 31 by omega), h3.A (k := q) (by simp only [List.mem_cons, List.not_mem_nil, or_false]; omega) (by omega), hq, if_neg (nI_ge hj (by omega)), ck_nI hi (by decide), h3.A (k := 42) (by decide) (by decide), hw]
      simp only [nm]
      rw [nI_add, show p + j * w + w = p + (j + 1) * w by rw [Nat.succ_mul]; omega, ck_nI (by omega) (by decide), nI_1, nI_1]
      rfl
  · rintro ⟨a, b, d, U⟩ ⟨h1, h2, h2', h3, h4⟩ f
    simp only at h1 h2 h2' h3 h4
    subst h1 h2 h2'
    refine ⟨U, h3, h4, funext fun kk => ?_⟩
    show fX11_cutsOf_60_L31 n q (nI i) kk (f + 1) (nI (p + c * w)) (nI (l.length + c)) (nI c) U = _
    rw [fX11_cutsOf_60_L31, ak_row hq1 (by omega), al_6 hq2, ck_nI hi (by decide), nI_clamp (show i < 2 ^ 31 by omega), h3.A (k := q) (by simp only [List.mem_cons, List.not_mem_nil, or_false]; omega) (by omega), hq, if_pos (nI_le (Nat.le_refl c) (by omega))]
theorem cuts60 {n x q : Nat} {T : TS} (hn : 100 ≤ n) (hM : GM T) (hq1 : 67 ≤ q) (hq2 : q < 3247) (ok : okc (vd T) x) (hcc : ∀ i, i < 6 → gA T q i = nI (cn x i)) : ∃ T', fX11_cutsOf_60 n q T = some (nI (ctT T x).length, T') ∧ FR [] [60] 0 0 T T' ∧ AL T' 60 (ctT T x) := by
  obtain ⟨d1, d2, d6⟩ := hM.d
  unfold fX11_cutsOf_60
  simp only [nm]
  have e0 : gI T 2052 = nI (ve T) := hM.2.1.2.1.trans hM.1.2.1
  rw [e0, show (0 : Int32) = nI 0 from rfl, ck_nI (by decide) (by decide), nI_1]
  have f0 : FR [] [60] 0 0 T (sA T 60 (nI 0) (nI (ve T))) := FR.sA (Or.inl (by decide))
  have l0 : AL (sA T 60 (nI 0) (nI (ve T))) 60 (ct (vm T) x (ve T) 0) := AL.push (T := T) (l := []) (fun k v hk => by simp at hk) (by decide) rfl
  refine lpi (fun f (s : Int32 × Int32 × Int32 × TS) => fX11_cutsOf_60_L19 n q (fun e4_8 T_9 => some (e4_8, T_9)) f s.1 s.2.1 s.2.2.1 s.2.2.2) (fun j s => s.1 = nI (ca (vm T) x (ve T) j) ∧ s.2.1 = nI (ct (vm T) x (ve T) j).length ∧ s.2.2.1 = nI j ∧ FR [] [60] 0 0 T s.2.2.2 ∧ AL s.2.2.2 60 (ct (vm T) x (ve T) j)) (vd T) (fun r => ∃ T', r = some (nI (ctT T x).length, T') ∧ FR [] [60] 0 0 T T' ∧ AL T' 60 (ctT T x)) ?_ ?_ n (nI (ve T), nI (0 + 1), nI 0, _) (by omega) ⟨rfl, rfl, rfl, f0, l0⟩
  · rintro j ⟨a, b, d, U⟩ hj ⟨h1, h2, h2', h3, h4⟩
    simp only at h1 h2 h2' h3 h4
    subst h1 h2 h2'
    have hlen := ct_le (mm := vm T) (e := ve T) ok (show j + 1 ≤ 6 by omega)
    rw [ct, List.length_append, rep_len] at hlen
    have hm := hM.2.2.2.1 j hj
    obtain ⟨V, g1, g2, g4⟩ := cuts60_in (n := n) (p := ca (vm T) x (ve T) j) (w := vm T j) (c := cn x j) (i := j) (l := ct (vm T) x (ve T) j) (T := U) hn hq1 hq2 (by omega) (by rw [h3.A (k := 42) (by decide) (by decide), hm.2.2.2]; exact hm.1) (by rw [h3.A (k := q) (by simp only [List.mem_cons, List.not_mem_nil, or_false]; omega) (by omega)]; exact hcc j (by omega)) h4 hlen
    refine ⟨(nI (ca (vm T) x (ve T) (j + 1)), nI (ct (vm T) x (ve T) (j + 1)).length, nI (j + 1), V), ⟨rfl, rfl, rfl, h3.trans g1, g2⟩, fun f => ?_⟩
    show fX11_cutsOf_60_L19 n q _ (f + 1) (nI (ca (vm T) x (ve T) j)) (nI (ct (vm T) x (ve T) j).length) (nI j) U = _
    rw [fX11_cutsOf_60_L19, h3.I (k := 2056) (by decide), d2, if_neg (nI_ge hj (by omega)), congrFun g4, nI_1, ct, List.length_append, rep_len, ca_succ]
  · rintro ⟨a, b, d, U⟩ ⟨h1, h2, h2', h3, h4⟩ f
    simp only at h1 h2 h2' h3 h4
    subst h1 h2 h2'
    refine ⟨U, ?_, h3, h4⟩
    show fX11_cutsOf_60_L19 n q _ (f + 1) _ _ (nI (vd T)) U = _
    rw [fX11_cutsOf_60_L19, h3.I (k := 2056) (by decide), d2, if_pos (nI_le (Nat.le_refl _) (by omega))]
    rfl

theorem cuts59_in {n p w c i q : Nat} {l : List Nat} {T : TS} (hn : 100 ≤ n) (hq1 : 67 ≤ q) (hq2 : q < 3247) (hi : i < 6) (hw : gA T 42 i = nI w) (hq : gA T q i = nI c) (hl : AL T 59 l) (hc : l.length + c ≤ 21) : ∃ T', FR [] [59] 0 0 T T' ∧ AL T' 59 (l ++ rep p w c) ∧ (fun kk => fX11_cutsOf_59_L31 n q (nI i) kk n (nI p) (nI l.length) 0 T) = fun kk => kk (nI (p + c * w)) (nI (l.length + c)) T' := by
  refine lpi (fun f (s : Int32 × Int32 × Int32 × TS) kk => fX11_cutsOf_59_L31 n q (nI i) kk f s.1 s.2.1 s.2.2.1 s.2.2.2) (fun j s => s.1 = nI (p + j * w) ∧ s.2.1 = nI (l.length + j) ∧ s.2.2.1 = nI j ∧ FR [] [59] 0 0 T s.2.2.2 ∧ AL s.2.2.2 59 (l ++ rep p w j)) c (fun r => ∃ T', FR [] [59] 0 0 T T' ∧ AL T' 59 (l ++ rep p w c) ∧ r = fun kk => kk (nI (p + c * w)) (nI (l.length + c)) T') ?_ ?_ n (nI p, nI l.length, 0, T) (by omega) ⟨by rw [Nat.zero_mul]; rfl, rfl, rfl, FR.rf, by rw [rep, List.append_nil]; exact hl⟩
  · rintro j ⟨a, b, d, U⟩ hj ⟨h1, h2, h2', h3, h4⟩
    simp only at h1 h2 h2' h3 h4
    subst h1 h2 h2'
    refine ⟨(nI (p + (j + 1) * w), nI (l.length + (j + 1)), nI (j + 1), sA U 59 (nI (l.length + j)) (nI (p + (j + 1) * w))), ⟨rfl, rfl, rfl, ?_, ?_⟩, fun f => funext fun kk => ?_⟩
    · exact h3.trans (FR.sA (Or.inl (by decide)))
    · rw [rep, ← List.append_assoc]
      refine h4.push (by rw [List.length_append, rep_len]; omega) ?_
      rw [List.length_append, rep_len]
    · show fX11_cutsOf_59_L31 n q (nI i) kk (f + 1) (nI (p + j * w)) (nI (l.length + j)) (nI j) U = _
      rw [fX11_cutsOf_59_L31, ak_row hq1 (by omega), al_6 hq2, ck_nI hi (by decide), nI_clamp (show i < 2 ^ 31 by omega), h3.A (k := q) (by simp only [List.mem_cons, List.not_mem_nil, or_false]; omega) (by omega), hq, if_neg (nI_ge hj (by omega)), ck_nI hi (by decide), h3.A (k := 42) (by decide) (by decide), hw]
      simp only [nm]
      rw [nI_add, show p + j * w + w = p + (j + 1) * w by rw [Nat.succ_mul]; omega, ck_nI (by omega) (by decide), nI_1, nI_1]
      rfl
  · rintro ⟨a, b, d, U⟩ ⟨h1, h2, h2', h3, h4⟩ f
    simp only at h1 h2 h2' h3 h4
    subst h1 h2 h2'
    refine ⟨U, h3, h4, funext fun kk => ?_⟩
    show fX11_cutsOf_59_L31 n q (nI i) kk (f + 1) (nI (p + c * w)) (nI (l.length + c)) (nI c) U = _
    rw [fX11_cutsOf_59_L31, ak_row hq1 (by omega), al_6 hq2, ck_nI hi (by decide), nI_clamp (show i < 2 ^ 31 by omega), h3.A (k := q) (by simp only [List.mem_cons, List.not_mem_nil, or_false]; omega) (by omega), hq, if_pos (nI_le (Nat.le_refl c) (by omega))]
theorem cuts59 {n x q : Nat} {T : TS} (hn : 100 ≤ n) (hM : GM T) (hq1 : 67 ≤ q) (hq2 : q < 3247) (ok : okc (vd T) x) (hcc : ∀ i, i < 6 → gA T q i = nI (cn x i)) : ∃ T', fX11_cutsOf_59 n q T = some (nI (ctT T x).length, T') ∧ FR [] [59] 0 0 T T' ∧ AL T' 59 (ctT T x) := by
  obtain ⟨d1, d2, d6⟩ := hM.d
  unfold fX11_cutsOf_59
  simp only [nm]
  have e0 : gI T 2052 = nI (ve T) := hM.2.1.2.1.trans hM.1.2.1
  rw [e0, show (0 : Int32) = nI 0 from rfl, ck_nI (by decide) (by decide), nI_1]
  have f0 : FR [] [59] 0 0 T (sA T 59 (nI 0) (nI (ve T))) := FR.sA (Or.inl (by decide))
  have l0 : AL (sA T 59 (nI 0) (nI (ve T))) 59 (ct (vm T) x (ve T) 0) := AL.push (T := T) (l := []) (fun k v hk => by simp at hk) (by decide) rfl
  refine lpi (fun f (s : Int32 × Int32 × Int32 × TS) => fX11_cutsOf_59_L19 n q (fun e4_8 T_9 => some (e4_8, T_9)) f s.1 s.2.1 s.2.2.1 s.2.2.2) (fun j s => s.1 = nI (ca (vm T) x (ve T) j) ∧ s.2.1 = nI (ct (vm T) x (ve T) j).length ∧ s.2.2.1 = nI j ∧ FR [] [59] 0 0 T s.2.2.2 ∧ AL s.2.2.2 59 (ct (vm T) x (ve T) j)) (vd T) (fun r => ∃ T', r = some (nI (ctT T x).length, T') ∧ FR [] [59] 0 0 T T' ∧ AL T' 59 (ctT T x)) ?_ ?_ n (nI (ve T), nI (0 + 1), nI 0, _) (by omega) ⟨rfl, rfl, rfl, f0, l0⟩
  · rintro j ⟨a, b, d, U⟩ hj ⟨h1, h2, h2', h3, h4⟩
    simp only at h1 h2 h2' h3 h4
    subst h1 h2 h2'
    have hlen := ct_le (mm := vm T) (e := ve T) ok (show j + 1 ≤ 6 by omega)
    rw [ct, List.length_append, rep_len] at hlen
    have hm := hM.2.2.2.1 j hj
    obtain ⟨V, g1, g2, g4⟩ := cuts59_in (n := n) (p := ca (vm T) x (ve T) j) (w := vm T j) (c := cn x j) (i := j) (l := ct (vm T) x (ve T) j) (T := U) hn hq1 hq2 (by omega) (by rw [h3.A (k := 42) (by decide) (by decide), hm.2.2.2]; exact hm.1) (by rw [h3.A (k := q) (by simp only [List.mem_cons, List.not_mem_nil, or_false]; omega) (by omega)]; exact hcc j (by omega)) h4 hlen
    refine ⟨(nI (ca (vm T) x (ve T) (j + 1)), nI (ct (vm T) x (ve T) (j + 1)).length, nI (j + 1), V), ⟨rfl, rfl, rfl, h3.trans g1, g2⟩, fun f => ?_⟩
    show fX11_cutsOf_59_L19 n q _ (f + 1) (nI (ca (vm T) x (ve T) j)) (nI (ct (vm T) x (ve T) j).length) (nI j) U = _
    rw [fX11_cutsOf_59_L19, h3.I (k := 2056) (by decide), d2, if_neg (nI_ge hj (by omega)), congrFun g4, nI_1, ct, List.length_append, rep_len, ca_succ]
  · rintro ⟨a, b, d, U⟩ ⟨h1, h2, h2', h3, h4⟩ f
    simp only at h1 h2 h2' h3 h4
    subst h1 h2 h2'
    refine ⟨U, ?_, h3, h4⟩
    show fX11_cutsOf_59_L19 n q _ (f + 1) _ _ (nI (vd T)) U = _
    rw [fX11_cutsOf_59_L19, h3.I (k := 2056) (by decide), d2, if_pos (nI_le (Nat.le_refl _) (by omega))]
    rfl

theorem cuts58_in {n p w c i q : Nat} {l : List Nat} {T : TS} (hn : 100 ≤ n) (hq1 : 67 ≤ q) (hq2 : q < 3247) (hi : i < 6) (hw : gA T 42 i = nI w) (hq : gA T q i = nI c) (hl : AL T 58 l) (hc : l.length + c ≤ 21) : ∃ T', FR [] [58] 0 0 T T' ∧ AL T' 58 (l ++ rep p w c) ∧ (fun kk => fX11_cutsOf_58_L31 n q (nI i) kk n (nI p) (nI l.length) 0 T) = fun kk => kk (nI (p + c * w)) (nI (l.length + c)) T' := by
  refine lpi (fun f (s : Int32 × Int32 × Int32 × TS) kk => fX11_cutsOf_58_L31 n q (nI i) kk f s.1 s.2.1 s.2.2.1 s.2.2.2) (fun j s => s.1 = nI (p + j * w) ∧ s.2.1 = nI (l.length + j) ∧ s.2.2.1 = nI j ∧ FR [] [58] 0 0 T s.2.2.2 ∧ AL s.2.2.2 58 (l ++ rep p w j)) c (fun r => ∃ T', FR [] [58] 0 0 T T' ∧ AL T' 58 (l ++ rep p w c) ∧ r = fun kk => kk (nI (p + c * w)) (nI (l.length + c)) T') ?_ ?_ n (nI p, nI l.length, 0, T) (by omega) ⟨by rw [Nat.zero_mul]; rfl, rfl, rfl, FR.rf, by rw [rep, List.append_nil]; exact hl⟩
  · rintro j ⟨a, b, d, U⟩ hj ⟨h1, h2, h2', h3, h4⟩
    simp only at h1 h2 h2' h3 h4
    subst h1 h2 h2'
    refine ⟨(nI (p + (j + 1) * w), nI (l.length + (j + 1)), nI (j + 1), sA U 58 (nI (l.length + j)) (nI (p + (j + 1) * w))), ⟨rfl, rfl, rfl, ?_, ?_⟩, fun f => funext fun kk => ?_⟩
    · exact h3.trans (FR.sA (Or.inl (by decide)))
    · rw [rep, ← List.append_assoc]
      refine h4.push (by rw [List.length_append, rep_len]; omega) ?_
      rw [List.length_append, rep_len]
    · show fX11_cutsOf_58_L31 n q (nI i) kk (f + 1) (nI (p + j * w)) (nI (l.length + j)) (nI j) U = _
      rw [fX11_cutsOf_58_L31, ak_row hq1 (by omega), al_6 hq2, ck_nI hi (by decide), nI_clamp (show i < 2 ^ 31 by omega), h3.A (k := q) (by simp only [List.mem_cons, List.not_mem_nil, or_false]; omega) (by omega), hq, if_neg (nI_ge hj (by omega)), ck_nI hi (by decide), h3.A (k := 42) (by decide) (by decide), hw]
      simp only [nm]
      rw [nI_add, show p + j * w + w = p + (j + 1) * w by rw [Nat.succ_mul]; omega, ck_nI (by omega) (by decide), nI_1, nI_1]
      rfl
  · rintro ⟨a, b, d, U⟩ ⟨h1, h2, h2', h3, h4⟩ f
    simp only at h1 h2 h2' h3 h4
    subst h1 h2 h2'
    refine ⟨U, h3, h4, funext fun kk => ?_⟩
    show fX11_cutsOf_58_L31 n q (nI i) kk (f + 1) (nI (p + c * w)) (nI (l.length + c)) (nI c) U = _
    rw [fX11_cutsOf_58_L31, ak_row hq1 (by omega), al_6 hq2, ck_nI hi (by decide), nI_clamp (show i < 2 ^ 31 by omega), h3.A (k := q) (by simp only [List.mem_cons, List.not_mem_nil, or_false]; omega) (by omega), hq, if_pos (nI_le (Nat.le_refl c) (by omega))]
theorem cuts58 {n x q : Nat} {T : TS} (hn : 100 ≤ n) (hM : GM T) (hq1 : 67 ≤ q) (hq2 : q < 3247) (ok : okc (vd T) x) (hcc : ∀ i, i < 6 → gA T q i = nI (cn x i)) : ∃ T', fX11_cutsOf_58 n q T = some (nI (ctT T x).length, T') ∧ FR [] [58] 0 0 T T' ∧ AL T' 58 (ctT T x) := by
  obtain ⟨d1, d2, d6⟩ := hM.d
  unfold fX11_cutsOf_58
  simp only [nm]
  have e0 : gI T 2052 = nI (ve T) := hM.2.1.2.1.trans hM.1.2.1
  rw [e0, show (0 : Int32) = nI 0 from rfl, ck_nI (by decide) (by decide), nI_1]
  have f0 : FR [] [58] 0 0 T (sA T 58 (nI 0) (nI (ve T))) := FR.sA (Or.inl (by decide))
  have l0 : AL (sA T 58 (nI 0) (nI (ve T))) 58 (ct (vm T) x (ve T) 0) := AL.push (T := T) (l := []) (fun k v hk => by simp at hk) (by decide) rfl
  refine lpi (fun f (s : Int32 × Int32 × Int32 × TS) => fX11_cutsOf_58_L19 n q (fun e4_8 T_9 => some (e4_8, T_9)) f s.1 s.2.1 s.2.2.1 s.2.2.2) (fun j s => s.1 = nI (ca (vm T) x (ve T) j) ∧ s.2.1 = nI (ct (vm T) x (ve T) j).length ∧ s.2.2.1 = nI j ∧ FR [] [58] 0 0 T s.2.2.2 ∧ AL s.2.2.2 58 (ct (vm T) x (ve T) j)) (vd T) (fun r => ∃ T', r = some (nI (ctT T x).length, T') ∧ FR [] [58] 0 0 T T' ∧ AL T' 58 (ctT T x)) ?_ ?_ n (nI (ve T), nI (0 + 1), nI 0, _) (by omega) ⟨rfl, rfl, rfl, f0, l0⟩
  · rintro j ⟨a, b, d, U⟩ hj ⟨h1, h2, h2', h3, h4⟩
    simp only at h1 h2 h2' h3 h4
    subst h1 h2 h2'
    have hlen := ct_le (mm := vm T) (e := ve T) ok (show j + 1 ≤ 6 by omega)
    rw [ct, List.length_append, rep_len] at hlen
    have hm := hM.2.2.2.1 j hj
    obtain ⟨V, g1, g2, g4⟩ := cuts58_in (n := n) (p := ca (vm T) x (ve T) j) (w := vm T j) (c := cn x j) (i := j) (l := ct (vm T) x (ve T) j) (T := U) hn hq1 hq2 (by omega) (by rw [h3.A (k := 42) (by decide) (by decide), hm.2.2.2]; exact hm.1) (by rw [h3.A (k := q) (by simp only [List.mem_cons, List.not_mem_nil, or_false]; omega) (by omega)]; exact hcc j (by omega)) h4 hlen
    refine ⟨(nI (ca (vm T) x (ve T) (j + 1)), nI (ct (vm T) x (ve T) (j + 1)).length, nI (j + 1), V), ⟨rfl, rfl, rfl, h3.trans g1, g2⟩, fun f => ?_⟩
    show fX11_cutsOf_58_L19 n q _ (f + 1) (nI (ca (vm T) x (ve T) j)) (nI (ct (vm T) x (ve T) j).length) (nI j) U = _
    rw [fX11_cutsOf_58_L19, h3.I (k := 2056) (by decide), d2, if_neg (nI_ge hj (by omega)), congrFun g4, nI_1, ct, List.length_append, rep_len, ca_succ]
  · rintro ⟨a, b, d, U⟩ ⟨h1, h2, h2', h3, h4⟩ f
    simp only at h1 h2 h2' h3 h4
    subst h1 h2 h2'
    refine ⟨U, ?_, h3, h4⟩
    show fX11_cutsOf_58_L19 n q _ (f + 1) _ _ (nI (vd T)) U = _
    rw [fX11_cutsOf_58_L19, h3.I (k := 2056) (by decide), d2, if_pos (nI_le (Nat.le_refl _) (by omega))]
    rfl
