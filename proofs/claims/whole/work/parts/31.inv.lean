/-! ===== the invariant between calls ===== -/
def vw (T : TS) : Nat := (gI T 50).toNatClampNeg
def ve (T : TS) : Nat := (gI T 51).toNatClampNeg
def vk (T : TS) : Nat := (gI T 52).toNatClampNeg
def vf (T : TS) : Nat := (gI T 53).toNatClampNeg
def vg (T : TS) : Nat := (gI T 54).toNatClampNeg
def vd (T : TS) : Nat := (gI T 55).toNatClampNeg
def vm (T : TS) (i : Nat) : Nat := (gA T 2 i).toNatClampNeg
def vq (T : TS) (p : Nat) : Nat := (gA T 3 p).toNatClampNeg
/-- the mill and its widths, in the class and in the reference -/
def GM (T : TS) : Prop :=
  (gI T 50 = nI (vw T) ∧ gI T 51 = nI (ve T) ∧ gI T 52 = nI (vk T) ∧ gI T 53 = nI (vf T) ∧ gI T 54 = nI (vg T) ∧ gI T 55 = nI (vd T)) ∧
  (gI T 2051 = gI T 50 ∧ gI T 2052 = gI T 51 ∧ gI T 2053 = gI T 52 ∧ gI T 2054 = gI T 53 ∧ gI T 2055 = gI T 54 ∧ gI T 2056 = gI T 55) ∧
  (10 ≤ vw T ∧ vw T ≤ 10000 ∧ 4 * ve T ≤ vw T ∧ 1 ≤ vk T ∧ vk T ≤ 20 ∧ vf T ≤ vg T ∧ vg T ≤ vw T ∧ vd T ≤ 6) ∧
  (∀ i, i < vd T → gA T 2 i = nI (vm T i) ∧ 1 ≤ vm T i ∧ vm T i ≤ vw T ∧ gA T 42 i = gA T 2 i) ∧
  (∀ i j, i < vd T → j < vd T → vm T i = vm T j → i = j) ∧
  (∀ p, p < vd T → gA T 3 p = nI (vq T p) ∧ vq T p < vd T) ∧ (∀ p q, p < q → q < vd T → vm T (vq T q) < vm T (vq T p)) ∧
  (∀ i, i < vd T → ∃ p, p < vd T ∧ vq T p = i)
/-- COUNTS of a code -/
def cn (c i : Nat) : Nat := c / 32 ^ (5 - i) % 32
def pcs (c : Nat) : Nat := cn c 0 + cn c 1 + cn c 2 + cn c 3 + cn c 4 + cn c 5
def okc (d c : Nat) : Prop := c < 2 ^ 30 ∧ (∀ i, d ≤ i → i < 6 → cn c i = 0) ∧ pcs c ≤ 20 ∧ 1 ≤ pcs c
def vns (T : TS) : Nat := (gI T 550).toNatClampNeg
def vcs (T : TS) (s : Nat) : Nat := (gA T 12 s).toNatClampNeg
/-- the PLAN -/
def GS (T : TS) : Prop := gI T 550 = nI (vns T) ∧ gI T 2067 = gI T 550 ∧ vns T ≤ 60 ∧
  (∀ s, s < vns T → gA T 12 s = nI (vcs T s) ∧ okc (vd T) (vcs T s) ∧ (∀ i, i < 6 → gA T (gO T 48 s) i = nI (cn (vcs T s) i)) ∧ gA T 49 s = gA T 13 s ∧ ∃ r, 1 ≤ r ∧ r ≤ 1000 ∧ gA T 13 s = nI r) ∧
  (∀ s, s < 60 → 3067 ≤ gO T 48 s ∧ gO T 48 s < 3127) ∧ (∀ s t, s < 60 → t < 60 → gO T 48 s = gO T 48 t → s = t)
/-- what is kept, and whether it may come back -/
def GK (T : TS) : Prop := (gI T 13 = 0 ∨ gI T 13 = 1) ∧ (gI T 2073 = 0 ∨ gI T 2073 = 1) ∧ (gI T 2074 = 0 ∨ gI T 2074 = 1) ∧ (gI T 13 = 1 ↔ (gI T 2073 = 1 ∧ gI T 2074 = 0)) ∧
  (gI T 13 = 1 → ∃ m, gI T 700 = nI m ∧ gI T 2075 = nI m ∧ m ≤ 60 ∧ ∀ s, s < m → ∃ c r, gA T 15 s = nI c ∧ okc (vd T) c ∧ (∀ i, i < 6 → gA T (3187 + s) i = nI (cn c i)) ∧ gA T 16 s = nI r ∧ gA T 53 s = nI r ∧ 1 ≤ r ∧ r ≤ 1000)
/-- rows of the reference's two-dimensional arrays that stay where they are -/
def GX (T : TS) : Prop := (∀ k, k < 3000 → gO T 46 k = 67 + k) ∧ (∀ s, s < 60 → gO T 50 s = 3127 + s) ∧ (∀ s, s < 60 → gO T 52 s = 3187 + s) ∧ (∀ r, r < 256 → gO T 61 r = 3247 + r)
/-- orders, prices, the length; c calls were made -/
def GO (c : Nat) (T : TS) : Prop := (∃ v, 1 ≤ v ∧ v ≤ 1000000 ∧ gI T 305 = nI v ∧ gI T 2061 = nI v) ∧ (∃ v, 1 ≤ v ∧ v ≤ 10000 ∧ gI T 14 = nI v ∧ gI T 2062 = nI v) ∧
  (∀ i, i < 6 → ∃ a b p, a ≤ 40 ∧ b ≤ 2000000 * c ∧ p ≤ 1000000 ∧ gA T 8 i = nI a ∧ gA T 43 i = nI a ∧ gA T 9 i = nI b ∧ gA T 44 i = nI b ∧ gA T 10 i = nI p ∧ gA T 45 i = nI p)
/-- what was cut LATEST -/
def GL (T : TS) : Prop := ∃ m, m ≤ 21 ∧ gI T 1000 = nI m ∧ gI T 2083 = nI m ∧ (∀ j, j < m → gA T 58 j = gA T 21 j) ∧ ∀ i j, i < j → j < m → gA T 21 i < gA T 21 j
/-- the STOCK -/
def GT (T : TS) : Prop := ∃ m, m ≤ 8 ∧ gI T 1800 = nI m ∧ gI T 2087 = nI m ∧ ∀ i, i < m → ∃ a b f, 1 ≤ a ∧ a ≤ 100000 ∧ b ≤ 1000 ∧ f ≤ 1 ∧ gA T 37 i = nI a ∧ gA T 62 i = nI a ∧ gA T 38 i = nI b ∧ gA T 63 i = nI b ∧ gA T 39 i = nI f ∧ gA T 64 i = nI f
/-- AREAS -/
def GA (T : TS) : Prop := gL T 65 0 = gJ T 0 ∧ gL T 65 1 = gJ T 1 ∧ gL T 65 2 = gJ T 2 ∧ gL T 65 3 = gJ T 0 - gJ T 1 - gJ T 2 ∧ gL T 65 4 = gJ T 3 ∧ gL T 65 5 = gJ T 4 ∧ gL T 65 6 = gJ T 5
/-- PATTERNS in their order, as codes -/
def dn : Nat → List Nat
  | 0 => [0]
  | m + 1 => (m + 1) :: dn m
def sp (mm : Nat → Nat) : Nat → Nat → Nat → Nat → Nat → List Nat
  | 0, _, c, _, _ => [c]
  | r + 1, i, c, room, kn => (dn (min kn (room / mm i))).flatMap (fun x => sp mm r (i + 1) (c + x * 32 ^ (5 - i)) (room - x * mm i) (kn - x))
def pl (d : Nat) (mm : Nat → Nat) (room kn : Nat) : List Nat := (sp mm d 0 0 room kn).filter (fun c => decide (c ≠ 0))
def psT (T : TS) : List Nat := pl (vd T) (vm T) (vw T - 2 * ve T) (vk T)
def GN (T : TS) : Prop := (gI T 204 = 0 ∨ gI T 204 = 1) ∧ (gI T 204 = 0 → ((psT T).length ≤ 3000 → gI T 203 = 0 ∧ gI T 202 = nI (psT T).length ∧ ∀ k c, (psT T)[k]? = some c → gA T 5 k = nI c) ∧ (3000 < (psT T).length → gI T 203 = 1 ∧ gI T 202 = 0))
def GC (T : TS) : Prop := (gI T 2063 = 0 ∨ gI T 2063 = 1) ∧ (gI T 2063 = 1 → gI T 2064 = nI (min (psT T).length 3001) ∧ ((psT T).length ≤ 3000 → ∀ k c, (psT T)[k]? = some c → ∀ i, i < 6 → gA T (67 + k) i = nI (cn c i)))
def Inv (c : Nat) (T : TS) : Prop := GM T ∧ GS T ∧ GK T ∧ GX T ∧ GO c T ∧ GL T ∧ GT T ∧ GA T ∧ GN T ∧ GC T
/-! each part of it stands where its own cells stand -/
abbrev iGM : List Nat := [50, 51, 52, 53, 54, 55, 2051, 2052, 2053, 2054, 2055, 2056]
abbrev aGM : List Nat := [2, 3, 42]
theorem GM.mv {T T' : TS} (hI : ∀ k ∈ iGM, gI T' k = gI T k) (hA : ∀ k ∈ aGM, gA T' k = gA T k) (h : GM T) : GM T' := by
  unfold GM vw ve vk vf vg vd vm vq at h ⊢
  simp only [hI 50 (by decide), hI 51 (by decide), hI 52 (by decide), hI 53 (by decide), hI 54 (by decide), hI 55 (by decide), hI 2051 (by decide), hI 2052 (by decide), hI 2053 (by decide), hI 2054 (by decide), hI 2055 (by decide), hI 2056 (by decide), hA 2 (by decide), hA 3 (by decide), hA 42 (by decide)]
  exact h
theorem GS.mv {T T' : TS} (hI : ∀ k ∈ [550, 2067, 55], gI T' k = gI T k) (hA : ∀ k ∈ [12, 13, 49], gA T' k = gA T k) (hR : ∀ k, 3067 ≤ k → k < 3127 → gA T' k = gA T k) (hO : gO T' 48 = gO T 48) (h : GS T) : GS T' := by
  obtain ⟨h1, h2, h3, h4, h5, h6⟩ := h
  have eN : vns T' = vns T := by unfold vns; rw [hI 550 (by decide)]
  have eD : vd T' = vd T := by unfold vd; rw [hI 55 (by decide)]
  have eC : ∀ s, vcs T' s = vcs T s := fun s => by unfold vcs; rw [hA 12 (by decide)]
  refine ⟨by rw [hI 550 (by decide), eN]; exact h1, by rw [hI 550 (by decide), hI 2067 (by decide)]; exact h2, by rw [eN]; exact h3, ?_, by rw [hO]; exact h5, by rw [hO]; exact h6⟩
  intro s hs
  rw [eN] at hs
  obtain ⟨a1, a2, a3, a4, a5⟩ := h4 s hs
  rw [hA 12 (by decide), hA 13 (by decide), hA 49 (by decide), eC, eD, hO]
  refine ⟨a1, a2, fun i hi => ?_, a4, a5⟩
  rw [hR _ (h5 s (by omega)).1 (h5 s (by omega)).2]
  exact a3 i hi
theorem GK.mv {T T' : TS} (hI : ∀ k ∈ [13, 2073, 2074, 700, 2075, 55], gI T' k = gI T k) (hA : ∀ k ∈ [15, 16, 53], gA T' k = gA T k) (hR : ∀ k, 3187 ≤ k → k < 3247 → gA T' k = gA T k) (h : GK T) : GK T' := by
  obtain ⟨h1, h2, h3, h4, h5⟩ := h
  have eD : vd T' = vd T := by unfold vd; rw [hI 55 (by decide)]
  unfold GK
  rw [hI 13 (by decide), hI 2073 (by decide), hI 2074 (by decide), hI 700 (by decide), hI 2075 (by decide), hA 15 (by decide), hA 16 (by decide), hA 53 (by decide), eD]
  refine ⟨h1, h2, h3, h4, fun hh => ?_⟩
  obtain ⟨m, a1, a2, a3, a4⟩ := h5 hh
  refine ⟨m, a1, a2, a3, fun s hs => ?_⟩
  obtain ⟨c, r, b1, b2, b3, b4⟩ := a4 s hs
  exact ⟨c, r, b1, b2, fun i hi => by rw [hR _ (by omega) (by omega)]; exact b3 i hi, b4⟩
theorem GX.mv {T T' : TS} (hO : ∀ k ∈ [46, 50, 52, 61], gO T' k = gO T k) (h : GX T) : GX T' := by
  unfold GX
  rw [hO 46 (by decide), hO 50 (by decide), hO 52 (by decide), hO 61 (by decide)]
  exact h
theorem GO.mv {c c' : Nat} {T T' : TS} (hc : c ≤ c') (hI : ∀ k ∈ [305, 2061, 14, 2062], gI T' k = gI T k) (hA : ∀ k ∈ [8, 9, 10, 43, 44, 45], gA T' k = gA T k) (h : GO c T) : GO c' T' := by
  obtain ⟨h1, h2, h3⟩ := h
  unfold GO
  rw [hI 305 (by decide), hI 2061 (by decide), hI 14 (by decide), hI 2062 (by decide), hA 8 (by decide), hA 9 (by decide), hA 10 (by decide), hA 43 (by decide), hA 44 (by decide), hA 45 (by decide)]
  refine ⟨h1, h2, fun i hi => ?_⟩
  obtain ⟨a, b, p, g1, g2, g3, g4⟩ := h3 i hi
  exact ⟨a, b, p, g1, Nat.le_trans g2 (Nat.mul_le_mul_left _ hc), g3, g4⟩
theorem GL.mv {T T' : TS} (hI : ∀ k ∈ [1000, 2083], gI T' k = gI T k) (hA : ∀ k ∈ [21, 58], gA T' k = gA T k) (h : GL T) : GL T' := by
  unfold GL
  rw [hI 1000 (by decide), hI 2083 (by decide), hA 21 (by decide), hA 58 (by decide)]
  exact h
theorem GT.mv {T T' : TS} (hI : ∀ k ∈ [1800, 2087], gI T' k = gI T k) (hA : ∀ k ∈ [37, 38, 39, 62, 63, 64], gA T' k = gA T k) (h : GT T) : GT T' := by
  unfold GT
  rw [hI 1800 (by decide), hI 2087 (by decide), hA 37 (by decide), hA 38 (by decide), hA 39 (by decide), hA 62 (by decide), hA 63 (by decide), hA 64 (by decide)]
  exact h
theorem GA.mv {T T' : TS} (hJ : ∀ k, gJ T' k = gJ T k) (hL : gL T' 65 = gL T 65) (h : GA T) : GA T' := by
  unfold GA
  simp only [hJ, hL]
  exact h
theorem psT.mv {T T' : TS} (hI : ∀ k ∈ [50, 51, 52, 55], gI T' k = gI T k) (hA : gA T' 2 = gA T 2) : psT T' = psT T := by
  have e : vm T' = vm T := funext fun i => by unfold vm; rw [hA]
  unfold psT vd vw ve vk
  rw [hI 50 (by decide), hI 51 (by decide), hI 52 (by decide), hI 55 (by decide), e]
theorem GN.mv {T T' : TS} (hI : ∀ k ∈ [50, 51, 52, 55, 202, 203, 204], gI T' k = gI T k) (hA : ∀ k ∈ [2, 5], gA T' k = gA T k) (h : GN T) : GN T' := by
  unfold GN
  rw [psT.mv (T := T) (fun k hk => hI k (by simp only [List.mem_cons, List.not_mem_nil, or_false] at hk ⊢; omega)) (hA 2 (by decide)), hI 202 (by decide), hI 203 (by decide), hI 204 (by decide), hA 5 (by decide)]
  exact h
theorem GC.mv {T T' : TS} (hI : ∀ k ∈ [50, 51, 52, 55, 2063, 2064], gI T' k = gI T k) (hA : gA T' 2 = gA T 2) (hR : ∀ k, 67 ≤ k → k < 3067 → gA T' k = gA T k) (h : GC T) : GC T' := by
  obtain ⟨h1, h2⟩ := h
  unfold GC
  rw [psT.mv (T := T) (fun k hk => hI k (by simp only [List.mem_cons, List.not_mem_nil, or_false] at hk ⊢; omega)) hA, hI 2063 (by decide), hI 2064 (by decide)]
  refine ⟨h1, fun hh => ⟨(h2 hh).1, fun hl k c hk i hi => ?_⟩⟩
  have hlt : k < (psT T).length := (List.getElem?_eq_some_iff.mp hk).1
  rw [hR _ (by omega) (by omega)]
  exact (h2 hh).2 hl k c hk i hi
/-- the whole invariant over a change of cells that it doesn't name -/
abbrev iAll : List Nat := [50, 51, 52, 53, 54, 55, 2051, 2052, 2053, 2054, 2055, 2056, 550, 2067, 13, 2073, 2074, 700, 2075, 305, 2061, 14, 2062, 1000, 2083, 1800, 2087, 202, 203, 204, 2063, 2064]
abbrev aAll : List Nat := [2, 3, 42, 12, 13, 49, 15, 16, 53, 8, 9, 10, 43, 44, 45, 21, 58, 37, 38, 39, 62, 63, 64, 5]
theorem Inv.fr {c c' : Nat} {is as : List Nat} {lo hi : Nat} {T T' : TS} (hc : c ≤ c') (h : Inv c T) (f : FR is as lo hi T T') (h1 : ∀ k ∈ iAll, k ∉ is) (h2 : ∀ k ∈ aAll, k ∉ as) (hr : (lo = 3127 ∧ hi = 3187) ∨ 3247 ≤ lo ∨ hi ≤ 0) (h3 : ∀ k ∈ as, k < 67) : Inv c' T' := by
  obtain ⟨m1, m2, m3, m4, m5, m6, m7, m8, m9, m10⟩ := h
  have eI : ∀ k ∈ iAll, gI T' k = gI T k := fun k hk => f.1 k (h1 k hk)
  have eA : ∀ k ∈ aAll, gA T' k = gA T k := fun k hk => f.2.1 k (h2 k hk) (fun q => by
    have hk2 : k < 67 := by
      simp only [List.mem_cons, List.not_mem_nil, or_false] at hk
      omega
    omega)
  have eR : ∀ k, 67 ≤ k → (k < 3127 ∨ (3187 ≤ k ∧ k < 3247)) → gA T' k = gA T k := fun k hk hk2 => f.2.1 k (fun q => by have := h3 k q; omega) (fun q => by omega)
  have sI : ∀ l : List Nat, (∀ k ∈ l, k ∈ iAll) → ∀ k ∈ l, gI T' k = gI T k := fun l hl k hk => eI k (hl k hk)
  have sA' : ∀ l : List Nat, (∀ k ∈ l, k ∈ aAll) → ∀ k ∈ l, gA T' k = gA T k := fun l hl k hk => eA k (hl k hk)
  exact ⟨m1.mv (sI _ (by decide)) (sA' _ (by decide)), m2.mv (sI _ (by decide)) (sA' _ (by decide)) (fun k a b => eR k (by omega) (by omega)) (f.O 48), m3.mv (sI _ (by decide)) (sA' _ (by decide)) (fun k a b => eR k (by omega) (by omega)), m4.mv (fun k _ => f.O k), m5.mv hc (sI _ (by decide)) (sA' _ (by decide)), m6.mv (sI _ (by decide)) (sA' _ (by decide)), m7.mv (sI _ (by decide)) (sA' _ (by decide)), m8.mv f.J (f.L 65), m9.mv (sI _ (by decide)) (sA' _ (by decide)), m10.mv (sI _ (by decide)) (eA 2 (by decide)) (fun k a b => eR k (by omega) (by omega))⟩
section FRG
variable {is as : List Nat} {lo hi : Nat} {T T' : TS}
theorem GM.fr (h : GM T) (f : FR is as lo hi T T') (h1 : ∀ k ∈ iGM, k ∉ is) (h2 : ∀ k ∈ aGM, k ∉ as ∧ ¬ (lo ≤ k ∧ k < hi)) : GM T' := h.mv (fun k hk => f.1 k (h1 k hk)) (fun k hk => f.2.1 k (h2 k hk).1 (h2 k hk).2)
theorem GS.fr (h : GS T) (f : FR is as lo hi T T') (h1 : ∀ k ∈ [550, 2067, 55], k ∉ is) (h2 : ∀ k ∈ [12, 13, 49], k ∉ as ∧ ¬ (lo ≤ k ∧ k < hi)) (h3 : (∀ k ∈ as, k < 67) ∧ (hi ≤ 3067 ∨ 3127 ≤ lo)) : GS T' := h.mv (fun k hk => f.1 k (h1 k hk)) (fun k hk => f.2.1 k (h2 k hk).1 (h2 k hk).2) (fun k a b => f.2.1 k (fun q => by have := h3.1 k q; omega) (fun q => by omega)) (f.O 48)
theorem GK.fr (h : GK T) (f : FR is as lo hi T T') (h1 : ∀ k ∈ [13, 2073, 2074, 700, 2075, 55], k ∉ is) (h2 : ∀ k ∈ [15, 16, 53], k ∉ as ∧ ¬ (lo ≤ k ∧ k < hi)) (h3 : (∀ k ∈ as, k < 67) ∧ (hi ≤ 3187 ∨ 3247 ≤ lo)) : GK T' := h.mv (fun k hk => f.1 k (h1 k hk)) (fun k hk => f.2.1 k (h2 k hk).1 (h2 k hk).2) (fun k a b => f.2.1 k (fun q => by have := h3.1 k q; omega) (fun q => by omega))
theorem GX.fr (h : GX T) (f : FR is as lo hi T T') : GX T' := h.mv (fun k _ => f.O k)
theorem GO.fr {c c' : Nat} (h : GO c T) (hc : c ≤ c') (f : FR is as lo hi T T') (h1 : ∀ k ∈ [305, 2061, 14, 2062], k ∉ is) (h2 : ∀ k ∈ [8, 9, 10, 43, 44, 45], k ∉ as ∧ ¬ (lo ≤ k ∧ k < hi)) : GO c' T' := h.mv hc (fun k hk => f.1 k (h1 k hk)) (fun k hk => f.2.1 k (h2 k hk).1 (h2 k hk).2)
theorem GL.fr (h : GL T) (f : FR is as lo hi T T') (h1 : ∀ k ∈ [1000, 2083], k ∉ is) (h2 : ∀ k ∈ [21, 58], k ∉ as ∧ ¬ (lo ≤ k ∧ k < hi)) : GL T' := h.mv (fun k hk => f.1 k (h1 k hk)) (fun k hk => f.2.1 k (h2 k hk).1 (h2 k hk).2)
theorem GT.fr (h : GT T) (f : FR is as lo hi T T') (h1 : ∀ k ∈ [1800, 2087], k ∉ is) (h2 : ∀ k ∈ [37, 38, 39, 62, 63, 64], k ∉ as ∧ ¬ (lo ≤ k ∧ k < hi)) : GT T' := h.mv (fun k hk => f.1 k (h1 k hk)) (fun k hk => f.2.1 k (h2 k hk).1 (h2 k hk).2)
theorem GA.fr (h : GA T) (f : FR is as lo hi T T') : GA T' := h.mv f.J (f.L 65)
theorem GN.fr (h : GN T) (f : FR is as lo hi T T') (h1 : ∀ k ∈ [50, 51, 52, 55, 202, 203, 204], k ∉ is) (h2 : ∀ k ∈ [2, 5], k ∉ as ∧ ¬ (lo ≤ k ∧ k < hi)) : GN T' := h.mv (fun k hk => f.1 k (h1 k hk)) (fun k hk => f.2.1 k (h2 k hk).1 (h2 k hk).2)
theorem GC.fr (h : GC T) (f : FR is as lo hi T T') (h1 : ∀ k ∈ [50, 51, 52, 55, 2063, 2064], k ∉ is) (h2 : ∀ k ∈ [2], k ∉ as ∧ ¬ (lo ≤ k ∧ k < hi)) (h3 : (∀ k ∈ as, k < 67) ∧ (hi ≤ 67 ∨ 3067 ≤ lo)) : GC T' := h.mv (fun k hk => f.1 k (h1 k hk)) (f.2.1 2 (h2 2 (by decide)).1 (h2 2 (by decide)).2) (fun k a b => f.2.1 k (fun q => by have := h3.1 k q; omega) (fun q => by omega))
end FRG
theorem Inv.th {c : Nat} {T : TS} {v : Int32} (h : Inv c T) : Inv (c + 1) (uI T 2050 v) := h.fr (Nat.le_succ c) (FR.uI (is := [2050]) (as := []) (lo := 0) (hi := 0) (by decide)) (by decide) (by decide) (Or.inr (Or.inr (Nat.le_refl 0))) (by decide)
/-- what is claimed of a call of both -/
def Both (c : Nat) (f g : TS → Option (Int32 × TS)) (T : TS) : Prop := ∃ r T1 T2, f T = some (r, T1) ∧ g T1 = some (r, T2) ∧ Inv (c + 1) T2
def BothL (c : Nat) (f g : TS → Option (Int64 × TS)) (T : TS) : Prop := ∃ r T1 T2, f T = some (r, T1) ∧ g T1 = some (r, T2) ∧ Inv (c + 1) T2
