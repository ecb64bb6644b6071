/-! ===== the invariant without the PLAN ===== -/
def G48 (T : TS) : Prop := (∀ s, s < 60 → 3067 ≤ gO T 48 s ∧ gO T 48 s < 3127) ∧ ∀ s t, s < 60 → t < 60 → gO T 48 s = gO T 48 t → s = t
def InvP (c : Nat) (T : TS) : Prop := GM T ∧ G48 T ∧ GK T ∧ GX T ∧ GO c T ∧ GL T ∧ GT T ∧ GA T ∧ GN T ∧ GC T
theorem Inv.p {c : Nat} {T : TS} (h : Inv c T) : InvP c T := ⟨h.1, ⟨h.2.1.2.2.2.2.1, h.2.1.2.2.2.2.2⟩, h.2.2⟩
theorem InvP.gs {c : Nat} {T : TS} (h : InvP c T) (g : GS T) : Inv c T := ⟨h.1, g, h.2.2⟩
abbrev iPl : List Nat := [50, 51, 52, 53, 54, 55, 2051, 2052, 2053, 2054, 2055, 2056, 13, 2073, 2074, 700, 2075, 305, 2061, 14, 2062, 1000, 2083, 1800, 2087, 202, 203, 204, 2063, 2064]
abbrev aPl : List Nat := [2, 3, 42, 15, 16, 53, 8, 9, 10, 43, 44, 45, 21, 58, 37, 38, 39, 62, 63, 64, 5]
theorem InvP.fr {c c' : Nat} {is as : List Nat} {lo hi : Nat} {T T' : TS} (h : InvP c T) (hc : c ≤ c') (f : FR is as lo hi T T') (h1 : ∀ k ∈ iPl, k ∉ is) (h2 : ∀ k ∈ aPl, k ∉ as) (hr : (3067 ≤ lo ∧ hi ≤ 3187) ∨ 3247 ≤ lo ∨ hi ≤ 0) (h3 : ∀ k ∈ as, k < 67) : InvP c' T' := by
  obtain ⟨m1, m2, m3, m4, m5, m6, m7, m8, m9, m10⟩ := h
  have eI : ∀ k ∈ iPl, gI T' k = gI T k := fun k hk => f.1 k (h1 k hk)
  have eA : ∀ k ∈ aPl, gA T' k = gA T k := fun k hk => f.2.1 k (h2 k hk) (fun q => by
    have hk2 : k < 67 := by
      simp only [List.mem_cons, List.not_mem_nil, or_false] at hk
      omega
    omega)
  have eR : ∀ k, 67 ≤ k → (k < 3067 ∨ (3187 ≤ k ∧ k < 3247)) → gA T' k = gA T k := fun k hk hk2 => f.2.1 k (fun q => by have := h3 k q; omega) (fun q => by omega)
  have sI : ∀ l : List Nat, (∀ k ∈ l, k ∈ iPl) → ∀ k ∈ l, gI T' k = gI T k := fun l hl k hk => eI k (hl k hk)
  have sA' : ∀ l : List Nat, (∀ k ∈ l, k ∈ aPl) → ∀ k ∈ l, gA T' k = gA T k := fun l hl k hk => eA k (hl k hk)
  refine ⟨m1.mv (sI _ (by decide)) (sA' _ (by decide)), ?_, m3.mv (sI _ (by decide)) (sA' _ (by decide)) (fun k a b => eR k (by omega) (by omega)), m4.mv (fun k _ => f.O k), m5.mv hc (sI _ (by decide)) (sA' _ (by decide)), m6.mv (sI _ (by decide)) (sA' _ (by decide)), m7.mv (sI _ (by decide)) (sA' _ (by decide)), m8.mv f.J (f.L 65), m9.mv (sI _ (by decide)) (sA' _ (by decide)), m10.mv (sI _ (by decide)) (eA 2 (by decide)) (fun k a b => eR k (by omega) (by omega))⟩
  unfold G48
  rw [f.O 48]
  exact m2
theorem InvP.cnt {c : Nat} {T T' : TS} (h : InvP c T) (f : FR [2063, 2064] [47] 67 3067 T T') (hC : CNT T') : InvP c T' := by
  obtain ⟨m1, m2, m3, m4, m5, m6, m7, m8, m9, m10⟩ := h
  refine ⟨m1.fr f (by decide) (by decide), ?_, m3.fr f (by decide) (by decide) (by decide), m4.fr f, m5.fr (Nat.le_refl c) f (by decide) (by decide), m6.fr f (by decide) (by decide), m7.fr f (by decide) (by decide), m8.fr f, m9.fr f (by decide) (by decide), hC.gc⟩
  unfold G48
  rw [f.O 48]
  exact m2
theorem plan_w {n c : Nat} {D : Dr} {W : TS} (hn : 10000 ≤ n) (h : InvP c W) (hD : OKD (vd W) D) (hR : nsum D.2.2 D.1 ≤ 1000) (e550 : gI W 550 = nI D.1) (e12 : ∀ k, k < D.1 → gA W 12 k = nI (D.2.1 k) ∧ gA W 13 k = nI (D.2.2 k)) (hW : DM W D) : ∃ R, fX11_becomes n W = some (nI (nsum D.2.2 D.1), R) ∧ Inv c R := by
  have hX := h.2.2.2.1
  obtain ⟨R, r1, r2, r3, r4⟩ := becomes_eq (n := n) (T := W) hn hX.2.1 h.2.1.1 h.2.1.2 hD hW
  refine ⟨R, r1, ?_⟩
  have hP : InvP c R := h.fr (Nat.le_refl c) r2 (by decide) (by decide) (Or.inl ⟨by decide, by decide⟩) (by decide)
  refine hP.gs ?_
  have eD : vd R = vd W := by unfold vd; rw [r2.I (by decide)]
  have oR : gO R 48 = gO W 48 := r2.O 48
  refine GS.of (D := D) (by rw [eD]; exact hD) (fun k hk => ?_) ((r2.I (by decide)).trans e550) r3 (fun k hk => ?_) (fun k hk => ?_) (by rw [oR]; exact h.2.1.1) (by rw [oR]; exact h.2.1.2)
  · exact Nat.le_trans (nsum_ge hk) hR
  · rw [r2.A (k := 12) (by decide) (by decide), r2.A (k := 13) (by decide) (by decide)]
    exact e12 k hk
  · rw [oR]
    exact r4 k hk
