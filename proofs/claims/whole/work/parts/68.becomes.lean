/-! ===== a draft becomes the PLAN ===== -/
theorem becomes_eq {n d : Nat} {D : Dr} {T : TS} (hn : 10000 ≤ n) (hX : ∀ s, s < 60 → gO T 50 s = 3127 + s) (h48 : ∀ s, s < 60 → 3067 ≤ gO T 48 s ∧ gO T 48 s < 3127) (hi48 : ∀ s t, s < 60 → t < 60 → gO T 48 s = gO T 48 t → s = t) (hD : OKD d D) (hT : DM T D) : ∃ T', fX11_becomes n T = some (nI (nsum D.2.2 D.1), T') ∧ FR [2067] [49] 3067 3127 T T' ∧ gI T' 2067 = nI D.1 ∧ ∀ k, k < D.1 → (∀ i, i < 6 → gA T' (gO T 48 k) i = nI (cn (D.2.1 k) i)) ∧ gA T' 49 k = nI (D.2.2 k) := by
  have h60 := hD.1
  obtain ⟨t1, t2⟩ := hT
  unfold fX11_becomes
  obtain ⟨U, a1, a2, a3⟩ := mcp_50_48 (n := n) (m := D.1) (T := T) hn h60 (fun s hs => by rw [hX s hs]; omega) h48 hi48
  rw [t1, a1]
  simp only [bv, nm]
  rw [a2.I (k := 2070) (by decide), t1]
  have g49 : ∀ k, k < D.1 → gA (uI U 2067 (nI D.1)) 49 k = nI (D.2.2 k) := fun k hk => by rw [gA_uI, (a3 k hk).2]; exact (t2 k hk).2
  refine ⟨uI U 2067 (nI D.1), ?_, (a2.mono (by decide) (by decide) (fun _ => by omega)).trans (FR.uI (by decide)), gI_uI _ _ _, fun k hk => ⟨fun i hi => ?_, g49 k hk⟩⟩
  · refine lpn (fun f (x : Int32 × Int32 × TS) => fX11_becomes_L35 n (fun e T => some (e, T)) f x.1 x.2.1 x.2.2) (fun j => (nI (nsum D.2.2 j), nI j, uI U 2067 (nI D.1))) D.1 _ ?_ ?_ n (by omega)
    · intro j hj f
      show fX11_becomes_L35 n _ (f + 1) (nI (nsum D.2.2 j)) (nI j) (uI U 2067 (nI D.1)) = _
      rw [fX11_becomes_L35, gI_uI, if_neg (nI_ge hj (by omega)), ck_nI (by omega) (by decide), nI_clamp (by omega), g49 j hj]
      simp only [nm]
      rw [nI_add, nI_1]
      rfl
    · intro f
      show fX11_becomes_L35 n _ (f + 1) (nI (nsum D.2.2 D.1)) (nI D.1) (uI U 2067 (nI D.1)) = _
      rw [fX11_becomes_L35, gI_uI, if_pos (nI_le (Nat.le_refl _) (by omega))]
  · rw [gA_uI, (a3 k hk).1 i hi, hX k (by omega)]
    exact (t2 k hk).1 i hi
theorem GS.of {T : TS} {D : Dr} (hD : OKD (vd T) D) (hR : ∀ k, k < D.1 → D.2.2 k ≤ 1000) (n1 : gI T 550 = nI D.1) (n2 : gI T 2067 = nI D.1) (h12 : ∀ k, k < D.1 → gA T 12 k = nI (D.2.1 k) ∧ gA T 13 k = nI (D.2.2 k)) (hrow : ∀ k, k < D.1 → (∀ i, i < 6 → gA T (gO T 48 k) i = nI (cn (D.2.1 k) i)) ∧ gA T 49 k = nI (D.2.2 k)) (h48 : ∀ s, s < 60 → 3067 ≤ gO T 48 s ∧ gO T 48 s < 3127) (hi48 : ∀ s t, s < 60 → t < 60 → gO T 48 s = gO T 48 t → s = t) : GS T := by
  have h60 := hD.1
  have eN : vns T = D.1 := by
    show (gI T 550).toNatClampNeg = _
    rw [n1, nI_clamp (by omega)]
  refine ⟨by rw [n1, eN], by rw [n1, n2], by rw [eN]; exact h60, fun s hs => ?_, h48, hi48⟩
  rw [eN] at hs
  have ok := (hD.2 s hs).1
  have eC : vcs T s = D.2.1 s := by
    show (gA T 12 s).toNatClampNeg = _
    rw [(h12 s hs).1, nI_clamp (by have := ok.1; omega)]
  rw [eC]
  exact ⟨(h12 s hs).1, ok, (hrow s hs).1, by rw [(hrow s hs).2, (h12 s hs).2], D.2.2 s, (hD.2 s hs).2, hR s hs, (h12 s hs).2⟩
theorem Inv.pl {c c' : Nat} {is as : List Nat} {T T' : TS} (h : Inv c T) (hc : c ≤ c') (f : FR is as 3067 3187 T T') (h1 : ∀ k ∈ [50, 51, 52, 53, 54, 55, 2051, 2052, 2053, 2054, 2055, 2056, 13, 2073, 2074, 700, 2075, 305, 2061, 14, 2062, 1000, 2083, 1800, 2087, 202, 203, 204, 2063, 2064], k ∉ is) (h2 : ∀ k ∈ [2, 3, 42, 15, 16, 53, 8, 9, 10, 43, 44, 45, 21, 58, 37, 38, 39, 62, 63, 64, 5], k ∉ as) (h3 : ∀ k ∈ as, k < 67) (g : GS T') : Inv c' T' := by
  obtain ⟨m1, m2, m3, m4, m5, m6, m7, m8, m9, m10⟩ := h
  have hI : ∀ l : List Nat, (∀ k ∈ l, k ∈ [50, 51, 52, 53, 54, 55, 2051, 2052, 2053, 2054, 2055, 2056, 13, 2073, 2074, 700, 2075, 305, 2061, 14, 2062, 1000, 2083, 1800, 2087, 202, 203, 204, 2063, 2064]) → ∀ k ∈ l, gI T' k = gI T k := fun l hl k hk => f.1 k (h1 k (hl k hk))
  have hA : ∀ l : List Nat, (∀ k ∈ l, k ∈ [2, 3, 42, 15, 16, 53, 8, 9, 10, 43, 44, 45, 21, 58, 37, 38, 39, 62, 63, 64, 5]) → ∀ k ∈ l, gA T' k = gA T k := fun l hl k hk => f.2.1 k (h2 k (hl k hk)) (fun q => by
    have := hl k hk
    simp only [List.mem_cons, List.not_mem_nil, or_false] at this
    omega)
  have hR : ∀ k, 67 ≤ k → (k < 3067 ∨ 3187 ≤ k) → gA T' k = gA T k := fun k hk hk2 => f.2.1 k (fun q => by have := h3 k q; omega) (fun q => by omega)
  exact ⟨m1.mv (hI _ (by decide)) (hA _ (by decide)), g, m3.mv (hI _ (by decide)) (hA _ (by decide)) (fun k a _ => hR k (by omega) (by omega)), m4.mv (fun k _ => f.O k), m5.mv hc (hI _ (by decide)) (hA _ (by decide)), m6.mv (hI _ (by decide)) (hA _ (by decide)), m7.mv (hI _ (by decide)) (hA _ (by decide)), m8.mv f.J (f.L 65), m9.mv (hI _ (by decide)) (hA _ (by decide)), m10.mv (hI _ (by decide)) (hA [2] (by decide) 2 (by decide)) (fun k a _ => hR k a (by omega))⟩
/-- both PLANS out of the same draft -/
theorem plan_of {n c c' : Nat} {D : Dr} {T : TS} (hn : 10000 ≤ n) (hc : c ≤ c') (hI : Inv c T) (hD : OKD (vd T) D) (hR : nsum D.2.2 D.1 ≤ 1000) (U : TS) {is as : List Nat} (fU : FR is as 3067 3187 T U) (hU : DC U D) (h1 : ∀ k ∈ [50, 51, 52, 53, 54, 55, 2051, 2052, 2053, 2054, 2055, 2056, 13, 2073, 2074, 700, 2075, 305, 2061, 14, 2062, 1000, 2083, 1800, 2087, 202, 203, 204, 2063, 2064], k ∉ is) (h2 : ∀ k ∈ [2, 3, 42, 15, 16, 53, 8, 9, 10, 43, 44, 45, 21, 58, 37, 38, 39, 62, 63, 64, 5], k ∉ as) (h3 : ∀ k ∈ as, k < 67) (h4 : 550 ∈ is ∧ 2067 ∈ is) (h5 : 12 ∈ as ∧ 13 ∈ as ∧ 49 ∈ as) : ∃ V, fX8_copyFrom_11_17 n U = some V ∧ FR is as 3067 3187 T V ∧ ∀ W, FR is as 3067 3187 T W → (∀ k, k < 60 → gA W 12 k = gA V 12 k ∧ gA W 13 k = gA V 13 k) → gI W 550 = gI V 550 → DM W D → ∃ R, fX11_becomes n W = some (nI (nsum D.2.2 D.1), R) ∧ Inv c' R := by
  obtain ⟨V, v1, v2, v3, v4⟩ := cp_11_17 (n := n) (m := D.1) (T := U) hn hU.1 hD.1
  refine ⟨V, v1, fU.trans (v2.mono (fun k hk => ?_) (fun k hk => ?_) (fun h => by omega)), fun W fW e12 e550 hW => ?_⟩
  · simp only [List.mem_cons, List.not_mem_nil, or_false] at hk
    rw [hk]
    exact h4.1
  · simp only [List.mem_cons, List.not_mem_nil, or_false] at hk
    rcases hk with hk | hk
    · rw [hk]; exact h5.1
    · rw [hk]; exact h5.2.1
  have hS := hI.2.1
  have hX := hI.2.2.2.1
  have o48 : gO W 48 = gO T 48 := fW.O 48
  obtain ⟨R, r1, r2, r3, r4⟩ := becomes_eq (n := n) (T := W) hn (fun s hs => by rw [fW.O 50]; exact hX.2.1 s hs) (by rw [o48]; exact hS.2.2.2.2.1) (by rw [o48]; exact hS.2.2.2.2.2) hD hW
  refine ⟨R, r1, ?_⟩
  have fR : FR is as 3067 3187 T R := fW.trans (r2.mono (fun k hk => by simp only [List.mem_cons, List.not_mem_nil, or_false] at hk; rw [hk]; exact h4.2) (fun k hk => by simp only [List.mem_cons, List.not_mem_nil, or_false] at hk; rw [hk]; exact h5.2.2) (fun _ => by omega))
  refine hI.pl hc fR h1 h2 h3 ?_
  have eD : vd R = vd T := by unfold vd; rw [fR.1 55 (h1 55 (by decide))]
  have oR : gO R 48 = gO T 48 := fR.O 48
  have h60 := hD.1
  refine GS.of (D := D) (by rw [eD]; exact hD) (fun k hk => ?_) ?_ r3 (fun k hk => ?_) (fun k hk => ?_) (by rw [oR]; exact hS.2.2.2.2.1) (by rw [oR]; exact hS.2.2.2.2.2)
  · have H : ∀ d, k < d → D.2.2 k ≤ nsum D.2.2 d := by
      intro d
      induction d with
      | zero => intro h; omega
      | succ d ih =>
        intro h
        show _ ≤ nsum D.2.2 d + D.2.2 d
        rcases Nat.lt_or_ge k d with q | q
        · have := ih q; omega
        · have : k = d := by omega
          rw [this]; omega
    exact Nat.le_trans (H _ hk) hR
  · rw [r2.I (k := 550) (by decide), e550]
    exact v3
  · rw [r2.A (k := 12) (by decide) (by decide), r2.A (k := 13) (by decide) (by decide), (e12 k (by omega)).1, (e12 k (by omega)).2, (v4 k hk).1, (v4 k hk).2]
    exact hU.2 k hk
  · have := r4 k hk
    rw [o48] at this
    rw [oR]
    exact this
/-! whether a WIDTH that is WANTED has no room -/
def rm (T : TS) : Nat := vw T - 2 * ve T
def TW (T : TS) (i : Nat) : Prop := 0 < wa T i ∧ rm T < vm T i
theorem room_eq {n : Nat} {T : TS} (hM : GM T) : fX4_room n T = some (nI (rm T), T) ∧ gI T 2051 - 2 * gI T 2052 = nI (rm T) := by
  obtain ⟨⟨p1, p2, -⟩, ⟨q1, q2, -⟩, ⟨b1, b2, b3, -⟩, -⟩ := hM
  have e : nI (vw T) - 2 * nI (ve T) = nI (rm T) := by
    rw [show (2 : Int32) = nI 2 from rfl, pk_mul, pk_sub (by omega)]
    rfl
  unfold fX4_room
  rw [q1, q2, p1, p2, e]
  exact ⟨rfl, rfl⟩
theorem tw_eq {n c : Nat} {T : TS} (hn : 100 ≤ n) (hM : GM T) (hO : GO c T) (hc : c ≤ 520) : ((∃ j, j < vd T ∧ TW T j) ∧ fX10_isWantedWithoutRoom n T = some (1, T)) ∨ ((∀ i, i < vd T → ¬ TW T i) ∧ fX10_isWantedWithoutRoom n T = some (0, T)) := by
  obtain ⟨d1, d2, d6⟩ := hM.d
  have hw := hM.2.2.1
  unfold fX10_isWantedWithoutRoom
  have st : ∀ j, j < vd T → ∀ f, fX10_isWantedWithoutRoom_L2 n (fun T_5 => rz 0 T_5) (f + 1) (nI j) T = if wa T j ≤ 0 then fX10_isWantedWithoutRoom_L2 n (fun T_5 => rz 0 T_5) f (nI (j + 1)) T else if vm T j ≤ rm T then fX10_isWantedWithoutRoom_L2 n (fun T_5 => rz 0 T_5) f (nI (j + 1)) T else some (1, T) := by
    intro j hj f
    obtain ⟨w1, -, w3⟩ := wanted_eq (n := n) hO hc (show j < 6 by omega)
    obtain ⟨m1, m2, m3, m4⟩ := hM.2.2.2.1 j hj
    rw [fX10_isWantedWithoutRoom_L2, d1, if_neg (nI_ge hj (by omega)), w1]
    simp only [bd]
    rw [ck_nI (by omega) (by decide), (room_eq (n := n) hM).1, nI_clamp (by omega), m1]
    simp only
    by_cases q1 : wa T j ≤ 0
    · rw [if_pos q1, if_pos (show nI (wa T j) ≤ 0 by rw [show wa T j = 0 by omega]; decide), nI_1]
    · rw [if_neg q1, if_neg (nI_nle (by omega) (by omega)), nI_1]
      have hr : rm T ≤ 10000 := by unfold rm; omega
      by_cases q2 : vm T j ≤ rm T
      · rw [if_pos q2, if_pos (nI_le q2 (by omega))]
      · rw [if_neg q2, if_neg (nI_ge (by omega) (by omega))]
        rfl
  have key := lps (fun f x => fX10_isWantedWithoutRoom_L2 n (fun T_5 => rz 0 T_5) f x T) (vd T) (some (0, T)) (fun _ => some (1, T)) (fun j => ¬ TW T j) (fun j hj hp f => by
      show fX10_isWantedWithoutRoom_L2 n _ (f + 1) (nI j) T = _
      rw [st j hj f]
      by_cases q1 : wa T j ≤ 0
      · rw [if_pos q1]
      · rw [if_neg q1, if_pos (Nat.le_of_not_lt (fun q => hp ⟨by omega, q⟩))]) (fun j hj hp f => by
      show fX10_isWantedWithoutRoom_L2 n _ (f + 1) (nI j) T = _
      have := Classical.not_not.mp hp
      rw [st j hj f, if_neg (by have := this.1; omega), if_neg (by have := this.2; omega)]) (fun f => by
      show fX10_isWantedWithoutRoom_L2 n _ (f + 1) (nI (vd T)) T = _
      rw [fX10_isWantedWithoutRoom_L2, d1, if_pos (nI_le (Nat.le_refl _) (by omega))]
      rfl) n (by omega)
  rcases key with ⟨j, h1, h2, h3, h4⟩ | ⟨h1, h2⟩
  · exact Or.inl ⟨⟨j, h1, Classical.not_not.mp h2⟩, h4⟩
  · exact Or.inr ⟨h1, h2⟩
theorem mtw_eq {n c : Nat} {T : TS} (hn : 100 ≤ n) (hM : GM T) (hO : GO c T) (hc : c ≤ 520) : ((∃ j, j < vd T ∧ TW T j) ∧ fX11_isTooWide n T = some (1, T)) ∨ ((∀ i, i < vd T → ¬ TW T i) ∧ fX11_isTooWide n T = some (0, T)) := by
  obtain ⟨d1, d2, d6⟩ := hM.d
  have hw := hM.2.2.1
  unfold fX11_isTooWide
  have hr : rm T ≤ 10000 := by unfold rm; omega
  have st : ∀ j, j < vd T → ∀ f, fX11_isTooWide_L4 n (fun e1_3 T_4 => rz e1_3 T_4) (f + 1) 0 (nI j) T = if wa T j ≤ 0 then fX11_isTooWide_L4 n (fun e1_3 T_4 => rz e1_3 T_4) f 0 (nI (j + 1)) T else if vm T j ≤ rm T then fX11_isTooWide_L4 n (fun e1_3 T_4 => rz e1_3 T_4) f 0 (nI (j + 1)) T else fX11_isTooWide_L4 n (fun e1_3 T_4 => rz e1_3 T_4) f 1 (nI (j + 1)) T := by
    intro j hj f
    obtain ⟨-, w1, w3⟩ := wanted_eq (n := n) hO hc (show j < 6 by omega)
    obtain ⟨m1, m2, m3, m4⟩ := hM.2.2.2.1 j hj
    rw [fX11_isTooWide_L4, d2, if_neg (nI_ge hj (by omega)), if_neg (fun q => q rfl), w1]
    simp only [bd]
    rw [ck_nI (by omega) (by decide), (room_eq (n := n) hM).2, nI_clamp (by omega), m4, m1]
    by_cases q1 : wa T j ≤ 0
    · rw [if_pos q1, if_pos (show nI (wa T j) ≤ 0 by rw [show wa T j = 0 by omega]; decide), nI_1]
    · rw [if_neg q1, if_neg (nI_nle (by omega) (by omega)), nI_1]
      by_cases q2 : vm T j ≤ rm T
      · rw [if_pos q2, if_pos (nI_le q2 (by omega))]
      · rw [if_neg q2, if_neg (nI_ge (by omega) (by omega))]
  have fnd : ∀ r j, j + r = vd T → ∀ f, r < f → fX11_isTooWide_L4 n (fun e1_3 T_4 => rz e1_3 T_4) f 1 (nI j) T = some (1, T) := by
    intro r
    induction r with
    | zero =>
      intro j hj f hf
      obtain ⟨g, rfl⟩ : ∃ g, f = g + 1 := ⟨f - 1, by omega⟩
      rw [fX11_isTooWide_L4, d2, if_pos (nI_le (by omega) (by omega))]
      rfl
    | succ r ih =>
      intro j hj f hf
      obtain ⟨g, rfl⟩ : ∃ g, f = g + 1 := ⟨f - 1, by omega⟩
      rw [fX11_isTooWide_L4, d2, if_neg (nI_ge (by omega) (by omega)), if_pos (show ¬ (1 : Int32) = 0 by decide), nI_1]
      exact ih (j + 1) (by omega) g (by omega)
  have main : ∀ r j, j + r = vd T → (∀ i, i < j → ¬ TW T i) → ∀ f, r < f → ((∃ j, j < vd T ∧ TW T j) ∧ fX11_isTooWide_L4 n (fun e1_3 T_4 => rz e1_3 T_4) f 0 (nI j) T = some (1, T)) ∨ ((∀ i, i < vd T → ¬ TW T i) ∧ fX11_isTooWide_L4 n (fun e1_3 T_4 => rz e1_3 T_4) f 0 (nI j) T = some (0, T)) := by
    intro r
    induction r with
    | zero =>
      intro j hj hp f hf
      obtain ⟨g, rfl⟩ : ∃ g, f = g + 1 := ⟨f - 1, by omega⟩
      refine Or.inr ⟨fun i hi => hp i (by omega), ?_⟩
      rw [fX11_isTooWide_L4, d2, if_pos (nI_le (by omega) (by omega))]
      rfl
    | succ r ih =>
      intro j hj hp f hf
      obtain ⟨g, rfl⟩ : ∃ g, f = g + 1 := ⟨f - 1, by omega⟩
      rw [st j (by omega) g]
      by_cases q : TW T j
      · rw [if_neg (by have := q.1; omega), if_neg (by have := q.2; omega)]
        exact Or.inl ⟨⟨j, by omega, q⟩, fnd r (j + 1) (by omega) g (by omega)⟩
      · have hp' : ∀ i, i < j + 1 → ¬ TW T i := fun i hi => by
          rcases Nat.lt_or_ge i j with z | z
          · exact hp i z
          · rw [show i = j by omega]; exact q
        have nxt := ih (j + 1) (by omega) hp' g (by omega)
        by_cases q1 : wa T j ≤ 0
        · rw [if_pos q1]; exact nxt
        · rw [if_neg q1, if_pos (Nat.le_of_not_lt (fun z => q ⟨by omega, z⟩))]; exact nxt
  exact main (vd T) 0 (by omega) (fun i hi => by omega) n (by omega)
