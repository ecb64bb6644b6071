/-! ===== slot ===== -/
theorem GS.push {T T' : TS} {x r : Nat} (h : GS T) (h60 : vns T < 60) (hd : gI T' 55 = gI T 55) (hO : gO T' 48 = gO T 48) (n1 : gI T' 550 = nI (vns T + 1)) (n2 : gI T' 2067 = nI (vns T + 1)) (g12 : ∀ s, gA T' 12 s = if s = vns T then nI x else gA T 12 s) (g13 : ∀ s, gA T' 13 s = if s = vns T then nI r else gA T 13 s) (g49 : ∀ s, gA T' 49 s = if s = vns T then nI r else gA T 49 s) (gr : ∀ i, i < 6 → gA T' (gO T 48 (vns T)) i = nI (cn x i)) (gro : ∀ q, 3067 ≤ q → q < 3127 → q ≠ gO T 48 (vns T) → gA T' q = gA T q) (ok : okc (vd T) x) (hr : 1 ≤ r ∧ r ≤ 1000) : GS T' := by
  obtain ⟨h1, h2, h3, h4, h5, h6⟩ := h
  have eN : vns T' = vns T + 1 := by
    show (gI T' 550).toNatClampNeg = _
    rw [n1, nI_clamp (by omega)]
  have eD : vd T' = vd T := by unfold vd; rw [hd]
  have eC : ∀ s, vcs T' s = if s = vns T then x else vcs T s := fun s => by
    unfold vcs
    rw [g12]
    by_cases hs : s = vns T
    · rw [if_pos hs, if_pos hs, nI_clamp (by have := ok.1; omega)]
    · rw [if_neg hs, if_neg hs]
  refine ⟨by rw [n1, eN], by rw [n1, n2], by rw [eN]; omega, ?_, by rw [hO]; exact h5, by rw [hO]; exact h6⟩
  intro s hs
  rw [eN] at hs
  rw [eC, g12, g13, g49, eD, hO]
  by_cases hsn : s = vns T
  · simp only [if_pos hsn]
    refine ⟨trivial, ok, fun i hi => by rw [hsn]; exact gr i hi, trivial, r, hr.1, hr.2, rfl⟩
  · simp only [if_neg hsn]
    obtain ⟨a1, a2, a3, a4, a5⟩ := h4 s (by omega)
    refine ⟨a1, a2, fun i hi => ?_, a4, a5⟩
    rw [gro _ (h5 s (by omega)).1 (h5 s (by omega)).2 (fun q => hsn (h6 s (vns T) (by omega) h60 q))]
    exact a3 i hi
/-- a loop that copies a row into another one -/
theorem rowcp {ρ : Type} (L : Nat → Int32 → TS → ρ) (T : TS) (src dst : Nat) (R : TS → ρ) (h1 : ∀ j, j < 6 → ∀ f, L (f + 1) (nI j) (uA T dst (fun i => if i < j then gA T src i else gA T dst i)) = L f (nI (j + 1)) (sA (uA T dst (fun i => if i < j then gA T src i else gA T dst i)) dst (nI j) (gA T src j))) (h2 : ∀ f, L (f + 1) (nI 6) (uA T dst (fun i => if i < 6 then gA T src i else gA T dst i)) = R (uA T dst (fun i => if i < 6 then gA T src i else gA T dst i))) : ∀ f, 6 < f → L f 0 T = R (uA T dst (fun i => if i < 6 then gA T src i else gA T dst i)) := by
  intro f hf
  have e0 : uA T dst (fun i => if i < 0 then gA T src i else gA T dst i) = T := by
    have e1 : (fun i => if i < 0 then gA T src i else gA T dst i) = gA T dst := by
      funext i
      rw [if_neg (by omega)]
    rw [e1]
    show (T.1, T.2.1, va_up T.2.2.1 dst (T.2.2.1 dst), T.2.2.2) = T
    have : va_up T.2.2.1 dst (T.2.2.1 dst) = T.2.2.1 := by
      funext j
      unfold va_up
      by_cases hj : j = dst <;> simp [hj]
    rw [this]
  have main := lpn (fun f (x : Int32 × TS) => L f x.1 x.2) (fun j => (nI j, uA T dst (fun i => if i < j then gA T src i else gA T dst i))) 6 _ (fun j hj f => ?_) (fun f => h2 f) f hf
  · simp only [e0] at main
    exact main
  · show L (f + 1) (nI j) _ = L f (nI (j + 1)) _
    rw [h1 j hj f]
    congr 1
    show uA (uA T dst _) dst (upd (gA (uA T dst _) dst) _ _) = _
    rw [uA_uA, gA_uA, nI_clamp (by omega)]
    congr 1
    funext i
    rw [upd_at]
    by_cases q1 : i = j
    · rw [if_pos q1, if_pos (by omega), q1]
    · rw [if_neg q1]
      by_cases q2 : i < j
      · rw [if_pos q2, if_pos (by omega)]
      · rw [if_neg q2, if_neg (by omega)]
theorem add11 {n m : Nat} {T : TS} {a b : Int32} (e : gI T 550 = nI m) (h : m < 60) : fX8_add_11 n a b T = some (uI (sA (sA T 12 (nI m) a) 13 (nI m) b) 550 (nI m + 1)) := by
  unfold fX8_add_11 fX8_isFull_11
  rw [e, if_pos (show nI m < 60 from nI_lt (b := 60) h (by decide)), rz0]
  have ck8 : ∀ {z : Option TS}, ck (nI m) 60 z = z := ck_nI h (by decide)
  simp only [bd, nm, gI_sA, e, ck8]
  rfl
theorem slot37_eq {n j : Nat} {T : TS} {y2 : Int32} {kk : TS → Option (Int32 × TS)} (hn : 10000 ≤ n) (hj : j < 3000) (h46 : gO T 46 j = 67 + j) {m : Nat} (hm : gI T 2067 = nI m) (h60 : m < 60) (hq : 3067 ≤ gO T 48 m ∧ gO T 48 m < 3127) : fX11_slot_L37 n (nI j) y2 kk n 0 T = kk (uA T (gO T 48 m) (fun i => if i < 6 then gA T (67 + j) i else gA T (gO T 48 m) i)) := by
  generalize hd : gO T 48 m = dst at hq ⊢
  refine rowcp (fun f x U => fX11_slot_L37 n (nI j) y2 kk f x U) T (67 + j) dst kk ?_ ?_ n (by omega)
  · intro i hi f
    generalize hU : uA T dst (fun k => if k < i then gA T (67 + j) k else gA T dst k) = U
    have u1 : gI U 2067 = nI m := by subst hU; exact hm
    have u2 : gO U 48 m = dst := by subst hU; exact hd
    have u3 : gO U 46 j = 67 + j := by subst hU; exact h46
    have u4 : ∀ k, gA U (67 + j) k = gA T (67 + j) k := fun k => by subst hU; rw [zA_uA, if_neg (by omega)]
    show fX11_slot_L37 n (nI j) y2 kk (f + 1) (nI i) U = _
    rw [fX11_slot_L37, if_neg (show ¬ (6 : Int32) ≤ nI i from nI_ge (b := 6) hi (by decide)), u1, ck_nI h60 (by decide), ck_nI hj (by decide), nI_clamp (show j < 2 ^ 31 by omega), u3, ak_row (by omega) (by omega), al_6 (by omega), ck_nI hi (by decide), nI_clamp (show m < 2 ^ 31 by omega), u2, ak_row (by omega) (by omega), al_6 (by omega), ck_nI hi (by decide), nI_clamp (show i < 2 ^ 31 by omega), u4]
    simp only [nm]
    rw [nI_1]
  · intro f
    show fX11_slot_L37 n (nI j) y2 kk (f + 1) (nI 6) _ = _
    rw [fX11_slot_L37, if_pos (show (6 : Int32) ≤ nI 6 by decide)]
theorem eq_slot {n c : Nat} {T : TS} (hn : 10000 ≤ n) (hI : Inv c T) (k b : Int32) : Both c (fX10_slot n k b) (fX11_slot n k b) T := by
  unfold Both fX10_slot fX11_slot
  simp only [nm]
  have one : ¬ (1 : Int32) = 0 := by decide
  rcases k_cases T k with ⟨j, x, h⟩ | h
  · obtain ⟨T1, a1, a2, I1, N1, f1, ok, hj, rfl, h1⟩ := both_yes (n := n) hn hI h
    have ok1 : okc (vd T1) x := by
      have : vd T1 = vd T := by unfold vd; rw [f1.I (by decide)]
      rw [this]
      exact ok
    rw [a1]
    simp only [bd]
    rw [if_neg one]
    by_cases hp : ¬ (∃ i, 1 ≤ i ∧ i ≤ 1000 ∧ b = nI i)
    · obtain ⟨T3, b1, b2, b3, I3, C3, f3⟩ := mboth_yes (n := n) (T := uI T1 2050 0) hn I1.same h1
      rw [show fX10_within n b 1 1000 T1 = some (0, T1) from wi_no (a := 1) (b := 1000) (by decide) (by decide) hp]
      refine ⟨-1, T1, T3, rfl, ?_, I3.up⟩
      rw [b1]
      simp only
      rw [if_neg one, show fX11_in n b 1 1000 T3 = some (0, T3) from mi_no (a := 1) (b := 1000) (by decide) (by decide) hp]
      rfl
    obtain ⟨r, hr0, hr, rfl⟩ := Classical.not_not.mp hp
    rw [show fX10_within n (nI r) 1 1000 T1 = some (1, T1) from wi_yes hr0 hr (by decide)]
    simp only
    rw [if_neg one]
    have kM : ∀ U, fX11_in n (nI r) 1 1000 U = some (1, U) := fun U => mi_yes hr0 hr (by decide)
    have S1 := I1.2.1
    have s1 : gI T1 550 = nI (vns T1) := S1.1
    have s2 : gI T1 2067 = nI (vns T1) := S1.2.1.trans s1
    have s3 := S1.2.2.1
    by_cases h60 : vns T1 = 60
    · obtain ⟨T3, b1, b2, b3, I3, C3, f3⟩ := mboth_yes (n := n) (T := uI T1 2050 0) hn I1.same h1
      unfold fX8_isFull_11
      rw [s1, h60, if_neg (show ¬ nI 60 < 60 by decide)]
      refine ⟨-1, T1, T3, rfl, ?_, I3.up⟩
      rw [b1]
      simp only
      rw [if_neg one, kM]
      simp only
      rw [if_neg one, f3.I (k := 2067) (by decide), show gI (uI T1 2050 0) 2067 = nI 60 from h60 ▸ s2, if_neg (fun q => q rfl)]
    have h60' : vns T1 < 60 := by omega
    have full0 : fX8_isFull_11 n T1 = some (0, T1) := by
      unfold fX8_isFull_11
      rw [s1, if_pos (show nI (vns T1) < 60 from nI_lt (b := 60) h60' (by decide))]
      rfl
    rw [full0]
    simp only
    rw [if_pos trivial, a2]
    simp only
    rw [add11 s1 h60']
    generalize hm : vns T1 = m at s1 s2 s3 h60 h60' ⊢
    -- the class's state behind it
    generalize hU : uI (sA (sA T1 12 (nI m) (nI x)) 13 (nI m) (nI r)) 550 (nI m + 1) = U
    have fU : FR [550] [12, 13] 0 0 T1 U := by
      subst hU
      exact ((FR.sA (Or.inl (by decide))).trans (FR.sA (Or.inl (by decide)))).trans (FR.uI (by decide))
    have u550 : gI U 550 = nI (m + 1) := by subst hU; exact nI_1 m
    have u12 : ∀ s, gA U 12 s = if s = m then nI x else gA T1 12 s := fun s => by subst hU; rw [zA_uI, zA_sA, if_neg (by decide), gA_sA_at (by omega)]
    have u13 : ∀ s, gA U 13 s = if s = m then nI r else gA T1 13 s := fun s => by
      subst hU
      rw [zA_uI, gA_sA_at (by omega), show gA (sA T1 12 (nI m) (nI x)) 13 = gA T1 13 by rw [zA_sA, if_neg (by decide)]]
    clear hU
    -- what the reference needs of it
    have M : GM (uI U 2050 0) := (I1.1.fr fU (by decide) (by decide)).fr (FR.uI (is := [2050]) (as := []) (lo := 0) (hi := 0) (by decide)) (by decide) (by decide)
    have Cc : GC (uI U 2050 0) := (I1.2.2.2.2.2.2.2.2.2.fr fU (by decide) (by decide) (by decide)).fr (FR.uI (is := [2050]) (as := []) (lo := 0) (hi := 0) (by decide)) (by decide) (by decide) (by decide)
    have Xx : GX (uI U 2050 0) := (I1.2.2.2.1.fr fU).fr (FR.uI (is := [2050]) (as := []) (lo := 0) (hi := 0) (by decide))
    have fU2 : FR [550, 2050] [12, 13] 0 0 T1 (uI U 2050 0) := (fU.mono (by decide) (by decide) (fun q => absurd q (by decide))).trans (FR.uI (by decide))
    have hK : IsK (uI U 2050 0) (nI j) j x := by
      unfold IsK
      rw [ps_fr fU2 (by decide) (by decide)]
      exact h1
    obtain ⟨T3, b1, b2, b3, b4, b5, b6⟩ := isP_yes (n := n) hn hK M Cc Xx
    have f3 : FR [550, 2050, 2063, 2064] [12, 13, 47] 67 3067 T1 T3 := (fU2.mono (by decide) (by decide) (fun q => absurd q (by decide))).trans (b5.mono (by decide) (by decide) (fun _ => by omega))
    have t1 : gI T3 2067 = nI m := (f3.I (by decide)).trans s2
    have t2 : gO T3 48 = gO T1 48 := f3.O 48
    have hq := S1.2.2.2.2.1 m h60'
    simp only [bv]
    refine ⟨nI m, U, uI (sA (uA T3 (gO T1 48 m) (fun i => if i < 6 then gA T3 (67 + j) i else gA T3 (gO T1 48 m) i)) 49 (nI m) (nI r)) 2067 (nI m + 1), ?_, ?_, ?_⟩
    · rw [u550, show nI (m + 1) - 1 = nI m from nI_pred m]
    · rw [b1]
      simp only
      rw [if_neg one, kM]
      simp only
      rw [if_neg one, t1, if_pos (show ¬ nI m = 60 from fun q => h60 ((nI_eq (b := 60) (by omega) (by decide)).mp q)), slot37_eq hn b3 b2 t1 h60' (by rw [t2]; exact hq), t2]
      have v1 : ∀ F, gI (uA T3 (gO T1 48 m) F) 2067 = nI m := fun F => t1
      simp only [v1, zI_sA, ck_nI h60' (show 60 < 2 ^ 31 by decide), zI_uI, if_true, nI_s1]
    · have fA : FR [550, 2050, 2063, 2064, 2067] [12, 13, 47, 49] 67 3127 T1 (uI (sA (uA T3 (gO T1 48 m) (fun i => if i < 6 then gA T3 (67 + j) i else gA T3 (gO T1 48 m) i)) 49 (nI m) (nI r)) 2067 (nI m + 1)) := (((f3.mono (by decide) (by decide) (fun _ => by omega)).trans (FR.uA (Or.inr ⟨by omega, by omega⟩))).trans (FR.sA (Or.inl (by decide)))).trans (FR.uI (by decide))
      generalize hV : uI (sA (uA T3 (gO T1 48 m) (fun i => if i < 6 then gA T3 (67 + j) i else gA T3 (gO T1 48 m) i)) 49 (nI m) (nI r)) 2067 (nI m + 1) = V at fA
      have vI : ∀ k, k ≠ 2067 → gI V k = gI T3 k := fun k hk => by subst hV; rw [zI_uI, if_neg hk, zI_sA, zI_uA]
      have vA : ∀ k, k ≠ 49 → k ≠ gO T1 48 m → gA V k = gA T3 k := fun k hk1 hk2 => by subst hV; rw [zA_uI, zA_sA, if_neg hk1, zA_uA, if_neg hk2]
      have v2067 : gI V 2067 = nI (m + 1) := by subst hV; rw [zI_uI, if_pos rfl, nI_1]
      have v49 : ∀ s, gA V 49 s = if s = m then nI r else gA T1 49 s := fun s => by
        subst hV
        rw [zA_uI, gA_sA_at (by omega), show ∀ F, gA (uA T3 (gO T1 48 m) F) 49 = gA T3 49 from fun F => by rw [zA_uA, if_neg (by omega)], f3.A (k := 49) (by decide) (by decide)]
      have vr : ∀ i, i < 6 → gA V (gO T1 48 m) i = nI (cn x i) := fun i hi => by
        subst hV
        rw [zA_uI, zA_sA, if_neg (by omega), zA_uA, if_pos rfl, if_pos hi]
        exact b4 i hi
      clear hV
      obtain ⟨m1, m2, m3, m4, m5, m6, m7, m8, m9, m10⟩ := I1
      subst hm
      refine ⟨m1.fr fA (by decide) (by decide), ?_, m3.fr fA (by decide) (by decide) (by decide), m4.fr fA, m5.fr (Nat.le_succ c) fA (by decide) (by decide), m6.fr fA (by decide) (by decide), m7.fr fA (by decide) (by decide), m8.fr fA, m9.fr fA (by decide) (by decide), ?_⟩
      · refine m2.push h60' (fA.I (by decide)) (fA.O 48) ?_ v2067 ?_ ?_ v49 vr ?_ ok1 ⟨hr0, hr⟩
        · rw [vI 550 (by decide), b5.I (k := 550) (by decide)]
          exact u550
        · intro s
          rw [vA 12 (by decide) (by omega), b5.A (k := 12) (by decide) (by decide)]
          exact u12 s
        · intro s
          rw [vA 13 (by decide) (by omega), b5.A (k := 13) (by decide) (by decide)]
          exact u13 s
        · intro q q1 q2 q3
          rw [vA q (by omega) q3, f3.A (fun z => by simp only [List.mem_cons, List.not_mem_nil, or_false] at z; omega) (by omega)]
      · refine b6.gc.mv (fun k hk => vI k (fun q => by subst q; simp at hk)) (vA 2 (by decide) (by omega)) (fun k q1 q2 => vA k (by omega) (by omega))
  · obtain ⟨T1, a1, I1, h1, f1⟩ := both_no (n := n) hn hI h
    obtain ⟨T3, b1, I3, f3⟩ := mboth_no (n := n) (T := uI T1 2050 0) hn I1.same h1
    rw [a1]
    refine ⟨-1, T1, T3, rfl, ?_, I3.up⟩
    rw [b1]
    rfl
