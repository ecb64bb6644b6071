/-! ===== the reference's cut, cut up ===== -/
def ctl3 (n : Nat) (p0 : Int32) : TS → Option (Int32 × TS) := (fun T_37 => ck (0 : Int32) 7 (ck (1 : Int32) 7 (ck (2 : Int32) 7 (ck (3 : Int32) 7 (nm (sL T_37 65 (3 : Int32) (((gL T_37 65 (Int32.toNatClampNeg (0 : Int32))) - (gL T_37 65 (Int32.toNatClampNeg (1 : Int32)))) - (gL T_37 65 (Int32.toNatClampNeg (2 : Int32))))) (fun T_38 => ck p0 60 (ck p0 60 (nm (sA T_38 49 p0 ((gA T_38 49 (Int32.toNatClampNeg p0)) - (1 : Int32))) (fun T_39 => ck p0 60 (if ¬ (gA T_39 49 (Int32.toNatClampNeg p0)) = 0 then some ((0 : Int32), T_39) else bv (fX11_goes n p0 T_39) (fun T_40 => some ((0 : Int32), T_40))))))))))))
def ctl2 (n : Nat) (p0 p1 p2 : Int32) : TS → Option (Int32 × TS) := (fun T_22 => ck p1 8 (ck p1 8 (nm (sA T_22 63 p1 ((gA T_22 63 (Int32.toNatClampNeg p1)) - (1 : Int32))) (fun T_23 => ck p1 8 (nm ((gA T_23 62 (Int32.toNatClampNeg p1)) - p2) (fun x6_24 => if x6_24 < (gI T_23 2062) then ctl3 n p0 T_23 else if (8 : Int32) ≤ (gI T_23 2087) then ctl3 n p0 T_23 else ck (2 : Int32) 7 (ck (2 : Int32) 7 (nm (sL T_23 65 (2 : Int32) ((gL T_23 65 (Int32.toNatClampNeg (2 : Int32))) + ((Int32.toInt64 (gI T_23 2051)) * (Int32.toInt64 x6_24)))) (fun T_33 => ck (gI T_33 2087) 8 (nm (sA T_33 62 (gI T_33 2087) x6_24) (fun T_34 => ck (gI T_34 2087) 8 (nm (sA T_34 63 (gI T_34 2087) (1 : Int32)) (fun T_35 => ck p1 8 (ck (gI T_35 2087) 8 (nm (sZ T_35 64 (gI T_35 2087) (gA T_35 64 (Int32.toNatClampNeg p1))) (fun T_36 => nm (uI T_36 2087 ((gI T_36 2087) + (1 : Int32))) (fun T_37 => ctl3 n p0 T_37)))))))))))))))))
def ctl1 (n : Nat) (p0 p1 p2 : Int32) (q : Nat) (x5 : Int32) : TS → Option (Int32 × TS) := (fun T_10 => ck (0 : Int32) 7 (ck p1 8 (ck (0 : Int32) 7 (nm (sL T_10 65 (0 : Int32) ((gL T_10 65 (Int32.toNatClampNeg (0 : Int32))) + ((Int32.toInt64 (gI T_10 2051)) * (Int32.toInt64 (gA T_10 62 (Int32.toNatClampNeg p1)))))) (fun T_11 => ck (1 : Int32) 7 (bd (fX11_sumOf n q T_11) (fun r_13 T_12 => ck (1 : Int32) 7 (nm (sL T_12 65 (1 : Int32) ((gL T_11 65 (Int32.toNatClampNeg (1 : Int32))) + (((Int32.toInt64 (gI T_11 2062)) * (Int32.toInt64 x5)) * (Int32.toInt64 r_13)))) (fun T_14 => ck (4 : Int32) 7 (ck (4 : Int32) 7 (nm (sL T_14 65 (4 : Int32) ((gL T_14 65 (Int32.toNatClampNeg (4 : Int32))) + (1 : Int64))) (fun T_15 => ck (5 : Int32) 7 (ck (5 : Int32) 7 (nm (sL T_15 65 (5 : Int32) ((gL T_15 65 (Int32.toNatClampNeg (5 : Int32))) + (Int32.toInt64 x5))) (fun T_16 => ck (6 : Int32) 7 (bd (fX11_moves n (-1 : Int32) p0 T_16) (fun r_18 T_17 => ck (6 : Int32) 7 (nm (sL T_17 65 (6 : Int32) ((gL T_16 65 (Int32.toNatClampNeg (6 : Int32))) + (Int32.toInt64 r_18))) (fun T_19 => bd (fX11_cutsOf_58 n q T_19) (fun r_21 T_20 => nm (uI T_20 2083 r_21) (fun T_22 => ctl2 n p0 p1 p2 T_22)))))))))))))))))))))
theorem cut_unf (n : Nat) (p0 p1 p2 : Int32) (T : TS) : fX11_cut n p0 p1 p2 T = nm (uI T 2050 (0 : Int32)) (fun T_1 => bd (fX11_isSlot n p0 T_1) (fun r_3 T_2 => if ¬ r_3 = 0 then bd (fX11_in n p1 (0 : Int32) ((gI T_2 2087) - (1 : Int32)) T_2) (fun r_5 T_4 => if ¬ r_5 = 0 then ck p1 8 (if ¬ (gA T_4 63 (Int32.toNatClampNeg p1)) = 0 then ck p1 8 (bd (fX11_in n p2 (1 : Int32) (gA T_4 62 (Int32.toNatClampNeg p1)) T_4) (fun r_7 T_6 => if ¬ r_7 = 0 then ck p0 60 (ck p1 8 (if (gA T_6 64 (Int32.toNatClampNeg p1)) = 0 then nz (gI T_6 2062) (nm (p2 / (gI T_6 2062)) (fun x5_8 => fX11_cut_L97 n p0 p1 p2 (gO T_6 48 (Int32.toNatClampNeg p0)) x5_8 (ctl1 n p0 p1 p2 (gO T_6 48 (Int32.toNatClampNeg p0)) x5_8) n (0 : Int32) T_6)) else bd (fX11_fitsFlawed n (gO T_6 48 (Int32.toNatClampNeg p0)) T_6) (fun r_43 T_42 => if ¬ r_43 = 0 then nz (gI T_42 2062) (nm (p2 / (gI T_42 2062)) (fun x5_44 => fX11_cut_L97 n p0 p1 p2 (gO T_6 48 (Int32.toNatClampNeg p0)) x5_44 (ctl1 n p0 p1 p2 (gO T_6 48 (Int32.toNatClampNeg p0)) x5_44) n (0 : Int32) T_42)) else some ((5 : Int32), T_42)))) else some ((4 : Int32), T_6))) else some ((3 : Int32), T_4)) else some ((2 : Int32), T_4)) else some ((1 : Int32), T_2))) := rfl
theorem FG.sZ {is as js ls os : List Nat} {T : TS} {k : Nat} {i v : Int32} (hk : k ∈ as) : FG is as js ls os T (sZ T k i v) := (FR.sZ (is := []) (as := [k]) (lo := 0) (hi := 0) (Or.inl (List.mem_singleton.mpr rfl))).fg (by simp) (fun j hj => by rw [List.mem_singleton] at hj; rw [hj]; exact hk)
theorem ctl3_eq {n m s r : Nat} {T : TS} (hn : 10000 ≤ n) (hm : gI T 2067 = nI m) (h60 : m ≤ 60) (hs : s < m) (h49 : gA T 49 s = nI r) (hr : 1 ≤ r) (hr2 : r ≤ 1000) (hR : ∀ k, k < 60 → 3067 ≤ gO T 48 k ∧ gO T 48 k < 3127) : ∃ V, ctl3 n (nI s) T = some (0, V) ∧ FG [2067] [49] [] [65] [48] T V ∧ (∀ k, gL V 65 k = if k = 3 then gL T 65 0 - gL T 65 1 - gL T 65 2 else gL T 65 k) ∧ (r = 1 → gI V 2067 = nI (m - 1) ∧ (∀ k, k < m - 1 → gA V 49 k = gA T 49 (sk s k)) ∧ ∀ k, gO V 48 k = if k = m - 1 then gO T 48 s else if s ≤ k ∧ k < m - 1 then gO T 48 (k + 1) else gO T 48 k) ∧ (r ≠ 1 → gI V 2067 = nI m ∧ (∀ k, gA V 49 k = if k = s then nI (r - 1) else gA T 49 k) ∧ gO V 48 = gO T 48) := by
  unfold ctl3
  have k8 : ∀ {z : Option (Int32 × TS)}, ck (nI s) 60 z = z := ck_nI (by omega) (by decide)
  have k7 : ∀ {i : Nat} {z : Option (Int32 × TS)}, i < 7 → ck (nI i) 7 z = z := fun h => ck_nI h (by decide)
  have kc : (nI s).toNatClampNeg = s := nI_clamp (by omega)
  have e1 : nI r - 1 = nI (r - 1) := nI_prd hr
  rw [show (0 : Int32) = nI 0 from rfl, show (1 : Int32) = nI 1 from rfl, show (2 : Int32) = nI 2 from rfl, show (3 : Int32) = nI 3 from rfl, k7 (by decide), k7 (by decide), k7 (by decide), k7 (by decide), nI_clamp (by decide), nI_clamp (by decide), nI_clamp (by decide)]
  generalize hv : gL T 65 0 - gL T 65 1 - gL T 65 2 = v
  simp only [nm]
  rw [k8, k8, kc, show gA (sL T 65 (nI 3) v) 49 s = nI r from h49, show nI r - nI 1 = nI (r - 1) from e1, k8]
  have g49 : ∀ i, gA (sA (sL T 65 (nI 3) v) 49 (nI s) (nI (r - 1))) 49 i = if i = s then nI (r - 1) else gA T 49 i := gA_sA_at (T := sL T 65 (nI 3) v) (by omega)
  have f0 : FG [2067] [49] [] [65] [48] T (sA (sL T 65 (nI 3) v) 49 (nI s) (nI (r - 1))) := (FG.sL (by decide)).trans (FG.sA (by decide))
  have l0 : ∀ k, gL (sA (sL T 65 (nI 3) v) 49 (nI s) (nI (r - 1))) 65 k = if k = 3 then v else gL T 65 k := gL_at T 3 (by decide) v
  rw [g49 s, if_pos rfl]
  by_cases q : r = 1
  · rw [if_neg (show ¬ ¬ nI (r - 1) = nI 0 from fun z => z (by rw [q]))]
    obtain ⟨U, a1, a2, a3, a4, a5⟩ := goes_eq (n := n) (T := sA (sL T 65 (nI 3) v) 49 (nI s) (nI (r - 1))) hn hm h60 hs hR
    rw [a1]
    refine ⟨U, rfl, f0.trans (a2.fg (by decide) (by decide) (by decide)), fun k => by rw [a2.2.2.2.1, l0], fun _ => ⟨a3, fun k hk => ?_, a5⟩, fun h => absurd q h⟩
    rw [a4 k hk, g49, if_neg (by unfold sk; split <;> omega)]
  · rw [if_pos (show ¬ nI (r - 1) = nI 0 from fun z => by have := (nI_eq (by omega) (by decide)).mp z; omega)]
    exact ⟨_, rfl, f0, l0, fun h => absurd h q, fun _ => ⟨hm, g49, rfl⟩⟩
theorem ctl2_eq {n m l a b f t v : Nat} {p0 : Int32} {T : TS} (e : gI T 2087 = nI m) (hm : m ≤ 8) (hl : l < m) (h37 : gA T 62 l = nI a) (h38 : gA T 63 l = nI b) (h39 : gA T 64 l = nI f) (hb : 1 ≤ b) (ht : t ≤ a) (ha : a ≤ 100000) (hf : f ≤ 1) (hv : v ≤ 10000) (hv2 : gI T 2062 = nI v) : ∃ U, ctl2 n p0 (nI l) (nI t) T = ctl3 n p0 U ∧ FG [2087] [62, 63, 64] [] [65] [] T U ∧ gI U 2087 = nI (if a - t < v ∨ m = 8 then m else m + 1) ∧ LT 62 63 64 T U m (if a - t < v ∨ m = 8 then m else m + 1) l (a - t) b f ∧ (∀ k, gL U 65 k = if k = 2 then gL T 65 2 + (if a - t < v ∨ m = 8 then 0 else (gI T 2051).toInt64 * (nI (a - t)).toInt64) else gL T 65 k) := by
  unfold ctl2
  have k8 : ∀ {z : Option (Int32 × TS)}, ck (nI l) 8 z = z := ck_nI (by omega) (by decide)
  have kc : (nI l).toNatClampNeg = l := nI_clamp (by omega)
  have e1 : nI b - 1 = nI (b - 1) := nI_prd hb
  simp only [k8, kc, nm, h38, e1]
  rw [show gA (sA T 63 (nI l) (nI (b - 1))) 62 l = nI a from h37, pk_sub ht, show gI (sA T 63 (nI l) (nI (b - 1))) 2062 = nI v from hv2, show gI (sA T 63 (nI l) (nI (b - 1))) 2087 = nI m from e]
  have f0 : FG [2087] [62, 63, 64] [] [65] [] T (sA T 63 (nI l) (nI (b - 1))) := FG.sA (by decide)
  have g38 : ∀ i, gA (sA T 63 (nI l) (nI (b - 1))) 63 i = if i = l then nI (b - 1) else gA T 63 i := gA_sA_at (by omega)
  have stay : LT 62 63 64 T (sA T 63 (nI l) (nI (b - 1))) m m l (a - t) b f := by
    intro i hi
    have q : ¬ i = m := by omega
    rw [if_neg q, if_neg q, if_neg q]
    exact ⟨rfl, g38 i, rfl⟩
  have lz : ∀ k, gL (sA T 63 (nI l) (nI (b - 1))) 65 k = if k = 2 then gL T 65 2 + 0 else gL T 65 k := fun k => by
    by_cases q : k = 2
    · rw [if_pos q, q, Int64.add_zero]; rfl
    · rw [if_neg q]; rfl
  by_cases q1 : a - t < v
  · rw [if_pos (nI_lt q1 (by omega)), if_pos (Or.inl q1), if_pos (Or.inl q1)]
    exact ⟨_, rfl, f0, e, stay, lz⟩
  · rw [if_neg (nI_nlt (by omega) (by omega))]
    by_cases q2 : m = 8
    · rw [if_pos (show (8 : Int32) ≤ nI m by rw [q2]; decide), if_pos (Or.inr q2), if_pos (Or.inr q2)]
      exact ⟨_, rfl, f0, e, stay, lz⟩
    · have hm8 : m < 8 := by omega
      have k9 : ∀ {z : Option (Int32 × TS)}, ck (nI m) 8 z = z := ck_nI (by omega) (by decide)
      rw [if_neg (show ¬ (8 : Int32) ≤ nI m from nI_ge (b := 8) hm8 (by decide)), if_neg (by omega), if_neg (by omega), show (2 : Int32) = nI 2 from rfl, ck_nI (by decide) (by decide), ck_nI (by decide) (by decide), nI_clamp (show 2 < 2 ^ 31 by decide), show gI (sA T 63 (nI l) (nI (b - 1))) 2051 = gI T 2051 from rfl, show gL (sA T 63 (nI l) (nI (b - 1))) 65 2 = gL T 65 2 from rfl]
      generalize hw : gL T 65 2 + (gI T 2051).toInt64 * (nI (a - t)).toInt64 = w
      generalize hA : sL (sA T 63 (nI l) (nI (b - 1))) 65 (nI 2) w = A
      have fA : FG [2087] [62, 63, 64] [] [65] [] T A := by rw [← hA]; exact f0.trans (FG.sL (by decide))
      have aA : ∀ k, gA A k = gA (sA T 63 (nI l) (nI (b - 1))) k := fun k => by rw [← hA]; rfl
      have lA : ∀ k, gL A 65 k = if k = 2 then w else gL T 65 k := fun k => by rw [← hA]; exact gL_at (sA T 63 (nI l) (nI (b - 1))) 2 (by decide) w k
      have eA : gI A 2087 = nI m := by rw [← hA]; exact e
      clear hA
      rw [eA, k9]
      have eB : gI (sA A 62 (nI m) (nI (a - t))) 2087 = nI m := (zI_sA _ _ _ _ _).trans eA
      rw [eB, k9]
      have eC : gI (sA (sA A 62 (nI m) (nI (a - t))) 63 (nI m) 1) 2087 = nI m := (zI_sA _ _ _ _ _).trans eB
      rw [eC, k9]
      have eD : gA (sA (sA A 62 (nI m) (nI (a - t))) 63 (nI m) 1) 64 l = nI f := by
        rw [zA_sA, if_neg (show ¬ (64 : Nat) = 63 by decide), zA_sA, if_neg (show ¬ (64 : Nat) = 62 by decide), aA, zA_sA, if_neg (show ¬ (64 : Nat) = 63 by decide)]
        exact h39
      rw [eD]
      have eE : gI (sZ (sA (sA A 62 (nI m) (nI (a - t))) 63 (nI m) 1) 64 (nI m) (nI f)) 2087 = nI m := (gI_sZ _ _ _ _ _).trans eC
      rw [eE, nI_1]
      refine ⟨_, rfl, ?_, gI_uI _ _ _, ?_, ?_⟩
      · exact (((fA.trans (FG.sA (by decide))).trans (FG.sA (by decide))).trans (FG.sZ (by decide))).trans (FG.uI (by decide))
      · intro i hi
        refine ⟨?_, ?_, ?_⟩
        · rw [gA_uI, zA_sZ, if_neg (show ¬ (62 : Nat) = 64 by decide), zA_sA, if_neg (show ¬ (62 : Nat) = 63 by decide), gA_sA_at (by omega), aA, zA_sA, if_neg (show ¬ (62 : Nat) = 63 by decide)]
        · rw [gA_uI, zA_sZ, if_neg (show ¬ (63 : Nat) = 64 by decide), gA_sA_at (by omega), zA_sA, if_neg (show ¬ (63 : Nat) = 62 by decide), aA]
          by_cases q : i = m
          · rw [if_pos q, if_pos q]
            rfl
          · rw [if_neg q, if_neg q]
            exact g38 i
        · rw [gA_uI, gA_sZ_at (by omega) (f01 hf), zA_sA, if_neg (show ¬ (64 : Nat) = 63 by decide), zA_sA, if_neg (show ¬ (64 : Nat) = 62 by decide), aA, zA_sA, if_neg (show ¬ (64 : Nat) = 63 by decide)]
      · intro k
        exact lA k
theorem GM.fg {is as js ls os : List Nat} {T T' : TS} (h : GM T) (f : FG is as js ls os T T') (h1 : ∀ k ∈ iGM, k ∉ is) (h2 : ∀ k ∈ aGM, k ∉ as) : GM T' := h.mv (fun k hk => f.1 k (h1 k hk)) (fun k hk => f.2.1 k (h2 k hk))
theorem ctT_fg {is as js ls os : List Nat} {T T' : TS} (f : FG is as js ls os T T') (h1 : 51 ∉ is ∧ 55 ∉ is) (h2 : 2 ∉ as) (x : Nat) : ctT T' x = ctT T x := by
  have e : vm T' = vm T := funext fun i => by unfold vm; rw [f.2.1 2 h2]
  unfold ctT vd ve
  rw [e, f.1 51 h1.1, f.1 55 h1.2]
theorem vd_fg {is as js ls os : List Nat} {T T' : TS} (f : FG is as js ls os T T') (h1 : 55 ∉ is) : vd T' = vd T := by
  unfold vd
  rw [f.1 55 h1]
theorem moves_ref {n s x m : Nat} {T : TS} (hn : 100 ≤ n) (hM : GM T) (hs : s < 60) (hq : 3067 ≤ gO T 48 s ∧ gO T 48 s < 3127) (hrow : ∀ i, i < 6 → gA T (gO T 48 s) i = nI (cn x i)) (ok : okc (vd T) x) (h2 : gI T 2083 = nI m) (hm : m ≤ 21) : ∃ T', fX11_moves n (-1) (nI s) T = some (nI (mvn (gA T 58) m (lf (ctT T x)) (ctT T x).length), T') ∧ FR [] [59, 60] 0 0 T T' := by
  obtain ⟨U, a1, a2, a3⟩ := cuts60 (n := n) hn hM (by omega) (by omega) ok hrow
  unfold fX11_moves
  rw [ck_nI (by omega) (by decide), nI_clamp (by omega), a1]
  simp only [bd]
  rw [if_neg (show ¬ ¬ True from fun q => q trivial), a2.I (k := 2083) (by decide), h2, un58 hn hm (ctT_le hM ok)]
  have e : mvn (gA U 58) m (gA U 60) (ctT T x).length = mvn (gA T 58) m (lf (ctT T x)) (ctT T x).length := mvn_congr (fun i hi => by rw [a2.A (by decide) (by decide)]) (fun i hi => a3.atl hi)
  rw [e]
  exact ⟨U, rfl, a2.mono (by decide) (by decide) (fun _ => by omega)⟩
theorem ctl1_eq {n s l t x m a k v : Nat} {T : TS} (hn : 10000 ≤ n) (hM : GM T) (hs : s < 60) (hq : 3067 ≤ gO T 48 s ∧ gO T 48 s < 3127) (hrow : ∀ i, i < 6 → gA T (gO T 48 s) i = nI (cn x i)) (ok : okc (vd T) x) (h2 : gI T 2083 = nI m) (hm : m ≤ 21) (hl : l < 8) (h62 : gA T 62 l = nI a) : ∃ U, ctl1 n (nI s) (nI l) (nI t) (gO T 48 s) (nI k) T = ctl2 n (nI s) (nI l) (nI t) U ∧ FG [2083] [58, 59, 60] [] [65] [] T U ∧ gI U 2083 = nI (ctT T x).length ∧ AL U 58 (ctT T x) ∧ gL U 65 0 = gL T 65 0 + (gI T 50).toInt64 * (nI a).toInt64 ∧ gL U 65 1 = gL T 65 1 + (gI T 2062).toInt64 * (nI k).toInt64 * (bx_sum (fun i => nI (cn x i) * gA T 2 i) (vd T)).toInt64 ∧ gL U 65 2 = gL T 65 2 ∧ gL U 65 4 = gL T 65 4 + 1 ∧ gL U 65 5 = gL T 65 5 + (nI k).toInt64 ∧ gL U 65 6 = gL T 65 6 + (nI (mvn (gA T 58) m (lf (ctT T x)) (ctT T x).length)).toInt64 := by
  unfold ctl1
  obtain ⟨d1, d2, d6⟩ := hM.d
  have k8 : ∀ {z : Option (Int32 × TS)}, ck (nI l) 8 z = z := ck_nI (by omega) (by decide)
  have k7 : ∀ {i : Nat} {z : Option (Int32 × TS)}, i < 7 → ck (nI i) 7 z = z := fun h => ck_nI h (by decide)
  have kc : (nI l).toNatClampNeg = l := nI_clamp (by omega)
  rw [show (0 : Int32) = nI 0 from rfl, show (1 : Int32) = nI 1 from rfl, show (4 : Int32) = nI 4 from rfl, show (5 : Int32) = nI 5 from rfl, show (6 : Int32) = nI 6 from rfl, k7 (by decide), k8, k7 (by decide), kc, h62, show gI T 2051 = gI T 50 from hM.2.1.1]
  simp only [nm]
  rw [k7 (by decide), nI_clamp (show 0 < 2 ^ 31 by decide), nI_clamp (show 1 < 2 ^ 31 by decide), nI_clamp (show 4 < 2 ^ 31 by decide), nI_clamp (show 5 < 2 ^ 31 by decide), nI_clamp (show 6 < 2 ^ 31 by decide)]
  generalize hA : sL T 65 (nI 0) (gL T 65 0 + (gI T 50).toInt64 * (nI a).toInt64) = A
  have lA : ∀ j, gL A 65 j = if j = 0 then (gL T 65 0 + (gI T 50).toInt64 * (nI a).toInt64) else gL T 65 j := fun j => by rw [← hA]; exact gL_at T 0 (by decide) _ j
  have fA : FG [] [] [] [65] [] T A := by rw [← hA]; exact FG.sL (by decide)
  clear hA
  have sA1 : fX11_sumOf n (gO T 48 s) A = some (bx_sum (fun i => nI (cn x i) * gA T 2 i) (vd T), A) := by
    rw [sumOf_eq (d := vd T) (by omega) ((fA.1 2056 (by decide)).trans d2) d6 (by omega) (by omega), bx_congr (g := fun i => nI (cn x i) * gA T 2 i) (fun i hi => by
      rw [fA.2.1 (gO T 48 s) (by simp), fA.2.1 42 (by decide), hrow i (by omega), (hM.2.2.2.1 i hi).2.2.2])]
  rw [sA1]
  simp only [bd]
  rw [k7 (by decide), fA.1 2062 (by decide), k7 (by decide), k7 (by decide)]
  generalize hB : sL A 65 (nI 1) (gL A 65 1 + (gI T 2062).toInt64 * (nI k).toInt64 * (bx_sum (fun i => nI (cn x i) * gA T 2 i) (vd T)).toInt64) = B
  have lB : ∀ j, gL B 65 j = if j = 1 then (gL A 65 1 + (gI T 2062).toInt64 * (nI k).toInt64 * (bx_sum (fun i => nI (cn x i) * gA T 2 i) (vd T)).toInt64) else gL A 65 j := fun j => by rw [← hB]; exact gL_at A 1 (by decide) _ j
  have fB : FG [] [] [] [65] [] T B := by rw [← hB]; exact fA.trans (FG.sL (by decide))
  clear hB
  rw [k7 (by decide), k7 (by decide)]
  generalize hC : sL B 65 (nI 4) (gL B 65 4 + 1) = C
  have lC : ∀ j, gL C 65 j = if j = 4 then gL B 65 4 + 1 else gL B 65 j := fun j => by rw [← hC]; exact gL_at B 4 (by decide) _ j
  have fC : FG [] [] [] [65] [] T C := by rw [← hC]; exact fB.trans (FG.sL (by decide))
  clear hC
  rw [k7 (by decide)]
  generalize hD : sL C 65 (nI 5) (gL C 65 5 + (nI k).toInt64) = D
  have lD : ∀ j, gL D 65 j = if j = 5 then (gL C 65 5 + (nI k).toInt64) else gL C 65 j := fun j => by rw [← hD]; exact gL_at C 5 (by decide) _ j
  have fD : FG [] [] [] [65] [] T D := by rw [← hD]; exact fC.trans (FG.sL (by decide))
  clear hD
  have eO : gO D 48 = gO T 48 := fD.2.2.2.2 48 (by decide)
  have hMD : GM D := hM.fg fD (by decide) (by decide)
  have cD : ∀ y, ctT D y = ctT T y := ctT_fg fD (by decide) (by decide)
  have vD : vd D = vd T := vd_fg fD (by decide)
  have rD : ∀ j, gA D j = gA T j := fun j => fD.2.1 j (by simp)
  obtain ⟨E, m1, m2⟩ := moves_ref (n := n) (s := s) (x := x) (T := D) (by omega) hMD hs (by rw [eO]; exact hq) (by rw [eO]; intro i hi; rw [rD]; exact hrow i hi) (by rw [vD]; exact ok) ((fD.1 2083 (by decide)).trans h2) hm
  rw [cD, rD] at m1
  rw [show -nI 1 = (-1 : Int32) from rfl, m1]
  simp only
  rw [k7 (by decide)]
  generalize hF : sL E 65 (nI 6) (gL D 65 6 + (nI (mvn (gA T 58) m (lf (ctT T x)) (ctT T x).length)).toInt64) = F
  have lF : ∀ j, gL F 65 j = if j = 6 then gL D 65 6 + (nI (mvn (gA T 58) m (lf (ctT T x)) (ctT T x).length)).toInt64 else gL D 65 j := fun j => by
    rw [← hF, gL_at E 6 (by decide), m2.L]
  have fE : FG [2083] [58, 59, 60] [] [65] [] T E := (fD.mono (by decide) (by decide) (by decide) (by decide) (by decide)).trans (m2.fg (by decide) (by decide))
  have fF : FG [2083] [58, 59, 60] [] [65] [] T F := by rw [← hF]; exact fE.trans (FG.sL (by decide))
  clear hF
  have hMF : GM F := hM.fg fF (by decide) (by decide)
  have cF : ∀ y, ctT F y = ctT T y := ctT_fg fF (by decide) (by decide)
  have vF : vd F = vd T := vd_fg fF (by decide)
  obtain ⟨G, g1, g2, g3⟩ := cuts58 (n := n) (q := gO T 48 s) (x := x) (T := F) (by omega) hMF (by omega) (by omega) (by rw [vF]; exact ok) (fun i hi => by rw [fF.2.1 _ (by simp only [List.mem_cons, List.not_mem_nil, or_false]; omega)]; exact hrow i hi)
  rw [cF] at g1 g3
  rw [g1]
  have lG : ∀ j, gL (uI G 2083 (nI (ctT T x).length)) 65 j = gL F 65 j := fun j => congrFun (g2.L 65) j
  refine ⟨uI G 2083 (nI (ctT T x).length), rfl, (fF.trans (g2.fg (by decide) (by decide))).trans (FG.uI (k := 2083) (by decide)), gI_uI _ _ _, fun j w hj => by rw [gA_uI]; exact g3 j w hj, ?_, ?_, ?_, ?_, ?_, ?_⟩
  all_goals rw [lG, lF, lD, lC, lB, lA]
  all_goals simp only [lA, lB, lC, lD, if_true, if_false, Nat.reduceEqDiff, reduceCtorEq]
