/-! ===== fewest: the class ===== -/
abbrev isQ : List Nat := [1506, 1507, 1508, 850]
abbrev asQ : List Nat := [31, 32, 33, 34, 35, 18, 19]
def PK (T : TS) (k : Nat) : Nat := (psT T).getD k 0
/-- the search has been started -/
def SC (T U : TS) : Prop := FR isQ asQ 0 0 T U ∧ (∀ i, i < vd T → gA U 31 i = nI (wa T i) ∧ gA U 32 i = nI (uu (wa T) i)) ∧ gI U 1506 = nI (uu (wa T) (vd T))
theorem SC.mv {T U V : TS} {is as : List Nat} (h : SC T U) (f : FR is as 0 0 U V) (h1 : ∀ k ∈ is, k ∈ isQ) (h2 : ∀ k ∈ as, k ∈ asQ) (h3 : 1506 ∉ is) (h4 : 31 ∉ as ∧ 32 ∉ as) : SC T V := by
  refine ⟨h.1.trans (f.mono h1 h2 (fun _ => by omega)), fun i hi => ?_, (f.I h3).trans h.2.2⟩
  rw [f.A (k := 31) h4.1 (by omega), f.A (k := 32) h4.2 (by omega)]
  exact h.2.1 i hi
theorem uu_wa {c : Nat} {T : TS} (hM : GM T) (hO : GO c T) (hc : c ≤ 520) (n : Nat) {i : Nat} (hi : i < vd T) : wa T i ≤ 40 := (wanted_eq (n := n) hO hc (by have := hM.d.2.2; omega)).2.2
theorem start_eq {n c m : Nat} {T : TS} (hn : 100 ≤ n) (hM : GM T) (hO : GO c T) (hc : c ≤ 520) (hm : m ≤ 3000) : (uu (wa T) (vd T) ≤ 5000 ∧ uu (wa T) (vd T) * m ≤ 2000000 ∧ ∃ U, fX7_start n (nI m) T = some (1, U) ∧ SC T U) ∨ (¬ (uu (wa T) (vd T) ≤ 5000 ∧ uu (wa T) (vd T) * m ≤ 2000000) ∧ ∃ U, fX7_start n (nI m) T = some (0, U) ∧ FR isQ asQ 0 0 T U) := by
  obtain ⟨d1, d2, d6⟩ := hM.d
  unfold fX7_start
  simp only [nm]
  let kk : TS → Option (Int32 × TS) := fun T_7 => if 0 < (lg_cmp ((Int32.toInt64 (gI T_7 1506)) * (Int32.toInt64 (nI m))) (2000000 : Int64)) then rz (0 : Int32) T_7 else rz (1 : Int32) T_7
  have key : ∀ r j U f, j + r = vd T → r < f → FR isQ asQ 0 0 T U → (∀ i, i < j → gA U 31 i = nI (wa T i) ∧ gA U 32 i = nI (uu (wa T) i)) → gI U 1506 = nI (uu (wa T) j) → uu (wa T) j ≤ 5000 → (uu (wa T) (vd T) ≤ 5000 ∧ ∃ V, fX7_start_L7 n (nI m) kk f (nI j) U = kk V ∧ SC T V) ∨ (5000 < uu (wa T) (vd T) ∧ ∃ V, fX7_start_L7 n (nI m) kk f (nI j) U = some (0, V) ∧ FR isQ asQ 0 0 T V) := by
    intro r
    induction r with
    | zero =>
      intro j U f hj hf fU hA hS h5
      obtain ⟨g, rfl⟩ : ∃ g, f = g + 1 := ⟨f - 1, by omega⟩
      have ej : j = vd T := by omega
      subst ej
      refine Or.inl ⟨h5, U, ?_, fU, hA, hS⟩
      rw [fX7_start_L7, fU.I (k := 55) (by decide), d1, if_pos (nI_le (Nat.le_refl _) (by omega))]
    | succ r ih =>
      intro j U f hj hf fU hA hS h5
      obtain ⟨g, rfl⟩ : ∃ g, f = g + 1 := ⟨f - 1, by omega⟩
      have j6 : j < 6 := by omega
      have hOU : GO c U := hO.fr (Nat.le_refl c) fU (by decide) (by decide)
      obtain ⟨w1, -, w3⟩ := wanted_eq (n := n) (T := U) hOU hc j6
      rw [wa_fr fU (by decide)] at w1 w3
      have k6 : ∀ {z : Option (Int32 × TS)}, ck (nI j) 6 z = z := ck_nI j6 (by decide)
      have kc : (nI j).toNatClampNeg = j := nI_clamp (by omega)
      have e1 : gI (sA U 31 (nI j) (nI (wa T j))) 1506 = nI (uu (wa T) j) := (zI_sA _ _ _ _ _).trans hS
      have e2 : gI (sA (sA U 31 (nI j) (nI (wa T j))) 32 (nI j) (nI (uu (wa T) j))) 1506 = nI (uu (wa T) j) := (zI_sA _ _ _ _ _).trans e1
      have e3 : gA (sA (sA U 31 (nI j) (nI (wa T j))) 32 (nI j) (nI (uu (wa T) j))) 31 j = nI (wa T j) := by rw [zA_sA, if_neg (show ¬ (31 : Nat) = 32 by decide), gA_sA_at (by omega), if_pos rfl]
      have eu : uu (wa T) j * (wa T j + 1) = uu (wa T) (j + 1) := rfl
      have hb : uu (wa T) (j + 1) ≤ 5000 * 41 := by
        rw [← eu]
        exact Nat.mul_le_mul h5 (by omega)
      have st : fX7_start_L7 n (nI m) kk (g + 1) (nI j) U = if nI (uu (wa T) (j + 1)) ≤ 5000 then fX7_start_L7 n (nI m) kk g (nI (j + 1)) (uI (sA (sA U 31 (nI j) (nI (wa T j))) 32 (nI j) (nI (uu (wa T) j))) 1506 (nI (uu (wa T) (j + 1)))) else rz 0 (uI (sA (sA U 31 (nI j) (nI (wa T j))) 32 (nI j) (nI (uu (wa T) j))) 1506 (nI (uu (wa T) (j + 1)))) := by
        rw [fX7_start_L7, fU.I (k := 55) (by decide), d1, if_neg (nI_ge (by omega) (by omega)), w1]
        simp only [bd, nm]
        rw [k6, k6, k6, e1, e2, kc, e3, nI_1, nI_1, pk_mul, eu, gI_uI]
      rw [st]
      have fV : FR isQ asQ 0 0 T (uI (sA (sA U 31 (nI j) (nI (wa T j))) 32 (nI j) (nI (uu (wa T) j))) 1506 (nI (uu (wa T) (j + 1)))) := ((fU.trans (FR.sA (Or.inl (by decide)))).trans (FR.sA (Or.inl (by decide)))).trans (FR.uI (by decide))
      by_cases q : uu (wa T) (j + 1) ≤ 5000
      · rw [if_pos (show nI (uu (wa T) (j + 1)) ≤ 5000 from nI_le (b := 5000) q (by decide))]
        refine ih (j + 1) _ g (by omega) (by omega) fV (fun i hi => ?_) (gI_uI _ _ _) q
        rw [gA_uI, gA_uI, gA_sA_at (k := 32) (by omega), zA_sA _ 32 _ _ 31, if_neg (show ¬ (31 : Nat) = 32 by decide), gA_sA_at (k := 31) (by omega), zA_sA _ 31 _ _ 32, if_neg (show ¬ (32 : Nat) = 31 by decide)]
        by_cases z : i = j
        · rw [if_pos z, if_pos z, z]
          exact ⟨rfl, rfl⟩
        · rw [if_neg z, if_neg z]
          exact hA i (by omega)
      · rw [if_neg (show ¬ nI (uu (wa T) (j + 1)) ≤ 5000 from nI_ge (a := 5000) (by omega) (by omega))]
        refine Or.inr ⟨?_, _, rfl, fV⟩
        have := uu_le (w := wa T) (show j + 1 ≤ vd T by omega)
        omega
  have f0 : FR isQ asQ 0 0 T (uI T 1506 1) := FR.uI (by decide)
  rcases key (vd T) 0 (uI T 1506 1) n (by omega) (by omega) f0 (fun i hi => by omega) (gI_uI _ _ _) (by show 1 ≤ 5000; decide) with ⟨h5, V, v1, v2⟩ | ⟨h5, V, v1, v2⟩
  · have e : kk V = if 0 < (lg_cmp ((Int32.toInt64 (gI V 1506)) * (Int32.toInt64 (nI m))) (2000000 : Int64)) then rz (0 : Int32) V else rz (1 : Int32) V := rfl
    rw [v2.2.2, nI_l (by omega), nI_l (by omega), lN_mul] at e
    have hb : uu (wa T) (vd T) * m ≤ 5000 * 3000 := Nat.mul_le_mul h5 hm
    by_cases q : uu (wa T) (vd T) * m ≤ 2000000
    · refine Or.inl ⟨h5, q, V, ?_, v2⟩
      refine v1.trans (e.trans ?_)
      rw [if_neg (fun z => by
        rw [← Int32.not_le] at z
        exact z ((lg_cmp_le _ _).mpr ((lN_le (by omega) (b := 2000000) (by decide)).mpr q)))]
      rfl
    · refine Or.inr ⟨fun z => q z.2, V, ?_, v2.1⟩
      refine v1.trans (e.trans ?_)
      rw [show (2000000 : Int64) = lN 2000000 from rfl, if_pos (Int32.not_le.mp (fun z => q ((lN_le (by omega) (b := 2000000) (by decide)).mp ((lg_cmp_le _ _).mp z))))]
      rfl
  · exact Or.inr ⟨fun z => by omega, V, v1, v2⟩
/-- the open pieces are those of the state s -/
def SO (T U : TS) (s : Nat) : Prop := SC T U ∧ s < uu (wa T) (vd T) ∧ gI U 1507 = nI s ∧ ∀ i, i < vd T → gA U 33 i = nI (dg (wa T) s i)
theorem idx_eq {n c s x : Nat} {T U : TS} (hn : 100 ≤ n) (hM : GM T) (hO : GO c T) (hc : c ≤ 520) (h5 : uu (wa T) (vd T) ≤ 5000) (h : SO T U s) (hx : x < 2 ^ 30) : fX7_indexBehind n (nI x) U = some (nI (bh (wa T) (vd T) s x), U) := by
  obtain ⟨d1, d2, d6⟩ := hM.d
  obtain ⟨⟨fU, hA, -⟩, hs, h7, h33⟩ := h
  unfold fX7_indexBehind
  simp only [nm]
  rw [h7]
  have add : nsum (fun i => min (dg (wa T) s i) (cn x i) * uu (wa T) i) (vd T) + bh (wa T) (vd T) s x = s := by
    have := nsum_add (f := fun i => min (dg (wa T) s i) (cn x i) * uu (wa T) i) (g := fun i => uu (wa T) i * (dg (wa T) s i - cn x i)) (h := fun i => uu (wa T) i * dg (wa T) s i) (d := vd T) (fun i _ => by
      rw [Nat.mul_comm (min _ _), ← Nat.mul_add]
      congr 1
      omega)
    rw [dg_sum hs] at this
    exact this
  have z := lpn (fun f (a : Int32 × Int32 × TS) => fX7_indexBehind_L7 n (nI x) (fun e2_5 T_6 => some (e2_5, T_6)) f a.1 a.2.1 a.2.2) (fun j => (nI s - nI (nsum (fun i => min (dg (wa T) s i) (cn x i) * uu (wa T) i) j), nI j, U)) (vd T) (some (nI s - nI (nsum (fun i => min (dg (wa T) s i) (cn x i) * uu (wa T) i) (vd T)), U)) (fun j hj f => by
    show fX7_indexBehind_L7 n (nI x) _ (f + 1) (nI s - nI (nsum (fun i => min (dg (wa T) s i) (cn x i) * uu (wa T) i) j)) (nI j) U = fX7_indexBehind_L7 n (nI x) _ f (nI s - nI (nsum (fun i => min (dg (wa T) s i) (cn x i) * uu (wa T) i) j + min (dg (wa T) s j) (cn x j) * uu (wa T) j)) (nI (j + 1)) U
    have l1 := dg_le (w := wa T) s j
    have l2 := uu_wa hM hO hc n hj
    have l3 := cn_lt x j
    rw [fX7_indexBehind_L7, fU.I (k := 55) (by decide), d1, if_neg (nI_ge hj (by omega)), ck_nI (by omega) (by decide), ofW_nI hx (by omega)]
    simp only [bd, nm]
    rw [ck_nI (by omega) (by decide), nI_clamp (show j < 2 ^ 31 by omega), h33 j hj, (hA j hj).2, imin_nI (by omega) (by omega), pk_mul, ← nI_add, Int32.sub_sub, nI_1]) (fun f => by
    show fX7_indexBehind_L7 n (nI x) _ (f + 1) _ (nI (vd T)) U = some (nI s - nI (nsum (fun i => min (dg (wa T) s i) (cn x i) * uu (wa T) i) (vd T)), U)
    rw [fX7_indexBehind_L7, fU.I (k := 55) (by decide), d1, if_pos (nI_le (Nat.le_refl _) (by omega))]) n (by omega)
  rw [pk_sub (show nsum (fun i => min (dg (wa T) s i) (cn x i) * uu (wa T) i) (vd T) ≤ s by omega), show s - nsum (fun i => min (dg (wa T) s i) (cn x i) * uu (wa T) i) (vd T) = bh (wa T) (vd T) s x by omega] at z
  have e0 : nI s - nI (nsum (fun i => min (dg (wa T) s i) (cn x i) * uu (wa T) i) 0) = nI s := by
    show nI s - nI 0 = nI s
    rw [pk_sub (Nat.zero_le s)]
    rfl
  rw [← e0]
  exact z
