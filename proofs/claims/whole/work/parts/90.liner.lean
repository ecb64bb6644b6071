/-! ===== line: the reference's table ===== -/
/-- what the reference's MOVES read, as it was in T -/
def RfL (T U : TS) : Prop := GM U ∧ vd U = vd T ∧ (∀ x, ctT U x = ctT T x) ∧ gI U 2067 = nI (vns T) ∧ (∀ k, gO U k = gO T k) ∧ (∀ s, s < vns T → ∀ i, i < 6 → gA U (gO T 48 s) i = nI (cn (vcs T s) i)) ∧ gI U 2083 = gI T 2083 ∧ gA U 58 = gA T 58
theorem RfL.fr {T U V : TS} {as : List Nat} {lo hi : Nat} (hS : GS T) (h : RfL T U) (f : FR [] as lo hi U V) (ha : ∀ k ∈ as, k = 51 ∨ k = 59 ∨ k = 60) (hl : 3127 ≤ lo ∨ hi ≤ lo) : RfL T V := by
  obtain ⟨m1, m2, m3, m4, m5, m6, m7, m8⟩ := h
  have hg : ∀ k, k < 3127 → ¬ (lo ≤ k ∧ k < hi) := fun k hk => by omega
  have hn : ∀ k, k ≠ 51 → k ≠ 59 → k ≠ 60 → k ∉ as := fun k a b c z => by
    have := ha k z
    omega
  refine ⟨m1.fr f (by decide) (fun k hk => ?_), by unfold vd; rw [f.I (by decide)]; exact m2, fun x => ?_, (f.I (by decide)).trans m4, fun k => (f.O k).trans (m5 k), fun s hs i hi2 => ?_, (f.I (by decide)).trans m7, (f.A (hn _ (by decide) (by decide) (by decide)) (hg 58 (by decide))).trans m8⟩
  · simp only [List.mem_cons, List.not_mem_nil, or_false] at hk
    exact ⟨hn k (by omega) (by omega) (by omega), hg k (by omega)⟩
  · rw [ctT_fr f (by decide) ⟨hn _ (by decide) (by decide) (by decide), hg 2 (by decide)⟩]
    exact m3 x
  · have := hS.2.2.2.2.1 s (by have := hS.2.2.1; omega)
    rw [f.A (hn _ (by omega) (by omega) (by omega)) (hg _ (by omega))]
    exact m6 s hs i hi2
theorem movesR1 {n s t : Nat} {T U : TS} (hn : 100 ≤ n) (hM : GM T) (hS : GS T) (h : RfL T U) (hs : s < vns T) (ht : t < vns T) : ∃ V, fX11_moves n (nI t) (nI s) U = some (nI (mvT T (t + 1) s), V) ∧ FR [] [59, 60] 0 0 U V := by
  obtain ⟨m1, m2, m3, m4, m5, m6, m7, m8⟩ := h
  have h60 := hS.2.2.1
  obtain ⟨c1, ok, -⟩ := hS.2.2.2.1 s hs
  obtain ⟨b1, okb, -⟩ := hS.2.2.2.1 t ht
  have r1 := hS.2.2.2.2.1 s (by omega)
  have r2 := hS.2.2.2.2.1 t (by omega)
  obtain ⟨X, a1, a2, a3⟩ := cuts60 (n := n) (x := vcs T s) (q := gO T 48 s) (T := U) hn m1 (by omega) (by omega) (by rw [m2]; exact ok) (m6 s hs)
  rw [m3] at a1 a3
  unfold fX11_moves
  rw [ck_nI (by omega) (by decide), nI_clamp (by omega), m5, a1]
  simp only [bd]
  rw [if_pos (show ¬ nI t = -1 from nI_ne_neg (by omega)), ck_nI (by omega) (by decide), nI_clamp (by omega), a2.O, m5]
  have eU : vd X = vd T := by unfold vd; rw [a2.I (by decide)]; exact m2
  have eC : ∀ x, ctT X x = ctT T x := fun x => (ctT_fr a2 (by decide) (by decide) x).trans (m3 x)
  obtain ⟨V, g1, g2, g3⟩ := cuts59 (n := n) (x := vcs T t) (T := X) (q := gO T 48 t) hn (m1.fr a2 (by decide) (by decide)) (by omega) (by omega) (by rw [eU]; exact okb) (fun i hi => by rw [a2.A (by simp only [List.mem_cons, List.not_mem_nil, or_false]; omega) (by omega)]; exact m6 t ht i hi)
  rw [eC] at g1 g3
  rw [g1]
  simp only
  rw [un59 hn (ctT_le hM okb) (ctT_le hM ok)]
  have e : mvn (gA V 59) (ctT T (vcs T t)).length (gA V 60) (ctT T (vcs T s)).length = mvT T (t + 1) s := by
    unfold mvT
    rw [if_neg (by omega), Nat.add_sub_cancel]
    exact mvn_congr (fun i hi => g3.atl hi) (fun i hi => by rw [g2.A (by decide) (by decide)]; exact a3.atl hi)
  rw [e]
  exact ⟨V, rfl, (a2.mono (by decide) (by decide) (fun _ => by omega)).trans (g2.mono (by decide) (by decide) (fun _ => by omega))⟩
theorem movesR0 {n s : Nat} {T U : TS} (hn : 100 ≤ n) (hM : GM T) (hS : GS T) (hL : GL T) (h : RfL T U) (hs : s < vns T) : ∃ V, fX11_moves n (-1) (nI s) U = some (nI (mvT T 0 s), V) ∧ FR [] [59, 60] 0 0 U V := by
  obtain ⟨m1, m2, m3, m4, m5, m6, m7, m8⟩ := h
  have h60 := hS.2.2.1
  obtain ⟨c1, ok, -⟩ := hS.2.2.2.1 s hs
  have r1 := hS.2.2.2.2.1 s (by omega)
  obtain ⟨m, hm, l1, l2, l3, l4⟩ := hL
  obtain ⟨X, a1, a2, a3⟩ := cuts60 (n := n) (x := vcs T s) (q := gO T 48 s) (T := U) hn m1 (by omega) (by omega) (by rw [m2]; exact ok) (m6 s hs)
  rw [m3] at a1 a3
  unfold fX11_moves
  rw [ck_nI (by omega) (by decide), nI_clamp (by omega), m5, a1]
  simp only [bd]
  rw [if_neg (show ¬ ¬ True from fun q => q trivial), a2.I (k := 2083) (by decide), m7, l2, un58 hn hm (ctT_le hM ok)]
  have e : mvn (gA X 58) m (gA X 60) (ctT T (vcs T s)).length = mvT T 0 s := by
    unfold mvT
    rw [if_pos rfl]
    unfold mvF
    rw [l1, nI_clamp (by omega)]
    exact mvn_congr (fun i hi => by rw [a2.A (by decide) (by decide), m8]; exact l3 i hi) (fun i hi => a3.atl hi)
  rw [e]
  exact ⟨X, rfl, a2.mono (by decide) (by decide) (fun _ => by omega)⟩
def c63 (n : Nat) (y1 y2 y3 : Int32) (kk : TS → Option (Int32 × TS)) (fuel : Nat) (x4 : Int32) (T : TS) (r_6 : Int32) (T_5 : TS) : Option (Int32 × TS) := ck (y2 ||| ((1 : Int32) <<< (x4 &&& 31))) 256 (ak (gO T_5 61 (Int32.toNatClampNeg (y2 ||| ((1 : Int32) <<< (x4 &&& 31))))) (ck x4 (al (gO T_5 61 (Int32.toNatClampNeg (y2 ||| ((1 : Int32) <<< (x4 &&& 31)))))) (ak (gO T 61 (Int32.toNatClampNeg y2)) (ck y3 (al (gO T 61 (Int32.toNatClampNeg y2))) (nm (sA T_5 (gO T 61 (Int32.toNatClampNeg y2)) y3 (imin (gA T (gO T 61 (Int32.toNatClampNeg y2)) (Int32.toNatClampNeg y3)) (r_6 + (gA T_5 (gO T_5 61 (Int32.toNatClampNeg (y2 ||| ((1 : Int32) <<< (x4 &&& 31))))) (Int32.toNatClampNeg x4))))) (fun T_7 => fX11_line_L63 n y1 y2 y3 kk fuel (x4 + 1) T_7))))))
def d63 (n : Nat) (y1 y2 y3 : Int32) (kk : TS → Option (Int32 × TS)) (fuel : Nat) (x4 : Int32) (T : TS) : Option (Int32 × TS) := if ¬ ((y2 >>> (x4 &&& 31)) &&& (1 : Int32)) = (1 : Int32) then ck y2 256 (ck y2 256 (ak (gO T 61 (Int32.toNatClampNeg y2)) (ck y3 (al (gO T 61 (Int32.toNatClampNeg y2))) (if ¬ y3 = (8 : Int32) then bd (fX11_moves n y3 x4 T) (c63 n y1 y2 y3 kk fuel x4 T) else bd (fX11_moves n (-1 : Int32) x4 T) (c63 n y1 y2 y3 kk fuel x4 T))))) else fX11_line_L63 n y1 y2 y3 kk fuel (x4 + 1) T
theorem unf63 (n : Nat) (y1 y2 y3 : Int32) (kk : TS → Option (Int32 × TS)) (fuel : Nat) (x4 : Int32) (T : TS) : fX11_line_L63 n y1 y2 y3 kk (fuel + 1) x4 T = if (gI T 2067) ≤ x4 then kk T else if ¬ y3 = (8 : Int32) then if (gI T 2067) ≤ y3 then kk T else d63 n y1 y2 y3 kk fuel x4 T else if ¬ y2 = 0 then kk T else d63 n y1 y2 y3 kk fuel x4 T := by
  rw [fX11_line_L63]
  rfl
/-- which row of the steps belongs to 'last' -/
def LA (T : TS) (set la r : Nat) : Prop := (la = 8 ∧ set = 0 ∧ r = 0) ∨ (la < vns T ∧ r = la + 1)
abbrev gR (T : TS) (r set : Nat) : Nat → Nat := fun s => mvT T r s + lvT T (set ||| 2 ^ s) (s + 1)
theorem r63 {n set la r B : Nat} {T U : TS} {y1 : Int32} (hn : 10000 ≤ n) (hM : GM T) (hS : GS T) (hL : GL T) (h8 : vns T ≤ 8) (h : RfL T U) (hX : ∀ r, r < 256 → gO T 61 r = 3247 + r) (hset : set < 2 ^ vns T) (hla : LA T set la r) (hB : B ≤ 1000000) (hrow : ∀ t s, set < t → t < 2 ^ vns T → s < vns T → gA U (3247 + t) s = nI (lvT T t (s + 1))) (h0 : gA U (3247 + set) la = nI B) : ∃ V, FR [] [59, 60] (3247 + set) (3247 + set + 1) U V ∧ gA V (3247 + set) la = nI (mnB B (gR T r set) set (vns T)) ∧ (∀ k, k ≠ la → gA V (3247 + set) k = gA U (3247 + set) k) ∧ (fun kk => fX11_line_L63 n y1 (nI set) (nI la) kk n 0 U) = fun kk => kk V := by
  have hp := pw8 h8
  have hla9 : la < 9 := by rcases hla with q | q <;> omega
  refine lpi (fun g (a : Int32 × TS) kk => fX11_line_L63 n y1 (nI set) (nI la) kk g a.1 a.2) (fun j a => a.1 = nI j ∧ FR [] [59, 60] (3247 + set) (3247 + set + 1) U a.2 ∧ gA a.2 (3247 + set) la = nI (mnB B (gR T r set) set j) ∧ ∀ k, k ≠ la → gA a.2 (3247 + set) k = gA U (3247 + set) k) (vns T) (fun o => ∃ V, FR [] [59, 60] (3247 + set) (3247 + set + 1) U V ∧ gA V (3247 + set) la = nI (mnB B (gR T r set) set (vns T)) ∧ (∀ k, k ≠ la → gA V (3247 + set) k = gA U (3247 + set) k) ∧ o = fun kk => kk V) ?_ ?_ n (0, U) (by omega) ⟨rfl, FR.rf, h0, fun k _ => rfl⟩
  · rintro j ⟨a, V⟩ hj ⟨e, fV, g1, g2⟩
    simp only at e fV g1 g2
    subst e
    have hV : RfL T V := h.fr hS fV (by decide) (Or.inl (by omega))
    obtain ⟨m1, m2, m3, m4, m5, m6, m7, m8⟩ := id hV
    have enter : ∀ g kk, fX11_line_L63 n y1 (nI set) (nI la) kk (g + 1) (nI j) V = d63 n y1 (nI set) (nI la) kk g (nI j) V := by
      intro g kk
      rw [unf63, m4, if_neg (nI_ge hj (by omega))]
      rcases hla with ⟨q1, q2, q3⟩ | ⟨q1, q2⟩
      · rw [if_neg (show ¬ ¬ nI la = 8 from fun z => z (by rw [q1]; rfl)), if_neg (show ¬ ¬ nI set = 0 from fun z => z (by rw [q2]; rfl))]
      · rw [if_pos (show ¬ nI la = (8 : Int32) from fun z => by have := (nI_eq (a := la) (b := 8) (by omega) (by decide)).mp z; omega), if_neg (nI_ge q1 (by omega))]
    cases hb : set.testBit j with
    | true =>
      refine ⟨(nI (j + 1), V), ⟨rfl, fV, ?_, g2⟩, fun g => funext fun kk => ?_⟩
      · show gA V (3247 + set) la = _
        rw [mnB, hb]
        simp only [if_true]
        exact g1
      · show fX11_line_L63 n y1 (nI set) (nI la) kk (g + 1) (nI j) V = fX11_line_L63 n y1 (nI set) (nI la) kk g (nI (j + 1)) V
        rw [enter]
        unfold d63
        rw [has_nI (by omega) (by omega), hb, if_neg (show ¬ ¬ (if true = true then (1 : Int32) else 0) = 1 from fun z => z (by decide)), nI_1]
    | false =>
      obtain ⟨o1, o2⟩ := or_in h8 hset hj hb
      have hp2 : 0 < 2 ^ j := Nat.pow_pos (by decide)
      have mvs : ∃ X, (if ¬ nI la = (8 : Int32) then fX11_moves n (nI la) (nI j) V else fX11_moves n (-1) (nI j) V) = some (nI (mvT T r j), X) ∧ FR [] [59, 60] 0 0 V X := by
        rcases hla with ⟨q1, q2, q3⟩ | ⟨q1, q2⟩
        · rw [if_neg (show ¬ ¬ nI la = 8 from fun z => z (by rw [q1]; rfl)), q3]
          exact movesR0 (by omega) hM hS hL hV hj
        · rw [if_pos (show ¬ nI la = (8 : Int32) from fun z => by have := (nI_eq (a := la) (b := 8) (by omega) (by decide)).mp z; omega), q2]
          exact movesR1 (by omega) hM hS hV hj q1
      obtain ⟨X, x1, x2⟩ := mvs
      have eX : ∀ k, gO X k = gO T k := fun k => (x2.O k).trans (m5 k)
      have b1 : mnB B (gR T r set) set j ≤ B := mnB_top j
      have b2 := lvT_le hM hS h8 o2 (j + 1)
      have b3 := mvT_le hM hS r j hj
      have row2 : gA X (3247 + (set ||| 2 ^ j)) j = nI (lvT T (set ||| 2 ^ j) (j + 1)) := by
        rw [x2.A (fun z => by simp only [List.mem_cons, List.not_mem_nil, or_false] at z; omega) (by omega), fV.A (fun z => by simp only [List.mem_cons, List.not_mem_nil, or_false] at z; omega) (by omega)]
        exact hrow _ j (by omega) o2 hj
      have eR : gA X (3247 + set) = gA V (3247 + set) := x2.A (fun z => by simp only [List.mem_cons, List.not_mem_nil, or_false] at z; omega) (by omega)
      refine ⟨(nI (j + 1), sA X (3247 + set) (nI la) (nI (mnB B (gR T r set) set (j + 1)))), ⟨rfl, (fV.trans (x2.mono (by decide) (by decide) (fun _ => by omega))).trans (FR.sA (Or.inr (by omega))), ?_, fun k hk => ?_⟩, fun g => funext fun kk => ?_⟩
      · show gA (sA X (3247 + set) (nI la) _) (3247 + set) la = _
        rw [gA_sA_at (by omega), if_pos rfl]
      · show gA (sA X (3247 + set) (nI la) _) (3247 + set) k = _
        rw [gA_sA_at (by omega), if_neg hk, eR]
        exact g2 k hk
      · show fX11_line_L63 n y1 (nI set) (nI la) kk (g + 1) (nI j) V = fX11_line_L63 n y1 (nI set) (nI la) kk g (nI (j + 1)) _
        rw [enter]
        unfold d63
        have ebd : (if ¬ nI la = (8 : Int32) then bd (fX11_moves n (nI la) (nI j) V) (c63 n y1 (nI set) (nI la) kk g (nI j) V) else bd (fX11_moves n (-1 : Int32) (nI j) V) (c63 n y1 (nI set) (nI la) kk g (nI j) V)) = c63 n y1 (nI set) (nI la) kk g (nI j) V (nI (mvT T r j)) X := by
          by_cases z : nI la = (8 : Int32)
          · rw [if_neg (fun y => y z)] at x1 ⊢
            rw [x1]
            rfl
          · rw [if_pos z] at x1 ⊢
            rw [x1]
            rfl
        rw [has_nI (by omega) (by omega), hb, if_pos (show ¬ (if false = true then (1 : Int32) else 0) = 1 by decide), ck_nI (by omega) (by decide), ck_nI (by omega) (by decide), nI_clamp (by omega), m5, hX set (by omega), ak_row (by omega) (by omega), al_9 (by omega), ck_nI hla9 (by decide), ebd]
        unfold c63
        rw [shl_nI (by omega), nx_or, ck_nI (by omega) (by decide), nI_clamp (show set ||| 2 ^ j < 2 ^ 31 by omega), eX, hX _ (by omega), ak_row (by omega) (by omega), al_9 (by omega), ck_nI (by omega) (by decide), nI_clamp (show set < 2 ^ 31 by omega), m5, hX set (by omega), ak_row (by omega) (by omega), al_9 (by omega), ck_nI hla9 (by decide), nI_clamp (show j < 2 ^ 31 by omega), nI_clamp (show la < 2 ^ 31 by omega), row2, g1, nI_add, imin_nI (by omega) (by omega), nI_1]
        simp only [nm]
        rw [mnB, hb]
        simp only [Bool.false_eq_true, if_false]
  · rintro ⟨a, V⟩ ⟨e, fV, g1, g2⟩ g
    simp only at e fV g1 g2
    subst e
    have hV : RfL T V := h.fr hS fV (by decide) (Or.inl (by omega))
    refine ⟨V, fV, g1, g2, funext fun kk => ?_⟩
    show fX11_line_L63 n y1 (nI set) (nI la) kk (g + 1) (nI (vns T)) V = _
    rw [unf63, hV.2.2.2.1, if_pos (nI_le (Nat.le_refl _) (by omega))]
theorem r63i {n set la : Nat} {T U : TS} {y1 : Int32} (hn : 10000 ≤ n) (h8 : vns T ≤ 8) (h : RfL T U) (hset : set < 256) (hl : la < 9) (hla : (la = 8 ∧ set ≠ 0) ∨ (la ≠ 8 ∧ vns T ≤ la)) (kk : TS → Option (Int32 × TS)) : fX11_line_L63 n y1 (nI set) (nI la) kk n 0 U = kk U := by
  obtain ⟨g, rfl⟩ : ∃ g, n = g + 1 := ⟨n - 1, by omega⟩
  rw [unf63, h.2.2.2.1]
  by_cases z : nI (vns T) ≤ 0
  · rw [if_pos z]
  · rw [if_neg z]
    rcases hla with ⟨q1, q2⟩ | ⟨q1, q2⟩
    · rw [if_neg (show ¬ ¬ nI la = 8 from fun z => z (by rw [q1]; rfl)), if_pos (show ¬ nI set = (0 : Int32) from fun z => q2 ((nI_eq (a := set) (b := 0) (by omega) (by decide)).mp z))]
    · rw [if_pos (show ¬ nI la = (8 : Int32) from fun z => q1 ((nI_eq (a := la) (b := 8) (by omega) (by decide)).mp z)), if_pos (nI_le q2 (by omega))]
def Bs (T : TS) (set : Nat) : Nat := if set + 1 = 2 ^ vns T then 0 else 1000000
theorem Bs_val {T : TS} (h8 : vns T ≤ 8) {set r : Nat} (hset : set < 2 ^ vns T) : mnB (Bs T set) (gR T r set) set (vns T) = lvT T set r := by
  unfold Bs
  by_cases q : set + 1 = 2 ^ vns T
  · rw [if_pos q, show lvT T set r = 0 from lv_full q r]
    have := mnB_top (B := 0) (set := set) (g := gR T r set) (vns T)
    omega
  · rw [if_neg q]
    exact (lv_step h8 (by omega) r).symm
theorem r33 {n set : Nat} {T U : TS} (hn : 10000 ≤ n) (hM : GM T) (hS : GS T) (hL : GL T) (h8 : vns T ≤ 8) (h : RfL T U) (hX : ∀ r, r < 256 → gO T 61 r = 3247 + r) (hset : set < 2 ^ vns T) (hrow : ∀ t s, set < t → t < 2 ^ vns T → s < vns T → gA U (3247 + t) s = nI (lvT T t (s + 1))) : ∃ V, FR [] [59, 60] (3247 + set) (3247 + set + 1) U V ∧ (∀ s, s < vns T → gA V (3247 + set) s = nI (lvT T set (s + 1))) ∧ (set = 0 → gA V (3247 + set) 8 = nI (lvT T set 0)) ∧ (fun kk => fX11_line_L33 n (nI (2 ^ vns T)) (nI set) kk n 0 U) = fun kk => kk V := by
  have hp := pw8 h8
  refine lpi (fun g (a : Int32 × TS) kk => fX11_line_L33 n (nI (2 ^ vns T)) (nI set) kk g a.1 a.2) (fun j a => a.1 = nI j ∧ FR [] [59, 60] (3247 + set) (3247 + set + 1) U a.2 ∧ (∀ s, s < j → s < vns T → gA a.2 (3247 + set) s = nI (lvT T set (s + 1))) ∧ (8 < j → set = 0 → gA a.2 (3247 + set) 8 = nI (lvT T set 0))) 9 (fun o => ∃ V, FR [] [59, 60] (3247 + set) (3247 + set + 1) U V ∧ (∀ s, s < vns T → gA V (3247 + set) s = nI (lvT T set (s + 1))) ∧ (set = 0 → gA V (3247 + set) 8 = nI (lvT T set 0)) ∧ o = fun kk => kk V) ?_ ?_ n (0, U) (by omega) ⟨rfl, FR.rf, fun s hs => by omega, fun hs => by omega⟩
  · rintro j ⟨a, V⟩ hj ⟨e, fV, g1, g2⟩
    simp only at e fV g1 g2
    subst e
    have hV : RfL T V := h.fr hS fV (by decide) (Or.inl (by omega))
    generalize hW : sA V (3247 + set) (nI j) (nI (Bs T set)) = W
    have fVW : FR [] [59, 60] (3247 + set) (3247 + set + 1) V W := by rw [← hW]; exact FR.sA (Or.inr (by omega))
    have gW : ∀ k, gA W (3247 + set) k = if k = j then nI (Bs T set) else gA V (3247 + set) k := fun k => by rw [← hW]; exact gA_sA_at (by omega) k
    have fW : FR [] [59, 60] (3247 + set) (3247 + set + 1) U W := fV.trans fVW
    have hRW : RfL T W := h.fr hS fW (by decide) (Or.inl (by omega))
    have step : ∀ g kk, fX11_line_L33 n (nI (2 ^ vns T)) (nI set) kk (g + 1) (nI j) V = fX11_line_L63 n (nI (2 ^ vns T)) (nI set) (nI j) (fun Z => fX11_line_L33 n (nI (2 ^ vns T)) (nI set) kk g (nI (j + 1)) Z) n 0 W := by
      intro g kk
      rw [fX11_line_L33, if_neg (show ¬ (9 : Int32) ≤ nI j from nI_ge (b := 9) hj (by decide)), ck_nI (by omega) (by decide), nI_clamp (by omega), hV.2.2.2.2.1, hX set (by omega), ak_row (by omega) (by omega), al_9 (by omega), ck_nI hj (by decide), ak_row (by omega) (by omega), ck_nI hj (by decide), nI_prd (Nat.pow_pos (by decide))]
      simp only [nm]
      rw [nI_1]
      unfold Bs at hW
      by_cases q : set + 1 = 2 ^ vns T
      · rw [if_neg (fun z => z (by rw [show set = 2 ^ vns T - 1 by omega]))]
        rw [if_pos q] at hW
        rw [show sA V (3247 + set) (nI j) 0 = W from hW]
      · rw [if_pos (fun z => by have := (nI_eq (by omega) (by omega)).mp z; omega)]
        rw [if_neg q] at hW
        rw [show sA V (3247 + set) (nI j) 1000000 = W from hW]
    by_cases act : ∃ r, LA T set j r
    · obtain ⟨r, hr⟩ := act
      obtain ⟨Y, y1, y2, y3, y4⟩ := r63 (n := n) (y1 := nI (2 ^ vns T)) (B := Bs T set) hn hM hS hL h8 hRW hX hset hr (by unfold Bs; split <;> omega) (fun t s ht ht2 hs => by
        rw [fW.A (fun z => by simp only [List.mem_cons, List.not_mem_nil, or_false] at z; omega) (by omega)]
        exact hrow t s ht ht2 hs) (by rw [gW, if_pos rfl])
      rw [Bs_val h8 hset] at y2
      refine ⟨(nI (j + 1), Y), ⟨rfl, fW.trans y1, fun s hs hs2 => ?_, fun hs hs2 => ?_⟩, fun g => funext fun kk => ?_⟩
      · show gA Y (3247 + set) s = _
        by_cases q : s = j
        · subst q
          rw [y2]
          rcases hr with ⟨q1, q2, q3⟩ | ⟨q1, q2⟩
          · omega
          · rw [q2]
        · rw [y3 s q, gW, if_neg q]
          exact g1 s (by omega) hs2
      · show gA Y (3247 + set) 8 = _
        have e8 : j = 8 := by omega
        subst e8
        rw [y2]
        rcases hr with ⟨q1, q2, q3⟩ | ⟨q1, q2⟩
        · rw [q3]
        · omega
      · show fX11_line_L33 n (nI (2 ^ vns T)) (nI set) kk (g + 1) (nI j) V = _
        rw [step, congrFun y4]
    · have in2 : (j = 8 ∧ set ≠ 0) ∨ (j ≠ 8 ∧ vns T ≤ j) := by
        by_cases e8 : j = 8
        · refine Or.inl ⟨e8, fun z => act ⟨0, Or.inl ⟨e8, z, rfl⟩⟩⟩
        · refine Or.inr ⟨e8, ?_⟩
          rcases Nat.lt_or_ge j (vns T) with z | z
          · exact absurd ⟨j + 1, Or.inr ⟨z, rfl⟩⟩ act
          · exact z
      refine ⟨(nI (j + 1), W), ⟨rfl, fW, fun s hs hs2 => ?_, fun hs hs2 => ?_⟩, fun g => funext fun kk => ?_⟩
      · show gA W (3247 + set) s = _
        have q : s ≠ j := by omega
        rw [gW, if_neg q]
        exact g1 s (by omega) hs2
      · omega
      · show fX11_line_L33 n (nI (2 ^ vns T)) (nI set) kk (g + 1) (nI j) V = _
        rw [step, r63i hn h8 hRW (by omega) hj in2]
  · rintro ⟨a, V⟩ ⟨e, fV, g1, g2⟩ g
    simp only at e fV g1 g2
    subst e
    refine ⟨V, fV, fun s hs => g1 s (by omega) hs, fun z => g2 (by omega) z, funext fun kk => ?_⟩
    show fX11_line_L33 n (nI (2 ^ vns T)) (nI set) kk (g + 1) (nI 9) V = _
    rw [fX11_line_L33, if_pos (show (9 : Int32) ≤ nI 9 by decide)]
theorem r27 {n : Nat} {T U : TS} (hn : 10000 ≤ n) (hM : GM T) (hS : GS T) (hL : GL T) (h8 : vns T ≤ 8) (h : RfL T U) (hX : ∀ r, r < 256 → gO T 61 r = 3247 + r) : ∃ V, FR [] [59, 60] 3247 3503 U V ∧ (∀ t s, t < 2 ^ vns T → s < vns T → gA V (3247 + t) s = nI (lvT T t (s + 1))) ∧ gA V 3247 8 = nI (lvT T 0 0) ∧ (fun kk => fX11_line_L27 n (nI (2 ^ vns T)) kk n (nI (2 ^ vns T) - 1) U) = fun kk => kk V := by
  have hp := pw8 h8
  have hpos : 0 < 2 ^ vns T := Nat.pow_pos (by decide)
  refine lpi (fun g (a : Int32 × TS) kk => fX11_line_L27 n (nI (2 ^ vns T)) kk g a.1 a.2) (fun j a => a.1 = nI (2 ^ vns T - j) - 1 ∧ FR [] [59, 60] 3247 3503 U a.2 ∧ (∀ t s, 2 ^ vns T ≤ t + j → t < 2 ^ vns T → s < vns T → gA a.2 (3247 + t) s = nI (lvT T t (s + 1))) ∧ (j = 2 ^ vns T → gA a.2 3247 8 = nI (lvT T 0 0))) (2 ^ vns T) (fun o => ∃ V, FR [] [59, 60] 3247 3503 U V ∧ (∀ t s, t < 2 ^ vns T → s < vns T → gA V (3247 + t) s = nI (lvT T t (s + 1))) ∧ gA V 3247 8 = nI (lvT T 0 0) ∧ o = fun kk => kk V) ?_ ?_ n (nI (2 ^ vns T) - 1, U) (by omega) ⟨rfl, FR.rf, fun t s ht ht2 => by omega, fun hs => by omega⟩
  · rintro j ⟨a, V⟩ hj ⟨e, fV, g1, g2⟩
    simp only at e fV g1 g2
    obtain ⟨set, hset⟩ : ∃ set, set = 2 ^ vns T - j - 1 := ⟨_, rfl⟩
    rw [nI_prd (by omega), ← hset] at e
    subst e
    have hV : RfL T V := h.fr hS fV (by decide) (Or.inl (by omega))
    obtain ⟨Y, y1, y2, y3, y4⟩ := r33 (n := n) (set := set) hn hM hS hL h8 hV hX (by omega) (fun t s ht ht2 hs => g1 t s (by omega) ht2 hs)
    refine ⟨(nI set - 1, Y), ⟨congrArg (fun z => nI z - 1) (show set = 2 ^ vns T - (j + 1) by omega), fV.trans (y1.mono (by decide) (by decide) (fun _ => by omega)), fun t s ht ht2 hs => ?_, fun hz => ?_⟩, fun g => funext fun kk => ?_⟩
    · show gA Y (3247 + t) s = _
      by_cases q : t = set
      · subst q
        exact y2 s hs
      · rw [y1.A (fun z => by simp only [List.mem_cons, List.not_mem_nil, or_false] at z; omega) (by omega)]
        exact g1 t s (by omega) ht2 hs
    · show gA Y 3247 8 = _
      have z0 : set = 0 := by omega
      subst z0
      exact y3 rfl
    · show fX11_line_L27 n (nI (2 ^ vns T)) kk (g + 1) (nI set) V = fX11_line_L27 n (nI (2 ^ vns T)) kk g (nI set - 1) Y
      rw [fX11_line_L27, if_neg (nI_pos (by omega)), congrFun y4, Int32.sub_eq_add_neg]
  · rintro ⟨a, V⟩ ⟨e, fV, g1, g2⟩ g
    simp only [Nat.sub_self] at e fV g1 g2
    subst e
    refine ⟨V, fV, fun t s ht hs => g1 t s (by omega) ht hs, g2 trivial, funext fun kk => ?_⟩
    show fX11_line_L27 n (nI (2 ^ vns T)) kk (g + 1) (nI 0 - 1) V = _
    rw [fX11_line_L27, if_pos (show nI 0 - 1 < (0 : Int32) by decide)]
