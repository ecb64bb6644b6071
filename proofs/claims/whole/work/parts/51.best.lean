/-! ===== best, bound ===== -/
def fa (v : Nat → Nat) : Nat → Option Nat
  | 0 => none
  | k + 1 => match fa v k with
    | none => some k
    | some b => if v k ≤ v b then some b else some k
def eO (o : Option Nat) : Int32 := match o with
  | none => -1
  | some b => nI b
def eV (v : Nat → Nat) (o : Option Nat) : Int32 := match o with
  | none => -1
  | some b => nI (v b)
theorem fa_lt {v : Nat → Nat} : ∀ {k b : Nat}, fa v k = some b → b < k
  | 0, b, h => by cases h
  | k + 1, b, h => by
    rw [fa] at h
    cases hk : fa v k with
    | none => rw [hk] at h; cases h; omega
    | some a =>
      rw [hk] at h
      have := fa_lt hk
      simp only at h
      split at h <;> (cases h; omega)
theorem fa_none {v : Nat → Nat} : ∀ {k : Nat}, fa v k = none → k = 0
  | 0, _ => rfl
  | k + 1, h => by
    rw [fa] at h
    cases hk : fa v k with
    | none => rw [hk] at h; cases h
    | some a =>
      rw [hk] at h
      simp only at h
      split at h <;> cases h
theorem fa_congr {v w : Nat → Nat} : ∀ {k : Nat}, (∀ i, i < k → v i = w i) → fa v k = fa w k
  | 0, _ => rfl
  | k + 1, h => by
    rw [fa, fa, fa_congr (fun i hi => h i (by omega))]
    cases hk : fa w k with
    | none => rfl
    | some a =>
      simp only
      rw [h k (by omega), h a (by have := fa_lt hk; omega)]
/-- WORTH of the PATTERN k -/
def wK (T : TS) (k : Nat) : Nat := wN T ((psT T).getD k 0)
theorem psT_getD {T : TS} {k x : Nat} (h : (psT T)[k]? = some x) : (psT T).getD k 0 = x := by
  rw [List.getD_eq_getElem?_getD, h]
  rfl
theorem worthiest_eq {n c : Nat} {T : TS} (hn : 10000 ≤ n) (hI : Inv c T) (hN : NUM T) (hl : (psT T).length ≤ 3000) : fX10_worthiest n T = some (eO (fa (wK T) (psT T).length), T) := by
  unfold fX10_worthiest
  rw [cnt_num hN, if_pos hl]
  simp only [bd]
  have g := hN.2.1 hl
  refine lpn (fun f (x : Int32 × Int32 × Int32 × TS) => fX10_worthiest_L15 n (nI (psT T).length) (fun e T => some (e, T)) f x.1 x.2.1 x.2.2.1 x.2.2.2) (fun j => (eO (fa (wK T) j), eV (wK T) (fa (wK T) j), nI j, T)) (psT T).length _ ?_ ?_ n (by omega)
  · intro k hk f
    show fX10_worthiest_L15 n _ _ (f + 1) _ _ (nI k) T = fX10_worthiest_L15 n _ _ f _ _ (nI (k + 1)) T
    have hx := List.getElem?_eq_getElem hk
    have ok := ps_ok hI.1 hx
    have eW : wK T k = wN T (psT T)[k] := by unfold wK; rw [psT_getD hx]
    have hW := wN_lt hI.1 hI.2.2.2.2.1 (psT T)[k]
    have e1 : fX5_codeAt n (nI k) T = some (nI (psT T)[k], T) := by
      unfold fX5_codeAt
      rw [if_neg (nI_pos (by omega)), g.2.1, if_neg (nI_ge hk (by omega)), ck_nI (by omega) (by decide), nI_clamp (by omega), g.2.2 k _ hx]
    rw [fX10_worthiest_L15, if_neg (nI_ge hk (by omega)), e1]
    simp only [bd]
    rw [worth_nI hn hI.1 hI.2.2.2.2.1 ok.1, ← eW, nI_1, fa]
    cases hb : fa (wK T) k with
    | none =>
      simp only
      rw [if_neg (show ¬ nI (wK T k) ≤ eV (wK T) none by
        show ¬ nI (wK T k) ≤ -1
        rw [i_le_int, nI_toInt (by omega)]
        show ¬ (wK T k : Int) ≤ -1
        omega)]
      rfl
    | some b =>
      simp only
      have hb2 := wN_lt hI.1 hI.2.2.2.2.1 ((psT T).getD b 0)
      by_cases hle : wK T k ≤ wK T b
      · rw [if_pos (show nI (wK T k) ≤ eV (wK T) (some b) from nI_le hle (by unfold wK; omega))]
        simp only [if_pos hle]
      · rw [if_neg (show ¬ nI (wK T k) ≤ eV (wK T) (some b) from nI_ge (a := wK T b) (by omega) (by omega))]
        simp only [if_neg hle]
        rfl
  · intro f
    show fX10_worthiest_L15 n _ _ (f + 1) _ _ (nI (psT T).length) T = _
    rw [fX10_worthiest_L15, if_pos (nI_le (Nat.le_refl _) (by omega))]
theorem mbestOf_eq {n c : Nat} {T : TS} (hn : 10000 ≤ n) (hI : Inv c T) (hN : CNT T) (hl : (psT T).length ≤ 3000) : fX11_bestOf n T = some (eO (fa (wK T) (psT T).length), T) := by
  unfold fX11_bestOf
  have g1 : gI T 2064 = nI (psT T).length := by rw [hN.2.1, Nat.min_eq_left (Nat.le_trans hl (by decide))]
  have g2 := hN.2.2 hl
  have gX := hI.2.2.2.1.1
  have wq : ∀ k, k < (psT T).length → fX11_worthOf n (67 + k) T = some (lN (wK T k), T) := fun k hk => by
    have hx := List.getElem?_eq_getElem hk
    have eW : wK T k = wN T (psT T)[k] := by unfold wK; rw [psT_getD hx]
    rw [eW]
    exact mworth_nI hn hI.1 hI.2.2.2.2.1 (by omega) (by omega) (g2 k _ hx)
  have wl : ∀ k, wK T k < 2 ^ 31 := fun k => by
    have := wN_lt hI.1 hI.2.2.2.2.1 ((psT T).getD k 0)
    unfold wK
    omega
  refine lpn (fun f (x : Int32 × Int32 × TS) => fX11_bestOf_L4 n (fun e T => some (e, T)) f x.1 x.2.1 x.2.2) (fun j => (eO (fa (wK T) j), nI j, T)) (psT T).length _ ?_ ?_ n (by omega)
  · intro k hk f
    show fX11_bestOf_L4 n _ (f + 1) _ (nI k) T = fX11_bestOf_L4 n _ f _ (nI (k + 1)) T
    rw [fX11_bestOf_L4, g1, if_neg (nI_ge hk (by omega)), nI_1, fa]
    cases hb : fa (wK T) k with
    | none =>
      rw [if_pos (show eO none = -1 from rfl)]
      rfl
    | some b =>
      have hbk := fa_lt hb
      show (if nI b = -1 then _ else _) = _
      rw [if_neg (show ¬ nI b = -1 by
        intro q
        have := congrArg Int32.toInt q
        rw [nI_toInt (by omega)] at this
        have e : ((-1 : Int32)).toInt = -1 := rfl
        omega), ck_nI (by omega) (by decide), nI_clamp (by omega), gX k (by omega), wq k hk]
      simp only [bd]
      rw [show eO (some b) = nI b from rfl, ck_nI (show b < 3000 by omega) (by decide), nI_clamp (show b < 2 ^ 31 by omega), gX b (by omega), wq b (by omega)]
      simp only
      by_cases hle : wK T k ≤ wK T b
      · rw [if_pos ((lg_cmp_le _ _).mpr ((lN_le (wl k) (wl b)).mpr hle))]
        simp only [if_pos hle]
        rfl
      · rw [if_neg (fun q => hle ((lN_le (wl k) (wl b)).mp ((lg_cmp_le _ _).mp q)))]
        simp only [if_neg hle]
        rfl
  · intro f
    show fX11_bestOf_L4 n _ (f + 1) _ (nI (psT T).length) T = _
    rw [fX11_bestOf_L4, g1, if_pos (nI_le (Nat.le_refl _) (by omega))]
/-- the class's numbers brought up to date, then the reference's -/
theorem both_nums {n c : Nat} {T : TS} (hn : 10000 ≤ n) (hI : Inv c T) : ∃ T1 T3, fX5_isOverfull n T = some (b01 (decide (3000 < (psT T1).length)), T1) ∧ NUM T1 ∧ Inv c T1 ∧ fX11_isNumbered n (uI T1 2050 0) = some (b01 (decide ((psT T1).length ≤ 3000)), T3) ∧ CNT T3 ∧ Inv c T3 ∧ FR [2050, 2063, 2064] [47] 67 3067 T1 T3 := by
  obtain ⟨T1, a1, a2, a3⟩ := refresh_eq hn hI.1 hI.2.2.2.2.2.2.2.2.1
  have hI1 := hI.ref a2 a3
  have hI2 : Inv c (uI T1 2050 0) := hI1.same
  obtain ⟨T3, b1, b2, b3⟩ := mnum_eq (n := n) hn hI2.1 hI2.2.2.2.2.2.2.2.2.2 hI2.2.2.2.1
  refine ⟨T1, T3, ?_, a3, hI1, b1, b3, hI2.cnt b2 b3, (FR.uI (by decide)).trans (b2.mono (by decide) (by decide) (fun _ => by omega))⟩
  have := over_num (n := n) a3
  unfold fX5_isOverfull at this ⊢
  rw [ref_num a3] at this
  rw [a1]
  exact this
theorem wK_fr {is as : List Nat} {lo hi : Nat} {T T' : TS} (f : FR is as lo hi T T') (h1 : ∀ k ∈ [50, 51, 52, 55], k ∉ is) (h2 : ∀ k ∈ [2, 10], k ∉ as ∧ ¬ (lo ≤ k ∧ k < hi)) : wK T' = wK T := by
  funext k
  unfold wK
  rw [ps_fr f h1 (h2 2 (by decide)), wN_fr f (h1 55 (by decide)) (h2 10 (by decide))]
theorem eq_best {n c : Nat} {T : TS} (hn : 10000 ≤ n) (hI : Inv c T) : Both c (fX10_best n) (fX11_best n) T := by
  obtain ⟨T1, T3, a1, N1, I1, b1, C3, I3, f3⟩ := both_nums (n := n) hn hI
  have ep : psT T3 = psT T1 := ps_fr f3 (by decide) (by decide)
  unfold Both fX10_best fX11_best
  simp only [nm]
  rw [a1]
  simp only [bd]
  by_cases hl : (psT T1).length ≤ 3000
  · rw [decide_eq_false (Nat.not_lt.mpr hl), if_pos (by rfl), worthiest_eq hn I1 N1 hl]
    refine ⟨_, T1, T3, rfl, ?_, I3.up⟩
    rw [b1, decide_eq_true hl]
    simp only
    rw [if_neg (show ¬ b01 true = 0 by decide), mbestOf_eq hn I3 C3 (by rw [ep]; exact hl), ep, wK_fr f3 (by decide) (by decide)]
  · rw [decide_eq_true (show 3000 < (psT T1).length by omega), if_neg (show ¬ b01 true = 0 by decide)]
    refine ⟨-1, T1, T3, rfl, ?_, I3.up⟩
    rw [b1, decide_eq_false hl]
    rfl
/-! WANTED -/
def wa (T : TS) (i : Nat) : Nat := (gA T 8 i).toNatClampNeg - (gA T 9 i).toNatClampNeg
theorem wanted_eq {n c i : Nat} {T : TS} (h : GO c T) (hc : c ≤ 520) (hi : i < 6) : fX6_wanted n (nI i) T = some (nI (wa T i), T) ∧ fX11_wanted n (nI i) T = some (nI (wa T i), T) ∧ wa T i ≤ 40 := by
  obtain ⟨a, b, p, w1, w2, w3, w4, w5, w6, w7, w8, w9⟩ := h.2.2 i hi
  have hb : b < 2 ^ 30 + 2 ^ 29 := by
    have : 2000000 * c ≤ 2000000 * 520 := Nat.mul_le_mul_left _ hc
    omega
  have e : wa T i = a - b := by unfold wa; rw [w4, w6, nI_clamp (by omega), nI_clamp (by omega)]
  have key : imax 0 (nI a - nI b) = nI (a - b) := by
    by_cases hab : b ≤ a
    · rw [pk_sub hab, show (0 : Int32) = nI 0 from rfl, imax_nI (by decide) (by omega), Nat.max_eq_right (by omega)]
    · have hneg : nI a - nI b < 0 := by
        rw [i_lt_int]
        have h1 : (nI a - nI b).toInt = (a : Int) - b := by
          rw [Int32.toInt_sub, nI_toInt (by omega), nI_toInt (by omega)]
          show Int.bmod _ (2 ^ 32) = _
          rw [Int.bmod_eq_of_le] <;> omega
        rw [h1]
        show (a : Int) - b < 0
        omega
      unfold imax
      rw [if_neg (fun q => by rw [i_lt_int] at q hneg; omega), show a - b = 0 by omega]
      rfl
  rw [e]
  refine ⟨?_, ?_, by omega⟩
  · unfold fX6_wanted
    rw [ck_nI hi (by decide), ck_nI hi (by decide), nI_clamp (by omega), w4, w6, key]
  · unfold fX11_wanted
    rw [ck_nI hi (by decide), ck_nI hi (by decide), nI_clamp (by omega), w5, w7, key]
