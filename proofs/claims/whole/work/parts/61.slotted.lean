/-! ===== slotted ===== -/
def lf (l : List Nat) (k : Nat) : Int32 := nI (l.getD k 0)
theorem AL.atl {T : TS} {a : Nat} {l : List Nat} (h : AL T a l) {k : Nat} (hk : k < l.length) : gA T a k = lf l k := by
  have e : l[k]? = some l[k] := List.getElem?_eq_getElem hk
  rw [h k _ e]
  unfold lf
  rw [List.getD_eq_getElem?_getD, e]
  rfl
/-- MOVES from one PATTERN to another, from LATEST to one -/
def mvP (T : TS) (x y : Nat) : Nat := mvn (lf (ctT T x)) (ctT T x).length (lf (ctT T y)) (ctT T y).length
def mvF (T : TS) (y : Nat) : Nat := mvn (gA T 21) (gI T 1000).toNatClampNeg (lf (ctT T y)) (ctT T y).length
theorem mvP_fr {is as : List Nat} {lo hi : Nat} {T T' : TS} (f : FR is as lo hi T T') (h1 : 51 ∉ is ∧ 55 ∉ is) (h2 : 2 ∉ as ∧ ¬ (lo ≤ 2 ∧ 2 < hi)) (x y : Nat) : mvP T' x y = mvP T x y := by
  unfold mvP
  rw [ctT_fr f h1 h2, ctT_fr f h1 h2]
theorem mvF_fr {is as : List Nat} {lo hi : Nat} {T T' : TS} (f : FR is as lo hi T T') (h1 : 51 ∉ is ∧ 55 ∉ is) (h2 : 2 ∉ as ∧ ¬ (lo ≤ 2 ∧ 2 < hi)) (h3 : 1000 ∉ is) (h4 : 21 ∉ as ∧ ¬ (lo ≤ 21 ∧ 21 < hi)) (y : Nat) : mvF T' y = mvF T y := by
  unfold mvF
  rw [ctT_fr f h1 h2, f.1 1000 h3, f.A h4.1 h4.2]
theorem ctT_le {T : TS} {x : Nat} (hM : GM T) (ok : okc (vd T) x) : (ctT T x).length ≤ 21 := ct_le ok hM.d.2.2
/-- the class's moves once both are laid -/
theorem mf22_eq {n x y : Nat} {T U : TS} (hn : 100 ≤ n) (hM : GM T) (okx : okc (vd T) x) (oky : okc (vd T) y) (h1 : gI U 1100 = nI (ctT T x).length) (h2 : gI U 1200 = nI (ctT T y).length) (a1 : AL U 23 (ctT T x)) (a2 : AL U 25 (ctT T y)) : fX1_movesFrom_24_22 n U = some (nI (mvP T x y), U) := by
  rw [mf22 hn h1 (ctT_le hM okx) h2 (ctT_le hM oky) (a1.ri hM) (a2.ri hM)]
  have e : mvn (gA U 23) (ctT T x).length (gA U 25) (ctT T y).length = mvP T x y := mvn_congr (fun i hi => a1.atl hi) (fun i hi => a2.atl hi)
  rw [e]
theorem mf20_eq {n y : Nat} {T U : TS} (hn : 100 ≤ n) (hM : GM T) (hL : GL T) (oky : okc (vd T) y) (e1 : gI U 1000 = gI T 1000) (e2 : gA U 21 = gA T 21) (h2 : gI U 1200 = nI (ctT T y).length) (a2 : AL U 25 (ctT T y)) : fX1_movesFrom_24_20 n U = some (nI (mvF T y), U) := by
  obtain ⟨m, hm, l1, l2, l3, l4⟩ := hL
  rw [mf20 hn (e1.trans l1) hm h2 (ctT_le hM oky) (by rw [e2]; exact l4) (a2.ri hM)]
  have e : mvn (gA U 21) m (gA U 25) (ctT T y).length = mvF T y := by
    unfold mvF
    rw [l1, nI_clamp (by omega), e2]
    exact mvn_congr (fun i hi => rfl) (fun i hi => a2.atl hi)
  rw [e]
theorem nI_ne_neg {t : Nat} (h : t < 2 ^ 31) : ¬ nI t = -1 := fun q => by
  have := congrArg Int32.toInt q
  rw [nI_toInt h, show ((-1 : Int32)).toInt = -1 from rfl] at this
  omega
def mvS (T : TS) (s : Nat) : Nat := if s = 0 then mvF T (vcs T 0) else mvP T (vcs T (s - 1)) (vcs T s)
theorem movesTo_eq {n s : Nat} {T : TS} (hn : 100 ≤ n) (hM : GM T) (hS : GS T) (hL : GL T) (hs : s < vns T) : ∃ T', fX10_movesTo n (nI s) T = some (nI (mvS T s), T') ∧ FR [1100, 1200] [23, 25] 0 0 T T' := by
  have h60 := hS.2.2.1
  obtain ⟨c1, ok, -⟩ := hS.2.2.2.1 s hs
  obtain ⟨U, a1, a2, a3, a4⟩ := lay24 (n := n) hn hM ok
  unfold fX10_movesTo
  rw [ck_nI (by omega) (by decide), nI_clamp (by omega), c1, a1]
  simp only [bv]
  by_cases h0 : s = 0
  · subst h0
    rw [if_neg (show ¬ ¬ nI 0 = 0 from fun q => q rfl), mf20_eq hn hM hL ok (a2.I (by decide)) (a2.A (by decide) (by decide)) a4 a3]
    exact ⟨U, rfl, a2.mono (by decide) (by decide) (fun _ => by omega)⟩
  · have e1 : nI s - 1 = nI (s - 1) := by
      have : nI s = nI (s - 1) + 1 := by rw [nI_1, show s - 1 + 1 = s by omega]
      rw [this, Int32.add_sub_cancel]
    rw [if_pos (show ¬ nI s = 0 from fun q => h0 ((nI_eq (by omega) (by decide)).mp (q.trans (show (0 : Int32) = nI 0 from rfl)))), e1, ck_nI (by omega) (by decide), nI_clamp (by omega)]
    obtain ⟨b1, okb, -⟩ := hS.2.2.2.1 (s - 1) (by omega)
    have eU : vd U = vd T := by unfold vd; rw [a2.I (by decide)]
    have eC : ∀ x, ctT U x = ctT T x := ctT_fr a2 (by decide) (by decide)
    obtain ⟨V, g1, g2, g3, g4⟩ := lay22 (n := n) (T := U) hn (hM.fr a2 (by decide) (by decide)) (by rw [eU]; exact okb)
    rw [a2.A (k := 12) (by decide) (by decide), b1, g1]
    simp only [bd]
    rw [eC] at g3 g4
    rw [mf22_eq hn hM okb ok g4 ((g2.I (by decide)).trans a4) g3 (fun k v hk => by rw [g2.A (by decide) (by decide)]; exact a3 k v hk)]
    refine ⟨V, ?_, (a2.mono (by decide) (by decide) (fun _ => by omega)).trans (g2.mono (by decide) (by decide) (fun _ => by omega))⟩
    unfold mvS
    rw [if_neg h0]
theorem moves_eq {n s t : Nat} {T : TS} (hn : 100 ≤ n) (hM : GM T) (hS : GS T) (hs : s < vns T) (ht : t < vns T) : ∃ T', fX11_moves n (nI t) (nI s) T = some (nI (mvP T (vcs T t) (vcs T s)), T') ∧ FR [] [59, 60] 0 0 T T' := by
  have h60 := hS.2.2.1
  obtain ⟨c1, ok, c3, -⟩ := hS.2.2.2.1 s hs
  obtain ⟨b1, okb, b3, -⟩ := hS.2.2.2.1 t ht
  have r1 := hS.2.2.2.2.1 s (by omega)
  have r2 := hS.2.2.2.2.1 t (by omega)
  obtain ⟨U, a1, a2, a3⟩ := cuts60 (n := n) hn hM (by omega) (by omega) ok c3
  unfold fX11_moves
  rw [ck_nI (by omega) (by decide), nI_clamp (by omega), a1]
  simp only [bd]
  rw [if_pos (show ¬ nI t = -1 from nI_ne_neg (by omega)), ck_nI (by omega) (by decide), nI_clamp (by omega), a2.O]
  have eU : vd U = vd T := by unfold vd; rw [a2.I (by decide)]
  have eC : ∀ x, ctT U x = ctT T x := ctT_fr a2 (by decide) (by decide)
  obtain ⟨V, g1, g2, g3⟩ := cuts59 (n := n) (T := U) (q := gO T 48 t) hn (hM.fr a2 (by decide) (by decide)) (by omega) (by omega) (by rw [eU]; exact okb) (fun i hi => by rw [a2.A (by simp only [List.mem_cons, List.not_mem_nil, or_false]; omega) (by omega)]; exact b3 i hi)
  rw [eC] at g1 g3
  rw [g1]
  simp only
  rw [un59 hn (ctT_le hM okb) (ctT_le hM ok)]
  have e : mvn (gA V 59) (ctT T (vcs T t)).length (gA V 60) (ctT T (vcs T s)).length = mvP T (vcs T t) (vcs T s) := mvn_congr (fun i hi => g3.atl hi) (fun i hi => by rw [g2.A (by decide) (by decide)]; exact a3.atl hi)
  rw [e]
  exact ⟨V, rfl, (a2.mono (by decide) (by decide) (fun _ => by omega)).trans (g2.mono (by decide) (by decide) (fun _ => by omega))⟩
theorem moves_eqL {n s : Nat} {T : TS} (hn : 100 ≤ n) (hM : GM T) (hS : GS T) (hL : GL T) (hs : s < vns T) : ∃ T', fX11_moves n (-1) (nI s) T = some (nI (mvF T (vcs T s)), T') ∧ FR [] [59, 60] 0 0 T T' := by
  have h60 := hS.2.2.1
  obtain ⟨c1, ok, c3, -⟩ := hS.2.2.2.1 s hs
  have r1 := hS.2.2.2.2.1 s (by omega)
  obtain ⟨m, hm, l1, l2, l3, l4⟩ := hL
  obtain ⟨U, a1, a2, a3⟩ := cuts60 (n := n) hn hM (by omega) (by omega) ok c3
  unfold fX11_moves
  rw [ck_nI (by omega) (by decide), nI_clamp (by omega), a1]
  simp only [bd]
  rw [if_neg (show ¬ ¬ True from fun q => q trivial), a2.I (k := 2083) (by decide), l2, un58 hn hm (ctT_le hM ok)]
  have e : mvn (gA U 58) m (gA U 60) (ctT T (vcs T s)).length = mvF T (vcs T s) := by
    unfold mvF
    rw [l1, nI_clamp (by omega)]
    exact mvn_congr (fun i hi => by rw [a2.A (by decide) (by decide)]; exact l3 i hi) (fun i hi => a3.atl hi)
  rw [e]
  exact ⟨U, rfl, a2.mono (by decide) (by decide) (fun _ => by omega)⟩
theorem nI_prd {s : Nat} (h : 1 ≤ s) : nI s - 1 = nI (s - 1) := by
  have : nI s = nI (s - 1) + 1 := by rw [nI_1, show s - 1 + 1 = s by omega]
  rw [this, Int32.add_sub_cancel]
theorem moves_eqS {n s : Nat} {T : TS} (hn : 100 ≤ n) (hM : GM T) (hS : GS T) (hL : GL T) (hs : s < vns T) : ∃ T', fX11_moves n (nI s - 1) (nI s) T = some (nI (mvS T s), T') ∧ FR [] [59, 60] 0 0 T T' := by
  unfold mvS
  by_cases h0 : s = 0
  · subst h0
    rw [if_pos rfl]
    exact moves_eqL hn hM hS hL hs
  · rw [if_neg h0, nI_prd (by omega)]
    exact moves_eq hn hM hS hs (by omega)
