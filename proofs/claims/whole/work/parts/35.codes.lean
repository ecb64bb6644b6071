/-! ===== codes, sums ===== -/
theorem ofW_nI {n c i : Nat} {T : TS} (hc : c < 2 ^ 30) (hi : i < 6) : fX0_ofWidth n (nI c) (nI i) T = some (nI (cn c i), T) := by
  unfold fX0_ofWidth cn
  have key : ∀ (s : Int32) (k : Nat), ((s.toUInt32 &&& Int32.toUInt32 31).toBitVec % 32).toNat = k → ((Int32.toUInt32 (nI c) >>> (Int32.toUInt32 s &&& Int32.toUInt32 31)).toInt32 &&& (31 : Int32)) = nI (c / 2 ^ k % 2 ^ 5) := by
    intro s k hs
    rw [pk_ushrN (by omega) s k hs, pk_andN (Nat.lt_of_le_of_lt (Nat.div_le_self _ _) (by omega)) 5 (by decide)]
  rcases (show i = 0 ∨ i = 1 ∨ i = 2 ∨ i = 3 ∨ i = 4 ∨ i = 5 by omega) with rfl | rfl | rfl | rfl | rfl | rfl
  · rw [key _ 25 (by decide)]
  · rw [key _ 20 (by decide)]
  · rw [key _ 15 (by decide)]
  · rw [key _ 10 (by decide)]
  · rw [key _ 5 (by decide)]
  · rw [key _ 0 (by decide)]
theorem cn_lt (c i : Nat) : cn c i < 32 := Nat.mod_lt _ (by decide)
theorem pack_nI {n i x : Nat} {T : TS} (hi : i < 6) (hx : x < 32) : fX0_packed n (nI i) (nI x) T = some (nI (x * 32 ^ (5 - i)), T) := by
  unfold fX0_packed
  have key : ∀ (s : Int32) (k : Nat), k ≤ 25 → ((s &&& 31).toBitVec.smod 32).toNat = k → (nI x <<< (s &&& 31)) = nI (x * 2 ^ k) := by
    intro s k hk hs
    refine pk_shlN _ k hs ?_
    have h1 : 2 ^ k ≤ 2 ^ 25 := Nat.pow_le_pow_right (by decide) hk
    have h2 : x * 2 ^ k ≤ 31 * 2 ^ 25 := Nat.mul_le_mul (by omega) h1
    omega
  rcases (show i = 0 ∨ i = 1 ∨ i = 2 ∨ i = 3 ∨ i = 4 ∨ i = 5 by omega) with rfl | rfl | rfl | rfl | rfl | rfl
  · rw [key _ 25 (by decide) (by decide)]
  · rw [key _ 20 (by decide) (by decide)]
  · rw [key _ 15 (by decide) (by decide)]
  · rw [key _ 10 (by decide) (by decide)]
  · rw [key _ 5 (by decide) (by decide)]
  · rw [key _ 0 (by decide) (by decide)]
theorem nx_or (a b : Nat) : nI a ||| nI b = nI (a ||| b) := by
  apply Int32.toBitVec_inj.mp
  show BitVec.ofNat 32 a ||| BitVec.ofNat 32 b = BitVec.ofNat 32 (a ||| b)
  apply BitVec.eq_of_getLsbD_eq
  intro i hi
  simp [BitVec.getLsbD_ofNat, hi]
theorem or_add {a b k : Nat} (hb : b < 2 ^ k) : nI (a * 2 ^ k) ||| nI b = nI (a * 2 ^ k + b) := by
  rw [nx_or]
  congr 1
  rw [Nat.mul_comm a, ← Nat.two_pow_add_eq_or_of_lt hb]
def nsum (f : Nat → Nat) : Nat → Nat
  | 0 => 0
  | k + 1 => nsum f k + f k
theorem bx_nI {g : Nat → Int32} {f : Nat → Nat} : ∀ {d : Nat}, (∀ i, i < d → g i = nI (f i)) → bx_sum g d = nI (nsum f d)
  | 0, _ => rfl
  | d + 1, h => by
    show bx_sum g d + g d = nI (nsum f d + f d)
    rw [bx_nI (fun i hi => h i (by omega)), h d (by omega), nI_add]
theorem nsum_le {f g : Nat → Nat} : ∀ {d : Nat}, (∀ i, i < d → f i ≤ g i) → nsum f d ≤ nsum g d
  | 0, _ => Nat.le_refl 0
  | d + 1, h => Nat.add_le_add (nsum_le (fun i hi => h i (by omega))) (h d (by omega))
theorem nsum_congr {f g : Nat → Nat} : ∀ {d : Nat}, (∀ i, i < d → f i = g i) → nsum f d = nsum g d
  | 0, _ => rfl
  | d + 1, h => by
    show nsum f d + f d = nsum g d + g d
    rw [nsum_congr (fun i hi => h i (by omega)), h d (by omega)]
theorem nsum_const (b : Nat) : ∀ d, nsum (fun _ => b) d = d * b
  | 0 => by simp [nsum]
  | d + 1 => by
    show nsum _ d + b = _
    rw [nsum_const b d, Nat.add_mul, Nat.one_mul]
theorem nsum_bd {f : Nat → Nat} {d b : Nat} (h : ∀ i, i < d → f i ≤ b) : nsum f d ≤ d * b := nsum_const b d ▸ nsum_le h
def lsum (f : Nat → Int64) : Nat → Int64
  | 0 => 0
  | k + 1 => lsum f k + f k
theorem lx_nI {g : Nat → Int64} {f : Nat → Nat} : ∀ {d : Nat}, (∀ i, i < d → g i = lN (f i)) → lsum g d = lN (nsum f d)
  | 0, _ => rfl
  | d + 1, h => by
    show lsum g d + g d = lN (nsum f d + f d)
    rw [lx_nI (fun i hi => h i (by omega)), h d (by omega), lN_add]
section SUMS
variable {n c d : Nat} {T : TS}
theorem spanOf_eq (hn : 10 ≤ n) (hd : gI T 55 = nI d) (h6 : d ≤ 6) (hc : c < 2 ^ 30) : fX4_spanOf n (nI c) T = some (bx_sum (fun i => nI (cn c i) * gA T 2 i) d, T) := by
  unfold fX4_spanOf
  refine lpn (fun f (x : Int32 × Int32 × TS) => fX4_spanOf_L4 n (nI c) (fun e T => some (e, T)) f x.1 x.2.1 x.2.2) (fun j => (bx_sum (fun i => nI (cn c i) * gA T 2 i) j, nI j, T)) d _ ?_ ?_ n (by omega)
  · intro j hj f
    show fX4_spanOf_L4 n (nI c) _ (f + 1) _ (nI j) T = _
    rw [fX4_spanOf_L4, hd, if_neg (nI_ge hj (by omega)), ofW_nI hc (by omega)]
    simp only [bd, nm]
    rw [ck_nI (by omega) (by decide), nI_clamp (by omega), nI_1]
    rfl
  · intro f
    show fX4_spanOf_L4 n (nI c) _ (f + 1) _ (nI d) T = _
    rw [fX4_spanOf_L4, hd, if_pos (nI_le (Nat.le_refl d) (by omega))]
theorem wasteOf_eq (hn : 10 ≤ n) (hd : gI T 55 = nI d) (h6 : d ≤ 6) (hc : c < 2 ^ 30) : fX4_wasteOf n (nI c) T = some (gI T 50 - bx_sum (fun i => nI (cn c i) * gA T 2 i) d, T) := by
  unfold fX4_wasteOf
  rw [spanOf_eq hn hd h6 hc]
  rfl
theorem worthOf_eq (hn : 10 ≤ n) (hd : gI T 55 = nI d) (h6 : d ≤ 6) (hc : c < 2 ^ 30) : fX6_worthOf n (nI c) T = some (bx_sum (fun i => nI (cn c i) * gA T 10 i) d, T) := by
  unfold fX6_worthOf
  refine lpn (fun f (x : Int32 × Int32 × TS) => fX6_worthOf_L4 n (nI c) (fun e T => some (e, T)) f x.1 x.2.1 x.2.2) (fun j => (bx_sum (fun i => nI (cn c i) * gA T 10 i) j, nI j, T)) d _ ?_ ?_ n (by omega)
  · intro j hj f
    show fX6_worthOf_L4 n (nI c) _ (f + 1) _ (nI j) T = _
    rw [fX6_worthOf_L4, hd, if_neg (nI_ge hj (by omega)), ofW_nI hc (by omega)]
    simp only [bd, nm]
    rw [ck_nI (by omega) (by decide), nI_clamp (by omega), nI_1]
    rfl
  · intro f
    show fX6_worthOf_L4 n (nI c) _ (f + 1) _ (nI d) T = _
    rw [fX6_worthOf_L4, hd, if_pos (nI_le (Nat.le_refl d) (by omega))]
theorem pieces_eq (hn : 10 ≤ n) (hc : c < 2 ^ 30) : fX0_pieces n (nI c) T = some (nI (pcs c), T) := by
  unfold fX0_pieces
  have e : nsum (cn c) 6 = pcs c := by simp [nsum, pcs]
  rw [← e, ← bx_nI (g := fun i => nI (cn c i)) (fun _ _ => rfl)]
  refine lpn (fun f (x : Int32 × Int32 × TS) => fX0_pieces_L4 n (nI c) (fun e T => some (e, T)) f x.1 x.2.1 x.2.2) (fun j => (bx_sum (fun i => nI (cn c i)) j, nI j, T)) 6 _ ?_ ?_ n (by omega)
  · intro j hj f
    show fX0_pieces_L4 n (nI c) _ (f + 1) _ (nI j) T = _
    rw [fX0_pieces_L4, if_neg (show ¬ (6 : Int32) ≤ nI j from nI_ge (b := 6) hj (by decide)), ofW_nI hc (by omega)]
    simp only [bd, nm]
    rw [nI_1]
    rfl
  · intro f
    show fX0_pieces_L4 n (nI c) _ (f + 1) _ (nI 6) T = _
    rw [fX0_pieces_L4, if_pos (show (6 : Int32) ≤ nI 6 from nI_le (b := 6) (Nat.le_refl 6) (by decide))]
theorem sumOf_eq (hn : 10 ≤ n) (hd : gI T 2056 = nI d) (h6 : d ≤ 6) {q : Nat} (h1 : 67 ≤ q) (h2 : q < 3247) : fX11_sumOf n q T = some (bx_sum (fun i => gA T q i * gA T 42 i) d, T) := by
  unfold fX11_sumOf
  refine lpn (fun f (x : Int32 × Int32 × TS) => fX11_sumOf_L4 n q (fun e T => some (e, T)) f x.1 x.2.1 x.2.2) (fun j => (bx_sum (fun i => gA T q i * gA T 42 i) j, nI j, T)) d _ ?_ ?_ n (by omega)
  · intro j hj f
    show fX11_sumOf_L4 n q _ (f + 1) _ (nI j) T = _
    rw [fX11_sumOf_L4, hd, if_neg (nI_ge hj (by omega)), ak_row h1 (by omega), al_6 h2, ck_nI (by omega) (by decide), ck_nI (by omega) (by decide)]
    simp only [nm]
    rw [nI_clamp (by omega), nI_1]
    rfl
  · intro f
    show fX11_sumOf_L4 n q _ (f + 1) _ (nI d) T = _
    rw [fX11_sumOf_L4, hd, if_pos (nI_le (Nat.le_refl d) (by omega))]
theorem mworthOf_eq (hn : 10 ≤ n) (hd : gI T 2056 = nI d) (h6 : d ≤ 6) {q : Nat} (h1 : 67 ≤ q) (h2 : q < 3247) : fX11_worthOf n q T = some (lsum (fun i => (gA T q i).toInt64 * (gA T 45 i).toInt64) d, T) := by
  unfold fX11_worthOf
  refine lpn (fun f (x : Int64 × Int32 × TS) => fX11_worthOf_L5 n q (fun e T => some (e, T)) f x.1 x.2.1 x.2.2) (fun j => (lsum (fun i => (gA T q i).toInt64 * (gA T 45 i).toInt64) j, nI j, T)) d _ ?_ ?_ n (by omega)
  · intro j hj f
    show fX11_worthOf_L5 n q _ (f + 1) _ (nI j) T = _
    rw [fX11_worthOf_L5, hd, if_neg (nI_ge hj (by omega)), ak_row h1 (by omega), al_6 h2, ck_nI (by omega) (by decide), ck_nI (by omega) (by decide)]
    simp only [nm]
    rw [nI_clamp (by omega), nI_1]
    rfl
  · intro f
    show fX11_worthOf_L5 n q _ (f + 1) _ (nI d) T = _
    rw [fX11_worthOf_L5, hd, if_pos (nI_le (Nat.le_refl d) (by omega))]
theorem mpiecesOf_eq (hn : 10 ≤ n) (hd : gI T 2056 = nI d) (h6 : d ≤ 6) {q : Nat} (h1 : 67 ≤ q) (h2 : q < 3247) : fX11_piecesOf n q T = some (bx_sum (fun i => gA T q i) d, T) := by
  unfold fX11_piecesOf
  refine lpn (fun f (x : Int32 × Int32 × TS) => fX11_piecesOf_L4 n q (fun e T => some (e, T)) f x.1 x.2.1 x.2.2) (fun j => (bx_sum (fun i => gA T q i) j, nI j, T)) d _ ?_ ?_ n (by omega)
  · intro j hj f
    show fX11_piecesOf_L4 n q _ (f + 1) _ (nI j) T = _
    rw [fX11_piecesOf_L4, hd, if_neg (nI_ge hj (by omega)), ak_row h1 (by omega), al_6 h2, ck_nI (by omega) (by decide)]
    simp only [nm]
    rw [nI_clamp (by omega), nI_1]
    rfl
  · intro f
    show fX11_piecesOf_L4 n q _ (f + 1) _ (nI d) T = _
    rw [fX11_piecesOf_L4, hd, if_pos (nI_le (Nat.le_refl d) (by omega))]
/-- pieces of a WIDTH in the PLAN -/
theorem piecesOf_eq (hn : 100 ≤ n) (h : GS T) {i : Nat} (hi : i < 6) : fX8_piecesOf_11 n (nI i) T = some (bx_sum (fun s => gA T 13 s * nI (cn (vcs T s) i)) (vns T), T) := by
  obtain ⟨h1, h2, h3, h4, -⟩ := h
  unfold fX8_piecesOf_11
  refine lpn (fun f (x : Int32 × Int32 × TS) => fX8_piecesOf_11_L4 n (nI i) (fun e T => some (e, T)) f x.1 x.2.1 x.2.2) (fun j => (bx_sum (fun s => gA T 13 s * nI (cn (vcs T s) i)) j, nI j, T)) (vns T) _ ?_ ?_ n (by omega)
  · intro j hj f
    show fX8_piecesOf_11_L4 n (nI i) _ (f + 1) _ (nI j) T = _
    obtain ⟨a1, a2, -⟩ := h4 j hj
    rw [fX8_piecesOf_11_L4, h1, if_neg (nI_ge hj (by omega)), ck_nI (by omega) (by decide), ck_nI (by omega) (by decide), nI_clamp (by omega), a1, ofW_nI a2.1 hi]
    simp only [bd, nm]
    rw [nI_1]
    rfl
  · intro f
    show fX8_piecesOf_11_L4 n (nI i) _ (f + 1) _ (nI (vns T)) T = _
    rw [fX8_piecesOf_11_L4, h1, if_pos (nI_le (Nat.le_refl _) (by omega))]
theorem planned_eq (hn : 100 ≤ n) (h : GS T) {i : Nat} (hi : i < 6) : fX11_planned n (nI i) T = some (bx_sum (fun s => gA T 13 s * nI (cn (vcs T s) i)) (vns T), T) := by
  obtain ⟨h1, h2, h3, h4, h5, -⟩ := h
  unfold fX11_planned
  refine lpn (fun f (x : Int32 × Int32 × TS) => fX11_planned_L4 n (nI i) (fun e T => some (e, T)) f x.1 x.2.1 x.2.2) (fun j => (bx_sum (fun s => gA T 13 s * nI (cn (vcs T s) i)) j, nI j, T)) (vns T) _ ?_ ?_ n (by omega)
  · intro j hj f
    show fX11_planned_L4 n (nI i) _ (f + 1) _ (nI j) T = _
    obtain ⟨a1, a2, a3, a4, -⟩ := h4 j hj
    have g := h5 j (by omega)
    rw [fX11_planned_L4, h2, h1, if_neg (nI_ge hj (by omega)), ck_nI (by omega) (by decide), nI_clamp (show j < 2 ^ 31 by omega), ak_row (by omega) (by omega), al_6 (by omega), ck_nI hi (by decide), ck_nI (by omega) (by decide), nI_clamp (show i < 2 ^ 31 by omega), a3 i hi, a4]
    simp only [nm]
    rw [nI_1, Int32.mul_comm]
    rfl
  · intro f
    show fX11_planned_L4 n (nI i) _ (f + 1) _ (nI (vns T)) T = _
    rw [fX11_planned_L4, h2, h1, if_pos (nI_le (Nat.le_refl _) (by omega))]
end SUMS
