/-! ===== which PATTERNS there are ===== -/
theorem nsum_front (f : Nat → Nat) : ∀ r, nsum f (r + 1) = f 0 + nsum (fun j => f (j + 1)) r
  | 0 => by simp [nsum]
  | r + 1 => by
    show nsum f (r + 1) + f (r + 1) = f 0 + (nsum (fun j => f (j + 1)) r + f (r + 1))
    rw [nsum_front f r]
    omega
theorem dn_mem {x : Nat} : ∀ {m : Nat}, x ∈ dn m ↔ x ≤ m
  | 0 => by simp [dn]
  | m + 1 => by
    rw [dn, List.mem_cons, dn_mem]
    omega
theorem sp_in {mm : Nat → Nat} : ∀ (r i c room kn : Nat) (v : Nat → Nat), (∀ j, j < r → 1 ≤ mm (i + j)) → nsum (fun j => v (i + j) * mm (i + j)) r ≤ room → nsum (fun j => v (i + j)) r ≤ kn → c + nsum (fun j => v (i + j) * 32 ^ (5 - (i + j))) r ∈ sp mm r i c room kn
  | 0, i, c, room, kn, v, _, _, _ => by simp [sp, nsum]
  | r + 1, i, c, room, kn, v, hm, h1, h2 => by
    rw [nsum_front] at h1 h2 ⊢
    simp only [Nat.add_zero] at h1 h2 ⊢
    have hi := hm 0 (by omega)
    rw [Nat.add_zero] at hi
    rw [sp, List.mem_flatMap]
    refine ⟨v i, dn_mem.mpr ?_, ?_⟩
    · have : v i ≤ room / mm i := (Nat.le_div_iff_mul_le hi).mpr (by omega)
      omega
    · have := sp_in (mm := mm) r (i + 1) (c + v i * 32 ^ (5 - i)) (room - v i * mm i) (kn - v i) v (fun j hj => by rw [show i + 1 + j = i + (j + 1) by omega]; exact hm (j + 1) (by omega)) (by
        have e : (fun j => v (i + 1 + j) * mm (i + 1 + j)) = fun j => v (i + (j + 1)) * mm (i + (j + 1)) := by funext j; rw [show i + 1 + j = i + (j + 1) by omega]
        rw [e]
        omega) (by
        have e : (fun j => v (i + 1 + j)) = fun j => v (i + (j + 1)) := by funext j; rw [show i + 1 + j = i + (j + 1) by omega]
        rw [e]
        omega)
      have e : (fun j => v (i + 1 + j) * 32 ^ (5 - (i + 1 + j))) = fun j => v (i + (j + 1)) * 32 ^ (5 - (i + (j + 1))) := by funext j; rw [show i + 1 + j = i + (j + 1) by omega]
      rw [e, Nat.add_assoc] at this
      exact this
theorem sp_out {mm : Nat → Nat} : ∀ (r i c room kn x : Nat), (∀ j, j < r → 1 ≤ mm (i + j)) → x ∈ sp mm r i c room kn → ∃ v : Nat → Nat, x = c + nsum (fun j => v (i + j) * 32 ^ (5 - (i + j))) r ∧ nsum (fun j => v (i + j) * mm (i + j)) r ≤ room ∧ nsum (fun j => v (i + j)) r ≤ kn
  | 0, i, c, room, kn, x, _, h => ⟨fun _ => 0, by simpa [sp, nsum] using h, Nat.zero_le _, Nat.zero_le _⟩
  | r + 1, i, c, room, kn, x, hm, h => by
    rw [sp, List.mem_flatMap] at h
    obtain ⟨y, hy, hx⟩ := h
    rw [dn_mem] at hy
    have hi := hm 0 (by omega)
    rw [Nat.add_zero] at hi
    have hy2 : y * mm i ≤ room := (Nat.le_div_iff_mul_le hi).mp (by omega)
    obtain ⟨v, h1, h2, h3⟩ := sp_out r (i + 1) (c + y * 32 ^ (5 - i)) (room - y * mm i) (kn - y) x (fun j hj => by rw [show i + 1 + j = i + (j + 1) by omega]; exact hm (j + 1) (by omega)) hx
    have ev : ∀ j, nup v i y (i + (j + 1)) = v (i + 1 + j) := fun j => by
      unfold nup
      rw [if_neg (by omega), show i + (j + 1) = i + 1 + j by omega]
    have e0 : nup v i y i = y := by unfold nup; rw [if_pos rfl]
    refine ⟨nup v i y, ?_, ?_, ?_⟩
    · rw [nsum_front]
      simp only [Nat.add_zero, e0, ev]
      have e : (fun j => v (i + 1 + j) * 32 ^ (5 - (i + 1 + j))) = fun j => v (i + 1 + j) * 32 ^ (5 - (i + (j + 1))) := by funext j; rw [show i + 1 + j = i + (j + 1) by omega]
      rw [e] at h1
      omega
    · rw [nsum_front]
      simp only [Nat.add_zero, e0, ev]
      have e : (fun j => v (i + 1 + j) * mm (i + 1 + j)) = fun j => v (i + 1 + j) * mm (i + (j + 1)) := by funext j; rw [show i + 1 + j = i + (j + 1) by omega]
      rw [e] at h2
      omega
    · rw [nsum_front]
      simp only [Nat.add_zero, e0, ev]
      omega
/-- COUNTS as a code -/
def enc (v : Nat → Nat) (d : Nat) : Nat := nsum (fun j => v j * 32 ^ (5 - j)) d
theorem enc_ok {v : Nat → Nat} : ∀ {d : Nat}, d ≤ 6 → (∀ i, i < d → v i < 32) → enc v d < 2 ^ 30 ∧ ∀ i, i < 6 → cn (enc v d) i = if i < d then v i else 0
  | 0, _, _ => ⟨by show (0 : Nat) < _; decide, fun i hi => by rw [if_neg (by omega)]; show cn 0 i = 0; unfold cn; rw [Nat.zero_div]⟩
  | d + 1, h6, hv => by
    obtain ⟨h1, h2⟩ := enc_ok (v := v) (d := d) (by omega) (fun i hi => hv i (by omega))
    have h0 : cn (enc v d) d = 0 := by rw [h2 d (by omega), if_neg (by omega)]
    have e : enc v (d + 1) = enc v d + v d * 32 ^ (5 - d) := rfl
    rw [e]
    refine ⟨put_lt (by omega) h1 (hv d (by omega)) h0, fun i hi => ?_⟩
    rw [cn_put (by omega) hi h1 (hv d (by omega)) h0, h2 i hi]
    by_cases q : i = d
    · rw [if_pos q, if_pos (by omega), q]
    · rw [if_neg q]
      by_cases q2 : i < d
      · rw [if_pos q2, if_pos (by omega)]
      · rw [if_neg q2, if_neg (by omega)]
/-- COUNTS that fit -/
def FT (T : TS) (v : Nat → Nat) : Prop := nsum (fun j => v j * vm T j) (vd T) ≤ rm T ∧ nsum v (vd T) ≤ vk T
theorem nsum_ge {f : Nat → Nat} {k : Nat} : ∀ {d : Nat}, k < d → f k ≤ nsum f d
  | 0, h => by omega
  | d + 1, h => by
    show f k ≤ nsum f d + f d
    rcases Nat.lt_or_ge k d with q | q
    · have := nsum_ge (f := f) q; omega
    · rw [show k = d by omega]; omega
theorem ps_in {T : TS} (hM : GM T) {v : Nat → Nat} (h : FT T v) (h1 : 1 ≤ nsum v (vd T)) : ∃ k, k < (psT T).length ∧ ∀ i, i < 6 → cn ((psT T).getD k 0) i = if i < vd T then v i else 0 := by
  obtain ⟨d1, d2, d6⟩ := hM.d
  have hw := hM.2.2.1
  have hv : ∀ i, i < vd T → v i < 32 := fun i hi => by have := nsum_ge (f := v) hi; have := h.2; omega
  obtain ⟨e1, e2⟩ := enc_ok (v := v) d6 hv
  have hin : enc v (vd T) ∈ sp (vm T) (vd T) 0 0 (vw T - 2 * ve T) (vk T) := by
    have := sp_in (mm := vm T) (vd T) 0 0 (vw T - 2 * ve T) (vk T) v (fun j hj => by rw [Nat.zero_add]; exact (hM.2.2.2.1 j hj).2.1) (by simp only [Nat.zero_add]; exact h.1) (by simp only [Nat.zero_add]; exact h.2)
    simp only [Nat.zero_add] at this
    exact this
  have hne : enc v (vd T) ≠ 0 := by
    intro q
    have : ∀ i, i < vd T → v i = 0 := fun i hi => by
      have := e2 i (by omega)
      rw [q, if_pos hi] at this
      rw [← this]
      unfold cn
      rw [Nat.zero_div]
    have := nsum_z0.mpr this
    omega
  have hmem : enc v (vd T) ∈ psT T := List.mem_filter.mpr ⟨hin, decide_eq_true hne⟩
  obtain ⟨k, hk, he⟩ := List.getElem_of_mem hmem
  refine ⟨k, hk, fun i hi => ?_⟩
  rw [psT_getD (List.getElem?_eq_getElem hk), he]
  exact e2 i hi
theorem ps_out {T : TS} (hM : GM T) {k : Nat} (hk : k < (psT T).length) : FT T (cn ((psT T).getD k 0)) ∧ okc (vd T) ((psT T).getD k 0) := by
  obtain ⟨d1, d2, d6⟩ := hM.d
  have hw := hM.2.2.1
  have hx := List.getElem?_eq_getElem hk
  have hg := psT_getD hx
  have ok := ps_ok hM hx
  rw [hg]
  refine ⟨?_, ok⟩
  have hmem : (psT T)[k] ∈ sp (vm T) (vd T) 0 0 (vw T - 2 * ve T) (vk T) := (List.mem_filter.mp (List.getElem_mem hk)).1
  obtain ⟨v, h1, h2, h3⟩ := sp_out (vd T) 0 0 _ _ _ (fun j hj => by rw [Nat.zero_add]; exact (hM.2.2.2.1 j hj).2.1) hmem
  simp only [Nat.zero_add] at h1 h2 h3
  have h3 : nsum v (vd T) ≤ vk T := h3
  have hv : ∀ i, i < vd T → v i < 32 := fun i hi => by have := nsum_ge (f := v) hi; omega
  obtain ⟨e1, e2⟩ := enc_ok (v := v) d6 hv
  have ex : ∀ i, i < vd T → cn (psT T)[k] i = v i := fun i hi => by
    have : (psT T)[k] = enc v (vd T) := h1
    rw [this, e2 i (by omega), if_pos hi]
  refine ⟨?_, ?_⟩
  · rw [nsum_congr (g := fun j => v j * vm T j) (fun i hi => by rw [ex i hi])]
    exact h2
  · rw [nsum_congr (g := v) ex]
    exact h3
theorem nsum_up {f : Nat → Nat} {i x : Nat} : ∀ {d : Nat}, i < d → nsum (nup f i x) d + f i = nsum f d + x
  | 0, h => by omega
  | d + 1, h => by
    show nsum (nup f i x) d + nup f i x d + f i = nsum f d + f d + x
    rcases Nat.lt_or_ge i d with q | q
    · have := nsum_up (f := f) (x := x) q
      have e : nup f i x d = f d := by unfold nup; rw [if_neg (by omega)]
      omega
    · have : i = d := by omega
      subst this
      rw [nsum_nup (Nat.le_refl i)]
      have e : nup f i x i = x := by unfold nup; rw [if_pos rfl]
      omega
/-- nothing that is WANTED may be added -/
def FLv (T : TS) (w v : Nat → Nat) : Prop := ∀ i, i < vd T → v i ≤ w i ∧ ¬ (v i < w i ∧ nsum v (vd T) < vk T ∧ vm T i ≤ rm T - nsum (fun j => v j * vm T j) (vd T))
theorem fill {T : TS} {w : Nat → Nat} : ∀ (r : Nat) (v : Nat → Nat), nsum v (vd T) + r = vk T → FT T v → (∀ i, i < vd T → v i ≤ w i) → ∃ v', (∀ i, i < vd T → v i ≤ v' i) ∧ FT T v' ∧ FLv T w v'
  | 0, v, hr, hf, hv => ⟨v, fun _ _ => Nat.le_refl _, hf, fun i hi => ⟨hv i hi, fun q => by omega⟩⟩
  | r + 1, v, hr, hf, hv => by
    by_cases q : ∃ i, i < vd T ∧ v i < w i ∧ vm T i ≤ rm T - nsum (fun j => v j * vm T j) (vd T)
    · obtain ⟨i, hi, h1, h2⟩ := q
      have s1 := nsum_up (f := v) (x := v i + 1) hi
      have e : (fun j => nup v i (v i + 1) j * vm T j) = nup (fun j => v j * vm T j) i ((v i + 1) * vm T i) := by
        funext j
        unfold nup
        by_cases q : j = i
        · rw [if_pos q, if_pos q, q]
        · rw [if_neg q, if_neg q]
      have s2 := nsum_up (f := fun j => v j * vm T j) (x := (v i + 1) * vm T i) hi
      rw [← e, Nat.succ_mul] at s2
      have hf1 := hf.1
      by_cases z : vm T i = 0
      · obtain ⟨v', a1, a2, a3⟩ := fill (T := T) (w := w) r (nup v i (v i + 1)) (by omega) ⟨by omega, by omega⟩ (fun j hj => by
          unfold nup
          by_cases q : j = i
          · rw [if_pos q, q]; omega
          · rw [if_neg q]; exact hv j hj)
        refine ⟨v', fun j hj => Nat.le_trans ?_ (a1 j hj), a2, a3⟩
        unfold nup
        by_cases q : j = i
        · rw [if_pos q, q]; omega
        · rw [if_neg q]; exact Nat.le_refl _
      · obtain ⟨v', a1, a2, a3⟩ := fill (T := T) (w := w) r (nup v i (v i + 1)) (by omega) ⟨by omega, by omega⟩ (fun j hj => by
          unfold nup
          by_cases q : j = i
          · rw [if_pos q, q]; omega
          · rw [if_neg q]; exact hv j hj)
        refine ⟨v', fun j hj => Nat.le_trans ?_ (a1 j hj), a2, a3⟩
        unfold nup
        by_cases q : j = i
        · rw [if_pos q, q]; omega
        · rw [if_neg q]; exact Nat.le_refl _
    · exact ⟨v, fun _ _ => Nat.le_refl _, hf, fun i hi => ⟨hv i hi, fun z => q ⟨i, hi, z.1, z.2.2⟩⟩⟩
