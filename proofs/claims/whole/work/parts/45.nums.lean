/-! ===== numbers of PATTERNS, in both ===== -/
def NUM (T : TS) : Prop := gI T 204 = 0 ∧ ((psT T).length ≤ 3000 → gI T 203 = 0 ∧ gI T 202 = nI (psT T).length ∧ ∀ k c, (psT T)[k]? = some c → gA T 5 k = nI c) ∧ (3000 < (psT T).length → gI T 203 = 1 ∧ gI T 202 = 0)
def CNT (T : TS) : Prop := gI T 2063 = 1 ∧ gI T 2064 = nI (min (psT T).length 3001) ∧ ((psT T).length ≤ 3000 → ∀ k c, (psT T)[k]? = some c → ∀ i, i < 6 → gA T (67 + k) i = nI (cn c i))
theorem NUM.gn {T : TS} (h : NUM T) : GN T := ⟨Or.inl h.1, fun _ => h.2⟩
theorem CNT.gc {T : TS} (h : CNT T) : GC T := ⟨Or.inr h.1, fun _ => h.2⟩
theorem room_nI {T : TS} (h : GM T) : gI T 50 - 2 * gI T 51 = nI (vw T - 2 * ve T) := by
  obtain ⟨⟨p1, p2, -⟩, -, ⟨b1, b2, b3, -⟩, -⟩ := h
  rw [p1, p2, show (2 : Int32) = nI 2 from rfl, pk_mul, pk_sub (by omega)]
theorem refresh_eq {n : Nat} {T : TS} (hn : 10000 ≤ n) (hM : GM T) (hN : GN T) : ∃ T', fX5_refresh n T = some T' ∧ FR [202, 203, 204] [5] 0 0 T T' ∧ NUM T' := by
  unfold fX5_refresh
  by_cases h0 : gI T 204 = 0
  · rw [if_neg (fun q => q h0)]
    exact ⟨T, rfl, FR.rf, h0, hN.2 h0⟩
  · rw [if_pos h0]
    simp only [nm]
    generalize hT3 : uI (uI (uI T 204 0) 202 0) 203 0 = T3
    have f3 : FR [202, 203, 204] [5] 0 0 T T3 := by
      subst hT3
      exact ((FR.uI (by decide)).trans (FR.uI (by decide))).trans (FR.uI (by decide))
    have z1 : gI T3 204 = 0 := by subst hT3; rfl
    have z2 : gI T3 202 = nI 0 := by subst hT3; rfl
    have z3 : gI T3 203 = 0 := by subst hT3; rfl
    clear hT3
    have hM3 := hM.fr f3 (by decide) (by decide)
    obtain ⟨⟨p1, p2, p3, p4, p5, p6⟩, -, ⟨b1, b2, b3, b4, b5, b6, b7, b8⟩, r1, -⟩ := id hM3
    unfold fX4_room
    simp only [bd]
    rw [room_nI hM3, p3]
    have hND : ND T3 T3 [] := Or.inl ⟨by decide, FR.rf, z3, z2, fun k c hk => by simp at hk⟩
    obtain ⟨T6, a1, a2⟩ := spread_eq (n := n) (wd := vd T3) (mm := vm T3) (T0 := T3) hn p6 b8 (fun i hi => ⟨(r1 i hi).1, (r1 i hi).2.1, Nat.le_trans (r1 i hi).2.2.1 b2⟩) (vd T3) 8 0 0 (vw T3 - 2 * ve T3) (vk T3) T3 [] (by omega) (by omega) (by decide) b5 (by omega) hND z3
    rw [show (0 : Int32) = nI 0 from rfl]
    rw [show nI (0 * 32 ^ (6 - 0)) = nI 0 from rfl] at a1
    rw [a1]
    simp only [bv]
    rw [List.nil_append, show 0 * 32 ^ (6 - 0) = 0 from rfl] at a2
    have f6 := a2.fr
    have eps : psT T6 = psT T3 := psT.mv (fun k hk => f6.1 k (by
      simp only [List.mem_cons, List.not_mem_nil, or_false] at hk
      rcases hk with rfl | rfl | rfl | rfl <;> decide)) (f6.A (by decide) (by decide))
    have ft : FR [202, 203, 204] [5] 0 0 T T6 := f3.trans (f6.mono (by decide) (by decide) (fun q => absurd q (by decide)))
    have z4 : gI T6 204 = 0 := (f6.I (by decide)).trans z1
    rcases a2 with ⟨c1, c2, c3, c4, c5⟩ | ⟨c1, c2, c3⟩
    · rw [if_pos (show gI T6 203 = nI 0 from c3)]
      refine ⟨T6, rfl, ft, z4, fun _ => ⟨c3, ?_, ?_⟩, fun q => ?_⟩
      · rw [eps]
        exact c4
      · rw [eps]
        exact c5
      · rw [eps] at q
        exact absurd c1 (Nat.not_le.mpr q)
    · rw [if_neg (show ¬ gI T6 203 = nI 0 by rw [c3]; decide)]
      have ep2 : psT (uI T6 202 (nI 0)) = psT T6 := rfl
      refine ⟨uI T6 202 (nI 0), rfl, ft.trans (FR.uI (by decide)), z4, fun q => ?_, fun _ => ⟨c3, rfl⟩⟩
      rw [ep2, eps] at q
      exact absurd c1 (Nat.not_lt.mpr q)
theorem mnum_eq {n : Nat} {T : TS} (hn : 10000 ≤ n) (hM : GM T) (hC : GC T) (hX : GX T) : ∃ T', fX11_isNumbered n T = some (b01 (decide ((psT T).length ≤ 3000)), T') ∧ FR [2063, 2064] [47] 67 3067 T T' ∧ CNT T' := by
  have key : ∃ T', fX11_count n T = some T' ∧ FR [2063, 2064] [47] 67 3067 T T' ∧ CNT T' := by
    unfold fX11_count
    by_cases h0 : gI T 2063 = 0
    · rw [if_pos h0]
      simp only [nm]
      generalize hT2 : uI (uI T 2063 1) 2064 0 = T2
      have f2 : FR [2063, 2064] [47] 67 3067 T T2 := by
        subst hT2
        exact (FR.uI (by decide)).trans (FR.uI (by decide))
      have z1 : gI T2 2063 = 1 := by subst hT2; rfl
      have z2 : gI T2 2064 = nI 0 := by subst hT2; rfl
      clear hT2
      have hM2 := hM.fr f2 (by decide) (by decide)
      obtain ⟨⟨p1, p2, p3, p4, p5, p6⟩, ⟨q1, q2, q3, q4, q5, q6⟩, ⟨b1, b2, b3, b4, b5, b6, b7, b8⟩, r1, -⟩ := id hM2
      rw [q1, q2, room_nI hM2, q3, p3]
      have hX2 := (hX.fr f2).1
      have hMD : MD T2 T2 [] := Or.inl ⟨by decide, FR.rf, z2, fun k c hk => by simp at hk⟩
      obtain ⟨T6, a1, a2, -⟩ := count_eq (n := n) (wd := vd T2) (k0 := vk T2) (mm := vm T2) (T0 := T2) hn (q6.trans p6) (q3.trans p3) b5 b8 (fun i hi => ⟨(r1 i hi).2.2.2.trans (r1 i hi).1, (r1 i hi).2.1, Nat.le_trans (r1 i hi).2.2.1 b2⟩) hX2 (vd T2) 8 0 0 (vw T2 - 2 * ve T2) (vk T2) T2 [] (by omega) (by omega) (by decide) (by show vk T2 + pcs (0 * 32 ^ 6) = vk T2; rw [show (0 : Nat) * 32 ^ 6 = 0 from rfl, show pcs 0 = 0 from rfl]; rfl) (by omega) (fun j hj => by omega) hMD
      rw [show (0 : Int32) = nI 0 from rfl, a1]
      simp only [bv]
      rw [List.nil_append, show 0 * 32 ^ (6 - 0) = 0 from rfl] at a2
      have f6 := a2.fr
      have eps : psT T6 = psT T2 := psT.mv (fun k hk => f6.1 k (by
        simp only [List.mem_cons, List.not_mem_nil, or_false] at hk
        rcases hk with rfl | rfl | rfl | rfl <;> decide)) (f6.A (by decide) (by decide))
      refine ⟨T6, rfl, f2.trans (f6.mono (by decide) (by decide) (fun _ => by omega)), (f6.I (by decide)).trans z1, ?_⟩
      rw [eps]
      rcases a2 with ⟨c1, c2, c3, c4⟩ | ⟨c1, c2, c3⟩
      · exact ⟨by rw [Nat.min_eq_left (show (psT T2).length ≤ 3001 from Nat.le_trans c1 (by decide))]; exact c3, fun _ => c4⟩
      · exact ⟨by rw [Nat.min_eq_right (show 3001 ≤ (psT T2).length from c1)]; exact c3, fun q => absurd c1 (Nat.not_lt.mpr q)⟩
    · rw [if_neg h0]
      have h1 : gI T 2063 = 1 := hC.1.elim (fun q => absurd q h0) id
      exact ⟨T, rfl, FR.rf, h1, hC.2 h1⟩
  obtain ⟨T', a1, a2, a3⟩ := key
  unfold fX11_isNumbered
  rw [a1]
  simp only [bv]
  have eps : psT T' = psT T := psT.mv (fun k hk => a2.1 k (by
    simp only [List.mem_cons, List.not_mem_nil, or_false] at hk
    rcases hk with rfl | rfl | rfl | rfl <;> decide)) (a2.A (by decide) (by decide))
  refine ⟨T', ?_, a2, a3⟩
  rw [a3.2.1, eps]
  by_cases hl : (psT T).length ≤ 3000
  · rw [if_neg (show ¬ (3000 : Int32) < nI (min (psT T).length 3001) by rw [Nat.min_eq_left (Nat.le_trans hl (by decide))]; exact nI_nlt (a := 3000) hl (by decide)), decide_eq_true hl]
    rfl
  · rw [if_pos (show (3000 : Int32) < nI (min (psT T).length 3001) by rw [Nat.min_eq_right (by omega)]; decide), decide_eq_false hl]
    rfl
theorem Inv.ref {c : Nat} {T T' : TS} (h : Inv c T) (f : FR [202, 203, 204] [5] 0 0 T T') (hn : NUM T') : Inv c T' := by
  obtain ⟨m1, m2, m3, m4, m5, m6, m7, m8, m9, m10⟩ := h
  exact ⟨m1.fr f (by decide) (by decide), m2.fr f (by decide) (by decide) (by decide), m3.fr f (by decide) (by decide) (by decide), m4.fr f, m5.fr (Nat.le_refl c) f (by decide) (by decide), m6.fr f (by decide) (by decide), m7.fr f (by decide) (by decide), m8.fr f, hn.gn, m10.fr f (by decide) (by decide) (by decide)⟩
theorem Inv.cnt {c : Nat} {T T' : TS} (h : Inv c T) (f : FR [2063, 2064] [47] 67 3067 T T') (hn : CNT T') : Inv c T' := by
  obtain ⟨m1, m2, m3, m4, m5, m6, m7, m8, m9, m10⟩ := h
  exact ⟨m1.fr f (by decide) (by decide), m2.fr f (by decide) (by decide) (by decide), m3.fr f (by decide) (by decide) (by decide), m4.fr f, m5.fr (Nat.le_refl c) f (by decide) (by decide), m6.fr f (by decide) (by decide), m7.fr f (by decide) (by decide), m8.fr f, m9.fr f (by decide) (by decide), hn.gc⟩
theorem Inv.same {c : Nat} {T : TS} {v : Int32} (h : Inv c T) : Inv c (uI T 2050 v) := h.fr (Nat.le_refl c) (FR.uI (is := [2050]) (as := []) (lo := 0) (hi := 0) (by decide)) (by decide) (by decide) (Or.inr (Or.inr (Nat.le_refl 0))) (by decide)
theorem Inv.up {c : Nat} {T : TS} (h : Inv c T) : Inv (c + 1) T := h.fr (Nat.le_succ c) (FR.rf (is := []) (as := []) (lo := 0) (hi := 0)) (by decide) (by decide) (Or.inr (Or.inr (Nat.le_refl 0))) (by decide)
theorem ps_fr {is as : List Nat} {lo hi : Nat} {T T' : TS} (f : FR is as lo hi T T') (h1 : ∀ k ∈ [50, 51, 52, 55], k ∉ is) (h2 : 2 ∉ as ∧ ¬ (lo ≤ 2 ∧ 2 < hi)) : psT T' = psT T := psT.mv (fun k hk => f.1 k (h1 k hk)) (f.A h2.1 h2.2)
/-- the class's calls where its numbers are up to date -/
theorem ref_num {n : Nat} {T : TS} (h : NUM T) : fX5_refresh n T = some T := by
  unfold fX5_refresh
  rw [if_neg (fun q => q h.1)]
theorem over_num {n : Nat} {T : TS} (h : NUM T) : fX5_isOverfull n T = some (b01 (decide (3000 < (psT T).length)), T) := by
  unfold fX5_isOverfull
  rw [ref_num h]
  simp only [bv]
  by_cases hl : (psT T).length ≤ 3000
  · rw [(h.2.1 hl).1, decide_eq_false (Nat.not_lt.mpr hl)]
    rfl
  · rw [(h.2.2 (by omega)).1, decide_eq_true (by omega)]
    rfl
theorem cnt_num {n : Nat} {T : TS} (h : NUM T) : fX5_count n T = some (nI (if (psT T).length ≤ 3000 then (psT T).length else 0), T) := by
  unfold fX5_count
  rw [ref_num h]
  simp only [bv]
  by_cases hl : (psT T).length ≤ 3000
  · rw [(h.2.1 hl).2.1, if_pos hl]
  · rw [(h.2.2 (by omega)).2, if_neg hl]
    rfl
