/-! ===== the law, from its entry ===== -/
theorem lt_n63 : Cond.methodLinkNest RX5 63 yX10_quotient RX10 ∈ lw_tbl := List.mem_of_getElem? (i := 462) (by decide +kernel)
theorem lt_n65 : Cond.methodLinkNest RX6 65 yX10_quotient RX10 ∈ lw_tbl := List.mem_of_getElem? (i := 572) (by decide +kernel)
theorem lt_i9 : Cond.methodLinkNest RX10 9 yX4_init RX10 ∈ lw_tbl := List.mem_of_getElem? (i := 76) (by decide +kernel)
theorem lt_i34 : Cond.methodLinkNest RX10 34 yX8_init RX10 ∈ lw_tbl := List.mem_of_getElem? (i := 177) (by decide +kernel)
theorem lt_i47 : Cond.methodLinkNest RX10 47 yX1_init RX10 ∈ lw_tbl := List.mem_of_getElem? (i := 196) (by decide +kernel)
theorem lt_i60 : Cond.methodLinkNest RX10 60 yX3_init RX10 ∈ lw_tbl := List.mem_of_getElem? (i := 209) (by decide +kernel)
theorem lt_i74 : Cond.methodLinkNest RX10 74 yX9_init RX10 ∈ lw_tbl := List.mem_of_getElem? (i := 262) (by decide +kernel)
theorem lt_i81 : Cond.methodLinkNest RX10 81 yX2_init RX10 ∈ lw_tbl := List.mem_of_getElem? (i := 286) (by decide +kernel)
theorem lt_cast : Cond.castable AE AE ∈ lw_tbl := List.mem_of_getElem? (i := 838) (by decide +kernel)
theorem lt_d1 : Cond.declares (Bundle.initS "java/lang/RuntimeException") ∈ lw_tbl := List.mem_of_getElem? (i := 840) (by decide +kernel)
theorem lt_d2 : Cond.declares (Bundle.initS "java/lang/Exception") ∈ lw_tbl := List.mem_of_getElem? (i := 842) (by decide +kernel)
theorem lt_d3 : Cond.declares (Bundle.initS Bundle.tN) ∈ lw_tbl := List.mem_of_getElem? (i := 844) (by decide +kernel)
theorem lt_s1 : Cond.laysStatic Bundle.tN "UNASSIGNED_STACK" Bundle.steD ∈ lw_tbl := List.mem_of_getElem? (i := 863) (by decide +kernel)
theorem lt_s2 : Cond.laysStatic Bundle.tN "SUPPRESSED_SENTINEL" Bundle.listD ∈ lw_tbl := List.mem_of_getElem? (i := 865) (by decide +kernel)
theorem lt_it : Cond.initialized Bundle.tN ∈ lw_tbl := List.mem_of_getElem? (i := 62) (by decide +kernel)
theorem lt_str : Cond.stringRef RX10 369 "v is 0" ∈ lw_tbl := List.mem_of_getElem? (i := 875) (by decide +kernel)
theorem lt_ao : Cond.arrayOver (.array .int) ∈ lw_tbl := List.mem_of_getElem? (i := 909) (by decide +kernel)
theorem lt_ai : Cond.arrayClass .int ∈ lw_tbl := List.mem_of_getElem? (i := 123) (by decide +kernel)
theorem lt_ab : Cond.arrayClass .boolean ∈ lw_tbl := List.mem_of_getElem? (i := 283) (by decide +kernel)
theorem lt_al : Cond.arrayClass .long ∈ lw_tbl := List.mem_of_getElem? (i := 1037) (by decide +kernel)
theorem lt_o1 : Cond.instantiable RX1 2 ∈ lw_tbl := List.mem_of_getElem? (i := 195) (by decide +kernel)
theorem lt_o2 : Cond.instantiable RX2 6 ∈ lw_tbl := List.mem_of_getElem? (i := 285) (by decide +kernel)
theorem lt_o3 : Cond.instantiable RX3 4 ∈ lw_tbl := List.mem_of_getElem? (i := 208) (by decide +kernel)
theorem lt_o4 : Cond.instantiable RX4 8 ∈ lw_tbl := List.mem_of_getElem? (i := 75) (by decide +kernel)
theorem lt_o5 : Cond.instantiable RX5 5 ∈ lw_tbl := List.mem_of_getElem? (i := 125) (by decide +kernel)
theorem lt_o6 : Cond.instantiable RX6 6 ∈ lw_tbl := List.mem_of_getElem? (i := 147) (by decide +kernel)
theorem lt_o7 : Cond.instantiable RX7 9 ∈ lw_tbl := List.mem_of_getElem? (i := 227) (by decide +kernel)
theorem lt_o8 : Cond.instantiable RX8 3 ∈ lw_tbl := List.mem_of_getElem? (i := 176) (by decide +kernel)
theorem lt_o9 : Cond.instantiable RX9 4 ∈ lw_tbl := List.mem_of_getElem? (i := 261) (by decide +kernel)
theorem lt_o10 : Cond.instantiable RX10 15 ∈ lw_tbl := List.mem_of_getElem? (i := 67) (by decide +kernel)
theorem lt_o11 : Cond.instantiable RX11 42 ∈ lw_tbl := List.mem_of_getElem? (i := 903) (by decide +kernel)
theorem n_astore_n {l : Launch} {k : NT} {cc : ByteArray} {own mn : String} {Ts : List Cond} {nL lev : Nat} {rt : Option FieldType} {R : Room} {nc ns : Nat} {Qf : List Frame → Array Value → State → State → Prop} {ws : va_W} {pc : Nat} {lv : List (Nat × Value)} {st : List Value} (C : CZ l k nL cc own Ts lev rt R Qf mn) {f : Fin 4} {i : Nat} {x : Nat} (d : decode cc pc = .ok (.astore_n f, 1)) (hi : (f : Nat) = i) {lv' : List (Nat × Value)} (hn : i < nL) (hl' : lvins (i, Value.ref x) (lv.filter (fun q => !(q.1 == i) && !(q.1 + 1 == i && q.2.category == 2))) = lv') (K : NW k nc ns ws (pc + 1) lv' st) : NW k nc ns ws pc lv (Value.ref x :: st) := by
  obtain ⟨p, e, s, args, below, meth, c, hw, hH, hx, hb, hml, hnL, hown, hts, hK, hA, hr, hlk, hRf, hRl, hnm⟩ := C
  intro H locs ls hP hD hS hl
  rw [hw]
  refine lv_astore_n hx hb d hi hl (hnL ▸ hn) rfl (fun ls2 hl2 => ?_)
  have K1 := K H locs ls2 hP hD hS (hl' ▸ lv_ins hl2)
  rw [hw] at K1
  exact K1
theorem n_istore {l : Launch} {k : NT} {cc : ByteArray} {own mn : String} {Ts : List Cond} {nL lev : Nat} {rt : Option FieldType} {R : Room} {nc ns : Nat} {Qf : List Frame → Array Value → State → State → Prop} {ws : va_W} {pc : Nat} {lv : List (Nat × Value)} {st : List Value} (C : CZ l k nL cc own Ts lev rt R Qf mn) {i : Nat} {x : Int32} (d : decode cc pc = .ok (.istore i, 2)) {lv' : List (Nat × Value)} (hn : i < nL) (hl' : lvins (i, Value.int x) (lv.filter (fun q => !(q.1 == i) && !(q.1 + 1 == i && q.2.category == 2))) = lv') (K : NW k nc ns ws (pc + 2) lv' st) : NW k nc ns ws pc lv (Value.int x :: st) := by
  obtain ⟨p, e, s, args, below, meth, c, hw, hH, hx, hb, hml, hnL, hown, hts, hK, hA, hr, hlk, hRf, hRl, hnm⟩ := C
  intro H locs ls hP hD hS hl
  rw [hw]
  refine lv_istore hx hb d hl (hnL ▸ hn) rfl (fun ls2 hl2 => ?_)
  have K1 := K H locs ls2 hP hD hS (hl' ▸ lv_ins hl2)
  rw [hw] at K1
  exact K1
/-- what the machine is at the law's entry, in the words of the worlds -/
theorem start_known {p : Program} {s : State} {m : MethodId} {meth : Method} {c : Code} {b L : Nat} {xs : Nat → Int32} (C0 : lw_At p s m meth c b L xs) : ∃ X : XT, xA X = (fun q => s.heap.size ≤ q) ∧ xz X = [] ∧ KZ X s ∧ SX X s := by
  obtain ⟨hx, hb, hr, hml, hown, hts0, hX, hbl, hlocks, hgv⟩ := id C0
  have hs := flat_of_before _ hgv
  obtain ⟨c1, i1, hk1⟩ := u_known (C := RX1) (T := TX1) (N := 2) (n := 2) hts0 inX1 (hts0 (.instantiable RX1 2) lt_o1)
  obtain ⟨c2, i2, hk2⟩ := u_known (C := RX2) (T := TX2) (N := 6) (n := 6) hts0 inX2 (hts0 (.instantiable RX2 6) lt_o2)
  obtain ⟨c3, i3, hk3⟩ := u_known (C := RX3) (T := TX3) (N := 4) (n := 4) hts0 inX3 (hts0 (.instantiable RX3 4) lt_o3)
  obtain ⟨c4, i4, hk4⟩ := u_known (C := RX4) (T := TX4) (N := 8) (n := 8) hts0 inX4 (hts0 (.instantiable RX4 8) lt_o4)
  obtain ⟨c5, i5, hk5⟩ := u_known (C := RX5) (T := TX5) (N := 5) (n := 5) hts0 inX5 (hts0 (.instantiable RX5 5) lt_o5)
  obtain ⟨c6, i6, hk6⟩ := u_known (C := RX6) (T := TX6) (N := 6) (n := 6) hts0 inX6 (hts0 (.instantiable RX6 6) lt_o6)
  obtain ⟨c7, i7, hk7⟩ := u_known (C := RX7) (T := TX7) (N := 9) (n := 9) hts0 inX7 (hts0 (.instantiable RX7 9) lt_o7)
  obtain ⟨c8, i8, hk8⟩ := u_known (C := RX8) (T := TX8) (N := 3) (n := 3) hts0 inX8 (hts0 (.instantiable RX8 3) lt_o8)
  obtain ⟨c9, i9, hk9⟩ := u_known (C := RX9) (T := TX9) (N := 4) (n := 4) hts0 inX9 (hts0 (.instantiable RX9 4) lt_o9)
  obtain ⟨c10, i10, hk10⟩ := u_known (C := RX10) (T := TX10) (N := 15) (n := 15) hts0 inX10 (hts0 (.instantiable RX10 15) lt_o10)
  obtain ⟨c11, i11, hk11⟩ := u_known (C := RX11) (T := TX11) (N := 42) (n := 42) hts0 inX11 (hts0 (.instantiable RX11 42) lt_o11)
  obtain ⟨dC, dI, hKc⟩ : ∃ (dC : Nat → ClassId) (dI : Nat → Nat → Nat), ∀ (k : Nat) (q : vw_C), vwCl[k]? = some q → u_Kn s q.1 q.2.1 q.2.2 (dC k) (dI k) := by
    refine ⟨fun n => if n = 0 then c1 else if n = 1 then c2 else if n = 2 then c3 else if n = 3 then c4 else if n = 4 then c5 else if n = 5 then c6 else if n = 6 then c7 else if n = 7 then c8 else if n = 8 then c9 else if n = 9 then c10 else c11, fun n => if n = 0 then i1 else if n = 1 then i2 else if n = 2 then i3 else if n = 3 then i4 else if n = 4 then i5 else if n = 5 then i6 else if n = 6 then i7 else if n = 7 then i8 else if n = 8 then i9 else if n = 9 then i10 else i11, ?_⟩
    intro k q hq
    match k, hq with
    | 0, hq => cases hq; exact hk1
    | 1, hq => cases hq; exact hk2
    | 2, hq => cases hq; exact hk3
    | 3, hq => cases hq; exact hk4
    | 4, hq => cases hq; exact hk5
    | 5, hq => cases hq; exact hk6
    | 6, hq => cases hq; exact hk7
    | 7, hq => cases hq; exact hk8
    | 8, hq => cases hq; exact hk9
    | 9, hq => cases hq; exact hk10
    | 10, hq => cases hq; exact hk11
    | k + 11, hq => simp [vwCl] at hq
  obtain ⟨cI, kI, pI, fI, gI1, gI2⟩ := Cond.arrayClass_spec (hts0 (.arrayClass .int) lt_ai)
  obtain ⟨cZ, kZ, pZ, fZ, gZ1, gZ2⟩ := Cond.arrayClass_spec (hts0 (.arrayClass .boolean) lt_ab)
  obtain ⟨cJ, kJ, pJ, fJ, gJ1, gJ2⟩ := Cond.arrayClass_spec (hts0 (.arrayClass .long) lt_al)
  obtain ⟨pO, cO, kO, fP, -, gO1, gO2, fO⟩ := arrayOverA_spec (hts0 (.arrayOver (.array .int)) lt_ao)
  have ePI : pO = cI := Option.some.inj (fP.symm.trans fI)
  subst ePI
  refine ⟨((fun q => s.heap.size ≤ q), (dC, dI), (pO, cJ, cZ, cO), (fun _ => 0), []), rfl, rfl, ⟨⟨⟨hKc, ?_⟩, ⟨kO, kI, gO1, gO2, gI1⟩, ?_⟩, ?_, va_AOA.of (hts0 (.arrayOver (.array .int)) lt_ao)⟩, ?_⟩
  · intro k q hq
    match k, hq with
    | 0, hq => cases hq; exact ⟨fun n z => ⟨fun k h => (by cases h), kI, gI1, pI, gI2⟩, fI⟩
    | 1, hq => cases hq; exact ⟨fun n z => ⟨fun k h => (by cases h), kJ, gJ1, pJ, gJ2⟩, fJ⟩
    | 2, hq => cases hq; exact ⟨fun n z => ⟨fun k h => (by cases h), kZ, gZ1, pZ, gZ2⟩, fZ⟩
    | 3, hq => cases hq; exact ⟨fun n z => ⟨fun k h => (by cases h), kO, gO1, pO, gO2⟩, fO⟩
    | k + 4, hq => simp [tyX] at hq
  · intro w hw
    simp only [nwX, List.mem_cons, List.not_mem_nil, or_false] at hw
    rcases hw with rfl | rfl
    · exact va_Nw.of rfl (hts0 _ lt_n63)
    · exact va_Nw.of rfl (hts0 _ lt_n65)
  · intro w hw
    simp only [nwI, List.mem_cons, List.not_mem_nil, or_false] at hw
    rcases hw with rfl | rfl | rfl | rfl | rfl | rfl
    · exact va_Nw.of rfl (hts0 _ lt_i9)
    · exact va_Nw.of rfl (hts0 _ lt_i34)
    · exact va_Nw.of rfl (hts0 _ lt_i47)
    · exact va_Nw.of rfl (hts0 _ lt_i60)
    · exact va_Nw.of rfl (hts0 _ lt_i74)
    · exact va_Nw.of rfl (hts0 _ lt_i81)
  · have hA : ∀ a : Nat, a < s.heap.size → ¬ (fun q => s.heap.size ≤ q) a := fun a h => Nat.not_le.mpr h
    obtain ⟨sa, -, -, -, q1, -⟩ := Cond.exactly_spec (hs (Cond.exactly (.string RX10 369) "java/lang/String") (by decide +kernel))
    refine ⟨vx_Zqof (hts0 _ lt_s1) (hts0 _ lt_it) (hs _ (by decide +kernel)) hA, vx_Zqof (hts0 _ lt_s2) (hts0 _ lt_it) (hs _ (by decide +kernel)) hA, ⟨sa, vk_R.of (hts0 _ lt_str) q1⟩, ?_⟩
    intro w hw
    simp only [bdW, List.mem_cons, List.not_mem_nil, or_false] at hw
    rcases hw with rfl | rfl | rfl | rfl
    · exact va_Nw.of rfl (hts0 _ lt_cast)
    · exact va_Nw.of rfl (hts0 _ lt_d1)
    · exact va_Nw.of rfl (hts0 _ lt_d2)
    · exact va_Nw.of rfl (hts0 _ lt_d3)
set_option maxHeartbeats 4000000 in
set_option maxRecDepth 100000 in
theorem whole_start {p : Program} {e : Env} {s : State} {m : MethodId} {below : List Frame} {meth : Method} {c : Code} (l : Launch) (hst : l.stackTraces = false) {b L : Nat} {xs : Nat → Int32} (hL : L ≤ 3584) (C0 : lw_At p s m meth c b L xs) : W p l e room_1 s m #[Value.ref b] below meth c s.heap [] 0 0 (lw_Z below #[Value.ref b] s) (entryFrame m ([Value.ref b] : List Value).toArray 7) := by
  obtain ⟨X, hxa, hxz, hKZ, hSX⟩ := start_known C0
  obtain ⟨hx, hb, hr, hml, hown, hts0, hX, hbl, hlocks, hgv⟩ := id C0
  have hts : ∀ w ∈ wsL_law, w.before #[Value.ref b] s = true := fun w h => hts0 w (wsL_law_in w h)
  have hA : ∀ q : Nat, s.heap.size ≤ q → xA X q := fun q h => by rw [hxa]; exact h
  have body : ∀ k : NT, k.1 = X → k.2.1 = (fun nc ns H locs g => W p l e room_1 s m #[Value.ref b] below meth c H locs nc ns (lw_Z below #[Value.ref b] s) g) → k.2.2 = (7, s.heap, m) → NW k 0 0 [] 0 [(0, .ref b)] [] := by
    intro k hk1 hk2 hk3
    subst hk1
    have C : CZ l k 7 cL_law RL wsL_law 100 ret room_1 (fun below args s => lw_Z below args s) meth.name := ⟨p, e, s, #[Value.ref b], below, meth, c, by rw [hk3, hk2], by rw [hk3], hx, hb, hml, by rw [hk3], by rw [hk3]; exact hown, hts, hKZ, hA, hr, hlocks, (Nat.le_of_ble_eq_true rfl), (Nat.le_of_ble_eq_true rfl), rfl⟩
    refine n_newO (ci := 9) (fs := [.null, .null, .null, .null, .null, .null, .null, .null, .null, .null, .null, .null, .null, .int 0, .int 0]) C dL_law_0 rfl inlX10 tyX10 tyX10_ok (by decide +kernel) (by decide +kernel) (by decide +kernel) (fun j hj => by rcases (show j = 0 ∨ j = 1 ∨ j = 2 ∨ j = 3 ∨ j = 4 ∨ j = 5 ∨ j = 6 ∨ j = 7 ∨ j = 8 ∨ j = 9 ∨ j = 10 ∨ j = 11 ∨ j = 12 ∨ j = 13 ∨ j = 14 by omega) with rfl | rfl | rfl | rfl | rfl | rfl | rfl | rfl | rfl | rfl | rfl | rfl | rfl | rfl | rfl <;> rfl) (Nat.le_of_ble_eq_true rfl) (Nat.le_of_ble_eq_true rfl) (fun a0 => ?_)
    refine n_dup C dL_law_3 rfl ?_
    refine n_callI C dL_law_4 [] [.ref a0] (miX10 l k.1 a0 []) gL_law_X10_init rfl (by decide +kernel) (by decide +kernel) (by decide +kernel) rfl hd_X10_init (by decide) (by decide) rfl rfl (Nat.le_of_ble_eq_true rfl) (Nat.le_of_ble_eq_true rfl) (Nat.le_of_ble_eq_true rfl) (fun qA => ?_)
    refine n_astore_n (lv' := [(0, .ref b), (1, .ref a0)]) C dL_law_7 rfl (by decide) rfl ?_
    refine n_newO (ci := 10) (fs := [.int 0, .int 0, .int 0, .int 0, .int 0, .int 0, .int 0, .null, .null, .null, .null, .int 0, .int 0, .int 0, .int 0, .null, .null, .int 0, .null, .null, .int 0, .null, .null, .int 0, .int 0, .int 0, .null, .null, .null, .null, .null, .null, .null, .int 0, .null, .null, .null, .int 0, .null, .null, .null, .null]) C dL_law_8 rfl inlX11 tyX11 tyX11_ok (by decide +kernel) (by decide +kernel) (by decide +kernel) (fun j hj => by rcases (show j = 0 ∨ j = 1 ∨ j = 2 ∨ j = 3 ∨ j = 4 ∨ j = 5 ∨ j = 6 ∨ j = 7 ∨ j = 8 ∨ j = 9 ∨ j = 10 ∨ j = 11 ∨ j = 12 ∨ j = 13 ∨ j = 14 ∨ j = 15 ∨ j = 16 ∨ j = 17 ∨ j = 18 ∨ j = 19 ∨ j = 20 ∨ j = 21 ∨ j = 22 ∨ j = 23 ∨ j = 24 ∨ j = 25 ∨ j = 26 ∨ j = 27 ∨ j = 28 ∨ j = 29 ∨ j = 30 ∨ j = 31 ∨ j = 32 ∨ j = 33 ∨ j = 34 ∨ j = 35 ∨ j = 36 ∨ j = 37 ∨ j = 38 ∨ j = 39 ∨ j = 40 ∨ j = 41 by omega) with rfl | rfl | rfl | rfl | rfl | rfl | rfl | rfl | rfl | rfl | rfl | rfl | rfl | rfl | rfl | rfl | rfl | rfl | rfl | rfl | rfl | rfl | rfl | rfl | rfl | rfl | rfl | rfl | rfl | rfl | rfl | rfl | rfl | rfl | rfl | rfl | rfl | rfl | rfl | rfl | rfl | rfl <;> rfl) (Nat.le_of_ble_eq_true rfl) (Nat.le_of_ble_eq_true rfl) (fun a41 => ?_)
    refine n_dup C dL_law_11 rfl ?_
    refine n_callI C dL_law_12 [] [.ref a41] (miX11 l k.1 a41 _) gL_law_X11_init rfl (by decide +kernel) (by decide +kernel) (by decide +kernel) rfl hd_X11_init (by decide) (by decide) rfl rfl (Nat.le_of_ble_eq_true rfl) (Nat.le_of_ble_eq_true rfl) (Nat.le_of_ble_eq_true rfl) (fun qB => ?_)
    refine n_astore_n (lv' := [(0, .ref b), (1, .ref a0), (2, .ref a41)]) C dL_law_15 rfl (by decide) rfl ?_
    refine n_iconst (v := 1) C dL_law_16 (by decide) ?_
    refine n_newJ (N' := 1) C dL_law_17 (by decide +kernel) (by decide) (by decide +kernel) (by decide +kernel) (Nat.le_of_ble_eq_true rfl) (Nat.le_of_ble_eq_true rfl) (fun a66 => ?_)
    refine n_astore_n (lv' := [(0, .ref b), (1, .ref a0), (2, .ref a41), (3, .ref a66)]) C dL_law_19 rfl (by decide) rfl ?_
    refine n_iconst (v := 0) C dL_law_20 (by decide) ?_
    refine n_istore (lv' := [(0, .ref b), (1, .ref a0), (2, .ref a41), (3, .ref a66), (4, .int 0)]) C dL_law_21 (by decide) rfl ?_
    obtain ⟨q, hq0, hqA, hq41, hq66, hqB⟩ : ∃ q : Nat → Nat, q 0 = a0 ∧ (∀ n, 1 ≤ n → n < 41 → qA n = q n) ∧ q 41 = a41 ∧ q 66 = a66 ∧ ∀ n, 42 ≤ n → n ≠ 66 → qB n = q n := by
      refine ⟨fun n => if n = 0 then a0 else if n < 41 then qA n else if n = 41 then a41 else if n = 66 then a66 else qB n, rfl, fun n h1 h2 => ?_, rfl, rfl, fun n h1 h2 => ?_⟩
      · show qA n = if n = 0 then a0 else if n < 41 then qA n else if n = 41 then a41 else if n = 66 then a66 else qB n
        rw [if_neg (by omega), if_pos h2]
      · show qB n = if n = 0 then a0 else if n < 41 then qA n else if n = 41 then a41 else if n = 66 then a66 else qB n
        rw [if_neg (by omega), if_neg (by omega), if_neg (by omega), if_neg h2]
    rw [wsC_congr hqA, wsM_congr hqB, wsQ_congr hqB]
    subst hq0
    subst hq41
    subst hq66
    intro H locs ls hP hD hS hl
    rw [hk2, hk3]
    rw [hk3] at hS hl
    obtain ⟨X2, hX2⟩ : ∃ X2 : XT, X2 = (k.1.1, k.1.2.1, k.1.2.2.1, q, []) := ⟨_, rfl⟩
    have hP1 := vr_lay (rows := []) (by rw [List.append_nil]; exact hP)
    have hD1 := vr_layD (rows := []) (by rw [List.append_nil]; exact hD)
    rw [List.nil_append] at hP1 hD1
    have hP2 : va_P (xD X2) vwCl (wsT X2 T0) H := by
      show va_P _ _ (wsE X2 T0 ++ (wsR X2 T0 ++ xz X2)) H
      rw [← wsE_start X2, ← wsR_start X2]
      subst hX2
      exact hP1
    have hD2 : va_D (xA X2) (wsT X2 T0) := by
      show va_D _ (wsE X2 T0 ++ (wsR X2 T0 ++ xz X2))
      rw [← wsE_start X2, ← wsR_start X2]
      subst hX2
      exact hD1
    have CC : CL l ((X2, (fun H locs g => W p l e room_1 s m #[Value.ref b] below meth c H locs (0 + 1 + 40 + 1 + 3460 + 1) (0 + 15 + 13942 + 42 + 30142 + 1) (lw_Z below #[Value.ref b] s) g), 7, s.heap, m) : KT) b L xs (0 + 1 + 40 + 1 + 3460 + 1) (0 + 15 + 13942 + 42 + 30142 + 1) := by
      subst hX2
      exact ⟨p, e, s, #[Value.ref b], below, meth, c, ⟨rfl, rfl, hx, hb, hml, rfl, hown, hts, hKZ.1, hA, hr, hlocks, (Nat.le_of_ble_eq_true rfl), (Nat.le_of_ble_eq_true rfl), (Nat.le_of_ble_eq_true rfl), (Nat.le_of_ble_eq_true rfl)⟩, hX, hbl, hxa, hSX, rfl⟩
    have K := law_loop hst hL 512 0 _ T0 _ _ (by decide) (by decide) CC (Nat.le_of_ble_eq_true rfl) (Nat.le_of_ble_eq_true rfl) inv0 H locs ls hP2 hD2 (by subst hX2; exact hS) (by subst hX2; exact hl)
    exact K
  have K := body (X, (fun nc ns H locs g => W p l e room_1 s m #[Value.ref b] below meth c H locs nc ns (lw_Z below #[Value.ref b] s) g), 7, s.heap, m) rfl rfl rfl
  have hl := lv_entry ([Value.ref b]) (n := 7) (Nat.le_of_ble_eq_true rfl)
  rw [lg_entry_eq]
  exact K s.heap [] _ (fun k q h => by simp at h) ⟨fun i j p q h => by simp at h, fun k q h => by simp at h⟩ va_S.rf hl
