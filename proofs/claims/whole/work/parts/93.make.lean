/-! ===== making: a world as a list that grows ===== -/
abbrev NT : Type := XT × (Nat → Nat → Heap → List Loc → JFrame → Prop) × Nat × Heap × MethodId
def NW (k : NT) (nc ns : Nat) (ws : va_W) (pc : Nat) (lv : List (Nat × Value)) (st : List Value) : Prop :=
  ∀ (H : Heap) (locs : List Loc) (ls : Array Slot), va_P (xD k.1) vwCl ws H → va_D (xA k.1) ws → va_S (xA k.1) k.2.2.2.1 H locs → lv_has ls k.2.2.1 lv → k.2.1 nc ns H locs (F0 k.2.2.2.2 pc ls st)
def nwI : List Cond := [.methodLinkNest RX10 9 yX4_init RX10, .methodLinkNest RX10 34 yX8_init RX10, .methodLinkNest RX10 47 yX1_init RX10, .methodLinkNest RX10 60 yX3_init RX10, .methodLinkNest RX10 74 yX9_init RX10, .methodLinkNest RX10 81 yX2_init RX10]
def KZ (X : XT) (U : State) : Prop := KX X U ∧ (∀ w ∈ nwI, va_Nw w U) ∧ va_AOA .int U
theorem KZ.warm {X : XT} {s U : State} (hW : s.WarmedH U.vm) (h : KZ X s) : KZ X U := by
  refine ⟨h.1.warm hW, fun w hw => ?_, over_moved hW.alike h.2.2⟩
  have hz := h.2.1 w hw
  simp only [nwI, List.mem_cons, List.not_mem_nil, or_false] at hw
  rcases hw with rfl | rfl | rfl | rfl | rfl | rfl <;> exact va_Nw.warmM hW hz
theorem KZ.same {X : XT} {s U : State} (hv : s.vm = U.vm) (h : KZ X s) : KZ X U := by
  refine ⟨h.1.same hv, fun w hw => ?_, over_moved (by rw [hv]; exact Vm.Alike.refl U.vm) h.2.2⟩
  have hz := h.2.1 w hw
  simp only [nwI, List.mem_cons, List.not_mem_nil, or_false] at hw
  rcases hw with rfl | rfl | rfl | rfl | rfl | rfl <;> exact va_Nw.same rfl hv hz
def PreN (X : XT) (av : List Value) (ws : va_W) : Array Value → State → Prop := fun a U => a = av.toArray ∧ (va_P (xD X) vwCl ws U.heap ∧ va_D (xA X) ws) ∧ KZ X U ∧ ∀ q : Nat, U.heap.size ≤ q → xA X q
def QN (X : XT) (f : (Nat → Nat) → va_W) : Array Value → State → Outcome → State → Prop := fun _ st oc t => (oc = .returned none ∧ ∃ q, va_P (xD X) vwCl (f q) t.heap ∧ va_D (xA X) (f q)) ∧ va_F (xA X) st t
theorem preN_blind (X : XT) (av : List Value) (ws : va_W) : FrameBlind (PreN X av ws) := by
  intro a U g mk h
  exact ⟨h.1, h.2.1, KZ.same (s := U) (U := U.calling g mk a) rfl h.2.2.1, h.2.2.2⟩
def CZ (l : Launch) (k : NT) (nL : Nat) (cc : ByteArray) (own : String) (Ts : List Cond) (lev : Nat) (rt : Option FieldType) (R : Room) (Qf : List Frame → Array Value → State → State → Prop) (mn : String) : Prop :=
  ∃ (p : Program) (e : Env) (s : State) (args : Array Value) (below : List Frame) (meth : Method) (c : Code),
    k.2.1 = (fun nc ns H locs g => W p l e R s k.2.2.2.2 args below meth c H locs nc ns (Qf below args s) g) ∧ k.2.2.2.1 = s.heap ∧ p.tables.exec = Jvm.exec ∧ c.code = cc ∧ c.maxLocals = nL ∧ k.2.2.1 = nL ∧ s.vm.findClass own = some k.2.2.2.2.cls ∧ (∀ w ∈ Ts, w.before args s = true) ∧ KZ k.1 s ∧ (∀ q : Nat, s.heap.size ≤ q → xA k.1 q) ∧ meth.sig.returnType = rt ∧ meth.locks = false ∧ lev ≤ R.frames ∧ 60 * lev ≤ R.locals ∧ meth.name = mn
/-- the cell that is being made, what lay ahead of it, what it made, rows -/
def mw (pre : va_W) (x : Nat × va_E) (tl Rw : va_W) : va_W := (pre ++ (x :: tl)) ++ Rw
theorem mw_at (pre : va_W) (x : Nat × va_E) (tl Rw : va_W) : (mw pre x tl Rw)[pre.length]? = some x := by
  unfold mw
  rw [List.getElem?_append_left (by simp), List.getElem?_append_right (Nat.le_refl _), Nat.sub_self]
  rfl
theorem mw_set (pre : va_W) (x y : Nat × va_E) (tl Rw : va_W) : (mw pre x tl Rw).set pre.length y = mw pre y tl Rw := by
  unfold mw
  rw [List.set_append_left _ _ (by simp), List.set_append_right _ _ (Nat.le_refl _), Nat.sub_self]
  rfl
theorem mw_at1 {pre : va_W} {x : Nat × va_E} {tl Rw : va_W} {i : Nat} {z : Nat × va_E} (h : tl[i]? = some z) : (mw pre x tl Rw)[pre.length + 1 + i]? = some z := by
  have hi := (List.getElem?_eq_some_iff.mp h).1
  unfold mw
  rw [List.getElem?_append_left (by simp; omega), List.getElem?_append_right (by omega), show pre.length + 1 + i - pre.length = i + 1 by omega, List.getElem?_cons_succ]
  exact h
theorem mw_set1 {pre : va_W} {x : Nat × va_E} {tl Rw : va_W} {i : Nat} {y : Nat × va_E} (hi : i < tl.length) : (mw pre x tl Rw).set (pre.length + 1 + i) y = mw pre x (tl.set i y) Rw := by
  unfold mw
  rw [List.set_append_left _ _ (by simp; omega), List.set_append_right _ _ (by omega), show pre.length + 1 + i - pre.length = i + 1 by omega, List.set_cons_succ]
theorem mw_app (pre : va_W) (x : Nat × va_E) (tl Rw : va_W) (z : Nat × va_E) : ((pre ++ (x :: tl)) ++ [z]) ++ Rw = mw pre x (tl ++ [z]) Rw := by
  unfold mw
  rw [List.append_assoc pre, List.cons_append]
theorem mw_pP {D : va_G} {cl : List vw_C} {pre : va_W} {x : Nat × va_E} {tl Rw rows : va_W} {z : Nat × va_E} {H : Heap} (h : va_P D cl ((mw pre x tl Rw ++ [z]) ++ rows) H) : va_P D cl (mw pre x (tl ++ [z]) (Rw ++ rows)) H := by
  have h2 := vr_lay h
  rw [mw_app] at h2
  exact h2
theorem mw_pD {A : Nat → Prop} {pre : va_W} {x : Nat × va_E} {tl Rw rows : va_W} {z : Nat × va_E} (h : va_D A ((mw pre x tl Rw ++ [z]) ++ rows)) : va_D A (mw pre x (tl ++ [z]) (Rw ++ rows)) := by
  have h2 := vr_layD h
  rw [mw_app] at h2
  exact h2
theorem mw_P1 {D : va_G} {cl : List vw_C} {pre : va_W} {x : Nat × va_E} {tl Rw : va_W} {z : Nat × va_E} {H : Heap} (h : va_P D cl (mw pre x tl Rw ++ [z]) H) : va_P D cl (mw pre x (tl ++ [z]) Rw) H := by
  have h2 := mw_pP (rows := []) (by rw [List.append_nil]; exact h)
  rw [List.append_nil] at h2
  exact h2
theorem mw_D1 {A : Nat → Prop} {pre : va_W} {x : Nat × va_E} {tl Rw : va_W} {z : Nat × va_E} (h : va_D A (mw pre x tl Rw ++ [z])) : va_D A (mw pre x (tl ++ [z]) Rw) := by
  have h2 := mw_pD (rows := []) (by rw [List.append_nil]; exact h)
  rw [List.append_nil] at h2
  exact h2
section MAKE
variable {l : Launch} {k : NT} {cc : ByteArray} {own mn : String} {Ts : List Cond} {nL lev : Nat} {rt : Option FieldType} {R : Room} {nc ns : Nat} {Qf : List Frame → Array Value → State → State → Prop} {ws : va_W} {pc : Nat} {lv : List (Nat × Value)} {st : List Value}
theorem n_eq {ws2 : va_W} (h : ws = ws2) (K : NW k nc ns ws2 pc lv st) : NW k nc ns ws pc lv st := h ▸ K
theorem n_sub (ks : List Nat) {lv' : List (Nat × Value)} (hl : lv_pick lv ks = lv') (K : NW k nc ns ws pc lv' st) : NW k nc ns ws pc lv st := fun H locs ls hP hD hS h => K H locs ls hP hD hS (lv_sub h ks hl)
theorem n_iconst (C : CZ l k nL cc own Ts lev rt R Qf mn) {n : Int} (d : decode cc pc = .ok (.iconst n, 1)) {v : Int32} (hv : Int32.ofInt n = v) (K : NW k nc ns ws (pc + 1) lv (.int v :: st)) : NW k nc ns ws pc lv st := by
  obtain ⟨p, e, s, args, below, meth, c, hw, hH, hx, hb, hml, hnL, hown, hts, hK, hA, hr, hlk, hRf, hRl, hnm⟩ := C
  intro H locs ls hP hD hS hl
  have K1 := K H locs ls hP hD hS hl
  rw [hw] at K1 ⊢
  exact lv_iconst hx hb d hv K1
theorem n_bipush (C : CZ l k nL cc own Ts lev rt R Qf mn) {n : Int} (d : decode cc pc = .ok (.bipush n, 2)) {v : Int32} (hv : (Int8.ofInt n).toInt32 = v) (K : NW k nc ns ws (pc + 2) lv (.int v :: st)) : NW k nc ns ws pc lv st := by
  obtain ⟨p, e, s, args, below, meth, c, hw, hH, hx, hb, hml, hnL, hown, hts, hK, hA, hr, hlk, hRf, hRl, hnm⟩ := C
  intro H locs ls hP hD hS hl
  have K1 := K H locs ls hP hD hS hl
  rw [hw] at K1 ⊢
  exact lv_bipush hx hb d hv K1
theorem n_sipush (C : CZ l k nL cc own Ts lev rt R Qf mn) {n : Int} (d : decode cc pc = .ok (.sipush n, 3)) {v : Int32} (hv : (Int16.ofInt n).toInt32 = v) (K : NW k nc ns ws (pc + 3) lv (.int v :: st)) : NW k nc ns ws pc lv st := by
  obtain ⟨p, e, s, args, below, meth, c, hw, hH, hx, hb, hml, hnL, hown, hts, hK, hA, hr, hlk, hRf, hRl, hnm⟩ := C
  intro H locs ls hP hD hS hl
  have K1 := K H locs ls hP hD hS hl
  rw [hw] at K1 ⊢
  exact lv_sipush hx hb d hv K1
theorem n_lconst (C : CZ l k nL cc own Ts lev rt R Qf mn) {n : Fin 2} (d : decode cc pc = .ok (.lconst n, 1)) {v : Int64} (hv : Int64.ofNat (n : Nat) = v) (K : NW k nc ns ws (pc + 1) lv (.long v :: st)) : NW k nc ns ws pc lv st := by
  obtain ⟨p, e, s, args, below, meth, c, hw, hH, hx, hb, hml, hnL, hown, hts, hK, hA, hr, hlk, hRf, hRl, hnm⟩ := C
  intro H locs ls hP hD hS hl
  have K1 := K H locs ls hP hD hS hl
  rw [hw] at K1 ⊢
  exact lv_lconst hx hb d hv K1
theorem n_aload_n (C : CZ l k nL cc own Ts lev rt R Qf mn) {f : Fin 4} {i : Nat} {x : Nat} (d : decode cc pc = .ok (.aload_n f, 1)) (hi : (f : Nat) = i) (j : Nat) (hj : lv[j]? = some (i, .ref x)) (K : NW k nc ns ws (pc + 1) lv (.ref x :: st)) : NW k nc ns ws pc lv st := by
  obtain ⟨p, e, s, args, below, meth, c, hw, hH, hx, hb, hml, hnL, hown, hts, hK, hA, hr, hlk, hRf, hRl, hnm⟩ := C
  intro H locs ls hP hD hS hl
  have K1 := K H locs ls hP hD hS hl
  rw [hw] at K1 ⊢
  exact lv_aload_n hx hb d hi (lv_at hl j hj) K1
theorem n_dup (C : CZ l k nL cc own Ts lev rt R Qf mn) {v : Value} (d : decode cc pc = .ok (.dup, 1)) (hv : v.category = 1) (K : NW k nc ns ws (pc + 1) lv (v :: v :: st)) : NW k nc ns ws pc lv (v :: st) := by
  obtain ⟨p, e, s, args, below, meth, c, hw, hH, hx, hb, hml, hnL, hown, hts, hK, hA, hr, hlk, hRf, hRl, hnm⟩ := C
  intro H locs ls hP hD hS hl
  have K1 := K H locs ls hP hD hS hl
  rw [hw] at K1 ⊢
  exact lv_dup hx hb d hv K1
theorem n_obj (C : CZ l k nL cc own Ts lev rt R Qf mn) {i : Nat} (d : decode cc pc = .ok (.invokespecial i, 3)) (h1 : Cond.methodLink own i objectInit ∈ Ts) (h2 : Cond.instanceMethod objectInit ∈ Ts) (h3 : Cond.code objectInit ⟨#[0xb1]⟩ 1 none ∈ Ts) (hlev : 1 ≤ lev) {a : Nat} (K : NW k nc ns ws (pc + 3) lv []) : NW k nc ns ws pc lv [.ref a] := by
  obtain ⟨p, e, s, args, below, meth, c, hw, hH, hx, hb, hml, hnL, hown, hts, hK, hA, hr, hlk, hRf, hRl, hnm⟩ := C
  intro H locs ls hP hD hS hl
  have K1 := K H locs ls hP hD hS hl
  rw [hw] at K1 ⊢
  refine W.objInit hx hb hown (hts _ h1) (hts _ h2) (hts _ h3) rfl (by rw [hml, ← hnL]; exact hl.1) rfl d (by omega) (Nat.le_trans (show 12 ≤ 60 * lev by omega) hRl) ?_
  exact K1
theorem n_put (C : CZ l k nL cc own Ts lev rt R Qf "<init>") {Tn : u_T} {N ci i j a : Nat} {fs fs' : List Value} {v : Value} {pre tl Rw : va_W} (d : decode cc pc = .ok (.putfield i, 3)) (hc : vwCl[ci]? = some (own, Tn, N)) (hj : j < N) (hl2 : j < fs.length) (ty0 : Nat → FieldType) (hty : ∀ k, k < N → parseFieldDescriptor (Tn k).2.2.1 = some (ty0 k)) (hnm2 : ∀ a, a < N → ∀ b, b < N → a ≠ b → (Tn a).2.1 ≠ (Tn b).2.1) (hin : ∀ w ∈ u_ws own Tn N, w ∈ Ts) (hs : (Tn j).1 = own) (hlk2 : Cond.fieldLink own i own (Tn j).2.1 (Tn j).2.2.1 ∈ Ts) {ty : FieldType} (hd : parseFieldDescriptor (Tn j).2.2.1 = some ty) (hn : narrow ty v = v) (hfit : fits ty v = true) (hfs : fs.set j v = fs') (K : NW k nc ns (mw pre (a, .inr (ci, fs')) tl Rw) (pc + 3) lv st) : NW k nc ns (mw pre (a, .inr (ci, fs)) tl Rw) pc lv (v :: .ref a :: st) := by
  obtain ⟨p, e, s, args, below, meth, c, hw, hH, hx, hb, hml, hnL, hown, hts, hK, hA, hr, hlk, hRf, hRl, hnm⟩ := C
  intro H locs ls hP hD hS hl
  rw [hw]
  subst hfs
  have K2 : ∀ (H1 : Heap) (locs1 : List Loc), va_P (xD k.1) vwCl ((mw pre (a, .inr (ci, fs)) tl Rw).set pre.length (a, .inr (ci, fs.set j v))) H1 → va_D (xA k.1) ((mw pre (a, .inr (ci, fs)) tl Rw).set pre.length (a, .inr (ci, fs.set j v))) → va_S (xA k.1) k.2.2.2.1 H1 locs1 → W p l e R s k.2.2.2.2 args below meth c H1 locs1 nc ns (Qf below args s) (F0 k.2.2.2.2 (pc + 3) ls st) := fun H1 locs1 hP1 hD1 hS1 => by
    rw [mw_set] at hP1 hD1
    have K1 := K H1 locs1 ls hP1 hD1 hS1 hl
    rw [hw] at K1
    exact K1
  by_cases hf : (Tn j).2.2.2 = true
  · exact va_putF hx hb hts hin ty0 hty hnm2 hown hK.1.1 hP hD hS pre.length (mw_at _ _ _ _) hc j hj (hts _ hlk2) (fun x h => hs ▸ h) hf hnm hs hd hn hfit hl2 d K2
  · exact va_put hx hb hts hin ty0 hty hnm2 hown hK.1.1 hP hD hS pre.length (mw_at _ _ _ _) hc j hj (hts _ hlk2) (fun x h => hs ▸ h) (by cases h9 : (Tn j).2.2.2 <;> simp_all) hd hn hfit hl2 d K2
theorem n_get (C : CZ l k nL cc own Ts lev rt R Qf mn) {Tn : u_T} {N ci i j a : Nat} {fs : List Value} {v : Value} {pre tl Rw : va_W} (d : decode cc pc = .ok (.getfield i, 3)) (hc : vwCl[ci]? = some (own, Tn, N)) (hj : j < N) (hv : fs[j]? = some v) (hin : ∀ w ∈ u_ws own Tn N, w ∈ Ts) (hs : (Tn j).1 = own) (hlk2 : Cond.fieldLink own i own (Tn j).2.1 (Tn j).2.2.1 ∈ Ts) (K : NW k nc ns (mw pre (a, .inr (ci, fs)) tl Rw) (pc + 3) lv (v :: st)) : NW k nc ns (mw pre (a, .inr (ci, fs)) tl Rw) pc lv (.ref a :: st) := by
  obtain ⟨p, e, s, args, below, meth, c, hw, hH, hx, hb, hml, hnL, hown, hts, hK, hA, hr, hlk, hRf, hRl, hnm⟩ := C
  intro H locs ls hP hD hS hl
  have K1 := K H locs ls hP hD hS hl
  rw [hw] at K1 ⊢
  exact va_get hx hb hts hin hown hK.1.1 hP pre.length (mw_at _ _ _ _) hc j hj (hts _ hlk2) (fun x h => hs ▸ h) hv d K1
theorem n_newI (C : CZ l k nL cc own Ts lev rt R Qf mn) (d : decode cc pc = .ok (.newarray .int, 2)) (hcw : Cond.arrayClass .int ∈ Ts) {n : Int32} {N' : Nat} (hn : ¬ n < 0) (hN : n.toNatClampNeg = N') (hb4 : N' * 4 ≤ 536870912) (hcells : nc + 1 ≤ R.cells) (hslots : ns + N' ≤ R.slots) (K : ∀ q : Nat, NW k (nc + 1) (ns + N') (ws ++ [(q, .inl (xI k.1, N', .inl (fun _ => 0)))]) (pc + 2) lv (.ref q :: st)) : NW k nc ns ws pc lv (.int n :: st) := by
  obtain ⟨p, e, s, args, below, meth, c, hw, hH, hx, hb, hml, hnL, hown, hts, hK, hA, hr, hlk, hRf, hRl, hnm⟩ := C
  intro H locs ls hP hD hS hl
  rw [hw]
  refine va_newa (atype := .int) hx hb (hts _ hcw) (ty := .int) rfl hK.1.1 hP hD (hH ▸ hS) hA (a0 := (N', .inl (fun _ => 0))) (N' := N') (fun cA => by rw [vp_cell_i]; rfl) hn hN hb4 hcells hslots d (fun q cA H1 hK1 hP1 hD1 hS1 => ?_)
  have hcA : cA = xI k.1 := Option.some.inj ((hK1.2 4 (cA, .int) rfl).2.symm.trans (hK1.2 0 (xI k.1, .int) rfl).2)
  subst hcA
  have K1 := K q H1 locs ls hP1 hD1 (by rw [← hH] at hS1; exact hS1) hl
  rw [hw] at K1
  exact K1
theorem n_newZ (C : CZ l k nL cc own Ts lev rt R Qf mn) (d : decode cc pc = .ok (.newarray .boolean, 2)) (hcw : Cond.arrayClass .boolean ∈ Ts) {n : Int32} {N' : Nat} (hn : ¬ n < 0) (hN : n.toNatClampNeg = N') (hb4 : N' * componentBytes .boolean ≤ 536870912) (hcells : nc + 1 ≤ R.cells) (hslots : ns + N' ≤ R.slots) (K : ∀ q : Nat, NW k (nc + 1) (ns + N') (ws ++ [(q, .inl (xZ k.1, N', .inl (fun _ => 0)))]) (pc + 2) lv (.ref q :: st)) : NW k nc ns ws pc lv (.int n :: st) := by
  obtain ⟨p, e, s, args, below, meth, c, hw, hH, hx, hb, hml, hnL, hown, hts, hK, hA, hr, hlk, hRf, hRl, hnm⟩ := C
  intro H locs ls hP hD hS hl
  rw [hw]
  refine va_newa (atype := .boolean) hx hb (hts _ hcw) (ty := .boolean) rfl hK.1.1 hP hD (hH ▸ hS) hA (a0 := (N', .inl (fun _ => 0))) (N' := N') (fun cA => by rw [vp_cell_i]; rfl) hn hN hb4 hcells hslots d (fun q cA H1 hK1 hP1 hD1 hS1 => ?_)
  have hcA : cA = xZ k.1 := Option.some.inj ((hK1.2 4 (cA, .boolean) rfl).2.symm.trans (hK1.2 2 (xZ k.1, .boolean) rfl).2)
  subst hcA
  have K1 := K q H1 locs ls hP1 hD1 (by rw [← hH] at hS1; exact hS1) hl
  rw [hw] at K1
  exact K1
theorem n_newJ (C : CZ l k nL cc own Ts lev rt R Qf mn) (d : decode cc pc = .ok (.newarray .long, 2)) (hcw : Cond.arrayClass .long ∈ Ts) {n : Int32} {N' : Nat} (hn : ¬ n < 0) (hN : n.toNatClampNeg = N') (hb4 : N' * componentBytes .long ≤ 536870912) (hcells : nc + 1 ≤ R.cells) (hslots : ns + N' ≤ R.slots) (K : ∀ q : Nat, NW k (nc + 1) (ns + N') (ws ++ [(q, .inl (xJ k.1, N', .inr (.inl (fun _ => 0))))]) (pc + 2) lv (.ref q :: st)) : NW k nc ns ws pc lv (.int n :: st) := by
  obtain ⟨p, e, s, args, below, meth, c, hw, hH, hx, hb, hml, hnL, hown, hts, hK, hA, hr, hlk, hRf, hRl, hnm⟩ := C
  intro H locs ls hP hD hS hl
  rw [hw]
  refine va_newa (atype := .long) hx hb (hts _ hcw) (ty := .long) rfl hK.1.1 hP hD (hH ▸ hS) hA (a0 := (N', .inr (.inl (fun _ => 0)))) (N' := N') (fun cA => by rw [vp_cell_l]; rfl) hn hN hb4 hcells hslots d (fun q cA H1 hK1 hP1 hD1 hS1 => ?_)
  have hcA : cA = xJ k.1 := Option.some.inj ((hK1.2 4 (cA, .long) rfl).2.symm.trans (hK1.2 1 (xJ k.1, .long) rfl).2)
  subst hcA
  have K1 := K q H1 locs ls hP1 hD1 (by rw [← hH] at hS1; exact hS1) hl
  rw [hw] at K1
  exact K1
/-- what is made goes among what was made -/
theorem n_mw {pre : va_W} {x : Nat × va_E} {tl Rw : va_W} {z : Nat × va_E} (K : NW k nc ns (mw pre x (tl ++ [z]) Rw) pc lv st) : NW k nc ns (mw pre x tl Rw ++ [z]) pc lv st := fun H locs ls hP hD hS hl => K H locs ls (mw_P1 hP) (mw_D1 hD) hS hl
theorem n_newO (C : CZ l k nL cc own Ts lev rt R Qf mn) {i : Nat} (d : decode cc pc = .ok (.new i, 3)) {Cn : String} {Tn : u_T} {N ci : Nat} (hc : vwCl[ci]? = some (Cn, Tn, N)) (hin : ∀ w ∈ u_ws Cn Tn N, w ∈ Ts) (ty0 : Nat → FieldType) (hty : ∀ k, k < N → parseFieldDescriptor (Tn k).2.2.1 = some (ty0 k)) (h1 : Cond.classLink own i Cn ∈ Ts) (h2 : Cond.instantiable Cn N ∈ Ts) (h3 : Cond.initialized Cn ∈ Ts) {fs : List Value} (hfs : ∀ j, j < N → defaultValue (ty0 j) = vp_V fs j) (hcells : nc + 1 ≤ R.cells) (hslots : ns + N ≤ R.slots) (K : ∀ q : Nat, NW k (nc + 1) (ns + N) (ws ++ [(q, .inr (ci, fs))]) (pc + 3) lv (.ref q :: st)) : NW k nc ns ws pc lv st := by
  obtain ⟨p, e, s, args, below, meth, c, hw, hH, hx, hb, hml, hnL, hown, hts, hK, hA, hr, hlk, hRf, hRl, hnm⟩ := C
  intro H locs ls hP hD hS hl
  rw [hw]
  refine va_new hx hb hts hin ty0 hty hown (hts _ h1) (hts _ h2) (hts _ h3) hK.1.1 hP hD (hH ▸ hS) hA hc hfs hcells hslots d (fun q H1 hP1 hD1 hS1 => ?_)
  have K1 := K q H1 locs ls hP1 hD1 (by rw [← hH] at hS1; exact hS1) hl
  rw [hw] at K1
  exact K1
theorem n_mna (C : CZ l k nL cc own Ts lev rt R Qf mn) {i : Nat} (d : decode cc pc = .ok (.multianewarray i 2, 4)) (h1 : Cond.classLink own i "[[I" ∈ Ts) (h2 : Cond.arrayClass .int ∈ Ts) {n m : Int32} {N' M' : Nat} (hn : ¬ n < 0) (hm : ¬ m < 0) (hN : n.toNatClampNeg = N') (hM : m.toNatClampNeg = M') (hb1 : N' * 4 ≤ 536870912) (hb2 : M' * componentBytes .int ≤ 536870912) (hb3 : M' ≤ 536870912) (hcells : nc + (1 + N') ≤ R.cells) (hslots : ns + (N' + N' * M') ≤ R.slots) {pre : va_W} {x : Nat × va_E} {tl Rw : va_W} (K : ∀ (q : Nat) (r : Nat → Nat), NW k (nc + 1 + N') (ns + N' + N' * M') (mw pre x (tl ++ [(q, .inl (xO k.1, N', .inr (.inr (.inr (.inr (fun i => if i < N' then some (r i) else none))))))]) (Rw ++ (List.range N').map (fun j => (r j, .inl (xI k.1, M', .inl (fun _ => 0)))))) (pc + 4) lv (.ref q :: st)) : NW k nc ns (mw pre x tl Rw) pc lv (.int m :: .int n :: st) := by
  obtain ⟨p, e, s, args, below, meth, c, hw, hH, hx, hb, hml, hnL, hown, hts, hK, hA, hr, hlk, hRf, hRl, hnm⟩ := C
  intro H locs ls hP hD hS hl
  rw [hw]
  refine va_mna (X := mw pre x tl Rw) (L := []) (f := fun _ => .inl (xI k.1, M', .inl (fun _ => 0))) (ty := .int) (cy := xI k.1) (z := (M', .inl (fun _ => 0))) hx hb hown (hts _ h1) hK.2.2 (hts _ h2) (hK.1.1.2 0 (xI k.1, .int) rfl).2 hK.1.1 (by rw [show va_pl [] (fun _ => (Sum.inl (xI k.1, M', .inl (fun _ => 0)) : va_E)) = [] from rfl, List.append_nil]; exact hP) (by rw [show va_pl [] (fun _ => (Sum.inl (xI k.1, M', .inl (fun _ => 0)) : va_E)) = [] from rfl, List.append_nil]; exact hD) (hH ▸ hS) hA hn hm hN hM hb1 hb2 hb3 rfl rfl hcells hslots (fun c9 => by
    rw [vp_cell_i]
    show ({ cls := c9, slots := Array.replicate M' _, vm := .none } : Cell) = _
    rw [arrV_new]
    rfl) d (fun q r cA H1 hr1 hr2 hK1 hP1 hD1 hS1 => ?_)
  have hcA : cA = xO k.1 := Option.some.inj ((hK1.2 4 (cA, .array .int) rfl).2.symm.trans (hK1.2 3 (xO k.1, .array .int) rfl).2)
  subst hcA
  have er : va_pl ([] ++ (List.range N').map r) (vr_up (fun _ => (Sum.inl (xI k.1, M', .inl (fun _ => 0)) : va_E)) ((List.range N').map r) (.inl (xI k.1, M', .inl (fun _ => 0)))) = (List.range N').map (fun j => (r j, .inl (xI k.1, M', .inl (fun _ => 0)))) := by
    unfold va_pl
    rw [List.nil_append, List.map_map]
    refine List.map_congr_left (fun j hj => ?_)
    show (r j, vr_up _ _ _ (r j)) = _
    rw [vr_up_in (List.mem_map.mpr ⟨j, hj, rfl⟩)]
  rw [er] at hP1 hD1
  have K1 := K q r H1 locs ls (mw_pP hP1) (mw_pD hD1) (by rw [← hH] at hS1; exact hS1) hl
  rw [hw] at K1
  exact K1
/-- an array of rows as it is read: only what lies below its length counts -/
theorem n_rep {pre : va_W} {x : Nat × va_E} {tl tl' Rw : va_W} {i q N' : Nat} {c9 : ClassId} {f g : Nat → Option Nat} (hi : tl[i]? = some (q, .inl (c9, N', .inr (.inr (.inr (.inr f)))))) (hfg : ∀ j, j < N' → f j = g j) (ht : tl.set i (q, .inl (c9, N', .inr (.inr (.inr (.inr g))))) = tl') (K : NW k nc ns (mw pre x tl' Rw) pc lv st) : NW k nc ns (mw pre x tl Rw) pc lv st := by
  intro H locs ls hP hD hS hl
  subst ht
  have hil := (List.getElem?_eq_some_iff.mp hi).1
  have he := mw_at1 (pre := pre) (x := x) (Rw := Rw) hi
  have e : vp_cell c9 (N', .inr (.inr (.inr (.inr f)))) = vp_cell c9 (N', .inr (.inr (.inr (.inr g)))) := by
    rw [vp_cell_q, vp_cell_q]
    unfold arrV
    rw [show (fun j : Fin N' => va_rf (f j.val)) = fun j : Fin N' => va_rf (g j.val) from funext fun j => by rw [hfg j.val j.isLt]]
  have hP2 := hP.set (e := .inl (c9, N', .inr (.inr (.inr (.inr g))))) hD he (show H[q]? = some (vp_cell c9 (N', .inr (.inr (.inr (.inr g))))) by rw [← e]; exact hP _ _ he) (fun _ _ => rfl)
  have hD2 := hD.set (e := .inl (c9, N', .inr (.inr (.inr (.inr g))))) he
  rw [mw_set1 hil] at hP2 hD2
  exact K H locs ls hP2 hD2 hS hl
theorem n_callI (C : CZ l k nL cc own Ts lev rt R Qf mn) {i : Nat} (d : decode cc pc = .ok (.invokespecial i, 3)) {y : MethodName} {bytes : ByteArray} {maxL lv2 n b mc ms : Nat} {wsm ws' : List Cond} (As rest : List Value) {wl : va_W} {f : (Nat → Nat) → va_W} (hM : Met l y wsm (RN lv2 mc ms) (PreN k.1 (.ref b :: As) wl) (QN k.1 f) mc ms (xA k.1)) (hg : GoodIn Ts wsm) (hws : wsm = Cond.code y bytes maxL none :: ws') (hlink : Cond.methodLink own i y ∈ Ts) (hinst : Cond.instanceMethod y ∈ Ts) (hini : Cond.initialized y.cls ∈ Ts) (hyn : y.name = "<init>") (hd : y.cls ≠ "java/lang/invoke/MethodHandle" ∧ y.cls ≠ "java/lang/invoke/VarHandle" ∧ (parseMethodDescriptor y.desc).map (fun d => d.parameters.length) = some n) (hlev : lv2 + 1 ≤ lev) (hmx : maxL ≤ 41) (hn : As.length = n) (hst : st = As.reverse ++ .ref b :: rest) (hroom : (rest.map fun v => v.category).sum ≤ 8) (hcells : nc + mc ≤ R.cells) (hslots : ns + ms ≤ R.slots) (K : ∀ q, NW k (nc + mc) (ns + ms) (f q) (pc + 3) lv rest) : NW k nc ns wl pc lv st := by
  obtain ⟨p, e, s, args, below, meth, c, hw, hH, hx, hb, hml, hnL, hown, hts, hK, hA, hr, hlk, hRf, hRl, hnm⟩ := C
  intro H locs ls hP hD hS hl
  rw [hw]
  intro T0 hT X0
  obtain ⟨v', st₀, t, T', L, h0, X', hL, e1, e2, ⟨hv, hF⟩, stp⟩ := va_runI (R := R) (As := As) (rest := rest) ⟨hx, hb, hml, hown, hts⟩ hM (cwI n hts hg hws rfl rfl (hts _ hini) (hts _ hlink) (hts _ hinst) hyn hd ⟨Nat.le_trans hlev hRf, Nat.le_trans (show 8 + (maxL + 11) + 60 * lv2 ≤ 60 * lev by omega) hRl⟩) ⟨preN_blind _ _ _, fun U hU hW => ⟨rfl, ⟨by rw [hU]; exact hP, hD⟩, hK.warm hW, fun q hq => hA q (Nat.le_trans (hH ▸ hS.1) (hU ▸ hq))⟩⟩ (g := F0 k.2.2.2.2 pc ls st) rfl hn (hl.1.trans hnL) hst (lv_room hroom) d ⟨hcells, hslots⟩ T0 hT X0
  obtain ⟨hv, q, hq1, hq2⟩ := hv
  cases hv
  have hz : st₀.heap.size ≤ t.heap.size := hF.1
  have hk1 := hF.2
  rw [h0] at hz hk1
  have K1 := K q T'.heap (locs ++ L) ls (by rw [e1]; exact hq1) hq2 ⟨Nat.le_trans hS.1 (by rw [e1]; exact hz), fun q h1 h2 => by rw [e1, hk1 q (Nat.lt_of_lt_of_le h1 hS.1) h2]; exact hS.2.1 q h1 h2, fun q hq => by
      rcases List.mem_append.mp hq with h | h
      · exact hS.2.2 q h
      · exact hL q h⟩ hl
  rw [hw] at K1
  obtain ⟨t2, a1, b1⟩ := K1 T' rfl X'
  exact ⟨t2, stp t2 a1, b1⟩
theorem n_callN (C : CZ l k nL cc own Ts lev rt R Qf mn) {i : Nat} (d : decode cc pc = .ok (.invokespecial i, 3)) {y : MethodName} {bytes : ByteArray} {maxL lv2 n b mc ms : Nat} {wsm ws' : List Cond} (As rest : List Value) {wl : va_W} {f : (Nat → Nat) → va_W} (hM : Met l y wsm (RN lv2 mc ms) (PreN k.1 (.ref b :: As) wl) (QN k.1 f) mc ms (xA k.1)) (hg : GoodIn Ts wsm) (hws : wsm = Cond.code y bytes maxL none :: ws') {host : String} (hlink : Cond.methodLinkNest own i y host ∈ nwI) (hinst : Cond.instanceMethod y ∈ Ts) (hini : Cond.initialized y.cls ∈ Ts) (hyn : y.name = "<init>") (hd : y.cls ≠ "java/lang/invoke/MethodHandle" ∧ y.cls ≠ "java/lang/invoke/VarHandle" ∧ (parseMethodDescriptor y.desc).map (fun d => d.parameters.length) = some n) (hlev : lv2 + 1 ≤ lev) (hmx : maxL ≤ 41) (hn : As.length = n) (hst : st = As.reverse ++ .ref b :: rest) (hroom : (rest.map fun v => v.category).sum ≤ 8) (hcells : nc + mc ≤ R.cells) (hslots : ns + ms ≤ R.slots) (K : ∀ q, NW k (nc + mc) (ns + ms) (f q) (pc + 3) lv rest) : NW k nc ns wl pc lv st := by
  obtain ⟨p, e, s, args, below, meth, c, hw, hH, hx, hb, hml, hnL, hown, hts, hK, hA, hr, hlk, hRf, hRl, hnm⟩ := C
  intro H locs ls hP hD hS hl
  rw [hw]
  intro T0 hT X0
  obtain ⟨v', st₀, t, T', L, h0, X', hL, e1, e2, ⟨hv, hF⟩, stp⟩ := va_runIN (R := R) (As := As) (rest := rest) ⟨hx, hb, hml, hown, hts⟩ hM ⟨va_cnB n hts hg hws rfl rfl (hK.2.1 _ hlink) (hts _ hini) hd ⟨Nat.le_trans hlev hRf, Nat.le_trans (show 8 + (maxL + 11) + 60 * lv2 ≤ 60 * lev by omega) hRl⟩, hyn, hts _ hinst⟩ ⟨preN_blind _ _ _, fun U hU hW => ⟨rfl, ⟨by rw [hU]; exact hP, hD⟩, hK.warm hW, fun q hq => hA q (Nat.le_trans (hH ▸ hS.1) (hU ▸ hq))⟩⟩ (g := F0 k.2.2.2.2 pc ls st) rfl hn (hl.1.trans hnL) hst (lv_room hroom) d ⟨hcells, hslots⟩ T0 hT X0
  obtain ⟨hv, q, hq1, hq2⟩ := hv
  cases hv
  have hz : st₀.heap.size ≤ t.heap.size := hF.1
  have hk1 := hF.2
  rw [h0] at hz hk1
  have K1 := K q T'.heap (locs ++ L) ls (by rw [e1]; exact hq1) hq2 ⟨Nat.le_trans hS.1 (by rw [e1]; exact hz), fun q h1 h2 => by rw [e1, hk1 q (Nat.lt_of_lt_of_le h1 hS.1) h2]; exact hS.2.1 q h1 h2, fun q hq => by
      rcases List.mem_append.mp hq with h | h
      · exact hS.2.2 q h
      · exact hL q h⟩ hl
  rw [hw] at K1
  obtain ⟨t2, a1, b1⟩ := K1 T' rfl X'
  exact ⟨t2, stp t2 a1, b1⟩
theorem mw_out (pre : va_W) (x : Nat × va_E) (tl g : va_W) : (pre ++ x :: tl) ++ g = mw pre x (tl ++ g) [] := by
  unfold mw
  rw [List.append_nil, List.append_assoc, List.cons_append]
/-- the end of a constructor -/
theorem n_ret {X : XT} {f : (Nat → Nat) → va_W} {mc ms : Nat} (C : CZ l k nL cc own Ts lev none R (fun below args s => MQ below (QN X f) args s mc ms (xA X)) mn) (hX : k.1 = X) (d : decode cc pc = .ok (.return_, 1)) (h1 : nc ≤ mc) (h2 : ns ≤ ms) (q : Nat → Nat) (hw2 : ws = f q) : NW k nc ns ws pc lv [] := by
  obtain ⟨p, e, s, args, below, meth, c, hw, hH, hx, hb, hml, hnL, hown, hts, hK, hA, hr, hlk, hRf, hRl, hnm⟩ := C
  intro H locs ls hP hD hS hl
  rw [hw]
  subst hX
  subst hw2
  refine W.widen h1 h2 ?_
  have hS' : va_S (xA k.1) s.heap H locs := by rw [← hH]; exact hS
  exact W.vret hx hb hr (fun t ht hW => ⟨⟨rfl, q, by rw [ht]; exact hP, hD⟩, hS'.F ht⟩) hS'.2.2 d hlk
theorem n_start {y : MethodName} {ws0 ws' : List Cond} {X : XT} {av : List Value} {wl : va_W} {Qc : Array Value → State → Outcome → State → Prop} {mc ms : Nat} {maxL : Nat} (hy : plainName y.cls = true) (hws : ws0 = Cond.code y cc maxL none :: ws') (hlen : (lg_sl av).length ≤ maxL)
    (body : ∀ k : NT, k.1 = X → CZ l k maxL cc y.cls ws0 lev none (RN lev mc ms) (fun below args s => MQ below Qc args s mc ms (xA X)) y.name → NW k 0 0 wl 0 (lv_args 0 av) []) : Met l y ws0 (RN lev mc ms) (PreN X av wl) Qc mc ms (xA X) := by
  refine Met.ofW (cc := cc) (maxL := maxL) (ret := none) hy hws ?_
  intro p e s m args below meth c s₁ B hml hv
  obtain ⟨rfl, ⟨hP, hD⟩, hK, hA⟩ := hv
  have hts := atoms_spec (ws := ws0) B.pre
  have hown : s.vm.findClass y.cls = some m.cls := findClass_of_methodNamed B.named
  have K := body (X, (fun nc ns H locs g => W p l e (RN lev mc ms) s m av.toArray below meth c H locs nc ns (MQ below Qc av.toArray s mc ms (xA X)) g), maxL, s.heap, m) rfl ⟨p, e, s, av.toArray, below, meth, c, rfl, rfl, B.exec, B.bytes, hml, rfl, hown, hts, hK, hA, B.returns, B.notSynchronized, Nat.le_refl _, Nat.le_refl _, (name_of_methodNamed B.named B.method).1⟩
  have hl := lv_entry av (n := maxL) hlen
  rw [lg_entry_eq]
  exact K s.heap [] _ hP hD va_S.rf hl
end MAKE
