/-! THE RULES ONCE MORE, over any room and any end: for the methods that make something, and for the law -/
def CY (l : Launch) (k : KT) (nL : Nat) (cc : ByteArray) (own : String) (Ts : List Cond) (lev : Nat) (rt : Option FieldType) (R : Room) (nc ns : Nat) (Qf : List Frame → Array Value → State → State → Prop) : Prop :=
  ∃ (p : Program) (e : Env) (s : State) (args : Array Value) (below : List Frame) (meth : Method) (c : Code),
    k.2.1 = (fun H locs g => W p l e R s k.2.2.2.2 args below meth c H locs nc ns (Qf below args s) g) ∧ k.2.2.2.1 = s.heap ∧ p.tables.exec = Jvm.exec ∧ c.code = cc ∧ c.maxLocals = nL ∧ k.2.2.1 = nL ∧ s.vm.findClass own = some k.2.2.2.2.cls ∧ (∀ w ∈ Ts, w.before args s = true) ∧ KX k.1 s ∧ (∀ q : Nat, s.heap.size ≤ q → xA k.1 q) ∧ meth.sig.returnType = rt ∧ meth.locks = false ∧ lev ≤ R.frames ∧ 60 * lev ≤ R.locals ∧ nc ≤ R.cells ∧ ns ≤ R.slots
section RULESY
variable {l : Launch} {k : KT} {cc : ByteArray} {own : String} {Ts : List Cond} {nL lev : Nat} {rt : Option FieldType} {R : Room} {nc ns : Nat} {Qf : List Frame → Array Value → State → State → Prop} {T : TS} {pc : Nat} {lv : List (Nat × Value)} {st : List Value} {α : Type} {z : α}
theorem y_iconst (C : CY l k nL cc own Ts lev rt R nc ns Qf) {n : Int} (d : decode cc pc = .ok (.iconst n, 1)) {v : Int32} (hv : Int32.ofInt n = v) (K : GW k T (pc + 1) lv (.int v :: st)) : GW k T pc lv (st) := by
  obtain ⟨p, e, s, args, below, meth, c, hw, hH, hx, hb, hml, hnL, hown, hts, hK, hA, hr, hlk, hRf, hRl, hRc, hRs⟩ := C
  intro H locs ls hP hD hS hl
  have K1 := K H locs ls hP hD hS hl
  rw [hw] at K1
  rw [hw]
  exact lv_iconst hx hb d hv K1
theorem y_bipush (C : CY l k nL cc own Ts lev rt R nc ns Qf) {n : Int} (d : decode cc pc = .ok (.bipush n, 2)) {v : Int32} (hv : (Int8.ofInt n).toInt32 = v) (K : GW k T (pc + 2) lv (.int v :: st)) : GW k T pc lv (st) := by
  obtain ⟨p, e, s, args, below, meth, c, hw, hH, hx, hb, hml, hnL, hown, hts, hK, hA, hr, hlk, hRf, hRl, hRc, hRs⟩ := C
  intro H locs ls hP hD hS hl
  have K1 := K H locs ls hP hD hS hl
  rw [hw] at K1
  rw [hw]
  exact lv_bipush hx hb d hv K1
theorem y_sipush (C : CY l k nL cc own Ts lev rt R nc ns Qf) {n : Int} (d : decode cc pc = .ok (.sipush n, 3)) {v : Int32} (hv : (Int16.ofInt n).toInt32 = v) (K : GW k T (pc + 3) lv (.int v :: st)) : GW k T pc lv (st) := by
  obtain ⟨p, e, s, args, below, meth, c, hw, hH, hx, hb, hml, hnL, hown, hts, hK, hA, hr, hlk, hRf, hRl, hRc, hRs⟩ := C
  intro H locs ls hP hD hS hl
  have K1 := K H locs ls hP hD hS hl
  rw [hw] at K1
  rw [hw]
  exact lv_sipush hx hb d hv K1
theorem y_lconst (C : CY l k nL cc own Ts lev rt R nc ns Qf) {n : Fin 2} (d : decode cc pc = .ok (.lconst n, 1)) {v : Int64} (hv : Int64.ofNat (n : Nat) = v) (K : GW k T (pc + 1) lv (.long v :: st)) : GW k T pc lv (st) := by
  obtain ⟨p, e, s, args, below, meth, c, hw, hH, hx, hb, hml, hnL, hown, hts, hK, hA, hr, hlk, hRf, hRl, hRc, hRs⟩ := C
  intro H locs ls hP hD hS hl
  have K1 := K H locs ls hP hD hS hl
  rw [hw] at K1
  rw [hw]
  exact lv_lconst hx hb d hv K1
theorem y_ldc (C : CY l k nL cc own Ts lev rt R nc ns Qf) {i : Nat} (d : decode cc pc = .ok (.ldc i, 2)) {v : Int32} (hc : Cond.constant own i v ∈ Ts) (K : GW k T (pc + 2) lv (.int v :: st)) : GW k T pc lv (st) := by
  obtain ⟨p, e, s, args, below, meth, c, hw, hH, hx, hb, hml, hnL, hown, hts, hK, hA, hr, hlk, hRf, hRl, hRc, hRs⟩ := C
  intro H locs ls hP hD hS hl
  have K1 := K H locs ls hP hD hS hl
  rw [hw] at K1
  rw [hw]
  exact lv_ldc hx hb hown (hts _ hc) d K1
theorem y_ldcw (C : CY l k nL cc own Ts lev rt R nc ns Qf) {i : Nat} (d : decode cc pc = .ok (.ldc_w i, 3)) {v : Int32} (hc : Cond.constant own i v ∈ Ts) (K : GW k T (pc + 3) lv (.int v :: st)) : GW k T pc lv (st) := by
  obtain ⟨p, e, s, args, below, meth, c, hw, hH, hx, hb, hml, hnL, hown, hts, hK, hA, hr, hlk, hRf, hRl, hRc, hRs⟩ := C
  intro H locs ls hP hD hS hl
  have K1 := K H locs ls hP hD hS hl
  rw [hw] at K1
  rw [hw]
  exact lv_ldcw hx hb hown (hts _ hc) d K1
theorem y_ldc2 (C : CY l k nL cc own Ts lev rt R nc ns Qf) {i : Nat} (d : decode cc pc = .ok (.ldc2_w i, 3)) {v : Int64} (hc : Cond.constantLong own i v ∈ Ts) (K : GW k T (pc + 3) lv (.long v :: st)) : GW k T pc lv (st) := by
  obtain ⟨p, e, s, args, below, meth, c, hw, hH, hx, hb, hml, hnL, hown, hts, hK, hA, hr, hlk, hRf, hRl, hRc, hRs⟩ := C
  intro H locs ls hP hD hS hl
  have K1 := K H locs ls hP hD hS hl
  rw [hw] at K1
  rw [hw]
  exact lv_ldc2 hx hb hown (hts _ hc) d K1
theorem y_iload_n (C : CY l k nL cc own Ts lev rt R nc ns Qf) {f : Fin 4} {i : Nat} {x : Int32} (d : decode cc pc = .ok (.iload_n f, 1)) (hi : (f : Nat) = i) (j : Nat) (hj : lv[j]? = some (i, .int x)) (K : GW k T (pc + 1) lv (.int x :: st)) : GW k T pc lv (st) := by
  obtain ⟨p, e, s, args, below, meth, c, hw, hH, hx, hb, hml, hnL, hown, hts, hK, hA, hr, hlk, hRf, hRl, hRc, hRs⟩ := C
  intro H locs ls hP hD hS hl
  have K1 := K H locs ls hP hD hS hl
  rw [hw] at K1
  rw [hw]
  exact lv_iload_n hx hb d hi (lv_at hl j hj) K1
theorem y_iload (C : CY l k nL cc own Ts lev rt R nc ns Qf) {i : Nat} {x : Int32} (d : decode cc pc = .ok (.iload i, 2)) (j : Nat) (hj : lv[j]? = some (i, .int x)) (K : GW k T (pc + 2) lv (.int x :: st)) : GW k T pc lv (st) := by
  obtain ⟨p, e, s, args, below, meth, c, hw, hH, hx, hb, hml, hnL, hown, hts, hK, hA, hr, hlk, hRf, hRl, hRc, hRs⟩ := C
  intro H locs ls hP hD hS hl
  have K1 := K H locs ls hP hD hS hl
  rw [hw] at K1
  rw [hw]
  exact lv_iload hx hb d (lv_at hl j hj) K1
theorem y_lload_n (C : CY l k nL cc own Ts lev rt R nc ns Qf) {f : Fin 4} {i : Nat} {x : Int64} (d : decode cc pc = .ok (.lload_n f, 1)) (hi : (f : Nat) = i) (j : Nat) (hj : lv[j]? = some (i, .long x)) (K : GW k T (pc + 1) lv (.long x :: st)) : GW k T pc lv (st) := by
  obtain ⟨p, e, s, args, below, meth, c, hw, hH, hx, hb, hml, hnL, hown, hts, hK, hA, hr, hlk, hRf, hRl, hRc, hRs⟩ := C
  intro H locs ls hP hD hS hl
  have K1 := K H locs ls hP hD hS hl
  rw [hw] at K1
  rw [hw]
  exact lv_lload_n hx hb d hi (lv_at hl j hj) K1
theorem y_lload (C : CY l k nL cc own Ts lev rt R nc ns Qf) {i : Nat} {x : Int64} (d : decode cc pc = .ok (.lload i, 2)) (j : Nat) (hj : lv[j]? = some (i, .long x)) (K : GW k T (pc + 2) lv (.long x :: st)) : GW k T pc lv (st) := by
  obtain ⟨p, e, s, args, below, meth, c, hw, hH, hx, hb, hml, hnL, hown, hts, hK, hA, hr, hlk, hRf, hRl, hRc, hRs⟩ := C
  intro H locs ls hP hD hS hl
  have K1 := K H locs ls hP hD hS hl
  rw [hw] at K1
  rw [hw]
  exact lv_lload hx hb d (lv_at hl j hj) K1
theorem y_aload_n (C : CY l k nL cc own Ts lev rt R nc ns Qf) {f : Fin 4} {i : Nat} {x : Nat} (d : decode cc pc = .ok (.aload_n f, 1)) (hi : (f : Nat) = i) (j : Nat) (hj : lv[j]? = some (i, .ref x)) (K : GW k T (pc + 1) lv (.ref x :: st)) : GW k T pc lv (st) := by
  obtain ⟨p, e, s, args, below, meth, c, hw, hH, hx, hb, hml, hnL, hown, hts, hK, hA, hr, hlk, hRf, hRl, hRc, hRs⟩ := C
  intro H locs ls hP hD hS hl
  have K1 := K H locs ls hP hD hS hl
  rw [hw] at K1
  rw [hw]
  exact lv_aload_n hx hb d hi (lv_at hl j hj) K1
theorem y_aload (C : CY l k nL cc own Ts lev rt R nc ns Qf) {i : Nat} {x : Nat} (d : decode cc pc = .ok (.aload i, 2)) (j : Nat) (hj : lv[j]? = some (i, .ref x)) (K : GW k T (pc + 2) lv (.ref x :: st)) : GW k T pc lv (st) := by
  obtain ⟨p, e, s, args, below, meth, c, hw, hH, hx, hb, hml, hnL, hown, hts, hK, hA, hr, hlk, hRf, hRl, hRc, hRs⟩ := C
  intro H locs ls hP hD hS hl
  have K1 := K H locs ls hP hD hS hl
  rw [hw] at K1
  rw [hw]
  exact lv_aload hx hb d (lv_at hl j hj) K1
theorem y_iadd (C : CY l k nL cc own Ts lev rt R nc ns Qf) {x y : Int32} (d : decode cc pc = .ok (.iadd, 1)) (K : GW k T (pc + 1) lv (.int (x + y) :: st)) : GW k T pc lv (.int y :: .int x :: st) := by
  obtain ⟨p, e, s, args, below, meth, c, hw, hH, hx, hb, hml, hnL, hown, hts, hK, hA, hr, hlk, hRf, hRl, hRc, hRs⟩ := C
  intro H locs ls hP hD hS hl
  have K1 := K H locs ls hP hD hS hl
  rw [hw] at K1
  rw [hw]
  exact lv_iadd hx hb d K1
theorem y_isub (C : CY l k nL cc own Ts lev rt R nc ns Qf) {x y : Int32} (d : decode cc pc = .ok (.isub, 1)) (K : GW k T (pc + 1) lv (.int (x - y) :: st)) : GW k T pc lv (.int y :: .int x :: st) := by
  obtain ⟨p, e, s, args, below, meth, c, hw, hH, hx, hb, hml, hnL, hown, hts, hK, hA, hr, hlk, hRf, hRl, hRc, hRs⟩ := C
  intro H locs ls hP hD hS hl
  have K1 := K H locs ls hP hD hS hl
  rw [hw] at K1
  rw [hw]
  exact lv_isub hx hb d K1
theorem y_imul (C : CY l k nL cc own Ts lev rt R nc ns Qf) {x y : Int32} (d : decode cc pc = .ok (.imul, 1)) (K : GW k T (pc + 1) lv (.int (x * y) :: st)) : GW k T pc lv (.int y :: .int x :: st) := by
  obtain ⟨p, e, s, args, below, meth, c, hw, hH, hx, hb, hml, hnL, hown, hts, hK, hA, hr, hlk, hRf, hRl, hRc, hRs⟩ := C
  intro H locs ls hP hD hS hl
  have K1 := K H locs ls hP hD hS hl
  rw [hw] at K1
  rw [hw]
  exact lv_imul hx hb d K1
theorem y_iand (C : CY l k nL cc own Ts lev rt R nc ns Qf) {x y : Int32} (d : decode cc pc = .ok (.iand, 1)) (K : GW k T (pc + 1) lv (.int (x &&& y) :: st)) : GW k T pc lv (.int y :: .int x :: st) := by
  obtain ⟨p, e, s, args, below, meth, c, hw, hH, hx, hb, hml, hnL, hown, hts, hK, hA, hr, hlk, hRf, hRl, hRc, hRs⟩ := C
  intro H locs ls hP hD hS hl
  have K1 := K H locs ls hP hD hS hl
  rw [hw] at K1
  rw [hw]
  exact lv_iand hx hb d K1
theorem y_ior (C : CY l k nL cc own Ts lev rt R nc ns Qf) {x y : Int32} (d : decode cc pc = .ok (.ior, 1)) (K : GW k T (pc + 1) lv (.int (x ||| y) :: st)) : GW k T pc lv (.int y :: .int x :: st) := by
  obtain ⟨p, e, s, args, below, meth, c, hw, hH, hx, hb, hml, hnL, hown, hts, hK, hA, hr, hlk, hRf, hRl, hRc, hRs⟩ := C
  intro H locs ls hP hD hS hl
  have K1 := K H locs ls hP hD hS hl
  rw [hw] at K1
  rw [hw]
  exact lv_ior hx hb d K1
theorem y_ixor (C : CY l k nL cc own Ts lev rt R nc ns Qf) {x y : Int32} (d : decode cc pc = .ok (.ixor, 1)) (K : GW k T (pc + 1) lv (.int (x ^^^ y) :: st)) : GW k T pc lv (.int y :: .int x :: st) := by
  obtain ⟨p, e, s, args, below, meth, c, hw, hH, hx, hb, hml, hnL, hown, hts, hK, hA, hr, hlk, hRf, hRl, hRc, hRs⟩ := C
  intro H locs ls hP hD hS hl
  have K1 := K H locs ls hP hD hS hl
  rw [hw] at K1
  rw [hw]
  exact lv_ixor hx hb d K1
theorem y_ladd (C : CY l k nL cc own Ts lev rt R nc ns Qf) {x y : Int64} (d : decode cc pc = .ok (.ladd, 1)) (K : GW k T (pc + 1) lv (.long (x + y) :: st)) : GW k T pc lv (.long y :: .long x :: st) := by
  obtain ⟨p, e, s, args, below, meth, c, hw, hH, hx, hb, hml, hnL, hown, hts, hK, hA, hr, hlk, hRf, hRl, hRc, hRs⟩ := C
  intro H locs ls hP hD hS hl
  have K1 := K H locs ls hP hD hS hl
  rw [hw] at K1
  rw [hw]
  exact lv_ladd hx hb d K1
theorem y_lsub (C : CY l k nL cc own Ts lev rt R nc ns Qf) {x y : Int64} (d : decode cc pc = .ok (.lsub, 1)) (K : GW k T (pc + 1) lv (.long (x - y) :: st)) : GW k T pc lv (.long y :: .long x :: st) := by
  obtain ⟨p, e, s, args, below, meth, c, hw, hH, hx, hb, hml, hnL, hown, hts, hK, hA, hr, hlk, hRf, hRl, hRc, hRs⟩ := C
  intro H locs ls hP hD hS hl
  have K1 := K H locs ls hP hD hS hl
  rw [hw] at K1
  rw [hw]
  exact lv_lsub hx hb d K1
theorem y_lmul (C : CY l k nL cc own Ts lev rt R nc ns Qf) {x y : Int64} (d : decode cc pc = .ok (.lmul, 1)) (K : GW k T (pc + 1) lv (.long (x * y) :: st)) : GW k T pc lv (.long y :: .long x :: st) := by
  obtain ⟨p, e, s, args, below, meth, c, hw, hH, hx, hb, hml, hnL, hown, hts, hK, hA, hr, hlk, hRf, hRl, hRc, hRs⟩ := C
  intro H locs ls hP hD hS hl
  have K1 := K H locs ls hP hD hS hl
  rw [hw] at K1
  rw [hw]
  exact lv_lmul hx hb d K1
theorem y_ishl (C : CY l k nL cc own Ts lev rt R nc ns Qf) {x y : Int32} (d : decode cc pc = .ok (.ishl, 1)) (K : GW k T (pc + 1) lv (.int (x <<< (y &&& 31)) :: st)) : GW k T pc lv (.int y :: .int x :: st) := by
  obtain ⟨p, e, s, args, below, meth, c, hw, hH, hx, hb, hml, hnL, hown, hts, hK, hA, hr, hlk, hRf, hRl, hRc, hRs⟩ := C
  intro H locs ls hP hD hS hl
  have K1 := K H locs ls hP hD hS hl
  rw [hw] at K1
  rw [hw]
  exact lv_ishl hx hb d K1
theorem y_ishr (C : CY l k nL cc own Ts lev rt R nc ns Qf) {x y : Int32} (d : decode cc pc = .ok (.ishr, 1)) (K : GW k T (pc + 1) lv (.int (x >>> (y &&& 31)) :: st)) : GW k T pc lv (.int y :: .int x :: st) := by
  obtain ⟨p, e, s, args, below, meth, c, hw, hH, hx, hb, hml, hnL, hown, hts, hK, hA, hr, hlk, hRf, hRl, hRc, hRs⟩ := C
  intro H locs ls hP hD hS hl
  have K1 := K H locs ls hP hD hS hl
  rw [hw] at K1
  rw [hw]
  exact lv_ishr hx hb d K1
theorem y_iushr (C : CY l k nL cc own Ts lev rt R nc ns Qf) {x y : Int32} (d : decode cc pc = .ok (.iushr, 1)) (K : GW k T (pc + 1) lv (.int (x.toUInt32 >>> (y.toUInt32 &&& Int32.toUInt32 31)).toInt32 :: st)) : GW k T pc lv (.int y :: .int x :: st) := by
  obtain ⟨p, e, s, args, below, meth, c, hw, hH, hx, hb, hml, hnL, hown, hts, hK, hA, hr, hlk, hRf, hRl, hRc, hRs⟩ := C
  intro H locs ls hP hD hS hl
  have K1 := K H locs ls hP hD hS hl
  rw [hw] at K1
  rw [hw]
  exact lv_iushr hx hb d rfl K1
theorem y_i2l (C : CY l k nL cc own Ts lev rt R nc ns Qf) {x : Int32} (d : decode cc pc = .ok (.i2l, 1)) (K : GW k T (pc + 1) lv (.long x.toInt64 :: st)) : GW k T pc lv (.int x :: st) := by
  obtain ⟨p, e, s, args, below, meth, c, hw, hH, hx, hb, hml, hnL, hown, hts, hK, hA, hr, hlk, hRf, hRl, hRc, hRs⟩ := C
  intro H locs ls hP hD hS hl
  have K1 := K H locs ls hP hD hS hl
  rw [hw] at K1
  rw [hw]
  exact lv_i2l hx hb d rfl K1
theorem y_l2i (C : CY l k nL cc own Ts lev rt R nc ns Qf) {x : Int64} (d : decode cc pc = .ok (.l2i, 1)) (K : GW k T (pc + 1) lv (.int x.toInt32 :: st)) : GW k T pc lv (.long x :: st) := by
  obtain ⟨p, e, s, args, below, meth, c, hw, hH, hx, hb, hml, hnL, hown, hts, hK, hA, hr, hlk, hRf, hRl, hRc, hRs⟩ := C
  intro H locs ls hP hD hS hl
  have K1 := K H locs ls hP hD hS hl
  rw [hw] at K1
  rw [hw]
  exact lv_l2i hx hb d rfl K1
theorem y_lcmp (C : CY l k nL cc own Ts lev rt R nc ns Qf) {x y : Int64} (d : decode cc pc = .ok (.lcmp, 1)) (K : GW k T (pc + 1) lv (.int (lg_cmp x y) :: st)) : GW k T pc lv (.long y :: .long x :: st) := by
  obtain ⟨p, e, s, args, below, meth, c, hw, hH, hx, hb, hml, hnL, hown, hts, hK, hA, hr, hlk, hRf, hRl, hRc, hRs⟩ := C
  intro H locs ls hP hD hS hl
  have K1 := K H locs ls hP hD hS hl
  rw [hw] at K1
  rw [hw]
  exact W.lcmp hx hb d K1
theorem y_dup (C : CY l k nL cc own Ts lev rt R nc ns Qf) {v : Value} (d : decode cc pc = .ok (.dup, 1)) (hv : v.category = 1) (K : GW k T (pc + 1) lv (v :: v :: st)) : GW k T pc lv (v :: st) := by
  obtain ⟨p, e, s, args, below, meth, c, hw, hH, hx, hb, hml, hnL, hown, hts, hK, hA, hr, hlk, hRf, hRl, hRc, hRs⟩ := C
  intro H locs ls hP hD hS hl
  have K1 := K H locs ls hP hD hS hl
  rw [hw] at K1
  rw [hw]
  exact lv_dup hx hb d hv K1
theorem y_dup2 (C : CY l k nL cc own Ts lev rt R nc ns Qf) {v u : Value} (d : decode cc pc = .ok (.dup2, 1)) (hv : v.category = 1) (hu : u.category = 1) (K : GW k T (pc + 1) lv (v :: u :: v :: u :: st)) : GW k T pc lv (v :: u :: st) := by
  obtain ⟨p, e, s, args, below, meth, c, hw, hH, hx, hb, hml, hnL, hown, hts, hK, hA, hr, hlk, hRf, hRl, hRc, hRs⟩ := C
  intro H locs ls hP hD hS hl
  have K1 := K H locs ls hP hD hS hl
  rw [hw] at K1
  rw [hw]
  exact lv_dup2_11 hx hb d hv hu K1
theorem y_goto (C : CY l k nL cc own Ts lev rt R nc ns Qf) {off : Int} {tgt : Nat} (d : decode cc pc = .ok (.goto off, 3)) (ht : (pc : Int) + off = (tgt : Int)) (K : GW k T tgt lv (st)) : GW k T pc lv (st) := by
  obtain ⟨p, e, s, args, below, meth, c, hw, hH, hx, hb, hml, hnL, hown, hts, hK, hA, hr, hlk, hRf, hRl, hRc, hRs⟩ := C
  intro H locs ls hP hD hS hl
  have K1 := K H locs ls hP hD hS hl
  rw [hw] at K1
  rw [hw]
  exact lv_goto hx hb d ht K1
theorem y_istore_n (C : CY l k nL cc own Ts lev rt R nc ns Qf) {f : Fin 4} {i : Nat} {x : Int32} (d : decode cc pc = .ok (.istore_n f, 1)) (hi : (f : Nat) = i) {lv' : List (Nat × Value)} (hn : i < nL) (hl' : lvins (i, Value.int x) (lv.filter (fun q => !(q.1 == i) && !(q.1 + 1 == i && q.2.category == 2))) = lv') (K : GW k T (pc + 1) lv' st) : GW k T pc lv (Value.int x :: st) := by
  obtain ⟨p, e, s, args, below, meth, c, hw, hH, hx, hb, hml, hnL, hown, hts, hK, hA, hr, hlk, hRf, hRl, hRc, hRs⟩ := C
  intro H locs ls hP hD hS hl
  rw [hw]
  refine lv_istore_n hx hb d hi hl (hnL ▸ hn) rfl (fun ls2 hl2 => ?_)
  have K1 := K H locs ls2 hP hD hS (hl' ▸ lv_ins hl2)
  rw [hw] at K1
  exact K1
theorem y_istore (C : CY l k nL cc own Ts lev rt R nc ns Qf) {i : Nat} {x : Int32} (d : decode cc pc = .ok (.istore i, 2)) {lv' : List (Nat × Value)} (hn : i < nL) (hl' : lvins (i, Value.int x) (lv.filter (fun q => !(q.1 == i) && !(q.1 + 1 == i && q.2.category == 2))) = lv') (K : GW k T (pc + 2) lv' st) : GW k T pc lv (Value.int x :: st) := by
  obtain ⟨p, e, s, args, below, meth, c, hw, hH, hx, hb, hml, hnL, hown, hts, hK, hA, hr, hlk, hRf, hRl, hRc, hRs⟩ := C
  intro H locs ls hP hD hS hl
  rw [hw]
  refine lv_istore hx hb d hl (hnL ▸ hn) rfl (fun ls2 hl2 => ?_)
  have K1 := K H locs ls2 hP hD hS (hl' ▸ lv_ins hl2)
  rw [hw] at K1
  exact K1
theorem y_lstore_n (C : CY l k nL cc own Ts lev rt R nc ns Qf) {f : Fin 4} {i : Nat} {x : Int64} (d : decode cc pc = .ok (.lstore_n f, 1)) (hi : (f : Nat) = i) {lv' : List (Nat × Value)} (hn : i + 1 < nL) (hl' : lvins (i, Value.long x) (lv.filter (fun q => !(q.1 == i) && (!(q.1 == i + 1) && !(q.1 + 1 == i && q.2.category == 2)))) = lv') (K : GW k T (pc + 1) lv' st) : GW k T pc lv (Value.long x :: st) := by
  obtain ⟨p, e, s, args, below, meth, c, hw, hH, hx, hb, hml, hnL, hown, hts, hK, hA, hr, hlk, hRf, hRl, hRc, hRs⟩ := C
  intro H locs ls hP hD hS hl
  rw [hw]
  refine lv_lstore_n hx hb d hi hl (hnL ▸ hn) rfl (fun ls2 hl2 => ?_)
  have K1 := K H locs ls2 hP hD hS (hl' ▸ lv_ins hl2)
  rw [hw] at K1
  exact K1
theorem y_lstore (C : CY l k nL cc own Ts lev rt R nc ns Qf) {i : Nat} {x : Int64} (d : decode cc pc = .ok (.lstore i, 2)) {lv' : List (Nat × Value)} (hn : i + 1 < nL) (hl' : lvins (i, Value.long x) (lv.filter (fun q => !(q.1 == i) && (!(q.1 == i + 1) && !(q.1 + 1 == i && q.2.category == 2)))) = lv') (K : GW k T (pc + 2) lv' st) : GW k T pc lv (Value.long x :: st) := by
  obtain ⟨p, e, s, args, below, meth, c, hw, hH, hx, hb, hml, hnL, hown, hts, hK, hA, hr, hlk, hRf, hRl, hRc, hRs⟩ := C
  intro H locs ls hP hD hS hl
  rw [hw]
  refine lv_lstore hx hb d hl (hnL ▸ hn) rfl (fun ls2 hl2 => ?_)
  have K1 := K H locs ls2 hP hD hS (hl' ▸ lv_ins hl2)
  rw [hw] at K1
  exact K1
theorem y_astore_n (C : CY l k nL cc own Ts lev rt R nc ns Qf) {f : Fin 4} {i : Nat} {x : Nat} (d : decode cc pc = .ok (.astore_n f, 1)) (hi : (f : Nat) = i) {lv' : List (Nat × Value)} (hn : i < nL) (hl' : lvins (i, Value.ref x) (lv.filter (fun q => !(q.1 == i) && !(q.1 + 1 == i && q.2.category == 2))) = lv') (K : GW k T (pc + 1) lv' st) : GW k T pc lv (Value.ref x :: st) := by
  obtain ⟨p, e, s, args, below, meth, c, hw, hH, hx, hb, hml, hnL, hown, hts, hK, hA, hr, hlk, hRf, hRl, hRc, hRs⟩ := C
  intro H locs ls hP hD hS hl
  rw [hw]
  refine lv_astore_n hx hb d hi hl (hnL ▸ hn) rfl (fun ls2 hl2 => ?_)
  have K1 := K H locs ls2 hP hD hS (hl' ▸ lv_ins hl2)
  rw [hw] at K1
  exact K1
theorem y_astore (C : CY l k nL cc own Ts lev rt R nc ns Qf) {i : Nat} {x : Nat} (d : decode cc pc = .ok (.astore i, 2)) {lv' : List (Nat × Value)} (hn : i < nL) (hl' : lvins (i, Value.ref x) (lv.filter (fun q => !(q.1 == i) && !(q.1 + 1 == i && q.2.category == 2))) = lv') (K : GW k T (pc + 2) lv' st) : GW k T pc lv (Value.ref x :: st) := by
  obtain ⟨p, e, s, args, below, meth, c, hw, hH, hx, hb, hml, hnL, hown, hts, hK, hA, hr, hlk, hRf, hRl, hRc, hRs⟩ := C
  intro H locs ls hP hD hS hl
  rw [hw]
  refine lv_astore hx hb d hl (hnL ▸ hn) rfl (fun ls2 hl2 => ?_)
  have K1 := K H locs ls2 hP hD hS (hl' ▸ lv_ins hl2)
  rw [hw] at K1
  exact K1
theorem y_iinc (C : CY l k nL cc own Ts lev rt R nc ns Qf) {i j : Nat} {n : Int} {x v : Int32} (d : decode cc pc = .ok (.iinc i n, 3)) (hj : lv[j]? = some (i, .int x)) (hv : Int32.ofInt n = v) {lv' : List (Nat × Value)} (hn : i < nL) (hl' : lvins (i, Value.int (x + v)) (lv.filter (fun q => !(q.1 == i) && !(q.1 + 1 == i && q.2.category == 2))) = lv') (K : GW k T (pc + 3) lv' st) : GW k T pc lv st := by
  obtain ⟨p, e, s, args, below, meth, c, hw, hH, hx, hb, hml, hnL, hown, hts, hK, hA, hr, hlk, hRf, hRl, hRc, hRs⟩ := C
  intro H locs ls hP hD hS hl
  rw [hw]
  refine lv_iinc (v := x + v) hx hb d hl hj (by rw [hv]) (hnL ▸ hn) rfl (fun ls2 hl2 => ?_)
  have K1 := K H locs ls2 hP hD hS (hl' ▸ lv_ins hl2)
  rw [hw] at K1
  exact K1
theorem y_icmp_eq (C : CY l k nL cc own Ts lev rt R nc ns Qf) {off : Int} {tgt : Nat} {x y : Int32} (d : decode cc pc = .ok (.if_icmp .eq off, 3)) (ht : (pc : Int) + off = (tgt : Int)) [Decidable (x = y)] {A B : Option α} (h : (if x = y then A else B) = some z) (kt : x = y → A = some z → GW k T tgt lv st) (kf : ¬ (x = y) → B = some z → GW k T (pc + 3) lv st) : GW k T pc lv (.int y :: .int x :: st) := by
  obtain ⟨p, e, s, args, below, meth, c, hw, hH, hx, hb, hml, hnL, hown, hts, hK, hA, hr, hlk, hRf, hRl, hRc, hRs⟩ := C
  intro H locs ls hP hD hS hl
  rw [hw]
  refine lv_icmp_eq hx hb d ht (fun hc => ?_) (fun hc => ?_)
  · rw [if_pos hc] at h
    have K1 := kt hc h H locs ls hP hD hS hl
    rw [hw] at K1
    exact K1
  · rw [if_neg hc] at h
    have K1 := kf hc h H locs ls hP hD hS hl
    rw [hw] at K1
    exact K1
theorem y_if_eq (C : CY l k nL cc own Ts lev rt R nc ns Qf) {off : Int} {tgt : Nat} {x : Int32} (d : decode cc pc = .ok (.ifCond .eq off, 3)) (ht : (pc : Int) + off = (tgt : Int)) [Decidable (x = 0)] {A B : Option α} (h : (if x = 0 then A else B) = some z) (kt : x = 0 → A = some z → GW k T tgt lv st) (kf : ¬ (x = 0) → B = some z → GW k T (pc + 3) lv st) : GW k T pc lv (.int x :: st) := by
  obtain ⟨p, e, s, args, below, meth, c, hw, hH, hx, hb, hml, hnL, hown, hts, hK, hA, hr, hlk, hRf, hRl, hRc, hRs⟩ := C
  intro H locs ls hP hD hS hl
  rw [hw]
  refine lv_if_eq hx hb d ht (fun hc => ?_) (fun hc => ?_)
  · rw [if_pos hc] at h
    have K1 := kt hc h H locs ls hP hD hS hl
    rw [hw] at K1
    exact K1
  · rw [if_neg hc] at h
    have K1 := kf hc h H locs ls hP hD hS hl
    rw [hw] at K1
    exact K1
theorem y_icmp_ne (C : CY l k nL cc own Ts lev rt R nc ns Qf) {off : Int} {tgt : Nat} {x y : Int32} (d : decode cc pc = .ok (.if_icmp .ne off, 3)) (ht : (pc : Int) + off = (tgt : Int)) [Decidable (¬ x = y)] {A B : Option α} (h : (if ¬ x = y then A else B) = some z) (kt : ¬ x = y → A = some z → GW k T tgt lv st) (kf : x = y → B = some z → GW k T (pc + 3) lv st) : GW k T pc lv (.int y :: .int x :: st) := by
  obtain ⟨p, e, s, args, below, meth, c, hw, hH, hx, hb, hml, hnL, hown, hts, hK, hA, hr, hlk, hRf, hRl, hRc, hRs⟩ := C
  intro H locs ls hP hD hS hl
  rw [hw]
  refine lv_icmp_ne hx hb d ht (fun hc => ?_) (fun hc => ?_)
  · rw [if_pos hc] at h
    have K1 := kt hc h H locs ls hP hD hS hl
    rw [hw] at K1
    exact K1
  · rw [if_neg (fun q => q hc)] at h
    have K1 := kf hc h H locs ls hP hD hS hl
    rw [hw] at K1
    exact K1
theorem y_if_ne (C : CY l k nL cc own Ts lev rt R nc ns Qf) {off : Int} {tgt : Nat} {x : Int32} (d : decode cc pc = .ok (.ifCond .ne off, 3)) (ht : (pc : Int) + off = (tgt : Int)) [Decidable (¬ x = 0)] {A B : Option α} (h : (if ¬ x = 0 then A else B) = some z) (kt : ¬ x = 0 → A = some z → GW k T tgt lv st) (kf : x = 0 → B = some z → GW k T (pc + 3) lv st) : GW k T pc lv (.int x :: st) := by
  obtain ⟨p, e, s, args, below, meth, c, hw, hH, hx, hb, hml, hnL, hown, hts, hK, hA, hr, hlk, hRf, hRl, hRc, hRs⟩ := C
  intro H locs ls hP hD hS hl
  rw [hw]
  refine lv_if_ne hx hb d ht (fun hc => ?_) (fun hc => ?_)
  · rw [if_pos hc] at h
    have K1 := kt hc h H locs ls hP hD hS hl
    rw [hw] at K1
    exact K1
  · rw [if_neg (fun q => q hc)] at h
    have K1 := kf hc h H locs ls hP hD hS hl
    rw [hw] at K1
    exact K1
theorem y_icmp_lt (C : CY l k nL cc own Ts lev rt R nc ns Qf) {off : Int} {tgt : Nat} {x y : Int32} (d : decode cc pc = .ok (.if_icmp .lt off, 3)) (ht : (pc : Int) + off = (tgt : Int)) [Decidable (x < y)] {A B : Option α} (h : (if x < y then A else B) = some z) (kt : x < y → A = some z → GW k T tgt lv st) (kf : ¬ (x < y) → B = some z → GW k T (pc + 3) lv st) : GW k T pc lv (.int y :: .int x :: st) := by
  obtain ⟨p, e, s, args, below, meth, c, hw, hH, hx, hb, hml, hnL, hown, hts, hK, hA, hr, hlk, hRf, hRl, hRc, hRs⟩ := C
  intro H locs ls hP hD hS hl
  rw [hw]
  refine lv_icmp_lt hx hb d ht (fun hc => ?_) (fun hc => ?_)
  · rw [if_pos hc] at h
    have K1 := kt hc h H locs ls hP hD hS hl
    rw [hw] at K1
    exact K1
  · rw [if_neg hc] at h
    have K1 := kf hc h H locs ls hP hD hS hl
    rw [hw] at K1
    exact K1
theorem y_if_lt (C : CY l k nL cc own Ts lev rt R nc ns Qf) {off : Int} {tgt : Nat} {x : Int32} (d : decode cc pc = .ok (.ifCond .lt off, 3)) (ht : (pc : Int) + off = (tgt : Int)) [Decidable (x < 0)] {A B : Option α} (h : (if x < 0 then A else B) = some z) (kt : x < 0 → A = some z → GW k T tgt lv st) (kf : ¬ (x < 0) → B = some z → GW k T (pc + 3) lv st) : GW k T pc lv (.int x :: st) := by
  obtain ⟨p, e, s, args, below, meth, c, hw, hH, hx, hb, hml, hnL, hown, hts, hK, hA, hr, hlk, hRf, hRl, hRc, hRs⟩ := C
  intro H locs ls hP hD hS hl
  rw [hw]
  refine lv_if_lt hx hb d ht (fun hc => ?_) (fun hc => ?_)
  · rw [if_pos hc] at h
    have K1 := kt hc h H locs ls hP hD hS hl
    rw [hw] at K1
    exact K1
  · rw [if_neg hc] at h
    have K1 := kf hc h H locs ls hP hD hS hl
    rw [hw] at K1
    exact K1
theorem y_icmp_ge (C : CY l k nL cc own Ts lev rt R nc ns Qf) {off : Int} {tgt : Nat} {x y : Int32} (d : decode cc pc = .ok (.if_icmp .ge off, 3)) (ht : (pc : Int) + off = (tgt : Int)) [Decidable (y ≤ x)] {A B : Option α} (h : (if y ≤ x then A else B) = some z) (kt : y ≤ x → A = some z → GW k T tgt lv st) (kf : ¬ (y ≤ x) → B = some z → GW k T (pc + 3) lv st) : GW k T pc lv (.int y :: .int x :: st) := by
  obtain ⟨p, e, s, args, below, meth, c, hw, hH, hx, hb, hml, hnL, hown, hts, hK, hA, hr, hlk, hRf, hRl, hRc, hRs⟩ := C
  intro H locs ls hP hD hS hl
  rw [hw]
  refine lv_icmp_ge hx hb d ht (fun hc => ?_) (fun hc => ?_)
  · rw [if_pos hc] at h
    have K1 := kt hc h H locs ls hP hD hS hl
    rw [hw] at K1
    exact K1
  · rw [if_neg hc] at h
    have K1 := kf hc h H locs ls hP hD hS hl
    rw [hw] at K1
    exact K1
theorem y_if_ge (C : CY l k nL cc own Ts lev rt R nc ns Qf) {off : Int} {tgt : Nat} {x : Int32} (d : decode cc pc = .ok (.ifCond .ge off, 3)) (ht : (pc : Int) + off = (tgt : Int)) [Decidable (0 ≤ x)] {A B : Option α} (h : (if 0 ≤ x then A else B) = some z) (kt : 0 ≤ x → A = some z → GW k T tgt lv st) (kf : ¬ (0 ≤ x) → B = some z → GW k T (pc + 3) lv st) : GW k T pc lv (.int x :: st) := by
  obtain ⟨p, e, s, args, below, meth, c, hw, hH, hx, hb, hml, hnL, hown, hts, hK, hA, hr, hlk, hRf, hRl, hRc, hRs⟩ := C
  intro H locs ls hP hD hS hl
  rw [hw]
  refine lv_if_ge hx hb d ht (fun hc => ?_) (fun hc => ?_)
  · rw [if_pos hc] at h
    have K1 := kt hc h H locs ls hP hD hS hl
    rw [hw] at K1
    exact K1
  · rw [if_neg hc] at h
    have K1 := kf hc h H locs ls hP hD hS hl
    rw [hw] at K1
    exact K1
theorem y_icmp_gt (C : CY l k nL cc own Ts lev rt R nc ns Qf) {off : Int} {tgt : Nat} {x y : Int32} (d : decode cc pc = .ok (.if_icmp .gt off, 3)) (ht : (pc : Int) + off = (tgt : Int)) [Decidable (y < x)] {A B : Option α} (h : (if y < x then A else B) = some z) (kt : y < x → A = some z → GW k T tgt lv st) (kf : ¬ (y < x) → B = some z → GW k T (pc + 3) lv st) : GW k T pc lv (.int y :: .int x :: st) := by
  obtain ⟨p, e, s, args, below, meth, c, hw, hH, hx, hb, hml, hnL, hown, hts, hK, hA, hr, hlk, hRf, hRl, hRc, hRs⟩ := C
  intro H locs ls hP hD hS hl
  rw [hw]
  refine lv_icmp_gt hx hb d ht (fun hc => ?_) (fun hc => ?_)
  · rw [if_pos hc] at h
    have K1 := kt hc h H locs ls hP hD hS hl
    rw [hw] at K1
    exact K1
  · rw [if_neg hc] at h
    have K1 := kf hc h H locs ls hP hD hS hl
    rw [hw] at K1
    exact K1
theorem y_if_gt (C : CY l k nL cc own Ts lev rt R nc ns Qf) {off : Int} {tgt : Nat} {x : Int32} (d : decode cc pc = .ok (.ifCond .gt off, 3)) (ht : (pc : Int) + off = (tgt : Int)) [Decidable (0 < x)] {A B : Option α} (h : (if 0 < x then A else B) = some z) (kt : 0 < x → A = some z → GW k T tgt lv st) (kf : ¬ (0 < x) → B = some z → GW k T (pc + 3) lv st) : GW k T pc lv (.int x :: st) := by
  obtain ⟨p, e, s, args, below, meth, c, hw, hH, hx, hb, hml, hnL, hown, hts, hK, hA, hr, hlk, hRf, hRl, hRc, hRs⟩ := C
  intro H locs ls hP hD hS hl
  rw [hw]
  refine lv_if_gt hx hb d ht (fun hc => ?_) (fun hc => ?_)
  · rw [if_pos hc] at h
    have K1 := kt hc h H locs ls hP hD hS hl
    rw [hw] at K1
    exact K1
  · rw [if_neg hc] at h
    have K1 := kf hc h H locs ls hP hD hS hl
    rw [hw] at K1
    exact K1
theorem y_icmp_le (C : CY l k nL cc own Ts lev rt R nc ns Qf) {off : Int} {tgt : Nat} {x y : Int32} (d : decode cc pc = .ok (.if_icmp .le off, 3)) (ht : (pc : Int) + off = (tgt : Int)) [Decidable (x ≤ y)] {A B : Option α} (h : (if x ≤ y then A else B) = some z) (kt : x ≤ y → A = some z → GW k T tgt lv st) (kf : ¬ (x ≤ y) → B = some z → GW k T (pc + 3) lv st) : GW k T pc lv (.int y :: .int x :: st) := by
  obtain ⟨p, e, s, args, below, meth, c, hw, hH, hx, hb, hml, hnL, hown, hts, hK, hA, hr, hlk, hRf, hRl, hRc, hRs⟩ := C
  intro H locs ls hP hD hS hl
  rw [hw]
  refine lv_icmp_le hx hb d ht (fun hc => ?_) (fun hc => ?_)
  · rw [if_pos hc] at h
    have K1 := kt hc h H locs ls hP hD hS hl
    rw [hw] at K1
    exact K1
  · rw [if_neg hc] at h
    have K1 := kf hc h H locs ls hP hD hS hl
    rw [hw] at K1
    exact K1
theorem y_if_le (C : CY l k nL cc own Ts lev rt R nc ns Qf) {off : Int} {tgt : Nat} {x : Int32} (d : decode cc pc = .ok (.ifCond .le off, 3)) (ht : (pc : Int) + off = (tgt : Int)) [Decidable (x ≤ 0)] {A B : Option α} (h : (if x ≤ 0 then A else B) = some z) (kt : x ≤ 0 → A = some z → GW k T tgt lv st) (kf : ¬ (x ≤ 0) → B = some z → GW k T (pc + 3) lv st) : GW k T pc lv (.int x :: st) := by
  obtain ⟨p, e, s, args, below, meth, c, hw, hH, hx, hb, hml, hnL, hown, hts, hK, hA, hr, hlk, hRf, hRl, hRc, hRs⟩ := C
  intro H locs ls hP hD hS hl
  rw [hw]
  refine lv_if_le hx hb d ht (fun hc => ?_) (fun hc => ?_)
  · rw [if_pos hc] at h
    have K1 := kt hc h H locs ls hP hD hS hl
    rw [hw] at K1
    exact K1
  · rw [if_neg hc] at h
    have K1 := kf hc h H locs ls hP hD hS hl
    rw [hw] at K1
    exact K1
theorem y_get (C : CY l k nL cc own Ts lev rt R nc ns Qf) {Cn ref : String} {Tn : u_T} {N ci i q0 j a : Nat} {fs : List Value} {v : Value} (d : decode cc pc = .ok (.getfield i, 3)) (he : (wsT k.1 T)[q0]? = some (a, .inr (ci, fs))) (hc : vwCl[ci]? = some (Cn, Tn, N)) (hj : j < N) (hv : fs[j]? = some v) (hin : ∀ w ∈ u_ws Cn Tn N, w ∈ Ts) (hlk : Cond.fieldLink own i ref (Tn j).2.1 (Tn j).2.2.1 ∈ Ts) (hs : (Tn j).1 = ref) (K : GW k T (pc + 3) lv (v :: st)) : GW k T pc lv (.ref a :: st) := by
  obtain ⟨p, e, s, args, below, meth, c, hw, hH, hx, hb, hml, hnL, hown, hts, hK, hA, hr, hlk2, hRf, hRl, hRc, hRs⟩ := C
  intro H locs ls hP hD hS hl
  have K1 := K H locs ls hP hD hS hl
  rw [hw] at K1 ⊢
  exact va_get hx hb hts hin hown hK.1 hP q0 he hc j hj (hts _ hlk) (fun x h => hs ▸ h) hv d K1
theorem y_putI (C : CY l k nL cc own Ts lev rt R nc ns Qf) {Cn ref : String} {Tn : u_T} {N ci i q0 j a ix : Nat} {fs : List Value} {v : Int32} (d : decode cc pc = .ok (.putfield i, 3)) (he : (wsT k.1 T)[q0]? = some (a, .inr (ci, fs))) (hset : (wsT k.1 T).set q0 (a, .inr (ci, fs.set j (.int v))) = wsT k.1 (uI T ix v)) (hc : vwCl[ci]? = some (Cn, Tn, N)) (hj : j < N) (hl2 : j < fs.length) (ty0 : Nat → FieldType) (hty : ∀ k, k < N → parseFieldDescriptor (Tn k).2.2.1 = some (ty0 k)) (hnm : ∀ a, a < N → ∀ b, b < N → a ≠ b → (Tn a).2.1 ≠ (Tn b).2.1) (hin : ∀ w ∈ u_ws Cn Tn N, w ∈ Ts) (hlk : Cond.fieldLink own i ref (Tn j).2.1 (Tn j).2.2.1 ∈ Ts) (hs : (Tn j).1 = ref) (hfin : (Tn j).2.2.2 = false) {ty : FieldType} (hd : parseFieldDescriptor (Tn j).2.2.1 = some ty) (hn : narrow ty (.int v) = .int v) (hfit : fits ty (.int v) = true) {f : TS → Option α} (h : nm (uI T ix v) f = some z) (K : ∀ T1, f T1 = some z → GW k T1 (pc + 3) lv st) : GW k T pc lv (.int v :: .ref a :: st) := by
  obtain ⟨p, e, s, args, below, meth, c, hw, hH, hx, hb, hml, hnL, hown, hts, hK, hA, hr, hlk2, hRf, hRl, hRc, hRs⟩ := C
  intro H locs ls hP hD hS hl
  rw [hw]
  refine va_put hx hb hts hin ty0 hty hnm hown hK.1 hP hD hS q0 he hc j hj (hts _ hlk) (fun x h => hs ▸ h) hfin hd hn hfit hl2 d (fun H1 locs1 hP1 hD1 hS1 => ?_)
  rw [hset] at hP1 hD1
  have K1 := K _ h H1 locs1 ls hP1 hD1 hS1 hl
  rw [hw] at K1
  exact K1
theorem y_putJ (C : CY l k nL cc own Ts lev rt R nc ns Qf) {Cn ref : String} {Tn : u_T} {N ci i q0 j a ix : Nat} {fs : List Value} {v : Int64} (d : decode cc pc = .ok (.putfield i, 3)) (he : (wsT k.1 T)[q0]? = some (a, .inr (ci, fs))) (hset : (wsT k.1 T).set q0 (a, .inr (ci, fs.set j (.long v))) = wsT k.1 (uJ T ix v)) (hc : vwCl[ci]? = some (Cn, Tn, N)) (hj : j < N) (hl2 : j < fs.length) (ty0 : Nat → FieldType) (hty : ∀ k, k < N → parseFieldDescriptor (Tn k).2.2.1 = some (ty0 k)) (hnm : ∀ a, a < N → ∀ b, b < N → a ≠ b → (Tn a).2.1 ≠ (Tn b).2.1) (hin : ∀ w ∈ u_ws Cn Tn N, w ∈ Ts) (hlk : Cond.fieldLink own i ref (Tn j).2.1 (Tn j).2.2.1 ∈ Ts) (hs : (Tn j).1 = ref) (hfin : (Tn j).2.2.2 = false) (hd : parseFieldDescriptor (Tn j).2.2.1 = some .long) {f : TS → Option α} (h : nm (uJ T ix v) f = some z) (K : ∀ T1, f T1 = some z → GW k T1 (pc + 3) lv st) : GW k T pc lv (.long v :: .ref a :: st) := by
  obtain ⟨p, e, s, args, below, meth, c, hw, hH, hx, hb, hml, hnL, hown, hts, hK, hA, hr, hlk2, hRf, hRl, hRc, hRs⟩ := C
  intro H locs ls hP hD hS hl
  rw [hw]
  refine va_put hx hb hts hin ty0 hty hnm hown hK.1 hP hD hS q0 he hc j hj (hts _ hlk) (fun x h => hs ▸ h) hfin hd rfl rfl hl2 d (fun H1 locs1 hP1 hD1 hS1 => ?_)
  rw [hset] at hP1 hD1
  have K1 := K _ h H1 locs1 ls hP1 hD1 hS1 hl
  rw [hw] at K1
  exact K1
theorem y_iald (C : CY l k nL cc own Ts lev rt R nc ns Qf) (d : decode cc pc = .ok (.iaload, 1)) {q0 a n : Nat} {g : Nat → Int32} (he : (wsT k.1 T)[q0]? = some (a, .inl (xI k.1, n, .inl g))) {i : Int32} {A : Option α} (h : ck i n A = some z) (K : A = some z → GW k T (pc + 1) lv (.int (g i.toNatClampNeg) :: st)) : GW k T pc lv (.int i :: .ref a :: st) := by
  obtain ⟨p, e, s, args, below, meth, c, hw, hH, hx, hb, hml, hnL, hown, hts, hK, hA, hr, hlk, hRf, hRl, hRc, hRs⟩ := C
  intro H locs ls hP hD hS hl
  obtain ⟨h1, h2⟩ := ck_some h
  have K1 := K h2 H locs ls hP hD hS hl
  rw [hw] at K1 ⊢
  exact va_iald hx hb hK.1 hP q0 0 he rfl h1 d K1
theorem y_zald (C : CY l k nL cc own Ts lev rt R nc ns Qf) (d : decode cc pc = .ok (.baload, 1)) {q0 a n : Nat} {g : Nat → Int32} (he : (wsT k.1 T)[q0]? = some (a, .inl (xZ k.1, n, .inl g))) {i : Int32} {A : Option α} (h : ck i n A = some z) (K : A = some z → GW k T (pc + 1) lv (.int (g i.toNatClampNeg) :: st)) : GW k T pc lv (.int i :: .ref a :: st) := by
  obtain ⟨p, e, s, args, below, meth, c, hw, hH, hx, hb, hml, hnL, hown, hts, hK, hA, hr, hlk, hRf, hRl, hRc, hRs⟩ := C
  intro H locs ls hP hD hS hl
  obtain ⟨h1, h2⟩ := ck_some h
  have K1 := K h2 H locs ls hP hD hS hl
  rw [hw] at K1 ⊢
  exact va_zald hx hb hK.1 hP q0 2 he rfl h1 d K1
theorem y_lald (C : CY l k nL cc own Ts lev rt R nc ns Qf) (d : decode cc pc = .ok (.laload, 1)) {q0 a n : Nat} {g : Nat → Int64} (he : (wsT k.1 T)[q0]? = some (a, .inl (xJ k.1, n, .inr (.inl g)))) {i : Int32} {A : Option α} (h : ck i n A = some z) (K : A = some z → GW k T (pc + 1) lv (.long (g i.toNatClampNeg) :: st)) : GW k T pc lv (.int i :: .ref a :: st) := by
  obtain ⟨p, e, s, args, below, meth, c, hw, hH, hx, hb, hml, hnL, hown, hts, hK, hA, hr, hlk, hRf, hRl, hRc, hRs⟩ := C
  intro H locs ls hP hD hS hl
  obtain ⟨h1, h2⟩ := ck_some h
  have K1 := K h2 H locs ls hP hD hS hl
  rw [hw] at K1 ⊢
  exact va_lald hx hb hK.1 hP q0 1 he rfl h1 d K1
theorem y_aald (C : CY l k nL cc own Ts lev rt R nc ns Qf) (d : decode cc pc = .ok (.aaload, 1)) {q0 a n : Nat} {g : Nat → Nat} (he : (wsT k.1 T)[q0]? = some (a, .inl (xO k.1, n, .inr (.inr (.inr (.inr (fun i => some (ad k.1 (g i))))))))) {i : Int32} {A : Option α} (h : ck i n A = some z) (K : A = some z → GW k T (pc + 1) lv (.ref (ad k.1 (g i.toNatClampNeg)) :: st)) : GW k T pc lv (.int i :: .ref a :: st) := by
  obtain ⟨p, e, s, args, below, meth, c, hw, hH, hx, hb, hml, hnL, hown, hts, hK, hA, hr, hlk, hRf, hRl, hRc, hRs⟩ := C
  intro H locs ls hP hD hS hl
  obtain ⟨h1, h2⟩ := ck_some h
  have K1 := K h2 H locs ls hP hD hS hl
  rw [hw] at K1 ⊢
  have hlt : i.toNatClampNeg < n := Nat.not_le.mp fun q => h1 (Or.inr q)
  exact W.aald (v := .ref (ad k.1 (g i.toNatClampNeg))) (ty := .array .int) hx hb (hP q0 _ he) ((hK.1.2 3 _ rfl).1 n (fun j => va_rf (some (ad k.1 (g j))))) rfl (fun q => by cases q) (by show ¬ (i < 0 ∨ (arrV _ _ _).slots.size ≤ _); rw [arrV_size]; exact h1) (by show (arrV _ _ _).slots[_]? = _; rw [arrV_read _ _ hlt]; rfl) rfl rfl d K1
theorem y_alen (C : CY l k nL cc own Ts lev rt R nc ns Qf) (d : decode cc pc = .ok (.arraylength, 1)) {q0 a n : Nat} {g : Nat → Int32} (he : (wsT k.1 T)[q0]? = some (a, .inl (xI k.1, n, .inl g))) {v : Int32} (hv : Int32.ofNat n = v) (K : GW k T (pc + 1) lv (.int v :: st)) : GW k T pc lv (.ref a :: st) := by
  obtain ⟨p, e, s, args, below, meth, c, hw, hH, hx, hb, hml, hnL, hown, hts, hK, hA, hr, hlk, hRf, hRl, hRc, hRs⟩ := C
  intro H locs ls hP hD hS hl
  have K1 := K H locs ls hP hD hS hl
  rw [hw] at K1 ⊢
  exact va_alen hx hb hK.1 hP q0 0 he rfl hv d K1
theorem y_iast (C : CY l k nL cc own Ts lev rt R nc ns Qf) (d : decode cc pc = .ok (.iastore, 1)) {q0 n : Nat} (he : (wsT k.1 T)[q0]? = some (ad k.1 q0, .inl (xI k.1, n, .inl (gA T q0)))) (hset : ∀ f, (wsT k.1 T).set q0 (ad k.1 q0, .inl (xI k.1, n, .inl f)) = wsT k.1 (uA T q0 f)) {i x : Int32} {f : TS → Option α} (h : ck i n (nm (sA T q0 i x) f) = some z) (K : ∀ T1, f T1 = some z → GW k T1 (pc + 1) lv st) : GW k T pc lv (.int x :: .int i :: .ref (ad k.1 q0) :: st) := by
  obtain ⟨p, e, s, args, below, meth, c, hw, hH, hx, hb, hml, hnL, hown, hts, hK, hA, hr, hlk, hRf, hRl, hRc, hRs⟩ := C
  intro H locs ls hP hD hS hl
  obtain ⟨h1, h2⟩ := ck_some h
  rw [hw]
  refine va_iast hx hb hK.1 hP hD hS q0 0 he rfl h1 d (fun H1 locs1 hP1 hD1 hS1 => ?_)
  rw [hset] at hP1 hD1
  have K1 := K _ h2 H1 locs1 ls hP1 hD1 hS1 hl
  rw [hw] at K1
  exact K1
theorem y_zast (C : CY l k nL cc own Ts lev rt R nc ns Qf) (d : decode cc pc = .ok (.bastore, 1)) {q0 n : Nat} (he : (wsT k.1 T)[q0]? = some (ad k.1 q0, .inl (xZ k.1, n, .inl (gA T q0)))) (hset : ∀ f, (wsT k.1 T).set q0 (ad k.1 q0, .inl (xZ k.1, n, .inl f)) = wsT k.1 (uA T q0 f)) {i x : Int32} {f : TS → Option α} (h : ck i n (nm (sZ T q0 i x) f) = some z) (K : ∀ T1, f T1 = some z → GW k T1 (pc + 1) lv st) : GW k T pc lv (.int x :: .int i :: .ref (ad k.1 q0) :: st) := by
  obtain ⟨p, e, s, args, below, meth, c, hw, hH, hx, hb, hml, hnL, hown, hts, hK, hA, hr, hlk, hRf, hRl, hRc, hRs⟩ := C
  intro H locs ls hP hD hS hl
  obtain ⟨h1, h2⟩ := ck_some h
  rw [hw]
  refine va_zast hx hb hK.1 hP hD hS q0 2 he rfl h1 d (fun H1 locs1 hP1 hD1 hS1 => ?_)
  rw [hset] at hP1 hD1
  have K1 := K _ h2 H1 locs1 ls hP1 hD1 hS1 hl
  rw [hw] at K1
  exact K1
theorem y_last (C : CY l k nL cc own Ts lev rt R nc ns Qf) (d : decode cc pc = .ok (.lastore, 1)) {q0 n : Nat} (he : (wsT k.1 T)[q0]? = some (ad k.1 q0, .inl (xJ k.1, n, .inr (.inl (gL T q0))))) (hset : ∀ f, (wsT k.1 T).set q0 (ad k.1 q0, .inl (xJ k.1, n, .inr (.inl f))) = wsT k.1 (uL T q0 f)) {i : Int32} {x : Int64} {f : TS → Option α} (h : ck i n (nm (sL T q0 i x) f) = some z) (K : ∀ T1, f T1 = some z → GW k T1 (pc + 1) lv st) : GW k T pc lv (.long x :: .int i :: .ref (ad k.1 q0) :: st) := by
  obtain ⟨p, e, s, args, below, meth, c, hw, hH, hx, hb, hml, hnL, hown, hts, hK, hA, hr, hlk, hRf, hRl, hRc, hRs⟩ := C
  intro H locs ls hP hD hS hl
  obtain ⟨h1, h2⟩ := ck_some h
  rw [hw]
  refine va_last hx hb hK.1 hP hD hS q0 1 he rfl h1 d (fun H1 locs1 hP1 hD1 hS1 => ?_)
  rw [hset] at hP1 hD1
  have K1 := K _ h2 H1 locs1 ls hP1 hD1 hS1 hl
  rw [hw] at K1
  exact K1
theorem y_ialdG (C : CY l k nL cc own Ts lev rt R nc ns Qf) (d : decode cc pc = .ok (.iaload, 1)) {q : Nat} {i : Int32} {A : Option α} (h : ak q (ck i (al q) A) = some z) (K : A = some z → GW k T (pc + 1) lv (.int (gA T q i.toNatClampNeg) :: st)) : GW k T pc lv (.int i :: .ref (ad k.1 q) :: st) := by
  obtain ⟨h1, h2⟩ := ak_some h
  exact y_iald C d (wG_at k.1 T h1) h2 K
theorem y_iastG (C : CY l k nL cc own Ts lev rt R nc ns Qf) (d : decode cc pc = .ok (.iastore, 1)) {q : Nat} {i x : Int32} {f : TS → Option α} (h : ak q (ck i (al q) (nm (sA T q i x) f)) = some z) (K : ∀ T1, f T1 = some z → GW k T1 (pc + 1) lv st) : GW k T pc lv (.int x :: .int i :: .ref (ad k.1 q) :: st) := by
  obtain ⟨h1, h2⟩ := ak_some h
  exact y_iast C d (wG_at k.1 T h1) (wG_set k.1 T h1) h2 K
theorem y_aast (C : CY l k nL cc own Ts lev rt R nc ns Qf) (d : decode cc pc = .ok (.aastore, 1)) {q0 n q : Nat} (he : (wsT k.1 T)[q0]? = some (ad k.1 q0, .inl (xO k.1, n, .inr (.inr (.inr (.inr (fun i => some (ad k.1 (gO T q0 i))))))))) (hset : ∀ f : Nat → Nat, (wsT k.1 T).set q0 (ad k.1 q0, .inl (xO k.1, n, .inr (.inr (.inr (.inr (fun i => some (ad k.1 (f i)))))))) = wsT k.1 (uO T q0 f)) {i : Int32} {f : TS → Option α} (h : ak q (ck i n (nm (sO T q0 i q) f)) = some z) (K : ∀ T1, f T1 = some z → GW k T1 (pc + 1) lv st) : GW k T pc lv (.ref (ad k.1 q) :: .int i :: .ref (ad k.1 q0) :: st) := by
  obtain ⟨p, e, s, args, below, meth, c, hw, hH, hx, hb, hml, hnL, hown, hts, hK, hA, hr, hlk, hRf, hRl, hRc, hRs⟩ := C
  intro H locs ls hP hD hS hl
  obtain ⟨h0, h⟩ := ak_some h
  obtain ⟨h1, h2⟩ := ck_some h
  have hlt : i.toNatClampNeg < n := Nat.not_le.mp fun q => h1 (Or.inr q)
  obtain ⟨kA, kc, k1, k2, k3⟩ := hK.2.1
  rw [hw]
  refine W.aast hx hb (hP q0 _ he) (fun q h => by cases h) (fun h => by cases h) k1 k2 rfl k3 ⟨fun q => h1 (Or.inl q), by show _ < (arrV _ _ _).slots.size; rw [arrV_size]; exact hlt⟩ (hP q _ (wG_at k.1 T h0)) (fun q h => by cases h) k3 (show s.vm.assignable (xI k.1) (xI k.1) = true by unfold Vm.assignable Vm.assignableAux; rw [show (xI k.1 == xI k.1) = true from beq_self_eq_true _, Bool.true_or]) rfl rfl d fun H1 e1 z1 oq => ?_
  have hP1 := hP.set (e := .inl (xO k.1, n, .inr (.inr (.inr (.inr (fun j => some (ad k.1 (va_up (gO T q0) i.toNatClampNeg q j)))))))) hD he (by
    show H1[ad k.1 q0]? = some (vp_cell _ _)
    rw [e1]
    rw [vp_cell_q, vp_cell_q, arrV_store]
    congr 2
    funext j
    by_cases hq : j = i.toNatClampNeg
    · subst hq
      simp [updV, va_up, va_rf]
    · simp [updV, va_up, va_rf, hq]) oq
  have hD1 := hD.set (e := .inl (xO k.1, n, .inr (.inr (.inr (.inr (fun j => some (ad k.1 (va_up (gO T q0) i.toNatClampNeg q j)))))))) he
  rw [hset] at hP1 hD1
  have K1 := K _ h2 H1 (locs ++ [⟨ad k.1 q0, i.toNatClampNeg⟩]) ls hP1 hD1 (hS.put z1 oq (hD.2 q0 _ he)) hl
  rw [hw] at K1
  exact K1
theorem y_idiv (C : CY l k nL cc own Ts lev rt R nc ns Qf) {x y : Int32} (d : decode cc pc = .ok (.idiv, 1)) {A : Option α} (h : nz y A = some z) (K : A = some z → GW k T (pc + 1) lv (.int (x / y) :: st)) : GW k T pc lv (.int y :: .int x :: st) := by
  obtain ⟨p, e, s, args, below, meth, c, hw, hH, hx, hb, hml, hnL, hown, hts, hK, hA, hr, hlk, hRf, hRl, hRc, hRs⟩ := C
  intro H locs ls hP hD hS hl
  obtain ⟨h1, h2⟩ := nz_some h
  have K1 := K h2 H locs ls hP hD hS hl
  rw [hw] at K1 ⊢
  exact lv_idiv hx hb d h1 K1
theorem y_irem (C : CY l k nL cc own Ts lev rt R nc ns Qf) {x y : Int32} (d : decode cc pc = .ok (.irem, 1)) {A : Option α} (h : nz y A = some z) (K : A = some z → GW k T (pc + 1) lv (.int (x - x / y * y) :: st)) : GW k T pc lv (.int y :: .int x :: st) := by
  obtain ⟨p, e, s, args, below, meth, c, hw, hH, hx, hb, hml, hnL, hown, hts, hK, hA, hr, hlk, hRf, hRl, hRc, hRs⟩ := C
  intro H locs ls hP hD hS hl
  obtain ⟨h1, h2⟩ := nz_some h
  have K1 := K h2 H locs ls hP hD hS hl
  rw [hw] at K1 ⊢
  exact lv_irem hx hb d h1 K1
theorem y_ldiv (C : CY l k nL cc own Ts lev rt R nc ns Qf) {x y : Int64} (d : decode cc pc = .ok (.ldiv, 1)) {A : Option α} (h : nzl y A = some z) (K : A = some z → GW k T (pc + 1) lv (.long (x / y) :: st)) : GW k T pc lv (.long y :: .long x :: st) := by
  obtain ⟨p, e, s, args, below, meth, c, hw, hH, hx, hb, hml, hnL, hown, hts, hK, hA, hr, hlk, hRf, hRl, hRc, hRs⟩ := C
  intro H locs ls hP hD hS hl
  obtain ⟨h1, h2⟩ := nzl_some h
  have K1 := K h2 H locs ls hP hD hS hl
  rw [hw] at K1 ⊢
  exact lv_ldiv hx hb d h1 K1
theorem y_mmax (C : CY l k nL cc own Ts lev rt R nc ns Qf) {x y : Int32} {i : Nat} (d : decode cc pc = .ok (.invokestatic i, 3)) (h1 : Cond.methodLink own i Lib.Math.max.name ∈ Ts) (h2 : Cond.static Lib.Math.max.name ∈ Ts) (h3 : Cond.initialized "java/lang/Math" ∈ Ts) (h4 : Cond.code Lib.Math.max.name Lib.Math.max.code 2 (some .int) ∈ Ts) (hlev : 1 ≤ lev) (hroom : (st.map fun v => v.category).sum ≤ 8) (K : GW k T (pc + 3) lv (.int (imax x y) :: st)) : GW k T pc lv (.int y :: .int x :: st) := by
  obtain ⟨p, e, s, args, below, meth, c, hw, hH, hx, hb, hml, hnL, hown, hts, hK, hA, hr, hlk, hRf, hRl, hRc, hRs⟩ := C
  intro H locs ls hP hD hS hl
  have K1 := K H locs ls hP hD hS hl
  rw [hw] at K1 ⊢
  exact va_mmax hx hb (by rw [hml, hl.1, hnL]) hown (hts _ h1) (hts _ h2) (hts _ h3) (hts _ h4) (Nat.le_trans hlev hRf) (Nat.le_trans (show _ + 13 ≤ 60 * lev by omega) hRl) hRc hRs d K1
theorem y_mmin (C : CY l k nL cc own Ts lev rt R nc ns Qf) {x y : Int32} {i : Nat} (d : decode cc pc = .ok (.invokestatic i, 3)) (h1 : Cond.methodLink own i Lib.Math.min.name ∈ Ts) (h2 : Cond.static Lib.Math.min.name ∈ Ts) (h3 : Cond.initialized "java/lang/Math" ∈ Ts) (h4 : Cond.code Lib.Math.min.name Lib.Math.min.code 2 (some .int) ∈ Ts) (hlev : 1 ≤ lev) (hroom : (st.map fun v => v.category).sum ≤ 8) (K : GW k T (pc + 3) lv (.int (imin x y) :: st)) : GW k T pc lv (.int y :: .int x :: st) := by
  obtain ⟨p, e, s, args, below, meth, c, hw, hH, hx, hb, hml, hnL, hown, hts, hK, hA, hr, hlk, hRf, hRl, hRc, hRs⟩ := C
  intro H locs ls hP hD hS hl
  have K1 := K H locs ls hP hD hS hl
  rw [hw] at K1 ⊢
  exact va_mmin hx hb (by rw [hml, hl.1, hnL]) hown (hts _ h1) (hts _ h2) (hts _ h3) (hts _ h4) (Nat.le_trans hlev hRf) (Nat.le_trans (show _ + 13 ≤ 60 * lev by omega) hRl) hRc hRs d K1
theorem y_mminL (C : CY l k nL cc own Ts lev rt R nc ns Qf) {x y : Int64} {i : Nat} (d : decode cc pc = .ok (.invokestatic i, 3)) (h1 : Cond.methodLink own i Lib.MathLoose.min_long.x ∈ Ts) (h2 : Cond.static Lib.MathLoose.min_long.x ∈ Ts) (h3 : Cond.initialized "java/lang/Math" ∈ Ts) (h4 : Cond.code Lib.MathLoose.min_long.x Lib.MathLoose.min_long.code 4 (some .long) ∈ Ts) (hlev : 1 ≤ lev) (hroom : (st.map fun v => v.category).sum ≤ 8) (K : GW k T (pc + 3) lv (.long (lmin x y) :: st)) : GW k T pc lv (.long y :: .long x :: st) := by
  obtain ⟨p, e, s, args, below, meth, c, hw, hH, hx, hb, hml, hnL, hown, hts, hK, hA, hr, hlk, hRf, hRl, hRc, hRs⟩ := C
  intro H locs ls hP hD hS hl
  have K1 := K H locs ls hP hD hS hl
  rw [hw] at K1 ⊢
  exact va_mmin_long hx hb (by rw [hml, hl.1, hnL]) hown (hts _ h1) (hts _ h2) (hts _ h3) (hts _ h4) (Nat.le_trans hlev hRf) (Nat.le_trans (show _ + 15 ≤ 60 * lev by omega) hRl) hRc hRs d K1
theorem y_tswIn (C : CY l k nL cc own Ts lev rt R nc ns Qf) {dflt lo hi off : Int} {offs : Array Int} {len tgt : Nat} {x v : Int32} (d : decode cc pc = .ok (.tableswitch dflt lo hi offs, len)) (hx : x = v) (h1 : ¬ v.toInt < lo) (h2 : ¬ hi < v.toInt) (ho : offs[(v.toInt - lo).toNat]? = some off) (ht : (pc : Int) + off = (tgt : Int)) (K : GW k T tgt lv st) : GW k T pc lv (.int x :: st) := by
  obtain ⟨p, e, s, args, below, meth, c, hw, hH, hx2, hb, hml, hnL, hown, hts, hK, hA, hr, hlk, hRf, hRl, hRc, hRs⟩ := C
  subst hx
  intro H locs ls hP hD hS hl
  have K1 := K H locs ls hP hD hS hl
  rw [hw] at K1 ⊢
  exact lv_tableIn hx2 hb d h1 h2 ho ht K1
theorem y_tswOut (C : CY l k nL cc own Ts lev rt R nc ns Qf) {dflt lo hi : Int} {offs : Array Int} {len tgt : Nat} {x : Int32} (d : decode cc pc = .ok (.tableswitch dflt lo hi offs, len)) (h1 : x.toInt < lo ∨ hi < x.toInt) (ht : (pc : Int) + dflt = (tgt : Int)) (K : GW k T tgt lv st) : GW k T pc lv (.int x :: st) := by
  obtain ⟨p, e, s, args, below, meth, c, hw, hH, hx2, hb, hml, hnL, hown, hts, hK, hA, hr, hlk, hRf, hRl, hRc, hRs⟩ := C
  intro H locs ls hP hD hS hl
  have K1 := K H locs ls hP hD hS hl
  rw [hw] at K1 ⊢
  exact lv_tableOut hx2 hb d h1 ht K1
theorem y_callV (C : CY l k nL cc own Ts lev rt R nc ns Qf) {i : Nat} (d : decode cc pc = .ok (.invokevirtual i, 3)) {y : MethodName} {bytes : ByteArray} {maxL lv2 n q0 ci N b : Nat} {ret : Option FieldType} {ws ws' : List Cond} {Cn : String} {Tn : u_T} {fs : List Value} (As rest : List Value) {v : Option Value} {T1 : TS} {st' : List Value} (hM : Met l y ws (RM lv2) (PreX k.1 (.ref b :: As) T) (QQ k.1 v T1) 0 0 (xA k.1)) (hg : GoodIn Ts (wsV own i Cn y ws)) (hws : ws = Cond.code y bytes maxL ret :: ws') (hd : y.cls = Cn ∧ y.cls ≠ "java/lang/invoke/MethodHandle" ∧ y.cls ≠ "java/lang/invoke/VarHandle" ∧ (parseMethodDescriptor y.desc).map (fun d => d.parameters.length) = some n) (hlev : lv2 + 1 ≤ lev) (hmx : maxL ≤ 41) (he : (wsT k.1 T)[q0]? = some (b, .inr (ci, fs))) (hc : vwCl[ci]? = some (Cn, Tn, N)) (hn : As.length = n) (hst : st = As.reverse ++ .ref b :: rest) (hroom : (rest.map fun v => v.category).sum ≤ 8) (hst' : v.toList ++ rest = st') (K : GW k T1 (pc + 3) lv st') : GW k T pc lv st := by
  obtain ⟨p, e, s, args, below, meth, c, hw, hH, hx, hb, hml, hnL, hown, hts, hK, hA, hr, hlk, hRf, hRl, hRc, hRs⟩ := C
  intro H locs ls hP hD hS hl
  rw [hw]
  intro T0 hT X0
  obtain ⟨v', st₀, t, T', L, h0, X', hL, e1, e2, ⟨⟨hv, hwat⟩, hF⟩, stp⟩ := va_runV (R := R) (As := As) (rest := rest) ⟨hx, hb, hml, hown, hts⟩ hM (cwV n hts hg hws rfl rfl hd ⟨Nat.le_trans hlev hRf, Nat.le_trans (show 8 + (maxL + 11) + 60 * lv2 ≤ 60 * lev by omega) hRl⟩) ⟨preX_blind _ _ _, va_recv hK.1 hP hc he, fun U hU hW => ⟨rfl, ⟨by rw [hU]; exact hP, hD⟩, hK.warm hW, fun q hq => hA q (Nat.le_trans (hH ▸ hS.1) (hU ▸ hq))⟩⟩ (g := F0 k.2.2.2.2 pc ls st) rfl hn (hl.1.trans hnL) hst (lv_room hroom) d ⟨hRc, hRs⟩ T0 hT X0
  cases hv
  subst hst'
  have hz : st₀.heap.size ≤ t.heap.size := hF.1
  have hk1 := hF.2
  rw [h0] at hz hk1
  have K1 := K T'.heap (locs ++ L) ls (by rw [e1]; exact hwat.1) hwat.2 ⟨Nat.le_trans hS.1 (by rw [e1]; exact hz), fun q h1 h2 => by rw [e1, hk1 q (Nat.lt_of_lt_of_le h1 hS.1) h2]; exact hS.2.1 q h1 h2, fun q hq => by
      rcases List.mem_append.mp hq with h | h
      · exact hS.2.2 q h
      · exact hL q h⟩ hl
  rw [hw] at K1
  obtain ⟨t2, a1, b1⟩ := K1 T' rfl X'
  exact ⟨t2, stp t2 a1, b1⟩
theorem y_callS (C : CY l k nL cc own Ts lev rt R nc ns Qf) {i : Nat} (d : decode cc pc = .ok (.invokestatic i, 3)) {y : MethodName} {bytes : ByteArray} {maxL lv2 n : Nat} {ret : Option FieldType} {ws ws' : List Cond} (As rest : List Value) {v : Option Value} {T1 : TS} {st' : List Value} (hM : Met l y ws (RM lv2) (PreX k.1 As T) (QQ k.1 v T1) 0 0 (xA k.1)) (hg : GoodIn Ts (va_wsS own i y ws)) (hws : ws = Cond.code y bytes maxL ret :: ws') (hd : y.cls ≠ "java/lang/invoke/MethodHandle" ∧ y.cls ≠ "java/lang/invoke/VarHandle" ∧ (parseMethodDescriptor y.desc).map (fun d => d.parameters.length) = some n) (hlev : lv2 + 1 ≤ lev) (hmx : maxL ≤ 41) (hn : As.length = n) (hst : st = As.reverse ++ rest) (hroom : (rest.map fun v => v.category).sum ≤ 8) (hst' : v.toList ++ rest = st') (K : GW k T1 (pc + 3) lv st') : GW k T pc lv st := by
  obtain ⟨p, e, s, args, below, meth, c, hw, hH, hx, hb, hml, hnL, hown, hts, hK, hA, hr, hlk, hRf, hRl, hRc, hRs⟩ := C
  intro H locs ls hP hD hS hl
  rw [hw]
  intro T0 hT X0
  obtain ⟨v', st₀, t, T', L, h0, X', hL, e1, e2, ⟨⟨hv, hwat⟩, hF⟩, stp⟩ := va_runS (R := R) (As := As) (rest := rest) ⟨hx, hb, hml, hown, hts⟩ hM (va_cwS n hts hg hws rfl rfl hd ⟨Nat.le_trans hlev hRf, Nat.le_trans (show 8 + (maxL + 11) + 60 * lv2 ≤ 60 * lev by omega) hRl⟩) ⟨preX_blind _ _ _, fun U hU hW => ⟨rfl, ⟨by rw [hU]; exact hP, hD⟩, hK.warm hW, fun q hq => hA q (Nat.le_trans (hH ▸ hS.1) (hU ▸ hq))⟩⟩ (g := F0 k.2.2.2.2 pc ls st) rfl hn (hl.1.trans hnL) hst (lv_room hroom) d ⟨hRc, hRs⟩ T0 hT X0
  cases hv
  subst hst'
  have hz : st₀.heap.size ≤ t.heap.size := hF.1
  have hk1 := hF.2
  rw [h0] at hz hk1
  have K1 := K T'.heap (locs ++ L) ls (by rw [e1]; exact hwat.1) hwat.2 ⟨Nat.le_trans hS.1 (by rw [e1]; exact hz), fun q h1 h2 => by rw [e1, hk1 q (Nat.lt_of_lt_of_le h1 hS.1) h2]; exact hS.2.1 q h1 h2, fun q hq => by
      rcases List.mem_append.mp hq with h | h
      · exact hS.2.2 q h
      · exact hL q h⟩ hl
  rw [hw] at K1
  obtain ⟨t2, a1, b1⟩ := K1 T' rfl X'
  exact ⟨t2, stp t2 a1, b1⟩
theorem y_callSN (C : CY l k nL cc own Ts lev rt R nc ns Qf) {i : Nat} (d : decode cc pc = .ok (.invokestatic i, 3)) {y : MethodName} {host : String} {bytes : ByteArray} {maxL lv2 n : Nat} {ret : Option FieldType} {ws ws' : List Cond} (As rest : List Value) {v : Option Value} {T1 : TS} {st' : List Value} (hM : Met l y ws (RM lv2) (PreX k.1 As T) (QQ k.1 v T1) 0 0 (xA k.1)) (hg : GoodIn Ts ws) (hnw : Cond.methodLinkNest own i y host ∈ nwX) (hini : Cond.initialized y.cls ∈ Ts) (hstat : Cond.static y ∈ Ts) (hws : ws = Cond.code y bytes maxL ret :: ws') (hd : y.cls ≠ "java/lang/invoke/MethodHandle" ∧ y.cls ≠ "java/lang/invoke/VarHandle" ∧ (parseMethodDescriptor y.desc).map (fun d => d.parameters.length) = some n) (hlev : lv2 + 1 ≤ lev) (hmx : maxL ≤ 41) (hn : As.length = n) (hst : st = As.reverse ++ rest) (hroom : (rest.map fun v => v.category).sum ≤ 8) (hst' : v.toList ++ rest = st') (K : GW k T1 (pc + 3) lv st') : GW k T pc lv st := by
  obtain ⟨p, e, s, args, below, meth, c, hw, hH, hx, hb, hml, hnL, hown, hts, hK, hA, hr, hlk, hRf, hRl, hRc, hRs⟩ := C
  intro H locs ls hP hD hS hl
  rw [hw]
  intro T0 hT X0
  obtain ⟨v', st₀, t, T', L, h0, X', hL, e1, e2, ⟨⟨hv, hwat⟩, hF⟩, stp⟩ := va_runSN (R := R) (As := As) (rest := rest) ⟨hx, hb, hml, hown, hts⟩ hM ⟨va_cnB n hts hg hws rfl rfl (hK.2.2 _ hnw) (hts _ hini) hd ⟨Nat.le_trans hlev hRf, Nat.le_trans (show 8 + (maxL + 11) + 60 * lv2 ≤ 60 * lev by omega) hRl⟩, hts _ hstat, trivial⟩ ⟨preX_blind _ _ _, fun U hU hW => ⟨rfl, ⟨by rw [hU]; exact hP, hD⟩, hK.warm hW, fun q hq => hA q (Nat.le_trans (hH ▸ hS.1) (hU ▸ hq))⟩⟩ (g := F0 k.2.2.2.2 pc ls st) rfl hn (hl.1.trans hnL) hst (lv_room hroom) d ⟨hRc, hRs⟩ T0 hT X0
  cases hv
  subst hst'
  have hz : st₀.heap.size ≤ t.heap.size := hF.1
  have hk1 := hF.2
  rw [h0] at hz hk1
  have K1 := K T'.heap (locs ++ L) ls (by rw [e1]; exact hwat.1) hwat.2 ⟨Nat.le_trans hS.1 (by rw [e1]; exact hz), fun q h1 h2 => by rw [e1, hk1 q (Nat.lt_of_lt_of_le h1 hS.1) h2]; exact hS.2.1 q h1 h2, fun q hq => by
      rcases List.mem_append.mp hq with h | h
      · exact hS.2.2 q h
      · exact hL q h⟩ hl
  rw [hw] at K1
  obtain ⟨t2, a1, b1⟩ := K1 T' rfl X'
  exact ⟨t2, stp t2 a1, b1⟩
/-! a made array beside the world -/
def xadd (X : XT) (a : Nat) (f : Nat → Int32) : XT := (X.1, X.2.1, X.2.2.1, X.2.2.2.1, xz X ++ [(a, .inl (xI X, 8, .inl f))])
def kx (k : KT) (P : Heap → List Loc → JFrame → Prop) (a : Nat) (f : Nat → Int32) : KT := (xadd k.1 a f, P, k.2.2)
set_option maxRecDepth 100000 in
theorem wsT_add (X : XT) (a : Nat) (f : Nat → Int32) (T : TS) : wsT (xadd X a f) T = wsT X T ++ [(a, .inl (xI X, 8, .inl f))] := by
  show wsE X T ++ (wsR X T ++ (xz X ++ [(a, .inl (xI X, 8, .inl f))])) = (wsE X T ++ (wsR X T ++ xz X)) ++ [(a, .inl (xI X, 8, .inl f))]
  rw [List.append_assoc, List.append_assoc]
theorem wN_at (X : XT) (a : Nat) (f : Nat → Int32) (T : TS) : (wsT (xadd X a f) T)[(wsT X T).length]? = some (a, .inl (xI X, 8, .inl f)) := by
  rw [wsT_add, List.getElem?_append_right (Nat.le_refl _), Nat.sub_self]
  rfl
theorem wN_set (X : XT) (a : Nat) (f g : Nat → Int32) (T : TS) : (wsT (xadd X a f) T).set (wsT X T).length (a, .inl (xI X, 8, .inl g)) = wsT (xadd X a g) T := by
  rw [wsT_add, wsT_add, List.set_append_right _ _ (Nat.le_refl _), Nat.sub_self]
  rfl
theorem y_newa {a0 : Nat} {P : Nat → Heap → List Loc → JFrame → Prop} (C : CY l k nL cc own Ts lev rt R nc ns Qf) (d : decode cc pc = .ok (.newarray .int, 2)) (hc : Cond.arrayClass .int ∈ Ts) (hcells : nc + 1 ≤ R.cells) (hslots : ns + 8 ≤ R.slots) (K : ∀ (P : Heap → List Loc → JFrame → Prop) (a : Nat), (∀ f, CY l (kx k P a f) nL cc own Ts lev rt R (nc + 1) (ns + 8) Qf) → GW (kx k P a (fun _ => 0)) T (pc + 2) lv (.ref a :: st)) : GW k T pc lv (.int 8 :: st) := by
  obtain ⟨p, e, s, args, below, meth, c, hw, hH, hx, hb, hml, hnL, hown, hts, hK, hA, hr, hlk, hRf, hRl, hRc, hRs⟩ := C
  intro H locs ls hP hD hS hl
  rw [hw]
  refine va_newa (atype := .int) hx hb (hts _ hc) (ty := .int) rfl hK.1 hP hD (hH ▸ hS) hA (a0 := (8, .inl (fun _ => 0))) (N' := 8) (fun cA => by rw [vp_cell_i]; rfl) (by decide) (by decide) (by decide) hcells hslots d (fun q cA H1 hK1 hP1 hD1 hS1 => ?_)
  have hcA : cA = xI k.1 := by
    have h1 := (hK1.2 4 (cA, .int) rfl).2
    have h2 := (hK1.2 0 (xI k.1, .int) rfl).2
    exact Option.some.inj (h1.symm.trans h2)
  subst hcA
  have K1 := K (fun H locs g => W p l e R s k.2.2.2.2 args below meth c H locs (nc + 1) (ns + 8) (Qf below args s) g) q (fun f => ⟨p, e, s, args, below, meth, c, rfl, hH, hx, hb, hml, hnL, hown, hts, hK, hA, hr, hlk, hRf, hRl, hcells, hslots⟩) H1 locs ls (by rw [show (kx k (fun H locs g => W p l e R s k.2.2.2.2 args below meth c H locs (nc + 1) (ns + 8) (Qf below args s) g) q (fun _ => 0)).1 = xadd k.1 q (fun _ => 0) from rfl, wsT_add]; exact hP1) (by rw [show (kx k (fun H locs g => W p l e R s k.2.2.2.2 args below meth c H locs (nc + 1) (ns + 8) (Qf below args s) g) q (fun _ => 0)).1 = xadd k.1 q (fun _ => 0) from rfl, wsT_add]; exact hD1) (by rw [← hH] at hS1; exact hS1) hl
  exact K1
theorem y_ialdN {P : Heap → List Loc → JFrame → Prop} {a : Nat} {f : Nat → Int32} (C : CY l (kx k P a f) nL cc own Ts lev rt R nc ns Qf) (d : decode cc pc = .ok (.iaload, 1)) {i : Int32} {A : Option α} (h : ck i 8 A = some z) (K : A = some z → GW (kx k P a f) T (pc + 1) lv (.int (f i.toNatClampNeg) :: st)) : GW (kx k P a f) T pc lv (.int i :: .ref a :: st) := y_iald C d (wN_at k.1 a f T) h K
theorem y_iastN {P : Heap → List Loc → JFrame → Prop} {a : Nat} {f : Nat → Int32} (C : ∀ f, CY l (kx k P a f) nL cc own Ts lev rt R nc ns Qf) (d : decode cc pc = .ok (.iastore, 1)) {i x : Int32} {F : (Nat → Int32) → Option α} (h : ck i 8 (nm (upd f i.toNatClampNeg x) F) = some z) (K : ∀ g, F g = some z → GW (kx k P a g) T (pc + 1) lv st) : GW (kx k P a f) T pc lv (.int x :: .int i :: .ref a :: st) := by
  obtain ⟨p, e, s, args, below, meth, c, hw, hH, hx, hb, hml, hnL, hown, hts, hK, hA, hr, hlk, hRf, hRl, hRc, hRs⟩ := C f
  intro H locs ls hP hD hS hl
  obtain ⟨h1, h2⟩ := ck_some h
  rw [hw]
  refine va_iast hx hb hK.1 hP hD hS _ 0 (wN_at k.1 a f T) rfl h1 d (fun H1 locs1 hP1 hD1 hS1 => ?_)
  rw [show (kx k P a f).1 = xadd k.1 a f from rfl, wN_set] at hP1 hD1
  have K1 := K _ h2 H1 locs1 ls hP1 hD1 hS1 hl
  have hw2 : P = (fun H locs g => W p l e R s k.2.2.2.2 args below meth c H locs nc ns (Qf below args s) g) := hw
  show W p l e R s k.2.2.2.2 args below meth c H1 locs1 nc ns (Qf below args s) _
  have K2 : P H1 locs1 _ := K1
  rw [hw2] at K2
  exact K2
/-- the end of a method that gives back the world X0: what it made is left alone -/
theorem y_ireturn {r v : Int32} {T' : TS} {X0 : XT} {mc ms : Nat} (C : CY l k nL cc own Ts lev (some .int) R nc ns (fun below args s => MQ below (QQ X0 (some (.int r)) T') args s mc ms (xA X0))) (hX : ∀ H, va_P (xD k.1) vwCl (wsT k.1 T) H → va_D (xA k.1) (wsT k.1 T) → va_P (xD X0) vwCl (wsT X0 T) H ∧ va_D (xA X0) (wsT X0 T)) (hxa : xA k.1 = xA X0) (h1 : nc ≤ mc) (h2 : ns ≤ ms) (d : decode cc pc = .ok (.ireturn, 1)) (h : some (v, T) = some (r, T')) : GW k T pc lv [.int v] := by
  obtain ⟨p, e, s, args, below, meth, c, hw, hH, hx, hb, hml, hnL, hown, hts, hK, hA, hr, hlk, hRf, hRl, hRc, hRs⟩ := C
  cases h
  intro H locs ls hP hD hS hl
  rw [hw]
  refine W.widen h1 h2 ?_
  have hS' : va_S (xA X0) s.heap H locs := by rw [← hxa, ← hH]; exact hS
  exact W.iret hx hb hr (fun t ht hW => ⟨⟨rfl, by rw [wat, ht]; exact hX H hP hD⟩, hS'.F ht⟩) hS'.2.2 d hlk
theorem drop_add (X : XT) (a : Nat) (f : Nat → Int32) (T : TS) (H : Heap) (hP : va_P (xD X) vwCl (wsT (xadd X a f) T) H) (hD : va_D (xA X) (wsT (xadd X a f) T)) : va_P (xD X) vwCl (wsT X T) H ∧ va_D (xA X) (wsT X T) := by
  rw [wsT_add] at hP hD
  have e : ∀ (i : Nat) (q : Nat × va_E), (wsT X T)[i]? = some q → (wsT X T ++ [(a, .inl (xI X, 8, .inl f))])[i]? = some q := fun i q h => by
    rw [List.getElem?_append_left (List.getElem?_eq_some_iff.mp h).1]
    exact h
  exact ⟨fun i q h => hP i q (e i q h), fun i j p q hp hq => hD.1 i j p q (e i p hp) (e j q hq), fun i q h => hD.2 i q (e i q h)⟩
/-- a room for a method that makes something -/
def RN (k nc ns : Nat) : Room := { frames := k, cells := nc, slots := ns, locals := 60 * k }
theorem y_start {y : MethodName} {ws ws' : List Cond} {X : XT} {av : List Value} {Qc : Array Value → State → Outcome → State → Prop} {mc ms : Nat} {maxL : Nat} {ret : Option FieldType} (hy : plainName y.cls = true) (hws : ws = Cond.code y cc maxL ret :: ws') (hlen : (lg_sl av).length ≤ maxL)
    (body : ∀ k : KT, k.1 = X → CY l k maxL cc y.cls ws lev ret (RN lev mc ms) 0 0 (fun below args s => MQ below Qc args s mc ms (xA X)) → GW k T 0 (lv_args 0 av) []) : Met l y ws (RN lev mc ms) (PreX X av T) Qc mc ms (xA X) := by
  refine Met.ofW (cc := cc) (maxL := maxL) (ret := ret) hy hws ?_
  intro p e s m args below meth c s₁ B hml hv
  obtain ⟨rfl, ⟨hP, hD⟩, hK, hA⟩ := hv
  have hts := atoms_spec (ws := ws) B.pre
  have hown : s.vm.findClass y.cls = some m.cls := findClass_of_methodNamed B.named
  have K := body (X, (fun H locs g => W p l e (RN lev mc ms) s m av.toArray below meth c H locs 0 0 (MQ below Qc av.toArray s mc ms (xA X)) g), maxL, s.heap, m) rfl ⟨p, e, s, av.toArray, below, meth, c, rfl, rfl, B.exec, B.bytes, hml, rfl, hown, hts, hK, hA, B.returns, B.notSynchronized, Nat.le_refl _, Nat.le_refl _, Nat.zero_le _, Nat.zero_le _⟩
  have hl := lv_entry av (n := maxL) hlen
  rw [lg_entry_eq]
  exact K s.heap [] _ hP hD va_S.rf hl
end RULESY
