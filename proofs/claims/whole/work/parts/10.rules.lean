/-! what the tables say, behind every method's start -/
def tyX (X : XT) : List (ClassId × FieldType) := [(xI X, .int), (xJ X, .long), (xZ X, .boolean), (xO X, .array .int)]
def nwX : List Cond := [.methodLinkNest RX5 63 yX10_quotient RX10, .methodLinkNest RX6 65 yX10_quotient RX10]
def oKX (X : XT) (U : State) : Prop := ∃ (kA : Class) (kc : Class), U.vm.classes[xO X]? = some kA ∧ kA.kind = .array (xI X) (.array .int) ∧ U.vm.classes[xI X]? = some kc
def KX (X : XT) (U : State) : Prop := va_K (xD X) vwCl (tyX X) U ∧ oKX X U ∧ ∀ w ∈ nwX, va_Nw w U
theorem KX.warm {X : XT} {s U : State} (hW : s.WarmedH U.vm) (h : KX X s) : KX X U := by
  refine ⟨va_K.moved hW.alike h.1, ?_, ?_⟩
  · obtain ⟨kA, kc, h1, h2, h3⟩ := h.2.1
    obtain ⟨k', hk', he⟩ := hW.alike.2.2 _ _ h1
    obtain ⟨k2, hk2, he2⟩ := hW.alike.2.2 _ _ h3
    exact ⟨k', k2, hk', by rw [he]; exact h2, hk2⟩
  · intro w hw
    have hz := h.2.2 w hw
    simp only [nwX, List.mem_cons, List.not_mem_nil, or_false] at hw
    rcases hw with rfl | rfl
    · exact va_Nw.warmM hW hz
    · exact va_Nw.warmM hW hz
theorem KX.same {X : XT} {s U : State} (hv : s.vm = U.vm) (h : KX X s) : KX X U := by
  refine ⟨va_K.moved (by rw [hv]; exact Vm.Alike.refl U.vm) h.1, ?_, fun w hw => ?_⟩
  · unfold oKX
    rw [← hv]
    exact h.2.1
  · have hz := h.2.2 w hw
    simp only [nwX, List.mem_cons, List.not_mem_nil, or_false] at hw
    rcases hw with rfl | rfl
    · exact va_Nw.same rfl hv hz
    · exact va_Nw.same rfl hv hz
/-- the world of a state at a machine's state -/
def wat (X : XT) (T : TS) (t : State) : Prop := va_P (xD X) vwCl (wsT X T) t.heap ∧ va_D (xA X) (wsT X T)
/-- a method's start, its end -/
def PreX (X : XT) (av : List Value) (T : TS) : Array Value → State → Prop := fun a U => a = av.toArray ∧ wat X T U ∧ KX X U ∧ ∀ q : Nat, U.heap.size ≤ q → xA X q
def QQ (X : XT) (v : Option Value) (T : TS) : Array Value → State → Outcome → State → Prop := fun _ st oc t => (oc = .returned v ∧ wat X T t) ∧ va_F (xA X) st t
theorem preX_blind (X : XT) (av : List Value) (T : TS) : FrameBlind (PreX X av T) := by
  intro a U g mk h
  exact ⟨h.1, h.2.1, KX.same (s := U) (U := U.calling g mk a) rfl h.2.2.1, h.2.2.2⟩
def RM (k : Nat) : Room := { frames := k, cells := 0, slots := 0, locals := 60 * k }
/-! a point of a method: the state, the instruction, the locals, the stack -/
abbrev KT : Type := XT × (Heap → List Loc → JFrame → Prop) × Nat × Heap × MethodId
def GW (k : KT) (T : TS) (pc : Nat) (lv : List (Nat × Value)) (st : List Value) : Prop :=
  ∀ (H : Heap) (locs : List Loc) (ls : Array Slot), va_P (xD k.1) vwCl (wsT k.1 T) H → va_D (xA k.1) (wsT k.1 T) → va_S (xA k.1) k.2.2.2.1 H locs → lv_has ls k.2.2.1 lv → k.2.1 H locs (F0 k.2.2.2.2 pc ls st)
def CX (l : Launch) (k : KT) (nL : Nat) (cc : ByteArray) (own : String) (Ts : List Cond) (lev : Nat) (rt : Option FieldType) (o : Option Value × TS) : Prop :=
  ∃ (p : Program) (e : Env) (s : State) (args : Array Value) (below : List Frame) (meth : Method) (c : Code),
    k.2.1 = (fun H locs g => W p l e (RM lev) s k.2.2.2.2 args below meth c H locs 0 0 (MQ below (QQ k.1 o.1 o.2) args s 0 0 (xA k.1)) g) ∧ k.2.2.2.1 = s.heap ∧ p.tables.exec = Jvm.exec ∧ c.code = cc ∧ c.maxLocals = nL ∧ k.2.2.1 = nL ∧ s.vm.findClass own = some k.2.2.2.2.cls ∧ (∀ w ∈ Ts, w.before args s = true) ∧ KX k.1 s ∧ (∀ q : Nat, s.heap.size ≤ q → xA k.1 q) ∧ meth.sig.returnType = rt ∧ meth.locks = false
/-- names in a text: a value, a state, a way on; a checked index; a call's end -/
def nm {α β : Type} (a : α) (f : α → β) : β := f a
def ak {α : Type} (q : Nat) (x : Option α) : Option α := if q = 55 ∨ (67 ≤ q ∧ q < 67 + rN) then x else none
def ck {α : Type} (i : Int32) (n : Nat) (x : Option α) : Option α := if ¬ i < 0 ∧ i.toNatClampNeg < n then x else none
def nz {α : Type} (y : Int32) (x : Option α) : Option α := if y = 0 then none else x
def nzl {α : Type} (y : Int64) (x : Option α) : Option α := if y = 0 then none else x
def bd {α β : Type} (o : Option (α × TS)) (f : α → TS → Option β) : Option β := match o with
  | some (r, T) => f r T
  | none => none
def bv {β : Type} (o : Option TS) (f : TS → Option β) : Option β := match o with
  | some T => f T
  | none => none
theorem ck_some {α : Type} {i : Int32} {n : Nat} {x : Option α} {z : α} (h : ck i n x = some z) : vp_in i n ∧ x = some z := by
  unfold ck at h
  split at h
  · rename_i hc
    exact ⟨fun q => q.elim hc.1 (fun q => absurd hc.2 (Nat.not_lt.mpr q)), h⟩
  · cases h
theorem ak_some {α : Type} {q : Nat} {x : Option α} {z : α} (h : ak q x = some z) : isA q ∧ x = some z := by
  unfold ak at h
  split at h
  · rename_i hc
    exact ⟨hc, h⟩
  · cases h
theorem nz_some {α : Type} {y : Int32} {x : Option α} {z : α} (h : nz y x = some z) : (¬ y = 0) ∧ x = some z := by
  unfold nz at h
  split at h
  · cases h
  · rename_i hc
    exact ⟨hc, h⟩
theorem nzl_some {α : Type} {y : Int64} {x : Option α} {z : α} (h : nzl y x = some z) : (¬ y = 0) ∧ x = some z := by
  unfold nzl at h
  split at h
  · cases h
  · rename_i hc
    exact ⟨hc, h⟩
theorem bd_some {α β : Type} {o : Option (α × TS)} {f : α → TS → Option β} {z : β} (h : bd o f = some z) : ∃ (r : α) (T : TS), o = some (r, T) ∧ f r T = some z := by
  unfold bd at h
  split at h
  · rename_i r T
    exact ⟨r, T, rfl, h⟩
  · cases h
theorem bv_some {β : Type} {o : Option TS} {f : TS → Option β} {z : β} (h : bv o f = some z) : ∃ (T : TS), o = some T ∧ f T = some z := by
  unfold bv at h
  split at h
  · rename_i T
    exact ⟨T, rfl, h⟩
  · cases h
/-! locals by number, in order -/
def lvins (x : Nat × Value) : List (Nat × Value) → List (Nat × Value)
  | [] => [x]
  | y :: t => if x.1 < y.1 then x :: y :: t else y :: lvins x t
theorem lvins_mem {x q : Nat × Value} : ∀ {l : List (Nat × Value)}, q ∈ lvins x l → q ∈ x :: l
  | [], h => h
  | y :: t, h => by
    unfold lvins at h
    split at h
    · exact h
    · rcases List.mem_cons.mp h with h | h
      · subst h
        simp
      · have h2 := lvins_mem h
        rcases List.mem_cons.mp h2 with h2 | h2
        · subst h2
          simp
        · simp [h2]
theorem lv_ins {ls : Array Slot} {n : Nat} {x : Nat × Value} {l : List (Nat × Value)} (h : lv_has ls n (x :: l)) : lv_has ls n (lvins x l) := ⟨h.1, h.2.1, fun q hq => h.2.2 q (lvins_mem hq)⟩
section RULES
variable {l : Launch} {k : KT} {cc : ByteArray} {own : String} {Ts : List Cond} {nL lev : Nat} {rt : Option FieldType} {o : Option Value × TS} {T : TS} {pc : Nat} {lv : List (Nat × Value)} {st : List Value} {α : Type} {z : α}
theorem q_sub (ks : List Nat) {lv' : List (Nat × Value)} (hl : lv_pick lv ks = lv') (K : GW k T pc lv' st) : GW k T pc lv st := fun H locs ls hP hD hS h => K H locs ls hP hD hS (lv_sub h ks hl)
theorem q_nm {β : Type} {x : Int32} {f : Int32 → Option β} {y : β} (h : nm x f = some y) (K : ∀ x, f x = some y → GW k T pc lv (.int x :: st)) : GW k T pc lv (.int x :: st) := K x h
theorem q_nml {β : Type} {x : Int64} {f : Int64 → Option β} {y : β} (h : nm x f = some y) (K : ∀ x, f x = some y → GW k T pc lv (.long x :: st)) : GW k T pc lv (.long x :: st) := K x h
theorem q_iconst (C : CX l k nL cc own Ts lev rt o) {n : Int} (d : decode cc pc = .ok (.iconst n, 1)) {v : Int32} (hv : Int32.ofInt n = v) (K : GW k T (pc + 1) lv (.int v :: st)) : GW k T pc lv (st) := by
  obtain ⟨p, e, s, args, below, meth, c, hw, hH, hx, hb, hml, hnL, hown, hts, hK, hA, hr, hlk⟩ := C
  intro H locs ls hP hD hS hl
  have K1 := K H locs ls hP hD hS hl
  rw [hw] at K1
  rw [hw]
  exact lv_iconst hx hb d hv K1

theorem q_bipush (C : CX l k nL cc own Ts lev rt o) {n : Int} (d : decode cc pc = .ok (.bipush n, 2)) {v : Int32} (hv : (Int8.ofInt n).toInt32 = v) (K : GW k T (pc + 2) lv (.int v :: st)) : GW k T pc lv (st) := by
  obtain ⟨p, e, s, args, below, meth, c, hw, hH, hx, hb, hml, hnL, hown, hts, hK, hA, hr, hlk⟩ := C
  intro H locs ls hP hD hS hl
  have K1 := K H locs ls hP hD hS hl
  rw [hw] at K1
  rw [hw]
  exact lv_bipush hx hb d hv K1

theorem q_sipush (C : CX l k nL cc own Ts lev rt o) {n : Int} (d : decode cc pc = .ok (.sipush n, 3)) {v : Int32} (hv : (Int16.ofInt n).toInt32 = v) (K : GW k T (pc + 3) lv (.int v :: st)) : GW k T pc lv (st) := by
  obtain ⟨p, e, s, args, below, meth, c, hw, hH, hx, hb, hml, hnL, hown, hts, hK, hA, hr, hlk⟩ := C
  intro H locs ls hP hD hS hl
  have K1 := K H locs ls hP hD hS hl
  rw [hw] at K1
  rw [hw]
  exact lv_sipush hx hb d hv K1

theorem q_lconst (C : CX l k nL cc own Ts lev rt o) {n : Fin 2} (d : decode cc pc = .ok (.lconst n, 1)) {v : Int64} (hv : Int64.ofNat (n : Nat) = v) (K : GW k T (pc + 1) lv (.long v :: st)) : GW k T pc lv (st) := by
  obtain ⟨p, e, s, args, below, meth, c, hw, hH, hx, hb, hml, hnL, hown, hts, hK, hA, hr, hlk⟩ := C
  intro H locs ls hP hD hS hl
  have K1 := K H locs ls hP hD hS hl
  rw [hw] at K1
  rw [hw]
  exact lv_lconst hx hb d hv K1

theorem q_ldc (C : CX l k nL cc own Ts lev rt o) {i : Nat} (d : decode cc pc = .ok (.ldc i, 2)) {v : Int32} (hc : Cond.constant own i v ∈ Ts) (K : GW k T (pc + 2) lv (.int v :: st)) : GW k T pc lv (st) := by
  obtain ⟨p, e, s, args, below, meth, c, hw, hH, hx, hb, hml, hnL, hown, hts, hK, hA, hr, hlk⟩ := C
  intro H locs ls hP hD hS hl
  have K1 := K H locs ls hP hD hS hl
  rw [hw] at K1
  rw [hw]
  exact lv_ldc hx hb hown (hts _ hc) d K1

theorem q_ldcw (C : CX l k nL cc own Ts lev rt o) {i : Nat} (d : decode cc pc = .ok (.ldc_w i, 3)) {v : Int32} (hc : Cond.constant own i v ∈ Ts) (K : GW k T (pc + 3) lv (.int v :: st)) : GW k T pc lv (st) := by
  obtain ⟨p, e, s, args, below, meth, c, hw, hH, hx, hb, hml, hnL, hown, hts, hK, hA, hr, hlk⟩ := C
  intro H locs ls hP hD hS hl
  have K1 := K H locs ls hP hD hS hl
  rw [hw] at K1
  rw [hw]
  exact lv_ldcw hx hb hown (hts _ hc) d K1

theorem q_ldc2 (C : CX l k nL cc own Ts lev rt o) {i : Nat} (d : decode cc pc = .ok (.ldc2_w i, 3)) {v : Int64} (hc : Cond.constantLong own i v ∈ Ts) (K : GW k T (pc + 3) lv (.long v :: st)) : GW k T pc lv (st) := by
  obtain ⟨p, e, s, args, below, meth, c, hw, hH, hx, hb, hml, hnL, hown, hts, hK, hA, hr, hlk⟩ := C
  intro H locs ls hP hD hS hl
  have K1 := K H locs ls hP hD hS hl
  rw [hw] at K1
  rw [hw]
  exact lv_ldc2 hx hb hown (hts _ hc) d K1

theorem q_iload_n (C : CX l k nL cc own Ts lev rt o) {f : Fin 4} {i : Nat} {x : Int32} (d : decode cc pc = .ok (.iload_n f, 1)) (hi : (f : Nat) = i) (j : Nat) (hj : lv[j]? = some (i, .int x)) (K : GW k T (pc + 1) lv (.int x :: st)) : GW k T pc lv (st) := by
  obtain ⟨p, e, s, args, below, meth, c, hw, hH, hx, hb, hml, hnL, hown, hts, hK, hA, hr, hlk⟩ := C
  intro H locs ls hP hD hS hl
  have K1 := K H locs ls hP hD hS hl
  rw [hw] at K1
  rw [hw]
  exact lv_iload_n hx hb d hi (lv_at hl j hj) K1

theorem q_iload (C : CX l k nL cc own Ts lev rt o) {i : Nat} {x : Int32} (d : decode cc pc = .ok (.iload i, 2)) (j : Nat) (hj : lv[j]? = some (i, .int x)) (K : GW k T (pc + 2) lv (.int x :: st)) : GW k T pc lv (st) := by
  obtain ⟨p, e, s, args, below, meth, c, hw, hH, hx, hb, hml, hnL, hown, hts, hK, hA, hr, hlk⟩ := C
  intro H locs ls hP hD hS hl
  have K1 := K H locs ls hP hD hS hl
  rw [hw] at K1
  rw [hw]
  exact lv_iload hx hb d (lv_at hl j hj) K1

theorem q_lload_n (C : CX l k nL cc own Ts lev rt o) {f : Fin 4} {i : Nat} {x : Int64} (d : decode cc pc = .ok (.lload_n f, 1)) (hi : (f : Nat) = i) (j : Nat) (hj : lv[j]? = some (i, .long x)) (K : GW k T (pc + 1) lv (.long x :: st)) : GW k T pc lv (st) := by
  obtain ⟨p, e, s, args, below, meth, c, hw, hH, hx, hb, hml, hnL, hown, hts, hK, hA, hr, hlk⟩ := C
  intro H locs ls hP hD hS hl
  have K1 := K H locs ls hP hD hS hl
  rw [hw] at K1
  rw [hw]
  exact lv_lload_n hx hb d hi (lv_at hl j hj) K1

theorem q_lload (C : CX l k nL cc own Ts lev rt o) {i : Nat} {x : Int64} (d : decode cc pc = .ok (.lload i, 2)) (j : Nat) (hj : lv[j]? = some (i, .long x)) (K : GW k T (pc + 2) lv (.long x :: st)) : GW k T pc lv (st) := by
  obtain ⟨p, e, s, args, below, meth, c, hw, hH, hx, hb, hml, hnL, hown, hts, hK, hA, hr, hlk⟩ := C
  intro H locs ls hP hD hS hl
  have K1 := K H locs ls hP hD hS hl
  rw [hw] at K1
  rw [hw]
  exact lv_lload hx hb d (lv_at hl j hj) K1

theorem q_aload_n (C : CX l k nL cc own Ts lev rt o) {f : Fin 4} {i : Nat} {x : Nat} (d : decode cc pc = .ok (.aload_n f, 1)) (hi : (f : Nat) = i) (j : Nat) (hj : lv[j]? = some (i, .ref x)) (K : GW k T (pc + 1) lv (.ref x :: st)) : GW k T pc lv (st) := by
  obtain ⟨p, e, s, args, below, meth, c, hw, hH, hx, hb, hml, hnL, hown, hts, hK, hA, hr, hlk⟩ := C
  intro H locs ls hP hD hS hl
  have K1 := K H locs ls hP hD hS hl
  rw [hw] at K1
  rw [hw]
  exact lv_aload_n hx hb d hi (lv_at hl j hj) K1

theorem q_aload (C : CX l k nL cc own Ts lev rt o) {i : Nat} {x : Nat} (d : decode cc pc = .ok (.aload i, 2)) (j : Nat) (hj : lv[j]? = some (i, .ref x)) (K : GW k T (pc + 2) lv (.ref x :: st)) : GW k T pc lv (st) := by
  obtain ⟨p, e, s, args, below, meth, c, hw, hH, hx, hb, hml, hnL, hown, hts, hK, hA, hr, hlk⟩ := C
  intro H locs ls hP hD hS hl
  have K1 := K H locs ls hP hD hS hl
  rw [hw] at K1
  rw [hw]
  exact lv_aload hx hb d (lv_at hl j hj) K1

theorem q_iadd (C : CX l k nL cc own Ts lev rt o) {x y : Int32} (d : decode cc pc = .ok (.iadd, 1)) (K : GW k T (pc + 1) lv (.int (x + y) :: st)) : GW k T pc lv (.int y :: .int x :: st) := by
  obtain ⟨p, e, s, args, below, meth, c, hw, hH, hx, hb, hml, hnL, hown, hts, hK, hA, hr, hlk⟩ := C
  intro H locs ls hP hD hS hl
  have K1 := K H locs ls hP hD hS hl
  rw [hw] at K1
  rw [hw]
  exact lv_iadd hx hb d K1

theorem q_isub (C : CX l k nL cc own Ts lev rt o) {x y : Int32} (d : decode cc pc = .ok (.isub, 1)) (K : GW k T (pc + 1) lv (.int (x - y) :: st)) : GW k T pc lv (.int y :: .int x :: st) := by
  obtain ⟨p, e, s, args, below, meth, c, hw, hH, hx, hb, hml, hnL, hown, hts, hK, hA, hr, hlk⟩ := C
  intro H locs ls hP hD hS hl
  have K1 := K H locs ls hP hD hS hl
  rw [hw] at K1
  rw [hw]
  exact lv_isub hx hb d K1

theorem q_imul (C : CX l k nL cc own Ts lev rt o) {x y : Int32} (d : decode cc pc = .ok (.imul, 1)) (K : GW k T (pc + 1) lv (.int (x * y) :: st)) : GW k T pc lv (.int y :: .int x :: st) := by
  obtain ⟨p, e, s, args, below, meth, c, hw, hH, hx, hb, hml, hnL, hown, hts, hK, hA, hr, hlk⟩ := C
  intro H locs ls hP hD hS hl
  have K1 := K H locs ls hP hD hS hl
  rw [hw] at K1
  rw [hw]
  exact lv_imul hx hb d K1

theorem q_iand (C : CX l k nL cc own Ts lev rt o) {x y : Int32} (d : decode cc pc = .ok (.iand, 1)) (K : GW k T (pc + 1) lv (.int (x &&& y) :: st)) : GW k T pc lv (.int y :: .int x :: st) := by
  obtain ⟨p, e, s, args, below, meth, c, hw, hH, hx, hb, hml, hnL, hown, hts, hK, hA, hr, hlk⟩ := C
  intro H locs ls hP hD hS hl
  have K1 := K H locs ls hP hD hS hl
  rw [hw] at K1
  rw [hw]
  exact lv_iand hx hb d K1

theorem q_ior (C : CX l k nL cc own Ts lev rt o) {x y : Int32} (d : decode cc pc = .ok (.ior, 1)) (K : GW k T (pc + 1) lv (.int (x ||| y) :: st)) : GW k T pc lv (.int y :: .int x :: st) := by
  obtain ⟨p, e, s, args, below, meth, c, hw, hH, hx, hb, hml, hnL, hown, hts, hK, hA, hr, hlk⟩ := C
  intro H locs ls hP hD hS hl
  have K1 := K H locs ls hP hD hS hl
  rw [hw] at K1
  rw [hw]
  exact lv_ior hx hb d K1

theorem q_ixor (C : CX l k nL cc own Ts lev rt o) {x y : Int32} (d : decode cc pc = .ok (.ixor, 1)) (K : GW k T (pc + 1) lv (.int (x ^^^ y) :: st)) : GW k T pc lv (.int y :: .int x :: st) := by
  obtain ⟨p, e, s, args, below, meth, c, hw, hH, hx, hb, hml, hnL, hown, hts, hK, hA, hr, hlk⟩ := C
  intro H locs ls hP hD hS hl
  have K1 := K H locs ls hP hD hS hl
  rw [hw] at K1
  rw [hw]
  exact lv_ixor hx hb d K1

theorem q_ladd (C : CX l k nL cc own Ts lev rt o) {x y : Int64} (d : decode cc pc = .ok (.ladd, 1)) (K : GW k T (pc + 1) lv (.long (x + y) :: st)) : GW k T pc lv (.long y :: .long x :: st) := by
  obtain ⟨p, e, s, args, below, meth, c, hw, hH, hx, hb, hml, hnL, hown, hts, hK, hA, hr, hlk⟩ := C
  intro H locs ls hP hD hS hl
  have K1 := K H locs ls hP hD hS hl
  rw [hw] at K1
  rw [hw]
  exact lv_ladd hx hb d K1

theorem q_lsub (C : CX l k nL cc own Ts lev rt o) {x y : Int64} (d : decode cc pc = .ok (.lsub, 1)) (K : GW k T (pc + 1) lv (.long (x - y) :: st)) : GW k T pc lv (.long y :: .long x :: st) := by
  obtain ⟨p, e, s, args, below, meth, c, hw, hH, hx, hb, hml, hnL, hown, hts, hK, hA, hr, hlk⟩ := C
  intro H locs ls hP hD hS hl
  have K1 := K H locs ls hP hD hS hl
  rw [hw] at K1
  rw [hw]
  exact lv_lsub hx hb d K1

theorem q_lmul (C : CX l k nL cc own Ts lev rt o) {x y : Int64} (d : decode cc pc = .ok (.lmul, 1)) (K : GW k T (pc + 1) lv (.long (x * y) :: st)) : GW k T pc lv (.long y :: .long x :: st) := by
  obtain ⟨p, e, s, args, below, meth, c, hw, hH, hx, hb, hml, hnL, hown, hts, hK, hA, hr, hlk⟩ := C
  intro H locs ls hP hD hS hl
  have K1 := K H locs ls hP hD hS hl
  rw [hw] at K1
  rw [hw]
  exact lv_lmul hx hb d K1

theorem q_ishl (C : CX l k nL cc own Ts lev rt o) {x y : Int32} (d : decode cc pc = .ok (.ishl, 1)) (K : GW k T (pc + 1) lv (.int (x <<< (y &&& 31)) :: st)) : GW k T pc lv (.int y :: .int x :: st) := by
  obtain ⟨p, e, s, args, below, meth, c, hw, hH, hx, hb, hml, hnL, hown, hts, hK, hA, hr, hlk⟩ := C
  intro H locs ls hP hD hS hl
  have K1 := K H locs ls hP hD hS hl
  rw [hw] at K1
  rw [hw]
  exact lv_ishl hx hb d K1

theorem q_ishr (C : CX l k nL cc own Ts lev rt o) {x y : Int32} (d : decode cc pc = .ok (.ishr, 1)) (K : GW k T (pc + 1) lv (.int (x >>> (y &&& 31)) :: st)) : GW k T pc lv (.int y :: .int x :: st) := by
  obtain ⟨p, e, s, args, below, meth, c, hw, hH, hx, hb, hml, hnL, hown, hts, hK, hA, hr, hlk⟩ := C
  intro H locs ls hP hD hS hl
  have K1 := K H locs ls hP hD hS hl
  rw [hw] at K1
  rw [hw]
  exact lv_ishr hx hb d K1

theorem q_iushr (C : CX l k nL cc own Ts lev rt o) {x y : Int32} (d : decode cc pc = .ok (.iushr, 1)) (K : GW k T (pc + 1) lv (.int (x.toUInt32 >>> (y.toUInt32 &&& Int32.toUInt32 31)).toInt32 :: st)) : GW k T pc lv (.int y :: .int x :: st) := by
  obtain ⟨p, e, s, args, below, meth, c, hw, hH, hx, hb, hml, hnL, hown, hts, hK, hA, hr, hlk⟩ := C
  intro H locs ls hP hD hS hl
  have K1 := K H locs ls hP hD hS hl
  rw [hw] at K1
  rw [hw]
  exact lv_iushr hx hb d rfl K1

theorem q_i2l (C : CX l k nL cc own Ts lev rt o) {x : Int32} (d : decode cc pc = .ok (.i2l, 1)) (K : GW k T (pc + 1) lv (.long x.toInt64 :: st)) : GW k T pc lv (.int x :: st) := by
  obtain ⟨p, e, s, args, below, meth, c, hw, hH, hx, hb, hml, hnL, hown, hts, hK, hA, hr, hlk⟩ := C
  intro H locs ls hP hD hS hl
  have K1 := K H locs ls hP hD hS hl
  rw [hw] at K1
  rw [hw]
  exact lv_i2l hx hb d rfl K1

theorem q_l2i (C : CX l k nL cc own Ts lev rt o) {x : Int64} (d : decode cc pc = .ok (.l2i, 1)) (K : GW k T (pc + 1) lv (.int x.toInt32 :: st)) : GW k T pc lv (.long x :: st) := by
  obtain ⟨p, e, s, args, below, meth, c, hw, hH, hx, hb, hml, hnL, hown, hts, hK, hA, hr, hlk⟩ := C
  intro H locs ls hP hD hS hl
  have K1 := K H locs ls hP hD hS hl
  rw [hw] at K1
  rw [hw]
  exact lv_l2i hx hb d rfl K1

theorem q_lcmp (C : CX l k nL cc own Ts lev rt o) {x y : Int64} (d : decode cc pc = .ok (.lcmp, 1)) (K : GW k T (pc + 1) lv (.int (lg_cmp x y) :: st)) : GW k T pc lv (.long y :: .long x :: st) := by
  obtain ⟨p, e, s, args, below, meth, c, hw, hH, hx, hb, hml, hnL, hown, hts, hK, hA, hr, hlk⟩ := C
  intro H locs ls hP hD hS hl
  have K1 := K H locs ls hP hD hS hl
  rw [hw] at K1
  rw [hw]
  exact W.lcmp hx hb d K1

theorem q_dup (C : CX l k nL cc own Ts lev rt o) {v : Value} (d : decode cc pc = .ok (.dup, 1)) (hv : v.category = 1) (K : GW k T (pc + 1) lv (v :: v :: st)) : GW k T pc lv (v :: st) := by
  obtain ⟨p, e, s, args, below, meth, c, hw, hH, hx, hb, hml, hnL, hown, hts, hK, hA, hr, hlk⟩ := C
  intro H locs ls hP hD hS hl
  have K1 := K H locs ls hP hD hS hl
  rw [hw] at K1
  rw [hw]
  exact lv_dup hx hb d hv K1

theorem q_dup2 (C : CX l k nL cc own Ts lev rt o) {v u : Value} (d : decode cc pc = .ok (.dup2, 1)) (hv : v.category = 1) (hu : u.category = 1) (K : GW k T (pc + 1) lv (v :: u :: v :: u :: st)) : GW k T pc lv (v :: u :: st) := by
  obtain ⟨p, e, s, args, below, meth, c, hw, hH, hx, hb, hml, hnL, hown, hts, hK, hA, hr, hlk⟩ := C
  intro H locs ls hP hD hS hl
  have K1 := K H locs ls hP hD hS hl
  rw [hw] at K1
  rw [hw]
  exact lv_dup2_11 hx hb d hv hu K1

theorem q_goto (C : CX l k nL cc own Ts lev rt o) {off : Int} {tgt : Nat} (d : decode cc pc = .ok (.goto off, 3)) (ht : (pc : Int) + off = (tgt : Int)) (K : GW k T tgt lv (st)) : GW k T pc lv (st) := by
  obtain ⟨p, e, s, args, below, meth, c, hw, hH, hx, hb, hml, hnL, hown, hts, hK, hA, hr, hlk⟩ := C
  intro H locs ls hP hD hS hl
  have K1 := K H locs ls hP hD hS hl
  rw [hw] at K1
  rw [hw]
  exact lv_goto hx hb d ht K1

theorem q_istore_n (C : CX l k nL cc own Ts lev rt o) {f : Fin 4} {i : Nat} {x : Int32} (d : decode cc pc = .ok (.istore_n f, 1)) (hi : (f : Nat) = i) {lv' : List (Nat × Value)} (hn : i < nL) (hl' : lvins (i, Value.int x) (lv.filter (fun q => !(q.1 == i) && !(q.1 + 1 == i && q.2.category == 2))) = lv') (K : GW k T (pc + 1) lv' st) : GW k T pc lv (Value.int x :: st) := by
  obtain ⟨p, e, s, args, below, meth, c, hw, hH, hx, hb, hml, hnL, hown, hts, hK, hA, hr, hlk⟩ := C
  intro H locs ls hP hD hS hl
  rw [hw]
  refine lv_istore_n hx hb d hi hl (hnL ▸ hn) rfl (fun ls2 hl2 => ?_)
  have K1 := K H locs ls2 hP hD hS (hl' ▸ lv_ins hl2)
  rw [hw] at K1
  exact K1

theorem q_istore (C : CX l k nL cc own Ts lev rt o) {i : Nat} {x : Int32} (d : decode cc pc = .ok (.istore i, 2)) {lv' : List (Nat × Value)} (hn : i < nL) (hl' : lvins (i, Value.int x) (lv.filter (fun q => !(q.1 == i) && !(q.1 + 1 == i && q.2.category == 2))) = lv') (K : GW k T (pc + 2) lv' st) : GW k T pc lv (Value.int x :: st) := by
  obtain ⟨p, e, s, args, below, meth, c, hw, hH, hx, hb, hml, hnL, hown, hts, hK, hA, hr, hlk⟩ := C
  intro H locs ls hP hD hS hl
  rw [hw]
  refine lv_istore hx hb d hl (hnL ▸ hn) rfl (fun ls2 hl2 => ?_)
  have K1 := K H locs ls2 hP hD hS (hl' ▸ lv_ins hl2)
  rw [hw] at K1
  exact K1

theorem q_lstore_n (C : CX l k nL cc own Ts lev rt o) {f : Fin 4} {i : Nat} {x : Int64} (d : decode cc pc = .ok (.lstore_n f, 1)) (hi : (f : Nat) = i) {lv' : List (Nat × Value)} (hn : i + 1 < nL) (hl' : lvins (i, Value.long x) (lv.filter (fun q => !(q.1 == i) && (!(q.1 == i + 1) && !(q.1 + 1 == i && q.2.category == 2)))) = lv') (K : GW k T (pc + 1) lv' st) : GW k T pc lv (Value.long x :: st) := by
  obtain ⟨p, e, s, args, below, meth, c, hw, hH, hx, hb, hml, hnL, hown, hts, hK, hA, hr, hlk⟩ := C
  intro H locs ls hP hD hS hl
  rw [hw]
  refine lv_lstore_n hx hb d hi hl (hnL ▸ hn) rfl (fun ls2 hl2 => ?_)
  have K1 := K H locs ls2 hP hD hS (hl' ▸ lv_ins hl2)
  rw [hw] at K1
  exact K1

theorem q_lstore (C : CX l k nL cc own Ts lev rt o) {i : Nat} {x : Int64} (d : decode cc pc = .ok (.lstore i, 2)) {lv' : List (Nat × Value)} (hn : i + 1 < nL) (hl' : lvins (i, Value.long x) (lv.filter (fun q => !(q.1 == i) && (!(q.1 == i + 1) && !(q.1 + 1 == i && q.2.category == 2)))) = lv') (K : GW k T (pc + 2) lv' st) : GW k T pc lv (Value.long x :: st) := by
  obtain ⟨p, e, s, args, below, meth, c, hw, hH, hx, hb, hml, hnL, hown, hts, hK, hA, hr, hlk⟩ := C
  intro H locs ls hP hD hS hl
  rw [hw]
  refine lv_lstore hx hb d hl (hnL ▸ hn) rfl (fun ls2 hl2 => ?_)
  have K1 := K H locs ls2 hP hD hS (hl' ▸ lv_ins hl2)
  rw [hw] at K1
  exact K1

theorem q_astore_n (C : CX l k nL cc own Ts lev rt o) {f : Fin 4} {i : Nat} {x : Nat} (d : decode cc pc = .ok (.astore_n f, 1)) (hi : (f : Nat) = i) {lv' : List (Nat × Value)} (hn : i < nL) (hl' : lvins (i, Value.ref x) (lv.filter (fun q => !(q.1 == i) && !(q.1 + 1 == i && q.2.category == 2))) = lv') (K : GW k T (pc + 1) lv' st) : GW k T pc lv (Value.ref x :: st) := by
  obtain ⟨p, e, s, args, below, meth, c, hw, hH, hx, hb, hml, hnL, hown, hts, hK, hA, hr, hlk⟩ := C
  intro H locs ls hP hD hS hl
  rw [hw]
  refine lv_astore_n hx hb d hi hl (hnL ▸ hn) rfl (fun ls2 hl2 => ?_)
  have K1 := K H locs ls2 hP hD hS (hl' ▸ lv_ins hl2)
  rw [hw] at K1
  exact K1

theorem q_astore (C : CX l k nL cc own Ts lev rt o) {i : Nat} {x : Nat} (d : decode cc pc = .ok (.astore i, 2)) {lv' : List (Nat × Value)} (hn : i < nL) (hl' : lvins (i, Value.ref x) (lv.filter (fun q => !(q.1 == i) && !(q.1 + 1 == i && q.2.category == 2))) = lv') (K : GW k T (pc + 2) lv' st) : GW k T pc lv (Value.ref x :: st) := by
  obtain ⟨p, e, s, args, below, meth, c, hw, hH, hx, hb, hml, hnL, hown, hts, hK, hA, hr, hlk⟩ := C
  intro H locs ls hP hD hS hl
  rw [hw]
  refine lv_astore hx hb d hl (hnL ▸ hn) rfl (fun ls2 hl2 => ?_)
  have K1 := K H locs ls2 hP hD hS (hl' ▸ lv_ins hl2)
  rw [hw] at K1
  exact K1

theorem q_iinc (C : CX l k nL cc own Ts lev rt o) {i j : Nat} {n : Int} {x v : Int32} (d : decode cc pc = .ok (.iinc i n, 3)) (hj : lv[j]? = some (i, .int x)) (hv : Int32.ofInt n = v) {lv' : List (Nat × Value)} (hn : i < nL) (hl' : lvins (i, Value.int (x + v)) (lv.filter (fun q => !(q.1 == i) && !(q.1 + 1 == i && q.2.category == 2))) = lv') (K : GW k T (pc + 3) lv' st) : GW k T pc lv st := by
  obtain ⟨p, e, s, args, below, meth, c, hw, hH, hx, hb, hml, hnL, hown, hts, hK, hA, hr, hlk⟩ := C
  intro H locs ls hP hD hS hl
  rw [hw]
  refine lv_iinc (v := x + v) hx hb d hl hj (by rw [hv]) (hnL ▸ hn) rfl (fun ls2 hl2 => ?_)
  have K1 := K H locs ls2 hP hD hS (hl' ▸ lv_ins hl2)
  rw [hw] at K1
  exact K1

theorem q_icmp_eq (C : CX l k nL cc own Ts lev rt o) {off : Int} {tgt : Nat} {x y : Int32} (d : decode cc pc = .ok (.if_icmp .eq off, 3)) (ht : (pc : Int) + off = (tgt : Int)) [Decidable (x = y)] {A B : Option α} (h : (if x = y then A else B) = some z) (kt : x = y → A = some z → GW k T tgt lv st) (kf : ¬ (x = y) → B = some z → GW k T (pc + 3) lv st) : GW k T pc lv (.int y :: .int x :: st) := by
  obtain ⟨p, e, s, args, below, meth, c, hw, hH, hx, hb, hml, hnL, hown, hts, hK, hA, hr, hlk⟩ := C
  intro H locs ls hP hD hS hl
  rw [hw]
  refine lv_icmp_eq hx hb d ht (fun hc => ?_) (fun hc => ?_)
  · rw [if_pos hc] at h
    have K1 := kt hc h H locs ls hP hD hS hl
    rw [hw] at K1
    exact K1
  · rw [if_neg hc] at h
    have K1 := kf hc h H locs ls hP hD hS hl
    rw [hw] at K1
    exact K1

theorem q_if_eq (C : CX l k nL cc own Ts lev rt o) {off : Int} {tgt : Nat} {x : Int32} (d : decode cc pc = .ok (.ifCond .eq off, 3)) (ht : (pc : Int) + off = (tgt : Int)) [Decidable (x = 0)] {A B : Option α} (h : (if x = 0 then A else B) = some z) (kt : x = 0 → A = some z → GW k T tgt lv st) (kf : ¬ (x = 0) → B = some z → GW k T (pc + 3) lv st) : GW k T pc lv (.int x :: st) := by
  obtain ⟨p, e, s, args, below, meth, c, hw, hH, hx, hb, hml, hnL, hown, hts, hK, hA, hr, hlk⟩ := C
  intro H locs ls hP hD hS hl
  rw [hw]
  refine lv_if_eq hx hb d ht (fun hc => ?_) (fun hc => ?_)
  · rw [if_pos hc] at h
    have K1 := kt hc h H locs ls hP hD hS hl
    rw [hw] at K1
    exact K1
  · rw [if_neg hc] at h
    have K1 := kf hc h H locs ls hP hD hS hl
    rw [hw] at K1
    exact K1

theorem q_icmp_ne (C : CX l k nL cc own Ts lev rt o) {off : Int} {tgt : Nat} {x y : Int32} (d : decode cc pc = .ok (.if_icmp .ne off, 3)) (ht : (pc : Int) + off = (tgt : Int)) [Decidable (¬ x = y)] {A B : Option α} (h : (if ¬ x = y then A else B) = some z) (kt : ¬ x = y → A = some z → GW k T tgt lv st) (kf : x = y → B = some z → GW k T (pc + 3) lv st) : GW k T pc lv (.int y :: .int x :: st) := by
  obtain ⟨p, e, s, args, below, meth, c, hw, hH, hx, hb, hml, hnL, hown, hts, hK, hA, hr, hlk⟩ := C
  intro H locs ls hP hD hS hl
  rw [hw]
  refine lv_icmp_ne hx hb d ht (fun hc => ?_) (fun hc => ?_)
  · rw [if_pos hc] at h
    have K1 := kt hc h H locs ls hP hD hS hl
    rw [hw] at K1
    exact K1
  · rw [if_neg (fun q => q hc)] at h
    have K1 := kf hc h H locs ls hP hD hS hl
    rw [hw] at K1
    exact K1

theorem q_if_ne (C : CX l k nL cc own Ts lev rt o) {off : Int} {tgt : Nat} {x : Int32} (d : decode cc pc = .ok (.ifCond .ne off, 3)) (ht : (pc : Int) + off = (tgt : Int)) [Decidable (¬ x = 0)] {A B : Option α} (h : (if ¬ x = 0 then A else B) = some z) (kt : ¬ x = 0 → A = some z → GW k T tgt lv st) (kf : x = 0 → B = some z → GW k T (pc + 3) lv st) : GW k T pc lv (.int x :: st) := by
  obtain ⟨p, e, s, args, below, meth, c, hw, hH, hx, hb, hml, hnL, hown, hts, hK, hA, hr, hlk⟩ := C
  intro H locs ls hP hD hS hl
  rw [hw]
  refine lv_if_ne hx hb d ht (fun hc => ?_) (fun hc => ?_)
  · rw [if_pos hc] at h
    have K1 := kt hc h H locs ls hP hD hS hl
    rw [hw] at K1
    exact K1
  · rw [if_neg (fun q => q hc)] at h
    have K1 := kf hc h H locs ls hP hD hS hl
    rw [hw] at K1
    exact K1

theorem q_icmp_lt (C : CX l k nL cc own Ts lev rt o) {off : Int} {tgt : Nat} {x y : Int32} (d : decode cc pc = .ok (.if_icmp .lt off, 3)) (ht : (pc : Int) + off = (tgt : Int)) [Decidable (x < y)] {A B : Option α} (h : (if x < y then A else B) = some z) (kt : x < y → A = some z → GW k T tgt lv st) (kf : ¬ (x < y) → B = some z → GW k T (pc + 3) lv st) : GW k T pc lv (.int y :: .int x :: st) := by
  obtain ⟨p, e, s, args, below, meth, c, hw, hH, hx, hb, hml, hnL, hown, hts, hK, hA, hr, hlk⟩ := C
  intro H locs ls hP hD hS hl
  rw [hw]
  refine lv_icmp_lt hx hb d ht (fun hc => ?_) (fun hc => ?_)
  · rw [if_pos hc] at h
    have K1 := kt hc h H locs ls hP hD hS hl
    rw [hw] at K1
    exact K1
  · rw [if_neg hc] at h
    have K1 := kf hc h H locs ls hP hD hS hl
    rw [hw] at K1
    exact K1

theorem q_if_lt (C : CX l k nL cc own Ts lev rt o) {off : Int} {tgt : Nat} {x : Int32} (d : decode cc pc = .ok (.ifCond .lt off, 3)) (ht : (pc : Int) + off = (tgt : Int)) [Decidable (x < 0)] {A B : Option α} (h : (if x < 0 then A else B) = some z) (kt : x < 0 → A = some z → GW k T tgt lv st) (kf : ¬ (x < 0) → B = some z → GW k T (pc + 3) lv st) : GW k T pc lv (.int x :: st) := by
  obtain ⟨p, e, s, args, below, meth, c, hw, hH, hx, hb, hml, hnL, hown, hts, hK, hA, hr, hlk⟩ := C
  intro H locs ls hP hD hS hl
  rw [hw]
  refine lv_if_lt hx hb d ht (fun hc => ?_) (fun hc => ?_)
  · rw [if_pos hc] at h
    have K1 := kt hc h H locs ls hP hD hS hl
    rw [hw] at K1
    exact K1
  · rw [if_neg hc] at h
    have K1 := kf hc h H locs ls hP hD hS hl
    rw [hw] at K1
    exact K1

theorem q_icmp_ge (C : CX l k nL cc own Ts lev rt o) {off : Int} {tgt : Nat} {x y : Int32} (d : decode cc pc = .ok (.if_icmp .ge off, 3)) (ht : (pc : Int) + off = (tgt : Int)) [Decidable (y ≤ x)] {A B : Option α} (h : (if y ≤ x then A else B) = some z) (kt : y ≤ x → A = some z → GW k T tgt lv st) (kf : ¬ (y ≤ x) → B = some z → GW k T (pc + 3) lv st) : GW k T pc lv (.int y :: .int x :: st) := by
  obtain ⟨p, e, s, args, below, meth, c, hw, hH, hx, hb, hml, hnL, hown, hts, hK, hA, hr, hlk⟩ := C
  intro H locs ls hP hD hS hl
  rw [hw]
  refine lv_icmp_ge hx hb d ht (fun hc => ?_) (fun hc => ?_)
  · rw [if_pos hc] at h
    have K1 := kt hc h H locs ls hP hD hS hl
    rw [hw] at K1
    exact K1
  · rw [if_neg hc] at h
    have K1 := kf hc h H locs ls hP hD hS hl
    rw [hw] at K1
    exact K1

theorem q_if_ge (C : CX l k nL cc own Ts lev rt o) {off : Int} {tgt : Nat} {x : Int32} (d : decode cc pc = .ok (.ifCond .ge off, 3)) (ht : (pc : Int) + off = (tgt : Int)) [Decidable (0 ≤ x)] {A B : Option α} (h : (if 0 ≤ x then A else B) = some z) (kt : 0 ≤ x → A = some z → GW k T tgt lv st) (kf : ¬ (0 ≤ x) → B = some z → GW k T (pc + 3) lv st) : GW k T pc lv (.int x :: st) := by
  obtain ⟨p, e, s, args, below, meth, c, hw, hH, hx, hb, hml, hnL, hown, hts, hK, hA, hr, hlk⟩ := C
  intro H locs ls hP hD hS hl
  rw [hw]
  refine lv_if_ge hx hb d ht (fun hc => ?_) (fun hc => ?_)
  · rw [if_pos hc] at h
    have K1 := kt hc h H locs ls hP hD hS hl
    rw [hw] at K1
    exact K1
  · rw [if_neg hc] at h
    have K1 := kf hc h H locs ls hP hD hS hl
    rw [hw] at K1
    exact K1

theorem q_icmp_gt (C : CX l k nL cc own Ts lev rt o) {off : Int} {tgt : Nat} {x y : Int32} (d : decode cc pc = .ok (.if_icmp .gt off, 3)) (ht : (pc : Int) + off = (tgt : Int)) [Decidable (y < x)] {A B : Option α} (h : (if y < x then A else B) = some z) (kt : y < x → A = some z → GW k T tgt lv st) (kf : ¬ (y < x) → B = some z → GW k T (pc + 3) lv st) : GW k T pc lv (.int y :: .int x :: st) := by
  obtain ⟨p, e, s, args, below, meth, c, hw, hH, hx, hb, hml, hnL, hown, hts, hK, hA, hr, hlk⟩ := C
  intro H locs ls hP hD hS hl
  rw [hw]
  refine lv_icmp_gt hx hb d ht (fun hc => ?_) (fun hc => ?_)
  · rw [if_pos hc] at h
    have K1 := kt hc h H locs ls hP hD hS hl
    rw [hw] at K1
    exact K1
  · rw [if_neg hc] at h
    have K1 := kf hc h H locs ls hP hD hS hl
    rw [hw] at K1
    exact K1

theorem q_if_gt (C : CX l k nL cc own Ts lev rt o) {off : Int} {tgt : Nat} {x : Int32} (d : decode cc pc = .ok (.ifCond .gt off, 3)) (ht : (pc : Int) + off = (tgt : Int)) [Decidable (0 < x)] {A B : Option α} (h : (if 0 < x then A else B) = some z) (kt : 0 < x → A = some z → GW k T tgt lv st) (kf : ¬ (0 < x) → B = some z → GW k T (pc + 3) lv st) : GW k T pc lv (.int x :: st) := by
  obtain ⟨p, e, s, args, below, meth, c, hw, hH, hx, hb, hml, hnL, hown, hts, hK, hA, hr, hlk⟩ := C
  intro H locs ls hP hD hS hl
  rw [hw]
  refine lv_if_gt hx hb d ht (fun hc => ?_) (fun hc => ?_)
  · rw [if_pos hc] at h
    have K1 := kt hc h H locs ls hP hD hS hl
    rw [hw] at K1
    exact K1
  · rw [if_neg hc] at h
    have K1 := kf hc h H locs ls hP hD hS hl
    rw [hw] at K1
    exact K1

theorem q_icmp_le (C : CX l k nL cc own Ts lev rt o) {off : Int} {tgt : Nat} {x y : Int32} (d : decode cc pc = .ok (.if_icmp .le off, 3)) (ht : (pc : Int) + off = (tgt : Int)) [Decidable (x ≤ y)] {A B : Option α} (h : (if x ≤ y then A else B) = some z) (kt : x ≤ y → A = some z → GW k T tgt lv st) (kf : ¬ (x ≤ y) → B = some z → GW k T (pc + 3) lv st) : GW k T pc lv (.int y :: .int x :: st) := by
  obtain ⟨p, e, s, args, below, meth, c, hw, hH, hx, hb, hml, hnL, hown, hts, hK, hA, hr, hlk⟩ := C
  intro H locs ls hP hD hS hl
  rw [hw]
  refine lv_icmp_le hx hb d ht (fun hc => ?_) (fun hc => ?_)
  · rw [if_pos hc] at h
    have K1 := kt hc h H locs ls hP hD hS hl
    rw [hw] at K1
    exact K1
  · rw [if_neg hc] at h
    have K1 := kf hc h H locs ls hP hD hS hl
    rw [hw] at K1
    exact K1

theorem q_if_le (C : CX l k nL cc own Ts lev rt o) {off : Int} {tgt : Nat} {x : Int32} (d : decode cc pc = .ok (.ifCond .le off, 3)) (ht : (pc : Int) + off = (tgt : Int)) [Decidable (x ≤ 0)] {A B : Option α} (h : (if x ≤ 0 then A else B) = some z) (kt : x ≤ 0 → A = some z → GW k T tgt lv st) (kf : ¬ (x ≤ 0) → B = some z → GW k T (pc + 3) lv st) : GW k T pc lv (.int x :: st) := by
  obtain ⟨p, e, s, args, below, meth, c, hw, hH, hx, hb, hml, hnL, hown, hts, hK, hA, hr, hlk⟩ := C
  intro H locs ls hP hD hS hl
  rw [hw]
  refine lv_if_le hx hb d ht (fun hc => ?_) (fun hc => ?_)
  · rw [if_pos hc] at h
    have K1 := kt hc h H locs ls hP hD hS hl
    rw [hw] at K1
    exact K1
  · rw [if_neg hc] at h
    have K1 := kf hc h H locs ls hP hD hS hl
    rw [hw] at K1
    exact K1
theorem q_get (C : CX l k nL cc own Ts lev rt o) {Cn ref : String} {Tn : u_T} {N ci i q0 j a : Nat} {fs : List Value} {v : Value} (d : decode cc pc = .ok (.getfield i, 3)) (he : (wsT k.1 T)[q0]? = some (a, .inr (ci, fs))) (hc : vwCl[ci]? = some (Cn, Tn, N)) (hj : j < N) (hv : fs[j]? = some v) (hin : ∀ w ∈ u_ws Cn Tn N, w ∈ Ts) (hlk : Cond.fieldLink own i ref (Tn j).2.1 (Tn j).2.2.1 ∈ Ts) (hs : (Tn j).1 = ref) (K : GW k T (pc + 3) lv (v :: st)) : GW k T pc lv (.ref a :: st) := by
  obtain ⟨p, e, s, args, below, meth, c, hw, hH, hx, hb, hml, hnL, hown, hts, hK, hA, hr, hlk2⟩ := C
  intro H locs ls hP hD hS hl
  have K1 := K H locs ls hP hD hS hl
  rw [hw] at K1 ⊢
  exact va_get hx hb hts hin hown hK.1 hP q0 he hc j hj (hts _ hlk) (fun x h => hs ▸ h) hv d K1
theorem q_putI (C : CX l k nL cc own Ts lev rt o) {Cn ref : String} {Tn : u_T} {N ci i q0 j a ix : Nat} {fs : List Value} {v : Int32} (d : decode cc pc = .ok (.putfield i, 3)) (he : (wsT k.1 T)[q0]? = some (a, .inr (ci, fs))) (hset : (wsT k.1 T).set q0 (a, .inr (ci, fs.set j (.int v))) = wsT k.1 (uI T ix v)) (hc : vwCl[ci]? = some (Cn, Tn, N)) (hj : j < N) (hl2 : j < fs.length) (ty0 : Nat → FieldType) (hty : ∀ k, k < N → parseFieldDescriptor (Tn k).2.2.1 = some (ty0 k)) (hnm : ∀ a, a < N → ∀ b, b < N → a ≠ b → (Tn a).2.1 ≠ (Tn b).2.1) (hin : ∀ w ∈ u_ws Cn Tn N, w ∈ Ts) (hlk : Cond.fieldLink own i ref (Tn j).2.1 (Tn j).2.2.1 ∈ Ts) (hs : (Tn j).1 = ref) (hfin : (Tn j).2.2.2 = false) {ty : FieldType} (hd : parseFieldDescriptor (Tn j).2.2.1 = some ty) (hn : narrow ty (.int v) = .int v) (hfit : fits ty (.int v) = true) {f : TS → Option α} (h : nm (uI T ix v) f = some z) (K : ∀ T1, f T1 = some z → GW k T1 (pc + 3) lv st) : GW k T pc lv (.int v :: .ref a :: st) := by
  obtain ⟨p, e, s, args, below, meth, c, hw, hH, hx, hb, hml, hnL, hown, hts, hK, hA, hr, hlk2⟩ := C
  intro H locs ls hP hD hS hl
  rw [hw]
  refine va_put hx hb hts hin ty0 hty hnm hown hK.1 hP hD hS q0 he hc j hj (hts _ hlk) (fun x h => hs ▸ h) hfin hd hn hfit hl2 d (fun H1 locs1 hP1 hD1 hS1 => ?_)
  rw [hset] at hP1 hD1
  have K1 := K _ h H1 locs1 ls hP1 hD1 hS1 hl
  rw [hw] at K1
  exact K1
theorem q_putJ (C : CX l k nL cc own Ts lev rt o) {Cn ref : String} {Tn : u_T} {N ci i q0 j a ix : Nat} {fs : List Value} {v : Int64} (d : decode cc pc = .ok (.putfield i, 3)) (he : (wsT k.1 T)[q0]? = some (a, .inr (ci, fs))) (hset : (wsT k.1 T).set q0 (a, .inr (ci, fs.set j (.long v))) = wsT k.1 (uJ T ix v)) (hc : vwCl[ci]? = some (Cn, Tn, N)) (hj : j < N) (hl2 : j < fs.length) (ty0 : Nat → FieldType) (hty : ∀ k, k < N → parseFieldDescriptor (Tn k).2.2.1 = some (ty0 k)) (hnm : ∀ a, a < N → ∀ b, b < N → a ≠ b → (Tn a).2.1 ≠ (Tn b).2.1) (hin : ∀ w ∈ u_ws Cn Tn N, w ∈ Ts) (hlk : Cond.fieldLink own i ref (Tn j).2.1 (Tn j).2.2.1 ∈ Ts) (hs : (Tn j).1 = ref) (hfin : (Tn j).2.2.2 = false) (hd : parseFieldDescriptor (Tn j).2.2.1 = some .long) {f : TS → Option α} (h : nm (uJ T ix v) f = some z) (K : ∀ T1, f T1 = some z → GW k T1 (pc + 3) lv st) : GW k T pc lv (.long v :: .ref a :: st) := by
  obtain ⟨p, e, s, args, below, meth, c, hw, hH, hx, hb, hml, hnL, hown, hts, hK, hA, hr, hlk2⟩ := C
  intro H locs ls hP hD hS hl
  rw [hw]
  refine va_put hx hb hts hin ty0 hty hnm hown hK.1 hP hD hS q0 he hc j hj (hts _ hlk) (fun x h => hs ▸ h) hfin hd rfl rfl hl2 d (fun H1 locs1 hP1 hD1 hS1 => ?_)
  rw [hset] at hP1 hD1
  have K1 := K _ h H1 locs1 ls hP1 hD1 hS1 hl
  rw [hw] at K1
  exact K1
/-! arrays -/
theorem q_iald (C : CX l k nL cc own Ts lev rt o) (d : decode cc pc = .ok (.iaload, 1)) {q0 a n : Nat} {g : Nat → Int32} (he : (wsT k.1 T)[q0]? = some (a, .inl (xI k.1, n, .inl g))) {i : Int32} {A : Option α} (h : ck i n A = some z) (K : A = some z → GW k T (pc + 1) lv (.int (g i.toNatClampNeg) :: st)) : GW k T pc lv (.int i :: .ref a :: st) := by
  obtain ⟨p, e, s, args, below, meth, c, hw, hH, hx, hb, hml, hnL, hown, hts, hK, hA, hr, hlk⟩ := C
  intro H locs ls hP hD hS hl
  obtain ⟨h1, h2⟩ := ck_some h
  have K1 := K h2 H locs ls hP hD hS hl
  rw [hw] at K1 ⊢
  exact va_iald hx hb hK.1 hP q0 0 he rfl h1 d K1
theorem q_zald (C : CX l k nL cc own Ts lev rt o) (d : decode cc pc = .ok (.baload, 1)) {q0 a n : Nat} {g : Nat → Int32} (he : (wsT k.1 T)[q0]? = some (a, .inl (xZ k.1, n, .inl g))) {i : Int32} {A : Option α} (h : ck i n A = some z) (K : A = some z → GW k T (pc + 1) lv (.int (g i.toNatClampNeg) :: st)) : GW k T pc lv (.int i :: .ref a :: st) := by
  obtain ⟨p, e, s, args, below, meth, c, hw, hH, hx, hb, hml, hnL, hown, hts, hK, hA, hr, hlk⟩ := C
  intro H locs ls hP hD hS hl
  obtain ⟨h1, h2⟩ := ck_some h
  have K1 := K h2 H locs ls hP hD hS hl
  rw [hw] at K1 ⊢
  exact va_zald hx hb hK.1 hP q0 2 he rfl h1 d K1
theorem q_lald (C : CX l k nL cc own Ts lev rt o) (d : decode cc pc = .ok (.laload, 1)) {q0 a n : Nat} {g : Nat → Int64} (he : (wsT k.1 T)[q0]? = some (a, .inl (xJ k.1, n, .inr (.inl g)))) {i : Int32} {A : Option α} (h : ck i n A = some z) (K : A = some z → GW k T (pc + 1) lv (.long (g i.toNatClampNeg) :: st)) : GW k T pc lv (.int i :: .ref a :: st) := by
  obtain ⟨p, e, s, args, below, meth, c, hw, hH, hx, hb, hml, hnL, hown, hts, hK, hA, hr, hlk⟩ := C
  intro H locs ls hP hD hS hl
  obtain ⟨h1, h2⟩ := ck_some h
  have K1 := K h2 H locs ls hP hD hS hl
  rw [hw] at K1 ⊢
  exact va_lald hx hb hK.1 hP q0 1 he rfl h1 d K1
theorem q_aald (C : CX l k nL cc own Ts lev rt o) (d : decode cc pc = .ok (.aaload, 1)) {q0 a n : Nat} {g : Nat → Nat} (he : (wsT k.1 T)[q0]? = some (a, .inl (xO k.1, n, .inr (.inr (.inr (.inr (fun i => some (ad k.1 (g i))))))))) {i : Int32} {A : Option α} (h : ck i n A = some z) (K : A = some z → GW k T (pc + 1) lv (.ref (ad k.1 (g i.toNatClampNeg)) :: st)) : GW k T pc lv (.int i :: .ref a :: st) := by
  obtain ⟨p, e, s, args, below, meth, c, hw, hH, hx, hb, hml, hnL, hown, hts, hK, hA, hr, hlk⟩ := C
  intro H locs ls hP hD hS hl
  obtain ⟨h1, h2⟩ := ck_some h
  have K1 := K h2 H locs ls hP hD hS hl
  rw [hw] at K1 ⊢
  have hlt : i.toNatClampNeg < n := Nat.not_le.mp fun q => h1 (Or.inr q)
  exact W.aald (v := .ref (ad k.1 (g i.toNatClampNeg))) (ty := .array .int) hx hb (hP q0 _ he) ((hK.1.2 3 _ rfl).1 n (fun j => va_rf (some (ad k.1 (g j))))) rfl (fun q => by cases q) (by show ¬ (i < 0 ∨ (arrV _ _ _).slots.size ≤ _); rw [arrV_size]; exact h1) (by show (arrV _ _ _).slots[_]? = _; rw [arrV_read _ _ hlt]; rfl) rfl rfl d K1
theorem q_alen (C : CX l k nL cc own Ts lev rt o) (d : decode cc pc = .ok (.arraylength, 1)) {q0 a n : Nat} {g : Nat → Int32} (he : (wsT k.1 T)[q0]? = some (a, .inl (xI k.1, n, .inl g))) {v : Int32} (hv : Int32.ofNat n = v) (K : GW k T (pc + 1) lv (.int v :: st)) : GW k T pc lv (.ref a :: st) := by
  obtain ⟨p, e, s, args, below, meth, c, hw, hH, hx, hb, hml, hnL, hown, hts, hK, hA, hr, hlk⟩ := C
  intro H locs ls hP hD hS hl
  have K1 := K H locs ls hP hD hS hl
  rw [hw] at K1 ⊢
  exact va_alen hx hb hK.1 hP q0 0 he rfl hv d K1
theorem q_iast (C : CX l k nL cc own Ts lev rt o) (d : decode cc pc = .ok (.iastore, 1)) {q0 n : Nat} (he : (wsT k.1 T)[q0]? = some (ad k.1 q0, .inl (xI k.1, n, .inl (gA T q0)))) (hset : ∀ f, (wsT k.1 T).set q0 (ad k.1 q0, .inl (xI k.1, n, .inl f)) = wsT k.1 (uA T q0 f)) {i x : Int32} {f : TS → Option α} (h : ck i n (nm (sA T q0 i x) f) = some z) (K : ∀ T1, f T1 = some z → GW k T1 (pc + 1) lv st) : GW k T pc lv (.int x :: .int i :: .ref (ad k.1 q0) :: st) := by
  obtain ⟨p, e, s, args, below, meth, c, hw, hH, hx, hb, hml, hnL, hown, hts, hK, hA, hr, hlk⟩ := C
  intro H locs ls hP hD hS hl
  obtain ⟨h1, h2⟩ := ck_some h
  rw [hw]
  refine va_iast hx hb hK.1 hP hD hS q0 0 he rfl h1 d (fun H1 locs1 hP1 hD1 hS1 => ?_)
  rw [hset] at hP1 hD1
  have K1 := K _ h2 H1 locs1 ls hP1 hD1 hS1 hl
  rw [hw] at K1
  exact K1
theorem q_zast (C : CX l k nL cc own Ts lev rt o) (d : decode cc pc = .ok (.bastore, 1)) {q0 n : Nat} (he : (wsT k.1 T)[q0]? = some (ad k.1 q0, .inl (xZ k.1, n, .inl (gA T q0)))) (hset : ∀ f, (wsT k.1 T).set q0 (ad k.1 q0, .inl (xZ k.1, n, .inl f)) = wsT k.1 (uA T q0 f)) {i x : Int32} {f : TS → Option α} (h : ck i n (nm (sZ T q0 i x) f) = some z) (K : ∀ T1, f T1 = some z → GW k T1 (pc + 1) lv st) : GW k T pc lv (.int x :: .int i :: .ref (ad k.1 q0) :: st) := by
  obtain ⟨p, e, s, args, below, meth, c, hw, hH, hx, hb, hml, hnL, hown, hts, hK, hA, hr, hlk⟩ := C
  intro H locs ls hP hD hS hl
  obtain ⟨h1, h2⟩ := ck_some h
  rw [hw]
  refine va_zast hx hb hK.1 hP hD hS q0 2 he rfl h1 d (fun H1 locs1 hP1 hD1 hS1 => ?_)
  rw [hset] at hP1 hD1
  have K1 := K _ h2 H1 locs1 ls hP1 hD1 hS1 hl
  rw [hw] at K1
  exact K1
theorem q_last (C : CX l k nL cc own Ts lev rt o) (d : decode cc pc = .ok (.lastore, 1)) {q0 n : Nat} (he : (wsT k.1 T)[q0]? = some (ad k.1 q0, .inl (xJ k.1, n, .inr (.inl (gL T q0))))) (hset : ∀ f, (wsT k.1 T).set q0 (ad k.1 q0, .inl (xJ k.1, n, .inr (.inl f))) = wsT k.1 (uL T q0 f)) {i : Int32} {x : Int64} {f : TS → Option α} (h : ck i n (nm (sL T q0 i x) f) = some z) (K : ∀ T1, f T1 = some z → GW k T1 (pc + 1) lv st) : GW k T pc lv (.long x :: .int i :: .ref (ad k.1 q0) :: st) := by
  obtain ⟨p, e, s, args, below, meth, c, hw, hH, hx, hb, hml, hnL, hown, hts, hK, hA, hr, hlk⟩ := C
  intro H locs ls hP hD hS hl
  obtain ⟨h1, h2⟩ := ck_some h
  rw [hw]
  refine va_last hx hb hK.1 hP hD hS q0 1 he rfl h1 d (fun H1 locs1 hP1 hD1 hS1 => ?_)
  rw [hset] at hP1 hD1
  have K1 := K _ h2 H1 locs1 ls hP1 hD1 hS1 hl
  rw [hw] at K1
  exact K1
/-- arrays by a number that is not written out: rows, and the reference's c -/
theorem q_ialdG (C : CX l k nL cc own Ts lev rt o) (d : decode cc pc = .ok (.iaload, 1)) {q : Nat} {i : Int32} {A : Option α} (h : ak q (ck i (al q) A) = some z) (K : A = some z → GW k T (pc + 1) lv (.int (gA T q i.toNatClampNeg) :: st)) : GW k T pc lv (.int i :: .ref (ad k.1 q) :: st) := by
  obtain ⟨h1, h2⟩ := ak_some h
  exact q_iald C d (wG_at k.1 T h1) h2 K
theorem q_iastG (C : CX l k nL cc own Ts lev rt o) (d : decode cc pc = .ok (.iastore, 1)) {q : Nat} {i x : Int32} {f : TS → Option α} (h : ak q (ck i (al q) (nm (sA T q i x) f)) = some z) (K : ∀ T1, f T1 = some z → GW k T1 (pc + 1) lv st) : GW k T pc lv (.int x :: .int i :: .ref (ad k.1 q) :: st) := by
  obtain ⟨h1, h2⟩ := ak_some h
  exact q_iast C d (wG_at k.1 T h1) (wG_set k.1 T h1) h2 K
theorem q_aast (C : CX l k nL cc own Ts lev rt o) (d : decode cc pc = .ok (.aastore, 1)) {q0 n q : Nat} (he : (wsT k.1 T)[q0]? = some (ad k.1 q0, .inl (xO k.1, n, .inr (.inr (.inr (.inr (fun i => some (ad k.1 (gO T q0 i))))))))) (hset : ∀ f : Nat → Nat, (wsT k.1 T).set q0 (ad k.1 q0, .inl (xO k.1, n, .inr (.inr (.inr (.inr (fun i => some (ad k.1 (f i)))))))) = wsT k.1 (uO T q0 f)) {i : Int32} {f : TS → Option α} (h : ak q (ck i n (nm (sO T q0 i q) f)) = some z) (K : ∀ T1, f T1 = some z → GW k T1 (pc + 1) lv st) : GW k T pc lv (.ref (ad k.1 q) :: .int i :: .ref (ad k.1 q0) :: st) := by
  obtain ⟨p, e, s, args, below, meth, c, hw, hH, hx, hb, hml, hnL, hown, hts, hK, hA, hr, hlk⟩ := C
  intro H locs ls hP hD hS hl
  obtain ⟨h0, h⟩ := ak_some h
  obtain ⟨h1, h2⟩ := ck_some h
  have hlt : i.toNatClampNeg < n := Nat.not_le.mp fun q => h1 (Or.inr q)
  obtain ⟨kA, kc, k1, k2, k3⟩ := hK.2.1
  rw [hw]
  refine W.aast hx hb (hP q0 _ he) (fun q h => by cases h) (fun h => by cases h) k1 k2 rfl k3 ⟨fun q => h1 (Or.inl q), by show _ < (arrV _ _ _).slots.size; rw [arrV_size]; exact hlt⟩ (hP q _ (wG_at k.1 T h0)) (fun q h => by cases h) k3 (show s.vm.assignable (xI k.1) (xI k.1) = true by unfold Vm.assignable Vm.assignableAux; rw [show (xI k.1 == xI k.1) = true from beq_self_eq_true _, Bool.true_or]) rfl rfl d fun H1 e1 z1 oq => ?_
  have hP1 := hP.set (e := .inl (xO k.1, n, .inr (.inr (.inr (.inr (fun j => some (ad k.1 (va_up (gO T q0) i.toNatClampNeg q j)))))))) hD he (by
    show H1[ad k.1 q0]? = some (vp_cell _ _)
    rw [e1]
    rw [vp_cell_q, vp_cell_q, arrV_store]
    congr 2
    funext j
    by_cases hq : j = i.toNatClampNeg
    · subst hq
      simp [updV, va_up, va_rf]
    · simp [updV, va_up, va_rf, hq]) oq
  have hD1 := hD.set (e := .inl (xO k.1, n, .inr (.inr (.inr (.inr (fun j => some (ad k.1 (va_up (gO T q0) i.toNatClampNeg q j)))))))) he
  rw [hset] at hP1 hD1
  have K1 := K _ h2 H1 (locs ++ [⟨ad k.1 q0, i.toNatClampNeg⟩]) ls hP1 hD1 (hS.put z1 oq (hD.2 q0 _ he)) hl
  rw [hw] at K1
  exact K1
/-! division, Math, switches -/
theorem q_idiv (C : CX l k nL cc own Ts lev rt o) {x y : Int32} (d : decode cc pc = .ok (.idiv, 1)) {A : Option α} (h : nz y A = some z) (K : A = some z → GW k T (pc + 1) lv (.int (x / y) :: st)) : GW k T pc lv (.int y :: .int x :: st) := by
  obtain ⟨p, e, s, args, below, meth, c, hw, hH, hx, hb, hml, hnL, hown, hts, hK, hA, hr, hlk⟩ := C
  intro H locs ls hP hD hS hl
  obtain ⟨h1, h2⟩ := nz_some h
  have K1 := K h2 H locs ls hP hD hS hl
  rw [hw] at K1 ⊢
  exact lv_idiv hx hb d h1 K1
theorem q_irem (C : CX l k nL cc own Ts lev rt o) {x y : Int32} (d : decode cc pc = .ok (.irem, 1)) {A : Option α} (h : nz y A = some z) (K : A = some z → GW k T (pc + 1) lv (.int (x - x / y * y) :: st)) : GW k T pc lv (.int y :: .int x :: st) := by
  obtain ⟨p, e, s, args, below, meth, c, hw, hH, hx, hb, hml, hnL, hown, hts, hK, hA, hr, hlk⟩ := C
  intro H locs ls hP hD hS hl
  obtain ⟨h1, h2⟩ := nz_some h
  have K1 := K h2 H locs ls hP hD hS hl
  rw [hw] at K1 ⊢
  exact lv_irem hx hb d h1 K1
theorem q_ldiv (C : CX l k nL cc own Ts lev rt o) {x y : Int64} (d : decode cc pc = .ok (.ldiv, 1)) {A : Option α} (h : nzl y A = some z) (K : A = some z → GW k T (pc + 1) lv (.long (x / y) :: st)) : GW k T pc lv (.long y :: .long x :: st) := by
  obtain ⟨p, e, s, args, below, meth, c, hw, hH, hx, hb, hml, hnL, hown, hts, hK, hA, hr, hlk⟩ := C
  intro H locs ls hP hD hS hl
  obtain ⟨h1, h2⟩ := nzl_some h
  have K1 := K h2 H locs ls hP hD hS hl
  rw [hw] at K1 ⊢
  exact lv_ldiv hx hb d h1 K1
def imax (x y : Int32) : Int32 := if x < y then y else x
def imin (x y : Int32) : Int32 := if y < x then y else x

theorem q_mmax (C : CX l k nL cc own Ts lev rt o) {x y : Int32} {i : Nat} (d : decode cc pc = .ok (.invokestatic i, 3)) (h1 : Cond.methodLink own i Lib.Math.max.name ∈ Ts) (h2 : Cond.static Lib.Math.max.name ∈ Ts) (h3 : Cond.initialized "java/lang/Math" ∈ Ts) (h4 : Cond.code Lib.Math.max.name Lib.Math.max.code 2 (some .int) ∈ Ts) (hlev : 1 ≤ lev) (hroom : (st.map fun v => v.category).sum ≤ 8) (K : GW k T (pc + 3) lv (.int (imax x y) :: st)) : GW k T pc lv (.int y :: .int x :: st) := by
  obtain ⟨p, e, s, args, below, meth, c, hw, hH, hx, hb, hml, hnL, hown, hts, hK, hA, hr, hlk⟩ := C
  intro H locs ls hP hD hS hl
  have K1 := K H locs ls hP hD hS hl
  rw [hw] at K1 ⊢
  exact va_mmax hx hb (by rw [hml, hl.1, hnL]) hown (hts _ h1) (hts _ h2) (hts _ h3) (hts _ h4) hlev (by show _ + 13 ≤ 60 * lev; omega) (Nat.le_refl 0) (Nat.le_refl 0) d K1
theorem q_mmin (C : CX l k nL cc own Ts lev rt o) {x y : Int32} {i : Nat} (d : decode cc pc = .ok (.invokestatic i, 3)) (h1 : Cond.methodLink own i Lib.Math.min.name ∈ Ts) (h2 : Cond.static Lib.Math.min.name ∈ Ts) (h3 : Cond.initialized "java/lang/Math" ∈ Ts) (h4 : Cond.code Lib.Math.min.name Lib.Math.min.code 2 (some .int) ∈ Ts) (hlev : 1 ≤ lev) (hroom : (st.map fun v => v.category).sum ≤ 8) (K : GW k T (pc + 3) lv (.int (imin x y) :: st)) : GW k T pc lv (.int y :: .int x :: st) := by
  obtain ⟨p, e, s, args, below, meth, c, hw, hH, hx, hb, hml, hnL, hown, hts, hK, hA, hr, hlk⟩ := C
  intro H locs ls hP hD hS hl
  have K1 := K H locs ls hP hD hS hl
  rw [hw] at K1 ⊢
  exact va_mmin hx hb (by rw [hml, hl.1, hnL]) hown (hts _ h1) (hts _ h2) (hts _ h3) (hts _ h4) hlev (by show _ + 13 ≤ 60 * lev; omega) (Nat.le_refl 0) (Nat.le_refl 0) d K1
def lmin (x y : Int64) : Int64 := if y < x then y else x
theorem q_mminL (C : CX l k nL cc own Ts lev rt o) {x y : Int64} {i : Nat} (d : decode cc pc = .ok (.invokestatic i, 3)) (h1 : Cond.methodLink own i Lib.MathLoose.min_long.x ∈ Ts) (h2 : Cond.static Lib.MathLoose.min_long.x ∈ Ts) (h3 : Cond.initialized "java/lang/Math" ∈ Ts) (h4 : Cond.code Lib.MathLoose.min_long.x Lib.MathLoose.min_long.code 4 (some .long) ∈ Ts) (hlev : 1 ≤ lev) (hroom : (st.map fun v => v.category).sum ≤ 8) (K : GW k T (pc + 3) lv (.long (lmin x y) :: st)) : GW k T pc lv (.long y :: .long x :: st) := by
  obtain ⟨p, e, s, args, below, meth, c, hw, hH, hx, hb, hml, hnL, hown, hts, hK, hA, hr, hlk⟩ := C
  intro H locs ls hP hD hS hl
  have K1 := K H locs ls hP hD hS hl
  rw [hw] at K1 ⊢
  exact va_mmin_long hx hb (by rw [hml, hl.1, hnL]) hown (hts _ h1) (hts _ h2) (hts _ h3) (hts _ h4) hlev (by show _ + 15 ≤ 60 * lev; omega) (Nat.le_refl 0) (Nat.le_refl 0) d K1
theorem q_case {x v : Int32} {A B : Option α} {G : Prop} (h : (if x = v then A else B) = some z) (kt : x = v → A = some z → G) (kf : x.toInt ≠ v.toInt → B = some z → G) : G := by
  by_cases hc : x = v
  · rw [if_pos hc] at h
    exact kt hc h
  · rw [if_neg hc] at h
    exact kf (fun e => hc (Int32.toInt_inj.mp e)) h
theorem q_tswIn (C : CX l k nL cc own Ts lev rt o) {dflt lo hi off : Int} {offs : Array Int} {len tgt : Nat} {x v : Int32} (d : decode cc pc = .ok (.tableswitch dflt lo hi offs, len)) (hx : x = v) (h1 : ¬ v.toInt < lo) (h2 : ¬ hi < v.toInt) (ho : offs[(v.toInt - lo).toNat]? = some off) (ht : (pc : Int) + off = (tgt : Int)) (K : GW k T tgt lv st) : GW k T pc lv (.int x :: st) := by
  obtain ⟨p, e, s, args, below, meth, c, hw, hH, hx2, hb, hml, hnL, hown, hts, hK, hA, hr, hlk⟩ := C
  subst hx
  intro H locs ls hP hD hS hl
  have K1 := K H locs ls hP hD hS hl
  rw [hw] at K1 ⊢
  exact lv_tableIn hx2 hb d h1 h2 ho ht K1
theorem q_tswOut (C : CX l k nL cc own Ts lev rt o) {dflt lo hi : Int} {offs : Array Int} {len tgt : Nat} {x : Int32} (d : decode cc pc = .ok (.tableswitch dflt lo hi offs, len)) (h1 : x.toInt < lo ∨ hi < x.toInt) (ht : (pc : Int) + dflt = (tgt : Int)) (K : GW k T tgt lv st) : GW k T pc lv (.int x :: st) := by
  obtain ⟨p, e, s, args, below, meth, c, hw, hH, hx2, hb, hml, hnL, hown, hts, hK, hA, hr, hlk⟩ := C
  intro H locs ls hP hD hS hl
  have K1 := K H locs ls hP hD hS hl
  rw [hw] at K1 ⊢
  exact lv_tableOut hx2 hb d h1 ht K1
/-! calls -/
theorem q_callV (C : CX l k nL cc own Ts lev rt o) {i : Nat} (d : decode cc pc = .ok (.invokevirtual i, 3)) {y : MethodName} {bytes : ByteArray} {maxL lv2 n q0 ci N b : Nat} {ret : Option FieldType} {ws ws' : List Cond} {Cn : String} {Tn : u_T} {fs : List Value} (As rest : List Value) {v : Option Value} {T1 : TS} {st' : List Value} (hM : Met l y ws (RM lv2) (PreX k.1 (.ref b :: As) T) (QQ k.1 v T1) 0 0 (xA k.1)) (hg : GoodIn Ts (wsV own i Cn y ws)) (hws : ws = Cond.code y bytes maxL ret :: ws') (hd : y.cls = Cn ∧ y.cls ≠ "java/lang/invoke/MethodHandle" ∧ y.cls ≠ "java/lang/invoke/VarHandle" ∧ (parseMethodDescriptor y.desc).map (fun d => d.parameters.length) = some n) (hlev : lv2 + 1 ≤ lev) (hmx : maxL ≤ 41) (he : (wsT k.1 T)[q0]? = some (b, .inr (ci, fs))) (hc : vwCl[ci]? = some (Cn, Tn, N)) (hn : As.length = n) (hst : st = As.reverse ++ .ref b :: rest) (hroom : (rest.map fun v => v.category).sum ≤ 8) (hst' : v.toList ++ rest = st') (K : GW k T1 (pc + 3) lv st') : GW k T pc lv st := by
  obtain ⟨p, e, s, args, below, meth, c, hw, hH, hx, hb, hml, hnL, hown, hts, hK, hA, hr, hlk⟩ := C
  intro H locs ls hP hD hS hl
  rw [hw]
  intro T0 hT X0
  obtain ⟨v', st₀, t, T', L, h0, X', hL, e1, e2, ⟨⟨hv, hwat⟩, hF⟩, stp⟩ := va_runV (R := RM lev) (As := As) (rest := rest) ⟨hx, hb, hml, hown, hts⟩ hM (cwV n hts hg hws rfl rfl hd ⟨hlev, by show 8 + (maxL + 11) + 60 * lv2 ≤ 60 * lev; omega⟩) ⟨preX_blind _ _ _, va_recv hK.1 hP hc he, fun U hU hW => ⟨rfl, ⟨by rw [hU]; exact hP, hD⟩, hK.warm hW, fun q hq => hA q (Nat.le_trans (hH ▸ hS.1) (hU ▸ hq))⟩⟩ (g := F0 k.2.2.2.2 pc ls st) rfl hn (hl.1.trans hnL) hst (lv_room hroom) d ⟨Nat.le_refl 0, Nat.le_refl 0⟩ T0 hT X0
  cases hv
  subst hst'
  have hz : st₀.heap.size ≤ t.heap.size := hF.1
  have hk1 := hF.2
  rw [h0] at hz hk1
  have K1 := K T'.heap (locs ++ L) ls (by rw [e1]; exact hwat.1) hwat.2 ⟨Nat.le_trans hS.1 (by rw [e1]; exact hz), fun q h1 h2 => by rw [e1, hk1 q (Nat.lt_of_lt_of_le h1 hS.1) h2]; exact hS.2.1 q h1 h2, fun q hq => by
      rcases List.mem_append.mp hq with h | h
      · exact hS.2.2 q h
      · exact hL q h⟩ hl
  rw [hw] at K1
  obtain ⟨t2, a1, b1⟩ := K1 T' rfl X'
  exact ⟨t2, stp t2 a1, b1⟩
theorem q_callS (C : CX l k nL cc own Ts lev rt o) {i : Nat} (d : decode cc pc = .ok (.invokestatic i, 3)) {y : MethodName} {bytes : ByteArray} {maxL lv2 n : Nat} {ret : Option FieldType} {ws ws' : List Cond} (As rest : List Value) {v : Option Value} {T1 : TS} {st' : List Value} (hM : Met l y ws (RM lv2) (PreX k.1 As T) (QQ k.1 v T1) 0 0 (xA k.1)) (hg : GoodIn Ts (va_wsS own i y ws)) (hws : ws = Cond.code y bytes maxL ret :: ws') (hd : y.cls ≠ "java/lang/invoke/MethodHandle" ∧ y.cls ≠ "java/lang/invoke/VarHandle" ∧ (parseMethodDescriptor y.desc).map (fun d => d.parameters.length) = some n) (hlev : lv2 + 1 ≤ lev) (hmx : maxL ≤ 41) (hn : As.length = n) (hst : st = As.reverse ++ rest) (hroom : (rest.map fun v => v.category).sum ≤ 8) (hst' : v.toList ++ rest = st') (K : GW k T1 (pc + 3) lv st') : GW k T pc lv st := by
  obtain ⟨p, e, s, args, below, meth, c, hw, hH, hx, hb, hml, hnL, hown, hts, hK, hA, hr, hlk⟩ := C
  intro H locs ls hP hD hS hl
  rw [hw]
  intro T0 hT X0
  obtain ⟨v', st₀, t, T', L, h0, X', hL, e1, e2, ⟨⟨hv, hwat⟩, hF⟩, stp⟩ := va_runS (R := RM lev) (As := As) (rest := rest) ⟨hx, hb, hml, hown, hts⟩ hM (va_cwS n hts hg hws rfl rfl hd ⟨hlev, by show 8 + (maxL + 11) + 60 * lv2 ≤ 60 * lev; omega⟩) ⟨preX_blind _ _ _, fun U hU hW => ⟨rfl, ⟨by rw [hU]; exact hP, hD⟩, hK.warm hW, fun q hq => hA q (Nat.le_trans (hH ▸ hS.1) (hU ▸ hq))⟩⟩ (g := F0 k.2.2.2.2 pc ls st) rfl hn (hl.1.trans hnL) hst (lv_room hroom) d ⟨Nat.le_refl 0, Nat.le_refl 0⟩ T0 hT X0
  cases hv
  subst hst'
  have hz : st₀.heap.size ≤ t.heap.size := hF.1
  have hk1 := hF.2
  rw [h0] at hz hk1
  have K1 := K T'.heap (locs ++ L) ls (by rw [e1]; exact hwat.1) hwat.2 ⟨Nat.le_trans hS.1 (by rw [e1]; exact hz), fun q h1 h2 => by rw [e1, hk1 q (Nat.lt_of_lt_of_le h1 hS.1) h2]; exact hS.2.1 q h1 h2, fun q hq => by
      rcases List.mem_append.mp hq with h | h
      · exact hS.2.2 q h
      · exact hL q h⟩ hl
  rw [hw] at K1
  obtain ⟨t2, a1, b1⟩ := K1 T' rfl X'
  exact ⟨t2, stp t2 a1, b1⟩
theorem q_callSN (C : CX l k nL cc own Ts lev rt o) {i : Nat} (d : decode cc pc = .ok (.invokestatic i, 3)) {y : MethodName} {host : String} {bytes : ByteArray} {maxL lv2 n : Nat} {ret : Option FieldType} {ws ws' : List Cond} (As rest : List Value) {v : Option Value} {T1 : TS} {st' : List Value} (hM : Met l y ws (RM lv2) (PreX k.1 As T) (QQ k.1 v T1) 0 0 (xA k.1)) (hg : GoodIn Ts ws) (hnw : Cond.methodLinkNest own i y host ∈ nwX) (hini : Cond.initialized y.cls ∈ Ts) (hstat : Cond.static y ∈ Ts) (hws : ws = Cond.code y bytes maxL ret :: ws') (hd : y.cls ≠ "java/lang/invoke/MethodHandle" ∧ y.cls ≠ "java/lang/invoke/VarHandle" ∧ (parseMethodDescriptor y.desc).map (fun d => d.parameters.length) = some n) (hlev : lv2 + 1 ≤ lev) (hmx : maxL ≤ 41) (hn : As.length = n) (hst : st = As.reverse ++ rest) (hroom : (rest.map fun v => v.category).sum ≤ 8) (hst' : v.toList ++ rest = st') (K : GW k T1 (pc + 3) lv st') : GW k T pc lv st := by
  obtain ⟨p, e, s, args, below, meth, c, hw, hH, hx, hb, hml, hnL, hown, hts, hK, hA, hr, hlk⟩ := C
  intro H locs ls hP hD hS hl
  rw [hw]
  intro T0 hT X0
  obtain ⟨v', st₀, t, T', L, h0, X', hL, e1, e2, ⟨⟨hv, hwat⟩, hF⟩, stp⟩ := va_runSN (R := RM lev) (As := As) (rest := rest) ⟨hx, hb, hml, hown, hts⟩ hM ⟨va_cnB n hts hg hws rfl rfl (hK.2.2 _ hnw) (hts _ hini) hd ⟨hlev, by show 8 + (maxL + 11) + 60 * lv2 ≤ 60 * lev; omega⟩, hts _ hstat, trivial⟩ ⟨preX_blind _ _ _, fun U hU hW => ⟨rfl, ⟨by rw [hU]; exact hP, hD⟩, hK.warm hW, fun q hq => hA q (Nat.le_trans (hH ▸ hS.1) (hU ▸ hq))⟩⟩ (g := F0 k.2.2.2.2 pc ls st) rfl hn (hl.1.trans hnL) hst (lv_room hroom) d ⟨Nat.le_refl 0, Nat.le_refl 0⟩ T0 hT X0
  cases hv
  subst hst'
  have hz : st₀.heap.size ≤ t.heap.size := hF.1
  have hk1 := hF.2
  rw [h0] at hz hk1
  have K1 := K T'.heap (locs ++ L) ls (by rw [e1]; exact hwat.1) hwat.2 ⟨Nat.le_trans hS.1 (by rw [e1]; exact hz), fun q h1 h2 => by rw [e1, hk1 q (Nat.lt_of_lt_of_le h1 hS.1) h2]; exact hS.2.1 q h1 h2, fun q hq => by
      rcases List.mem_append.mp hq with h | h
      · exact hS.2.2 q h
      · exact hL q h⟩ hl
  rw [hw] at K1
  obtain ⟨t2, a1, b1⟩ := K1 T' rfl X'
  exact ⟨t2, stp t2 a1, b1⟩
/-! returns, a method's start -/
theorem q_ireturn {r v : Int32} {T' : TS} (C : CX l k nL cc own Ts lev (some .int) (some (.int r), T')) (d : decode cc pc = .ok (.ireturn, 1)) (h : some (v, T) = some (r, T')) : GW k T pc lv [.int v] := by
  obtain ⟨p, e, s, args, below, meth, c, hw, hH, hx, hb, hml, hnL, hown, hts, hK, hA, hr, hlk⟩ := C
  cases h
  intro H locs ls hP hD hS hl
  rw [hw]
  exact W.iret hx hb hr (fun t ht hW => ⟨⟨rfl, ⟨by rw [ht]; exact hP, hD⟩⟩, (hH ▸ hS).F ht⟩) hS.2.2 d hlk
def rz (v : Int32) (T : TS) : Option (Int32 × TS) := if v = 0 ∨ v = 1 then some (v, T) else none
theorem q_zreturn {r v : Int32} {T' : TS} (C : CX l k nL cc own Ts lev (some .boolean) (some (.int r), T')) (d : decode cc pc = .ok (.ireturn, 1)) (h : rz v T = some (r, T')) : GW k T pc lv [.int v] := by
  obtain ⟨p, e, s, args, below, meth, c, hw, hH, hx, hb, hml, hnL, hown, hts, hK, hA, hr, hlk⟩ := C
  unfold rz at h
  split at h
  · rename_i hv
    cases h
    intro H locs ls hP hD hS hl
    rw [hw]
    exact W.zret hx hb hr (by rcases hv with rfl | rfl <;> rfl) (fun t ht hW => ⟨⟨rfl, ⟨by rw [ht]; exact hP, hD⟩⟩, (hH ▸ hS).F ht⟩) hS.2.2 d hlk
  · cases h
theorem q_lreturn {r v : Int64} {T' : TS} (C : CX l k nL cc own Ts lev (some .long) (some (.long r), T')) (d : decode cc pc = .ok (.lreturn, 1)) (h : some (v, T) = some (r, T')) : GW k T pc lv [.long v] := by
  obtain ⟨p, e, s, args, below, meth, c, hw, hH, hx, hb, hml, hnL, hown, hts, hK, hA, hr, hlk⟩ := C
  cases h
  intro H locs ls hP hD hS hl
  rw [hw]
  exact W.lret hx hb hr (fun t ht hW => ⟨⟨rfl, ⟨by rw [ht]; exact hP, hD⟩⟩, (hH ▸ hS).F ht⟩) hS.2.2 d hlk
theorem q_vreturn {T' : TS} (C : CX l k nL cc own Ts lev none (none, T')) (d : decode cc pc = .ok (.return_, 1)) (h : some T = some T') : GW k T pc lv [] := by
  obtain ⟨p, e, s, args, below, meth, c, hw, hH, hx, hb, hml, hnL, hown, hts, hK, hA, hr, hlk⟩ := C
  cases h
  intro H locs ls hP hD hS hl
  rw [hw]
  exact W.vret hx hb hr (fun t ht hW => ⟨⟨rfl, ⟨by rw [ht]; exact hP, hD⟩⟩, (hH ▸ hS).F ht⟩) hS.2.2 d hlk
theorem q_start {y : MethodName} {ws ws' : List Cond} {X : XT} {av : List Value} {v : Option Value} {T' : TS} {cc : ByteArray} {maxL : Nat} {ret : Option FieldType} (hy : plainName y.cls = true) (hws : ws = Cond.code y cc maxL ret :: ws') (hlen : (lg_sl av).length ≤ maxL)
    (body : ∀ k : KT, k.1 = X → CX l k maxL cc y.cls ws lev ret (v, T') → GW k T 0 (lv_args 0 av) []) : Met l y ws (RM lev) (PreX X av T) (QQ X v T') 0 0 (xA X) := by
  refine Met.ofW (cc := cc) (maxL := maxL) (ret := ret) hy hws ?_
  intro p e s m args below meth c s₁ B hml hv
  obtain ⟨rfl, ⟨hP, hD⟩, hK, hA⟩ := hv
  have hts := atoms_spec (ws := ws) B.pre
  have hown : s.vm.findClass y.cls = some m.cls := findClass_of_methodNamed B.named
  have K := body (X, (fun H locs g => W p l e (RM lev) s m av.toArray below meth c H locs 0 0 (MQ below (QQ X v T') av.toArray s 0 0 (xA X)) g), maxL, s.heap, m) rfl ⟨p, e, s, av.toArray, below, meth, c, rfl, rfl, B.exec, B.bytes, hml, rfl, hown, hts, hK, hA, B.returns, B.notSynchronized⟩
  have hl := lv_entry av (n := maxL) hlen
  rw [lg_entry_eq]
  exact K s.heap [] _ hP hD va_S.rf hl
end RULES
