/-! THE CLAIM OUT OF ONE WALK OF THE LAW'S BODY. Your part is whole_start (and what it stands on); all else here is the same for every law, but numbers. -/
def R_law : String := "ReelSlitterLaw"
def lw_P (b : Addr) (xs : List Int32) (args : Array Value) (s : State) : Prop := args = #[.ref b] ∧ s.IntsAt b xs ∧ xs.length ≤ 3584 ∧ (Jvm.Cond.and given_1 narrow_1).before args s = true
def lw_Q (_ : Array Value) (s : State) (o : Outcome) (t : State) : Prop := o = .returned (some (.int 1)) ∧ Framed s o t [] 601024 7293034
def lw_Z (below : List Frame) (a : Array Value) (s : State) : State → Prop := fun t => ∃ o, t.status = .running ∧ Ended t below o ∧ lw_Q a s o t
/-- the law's own end, with 1 on the stack, nothing written that was there before, its room as the claim has it -/
theorem lw_ret {p : Program} {l : Launch} {e : Env} {s : State} {m : MethodId} {below : List Frame} {meth : Method} {c : Code} {b : Nat} (hx : p.tables.exec = Jvm.exec) (hb : c.code = code) (hr : meth.sig.returnType = ret) (hlocks : meth.locks = false) {pc : Nat} {H : Heap} {ls : Array Slot} (hdg : decode code pc = .ok (.ireturn, 1)) : W p l e room_1 s m #[Value.ref b] below meth c H [] 601024 7293034 (lw_Z below #[Value.ref b] s) (F0 m pc ls [.int 1]) := by
  intro T hT X
  obtain ⟨fs, hret, hrun, hended, hW, hframe⟩ := X.leave (v := some (.int 1)) (hlocks := hlocks) (fun h => by rw [hr] at h; cases h)
  have hmeth' : T.vm.method? m = some meth := X.method'
  refine ⟨T.setFrames fs, ?_, .returned (some (.int 1)), hrun, hended, rfl, ⟨_, rfl⟩, hW, hframe⟩
  jvm_step X.here [X.here.top, hx, hb, hdg, hmeth', hr, ret, narrow_b1]
  (try refine ⟨rfl, ?_⟩); (try refine ⟨rfl, ?_⟩)
  first | (intro acts; rw [hret _ acts rfl rfl rfl]) | rw [hret _ _ rfl rfl rfl]
  exact Steps.refl _
/-- what holds at the law's entry: the machine, the code, the tables' words (any of lw_tbl by 'hts w (by decide +kernel)'), the script of L ints xs at the cell b, what the Statement gives of the start (any of its parts by flat_of_before) -/
def lw_At (p : Program) (s : State) (m : MethodId) (meth : Method) (c : Code) (b L : Nat) (xs : Nat → Int32) : Prop :=
  p.tables.exec = Jvm.exec ∧ c.code = code ∧ meth.sig.returnType = ret ∧ c.maxLocals = 7 ∧ s.vm.findClass R_law = some m.cls ∧ (∀ w ∈ lw_tbl, w.before #[Value.ref b] s = true) ∧ va_X b L xs s s.heap ∧ b < s.heap.size ∧ meth.locks = false ∧ (Jvm.Cond.and given_1 narrow_1).before #[Value.ref b] s = true
/-! ===== rules of the law's own body ===== -/
abbrev lvL (X : XT) (b i : Nat) : List (Nat × Value) := [(0, .ref b), (1, .ref (ad X 0)), (2, .ref (ad X 41)), (3, .ref (ad X 66)), (4, .int (nI i))]
def CL (l : Launch) (k : KT) (b L : Nat) (xs : Nat → Int32) (nc ns : Nat) : Prop :=
  ∃ (p : Program) (e : Env) (s : State) (args : Array Value) (below : List Frame) (meth : Method) (c : Code),
    (k.2.1 = (fun H locs g => W p l e room_1 s k.2.2.2.2 args below meth c H locs nc ns (lw_Z below args s) g) ∧ k.2.2.2.1 = s.heap ∧ p.tables.exec = Jvm.exec ∧ c.code = cL_law ∧ c.maxLocals = 7 ∧ k.2.2.1 = 7 ∧ s.vm.findClass RL = some k.2.2.2.2.cls ∧ (∀ w ∈ wsL_law, w.before args s = true) ∧ KX k.1 s ∧ (∀ q : Nat, s.heap.size ≤ q → xA k.1 q) ∧ meth.sig.returnType = ret ∧ meth.locks = false ∧ 100 ≤ room_1.frames ∧ 60 * 100 ≤ room_1.locals ∧ nc ≤ room_1.cells ∧ ns ≤ room_1.slots) ∧ va_X b L xs s s.heap ∧ b < s.heap.size ∧ xA k.1 = (fun q => s.heap.size ≤ q) ∧ SX k.1 s ∧ args = #[Value.ref b]
def KE (l : Launch) (k : KT) (b L : Nat) (xs : Nat → Int32) (nc ns j : Nat) : Prop := ∀ (k' : KT) (T' : TS) (nc' ns' : Nat), k'.1 = k.1 → CL l k' b L xs nc' ns' → nc' ≤ nc + 1 → ns' ≤ ns + 8 → Inv (j + 1) T' → GW k' T' 1027 (lvL k'.1 b (7 * j)) []
theorem vin {j L : Nat} (c : Nat) (hc : c < 7) (hj : 7 * j + 7 ≤ L) (hL : L ≤ 3584) : vp_in (nI (7 * j) + nI c) L := by
  rw [nI_add]
  exact vp_in_nI (by omega) (by omega)
section LAW
variable {l : Launch} {k : KT} {b L : Nat} {xs : Nat → Int32} {nc ns pc : Nat} {T : TS} {lv : List (Nat × Value)} {st : List Value}
theorem CL.y (C : CL l k b L xs nc ns) : CY l k 7 cL_law RL wsL_law 100 ret room_1 nc ns (fun below args s => lw_Z below args s) := by
  obtain ⟨p, e, s, args, below, meth, c, h, -, -, -, -, -⟩ := C
  exact ⟨p, e, s, args, below, meth, c, h⟩
theorem L_sld (C : CL l k b L xs nc ns) {i : Int32} (hin : vp_in i L) (d : decode cL_law pc = .ok (.iaload, 1)) (K : GW k T (pc + 1) lv (.int (xs i.toNatClampNeg) :: st)) : GW k T pc lv (.int i :: .ref b :: st) := by
  obtain ⟨p, e, s, args, below, meth, c, ⟨hw, hH, hx, hb, hml, hnL, hown, hts, hK, hA, hr, hlk, hRf, hRl, hRc, hRs⟩, hX, hbl, hxa, hSX, harg⟩ := C
  intro H locs ls hP hD hS hl
  have K1 := K H locs ls hP hD hS hl
  rw [hw] at K1 ⊢
  exact va_sld hx hb hX hbl (by rw [hxa]; exact Nat.not_le.mpr hbl) (hH ▸ hS) hin d K1
theorem L_slen (C : CL l k b L xs nc ns) (d : decode cL_law pc = .ok (.arraylength, 1)) (K : GW k T (pc + 1) lv (.int (nI L) :: st)) : GW k T pc lv (.ref b :: st) := by
  obtain ⟨p, e, s, args, below, meth, c, ⟨hw, hH, hx, hb, hml, hnL, hown, hts, hK, hA, hr, hlk, hRf, hRl, hRc, hRs⟩, hX, hbl, hxa, hSX, harg⟩ := C
  intro H locs ls hP hD hS hl
  have K1 := K H locs ls hP hD hS hl
  rw [hw] at K1 ⊢
  exact va_slen hx hb hX hbl (by rw [hxa]; exact Nat.not_le.mpr hbl) (hH ▸ hS) d K1
theorem L_end (C : CL l k b L xs nc ns) (d : decode cL_law pc = .ok (.ireturn, 1)) : GW k T pc lv [.int 1] := by
  obtain ⟨p, e, s, args, below, meth, c, ⟨hw, hH, hx, hb, hml, hnL, hown, hts, hK, hA, hr, hlk, hRf, hRl, hRc, hRs⟩, hX, hbl, hxa, hSX, harg⟩ := C
  intro H locs ls hP hD hS hl
  rw [hw]
  subst harg
  refine va_forget (fun q hq => ?_) ?_
  · have h9 := hS.2.2 q hq
    rw [hxa] at h9
    exact h9
  · refine W.widen (k := 601024) (n := 7293034) hRc hRs ?_
    exact lw_ret hx hb hr hlk d
/-- a call that makes something -/
theorem L_callM (C : CL l k b L xs nc ns) {i : Nat} (d : decode cL_law pc = .ok (.invokevirtual i, 3)) {y : MethodName} {bytes : ByteArray} {maxL lv2 n q0 ci N a mc ms : Nat} {ret2 : Option FieldType} {ws ws' : List Cond} {Cn : String} {Tn : u_T} {fs : List Value} (As rest : List Value) {v : Option Value} {T1 : TS} {st' : List Value} (hM : Met l y ws (RN lv2 mc ms) (PreX k.1 (.ref a :: As) T) (QQ k.1 v T1) mc ms (xA k.1)) (hg : GoodIn wsL_law (wsV RL i Cn y ws)) (hws : ws = Cond.code y bytes maxL ret2 :: ws') (hd : y.cls = Cn ∧ y.cls ≠ "java/lang/invoke/MethodHandle" ∧ y.cls ≠ "java/lang/invoke/VarHandle" ∧ (parseMethodDescriptor y.desc).map (fun d => d.parameters.length) = some n) (hlev : lv2 + 1 ≤ 100) (hmx : maxL ≤ 41) (he : (wsT k.1 T)[q0]? = some (a, .inr (ci, fs))) (hc : vwCl[ci]? = some (Cn, Tn, N)) (hn : As.length = n) (hst : st = As.reverse ++ .ref a :: rest) (hroom : (rest.map fun v => v.category).sum ≤ 8) (hst' : v.toList ++ rest = st') (hcells : nc + mc ≤ room_1.cells) (hslots : ns + ms ≤ room_1.slots) (K : ∀ k' : KT, k'.1 = k.1 → CL l k' b L xs (nc + mc) (ns + ms) → GW k' T1 (pc + 3) lv st') : GW k T pc lv st := by
  obtain ⟨p, e, s, args, below, meth, c, ⟨hw, hH, hx, hb, hml, hnL, hown, hts, hK, hA, hr, hlk, hRf, hRl, hRc, hRs⟩, hX, hbl, hxa, hSX, harg⟩ := C
  intro H locs ls hP hD hS hl
  rw [hw]
  intro T0 hT X0
  obtain ⟨v', st₀, t, T', L9, h0, X', hL, e1, e2, ⟨⟨hv, hwat⟩, hF⟩, stp⟩ := va_runV (R := room_1) (As := As) (rest := rest) ⟨hx, hb, hml, hown, hts⟩ hM (cwV n hts hg hws rfl rfl hd ⟨Nat.le_trans hlev hRf, Nat.le_trans (show 8 + (maxL + 11) + 60 * lv2 ≤ 60 * 100 by omega) hRl⟩) ⟨preX_blind _ _ _, va_recv hK.1 hP hc he, fun U hU hW => ⟨rfl, ⟨by rw [hU]; exact hP, hD⟩, hK.warm hW, fun q hq => hA q (Nat.le_trans (hH ▸ hS.1) (hU ▸ hq))⟩⟩ (g := F0 k.2.2.2.2 pc ls st) rfl hn (hl.1.trans hnL) hst (lv_room hroom) d ⟨hcells, hslots⟩ T0 hT X0
  cases hv
  subst hst'
  have hz : st₀.heap.size ≤ t.heap.size := hF.1
  have hk1 := hF.2
  rw [h0] at hz hk1
  have K1 := K (k.1, (fun H locs g => W p l e room_1 s k.2.2.2.2 args below meth c H locs (nc + mc) (ns + ms) (lw_Z below args s) g), k.2.2) rfl ⟨p, e, s, args, below, meth, c, ⟨rfl, hH, hx, hb, hml, hnL, hown, hts, hK, hA, hr, hlk, hRf, hRl, hcells, hslots⟩, hX, hbl, hxa, hSX, harg⟩ T'.heap (locs ++ L9) ls (by rw [e1]; exact hwat.1) hwat.2 ⟨Nat.le_trans hS.1 (by rw [e1]; exact hz), fun q h1 h2 => by rw [e1, hk1 q (Nat.lt_of_lt_of_le h1 hS.1) h2]; exact hS.2.1 q h1 h2, fun q hq => by
      rcases List.mem_append.mp hq with h | h
      · exact hS.2.2 q h
      · exact hL q h⟩ hl
  obtain ⟨t2, a1, b1⟩ := K1 T' rfl X'
  exact ⟨t2, stp t2 a1, b1⟩
theorem hdM_L_share : yL_share.cls ≠ "java/lang/invoke/MethodHandle" ∧ yL_share.cls ≠ "java/lang/invoke/VarHandle" ∧ (parseMethodDescriptor yL_share.desc).map (fun d => d.parameters.length) = some 5 := by decide +kernel
theorem L_share (C : CL l k b L xs nc ns) (hl : l.stackTraces = false) {n : Nat} {p0 p1 p2 r : Int32} {T1 : TS} (h : fL_share n p0 p1 p2 T = some (r, T1)) (d : decode cL_law pc = .ok (.invokestatic 130, 3)) (hcells : nc + 1 ≤ room_1.cells) (hslots : ns + 6 ≤ room_1.slots) (K : ∀ k' : KT, k'.1 = k.1 → CL l k' b L xs (nc + 1) (ns + 6) → GW k' T1 (pc + 3) lv [.int r]) : GW k T pc lv [.ref (ad k.1 66), .int p2, .int p1, .int p0, .ref (ad k.1 0)] := by
  obtain ⟨p, e, s, args, below, meth, c, ⟨hw, hH, hx, hb, hml, hnL, hown, hts, hK, hA, hr, hlk, hRf, hRl, hRc, hRs⟩, hX, hbl, hxa, hSX, harg⟩ := C
  intro H locs ls hP hD hS hl2
  rw [hw]
  have hS' : va_S (xA k.1) s.heap H locs := by rw [← hH]; exact hS
  intro T0 hT X0
  rcases vx_runSX (R := room_1) (As := [.ref (ad k.1 0), .int p0, .int p1, .int p2, .ref (ad k.1 66)]) (rest := []) ⟨hx, hb, hml, hown, hts⟩ (mtL_share l hl k.1 n p0 p1 p2 T T1 r h) (vx_cwSW 5 hts gL_law_L_share rfl rfl rfl hdM_L_share ⟨Nat.le_of_ble_eq_true rfl, Nat.le_of_ble_eq_true rfl⟩) ⟨preXS_blind _ _ _, fun U hU hW => ⟨⟨rfl, ⟨by rw [hU]; exact hP, hD⟩, hK.warm hW, fun q hq => hA q (Nat.le_trans hS'.1 (by rw [hU] at hq; exact hq))⟩, hSX.at hW hU hS'⟩⟩ (g := F0 k.2.2.2.2 pc ls [.ref (ad k.1 66), .int p2, .int p1, .int p0, .ref (ad k.1 0)]) rfl rfl (hl2.1.trans hnL) rfl (lv_room (Nat.le_of_ble_eq_true rfl)) d ⟨hcells, hslots⟩ T0 hT X0 with ⟨v', st₀, t, T', L9, h0, X', hL, e1, e2, ⟨⟨hv, hwat⟩, hF⟩, stp⟩ | ⟨q, st₀, t, T2, L9, E, ce, h0, X', hL, e1, e2, hq, -⟩
  · cases hv
    have hz : st₀.heap.size ≤ t.heap.size := hF.1
    have hk1 := hF.2
    rw [h0] at hz hk1
    have K1 := K (k.1, (fun H locs g => W p l e room_1 s k.2.2.2.2 args below meth c H locs (nc + 1) (ns + 6) (lw_Z below args s) g), k.2.2) rfl ⟨p, e, s, args, below, meth, c, ⟨rfl, hH, hx, hb, hml, hnL, hown, hts, hK, hA, hr, hlk, hRf, hRl, hcells, hslots⟩, hX, hbl, hxa, hSX, harg⟩ T'.heap (locs ++ L9) ls (by rw [e1]; exact hwat.1) hwat.2 ⟨Nat.le_trans hS.1 (by rw [e1]; exact hz), fun q h1 h2 => by rw [e1, hk1 q (Nat.lt_of_lt_of_le h1 hS.1) h2]; exact hS.2.1 q h1 h2, fun q hq => by
        rcases List.mem_append.mp hq with h | h
        · exact hS.2.2 q h
        · exact hL q h⟩ hl2
    obtain ⟨t2, a1, b1⟩ := K1 T' rfl X'
    exact ⟨t2, stp t2 a1, b1⟩
  · exact hq.elim
end LAW
