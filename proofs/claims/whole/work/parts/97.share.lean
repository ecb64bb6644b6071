/-! ===== share: it answers or throws ===== -/
abbrev AE : String := "java/lang/ArithmeticException"
abbrev AEn : List String := ["java/lang/RuntimeException", "java/lang/Exception"]
/-- words of the throw that are no method's own -/
def bdW : List Cond := [.castable AE AE, .declares (Bundle.initS "java/lang/RuntimeException"), .declares (Bundle.initS "java/lang/Exception"), .declares (Bundle.initS Bundle.tN)]
theorem bdW.warm {s U : State} (hW : s.WarmedH U.vm) (h : ∀ w ∈ bdW, va_Nw w s) : ∀ w ∈ bdW, va_Nw w U := by
  intro w hw
  have hz := h w hw
  simp only [bdW, List.mem_cons, List.not_mem_nil, or_false] at hw
  rcases hw with rfl | rfl | rfl | rfl
  · exact va_Nw.warmC hW hz
  · exact va_Nw.warmD hW hz
  · exact va_Nw.warmD hW hz
  · exact va_Nw.warmD hW hz
theorem bdW.on : ∀ w ∈ bdW, w.onTables = true := by decide +kernel
/-- what a throw reads of the machine -/
def SX (X : XT) (U : State) : Prop := vx_Zq Bundle.tN "UNASSIGNED_STACK" Bundle.steD (xA X) U U.heap ∧ vx_Zq Bundle.tN "SUPPRESSED_SENTINEL" Bundle.listD (xA X) U U.heap ∧ (∃ sa, vk_R RX10 369 "v is 0" sa U) ∧ ∀ w ∈ bdW, va_Nw w U
theorem SX.at {X : XT} {s U : State} {H : Heap} {locs : List Loc} (h : SX X s) (hW : s.WarmedH U.vm) (hU : U.heap = H) (hS : va_S (xA X) s.heap H locs) : SX X U := by
  obtain ⟨h1, h2, ⟨sa, h3⟩, h4⟩ := h
  refine ⟨?_, ?_, ⟨sa, h3.warm hW⟩, bdW.warm hW h4⟩
  · rw [hU]
    exact vx_Zq.moved hW.alike (h1.kept hS.2.1)
  · rw [hU]
    exact vx_Zq.moved hW.alike (h2.kept hS.2.1)
theorem SX.same {X : XT} {s U : State} (h : SX X s) (hv : s.vm = U.vm) (hh : U.heap = s.heap) : SX X U := by
  obtain ⟨h1, h2, ⟨sa, h3⟩, h4⟩ := h
  refine ⟨?_, ?_, ⟨sa, vk_R.same hv.symm h3⟩, fun w hw => va_Nw.same (bdW.on w hw) hv (h4 w hw)⟩
  · rw [hh]
    exact vx_Zq.moved (by rw [hv]; exact Vm.Alike.refl U.vm) h1
  · rw [hh]
    exact vx_Zq.moved (by rw [hv]; exact Vm.Alike.refl U.vm) h2
def PreXS (X : XT) (av : List Value) (T : TS) : Array Value → State → Prop := fun a U => PreX X av T a U ∧ SX X U
theorem preXS_blind (X : XT) (av : List Value) (T : TS) : FrameBlind (PreXS X av T) := by
  intro a U g mk h
  exact ⟨preX_blind X av T a U g mk h.1, SX.same (s := U) (U := U.calling g mk a) h.2 rfl rfl⟩
/-- how it ends: with an answer, or with what it threw -/
def QXr (X : XT) (ro : Option Int32) (T : TS) : Array Value → State → Outcome → State → Prop := fun a st oc t => ∃ r, ro = some r ∧ QQ X (some (.int r)) T a st oc t
def QXt (X : XT) (ro : Option Int32) (T : TS) : String → State → State → Prop := fun E st t => ro = none ∧ E = AE ∧ wat X T t ∧ va_F (xA X) st t
def CYT (l : Launch) (k : KT) (nL : Nat) (cc : ByteArray) (own : String) (Ts : List Cond) (lev : Nat) (rt : Option FieldType) (R : Room) (nc ns : Nat) (Qf : List Frame → Array Value → State → State → Prop) : Prop :=
  ∃ (p : Program) (e : Env) (s : State) (args : Array Value) (below : List Frame) (meth : Method) (c : Code),
    (k.2.1 = (fun H locs g => W p l e R s k.2.2.2.2 args below meth c H locs nc ns (Qf below args s) g) ∧ k.2.2.2.1 = s.heap ∧ p.tables.exec = Jvm.exec ∧ c.code = cc ∧ c.maxLocals = nL ∧ k.2.2.1 = nL ∧ s.vm.findClass own = some k.2.2.2.2.cls ∧ (∀ w ∈ Ts, w.before args s = true) ∧ KX k.1 s ∧ (∀ q : Nat, s.heap.size ≤ q → xA k.1 q) ∧ meth.sig.returnType = rt ∧ meth.locks = false ∧ lev ≤ R.frames ∧ 60 * lev ≤ R.locals ∧ nc ≤ R.cells ∧ ns ≤ R.slots) ∧ (∀ x ∈ c.exceptionTable.toList, False) ∧ SX k.1 s
theorem CYT.y {l : Launch} {k : KT} {nL : Nat} {cc : ByteArray} {own : String} {Ts : List Cond} {lev : Nat} {rt : Option FieldType} {R : Room} {nc ns : Nat} {Qf : List Frame → Array Value → State → State → Prop} (h : CYT l k nL cc own Ts lev rt R nc ns Qf) : CY l k nL cc own Ts lev rt R nc ns Qf := by
  obtain ⟨p, e, s, args, below, meth, c, h1, -, -⟩ := h
  exact ⟨p, e, s, args, below, meth, c, h1⟩
/-- the end of a method that may throw: an answer -/
theorem y_iretX {l : Launch} {k : KT} {cc : ByteArray} {own : String} {Ts : List Cond} {nL lev : Nat} {R : Room} {nc ns : Nat} {T : TS} {pc : Nat} {lv : List (Nat × Value)} {v : Int32} {Qc : Array Value → State → Outcome → State → Prop} {XC : String → State → State → Prop} {mc ms : Nat} (C : CY l k nL cc own Ts lev (some .int) R nc ns (fun below args s => vx_MQ below Qc XC args s mc ms (xA k.1))) (hQ : ∀ a st oc t, QQ k.1 (some (.int v)) T a st oc t → Qc a st oc t) (h1 : nc ≤ mc) (h2 : ns ≤ ms) (d : decode cc pc = .ok (.ireturn, 1)) : GW k T pc lv [.int v] := by
  obtain ⟨p, e, s, args, below, meth, c, hw, hH, hx, hb, hml, hnL, hown, hts, hK, hA, hr, hlk, hRf, hRl, hRc, hRs⟩ := C
  intro H locs ls hP hD hS hl
  rw [hw]
  refine vx_ret ?_
  refine W.widen h1 h2 ?_
  have hS' : va_S (xA k.1) s.heap H locs := by rw [← hH]; exact hS
  exact W.iret hx hb hr (fun t ht hW => hQ _ _ _ _ ⟨⟨rfl, by rw [wat, ht]; exact ⟨hP, hD⟩⟩, hS'.F ht⟩) hS'.2.2 d hlk
def fX10_share (n : Nat) (p0 : Int32) (p1 : Int32) (p2 : Int32) (T : TS) : Option (Option Int32 × TS) := bd (fX5_isNumber n p0 T) (fun r_2 T_1 => if r_2 = 0 then some (some (-1000000 : Int32), T_1) else bd (fX10_within n p2 (0 : Int32) (1 : Int32) T_1) (fun r_4 T_3 => if ¬ r_4 = 0 then if ¬ p1 = 0 then bd (fX5_codeAt n p0 T_3) (fun r_6 T_5 => bd (fX4_spanOf n r_6 T_5) (fun r_8 T_7 => if ¬ p2 = 0 then nz p1 (some (some (r_8 - r_8 / p1 * p1), T_7)) else nz p1 (some (some (r_8 / p1), T_7)))) else some (none, T_3) else some (some (-1000000 : Int32), T_3)))
theorem inn_X10_share_10 : ∀ w ∈ u_ws RX10 TX10 15, w ∈ wsX10_share := by decide +kernel
theorem atS_bad : ∀ w ∈ (vx_atS RX10 371 AE AEn).filter (fun w => !goodWord w), w ∈ bdW := by decide +kernel
theorem atS_in : ∀ w ∈ (vx_atS RX10 371 AE AEn).filter goodWord, w ∈ wsX10_share := fun w h => List.mem_cons_of_mem _ (List.mem_append_right _ h)
theorem atS_ot : ∀ w ∈ Cond.classLink RX10 367 AE :: Cond.initialized AE :: vx_atS RX10 371 AE AEn, vx_ot w = true := by decide +kernel
theorem wat_kept {X : XT} {T : TS} {H : Heap} {t : State} (hP : va_P (xD X) vwCl (wsT X T) H) (hD : va_D (xA X) (wsT X T)) (h : ∀ q : Nat, q < H.size → t.heap[q]? = H[q]?) : wat X T t := ⟨hP.kept (fun k q hq => h q.1 ((hP k q hq).lt)), hD⟩
set_option maxHeartbeats 4000000 in
set_option maxRecDepth 100000 in
theorem mtX10_share (l : Launch) (hl : l.stackTraces = false) (X : XT) (n : Nat) (p0 : Int32) (p1 : Int32) (p2 : Int32) (T T' : TS) (ro : Option Int32) (h : fX10_share n p0 p1 p2 T = some (ro, T')) : vx_Met l yX10_share wsX10_share (RN 13 1 6) (PreXS X [.ref (ad X 0), .int p0, .int p1, .int p2] T) (QXr X ro T') (QXt X ro T') 1 6 (xA X) := by
  refine vx_ofW (cc := cX10_share) (maxL := 5) (ret := some .int) (by decide) rfl ?_
  intro p e s m args below meth c s₁ B hml htab hv
  obtain ⟨⟨rfl, ⟨hP, hD⟩, hK, hA⟩, hSX⟩ := hv
  have hts := atoms_spec (ws := wsX10_share) B.pre
  have hown : s.vm.findClass RX10 = some m.cls := findClass_of_methodNamed B.named
  have body : ∀ k : KT, k.1 = X → CYT l k 5 cX10_share RX10 wsX10_share 13 (some .int) (RN 13 1 6) 0 0 (fun below args s => vx_MQ below (QXr X ro T') (QXt X ro T') args s 1 6 (xA X)) → GW k T 0 [(0, .ref (ad X 0)), (1, .int p0), (2, .int p1), (3, .int p2)] [] := by
    intro k hk C3
    subst hk
    have C := C3.y
    unfold fX10_share at h
    refine y_aload_n C dX10_share_0 rfl 0 rfl ?_
    refine y_get (j := 1) C dX10_share_1 (wE_0 _ _) rfl (by decide) rfl inn_X10_share_10 (by decide +kernel) rfl ?_
    refine y_iload_n C dX10_share_4 rfl 1 rfl ?_
    obtain ⟨r_2, T_1, hc, h⟩ := bd_some h
    refine y_callV (st' := [.int r_2]) C dX10_share_5 [.int p0] [] (mtX5_isNumber l _ n _ _ _ _ hc) gX10_share_X5_isNumber rfl hd_X5_isNumber (by decide) (by decide) (wE_4 _ _) rfl rfl rfl (Nat.le_of_ble_eq_true rfl) rfl ?_
    clear hc
    refine y_if_eq (tgt := 20) C dX10_share_8 (by decide) h (fun c h => ?_) (fun c h => ?_)
    · refine y_ldcw (v := -1000000) C dX10_share_20 (by decide +kernel) ?_
      cases h
      exact y_iretX C (fun a st oc t z => ⟨_, rfl, z⟩) (Nat.zero_le _) (Nat.zero_le _) dX10_share_23
    · refine y_iload_n C dX10_share_11 rfl 3 rfl ?_
      refine y_iconst (v := 0) C dX10_share_12 (by decide) ?_
      refine y_iconst (v := 1) C dX10_share_13 (by decide) ?_
      obtain ⟨r_4, T_3, hc, h⟩ := bd_some h
      refine y_callS (st' := [.int r_4]) C dX10_share_14 [.int p2, .int (0 : Int32), .int (1 : Int32)] [] (mtX10_within l _ n _ _ _ _ _ _ hc) gX10_share_X10_within rfl hd_X10_within (by decide) (by decide) rfl rfl (Nat.le_of_ble_eq_true rfl) rfl ?_
      clear hc
      refine y_if_ne (tgt := 24) C dX10_share_17 (by decide) h (fun c h => ?_) (fun c h => ?_)
      · refine y_iload_n C dX10_share_24 rfl 2 rfl ?_
        refine y_if_ne (tgt := 39) C dX10_share_25 (by decide) h (fun c h => ?_) (fun c h => ?_)
        · refine y_aload_n C dX10_share_39 rfl 0 rfl ?_
          refine y_get (j := 0) C dX10_share_40 (wE_0 _ _) rfl (by decide) rfl inn_X10_share_10 (by decide +kernel) rfl ?_
          refine y_aload_n C dX10_share_43 rfl 0 rfl ?_
          refine y_get (j := 1) C dX10_share_44 (wE_0 _ _) rfl (by decide) rfl inn_X10_share_10 (by decide +kernel) rfl ?_
          refine y_iload_n C dX10_share_47 rfl 1 rfl ?_
          obtain ⟨r_6, T_5, hc, h⟩ := bd_some h
          refine y_callV (st' := [.int r_6, .ref (ad k.1 1)]) C dX10_share_48 [.int p0] [.ref (ad k.1 1)] (mtX5_codeAt l _ n _ _ _ _ hc) gX10_share_X5_codeAt rfl hd_X5_codeAt (by decide) (by decide) (wE_4 _ _) rfl rfl rfl (Nat.le_of_ble_eq_true rfl) rfl ?_
          clear hc
          obtain ⟨r_8, T_7, hc, h⟩ := bd_some h
          refine y_callV (st' := [.int r_8]) C dX10_share_51 [.int r_6] [] (mtX4_spanOf l _ n _ _ _ _ hc) gX10_share_X4_spanOf rfl hd_X4_spanOf (by decide) (by decide) (wE_1 _ _) rfl rfl rfl (Nat.le_of_ble_eq_true rfl) rfl ?_
          clear hc
          refine y_istore (lv' := [(0, .ref (ad k.1 0)), (1, .int p0), (2, .int p1), (3, .int p2), (4, .int r_8)]) C dX10_share_54 (by decide) rfl ?_
          refine y_iload_n C dX10_share_56 rfl 3 rfl ?_
          refine y_if_ne (tgt := 67) C dX10_share_57 (by decide) h (fun c h => ?_) (fun c h => ?_)
          · refine y_iload C dX10_share_67 4 rfl ?_
            refine y_iload_n C dX10_share_69 rfl 2 rfl ?_
            refine y_irem C dX10_share_70 h (fun h => ?_)
            cases h
            exact y_iretX C (fun a st oc t z => ⟨_, rfl, z⟩) (Nat.zero_le _) (Nat.zero_le _) dX10_share_71
          · refine y_iload C dX10_share_60 4 rfl ?_
            refine y_iload_n C dX10_share_62 rfl 2 rfl ?_
            refine y_idiv C dX10_share_63 h (fun h => ?_)
            refine y_goto (tgt := 71) C dX10_share_64 (by decide) ?_
            cases h
            exact y_iretX C (fun a st oc t z => ⟨_, rfl, z⟩) (Nat.zero_le _) (Nat.zero_le _) dX10_share_71
        · cases h
          obtain ⟨p, e, s, args, below, meth, c, ⟨hw, hH, hx, hb, hml, hnL, hown, hts, hK, hA, hr, hlk, hRf, hRl, hRc, hRs⟩, hex, hU, hN, ⟨sa, hstr⟩, hcast⟩ := C3
          intro H locs ls hP hD hS hl2
          rw [hw]
          have hS' : va_S (xA k.1) s.heap H locs := by rw [← hH]; exact hS
          refine vx_throwSW (names := AEn) (text := "v is 0") (cls := AE) (ik := 367) (is := 369) (ic := 371) (sa := sa) (A := xA k.1) hx hb hl hown (by decide +kernel) (by decide +kernel) (hts _ (by decide +kernel)) (hts _ (by decide +kernel)) hstr ?_ atS_ot hU hN hS' (by rw [hml, ← hnL]; exact hl2.1) dX10_share_28 dX10_share_31 dX10_share_32 dX10_share_35 dX10_share_38 (fun x hx => (hex x hx).elim) (Nat.le_of_ble_eq_true rfl) (Nat.le_of_ble_eq_true rfl) (Nat.le_of_ble_eq_true rfl) (Nat.le_of_ble_eq_true rfl) hlk ?_ hS'.2.2 (Nat.le_refl _) (Nat.le_refl _)
          · exact vx_hat (fun w hw => hts w (atS_in w hw)) atS_bad (fun w hw => va_Nw.use (bdW.on w hw) (hcast w hw))
          · intro t hal hz hk
            refine ⟨rfl, rfl, wat_kept hP hD hk, Nat.le_trans hS'.1 hz, fun q hq hnA => ?_⟩
            rw [hk q (Nat.lt_of_lt_of_le hq hS'.1)]
            exact hS'.2.1 q hq hnA
      · refine y_ldcw (v := -1000000) C dX10_share_20 (by decide +kernel) ?_
        cases h
        exact y_iretX C (fun a st oc t z => ⟨_, rfl, z⟩) (Nat.zero_le _) (Nat.zero_le _) dX10_share_23
  have K := body (X, (fun H locs g => W p l e (RN 13 1 6) s m [Value.ref (ad X 0), .int p0, .int p1, .int p2].toArray below meth c H locs 0 0 (vx_MQ below (QXr X ro T') (QXt X ro T') [Value.ref (ad X 0), .int p0, .int p1, .int p2].toArray s 1 6 (xA X)) g), 5, s.heap, m) rfl ⟨p, e, s, _, below, meth, c, ⟨rfl, rfl, B.exec, B.bytes, hml, rfl, hown, hts, hK, hA, B.returns, B.notSynchronized, Nat.le_refl _, Nat.le_refl _, Nat.zero_le _, Nat.zero_le _⟩, htab, hSX⟩
  have hl := lv_entry [Value.ref (ad X 0), .int p0, .int p1, .int p2] (n := 5) (Nat.le_of_ble_eq_true rfl)
  rw [lg_entry_eq]
  exact K s.heap [] _ hP hD va_S.rf hl
/-! the law's own share -/
def fL_share (n : Nat) (p0 : Int32) (p1 : Int32) (p2 : Int32) (T : TS) : Option (Int32 × TS) := match fX10_share n p0 p1 p2 T with
  | some (some r, T1) => some (0, sL T1 66 0 (Int32.toInt64 r))
  | some (none, T1) => some (1, T1)
  | none => none
theorem hd_X10_share : yX10_share.cls = RX10 ∧ yX10_share.cls ≠ "java/lang/invoke/MethodHandle" ∧ yX10_share.cls ≠ "java/lang/invoke/VarHandle" ∧ (parseMethodDescriptor yX10_share.desc).map (fun d => d.parameters.length) = some 3 := by decide +kernel
set_option maxHeartbeats 4000000 in
set_option maxRecDepth 100000 in
theorem mtL_share (l : Launch) (hl : l.stackTraces = false) (X : XT) (n : Nat) (p0 : Int32) (p1 : Int32) (p2 : Int32) (T T' : TS) (r : Int32) (h : fL_share n p0 p1 p2 T = some (r, T')) : vx_Met l yL_share wsL_share (RN 14 1 6) (PreXS X [.ref (ad X 0), .int p0, .int p1, .int p2, .ref (ad X 66)] T) (QQ X (some (.int r)) T') (fun _ _ _ => False) 1 6 (xA X) := by
  refine vx_ofWH (cc := cL_share) (maxL := 6) (ret := some .int) (hh := [(0, 12, 15, 13)]) (by decide) rfl ?_
  intro p e s m args below meth c s₁ B hml hv
  obtain ⟨⟨rfl, ⟨hP, hD⟩, hK, hA⟩, hSX⟩ := hv
  have hts := atoms_spec (ws := wsL_share) B.pre
  have hown : s.vm.findClass RL = some m.cls := findClass_of_methodNamed B.named
  have htab : c.exceptionTable.toList = tableOf [(0, 12, 15, 13)] := vx_table (x := yL_share) B (hts _ List.mem_cons_self)
  obtain ⟨⟨ro, T1⟩, hs1⟩ : ∃ z, fX10_share n p0 p1 p2 T = some z := by
    unfold fL_share at h
    cases h1 : fX10_share n p0 p1 p2 T with
    | none => rw [h1] at h; cases h
    | some z => exact ⟨z, rfl⟩
  unfold fL_share at h
  rw [hs1] at h
  have mk : ∀ nc ns : Nat, nc ≤ 1 → ns ≤ 6 → CY l ((X, (fun H locs g => W p l e (RN 14 1 6) s m [Value.ref (ad X 0), .int p0, .int p1, .int p2, .ref (ad X 66)].toArray below meth c H locs nc ns (vx_MQ below (QQ X (some (.int r)) T') (fun _ _ _ => False) [Value.ref (ad X 0), .int p0, .int p1, .int p2, .ref (ad X 66)].toArray s 1 6 (xA X)) g), 6, s.heap, m) : KT) 6 cL_share RL wsL_share 14 (some .int) (RN 14 1 6) nc ns (fun below args s => vx_MQ below (QQ X (some (.int r)) T') (fun _ _ _ => False) args s 1 6 (xA X)) := fun nc ns h1 h2 => ⟨p, e, s, _, below, meth, c, rfl, rfl, B.exec, B.bytes, hml, rfl, hown, hts, hK, hA, B.returns, B.notSynchronized, Nat.le_refl _, Nat.le_refl _, h1, h2⟩
  have C0 := mk 0 0 (Nat.zero_le _) (Nat.zero_le _)
  have C1 := mk 1 6 (Nat.le_refl _) (Nat.le_refl _)
  have K : GW ((X, (fun H locs g => W p l e (RN 14 1 6) s m [Value.ref (ad X 0), .int p0, .int p1, .int p2, .ref (ad X 66)].toArray below meth c H locs 0 0 (vx_MQ below (QQ X (some (.int r)) T') (fun _ _ _ => False) [Value.ref (ad X 0), .int p0, .int p1, .int p2, .ref (ad X 66)].toArray s 1 6 (xA X)) g), 6, s.heap, m) : KT) T 0 [(0, .ref (ad X 0)), (1, .int p0), (2, .int p1), (3, .int p2), (4, .ref (ad X 66))] [] := by
    refine y_aload C0 dL_share_0 4 rfl ?_
    refine y_iconst (v := 0) C0 dL_share_2 (by decide) ?_
    refine y_aload_n C0 dL_share_3 rfl 0 rfl ?_
    refine y_iload_n C0 dL_share_4 rfl 1 rfl ?_
    refine y_iload_n C0 dL_share_5 rfl 2 rfl ?_
    refine y_iload_n C0 dL_share_6 rfl 3 rfl ?_
    intro H locs ls hP hD hS hl2
    show W p l e (RN 14 1 6) s m _ below meth c H locs 0 0 _ _
    intro T0 hT X0
    rcases vx_runV (R := RN 14 1 6) (As := [.int p0, .int p1, .int p2]) (rest := [.int 0, .ref (ad X 66)]) ⟨B.exec, B.bytes, hml, hown, hts⟩ (mtX10_share l hl X n p0 p1 p2 T T1 ro hs1) (cwV 3 hts gL_share_X10_share rfl rfl rfl hd_X10_share ⟨Nat.le_of_ble_eq_true rfl, Nat.le_of_ble_eq_true rfl⟩) ⟨preXS_blind _ _ _, va_recv hK.1 hP (ci := 9) rfl (wE_0 X T), fun U hU hW => ⟨⟨rfl, ⟨by rw [hU]; exact hP, hD⟩, hK.warm hW, fun q hq => hA q (Nat.le_trans hS.1 (hU ▸ hq))⟩, hSX.at hW hU hS⟩⟩ (g := F0 m 7 ls [.int p2, .int p1, .int p0, .ref (ad X 0), .int 0, .ref (ad X 66)]) rfl rfl hl2.1 rfl (lv_room (Nat.le_of_ble_eq_true rfl)) dL_share_7 ⟨Nat.le_of_ble_eq_true rfl, Nat.le_of_ble_eq_true rfl⟩ T0 hT X0 with ⟨v, st₀, t, T2, L, h0, X', hL, e1, e2, ⟨rr, hro, ⟨hv, hwat⟩, hF⟩, stp⟩ | ⟨q, st₀, t, T2, L, E, ce, h0, X', hL, e1, e2, ⟨hro, hE, hwat, hF⟩, hce, hcv, hcl, stp⟩
    · cases hv
      subst hro
      cases h
      obtain ⟨k1, k2, k3⟩ := vx_keep h0 e1 hS (fun _ _ z => z) (fun _ z => z) hL hF
      have K2 : GW ((X, (fun H locs g => W p l e (RN 14 1 6) s m [Value.ref (ad X 0), .int p0, .int p1, .int p2, .ref (ad X 66)].toArray below meth c H locs 1 6 (vx_MQ below (QQ X (some (.int 0)) (sL T1 66 0 (Int32.toInt64 rr))) (fun _ _ _ => False) [Value.ref (ad X 0), .int p0, .int p1, .int p2, .ref (ad X 66)].toArray s 1 6 (xA X)) g), 6, s.heap, m) : KT) T1 10 [(0, .ref (ad X 0)), (1, .int p0), (2, .int p1), (3, .int p2), (4, .ref (ad X 66))] [.int rr, .int 0, .ref (ad X 66)] := by
        refine y_i2l C1 dL_share_10 ?_
        refine y_last (z := ((0 : Int32), sL T1 66 0 (Int32.toInt64 rr))) (f := fun T9 => some ((0 : Int32), T9)) C1 dL_share_11 (wE_66 _ _) (wS_66 _ _) (show ck (0 : Int32) 1 (nm (sL T1 66 0 (Int32.toInt64 rr)) (fun T9 => some ((0 : Int32), T9))) = some ((0 : Int32), sL T1 66 0 (Int32.toInt64 rr)) from ck_nI (j := 0) (by decide) (by decide)) (fun T9 h9 => ?_)
        cases h9
        refine y_goto (tgt := 19) C1 dL_share_12 (by decide) ?_
        refine y_iconst (v := 0) C1 dL_share_19 (by decide) ?_
        exact y_iretX C1 (fun a st oc t z => z) (Nat.le_refl _) (Nat.le_refl _) dL_share_20
      have K1 := K2 T2.heap (locs ++ L) ls (by rw [e1]; exact hwat.1) hwat.2 k3 hl2
      obtain ⟨t2, a1, b1⟩ := K1 T2 rfl X'
      exact ⟨t2, stp t2 a1, b1⟩
    · subst hro
      subst hE
      cases h
      obtain ⟨k1, k2, k3⟩ := vx_keep h0 e1 hS (fun _ _ z => z) (fun _ z => z) hL hF
      have K2 : ∀ a : Nat, GW ((X, (fun H locs g => W p l e (RN 14 1 6) s m [Value.ref (ad X 0), .int p0, .int p1, .int p2, .ref (ad X 66)].toArray below meth c H locs 1 6 (vx_MQ below (QQ X (some (.int 1)) T') (fun _ _ _ => False) [Value.ref (ad X 0), .int p0, .int p1, .int p2, .ref (ad X 66)].toArray s 1 6 (xA X)) g), 6, s.heap, m) : KT) T' 15 [(0, .ref (ad X 0)), (1, .int p0), (2, .int p1), (3, .int p2), (4, .ref (ad X 66))] [.ref a] := by
        intro a
        refine y_astore (lv' := [(0, .ref (ad X 0)), (1, .int p0), (2, .int p1), (3, .int p2), (4, .ref (ad X 66)), (5, .ref a)]) C1 dL_share_15 (by decide) rfl ?_
        refine y_iconst (v := 1) C1 dL_share_17 (by decide) ?_
        exact y_iretX C1 (fun a st oc t z => z) (Nat.le_refl _) (Nat.le_refl _) dL_share_18
      have K1 := K2 q T2.heap (locs ++ L) ls (by rw [e1]; exact hwat.1) hwat.2 k3 hl2
      have Kc : vx_W p l e (RN 14 1 6) s m [Value.ref (ad X 0), .int p0, .int p1, .int p2, .ref (ad X 66)].toArray below meth c T2.heap (locs ++ L) 1 6 (vx_MQ below (QQ X (some (.int 1)) T') (fun _ _ _ => False) [Value.ref (ad X 0), .int p0, .int p1, .int p2, .ref (ad X 66)].toArray s 1 6 (xA X)) (F0 m 7 ls [.int 0, .ref (ad X 66)]) q := vx_catch (own := RL) (name := AE) (E := AE) (ce := ce) hown [] { startPc := 0, endPc := 12, handlerPc := 15, catchType := 13 } [] htab (fun z hz => nomatch hz) rfl (by decide) (hts _ (by decide +kernel)) (va_Nw.use rfl (hSX.2.2.2 _ List.mem_cons_self)) (by rw [e1]; exact hce) hcv hcl K1
      obtain ⟨t2, a1, b1⟩ := Kc T2 rfl X'
      exact ⟨t2, stp.trans a1, b1⟩
  have hl3 := lv_entry [Value.ref (ad X 0), .int p0, .int p1, .int p2, .ref (ad X 66)] (n := 6) (Nat.le_of_ble_eq_true rfl)
  rw [lg_entry_eq]
  exact K s.heap [] _ hP hD va_S.rf hl3
