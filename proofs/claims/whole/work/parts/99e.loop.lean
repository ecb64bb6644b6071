/-! ===== the law's loop ===== -/
theorem and31 (x : Int32) : ∃ v : Nat, v < 32 ∧ x &&& 31 = nI v := by
  refine ⟨(x &&& 31).toBitVec.toNat, ?_, ?_⟩
  · rw [show (x &&& 31).toBitVec = x.toBitVec &&& 31#32 from rfl, BitVec.toNat_and]
    exact Nat.lt_of_le_of_lt Nat.and_le_right (by decide)
  · apply Int32.toBitVec_inj.mp
    show (x &&& 31).toBitVec = BitVec.ofNat 32 _
    rw [BitVec.ofNat_toNat, BitVec.setWidth_eq]
theorem gt7 {L j : Nat} (hL : L ≤ 3584) (hj : j ≤ 512) : nI L - 7 < nI (7 * j) ↔ ¬ 7 * j + 7 ≤ L := by
  have e : (nI L - 7).toInt = (L : Int) - 7 := pk_sub_toInt (a := L) (b := 7) (by omega) (by decide)
  rw [i_lt_int, e, nI_toInt (by omega)]
  omega
section LOOP
variable {l : Launch} {k : KT} {b L : Nat} {xs : Nat → Int32} {nc ns j : Nat} {T : TS}
theorem law_exit (C : CL l k b L xs nc ns) (hL : L ≤ 3584) (hj : j ≤ 512) (h : ¬ 7 * j + 7 ≤ L) : GW k T 23 (lvL k.1 b (7 * j)) [] := by
  have Cy := C.y
  refine y_iload Cy dL_law_23 4 rfl ?_
  refine y_aload_n Cy dL_law_25 rfl 0 rfl ?_
  refine L_slen C dL_law_26 ?_
  refine y_bipush (v := 7) Cy dL_law_27 (by decide) ?_
  refine y_isub Cy dL_law_29 ?_
  refine y_icmp_gt (tgt := 1033) (z := ()) (A := some ()) (B := none) Cy dL_law_30 (by decide) (if_pos ((gt7 hL hj).mpr h)) (fun _ _ => ?_) (fun _ q => nomatch q)
  refine y_iconst (v := 1) Cy dL_law_1033 (by decide) ?_
  exact L_end C dL_law_1034
set_option maxHeartbeats 4000000 in
set_option maxRecDepth 100000 in
theorem law_turn (hl : l.stackTraces = false) (C : CL l k b L xs nc ns) (hL : L ≤ 3584) (hj : j ≤ 512) (h7 : 7 * j + 7 ≤ L) (hI : Inv j T) (hc1 : nc + 1 ≤ room_1.cells) (hs1 : ns + 8 ≤ room_1.slots) (Ke : KE l k b L xs nc ns j) : GW k T 23 (lvL k.1 b (7 * j)) [] := by
  have Cy := C.y
  refine y_iload Cy dL_law_23 4 rfl ?_
  refine y_aload_n Cy dL_law_25 rfl 0 rfl ?_
  refine L_slen C dL_law_26 ?_
  refine y_bipush (v := 7) Cy dL_law_27 (by decide) ?_
  refine y_isub Cy dL_law_29 ?_
  refine y_icmp_gt (tgt := 1033) (z := ()) (A := none) (B := some ()) Cy dL_law_30 (by decide) (if_neg (fun q => (gt7 hL hj).mp q h7)) (fun _ q => nomatch q) (fun _ _ => ?_)
  refine y_aload_n Cy dL_law_33 rfl 0 rfl ?_
  refine y_iload Cy dL_law_34 4 rfl ?_
  refine L_sld C (vp_in_nI (by omega) (by omega)) dL_law_36 ?_
  refine y_bipush (v := 31) Cy dL_law_37 (by decide) ?_
  refine y_iand Cy dL_law_39 ?_
  obtain ⟨v, hv, ev⟩ := and31 (xs (Int32.toNatClampNeg (nI (7 * j))))
  rw [ev]
  by_cases h26 : 26 ≤ v
  · refine y_tswOut (tgt := 1027) Cy dL_law_40 (Or.inr (by rw [nI_toInt (by omega)]; omega)) (by decide) ?_
    exact Ke k T _ _ rfl C (Nat.le_succ _) (Nat.le_add_right _ _) hI.up
  · clear ev
    have hv2 : v = 0 ∨ v = 1 ∨ v = 2 ∨ v = 3 ∨ v = 4 ∨ v = 5 ∨ v = 6 ∨ v = 7 ∨ v = 8 ∨ v = 9 ∨ v = 10 ∨ v = 11 ∨ v = 12 ∨ v = 13 ∨ v = 14 ∨ v = 15 ∨ v = 16 ∨ v = 17 ∨ v = 18 ∨ v = 19 ∨ v = 20 ∨ v = 21 ∨ v = 22 ∨ v = 23 ∨ v = 24 ∨ v = 25 := by omega
    clear hv h26
    revert hv2
    intro hv2
    rcases hv2 with rfl | rfl | rfl | rfl | rfl | rfl | rfl | rfl | rfl | rfl | rfl | rfl | rfl | rfl | rfl | rfl | rfl | rfl | rfl | rfl | rfl | rfl | rfl | rfl | rfl | rfl
    · exact y_tswIn (v := nI 0) (off := 120) (tgt := 160) Cy dL_law_40 rfl (by decide) (by decide) (by decide +kernel) (by decide) (lc_mill C hL h7 hI Ke)
    · exact y_tswIn (v := nI 1) (off := 169) (tgt := 209) Cy dL_law_40 rfl (by decide) (by decide) (by decide +kernel) (by decide) (lc_strip C hL h7 hI Ke)
    · exact y_tswIn (v := nI 2) (off := 206) (tgt := 246) Cy dL_law_40 rfl (by decide) (by decide) (by decide +kernel) (by decide) (lc_width C hL h7 hI Ke)
    · exact y_tswIn (v := nI 3) (off := 243) (tgt := 283) Cy dL_law_40 rfl (by decide) (by decide) (by decide +kernel) (by decide) (lc_order C hL h7 hI Ke)
    · exact y_tswIn (v := nI 4) (off := 280) (tgt := 320) Cy dL_law_40 rfl (by decide) (by decide) (by decide +kernel) (by decide) (lc_length C hL h7 hI Ke)
    · exact y_tswIn (v := nI 5) (off := 305) (tgt := 345) Cy dL_law_40 rfl (by decide) (by decide) (by decide +kernel) (by decide) (lc_about C hL h7 hI Ke)
    · exact y_tswIn (v := nI 6) (off := 342) (tgt := 382) Cy dL_law_40 rfl (by decide) (by decide) (by decide +kernel) (by decide) (lc_patterns C hL h7 hI Ke)
    · exact y_tswIn (v := nI 7) (off := 355) (tgt := 395) Cy dL_law_40 rfl (by decide) (by decide) (by decide +kernel) (by decide) (lc_pattern C hL h7 hI Ke)
    · exact y_tswIn (v := nI 8) (off := 393) (tgt := 433) Cy dL_law_40 rfl (by decide) (by decide) (by decide +kernel) (by decide) (lc_find C hL h7 hI Ke)
    · exact y_tswIn (v := nI 9) (off := 480) (tgt := 520) Cy dL_law_40 rfl (by decide) (by decide) (by decide +kernel) (by decide) (lc_price C hL h7 hI Ke)
    · exact y_tswIn (v := nI 10) (off := 517) (tgt := 557) Cy dL_law_40 rfl (by decide) (by decide) (by decide +kernel) (by decide) (lc_best C hL h7 hI Ke)
    · exact y_tswIn (v := nI 11) (off := 530) (tgt := 570) Cy dL_law_40 rfl (by decide) (by decide) (by decide +kernel) (by decide) (lc_bound C hL h7 hI Ke)
    · exact y_tswIn (v := nI 12) (off := 543) (tgt := 583) Cy dL_law_40 rfl (by decide) (by decide) (by decide +kernel) (by decide) (lc_greedy C hL h7 hI Ke)
    · exact y_tswIn (v := nI 13) (off := 556) (tgt := 596) Cy dL_law_40 rfl (by decide) (by decide) (by decide +kernel) (by decide) (lc_fewest C hL h7 hI Ke)
    · exact y_tswIn (v := nI 14) (off := 569) (tgt := 609) Cy dL_law_40 rfl (by decide) (by decide) (by decide +kernel) (by decide) (lc_slot C hL h7 hI Ke)
    · exact y_tswIn (v := nI 15) (off := 606) (tgt := 646) Cy dL_law_40 rfl (by decide) (by decide) (by decide +kernel) (by decide) (lc_drop C hL h7 hI Ke)
    · exact y_tswIn (v := nI 16) (off := 631) (tgt := 671) Cy dL_law_40 rfl (by decide) (by decide) (by decide +kernel) (by decide) (lc_slotted C hL h7 hI Ke)
    · exact y_tswIn (v := nI 17) (off := 668) (tgt := 708) Cy dL_law_40 rfl (by decide) (by decide) (by decide +kernel) (by decide) (lc_plan C hL h7 hI Ke)
    · exact y_tswIn (v := nI 18) (off := 693) (tgt := 733) Cy dL_law_40 rfl (by decide) (by decide) (by decide +kernel) (by decide) (lc_line C hL h7 hI Ke hc1 hs1)
    · exact y_tswIn (v := nI 19) (off := 706) (tgt := 746) Cy dL_law_40 rfl (by decide) (by decide) (by decide +kernel) (by decide) (lc_lot C hL h7 hI Ke)
    · exact y_tswIn (v := nI 20) (off := 771) (tgt := 811) Cy dL_law_40 rfl (by decide) (by decide) (by decide +kernel) (by decide) (lc_lotted C hL h7 hI Ke)
    · exact y_tswIn (v := nI 21) (off := 808) (tgt := 848) Cy dL_law_40 rfl (by decide) (by decide) (by decide +kernel) (by decide) (lc_cut C hL h7 hI Ke)
    · exact y_tswIn (v := nI 22) (off := 857) (tgt := 897) Cy dL_law_40 rfl (by decide) (by decide) (by decide +kernel) (by decide) (lc_area C hL h7 hI Ke)
    · exact y_tswIn (v := nI 23) (off := 883) (tgt := 923) Cy dL_law_40 rfl (by decide) (by decide) (by decide +kernel) (by decide) (lc_keep C hL h7 hI Ke)
    · exact y_tswIn (v := nI 24) (off := 894) (tgt := 934) Cy dL_law_40 rfl (by decide) (by decide) (by decide +kernel) (by decide) (lc_undo C hL h7 hI Ke)
    · exact y_tswIn (v := nI 25) (off := 907) (tgt := 947) Cy dL_law_40 rfl (by decide) (by decide) (by decide +kernel) (by decide) (lc_share hl C hL h7 hI Ke hc1 hs1)
theorem law_loop (hl : l.stackTraces = false) (hL : L ≤ 3584) : ∀ (d j : Nat) (k : KT) (T : TS) (nc ns : Nat), 512 ≤ j + d → j ≤ 512 → CL l k b L xs nc ns → nc ≤ 4000 + j → ns ≤ 60000 + 8 * j → Inv j T → GW k T 23 (lvL k.1 b (7 * j)) [] := by
  intro d
  induction d with
  | zero =>
    intro j k T nc ns hd hj C hc hs hI
    exact law_exit C hL hj (by omega)
  | succ d ih =>
    intro j k T nc ns hd hj C hc hs hI
    by_cases h7 : 7 * j + 7 ≤ L
    · refine law_turn hl C hL hj h7 hI (show nc + 1 ≤ 601024 by omega) (show ns + 8 ≤ 7293034 by omega) ?_
      intro k' T' nc' ns' hk C' h1 h2 hI'
      have Cy' := C'.y
      have e : nI (7 * j) + 7 = nI (7 * (j + 1)) := nI_add (7 * j) 7
      refine y_iinc (j := 4) (v := 7) (lv' := [(0, .ref b), (1, .ref (ad k'.1 0)), (2, .ref (ad k'.1 41)), (3, .ref (ad k'.1 66)), (4, .int (nI (7 * j) + 7))]) Cy' dL_law_1027 rfl (by decide) (by decide) rfl ?_
      refine y_goto (tgt := 23) Cy' dL_law_1030 (by decide) ?_
      rw [e]
      exact ih (j + 1) k' T' nc' ns' (by omega) (by omega) C' (by omega) (by omega) hI'
    · exact law_exit C hL hj h7
end LOOP
