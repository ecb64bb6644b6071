/-! ===== the start ===== -/
def T0 : TS := (fun k => if k = 14 then 100 else if k = 50 then 1000 else if k = 52 then 10 else if k = 204 then 1 else if k = 305 then 1 else if k = 1506 then 1 else if k = 2051 then 1000 else if k = 2053 then 10 else if k = 2061 then 1 else if k = 2062 then 100 else 0, fun _ => 0, fun _ _ => 0, fun _ _ => 0, fun k i => if k = 46 then 67 + i else if k = 48 then 3067 + i else if k = 50 then 3127 + i else if k = 52 then 3187 + i else 3247 + i)
theorem T0_vd : vd T0 = 0 := by decide +kernel
theorem T0_vns : vns T0 = 0 := by decide +kernel
theorem inv0 : Inv 0 T0 := by
  have d0 := T0_vd
  have n0 := T0_vns
  refine ⟨?_, ?_, ?_, ?_, ?_, ?_, ?_, ?_, ?_, ?_⟩
  · refine ⟨by decide +kernel, by decide +kernel, by decide +kernel, fun i hi => ?_, fun i j hi => ?_, fun p hp => ?_, fun p q hp hq => ?_, fun i hi => ?_⟩
    · omega
    · omega
    · omega
    · omega
    · omega
  · refine ⟨by decide +kernel, by decide +kernel, by rw [n0]; decide, fun s hs => ?_, fun s hs => ?_, fun s t hs ht h => ?_⟩
    · omega
    · show 3067 ≤ 3067 + s ∧ 3067 + s < 3127
      omega
    · have h : 3067 + s = 3067 + t := h
      omega
  · refine ⟨by decide +kernel, by decide +kernel, by decide +kernel, by decide +kernel, fun h => ?_⟩
    exact absurd h (by decide +kernel)
  · exact ⟨fun _ _ => rfl, fun _ _ => rfl, fun _ _ => rfl, fun _ _ => rfl⟩
  · refine ⟨⟨1, by decide, by decide, by decide +kernel, by decide +kernel⟩, ⟨100, by decide, by decide, by decide +kernel, by decide +kernel⟩, fun i hi => ⟨0, 0, 0, by decide, by decide, by decide, rfl, rfl, rfl, rfl, rfl, rfl⟩⟩
  · exact ⟨0, by decide, by decide +kernel, by decide +kernel, fun j hj => absurd hj (Nat.not_lt_zero j), fun i j hi hj => absurd hj (Nat.not_lt_zero j)⟩
  · exact ⟨0, by decide, by decide +kernel, by decide +kernel, fun j hj => absurd hj (Nat.not_lt_zero j)⟩
  · exact ⟨rfl, rfl, rfl, by decide +kernel, rfl, rfl, rfl⟩
  · exact ⟨by decide +kernel, fun h => absurd h (by decide +kernel)⟩
  · exact ⟨by decide +kernel, fun h => absurd h (by decide +kernel)⟩
/-- the cells by their numbers -/
theorem wsC_congr {X : XT} {h0 : Nat} {q q' : Nat → Nat} (h : ∀ k, 1 ≤ k → k < 41 → q k = q' k) : wsC X h0 q = wsC X h0 q' := by
  unfold wsC
  rw [h 1 (by decide) (by decide), h 2 (by decide) (by decide), h 3 (by decide) (by decide), h 4 (by decide) (by decide), h 5 (by decide) (by decide), h 6 (by decide) (by decide), h 7 (by decide) (by decide), h 8 (by decide) (by decide), h 9 (by decide) (by decide), h 10 (by decide) (by decide), h 11 (by decide) (by decide), h 12 (by decide) (by decide), h 13 (by decide) (by decide), h 14 (by decide) (by decide), h 15 (by decide) (by decide), h 16 (by decide) (by decide), h 17 (by decide) (by decide), h 18 (by decide) (by decide), h 19 (by decide) (by decide), h 20 (by decide) (by decide), h 21 (by decide) (by decide), h 22 (by decide) (by decide), h 23 (by decide) (by decide), h 24 (by decide) (by decide), h 25 (by decide) (by decide), h 26 (by decide) (by decide), h 27 (by decide) (by decide), h 28 (by decide) (by decide), h 29 (by decide) (by decide), h 30 (by decide) (by decide), h 31 (by decide) (by decide), h 32 (by decide) (by decide), h 33 (by decide) (by decide), h 34 (by decide) (by decide), h 35 (by decide) (by decide), h 36 (by decide) (by decide), h 37 (by decide) (by decide), h 38 (by decide) (by decide), h 39 (by decide) (by decide), h 40 (by decide) (by decide)]
theorem wsM_congr {X : XT} {h0 : Nat} {q q' : Nat → Nat} (h : ∀ k, 42 ≤ k → k ≠ 66 → q k = q' k) : wsM X h0 q = wsM X h0 q' := by
  have e : ∀ m, 67 ≤ m → (fun i => some (q (m + i))) = fun i => some (q' (m + i)) := fun m hm => funext fun i => by rw [h (m + i) (by omega) (by omega)]
  unfold wsM
  rw [h 42 (by decide) (by decide), h 43 (by decide) (by decide), h 44 (by decide) (by decide), h 45 (by decide) (by decide), h 46 (by decide) (by decide), h 47 (by decide) (by decide), h 48 (by decide) (by decide), h 49 (by decide) (by decide), h 50 (by decide) (by decide), h 51 (by decide) (by decide), h 52 (by decide) (by decide), h 53 (by decide) (by decide), h 54 (by decide) (by decide), h 55 (by decide) (by decide), h 56 (by decide) (by decide), h 57 (by decide) (by decide), h 58 (by decide) (by decide), h 59 (by decide) (by decide), h 60 (by decide) (by decide), h 61 (by decide) (by decide), h 62 (by decide) (by decide), h 63 (by decide) (by decide), h 64 (by decide) (by decide), h 65 (by decide) (by decide), e 67 (by decide), e 3067 (by decide), e 3127 (by decide), e 3187 (by decide), e 3247 (by decide)]
theorem wsQ_congr {X : XT} {q q' : Nat → Nat} (h : ∀ k, 42 ≤ k → k ≠ 66 → q k = q' k) : wsQ X q = wsQ X q' := by
  unfold wsQ
  exact List.map_congr_left (fun j _ => by rw [h (67 + j) (by omega) (by omega)])
set_option maxRecDepth 100000 in
theorem wsE_start (X : XT) : (wsC X (ad X 0) (ad X) ++ wsM X (ad X 41) (ad X)) ++ [(ad X 66, .inl (xJ X, 1, .inr (.inl (fun _ => 0))))] = wsE X T0 := rfl
theorem wsR_start (X : XT) : wsQ X (ad X) = wsR X T0 := rfl
