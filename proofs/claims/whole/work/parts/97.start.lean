/-! ===== the first memory ===== -/
def k0_a (xs : Nat → Int32) : sc_t := sc_z (sm_T0 xs) 3
def k0_b (xs : Nat → Int32) : sc_t := (c7_init (k0_a xs)).getD (k0_a xs)
def k0_c (xs : Nat → Int32) : sc_t := sc_z (k0_b xs) 52
def k0_d (xs : Nat → Int32) : sc_t := (c8_init (k0_c xs)).getD (k0_c xs)
set_option maxHeartbeats 4000000 in
set_option maxRecDepth 100000 in
theorem k0_c7 (xs : Nat → Int32) : c7_init (k0_a xs) = some (k0_b xs) := rfl
set_option maxHeartbeats 4000000 in
set_option maxRecDepth 100000 in
theorem k0_c8 (xs : Nat → Int32) : c8_init (k0_c xs) = some (k0_d xs) := rfl
set_option maxHeartbeats 4000000 in
set_option maxRecDepth 100000 in
theorem k0_rok (xs : Nat → Int32) : sc_rok (k0_d xs) = true := rfl
set_option maxHeartbeats 4000000 in
set_option maxRecDepth 100000 in
theorem k0_law (F N : Nat) (xs : Nat → Int32) : cL_law F N (sm_T0 xs) = xL_law_18 F N F 0 ((k0_d xs).1, (k0_d xs).2.1, 42, 43, none) := by
  unfold cL_law
  rw [tt_n, show sc_z (sm_T0 xs) 3 = k0_a xs from rfl, k0_c7, Option.bind_some, tt_n, show sc_z (k0_b xs) 52 = k0_c xs from rfl, k0_c8, Option.bind_some, if_pos (k0_rok xs)]
/-- what both hold at the start -/
def k0_z : zz := (fun _ => none, fun _ _ => 0, fun _ => none, fun _ _ => 0, (0, 0, fun _ => 0, fun _ => 1), fun _ => none, (0, fun _ _ => 0), 0, 0, 1, 0, fun _ => 0)
theorem k0_zw : zw k0_z := by
  refine ⟨fun r n h => ?_, fun r n h => ?_, ⟨?_, ?_, fun h hh => ?_, fun h hh => ?_⟩, fun k w h => ?_, ?_, fun e h => ?_, fun t k _ _ => ?_⟩
  · cases h
  · cases h
  · show (0 : Nat) < 120; omega
  · show (0 : Nat) ≤ 6; omega
  · show (0 : Nat) < 8; omega
  · show (1 : Nat) ≤ 9; omega
  · cases h
  · show (0 : Nat) ≤ 12; omega
  · exact absurd (show e < 0 from h) (by omega)
  · exact ⟨by show (-128 : Int) ≤ (0 : Int32).toInt; decide, by show (0 : Int32).toInt ≤ 127; decide⟩
