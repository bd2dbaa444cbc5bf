def k0_S (xs : Nat → Int32) : sm_t := ((k0_d xs).1, (k0_d xs).2.1, 42, 43, none)
set_option maxHeartbeats 4000000 in
set_option maxRecDepth 100000 in
theorem k0_xi (xs : Nat → Int32) : xi k0_z (k0_S xs) (k0_S xs) := by
  refine ⟨fun _ _ => ⟨rfl, rfl⟩, fun r h => ?_, fun r k h _ => ?_, fun r h => ?_, fun r k h _ => ?_, ⟨rfl, rfl, fun h hh => absurd (show h < 0 from hh) (by omega), fun h hh => ?_⟩, fun k h => ⟨?_, fun w hw => by cases hw⟩, ⟨rfl, fun e i h => absurd (show e < 0 from h) (by omega)⟩, ⟨rfl, rfl, rfl, rfl, fun f h => ?_⟩, Or.inl ⟨rfl, rfl⟩⟩
  · exact match r, h with | 0, _ => rfl | 1, _ => rfl | 2, _ => rfl | 3, _ => rfl | 4, _ => rfl | 5, _ => rfl | k + 6, h => absurd h (by omega)
  · exact match r, h with | 0, _ => rfl | 1, _ => rfl | 2, _ => rfl | 3, _ => rfl | 4, _ => rfl | 5, _ => rfl | k + 6, h => absurd h (by omega)
  · exact match r, h with | 0, _ => rfl | 1, _ => rfl | 2, _ => rfl | 3, _ => rfl | k + 4, h => absurd h (by omega)
  · exact match r, h with | 0, _ => rfl | 1, _ => rfl | 2, _ => rfl | 3, _ => rfl | k + 4, h => absurd h (by omega)
  · have hh0 : h = 0 := by have : h ≤ 0 := hh; omega
    subst hh0
    rfl
  · exact match k, h with | 0, _ => rfl | 1, _ => rfl | 2, _ => rfl | k + 3, h => absurd h (by omega)
  · exact match f, h with | 0, _ => rfl | 1, _ => rfl | 2, _ => rfl | 3, _ => rfl | 4, _ => rfl | 5, _ => rfl | k + 6, h => absurd h (by omega)
set_option maxHeartbeats 4000000 in
set_option maxRecDepth 100000 in
theorem k0_mi (xs : Nat → Int32) : mi k0_z (k0_S xs) (k0_S xs) := by
  refine ⟨⟨fun _ _ => ⟨rfl, rfl⟩, rfl⟩, fun r h => ?_, fun r k _ _ => rfl, fun r h => ?_, fun r k _ _ => rfl, ⟨rfl, rfl, fun h hh => ?_, fun h hh => ?_⟩, ⟨rfl, fun k h => ⟨?_, fun w hw => by cases hw⟩⟩, ⟨rfl, fun e i h => absurd (show e < 0 from h) (by omega)⟩, ⟨rfl, rfl, rfl, rfl, fun f h => ?_⟩, rfl⟩
  · exact match r, h with | 0, _ => rfl | 1, _ => rfl | 2, _ => rfl | 3, _ => rfl | 4, _ => rfl | 5, _ => rfl | k + 6, h => absurd h (by omega)
  · exact match r, h with | 0, _ => rfl | 1, _ => rfl | 2, _ => rfl | 3, _ => rfl | k + 4, h => absurd h (by omega)
  · exact match h, hh with | 0, _ => rfl | 1, _ => rfl | 2, _ => rfl | 3, _ => rfl | 4, _ => rfl | 5, _ => rfl | k + 6, h => absurd h (by omega)
  · exact match h, hh with | 0, _ => rfl | 1, _ => rfl | 2, _ => rfl | 3, _ => rfl | 4, _ => rfl | 5, _ => rfl | 6, _ => rfl | k + 7, h => absurd h (by omega)
  · exact match k, h with | 0, _ => rfl | 1, _ => rfl | 2, _ => rfl | k + 3, h => absurd h (by omega)
  · exact match f, h with | 0, _ => rfl | 1, _ => rfl | 2, _ => rfl | 3, _ => rfl | 4, _ => rfl | 5, _ => rfl | k + 6, h => absurd h (by omega)
set_option maxHeartbeats 4000000 in
set_option maxRecDepth 100000 in
theorem k0_2 (xs : Nat → Int32) : (k0_S xs).1 2 = xs := rfl
/-- the law says 1, whatever the script -/
theorem law_all (N : Nat) (xs : Nat → Int32) (hN : N ≤ 3072) : ∃ S' : sm_t, cL_law lw_F N (sm_T0 xs) = some (1, S') := by
  rw [k0_law]
  have hF : lw_F = 1000000 := rfl
  exact lw_loop (F := lw_F) (N := N) (xs := xs) ⟨by omega, by omega⟩ hN lw_F 0 (k0_S xs) (by omega) (by omega) ⟨k0_z, k0_zw, k0_xi xs, k0_mi xs, k0_2 xs⟩
