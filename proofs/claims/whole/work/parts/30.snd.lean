set_option maxHeartbeats 4000000 in
set_option maxRecDepth 20000 in
theorem s7_isRow {N : Nat} (F : Nat) (l0 : Int32) (S : sm_t) : sm_P (sm_jI N) k7_isRow [.int l0] (sm_m N S) (x7_isRow F l0 S) := by
  show sm_S (sm_jI N) k7_isRow 0 0 0 [some (.int l0)] [] (sm_m N S) (x7_isRow F l0 S)
  unfold x7_isRow
  refine sd_iload_n (pc := 0) d7_isRow_0 rfl ?_
  refine sd_if_lt (pc := 1) 14 d7_isRow_1 (by decide) (fun _ => ?_) (fun _ => ?_)
  · refine sd_iconst (pc := 14) 0 d7_isRow_14 ci_0 ?_
    exact sd_zret (pc := 15) d7_isRow_15 (by decide) (Nat.zero_le _) (Nat.zero_le _)
  · refine sd_iload_n (pc := 4) d7_isRow_4 rfl ?_
    refine sd_bipush (pc := 5) 6 d7_isRow_5 cb_6 ?_
    refine sd_ic_ge (pc := 7) 14 d7_isRow_7 (by decide) (fun _ => ?_) (fun _ => ?_)
    · refine sd_iconst (pc := 14) 0 d7_isRow_14 ci_0 ?_
      exact sd_zret (pc := 15) d7_isRow_15 (by decide) (Nat.zero_le _) (Nat.zero_le _)
    · refine sd_iconst (pc := 10) 1 d7_isRow_10 ci_1 ?_
      refine sd_goto (pc := 11) 15 d7_isRow_11 (by decide) ?_
      exact sd_zret (pc := 15) d7_isRow_15 (by decide) (Nat.zero_le _) (Nat.zero_le _)
set_option maxHeartbeats 4000000 in
set_option maxRecDepth 20000 in
theorem s7_found {N : Nat} (F : Nat) (l1 : Int32) (S : sm_t) : sm_P (sm_jI N) k7_found [.ref 3, .int l1] (sm_m N S) (x7_found F l1 S) := by
  show sm_S (sm_jI N) k7_found 0 0 0 [some (.ref 3), some (.int l1)] [] (sm_m N S) (x7_found F l1 S)
  unfold x7_found
  refine sd_aload_n (pc := 0) d7_found_0 rfl ?_
  refine sd_iload_n (pc := 1) d7_found_1 rfl ?_
  refine sd_putI (pc := 2) (show sm_sq 3 = some (.inr 6) from rfl) rfl fl7_76 rfl d7_found_2 (fun S => ?_)
  refine sd_aload_n (pc := 5) d7_found_5 rfl ?_
  refine sd_getR (pc := 6) 51 (show sm_sq 3 = some (.inr 6) from rfl) rfl fl7_79 rfl d7_found_6 ?_
  refine sd_iload_n (pc := 9) d7_found_9 rfl ?_
  refine sd_dup2 (pc := 10) d7_found_10 rfl rfl ?_
  refine sd_iald (pc := 11) (show sm_sq 51 = some (.inl (.int, 6)) from rfl) d7_found_11 (fun v1 => ?_)
  refine sd_iconst (pc := 12) 1 d7_found_12 ci_1 ?_
  refine sd_iadd (pc := 13) d7_found_13 ?_
  refine sd_iast (pc := 14) (show sm_sq 51 = some (.inl (.int, 6)) from rfl) d7_found_14 (fun S => ?_)
  refine sd_bipush (pc := 15) (-3) d7_found_15 cb_m3 ?_
  exact sd_iret (pc := 17) d7_found_17 rfl (Nat.zero_le _) (Nat.zero_le _)
set_option maxHeartbeats 4000000 in
set_option maxRecDepth 20000 in
theorem sA_fillI_5 {N : Nat} (F : Nat) : ∀ (f : Nat) (l0 : Nat) (l1 : Int32) (l2 : Int32) (l3 : Int32) (S : sm_t), sm_S (sm_jV N) kA_fillI 0 0 5 [some (.ref l0), some (.int l1), some (.int l2), some (.int l3)] [] (sm_m N S) (xA_fillI_5 F f l0 l1 l2 l3 S) := by
  intro f
  induction f with
  | zero =>
    intro l0 l1 l2 l3 S
    exact sd_none
  | succ f ih =>
    intro l0 l1 l2 l3 S
    rw [xA_fillI_5]
    refine sd_iload_n (pc := 5) dA_fillI_5 rfl ?_
    refine sd_iload_n (pc := 6) dA_fillI_6 rfl ?_
    refine sd_ic_ge (pc := 7) 20 dA_fillI_7 (by decide) (fun _ => ?_) (fun _ => ?_)
    · exact sd_vret (pc := 20) dA_fillI_20 (Nat.zero_le _) (Nat.zero_le _)
    · refine sd_aload_n (pc := 10) dA_fillI_10 rfl ?_
      refine sd_iload_n (pc := 11) dA_fillI_11 rfl ?_
      refine sd_iload_n (pc := 12) dA_fillI_12 rfl ?_
      refine sd_an (fun n2 h1 => ?_)
      refine sd_iast (pc := 13) h1 dA_fillI_13 (fun S => ?_)
      refine sd_iinc (lf2 := [some (.ref l0), some (.int l1), some (.int (l2 + 1)), some (.int l3)]) (pc := 14) dA_fillI_14 (Nat.le_of_ble_eq_true rfl) rfl ci_1 rfl ?_
      refine sd_goto (pc := 17) 5 dA_fillI_17 (by decide) ?_
      exact ih l0 l1 (l2 + 1) l3 S
set_option maxHeartbeats 4000000 in
set_option maxRecDepth 20000 in
theorem sA_fillI {N : Nat} (F : Nat) (l0 : Nat) (l1 : Int32) (S : sm_t) : sm_P (sm_jV N) kA_fillI [.ref l0, .int l1] (sm_m N S) (xA_fillI F l0 l1 S) := by
  show sm_S (sm_jV N) kA_fillI 0 0 0 [some (.ref l0), some (.int l1), none, none] [] (sm_m N S) (xA_fillI F l0 l1 S)
  unfold xA_fillI
  refine sd_iconst (pc := 0) 0 dA_fillI_0 ci_0 ?_
  refine sd_istore_n (lf2 := [some (.ref l0), some (.int l1), some (.int 0), none]) (pc := 1) dA_fillI_1 (Nat.le_of_ble_eq_true rfl) rfl ?_
  refine sd_aload_n (pc := 2) dA_fillI_2 rfl ?_
  refine sd_an (fun n2 h1 => ?_)
  refine sd_alen (pc := 3) 0 (Int32.ofNat n2) h1 (fun _ => rfl) rfl dA_fillI_3 ?_
  refine sd_ni (fun v3 => ?_)
  refine sd_istore_n (lf2 := [some (.ref l0), some (.int l1), some (.int 0), some (.int v3)]) (pc := 4) dA_fillI_4 (Nat.le_of_ble_eq_true rfl) rfl ?_
  exact sA_fillI_5 F F l0 l1 0 v3 S
set_option maxHeartbeats 4000000 in
set_option maxRecDepth 20000 in
theorem s7_renew {N : Nat} (F : Nat) (l1 : Int32) (l2 : Int32) (S : sm_t) : sm_P (sm_jV N) k7_renew [.ref 3, .int l1, .int l2] (sm_m N S) (x7_renew F l1 l2 S) := by
  show sm_S (sm_jV N) k7_renew 0 0 0 [some (.ref 3), some (.int l1), some (.int l2)] [] (sm_m N S) (x7_renew F l1 l2 S)
  unfold x7_renew
  refine sd_aload_n (pc := 0) d7_renew_0 rfl ?_
  refine sd_getR (pc := 1) 11 (show sm_sq 3 = some (.inr 6) from rfl) rfl fl7_14 rfl d7_renew_1 ?_
  refine sd_iload_n (pc := 4) d7_renew_4 rfl ?_
  refine sd_iload_n (pc := 5) d7_renew_5 rfl ?_
  refine sd_iast (pc := 6) (show sm_sq 11 = some (.inl (.int, 6)) from rfl) d7_renew_6 (fun S => ?_)
  refine sd_aload_n (pc := 7) d7_renew_7 rfl ?_
  refine sd_getR (pc := 8) 4 (show sm_sq 3 = some (.inr 6) from rfl) rfl fl7_11 rfl d7_renew_8 ?_
  refine sd_iload_n (pc := 11) d7_renew_11 rfl ?_
  refine sd_aald (pc := 12) 4 (show sm_sq 4 = some (.inl (.array .int, 6)) from rfl) rfl rfl (fun _ => rfl) (fun _ _ _ _ h => if_pos h) d7_renew_12 (fun a1 => ?_)
  refine sd_iconst (pc := 13) 0 d7_renew_13 ci_0 ?_
  refine sd_cSV (k2 := kA_fillI) (As := [.ref a1, .int 0]) (rest := []) (pc := 14) 82 d7_renew_14 ml7_82 (msA_fillI) (meA_fillI) ⟨rfl, rfl⟩ ⟨Nat.le_of_ble_eq_true rfl, Nat.le_of_ble_eq_true rfl⟩ (Nat.le_of_ble_eq_true rfl) (Nat.le_of_ble_eq_true rfl) rfl (Nat.zero_le _) (Nat.zero_le _) rfl (sA_fillI F a1 0 S) (fun S => ?_)
  exact sd_vret (pc := 17) d7_renew_17 (Nat.zero_le _) (Nat.zero_le _)
set_option maxHeartbeats 4000000 in
set_option maxRecDepth 20000 in
theorem s7_row {N : Nat} (F : Nat) (l1 : Int32) (l2 : Int32) (S : sm_t) : sm_P (sm_jI N) k7_row [.ref 3, .int l1, .int l2] (sm_m N S) (x7_row F l1 l2 S) := by
  show sm_S (sm_jI N) k7_row 0 0 0 [some (.ref 3), some (.int l1), some (.int l2)] [] (sm_m N S) (x7_row F l1 l2 S)
  unfold x7_row
  refine sd_iload_n (pc := 0) d7_row_0 rfl ?_
  refine sd_cSI (k2 := k7_isRow) (As := [.int l1]) (rest := []) (pc := 1) 88 d7_row_1 ml7_88 (ms7_isRow) (me7_isRow) ⟨rfl, rfl⟩ ⟨Nat.le_of_ble_eq_true rfl, Nat.le_of_ble_eq_true rfl⟩ (Nat.le_of_ble_eq_true rfl) (Nat.le_of_ble_eq_true rfl) (Or.inr rfl) (Nat.zero_le _) (Nat.zero_le _) rfl (s7_isRow F l1 S) (fun v1 S => ?_)
  refine sd_if_eq (pc := 4) 13 d7_row_4 (by decide) (fun _ => ?_) (fun _ => ?_)
  · refine sd_iconst (pc := 13) (-1) d7_row_13 ci_m1 ?_
    exact sd_iret (pc := 14) d7_row_14 rfl (Nat.zero_le _) (Nat.zero_le _)
  · refine sd_iload_n (pc := 7) d7_row_7 rfl ?_
    refine sd_bipush (pc := 8) 40 d7_row_8 cb_40 ?_
    refine sd_ic_le (pc := 10) 15 d7_row_10 (by decide) (fun _ => ?_) (fun _ => ?_)
    · refine sd_iload_n (pc := 15) d7_row_15 rfl ?_
      refine sd_if_ge (pc := 16) 25 d7_row_16 (by decide) (fun _ => ?_) (fun _ => ?_)
      · refine sd_aload_n (pc := 25) d7_row_25 rfl ?_
        refine sd_iload_n (pc := 26) d7_row_26 rfl ?_
        refine sd_iload_n (pc := 27) d7_row_27 rfl ?_
        refine sd_cVV (k2 := k7_renew) (As := [.int l1, .int l2]) (rest := []) (b := 3) (ci := 6) (pc := 28) 96 (show sm_sq 3 = some (.inr 6) from rfl) (by decide) rfl d7_row_28 ml7_96 (ms7_renew).1 (ms7_renew).2 (me7_renew) ⟨rfl, rfl⟩ ⟨Nat.le_of_ble_eq_true rfl, Nat.le_of_ble_eq_true rfl⟩ (Nat.le_of_ble_eq_true rfl) (Nat.le_of_ble_eq_true rfl) rfl (Nat.zero_le _) (Nat.zero_le _) rfl (s7_renew F l1 l2 S) (fun S => ?_)
        refine sd_iload_n (pc := 31) d7_row_31 rfl ?_
        exact sd_iret (pc := 32) d7_row_32 rfl (Nat.zero_le _) (Nat.zero_le _)
      · refine sd_aload_n (pc := 19) d7_row_19 rfl ?_
        refine sd_iconst (pc := 20) 5 d7_row_20 ci_5 ?_
        refine sd_cVI (k2 := k7_found) (As := [.int 5]) (rest := []) (b := 3) (ci := 6) (pc := 21) 92 (show sm_sq 3 = some (.inr 6) from rfl) (by decide) rfl d7_row_21 ml7_92 (ms7_found).1 (ms7_found).2 (me7_found) ⟨rfl, rfl⟩ ⟨Nat.le_of_ble_eq_true rfl, Nat.le_of_ble_eq_true rfl⟩ (Nat.le_of_ble_eq_true rfl) (Nat.le_of_ble_eq_true rfl) (Or.inl rfl) (Nat.zero_le _) (Nat.zero_le _) rfl (s7_found F 5 S) (fun v3 S => ?_)
        exact sd_iret (pc := 24) d7_row_24 rfl (Nat.zero_le _) (Nat.zero_le _)
    · refine sd_iconst (pc := 13) (-1) d7_row_13 ci_m1 ?_
      exact sd_iret (pc := 14) d7_row_14 rfl (Nat.zero_le _) (Nat.zero_le _)
set_option maxHeartbeats 4000000 in
set_option maxRecDepth 20000 in
theorem s8_in {N : Nat} (F : Nat) (l0 : Int32) (l1 : Int32) (l2 : Int32) (S : sm_t) : sm_P (sm_jI N) k8_in [.int l0, .int l1, .int l2] (sm_m N S) (x8_in F l0 l1 l2 S) := by
  show sm_S (sm_jI N) k8_in 0 0 0 [some (.int l0), some (.int l1), some (.int l2)] [] (sm_m N S) (x8_in F l0 l1 l2 S)
  unfold x8_in
  refine sd_iload_n (pc := 0) d8_in_0 rfl ?_
  refine sd_iload_n (pc := 1) d8_in_1 rfl ?_
  refine sd_ic_lt (pc := 2) 14 d8_in_2 (by decide) (fun _ => ?_) (fun _ => ?_)
  · refine sd_iconst (pc := 14) 0 d8_in_14 ci_0 ?_
    exact sd_zret (pc := 15) d8_in_15 (by decide) (Nat.zero_le _) (Nat.zero_le _)
  · refine sd_iload_n (pc := 5) d8_in_5 rfl ?_
    refine sd_iload_n (pc := 6) d8_in_6 rfl ?_
    refine sd_ic_gt (pc := 7) 14 d8_in_7 (by decide) (fun _ => ?_) (fun _ => ?_)
    · refine sd_iconst (pc := 14) 0 d8_in_14 ci_0 ?_
      exact sd_zret (pc := 15) d8_in_15 (by decide) (Nat.zero_le _) (Nat.zero_le _)
    · refine sd_iconst (pc := 10) 1 d8_in_10 ci_1 ?_
      refine sd_goto (pc := 11) 15 d8_in_11 (by decide) ?_
      exact sd_zret (pc := 15) d8_in_15 (by decide) (Nat.zero_le _) (Nat.zero_le _)
set_option maxHeartbeats 4000000 in
set_option maxRecDepth 20000 in
theorem s8_isRow {N : Nat} (F : Nat) (l0 : Int32) (S : sm_t) : sm_P (sm_jI N) k8_isRow [.int l0] (sm_m N S) (x8_isRow F l0 S) := by
  show sm_S (sm_jI N) k8_isRow 0 0 0 [some (.int l0)] [] (sm_m N S) (x8_isRow F l0 S)
  unfold x8_isRow
  refine sd_iload_n (pc := 0) d8_isRow_0 rfl ?_
  refine sd_iconst (pc := 1) 0 d8_isRow_1 ci_0 ?_
  refine sd_iconst (pc := 2) 5 d8_isRow_2 ci_5 ?_
  refine sd_cSI (k2 := k8_in) (As := [.int l0, .int 0, .int 5]) (rest := []) (pc := 3) 80 d8_isRow_3 ml8_80 (ms8_in) (me8_in) ⟨rfl, rfl⟩ ⟨Nat.le_of_ble_eq_true rfl, Nat.le_of_ble_eq_true rfl⟩ (Nat.le_of_ble_eq_true rfl) (Nat.le_of_ble_eq_true rfl) (Or.inr rfl) (Nat.zero_le _) (Nat.zero_le _) rfl (s8_in F l0 0 5 S) (fun v1 S => ?_)
  exact sd_zrv (pc := 6) d8_isRow_6 (Nat.zero_le _) (Nat.zero_le _)
set_option maxHeartbeats 4000000 in
set_option maxRecDepth 20000 in
theorem s8_meets {N : Nat} (F : Nat) (l1 : Int32) (S : sm_t) : sm_P (sm_jI N) k8_meets [.ref 52, .int l1] (sm_m N S) (x8_meets F l1 S) := by
  show sm_S (sm_jI N) k8_meets 0 0 0 [some (.ref 52), some (.int l1)] [] (sm_m N S) (x8_meets F l1 S)
  unfold x8_meets
  refine sd_aload_n (pc := 0) d8_meets_0 rfl ?_
  refine sd_iload_n (pc := 1) d8_meets_1 rfl ?_
  refine sd_putI (pc := 2) (show sm_sq 52 = some (.inr 7) from rfl) rfl fl8_71 rfl d8_meets_2 (fun S => ?_)
  refine sd_aload_n (pc := 5) d8_meets_5 rfl ?_
  refine sd_getR (pc := 6) 53 (show sm_sq 52 = some (.inr 7) from rfl) rfl fl8_7 rfl d8_meets_6 ?_
  refine sd_iload_n (pc := 9) d8_meets_9 rfl ?_
  refine sd_dup2 (pc := 10) d8_meets_10 rfl rfl ?_
  refine sd_iald (pc := 11) (show sm_sq 53 = some (.inl (.int, 6)) from rfl) d8_meets_11 (fun v1 => ?_)
  refine sd_iconst (pc := 12) 1 d8_meets_12 ci_1 ?_
  refine sd_iadd (pc := 13) d8_meets_13 ?_
  refine sd_iast (pc := 14) (show sm_sq 53 = some (.inl (.int, 6)) from rfl) d8_meets_14 (fun S => ?_)
  refine sd_bipush (pc := 15) (-3) d8_meets_15 cb_m3 ?_
  exact sd_iret (pc := 17) d8_meets_17 rfl (Nat.zero_le _) (Nat.zero_le _)
set_option maxHeartbeats 4000000 in
set_option maxRecDepth 20000 in
theorem s8_row_34 {N : Nat} (F : Nat) : ∀ (f : Nat) (l1 : Int32) (l2 : Int32) (l3 : Int32) (S : sm_t), sm_S (sm_jI N) k8_row 0 0 34 [some (.ref 52), some (.int l1), some (.int l2), some (.int l3)] [] (sm_m N S) (x8_row_34 F f l1 l2 l3 S) := by
  intro f
  induction f with
  | zero =>
    intro l1 l2 l3 S
    exact sd_none
  | succ f ih =>
    intro l1 l2 l3 S
    rw [x8_row_34]
    refine sd_iload_n (pc := 34) d8_row_34 rfl ?_
    refine sd_bipush (pc := 35) 40 d8_row_35 cb_40 ?_
    refine sd_ic_ge (pc := 37) 58 d8_row_37 (by decide) (fun _ => ?_) (fun _ => ?_)
    · refine sd_iload_n (pc := 58) d8_row_58 rfl ?_
      exact sd_iret (pc := 59) d8_row_59 rfl (Nat.zero_le _) (Nat.zero_le _)
    · refine sd_aload_n (pc := 40) d8_row_40 rfl ?_
      refine sd_getR (pc := 41) 55 (show sm_sq 52 = some (.inr 7) from rfl) rfl fl8_20 rfl d8_row_41 ?_
      refine sd_bipush (pc := 44) 40 d8_row_44 cb_40 ?_
      refine sd_iload_n (pc := 46) d8_row_46 rfl ?_
      refine sd_imul (pc := 47) d8_row_47 ?_
      refine sd_iload_n (pc := 48) d8_row_48 rfl ?_
      refine sd_iadd (pc := 49) d8_row_49 ?_
      refine sd_iconst (pc := 50) 0 d8_row_50 ci_0 ?_
      refine sd_iast (pc := 51) (show sm_sq 55 = some (.inl (.int, 240)) from rfl) d8_row_51 (fun S => ?_)
      refine sd_iinc (lf2 := [some (.ref 52), some (.int l1), some (.int l2), some (.int (l3 + 1))]) (pc := 52) d8_row_52 (Nat.le_of_ble_eq_true rfl) rfl ci_1 rfl ?_
      refine sd_goto (pc := 55) 34 d8_row_55 (by decide) ?_
      exact ih l1 l2 (l3 + 1) S
set_option maxHeartbeats 4000000 in
set_option maxRecDepth 20000 in
theorem s8_row {N : Nat} (F : Nat) (l1 : Int32) (l2 : Int32) (S : sm_t) : sm_P (sm_jI N) k8_row [.ref 52, .int l1, .int l2] (sm_m N S) (x8_row F l1 l2 S) := by
  show sm_S (sm_jI N) k8_row 0 0 0 [some (.ref 52), some (.int l1), some (.int l2), none] [] (sm_m N S) (x8_row F l1 l2 S)
  unfold x8_row
  refine sd_iload_n (pc := 0) d8_row_0 rfl ?_
  refine sd_cSI (k2 := k8_isRow) (As := [.int l1]) (rest := []) (pc := 1) 84 d8_row_1 ml8_84 (ms8_isRow) (me8_isRow) ⟨rfl, rfl⟩ ⟨Nat.le_of_ble_eq_true rfl, Nat.le_of_ble_eq_true rfl⟩ (Nat.le_of_ble_eq_true rfl) (Nat.le_of_ble_eq_true rfl) (Or.inr rfl) (Nat.zero_le _) (Nat.zero_le _) rfl (s8_isRow F l1 S) (fun v1 S => ?_)
  refine sd_if_eq (pc := 4) 13 d8_row_4 (by decide) (fun _ => ?_) (fun _ => ?_)
  · refine sd_iconst (pc := 13) (-1) d8_row_13 ci_m1 ?_
    exact sd_iret (pc := 14) d8_row_14 rfl (Nat.zero_le _) (Nat.zero_le _)
  · refine sd_iload_n (pc := 7) d8_row_7 rfl ?_
    refine sd_bipush (pc := 8) 40 d8_row_8 cb_40 ?_
    refine sd_ic_le (pc := 10) 15 d8_row_10 (by decide) (fun _ => ?_) (fun _ => ?_)
    · refine sd_iload_n (pc := 15) d8_row_15 rfl ?_
      refine sd_if_ge (pc := 16) 25 d8_row_16 (by decide) (fun _ => ?_) (fun _ => ?_)
      · refine sd_aload_n (pc := 25) d8_row_25 rfl ?_
        refine sd_getR (pc := 26) 54 (show sm_sq 52 = some (.inr 7) from rfl) rfl fl8_17 rfl d8_row_26 ?_
        refine sd_iload_n (pc := 29) d8_row_29 rfl ?_
        refine sd_iload_n (pc := 30) d8_row_30 rfl ?_
        refine sd_iast (pc := 31) (show sm_sq 54 = some (.inl (.int, 6)) from rfl) d8_row_31 (fun S => ?_)
        refine sd_iconst (pc := 32) 0 d8_row_32 ci_0 ?_
        refine sd_istore_n (lf2 := [some (.ref 52), some (.int l1), some (.int l2), some (.int 0)]) (pc := 33) d8_row_33 (Nat.le_of_ble_eq_true rfl) rfl ?_
        exact s8_row_34 F F l1 l2 0 S
      · refine sd_aload_n (pc := 19) d8_row_19 rfl ?_
        refine sd_iconst (pc := 20) 5 d8_row_20 ci_5 ?_
        refine sd_cVI (k2 := k8_meets) (As := [.int 5]) (rest := []) (b := 52) (ci := 7) (pc := 21) 88 (show sm_sq 52 = some (.inr 7) from rfl) (by decide) rfl d8_row_21 ml8_88 (ms8_meets).1 (ms8_meets).2 (me8_meets) ⟨rfl, rfl⟩ ⟨Nat.le_of_ble_eq_true rfl, Nat.le_of_ble_eq_true rfl⟩ (Nat.le_of_ble_eq_true rfl) (Nat.le_of_ble_eq_true rfl) (Or.inl rfl) (Nat.zero_le _) (Nat.zero_le _) rfl (s8_meets F 5 S) (fun v2 S => ?_)
        exact sd_iret (pc := 24) d8_row_24 rfl (Nat.zero_le _) (Nat.zero_le _)
    · refine sd_iconst (pc := 13) (-1) d8_row_13 ci_m1 ?_
      exact sd_iret (pc := 14) d8_row_14 rfl (Nat.zero_le _) (Nat.zero_le _)
set_option maxHeartbeats 4000000 in
set_option maxRecDepth 20000 in
theorem s7_barredPlace {N : Nat} (F : Nat) (l1 : Int32) (l2 : Int32) (S : sm_t) : sm_P (sm_jI N) k7_barredPlace [.ref 3, .int l1, .int l2] (sm_m N S) (x7_barredPlace F l1 l2 S) := by
  show sm_S (sm_jI N) k7_barredPlace 0 0 0 [some (.ref 3), some (.int l1), some (.int l2)] [] (sm_m N S) (x7_barredPlace F l1 l2 S)
  unfold x7_barredPlace
  refine sd_iload_n (pc := 0) d7_barredPlace_0 rfl ?_
  refine sd_cSI (k2 := k7_isRow) (As := [.int l1]) (rest := []) (pc := 1) 88 d7_barredPlace_1 ml7_88 (ms7_isRow) (me7_isRow) ⟨rfl, rfl⟩ ⟨Nat.le_of_ble_eq_true rfl, Nat.le_of_ble_eq_true rfl⟩ (Nat.le_of_ble_eq_true rfl) (Nat.le_of_ble_eq_true rfl) (Or.inr rfl) (Nat.zero_le _) (Nat.zero_le _) rfl (s7_isRow F l1 S) (fun v1 S => ?_)
  refine sd_if_ne (pc := 4) 9 d7_barredPlace_4 (by decide) (fun _ => ?_) (fun _ => ?_)
  · refine sd_iconst (pc := 7) (-1) d7_barredPlace_7 ci_m1 ?_
    exact sd_iret (pc := 8) d7_barredPlace_8 rfl (Nat.zero_le _) (Nat.zero_le _)
  · refine sd_aload_n (pc := 9) d7_barredPlace_9 rfl ?_
    refine sd_getR (pc := 10) 11 (show sm_sq 3 = some (.inr 6) from rfl) rfl fl7_14 rfl d7_barredPlace_10 ?_
    refine sd_iload_n (pc := 13) d7_barredPlace_13 rfl ?_
    refine sd_iald (pc := 14) (show sm_sq 11 = some (.inl (.int, 6)) from rfl) d7_barredPlace_14 (fun v2 => ?_)
    refine sd_iconst (pc := 15) (-1) d7_barredPlace_15 ci_m1 ?_
    refine sd_ic_ne (pc := 16) 25 d7_barredPlace_16 (by decide) (fun _ => ?_) (fun _ => ?_)
    · refine sd_aload_n (pc := 19) d7_barredPlace_19 rfl ?_
      refine sd_iconst (pc := 20) 1 d7_barredPlace_20 ci_1 ?_
      refine sd_cVI (k2 := k7_found) (As := [.int 1]) (rest := []) (b := 3) (ci := 6) (pc := 21) 92 (show sm_sq 3 = some (.inr 6) from rfl) (by decide) rfl d7_barredPlace_21 ml7_92 (ms7_found).1 (ms7_found).2 (me7_found) ⟨rfl, rfl⟩ ⟨Nat.le_of_ble_eq_true rfl, Nat.le_of_ble_eq_true rfl⟩ (Nat.le_of_ble_eq_true rfl) (Nat.le_of_ble_eq_true rfl) (Or.inl rfl) (Nat.zero_le _) (Nat.zero_le _) rfl (s7_found F 1 S) (fun v3 S => ?_)
      exact sd_iret (pc := 24) d7_barredPlace_24 rfl (Nat.zero_le _) (Nat.zero_le _)
    · refine sd_iload_n (pc := 25) d7_barredPlace_25 rfl ?_
      refine sd_if_lt (pc := 26) 39 d7_barredPlace_26 (by decide) (fun _ => ?_) (fun _ => ?_)
      · refine sd_aload_n (pc := 39) d7_barredPlace_39 rfl ?_
        refine sd_iconst (pc := 40) 2 d7_barredPlace_40 ci_2 ?_
        refine sd_cVI (k2 := k7_found) (As := [.int 2]) (rest := []) (b := 3) (ci := 6) (pc := 41) 92 (show sm_sq 3 = some (.inr 6) from rfl) (by decide) rfl d7_barredPlace_41 ml7_92 (ms7_found).1 (ms7_found).2 (me7_found) ⟨rfl, rfl⟩ ⟨Nat.le_of_ble_eq_true rfl, Nat.le_of_ble_eq_true rfl⟩ (Nat.le_of_ble_eq_true rfl) (Nat.le_of_ble_eq_true rfl) (Or.inl rfl) (Nat.zero_le _) (Nat.zero_le _) rfl (s7_found F 2 S) (fun v4 S => ?_)
        refine sd_goto (pc := 44) 48 d7_barredPlace_44 (by decide) ?_
        exact sd_iret (pc := 48) d7_barredPlace_48 rfl (Nat.zero_le _) (Nat.zero_le _)
      · refine sd_iload_n (pc := 29) d7_barredPlace_29 rfl ?_
        refine sd_aload_n (pc := 30) d7_barredPlace_30 rfl ?_
        refine sd_getR (pc := 31) 11 (show sm_sq 3 = some (.inr 6) from rfl) rfl fl7_14 rfl d7_barredPlace_31 ?_
        refine sd_iload_n (pc := 34) d7_barredPlace_34 rfl ?_
        refine sd_iald (pc := 35) (show sm_sq 11 = some (.inl (.int, 6)) from rfl) d7_barredPlace_35 (fun v5 => ?_)
        refine sd_ic_lt (pc := 36) 47 d7_barredPlace_36 (by decide) (fun _ => ?_) (fun _ => ?_)
        · refine sd_iconst (pc := 47) 0 d7_barredPlace_47 ci_0 ?_
          exact sd_iret (pc := 48) d7_barredPlace_48 rfl (Nat.zero_le _) (Nat.zero_le _)
        · refine sd_aload_n (pc := 39) d7_barredPlace_39 rfl ?_
          refine sd_iconst (pc := 40) 2 d7_barredPlace_40 ci_2 ?_
          refine sd_cVI (k2 := k7_found) (As := [.int 2]) (rest := []) (b := 3) (ci := 6) (pc := 41) 92 (show sm_sq 3 = some (.inr 6) from rfl) (by decide) rfl d7_barredPlace_41 ml7_92 (ms7_found).1 (ms7_found).2 (me7_found) ⟨rfl, rfl⟩ ⟨Nat.le_of_ble_eq_true rfl, Nat.le_of_ble_eq_true rfl⟩ (Nat.le_of_ble_eq_true rfl) (Nat.le_of_ble_eq_true rfl) (Or.inl rfl) (Nat.zero_le _) (Nat.zero_le _) rfl (s7_found F 2 S) (fun v6 S => ?_)
          refine sd_goto (pc := 44) 48 d7_barredPlace_44 (by decide) ?_
          exact sd_iret (pc := 48) d7_barredPlace_48 rfl (Nat.zero_le _) (Nat.zero_le _)
set_option maxHeartbeats 4000000 in
set_option maxRecDepth 20000 in
theorem s7_lay {N : Nat} (F : Nat) (l1 : Int32) (l2 : Int32) (l3 : Int32) (S : sm_t) : sm_P (sm_jI N) k7_lay [.ref 3, .int l1, .int l2, .int l3] (sm_m N S) (x7_lay F l1 l2 l3 S) := by
  show sm_S (sm_jI N) k7_lay 0 0 0 [some (.ref 3), some (.int l1), some (.int l2), some (.int l3), none] [] (sm_m N S) (x7_lay F l1 l2 l3 S)
  unfold x7_lay
  refine sd_aload_n (pc := 0) d7_lay_0 rfl ?_
  refine sd_iload_n (pc := 1) d7_lay_1 rfl ?_
  refine sd_iload_n (pc := 2) d7_lay_2 rfl ?_
  refine sd_cVI (k2 := k7_barredPlace) (As := [.int l1, .int l2]) (rest := []) (b := 3) (ci := 6) (pc := 3) 100 (show sm_sq 3 = some (.inr 6) from rfl) (by decide) rfl d7_lay_3 ml7_100 (ms7_barredPlace).1 (ms7_barredPlace).2 (me7_barredPlace) ⟨rfl, rfl⟩ ⟨Nat.le_of_ble_eq_true rfl, Nat.le_of_ble_eq_true rfl⟩ (Nat.le_of_ble_eq_true rfl) (Nat.le_of_ble_eq_true rfl) (Or.inl rfl) (Nat.zero_le _) (Nat.zero_le _) rfl (s7_barredPlace F l1 l2 S) (fun v1 S => ?_)
  refine sd_istore (lf2 := [some (.ref 3), some (.int l1), some (.int l2), some (.int l3), some (.int v1)]) (pc := 6) d7_lay_6 (Nat.le_of_ble_eq_true rfl) rfl ?_
  refine sd_iload (pc := 8) d7_lay_8 rfl ?_
  refine sd_if_eq (pc := 10) 16 d7_lay_10 (by decide) (fun _ => ?_) (fun _ => ?_)
  · refine sd_aload_n (pc := 16) d7_lay_16 rfl ?_
    refine sd_aload_n (pc := 17) d7_lay_17 rfl ?_
    refine sd_getR (pc := 18) 4 (show sm_sq 3 = some (.inr 6) from rfl) rfl fl7_11 rfl d7_lay_18 ?_
    refine sd_iload_n (pc := 21) d7_lay_21 rfl ?_
    refine sd_aald (pc := 22) 4 (show sm_sq 4 = some (.inl (.array .int, 6)) from rfl) rfl rfl (fun _ => rfl) (fun _ _ _ _ h => if_pos h) d7_lay_22 (fun a2 => ?_)
    refine sd_iload_n (pc := 23) d7_lay_23 rfl ?_
    refine sd_an (fun n4 h3 => ?_)
    refine sd_iald (pc := 24) h3 d7_lay_24 (fun v5 => ?_)
    refine sd_putI (pc := 25) (show sm_sq 3 = some (.inr 6) from rfl) rfl fl7_65 rfl d7_lay_25 (fun S => ?_)
    refine sd_aload_n (pc := 28) d7_lay_28 rfl ?_
    refine sd_getR (pc := 29) 4 (show sm_sq 3 = some (.inr 6) from rfl) rfl fl7_11 rfl d7_lay_29 ?_
    refine sd_iload_n (pc := 32) d7_lay_32 rfl ?_
    refine sd_aald (pc := 33) 4 (show sm_sq 4 = some (.inl (.array .int, 6)) from rfl) rfl rfl (fun _ => rfl) (fun _ _ _ _ h => if_pos h) d7_lay_33 (fun a6 => ?_)
    refine sd_iload_n (pc := 34) d7_lay_34 rfl ?_
    refine sd_iload_n (pc := 35) d7_lay_35 rfl ?_
    refine sd_an (fun n8 h7 => ?_)
    refine sd_iast (pc := 36) h7 d7_lay_36 (fun S => ?_)
    refine sd_iconst (pc := 37) 1 d7_lay_37 ci_1 ?_
    exact sd_iret (pc := 38) d7_lay_38 rfl (Nat.zero_le _) (Nat.zero_le _)
  · refine sd_iload (pc := 13) d7_lay_13 rfl ?_
    exact sd_iret (pc := 15) d7_lay_15 rfl (Nat.zero_le _) (Nat.zero_le _)
set_option maxHeartbeats 4000000 in
set_option maxRecDepth 20000 in
theorem s8_askedRow {N : Nat} (F : Nat) (l1 : Int32) (S : sm_t) : sm_P (sm_jI N) k8_askedRow [.ref 52, .int l1] (sm_m N S) (x8_askedRow F l1 S) := by
  show sm_S (sm_jI N) k8_askedRow 0 0 0 [some (.ref 52), some (.int l1)] [] (sm_m N S) (x8_askedRow F l1 S)
  unfold x8_askedRow
  refine sd_iload_n (pc := 0) d8_askedRow_0 rfl ?_
  refine sd_cSI (k2 := k8_isRow) (As := [.int l1]) (rest := []) (pc := 1) 84 d8_askedRow_1 ml8_84 (ms8_isRow) (me8_isRow) ⟨rfl, rfl⟩ ⟨Nat.le_of_ble_eq_true rfl, Nat.le_of_ble_eq_true rfl⟩ (Nat.le_of_ble_eq_true rfl) (Nat.le_of_ble_eq_true rfl) (Or.inr rfl) (Nat.zero_le _) (Nat.zero_le _) rfl (s8_isRow F l1 S) (fun v1 S => ?_)
  refine sd_if_ne (pc := 4) 11 d8_askedRow_4 (by decide) (fun _ => ?_) (fun _ => ?_)
  · refine sd_iconst (pc := 7) (-1) d8_askedRow_7 ci_m1 ?_
    refine sd_goto (pc := 8) 29 d8_askedRow_8 (by decide) ?_
    exact sd_iret (pc := 29) d8_askedRow_29 rfl (Nat.zero_le _) (Nat.zero_le _)
  · refine sd_aload_n (pc := 11) d8_askedRow_11 rfl ?_
    refine sd_getR (pc := 12) 54 (show sm_sq 52 = some (.inr 7) from rfl) rfl fl8_17 rfl d8_askedRow_12 ?_
    refine sd_iload_n (pc := 15) d8_askedRow_15 rfl ?_
    refine sd_iald (pc := 16) (show sm_sq 54 = some (.inl (.int, 6)) from rfl) d8_askedRow_16 (fun v2 => ?_)
    refine sd_if_ge (pc := 17) 28 d8_askedRow_17 (by decide) (fun _ => ?_) (fun _ => ?_)
    · refine sd_iconst (pc := 28) 0 d8_askedRow_28 ci_0 ?_
      exact sd_iret (pc := 29) d8_askedRow_29 rfl (Nat.zero_le _) (Nat.zero_le _)
    · refine sd_aload_n (pc := 20) d8_askedRow_20 rfl ?_
      refine sd_iconst (pc := 21) 1 d8_askedRow_21 ci_1 ?_
      refine sd_cVI (k2 := k8_meets) (As := [.int 1]) (rest := []) (b := 52) (ci := 7) (pc := 22) 88 (show sm_sq 52 = some (.inr 7) from rfl) (by decide) rfl d8_askedRow_22 ml8_88 (ms8_meets).1 (ms8_meets).2 (me8_meets) ⟨rfl, rfl⟩ ⟨Nat.le_of_ble_eq_true rfl, Nat.le_of_ble_eq_true rfl⟩ (Nat.le_of_ble_eq_true rfl) (Nat.le_of_ble_eq_true rfl) (Or.inl rfl) (Nat.zero_le _) (Nat.zero_le _) rfl (s8_meets F 1 S) (fun v3 S => ?_)
      refine sd_goto (pc := 25) 29 d8_askedRow_25 (by decide) ?_
      exact sd_iret (pc := 29) d8_askedRow_29 rfl (Nat.zero_le _) (Nat.zero_le _)
set_option maxHeartbeats 4000000 in
set_option maxRecDepth 20000 in
theorem s8_rowAt {N : Nat} (F : Nat) (l1 : Int32) (l2 : Int32) (S : sm_t) : sm_P (sm_jI N) k8_rowAt [.ref 52, .int l1, .int l2] (sm_m N S) (x8_rowAt F l1 l2 S) := by
  show sm_S (sm_jI N) k8_rowAt 0 0 0 [some (.ref 52), some (.int l1), some (.int l2)] [] (sm_m N S) (x8_rowAt F l1 l2 S)
  unfold x8_rowAt
  refine sd_aload_n (pc := 0) d8_rowAt_0 rfl ?_
  refine sd_getR (pc := 1) 55 (show sm_sq 52 = some (.inr 7) from rfl) rfl fl8_20 rfl d8_rowAt_1 ?_
  refine sd_bipush (pc := 4) 40 d8_rowAt_4 cb_40 ?_
  refine sd_iload_n (pc := 6) d8_rowAt_6 rfl ?_
  refine sd_imul (pc := 7) d8_rowAt_7 ?_
  refine sd_iload_n (pc := 8) d8_rowAt_8 rfl ?_
  refine sd_iadd (pc := 9) d8_rowAt_9 ?_
  refine sd_iald (pc := 10) (show sm_sq 55 = some (.inl (.int, 240)) from rfl) d8_rowAt_10 (fun v1 => ?_)
  exact sd_iret (pc := 11) d8_rowAt_11 rfl (Nat.zero_le _) (Nat.zero_le _)
set_option maxHeartbeats 4000000 in
set_option maxRecDepth 20000 in
theorem s8_ask {N : Nat} (F : Nat) (l1 : Int32) (l2 : Int32) (S : sm_t) : sm_P (sm_jI N) k8_ask [.ref 52, .int l1, .int l2] (sm_m N S) (x8_ask F l1 l2 S) := by
  show sm_S (sm_jI N) k8_ask 0 0 0 [some (.ref 52), some (.int l1), some (.int l2)] [] (sm_m N S) (x8_ask F l1 l2 S)
  unfold x8_ask
  refine sd_aload_n (pc := 0) d8_ask_0 rfl ?_
  refine sd_iload_n (pc := 1) d8_ask_1 rfl ?_
  refine sd_putI (pc := 2) (show sm_sq 52 = some (.inr 7) from rfl) rfl fl8_74 rfl d8_ask_2 (fun S => ?_)
  refine sd_iload_n (pc := 5) d8_ask_5 rfl ?_
  exact sd_iret (pc := 6) d8_ask_6 rfl (Nat.zero_le _) (Nat.zero_le _)
set_option maxHeartbeats 4000000 in
set_option maxRecDepth 20000 in
theorem s8_at {N : Nat} (F : Nat) (l1 : Int32) (l2 : Int32) (S : sm_t) : sm_P (sm_jI N) k8_at [.ref 52, .int l1, .int l2] (sm_m N S) (x8_at F l1 l2 S) := by
  show sm_S (sm_jI N) k8_at 0 0 0 [some (.ref 52), some (.int l1), some (.int l2), none] [] (sm_m N S) (x8_at F l1 l2 S)
  unfold x8_at
  refine sd_aload_n (pc := 0) d8_at_0 rfl ?_
  refine sd_iload_n (pc := 1) d8_at_1 rfl ?_
  refine sd_cVI (k2 := k8_askedRow) (As := [.int l1]) (rest := []) (b := 52) (ci := 7) (pc := 2) 95 (show sm_sq 52 = some (.inr 7) from rfl) (by decide) rfl d8_at_2 ml8_95 (ms8_askedRow).1 (ms8_askedRow).2 (me8_askedRow) ⟨rfl, rfl⟩ ⟨Nat.le_of_ble_eq_true rfl, Nat.le_of_ble_eq_true rfl⟩ (Nat.le_of_ble_eq_true rfl) (Nat.le_of_ble_eq_true rfl) (Or.inl rfl) (Nat.zero_le _) (Nat.zero_le _) rfl (s8_askedRow F l1 S) (fun v1 S => ?_)
  refine sd_istore_n (lf2 := [some (.ref 52), some (.int l1), some (.int l2), some (.int v1)]) (pc := 5) d8_at_5 (Nat.le_of_ble_eq_true rfl) rfl ?_
  refine sd_iload_n (pc := 6) d8_at_6 rfl ?_
  refine sd_if_ge (pc := 7) 12 d8_at_7 (by decide) (fun _ => ?_) (fun _ => ?_)
  · refine sd_iload_n (pc := 12) d8_at_12 rfl ?_
    refine sd_iconst (pc := 13) 0 d8_at_13 ci_0 ?_
    refine sd_aload_n (pc := 14) d8_at_14 rfl ?_
    refine sd_getR (pc := 15) 54 (show sm_sq 52 = some (.inr 7) from rfl) rfl fl8_17 rfl d8_at_15 ?_
    refine sd_iload_n (pc := 18) d8_at_18 rfl ?_
    refine sd_iald (pc := 19) (show sm_sq 54 = some (.inl (.int, 6)) from rfl) d8_at_19 (fun v2 => ?_)
    refine sd_iconst (pc := 20) 1 d8_at_20 ci_1 ?_
    refine sd_isub (pc := 21) d8_at_21 ?_
    refine sd_cSI (k2 := k8_in) (As := [.int l2, .int 0, .int (v2 - 1)]) (rest := []) (pc := 22) 80 d8_at_22 ml8_80 (ms8_in) (me8_in) ⟨rfl, rfl⟩ ⟨Nat.le_of_ble_eq_true rfl, Nat.le_of_ble_eq_true rfl⟩ (Nat.le_of_ble_eq_true rfl) (Nat.le_of_ble_eq_true rfl) (Or.inr rfl) (Nat.zero_le _) (Nat.zero_le _) rfl (s8_in F l2 0 (v2 - 1) S) (fun v3 S => ?_)
    refine sd_if_eq (pc := 25) 42 d8_at_25 (by decide) (fun _ => ?_) (fun _ => ?_)
    · refine sd_aload_n (pc := 42) d8_at_42 rfl ?_
      refine sd_iconst (pc := 43) 2 d8_at_43 ci_2 ?_
      refine sd_cVI (k2 := k8_meets) (As := [.int 2]) (rest := []) (b := 52) (ci := 7) (pc := 44) 88 (show sm_sq 52 = some (.inr 7) from rfl) (by decide) rfl d8_at_44 ml8_88 (ms8_meets).1 (ms8_meets).2 (me8_meets) ⟨rfl, rfl⟩ ⟨Nat.le_of_ble_eq_true rfl, Nat.le_of_ble_eq_true rfl⟩ (Nat.le_of_ble_eq_true rfl) (Nat.le_of_ble_eq_true rfl) (Or.inl rfl) (Nat.zero_le _) (Nat.zero_le _) rfl (s8_meets F 2 S) (fun v4 S => ?_)
      exact sd_iret (pc := 47) d8_at_47 rfl (Nat.zero_le _) (Nat.zero_le _)
    · refine sd_aload_n (pc := 28) d8_at_28 rfl ?_
      refine sd_aload_n (pc := 29) d8_at_29 rfl ?_
      refine sd_iload_n (pc := 30) d8_at_30 rfl ?_
      refine sd_iload_n (pc := 31) d8_at_31 rfl ?_
      refine sd_cVI (k2 := k8_rowAt) (As := [.int l1, .int l2]) (rest := [.ref 52]) (b := 52) (ci := 7) (pc := 32) 98 (show sm_sq 52 = some (.inr 7) from rfl) (by decide) rfl d8_at_32 ml8_98 (ms8_rowAt).1 (ms8_rowAt).2 (me8_rowAt) ⟨rfl, rfl⟩ ⟨Nat.le_of_ble_eq_true rfl, Nat.le_of_ble_eq_true rfl⟩ (Nat.le_of_ble_eq_true rfl) (Nat.le_of_ble_eq_true rfl) (Or.inl rfl) (Nat.zero_le _) (Nat.zero_le _) rfl (s8_rowAt F l1 l2 S) (fun v5 S => ?_)
      refine sd_iconst (pc := 35) 1 d8_at_35 ci_1 ?_
      refine sd_cVI (k2 := k8_ask) (As := [.int v5, .int 1]) (rest := []) (b := 52) (ci := 7) (pc := 36) 102 (show sm_sq 52 = some (.inr 7) from rfl) (by decide) rfl d8_at_36 ml8_102 (ms8_ask).1 (ms8_ask).2 (me8_ask) ⟨rfl, rfl⟩ ⟨Nat.le_of_ble_eq_true rfl, Nat.le_of_ble_eq_true rfl⟩ (Nat.le_of_ble_eq_true rfl) (Nat.le_of_ble_eq_true rfl) (Or.inl rfl) (Nat.zero_le _) (Nat.zero_le _) rfl (s8_ask F v5 1 S) (fun v6 S => ?_)
      refine sd_goto (pc := 39) 47 d8_at_39 (by decide) ?_
      exact sd_iret (pc := 47) d8_at_47 rfl (Nat.zero_le _) (Nat.zero_le _)
  · refine sd_iload_n (pc := 10) d8_at_10 rfl ?_
    exact sd_iret (pc := 11) d8_at_11 rfl (Nat.zero_le _) (Nat.zero_le _)
set_option maxHeartbeats 4000000 in
set_option maxRecDepth 20000 in
theorem s8_lay {N : Nat} (F : Nat) (l1 : Int32) (l2 : Int32) (l3 : Int32) (S : sm_t) : sm_P (sm_jI N) k8_lay [.ref 52, .int l1, .int l2, .int l3] (sm_m N S) (x8_lay F l1 l2 l3 S) := by
  show sm_S (sm_jI N) k8_lay 0 0 0 [some (.ref 52), some (.int l1), some (.int l2), some (.int l3), none] [] (sm_m N S) (x8_lay F l1 l2 l3 S)
  unfold x8_lay
  refine sd_aload_n (pc := 0) d8_lay_0 rfl ?_
  refine sd_iload_n (pc := 1) d8_lay_1 rfl ?_
  refine sd_iload_n (pc := 2) d8_lay_2 rfl ?_
  refine sd_cVI (k2 := k8_at) (As := [.int l1, .int l2]) (rest := []) (b := 52) (ci := 7) (pc := 3) 105 (show sm_sq 52 = some (.inr 7) from rfl) (by decide) rfl d8_lay_3 ml8_105 (ms8_at).1 (ms8_at).2 (me8_at) ⟨rfl, rfl⟩ ⟨Nat.le_of_ble_eq_true rfl, Nat.le_of_ble_eq_true rfl⟩ (Nat.le_of_ble_eq_true rfl) (Nat.le_of_ble_eq_true rfl) (Or.inl rfl) (Nat.zero_le _) (Nat.zero_le _) rfl (s8_at F l1 l2 S) (fun v1 S => ?_)
  refine sd_istore (lf2 := [some (.ref 52), some (.int l1), some (.int l2), some (.int l3), some (.int v1)]) (pc := 6) d8_lay_6 (Nat.le_of_ble_eq_true rfl) rfl ?_
  refine sd_iload (pc := 8) d8_lay_8 rfl ?_
  refine sd_if_ge (pc := 10) 16 d8_lay_10 (by decide) (fun _ => ?_) (fun _ => ?_)
  · refine sd_aload_n (pc := 16) d8_lay_16 rfl ?_
    refine sd_getR (pc := 17) 55 (show sm_sq 52 = some (.inr 7) from rfl) rfl fl8_20 rfl d8_lay_17 ?_
    refine sd_bipush (pc := 20) 40 d8_lay_20 cb_40 ?_
    refine sd_iload_n (pc := 22) d8_lay_22 rfl ?_
    refine sd_imul (pc := 23) d8_lay_23 ?_
    refine sd_iload_n (pc := 24) d8_lay_24 rfl ?_
    refine sd_iadd (pc := 25) d8_lay_25 ?_
    refine sd_iload_n (pc := 26) d8_lay_26 rfl ?_
    refine sd_iast (pc := 27) (show sm_sq 55 = some (.inl (.int, 240)) from rfl) d8_lay_27 (fun S => ?_)
    refine sd_iconst (pc := 28) 1 d8_lay_28 ci_1 ?_
    exact sd_iret (pc := 29) d8_lay_29 rfl (Nat.zero_le _) (Nat.zero_le _)
  · refine sd_iload (pc := 13) d8_lay_13 rfl ?_
    exact sd_iret (pc := 15) d8_lay_15 rfl (Nat.zero_le _) (Nat.zero_le _)
set_option maxHeartbeats 4000000 in
set_option maxRecDepth 20000 in
theorem s7_at {N : Nat} (F : Nat) (l1 : Int32) (l2 : Int32) (S : sm_t) : sm_P (sm_jI N) k7_at [.ref 3, .int l1, .int l2] (sm_m N S) (x7_at F l1 l2 S) := by
  show sm_S (sm_jI N) k7_at 0 0 0 [some (.ref 3), some (.int l1), some (.int l2), none] [] (sm_m N S) (x7_at F l1 l2 S)
  unfold x7_at
  refine sd_aload_n (pc := 0) d7_at_0 rfl ?_
  refine sd_iload_n (pc := 1) d7_at_1 rfl ?_
  refine sd_iload_n (pc := 2) d7_at_2 rfl ?_
  refine sd_cVI (k2 := k7_barredPlace) (As := [.int l1, .int l2]) (rest := []) (b := 3) (ci := 6) (pc := 3) 100 (show sm_sq 3 = some (.inr 6) from rfl) (by decide) rfl d7_at_3 ml7_100 (ms7_barredPlace).1 (ms7_barredPlace).2 (me7_barredPlace) ⟨rfl, rfl⟩ ⟨Nat.le_of_ble_eq_true rfl, Nat.le_of_ble_eq_true rfl⟩ (Nat.le_of_ble_eq_true rfl) (Nat.le_of_ble_eq_true rfl) (Or.inl rfl) (Nat.zero_le _) (Nat.zero_le _) rfl (s7_barredPlace F l1 l2 S) (fun v1 S => ?_)
  refine sd_istore_n (lf2 := [some (.ref 3), some (.int l1), some (.int l2), some (.int v1)]) (pc := 6) d7_at_6 (Nat.le_of_ble_eq_true rfl) rfl ?_
  refine sd_iload_n (pc := 7) d7_at_7 rfl ?_
  refine sd_if_eq (pc := 8) 13 d7_at_8 (by decide) (fun _ => ?_) (fun _ => ?_)
  · refine sd_aload_n (pc := 13) d7_at_13 rfl ?_
    refine sd_aload_n (pc := 14) d7_at_14 rfl ?_
    refine sd_getR (pc := 15) 4 (show sm_sq 3 = some (.inr 6) from rfl) rfl fl7_11 rfl d7_at_15 ?_
    refine sd_iload_n (pc := 18) d7_at_18 rfl ?_
    refine sd_aald (pc := 19) 4 (show sm_sq 4 = some (.inl (.array .int, 6)) from rfl) rfl rfl (fun _ => rfl) (fun _ _ _ _ h => if_pos h) d7_at_19 (fun a2 => ?_)
    refine sd_iload_n (pc := 20) d7_at_20 rfl ?_
    refine sd_an (fun n4 h3 => ?_)
    refine sd_iald (pc := 21) h3 d7_at_21 (fun v5 => ?_)
    refine sd_putI (pc := 22) (show sm_sq 3 = some (.inr 6) from rfl) rfl fl7_65 rfl d7_at_22 (fun S => ?_)
    refine sd_iconst (pc := 25) 1 d7_at_25 ci_1 ?_
    exact sd_iret (pc := 26) d7_at_26 rfl (Nat.zero_le _) (Nat.zero_le _)
  · refine sd_iload_n (pc := 11) d7_at_11 rfl ?_
    exact sd_iret (pc := 12) d7_at_12 rfl (Nat.zero_le _) (Nat.zero_le _)
set_option maxHeartbeats 4000000 in
set_option maxRecDepth 20000 in
theorem s7_tear {N : Nat} (F : Nat) (l1 : Int32) (S : sm_t) : sm_P (sm_jI N) k7_tear [.ref 3, .int l1] (sm_m N S) (x7_tear F l1 S) := by
  show sm_S (sm_jI N) k7_tear 0 0 0 [some (.ref 3), some (.int l1)] [] (sm_m N S) (x7_tear F l1 S)
  unfold x7_tear
  refine sd_iload_n (pc := 0) d7_tear_0 rfl ?_
  refine sd_cSI (k2 := k7_isRow) (As := [.int l1]) (rest := []) (pc := 1) 88 d7_tear_1 ml7_88 (ms7_isRow) (me7_isRow) ⟨rfl, rfl⟩ ⟨Nat.le_of_ble_eq_true rfl, Nat.le_of_ble_eq_true rfl⟩ (Nat.le_of_ble_eq_true rfl) (Nat.le_of_ble_eq_true rfl) (Or.inr rfl) (Nat.zero_le _) (Nat.zero_le _) rfl (s7_isRow F l1 S) (fun v1 S => ?_)
  refine sd_if_ne (pc := 4) 9 d7_tear_4 (by decide) (fun _ => ?_) (fun _ => ?_)
  · refine sd_iconst (pc := 7) (-1) d7_tear_7 ci_m1 ?_
    exact sd_iret (pc := 8) d7_tear_8 rfl (Nat.zero_le _) (Nat.zero_le _)
  · refine sd_aload_n (pc := 9) d7_tear_9 rfl ?_
    refine sd_getR (pc := 10) 11 (show sm_sq 3 = some (.inr 6) from rfl) rfl fl7_14 rfl d7_tear_10 ?_
    refine sd_iload_n (pc := 13) d7_tear_13 rfl ?_
    refine sd_iald (pc := 14) (show sm_sq 11 = some (.inl (.int, 6)) from rfl) d7_tear_14 (fun v2 => ?_)
    refine sd_iconst (pc := 15) (-1) d7_tear_15 ci_m1 ?_
    refine sd_ic_ne (pc := 16) 25 d7_tear_16 (by decide) (fun _ => ?_) (fun _ => ?_)
    · refine sd_aload_n (pc := 19) d7_tear_19 rfl ?_
      refine sd_iconst (pc := 20) 1 d7_tear_20 ci_1 ?_
      refine sd_cVI (k2 := k7_found) (As := [.int 1]) (rest := []) (b := 3) (ci := 6) (pc := 21) 92 (show sm_sq 3 = some (.inr 6) from rfl) (by decide) rfl d7_tear_21 ml7_92 (ms7_found).1 (ms7_found).2 (me7_found) ⟨rfl, rfl⟩ ⟨Nat.le_of_ble_eq_true rfl, Nat.le_of_ble_eq_true rfl⟩ (Nat.le_of_ble_eq_true rfl) (Nat.le_of_ble_eq_true rfl) (Or.inl rfl) (Nat.zero_le _) (Nat.zero_le _) rfl (s7_found F 1 S) (fun v3 S => ?_)
      exact sd_iret (pc := 24) d7_tear_24 rfl (Nat.zero_le _) (Nat.zero_le _)
    · refine sd_aload_n (pc := 25) d7_tear_25 rfl ?_
      refine sd_getR (pc := 26) 11 (show sm_sq 3 = some (.inr 6) from rfl) rfl fl7_14 rfl d7_tear_26 ?_
      refine sd_iload_n (pc := 29) d7_tear_29 rfl ?_
      refine sd_iconst (pc := 30) (-1) d7_tear_30 ci_m1 ?_
      refine sd_iast (pc := 31) (show sm_sq 11 = some (.inl (.int, 6)) from rfl) d7_tear_31 (fun S => ?_)
      refine sd_iconst (pc := 32) 1 d7_tear_32 ci_1 ?_
      exact sd_iret (pc := 33) d7_tear_33 rfl (Nat.zero_le _) (Nat.zero_le _)
set_option maxHeartbeats 4000000 in
set_option maxRecDepth 20000 in
theorem s8_tear {N : Nat} (F : Nat) (l1 : Int32) (S : sm_t) : sm_P (sm_jI N) k8_tear [.ref 52, .int l1] (sm_m N S) (x8_tear F l1 S) := by
  show sm_S (sm_jI N) k8_tear 0 0 0 [some (.ref 52), some (.int l1), none] [] (sm_m N S) (x8_tear F l1 S)
  unfold x8_tear
  refine sd_aload_n (pc := 0) d8_tear_0 rfl ?_
  refine sd_iload_n (pc := 1) d8_tear_1 rfl ?_
  refine sd_cVI (k2 := k8_askedRow) (As := [.int l1]) (rest := []) (b := 52) (ci := 7) (pc := 2) 95 (show sm_sq 52 = some (.inr 7) from rfl) (by decide) rfl d8_tear_2 ml8_95 (ms8_askedRow).1 (ms8_askedRow).2 (me8_askedRow) ⟨rfl, rfl⟩ ⟨Nat.le_of_ble_eq_true rfl, Nat.le_of_ble_eq_true rfl⟩ (Nat.le_of_ble_eq_true rfl) (Nat.le_of_ble_eq_true rfl) (Or.inl rfl) (Nat.zero_le _) (Nat.zero_le _) rfl (s8_askedRow F l1 S) (fun v1 S => ?_)
  refine sd_istore_n (lf2 := [some (.ref 52), some (.int l1), some (.int v1)]) (pc := 5) d8_tear_5 (Nat.le_of_ble_eq_true rfl) rfl ?_
  refine sd_iload_n (pc := 6) d8_tear_6 rfl ?_
  refine sd_if_ge (pc := 7) 12 d8_tear_7 (by decide) (fun _ => ?_) (fun _ => ?_)
  · refine sd_aload_n (pc := 12) d8_tear_12 rfl ?_
    refine sd_getR (pc := 13) 54 (show sm_sq 52 = some (.inr 7) from rfl) rfl fl8_17 rfl d8_tear_13 ?_
    refine sd_iload_n (pc := 16) d8_tear_16 rfl ?_
    refine sd_bipush (pc := 17) (-9) d8_tear_17 cb_m9 ?_
    refine sd_iast (pc := 19) (show sm_sq 54 = some (.inl (.int, 6)) from rfl) d8_tear_19 (fun S => ?_)
    refine sd_iconst (pc := 20) 1 d8_tear_20 ci_1 ?_
    exact sd_iret (pc := 21) d8_tear_21 rfl (Nat.zero_le _) (Nat.zero_le _)
  · refine sd_iload_n (pc := 10) d8_tear_10 rfl ?_
    exact sd_iret (pc := 11) d8_tear_11 rfl (Nat.zero_le _) (Nat.zero_le _)
set_option maxHeartbeats 4000000 in
set_option maxRecDepth 20000 in
theorem s7_holds {N : Nat} (F : Nat) (l0 : Int32) (l1 : Int32) (l2 : Int32) (S : sm_t) : sm_P (sm_jI N) k7_holds [.int l0, .int l1, .int l2] (sm_m N S) (x7_holds F l0 l1 l2 S) := by
  show sm_S (sm_jI N) k7_holds 0 0 0 [some (.int l0), some (.int l1), some (.int l2)] [] (sm_m N S) (x7_holds F l0 l1 l2 S)
  unfold x7_holds
  refine sd_iload_n (pc := 0) d7_holds_0 rfl ?_
  refine sd_if_lt (pc := 1) 20 d7_holds_1 (by decide) (fun _ => ?_) (fun _ => ?_)
  · refine sd_iconst (pc := 20) 0 d7_holds_20 ci_0 ?_
    exact sd_zret (pc := 21) d7_holds_21 (by decide) (Nat.zero_le _) (Nat.zero_le _)
  · refine sd_iload_n (pc := 4) d7_holds_4 rfl ?_
    refine sd_iload_n (pc := 5) d7_holds_5 rfl ?_
    refine sd_ic_gt (pc := 6) 20 d7_holds_6 (by decide) (fun _ => ?_) (fun _ => ?_)
    · refine sd_iconst (pc := 20) 0 d7_holds_20 ci_0 ?_
      exact sd_zret (pc := 21) d7_holds_21 (by decide) (Nat.zero_le _) (Nat.zero_le _)
    · refine sd_iload_n (pc := 9) d7_holds_9 rfl ?_
      refine sd_iload_n (pc := 10) d7_holds_10 rfl ?_
      refine sd_iload_n (pc := 11) d7_holds_11 rfl ?_
      refine sd_isub (pc := 12) d7_holds_12 ?_
      refine sd_ic_gt (pc := 13) 20 d7_holds_13 (by decide) (fun _ => ?_) (fun _ => ?_)
      · refine sd_iconst (pc := 20) 0 d7_holds_20 ci_0 ?_
        exact sd_zret (pc := 21) d7_holds_21 (by decide) (Nat.zero_le _) (Nat.zero_le _)
      · refine sd_iconst (pc := 16) 1 d7_holds_16 ci_1 ?_
        refine sd_goto (pc := 17) 21 d7_holds_17 (by decide) ?_
        exact sd_zret (pc := 21) d7_holds_21 (by decide) (Nat.zero_le _) (Nat.zero_le _)
set_option maxHeartbeats 4000000 in
set_option maxRecDepth 20000 in
theorem s7_copy {N : Nat} (F : Nat) (l1 : Int32) (l2 : Int32) (l3 : Int32) (l4 : Int32) (l5 : Int32) (S : sm_t) : sm_P (sm_jI N) k7_copy [.ref 3, .int l1, .int l2, .int l3, .int l4, .int l5] (sm_m N S) (x7_copy F l1 l2 l3 l4 l5 S) := by
  show sm_S (sm_jI N) k7_copy 0 0 0 [some (.ref 3), some (.int l1), some (.int l2), some (.int l3), some (.int l4), some (.int l5)] [] (sm_m N S) (x7_copy F l1 l2 l3 l4 l5 S)
  unfold x7_copy
  refine sd_iload_n (pc := 0) d7_copy_0 rfl ?_
  refine sd_cSI (k2 := k7_isRow) (As := [.int l1]) (rest := []) (pc := 1) 88 d7_copy_1 ml7_88 (ms7_isRow) (me7_isRow) ⟨rfl, rfl⟩ ⟨Nat.le_of_ble_eq_true rfl, Nat.le_of_ble_eq_true rfl⟩ (Nat.le_of_ble_eq_true rfl) (Nat.le_of_ble_eq_true rfl) (Or.inr rfl) (Nat.zero_le _) (Nat.zero_le _) rfl (s7_isRow F l1 S) (fun v1 S => ?_)
  refine sd_if_eq (pc := 4) 14 d7_copy_4 (by decide) (fun _ => ?_) (fun _ => ?_)
  · refine sd_iconst (pc := 14) (-1) d7_copy_14 ci_m1 ?_
    exact sd_iret (pc := 15) d7_copy_15 rfl (Nat.zero_le _) (Nat.zero_le _)
  · refine sd_iload_n (pc := 7) d7_copy_7 rfl ?_
    refine sd_cSI (k2 := k7_isRow) (As := [.int l3]) (rest := []) (pc := 8) 88 d7_copy_8 ml7_88 (ms7_isRow) (me7_isRow) ⟨rfl, rfl⟩ ⟨Nat.le_of_ble_eq_true rfl, Nat.le_of_ble_eq_true rfl⟩ (Nat.le_of_ble_eq_true rfl) (Nat.le_of_ble_eq_true rfl) (Or.inr rfl) (Nat.zero_le _) (Nat.zero_le _) rfl (s7_isRow F l3 S) (fun v2 S => ?_)
    refine sd_if_ne (pc := 11) 16 d7_copy_11 (by decide) (fun _ => ?_) (fun _ => ?_)
    · refine sd_iconst (pc := 14) (-1) d7_copy_14 ci_m1 ?_
      exact sd_iret (pc := 15) d7_copy_15 rfl (Nat.zero_le _) (Nat.zero_le _)
    · refine sd_iload (pc := 16) d7_copy_16 rfl ?_
      refine sd_if_ge (pc := 18) 27 d7_copy_18 (by decide) (fun _ => ?_) (fun _ => ?_)
      · refine sd_aload_n (pc := 27) d7_copy_27 rfl ?_
        refine sd_getR (pc := 28) 11 (show sm_sq 3 = some (.inr 6) from rfl) rfl fl7_14 rfl d7_copy_28 ?_
        refine sd_iload_n (pc := 31) d7_copy_31 rfl ?_
        refine sd_iald (pc := 32) (show sm_sq 11 = some (.inl (.int, 6)) from rfl) d7_copy_32 (fun v3 => ?_)
        refine sd_iconst (pc := 33) (-1) d7_copy_33 ci_m1 ?_
        refine sd_ic_eq (pc := 34) 47 d7_copy_34 (by decide) (fun _ => ?_) (fun _ => ?_)
        · refine sd_aload_n (pc := 47) d7_copy_47 rfl ?_
          refine sd_iconst (pc := 48) 1 d7_copy_48 ci_1 ?_
          refine sd_cVI (k2 := k7_found) (As := [.int 1]) (rest := []) (b := 3) (ci := 6) (pc := 49) 92 (show sm_sq 3 = some (.inr 6) from rfl) (by decide) rfl d7_copy_49 ml7_92 (ms7_found).1 (ms7_found).2 (me7_found) ⟨rfl, rfl⟩ ⟨Nat.le_of_ble_eq_true rfl, Nat.le_of_ble_eq_true rfl⟩ (Nat.le_of_ble_eq_true rfl) (Nat.le_of_ble_eq_true rfl) (Or.inl rfl) (Nat.zero_le _) (Nat.zero_le _) rfl (s7_found F 1 S) (fun v4 S => ?_)
          exact sd_iret (pc := 52) d7_copy_52 rfl (Nat.zero_le _) (Nat.zero_le _)
        · refine sd_aload_n (pc := 37) d7_copy_37 rfl ?_
          refine sd_getR (pc := 38) 11 (show sm_sq 3 = some (.inr 6) from rfl) rfl fl7_14 rfl d7_copy_38 ?_
          refine sd_iload_n (pc := 41) d7_copy_41 rfl ?_
          refine sd_iald (pc := 42) (show sm_sq 11 = some (.inl (.int, 6)) from rfl) d7_copy_42 (fun v5 => ?_)
          refine sd_iconst (pc := 43) (-1) d7_copy_43 ci_m1 ?_
          refine sd_ic_ne (pc := 44) 53 d7_copy_44 (by decide) (fun _ => ?_) (fun _ => ?_)
          · refine sd_aload_n (pc := 47) d7_copy_47 rfl ?_
            refine sd_iconst (pc := 48) 1 d7_copy_48 ci_1 ?_
            refine sd_cVI (k2 := k7_found) (As := [.int 1]) (rest := []) (b := 3) (ci := 6) (pc := 49) 92 (show sm_sq 3 = some (.inr 6) from rfl) (by decide) rfl d7_copy_49 ml7_92 (ms7_found).1 (ms7_found).2 (me7_found) ⟨rfl, rfl⟩ ⟨Nat.le_of_ble_eq_true rfl, Nat.le_of_ble_eq_true rfl⟩ (Nat.le_of_ble_eq_true rfl) (Nat.le_of_ble_eq_true rfl) (Or.inl rfl) (Nat.zero_le _) (Nat.zero_le _) rfl (s7_found F 1 S) (fun v6 S => ?_)
            exact sd_iret (pc := 52) d7_copy_52 rfl (Nat.zero_le _) (Nat.zero_le _)
          · refine sd_aload_n (pc := 53) d7_copy_53 rfl ?_
            refine sd_getR (pc := 54) 11 (show sm_sq 3 = some (.inr 6) from rfl) rfl fl7_14 rfl d7_copy_54 ?_
            refine sd_iload_n (pc := 57) d7_copy_57 rfl ?_
            refine sd_iald (pc := 58) (show sm_sq 11 = some (.inl (.int, 6)) from rfl) d7_copy_58 (fun v7 => ?_)
            refine sd_iload_n (pc := 59) d7_copy_59 rfl ?_
            refine sd_iload (pc := 60) d7_copy_60 rfl ?_
            refine sd_cSI (k2 := k7_holds) (As := [.int v7, .int l2, .int l5]) (rest := []) (pc := 62) 104 d7_copy_62 ml7_104 (ms7_holds) (me7_holds) ⟨rfl, rfl⟩ ⟨Nat.le_of_ble_eq_true rfl, Nat.le_of_ble_eq_true rfl⟩ (Nat.le_of_ble_eq_true rfl) (Nat.le_of_ble_eq_true rfl) (Or.inr rfl) (Nat.zero_le _) (Nat.zero_le _) rfl (s7_holds F v7 l2 l5 S) (fun v8 S => ?_)
            refine sd_if_eq (pc := 65) 84 d7_copy_65 (by decide) (fun _ => ?_) (fun _ => ?_)
            · refine sd_aload_n (pc := 84) d7_copy_84 rfl ?_
              refine sd_iconst (pc := 85) 2 d7_copy_85 ci_2 ?_
              refine sd_cVI (k2 := k7_found) (As := [.int 2]) (rest := []) (b := 3) (ci := 6) (pc := 86) 92 (show sm_sq 3 = some (.inr 6) from rfl) (by decide) rfl d7_copy_86 ml7_92 (ms7_found).1 (ms7_found).2 (me7_found) ⟨rfl, rfl⟩ ⟨Nat.le_of_ble_eq_true rfl, Nat.le_of_ble_eq_true rfl⟩ (Nat.le_of_ble_eq_true rfl) (Nat.le_of_ble_eq_true rfl) (Or.inl rfl) (Nat.zero_le _) (Nat.zero_le _) rfl (s7_found F 2 S) (fun v9 S => ?_)
              exact sd_iret (pc := 89) d7_copy_89 rfl (Nat.zero_le _) (Nat.zero_le _)
            · refine sd_aload_n (pc := 68) d7_copy_68 rfl ?_
              refine sd_getR (pc := 69) 11 (show sm_sq 3 = some (.inr 6) from rfl) rfl fl7_14 rfl d7_copy_69 ?_
              refine sd_iload_n (pc := 72) d7_copy_72 rfl ?_
              refine sd_iald (pc := 73) (show sm_sq 11 = some (.inl (.int, 6)) from rfl) d7_copy_73 (fun v10 => ?_)
              refine sd_iload (pc := 74) d7_copy_74 rfl ?_
              refine sd_iload (pc := 76) d7_copy_76 rfl ?_
              refine sd_cSI (k2 := k7_holds) (As := [.int v10, .int l4, .int l5]) (rest := []) (pc := 78) 104 d7_copy_78 ml7_104 (ms7_holds) (me7_holds) ⟨rfl, rfl⟩ ⟨Nat.le_of_ble_eq_true rfl, Nat.le_of_ble_eq_true rfl⟩ (Nat.le_of_ble_eq_true rfl) (Nat.le_of_ble_eq_true rfl) (Or.inr rfl) (Nat.zero_le _) (Nat.zero_le _) rfl (s7_holds F v10 l4 l5 S) (fun v11 S => ?_)
              refine sd_if_ne (pc := 81) 90 d7_copy_81 (by decide) (fun _ => ?_) (fun _ => ?_)
              · refine sd_aload_n (pc := 84) d7_copy_84 rfl ?_
                refine sd_iconst (pc := 85) 2 d7_copy_85 ci_2 ?_
                refine sd_cVI (k2 := k7_found) (As := [.int 2]) (rest := []) (b := 3) (ci := 6) (pc := 86) 92 (show sm_sq 3 = some (.inr 6) from rfl) (by decide) rfl d7_copy_86 ml7_92 (ms7_found).1 (ms7_found).2 (me7_found) ⟨rfl, rfl⟩ ⟨Nat.le_of_ble_eq_true rfl, Nat.le_of_ble_eq_true rfl⟩ (Nat.le_of_ble_eq_true rfl) (Nat.le_of_ble_eq_true rfl) (Or.inl rfl) (Nat.zero_le _) (Nat.zero_le _) rfl (s7_found F 2 S) (fun v12 S => ?_)
                exact sd_iret (pc := 89) d7_copy_89 rfl (Nat.zero_le _) (Nat.zero_le _)
              · refine sd_aload_n (pc := 90) d7_copy_90 rfl ?_
                refine sd_getR (pc := 91) 4 (show sm_sq 3 = some (.inr 6) from rfl) rfl fl7_11 rfl d7_copy_91 ?_
                refine sd_iload_n (pc := 94) d7_copy_94 rfl ?_
                refine sd_aald (pc := 95) 4 (show sm_sq 4 = some (.inl (.array .int, 6)) from rfl) rfl rfl (fun _ => rfl) (fun _ _ _ _ h => if_pos h) d7_copy_95 (fun a13 => ?_)
                refine sd_iload_n (pc := 96) d7_copy_96 rfl ?_
                refine sd_aload_n (pc := 97) d7_copy_97 rfl ?_
                refine sd_getR (pc := 98) 4 (show sm_sq 3 = some (.inr 6) from rfl) rfl fl7_11 rfl d7_copy_98 ?_
                refine sd_iload_n (pc := 101) d7_copy_101 rfl ?_
                refine sd_aald (pc := 102) 4 (show sm_sq 4 = some (.inl (.array .int, 6)) from rfl) rfl rfl (fun _ => rfl) (fun _ _ _ _ h => if_pos h) d7_copy_102 (fun a14 => ?_)
                refine sd_iload (pc := 103) d7_copy_103 rfl ?_
                refine sd_iload (pc := 105) d7_copy_105 rfl ?_
                refine sd_an (fun n16 h15 => ?_)
                refine sd_an (fun n18 h17 => ?_)
                refine sd_copy (pc := 107) 108 sl7_108 h15 h17 (Nat.le_of_ble_eq_true rfl) (Nat.le_of_ble_eq_true rfl) d7_copy_107 (fun S => ?_)
                refine sd_iconst (pc := 110) 1 d7_copy_110 ci_1 ?_
                exact sd_iret (pc := 111) d7_copy_111 rfl (Nat.zero_le _) (Nat.zero_le _)
      · refine sd_aload_n (pc := 21) d7_copy_21 rfl ?_
        refine sd_iconst (pc := 22) 5 d7_copy_22 ci_5 ?_
        refine sd_cVI (k2 := k7_found) (As := [.int 5]) (rest := []) (b := 3) (ci := 6) (pc := 23) 92 (show sm_sq 3 = some (.inr 6) from rfl) (by decide) rfl d7_copy_23 ml7_92 (ms7_found).1 (ms7_found).2 (me7_found) ⟨rfl, rfl⟩ ⟨Nat.le_of_ble_eq_true rfl, Nat.le_of_ble_eq_true rfl⟩ (Nat.le_of_ble_eq_true rfl) (Nat.le_of_ble_eq_true rfl) (Or.inl rfl) (Nat.zero_le _) (Nat.zero_le _) rfl (s7_found F 5 S) (fun v19 S => ?_)
        exact sd_iret (pc := 26) d7_copy_26 rfl (Nat.zero_le _) (Nat.zero_le _)
set_option maxHeartbeats 4000000 in
set_option maxRecDepth 20000 in
theorem s8_copy_136 {N : Nat} (F : Nat) : ∀ (f : Nat) (l3 : Int32) (l4 : Int32) (l5 : Int32) (l6 : Int32) (S : sm_t), sm_S (sm_jI N) k8_copy 0 0 136 [some (.ref 52), none, none, some (.int l3), some (.int l4), some (.int l5), some (.int l6)] [] (sm_m N S) (x8_copy_136 F f l3 l4 l5 l6 S) := by
  intro f
  induction f with
  | zero =>
    intro l3 l4 l5 l6 S
    exact sd_none
  | succ f ih =>
    intro l3 l4 l5 l6 S
    rw [x8_copy_136]
    refine sd_iload (pc := 136) d8_copy_136 rfl ?_
    refine sd_iload (pc := 138) d8_copy_138 rfl ?_
    refine sd_ic_ge (pc := 140) 171 d8_copy_140 (by decide) (fun _ => ?_) (fun _ => ?_)
    · refine sd_iconst (pc := 171) 1 d8_copy_171 ci_1 ?_
      exact sd_iret (pc := 172) d8_copy_172 rfl (Nat.zero_le _) (Nat.zero_le _)
    · refine sd_aload_n (pc := 143) d8_copy_143 rfl ?_
      refine sd_getR (pc := 144) 55 (show sm_sq 52 = some (.inr 7) from rfl) rfl fl8_20 rfl d8_copy_144 ?_
      refine sd_bipush (pc := 147) 40 d8_copy_147 cb_40 ?_
      refine sd_iload_n (pc := 149) d8_copy_149 rfl ?_
      refine sd_imul (pc := 150) d8_copy_150 ?_
      refine sd_iload (pc := 151) d8_copy_151 rfl ?_
      refine sd_iadd (pc := 153) d8_copy_153 ?_
      refine sd_iload (pc := 154) d8_copy_154 rfl ?_
      refine sd_iadd (pc := 156) d8_copy_156 ?_
      refine sd_aload_n (pc := 157) d8_copy_157 rfl ?_
      refine sd_getR (pc := 158) 56 (show sm_sq 52 = some (.inr 7) from rfl) rfl fl8_23 rfl d8_copy_158 ?_
      refine sd_iload (pc := 161) d8_copy_161 rfl ?_
      refine sd_iald (pc := 163) (show sm_sq 56 = some (.inl (.int, 40)) from rfl) d8_copy_163 (fun v1 => ?_)
      refine sd_iast (pc := 164) (show sm_sq 55 = some (.inl (.int, 240)) from rfl) d8_copy_164 (fun S => ?_)
      refine sd_iinc (lf2 := [some (.ref 52), none, none, some (.int l3), some (.int l4), some (.int l5), some (.int (l6 + 1))]) (pc := 165) d8_copy_165 (Nat.le_of_ble_eq_true rfl) rfl ci_1 rfl ?_
      refine sd_goto (pc := 168) 136 d8_copy_168 (by decide) ?_
      exact ih l3 l4 l5 (l6 + 1) S
set_option maxHeartbeats 4000000 in
set_option maxRecDepth 20000 in
theorem s8_copy_104 {N : Nat} (F : Nat) : ∀ (f : Nat) (l1 : Int32) (l2 : Int32) (l3 : Int32) (l4 : Int32) (l5 : Int32) (l6 : Int32) (S : sm_t), sm_S (sm_jI N) k8_copy 0 0 104 [some (.ref 52), some (.int l1), some (.int l2), some (.int l3), some (.int l4), some (.int l5), some (.int l6)] [] (sm_m N S) (x8_copy_104 F f l1 l2 l3 l4 l5 l6 S) := by
  intro f
  induction f with
  | zero =>
    intro l1 l2 l3 l4 l5 l6 S
    exact sd_none
  | succ f ih =>
    intro l1 l2 l3 l4 l5 l6 S
    rw [x8_copy_104]
    refine sd_iload (pc := 104) d8_copy_104 rfl ?_
    refine sd_iload (pc := 106) d8_copy_106 rfl ?_
    refine sd_ic_ge (pc := 108) 133 d8_copy_108 (by decide) (fun _ => ?_) (fun _ => ?_)
    · refine sd_iconst (pc := 133) 0 d8_copy_133 ci_0 ?_
      refine sd_istore (lf2 := [some (.ref 52), some (.int l1), some (.int l2), some (.int l3), some (.int l4), some (.int l5), some (.int 0)]) (pc := 134) d8_copy_134 (Nat.le_of_ble_eq_true rfl) rfl ?_
      exact sd_fg [true, false, false, true, true, true, true] rfl (s8_copy_136 F F l3 l4 l5 0 S)
    · refine sd_aload_n (pc := 111) d8_copy_111 rfl ?_
      refine sd_getR (pc := 112) 56 (show sm_sq 52 = some (.inr 7) from rfl) rfl fl8_23 rfl d8_copy_112 ?_
      refine sd_iload (pc := 115) d8_copy_115 rfl ?_
      refine sd_aload_n (pc := 117) d8_copy_117 rfl ?_
      refine sd_iload_n (pc := 118) d8_copy_118 rfl ?_
      refine sd_iload_n (pc := 119) d8_copy_119 rfl ?_
      refine sd_iload (pc := 120) d8_copy_120 rfl ?_
      refine sd_iadd (pc := 122) d8_copy_122 ?_
      refine sd_cVI (k2 := k8_rowAt) (As := [.int l1, .int (l2 + l6)]) (rest := [.int l6, .ref 56]) (b := 52) (ci := 7) (pc := 123) 98 (show sm_sq 52 = some (.inr 7) from rfl) (by decide) rfl d8_copy_123 ml8_98 (ms8_rowAt).1 (ms8_rowAt).2 (me8_rowAt) ⟨rfl, rfl⟩ ⟨Nat.le_of_ble_eq_true rfl, Nat.le_of_ble_eq_true rfl⟩ (Nat.le_of_ble_eq_true rfl) (Nat.le_of_ble_eq_true rfl) (Or.inl rfl) (Nat.zero_le _) (Nat.zero_le _) rfl (s8_rowAt F l1 (l2 + l6) S) (fun v1 S => ?_)
      refine sd_iast (pc := 126) (show sm_sq 56 = some (.inl (.int, 40)) from rfl) d8_copy_126 (fun S => ?_)
      refine sd_iinc (lf2 := [some (.ref 52), some (.int l1), some (.int l2), some (.int l3), some (.int l4), some (.int l5), some (.int (l6 + 1))]) (pc := 127) d8_copy_127 (Nat.le_of_ble_eq_true rfl) rfl ci_1 rfl ?_
      refine sd_goto (pc := 130) 104 d8_copy_130 (by decide) ?_
      exact ih l1 l2 l3 l4 l5 (l6 + 1) S
set_option maxHeartbeats 4000000 in
set_option maxRecDepth 20000 in
theorem s8_copy {N : Nat} (F : Nat) (l1 : Int32) (l2 : Int32) (l3 : Int32) (l4 : Int32) (l5 : Int32) (S : sm_t) : sm_P (sm_jI N) k8_copy [.ref 52, .int l1, .int l2, .int l3, .int l4, .int l5] (sm_m N S) (x8_copy F l1 l2 l3 l4 l5 S) := by
  show sm_S (sm_jI N) k8_copy 0 0 0 [some (.ref 52), some (.int l1), some (.int l2), some (.int l3), some (.int l4), some (.int l5), none] [] (sm_m N S) (x8_copy F l1 l2 l3 l4 l5 S)
  unfold x8_copy
  refine sd_iload_n (pc := 0) d8_copy_0 rfl ?_
  refine sd_cSI (k2 := k8_isRow) (As := [.int l1]) (rest := []) (pc := 1) 84 d8_copy_1 ml8_84 (ms8_isRow) (me8_isRow) ⟨rfl, rfl⟩ ⟨Nat.le_of_ble_eq_true rfl, Nat.le_of_ble_eq_true rfl⟩ (Nat.le_of_ble_eq_true rfl) (Nat.le_of_ble_eq_true rfl) (Or.inr rfl) (Nat.zero_le _) (Nat.zero_le _) rfl (s8_isRow F l1 S) (fun v1 S => ?_)
  refine sd_if_eq (pc := 4) 14 d8_copy_4 (by decide) (fun _ => ?_) (fun _ => ?_)
  · refine sd_iconst (pc := 14) (-1) d8_copy_14 ci_m1 ?_
    exact sd_iret (pc := 15) d8_copy_15 rfl (Nat.zero_le _) (Nat.zero_le _)
  · refine sd_iload_n (pc := 7) d8_copy_7 rfl ?_
    refine sd_cSI (k2 := k8_isRow) (As := [.int l3]) (rest := []) (pc := 8) 84 d8_copy_8 ml8_84 (ms8_isRow) (me8_isRow) ⟨rfl, rfl⟩ ⟨Nat.le_of_ble_eq_true rfl, Nat.le_of_ble_eq_true rfl⟩ (Nat.le_of_ble_eq_true rfl) (Nat.le_of_ble_eq_true rfl) (Or.inr rfl) (Nat.zero_le _) (Nat.zero_le _) rfl (s8_isRow F l3 S) (fun v2 S => ?_)
    refine sd_if_ne (pc := 11) 16 d8_copy_11 (by decide) (fun _ => ?_) (fun _ => ?_)
    · refine sd_iconst (pc := 14) (-1) d8_copy_14 ci_m1 ?_
      exact sd_iret (pc := 15) d8_copy_15 rfl (Nat.zero_le _) (Nat.zero_le _)
    · refine sd_iload (pc := 16) d8_copy_16 rfl ?_
      refine sd_if_ge (pc := 18) 27 d8_copy_18 (by decide) (fun _ => ?_) (fun _ => ?_)
      · refine sd_aload_n (pc := 27) d8_copy_27 rfl ?_
        refine sd_getR (pc := 28) 54 (show sm_sq 52 = some (.inr 7) from rfl) rfl fl8_17 rfl d8_copy_28 ?_
        refine sd_iload_n (pc := 31) d8_copy_31 rfl ?_
        refine sd_iald (pc := 32) (show sm_sq 54 = some (.inl (.int, 6)) from rfl) d8_copy_32 (fun v3 => ?_)
        refine sd_if_lt (pc := 33) 45 d8_copy_33 (by decide) (fun _ => ?_) (fun _ => ?_)
        · refine sd_aload_n (pc := 45) d8_copy_45 rfl ?_
          refine sd_iconst (pc := 46) 1 d8_copy_46 ci_1 ?_
          refine sd_cVI (k2 := k8_meets) (As := [.int 1]) (rest := []) (b := 52) (ci := 7) (pc := 47) 88 (show sm_sq 52 = some (.inr 7) from rfl) (by decide) rfl d8_copy_47 ml8_88 (ms8_meets).1 (ms8_meets).2 (me8_meets) ⟨rfl, rfl⟩ ⟨Nat.le_of_ble_eq_true rfl, Nat.le_of_ble_eq_true rfl⟩ (Nat.le_of_ble_eq_true rfl) (Nat.le_of_ble_eq_true rfl) (Or.inl rfl) (Nat.zero_le _) (Nat.zero_le _) rfl (s8_meets F 1 S) (fun v4 S => ?_)
          exact sd_iret (pc := 50) d8_copy_50 rfl (Nat.zero_le _) (Nat.zero_le _)
        · refine sd_aload_n (pc := 36) d8_copy_36 rfl ?_
          refine sd_getR (pc := 37) 54 (show sm_sq 52 = some (.inr 7) from rfl) rfl fl8_17 rfl d8_copy_37 ?_
          refine sd_iload_n (pc := 40) d8_copy_40 rfl ?_
          refine sd_iald (pc := 41) (show sm_sq 54 = some (.inl (.int, 6)) from rfl) d8_copy_41 (fun v5 => ?_)
          refine sd_if_ge (pc := 42) 51 d8_copy_42 (by decide) (fun _ => ?_) (fun _ => ?_)
          · refine sd_iload_n (pc := 51) d8_copy_51 rfl ?_
            refine sd_if_lt (pc := 52) 95 d8_copy_52 (by decide) (fun _ => ?_) (fun _ => ?_)
            · refine sd_aload_n (pc := 95) d8_copy_95 rfl ?_
              refine sd_iconst (pc := 96) 2 d8_copy_96 ci_2 ?_
              refine sd_cVI (k2 := k8_meets) (As := [.int 2]) (rest := []) (b := 52) (ci := 7) (pc := 97) 88 (show sm_sq 52 = some (.inr 7) from rfl) (by decide) rfl d8_copy_97 ml8_88 (ms8_meets).1 (ms8_meets).2 (me8_meets) ⟨rfl, rfl⟩ ⟨Nat.le_of_ble_eq_true rfl, Nat.le_of_ble_eq_true rfl⟩ (Nat.le_of_ble_eq_true rfl) (Nat.le_of_ble_eq_true rfl) (Or.inl rfl) (Nat.zero_le _) (Nat.zero_le _) rfl (s8_meets F 2 S) (fun v6 S => ?_)
              exact sd_iret (pc := 100) d8_copy_100 rfl (Nat.zero_le _) (Nat.zero_le _)
            · refine sd_iload (pc := 55) d8_copy_55 rfl ?_
              refine sd_if_lt (pc := 57) 95 d8_copy_57 (by decide) (fun _ => ?_) (fun _ => ?_)
              · refine sd_aload_n (pc := 95) d8_copy_95 rfl ?_
                refine sd_iconst (pc := 96) 2 d8_copy_96 ci_2 ?_
                refine sd_cVI (k2 := k8_meets) (As := [.int 2]) (rest := []) (b := 52) (ci := 7) (pc := 97) 88 (show sm_sq 52 = some (.inr 7) from rfl) (by decide) rfl d8_copy_97 ml8_88 (ms8_meets).1 (ms8_meets).2 (me8_meets) ⟨rfl, rfl⟩ ⟨Nat.le_of_ble_eq_true rfl, Nat.le_of_ble_eq_true rfl⟩ (Nat.le_of_ble_eq_true rfl) (Nat.le_of_ble_eq_true rfl) (Or.inl rfl) (Nat.zero_le _) (Nat.zero_le _) rfl (s8_meets F 2 S) (fun v7 S => ?_)
                exact sd_iret (pc := 100) d8_copy_100 rfl (Nat.zero_le _) (Nat.zero_le _)
              · refine sd_iload_n (pc := 60) d8_copy_60 rfl ?_
                refine sd_i2l (pc := 61) d8_copy_61 ?_
                refine sd_iload (pc := 62) d8_copy_62 rfl ?_
                refine sd_i2l (pc := 64) d8_copy_64 ?_
                refine sd_ladd (pc := 65) d8_copy_65 ?_
                refine sd_aload_n (pc := 66) d8_copy_66 rfl ?_
                refine sd_getR (pc := 67) 54 (show sm_sq 52 = some (.inr 7) from rfl) rfl fl8_17 rfl d8_copy_67 ?_
                refine sd_iload_n (pc := 70) d8_copy_70 rfl ?_
                refine sd_iald (pc := 71) (show sm_sq 54 = some (.inl (.int, 6)) from rfl) d8_copy_71 (fun v8 => ?_)
                refine sd_i2l (pc := 72) d8_copy_72 ?_
                refine sd_lc_gt (pc := 73) 95 d8_copy_73 d8_copy_74 (by decide) (fun _ => ?_) (fun _ => ?_)
                · refine sd_aload_n (pc := 95) d8_copy_95 rfl ?_
                  refine sd_iconst (pc := 96) 2 d8_copy_96 ci_2 ?_
                  refine sd_cVI (k2 := k8_meets) (As := [.int 2]) (rest := []) (b := 52) (ci := 7) (pc := 97) 88 (show sm_sq 52 = some (.inr 7) from rfl) (by decide) rfl d8_copy_97 ml8_88 (ms8_meets).1 (ms8_meets).2 (me8_meets) ⟨rfl, rfl⟩ ⟨Nat.le_of_ble_eq_true rfl, Nat.le_of_ble_eq_true rfl⟩ (Nat.le_of_ble_eq_true rfl) (Nat.le_of_ble_eq_true rfl) (Or.inl rfl) (Nat.zero_le _) (Nat.zero_le _) rfl (s8_meets F 2 S) (fun v9 S => ?_)
                  exact sd_iret (pc := 100) d8_copy_100 rfl (Nat.zero_le _) (Nat.zero_le _)
                · refine sd_iload (pc := 77) d8_copy_77 rfl ?_
                  refine sd_i2l (pc := 79) d8_copy_79 ?_
                  refine sd_iload (pc := 80) d8_copy_80 rfl ?_
                  refine sd_i2l (pc := 82) d8_copy_82 ?_
                  refine sd_ladd (pc := 83) d8_copy_83 ?_
                  refine sd_aload_n (pc := 84) d8_copy_84 rfl ?_
                  refine sd_getR (pc := 85) 54 (show sm_sq 52 = some (.inr 7) from rfl) rfl fl8_17 rfl d8_copy_85 ?_
                  refine sd_iload_n (pc := 88) d8_copy_88 rfl ?_
                  refine sd_iald (pc := 89) (show sm_sq 54 = some (.inl (.int, 6)) from rfl) d8_copy_89 (fun v10 => ?_)
                  refine sd_i2l (pc := 90) d8_copy_90 ?_
                  refine sd_lc_le (pc := 91) 101 d8_copy_91 d8_copy_92 (by decide) (fun _ => ?_) (fun _ => ?_)
                  · refine sd_iconst (pc := 101) 0 d8_copy_101 ci_0 ?_
                    refine sd_istore (lf2 := [some (.ref 52), some (.int l1), some (.int l2), some (.int l3), some (.int l4), some (.int l5), some (.int 0)]) (pc := 102) d8_copy_102 (Nat.le_of_ble_eq_true rfl) rfl ?_
                    exact s8_copy_104 F F l1 l2 l3 l4 l5 0 S
                  · refine sd_aload_n (pc := 95) d8_copy_95 rfl ?_
                    refine sd_iconst (pc := 96) 2 d8_copy_96 ci_2 ?_
                    refine sd_cVI (k2 := k8_meets) (As := [.int 2]) (rest := []) (b := 52) (ci := 7) (pc := 97) 88 (show sm_sq 52 = some (.inr 7) from rfl) (by decide) rfl d8_copy_97 ml8_88 (ms8_meets).1 (ms8_meets).2 (me8_meets) ⟨rfl, rfl⟩ ⟨Nat.le_of_ble_eq_true rfl, Nat.le_of_ble_eq_true rfl⟩ (Nat.le_of_ble_eq_true rfl) (Nat.le_of_ble_eq_true rfl) (Or.inl rfl) (Nat.zero_le _) (Nat.zero_le _) rfl (s8_meets F 2 S) (fun v11 S => ?_)
                    exact sd_iret (pc := 100) d8_copy_100 rfl (Nat.zero_le _) (Nat.zero_le _)
          · refine sd_aload_n (pc := 45) d8_copy_45 rfl ?_
            refine sd_iconst (pc := 46) 1 d8_copy_46 ci_1 ?_
            refine sd_cVI (k2 := k8_meets) (As := [.int 1]) (rest := []) (b := 52) (ci := 7) (pc := 47) 88 (show sm_sq 52 = some (.inr 7) from rfl) (by decide) rfl d8_copy_47 ml8_88 (ms8_meets).1 (ms8_meets).2 (me8_meets) ⟨rfl, rfl⟩ ⟨Nat.le_of_ble_eq_true rfl, Nat.le_of_ble_eq_true rfl⟩ (Nat.le_of_ble_eq_true rfl) (Nat.le_of_ble_eq_true rfl) (Or.inl rfl) (Nat.zero_le _) (Nat.zero_le _) rfl (s8_meets F 1 S) (fun v12 S => ?_)
            exact sd_iret (pc := 50) d8_copy_50 rfl (Nat.zero_le _) (Nat.zero_le _)
      · refine sd_aload_n (pc := 21) d8_copy_21 rfl ?_
        refine sd_iconst (pc := 22) 5 d8_copy_22 ci_5 ?_
        refine sd_cVI (k2 := k8_meets) (As := [.int 5]) (rest := []) (b := 52) (ci := 7) (pc := 23) 88 (show sm_sq 52 = some (.inr 7) from rfl) (by decide) rfl d8_copy_23 ml8_88 (ms8_meets).1 (ms8_meets).2 (me8_meets) ⟨rfl, rfl⟩ ⟨Nat.le_of_ble_eq_true rfl, Nat.le_of_ble_eq_true rfl⟩ (Nat.le_of_ble_eq_true rfl) (Nat.le_of_ble_eq_true rfl) (Or.inl rfl) (Nat.zero_le _) (Nat.zero_le _) rfl (s8_meets F 5 S) (fun v13 S => ?_)
        exact sd_iret (pc := 26) d8_copy_26 rfl (Nat.zero_le _) (Nat.zero_le _)
set_option maxHeartbeats 4000000 in
set_option maxRecDepth 20000 in
theorem s7_mean_67 {N : Nat} (F : Nat) (l2 : Int32) (l3 : Int64) (S : sm_t) : sm_S (sm_jI N) k7_mean 0 0 67 [some (.ref 3), none, some (.int l2), some (.long l3), none, none] [] (sm_m N S) (x7_mean_67 F l2 l3 S) := by
  unfold x7_mean_67
  refine sd_aload_n (pc := 67) d7_mean_67 rfl ?_
  refine sd_lload_n (pc := 68) d7_mean_68 rfl ?_
  refine sd_iload_n (pc := 69) d7_mean_69 rfl ?_
  refine sd_i2l (pc := 70) d7_mean_70 ?_
  refine sd_ite (fun _ => sd_none) (fun h1 => ?_)
  refine sd_ldiv (pc := 71) d7_mean_71 h1 ?_
  refine sd_l2i (pc := 72) d7_mean_72 ?_
  refine sd_putI (pc := 73) (show sm_sq 3 = some (.inr 6) from rfl) rfl fl7_65 rfl d7_mean_73 (fun S => ?_)
  refine sd_iconst (pc := 76) 1 d7_mean_76 ci_1 ?_
  exact sd_iret (pc := 77) d7_mean_77 rfl (Nat.zero_le _) (Nat.zero_le _)
set_option maxHeartbeats 4000000 in
set_option maxRecDepth 20000 in
theorem s7_mean_42 {N : Nat} (F : Nat) : ∀ (f : Nat) (l1 : Int32) (l2 : Int32) (l3 : Int64) (l5 : Int32) (S : sm_t), sm_S (sm_jI N) k7_mean 0 0 42 [some (.ref 3), some (.int l1), some (.int l2), some (.long l3), none, some (.int l5)] [] (sm_m N S) (x7_mean_42 F f l1 l2 l3 l5 S) := by
  intro f
  induction f with
  | zero =>
    intro l1 l2 l3 l5 S
    exact sd_none
  | succ f ih =>
    intro l1 l2 l3 l5 S
    rw [x7_mean_42]
    refine sd_iload (pc := 42) d7_mean_42 rfl ?_
    refine sd_iload_n (pc := 44) d7_mean_44 rfl ?_
    refine sd_ic_ge (pc := 45) 67 d7_mean_45 (by decide) (fun _ => ?_) (fun _ => ?_)
    · exact sd_fg [true, false, true, true, true, false] rfl (s7_mean_67 F l2 l3 S)
    · refine sd_lload_n (pc := 48) d7_mean_48 rfl ?_
      refine sd_aload_n (pc := 49) d7_mean_49 rfl ?_
      refine sd_getR (pc := 50) 4 (show sm_sq 3 = some (.inr 6) from rfl) rfl fl7_11 rfl d7_mean_50 ?_
      refine sd_iload_n (pc := 53) d7_mean_53 rfl ?_
      refine sd_aald (pc := 54) 4 (show sm_sq 4 = some (.inl (.array .int, 6)) from rfl) rfl rfl (fun _ => rfl) (fun _ _ _ _ h => if_pos h) d7_mean_54 (fun a1 => ?_)
      refine sd_iload (pc := 55) d7_mean_55 rfl ?_
      refine sd_an (fun n3 h2 => ?_)
      refine sd_iald (pc := 57) h2 d7_mean_57 (fun v4 => ?_)
      refine sd_i2l (pc := 58) d7_mean_58 ?_
      refine sd_ladd (pc := 59) d7_mean_59 ?_
      refine sd_nl (fun v5 => ?_)
      refine sd_lstore_n (lf2 := [some (.ref 3), some (.int l1), some (.int l2), some (.long v5), none, some (.int l5)]) (pc := 60) d7_mean_60 (Nat.le_of_ble_eq_true rfl) rfl ?_
      refine sd_iinc (lf2 := [some (.ref 3), some (.int l1), some (.int l2), some (.long v5), none, some (.int (l5 + 1))]) (pc := 61) d7_mean_61 (Nat.le_of_ble_eq_true rfl) rfl ci_1 rfl ?_
      refine sd_goto (pc := 64) 42 d7_mean_64 (by decide) ?_
      exact ih l1 l2 v5 (l5 + 1) S
set_option maxHeartbeats 4000000 in
set_option maxRecDepth 20000 in
theorem s7_mean {N : Nat} (F : Nat) (l1 : Int32) (S : sm_t) : sm_P (sm_jI N) k7_mean [.ref 3, .int l1] (sm_m N S) (x7_mean F l1 S) := by
  show sm_S (sm_jI N) k7_mean 0 0 0 [some (.ref 3), some (.int l1), none, none, none, none] [] (sm_m N S) (x7_mean F l1 S)
  unfold x7_mean
  refine sd_iload_n (pc := 0) d7_mean_0 rfl ?_
  refine sd_cSI (k2 := k7_isRow) (As := [.int l1]) (rest := []) (pc := 1) 88 d7_mean_1 ml7_88 (ms7_isRow) (me7_isRow) ⟨rfl, rfl⟩ ⟨Nat.le_of_ble_eq_true rfl, Nat.le_of_ble_eq_true rfl⟩ (Nat.le_of_ble_eq_true rfl) (Nat.le_of_ble_eq_true rfl) (Or.inr rfl) (Nat.zero_le _) (Nat.zero_le _) rfl (s7_isRow F l1 S) (fun v1 S => ?_)
  refine sd_if_ne (pc := 4) 9 d7_mean_4 (by decide) (fun _ => ?_) (fun _ => ?_)
  · refine sd_iconst (pc := 7) (-1) d7_mean_7 ci_m1 ?_
    exact sd_iret (pc := 8) d7_mean_8 rfl (Nat.zero_le _) (Nat.zero_le _)
  · refine sd_aload_n (pc := 9) d7_mean_9 rfl ?_
    refine sd_getR (pc := 10) 11 (show sm_sq 3 = some (.inr 6) from rfl) rfl fl7_14 rfl d7_mean_10 ?_
    refine sd_iload_n (pc := 13) d7_mean_13 rfl ?_
    refine sd_iald (pc := 14) (show sm_sq 11 = some (.inl (.int, 6)) from rfl) d7_mean_14 (fun v2 => ?_)
    refine sd_istore_n (lf2 := [some (.ref 3), some (.int l1), some (.int v2), none, none, none]) (pc := 15) d7_mean_15 (Nat.le_of_ble_eq_true rfl) rfl ?_
    refine sd_iload_n (pc := 16) d7_mean_16 rfl ?_
    refine sd_iconst (pc := 17) (-1) d7_mean_17 ci_m1 ?_
    refine sd_ic_ne (pc := 18) 27 d7_mean_18 (by decide) (fun _ => ?_) (fun _ => ?_)
    · refine sd_aload_n (pc := 21) d7_mean_21 rfl ?_
      refine sd_iconst (pc := 22) 1 d7_mean_22 ci_1 ?_
      refine sd_cVI (k2 := k7_found) (As := [.int 1]) (rest := []) (b := 3) (ci := 6) (pc := 23) 92 (show sm_sq 3 = some (.inr 6) from rfl) (by decide) rfl d7_mean_23 ml7_92 (ms7_found).1 (ms7_found).2 (me7_found) ⟨rfl, rfl⟩ ⟨Nat.le_of_ble_eq_true rfl, Nat.le_of_ble_eq_true rfl⟩ (Nat.le_of_ble_eq_true rfl) (Nat.le_of_ble_eq_true rfl) (Or.inl rfl) (Nat.zero_le _) (Nat.zero_le _) rfl (s7_found F 1 S) (fun v3 S => ?_)
      exact sd_iret (pc := 26) d7_mean_26 rfl (Nat.zero_le _) (Nat.zero_le _)
    · refine sd_iload_n (pc := 27) d7_mean_27 rfl ?_
      refine sd_if_gt (pc := 28) 37 d7_mean_28 (by decide) (fun _ => ?_) (fun _ => ?_)
      · refine sd_lconst (pc := 37) 0 d7_mean_37 rfl ?_
        refine sd_lstore_n (lf2 := [some (.ref 3), some (.int l1), some (.int v2), some (.long 0), none, none]) (pc := 38) d7_mean_38 (Nat.le_of_ble_eq_true rfl) rfl ?_
        refine sd_iconst (pc := 39) 0 d7_mean_39 ci_0 ?_
        refine sd_istore (lf2 := [some (.ref 3), some (.int l1), some (.int v2), some (.long 0), none, some (.int 0)]) (pc := 40) d7_mean_40 (Nat.le_of_ble_eq_true rfl) rfl ?_
        exact s7_mean_42 F F l1 v2 0 0 S
      · refine sd_aload_n (pc := 31) d7_mean_31 rfl ?_
        refine sd_iconst (pc := 32) 4 d7_mean_32 ci_4 ?_
        refine sd_cVI (k2 := k7_found) (As := [.int 4]) (rest := []) (b := 3) (ci := 6) (pc := 33) 92 (show sm_sq 3 = some (.inr 6) from rfl) (by decide) rfl d7_mean_33 ml7_92 (ms7_found).1 (ms7_found).2 (me7_found) ⟨rfl, rfl⟩ ⟨Nat.le_of_ble_eq_true rfl, Nat.le_of_ble_eq_true rfl⟩ (Nat.le_of_ble_eq_true rfl) (Nat.le_of_ble_eq_true rfl) (Or.inl rfl) (Nat.zero_le _) (Nat.zero_le _) rfl (s7_found F 4 S) (fun v4 S => ?_)
        exact sd_iret (pc := 36) d7_mean_36 rfl (Nat.zero_le _) (Nat.zero_le _)
set_option maxHeartbeats 4000000 in
set_option maxRecDepth 20000 in
theorem s8_mean_45 {N : Nat} (F : Nat) (l1 : Int32) (l3 : Int64) (S : sm_t) : sm_S (sm_jI N) k8_mean 0 0 45 [some (.ref 52), some (.int l1), none, some (.long l3), none, none] [] (sm_m N S) (x8_mean_45 F l1 l3 S) := by
  unfold x8_mean_45
  refine sd_aload_n (pc := 45) d8_mean_45 rfl ?_
  refine sd_getR (pc := 46) 54 (show sm_sq 52 = some (.inr 7) from rfl) rfl fl8_17 rfl d8_mean_46 ?_
  refine sd_iload_n (pc := 49) d8_mean_49 rfl ?_
  refine sd_iald (pc := 50) (show sm_sq 54 = some (.inl (.int, 6)) from rfl) d8_mean_50 (fun v1 => ?_)
  refine sd_if_ne (pc := 51) 62 d8_mean_51 (by decide) (fun _ => ?_) (fun _ => ?_)
  · refine sd_aload_n (pc := 54) d8_mean_54 rfl ?_
    refine sd_iconst (pc := 55) 4 d8_mean_55 ci_4 ?_
    refine sd_cVI (k2 := k8_meets) (As := [.int 4]) (rest := []) (b := 52) (ci := 7) (pc := 56) 88 (show sm_sq 52 = some (.inr 7) from rfl) (by decide) rfl d8_mean_56 ml8_88 (ms8_meets).1 (ms8_meets).2 (me8_meets) ⟨rfl, rfl⟩ ⟨Nat.le_of_ble_eq_true rfl, Nat.le_of_ble_eq_true rfl⟩ (Nat.le_of_ble_eq_true rfl) (Nat.le_of_ble_eq_true rfl) (Or.inl rfl) (Nat.zero_le _) (Nat.zero_le _) rfl (s8_meets F 4 S) (fun v2 S => ?_)
    refine sd_goto (pc := 59) 77 d8_mean_59 (by decide) ?_
    exact sd_iret (pc := 77) d8_mean_77 rfl (Nat.zero_le _) (Nat.zero_le _)
  · refine sd_aload_n (pc := 62) d8_mean_62 rfl ?_
    refine sd_lload_n (pc := 63) d8_mean_63 rfl ?_
    refine sd_aload_n (pc := 64) d8_mean_64 rfl ?_
    refine sd_getR (pc := 65) 54 (show sm_sq 52 = some (.inr 7) from rfl) rfl fl8_17 rfl d8_mean_65 ?_
    refine sd_iload_n (pc := 68) d8_mean_68 rfl ?_
    refine sd_iald (pc := 69) (show sm_sq 54 = some (.inl (.int, 6)) from rfl) d8_mean_69 (fun v3 => ?_)
    refine sd_i2l (pc := 70) d8_mean_70 ?_
    refine sd_ite (fun _ => sd_none) (fun h4 => ?_)
    refine sd_ldiv (pc := 71) d8_mean_71 h4 ?_
    refine sd_l2i (pc := 72) d8_mean_72 ?_
    refine sd_iconst (pc := 73) 1 d8_mean_73 ci_1 ?_
    refine sd_cVI (k2 := k8_ask) (As := [.int ((l3 / (v3.toInt64)).toInt32), .int 1]) (rest := []) (b := 52) (ci := 7) (pc := 74) 102 (show sm_sq 52 = some (.inr 7) from rfl) (by decide) rfl d8_mean_74 ml8_102 (ms8_ask).1 (ms8_ask).2 (me8_ask) ⟨rfl, rfl⟩ ⟨Nat.le_of_ble_eq_true rfl, Nat.le_of_ble_eq_true rfl⟩ (Nat.le_of_ble_eq_true rfl) (Nat.le_of_ble_eq_true rfl) (Or.inl rfl) (Nat.zero_le _) (Nat.zero_le _) rfl (s8_ask F ((l3 / (v3.toInt64)).toInt32) 1 S) (fun v5 S => ?_)
    exact sd_iret (pc := 77) d8_mean_77 rfl (Nat.zero_le _) (Nat.zero_le _)
set_option maxHeartbeats 4000000 in
set_option maxRecDepth 20000 in
theorem s8_mean_17 {N : Nat} (F : Nat) : ∀ (f : Nat) (l1 : Int32) (l3 : Int64) (l5 : Int32) (S : sm_t), sm_S (sm_jI N) k8_mean 0 0 17 [some (.ref 52), some (.int l1), none, some (.long l3), none, some (.int l5)] [] (sm_m N S) (x8_mean_17 F f l1 l3 l5 S) := by
  intro f
  induction f with
  | zero =>
    intro l1 l3 l5 S
    exact sd_none
  | succ f ih =>
    intro l1 l3 l5 S
    rw [x8_mean_17]
    refine sd_iload (pc := 17) d8_mean_17 rfl ?_
    refine sd_aload_n (pc := 19) d8_mean_19 rfl ?_
    refine sd_getR (pc := 20) 54 (show sm_sq 52 = some (.inr 7) from rfl) rfl fl8_17 rfl d8_mean_20 ?_
    refine sd_iload_n (pc := 23) d8_mean_23 rfl ?_
    refine sd_iald (pc := 24) (show sm_sq 54 = some (.inl (.int, 6)) from rfl) d8_mean_24 (fun v1 => ?_)
    refine sd_ic_ge (pc := 25) 45 d8_mean_25 (by decide) (fun _ => ?_) (fun _ => ?_)
    · exact sd_fg [true, true, true, true, true, false] rfl (s8_mean_45 F l1 l3 S)
    · refine sd_lload_n (pc := 28) d8_mean_28 rfl ?_
      refine sd_aload_n (pc := 29) d8_mean_29 rfl ?_
      refine sd_iload_n (pc := 30) d8_mean_30 rfl ?_
      refine sd_iload (pc := 31) d8_mean_31 rfl ?_
      refine sd_cVI (k2 := k8_rowAt) (As := [.int l1, .int l5]) (rest := [.long l3]) (b := 52) (ci := 7) (pc := 33) 98 (show sm_sq 52 = some (.inr 7) from rfl) (by decide) rfl d8_mean_33 ml8_98 (ms8_rowAt).1 (ms8_rowAt).2 (me8_rowAt) ⟨rfl, rfl⟩ ⟨Nat.le_of_ble_eq_true rfl, Nat.le_of_ble_eq_true rfl⟩ (Nat.le_of_ble_eq_true rfl) (Nat.le_of_ble_eq_true rfl) (Or.inl rfl) (Nat.zero_le _) (Nat.zero_le _) rfl (s8_rowAt F l1 l5 S) (fun v2 S => ?_)
      refine sd_i2l (pc := 36) d8_mean_36 ?_
      refine sd_ladd (pc := 37) d8_mean_37 ?_
      refine sd_nl (fun v3 => ?_)
      refine sd_lstore_n (lf2 := [some (.ref 52), some (.int l1), none, some (.long v3), none, some (.int l5)]) (pc := 38) d8_mean_38 (Nat.le_of_ble_eq_true rfl) rfl ?_
      refine sd_iinc (lf2 := [some (.ref 52), some (.int l1), none, some (.long v3), none, some (.int (l5 + 1))]) (pc := 39) d8_mean_39 (Nat.le_of_ble_eq_true rfl) rfl ci_1 rfl ?_
      refine sd_goto (pc := 42) 17 d8_mean_42 (by decide) ?_
      exact ih l1 v3 (l5 + 1) S
set_option maxHeartbeats 4000000 in
set_option maxRecDepth 20000 in
theorem s8_mean {N : Nat} (F : Nat) (l1 : Int32) (S : sm_t) : sm_P (sm_jI N) k8_mean [.ref 52, .int l1] (sm_m N S) (x8_mean F l1 S) := by
  show sm_S (sm_jI N) k8_mean 0 0 0 [some (.ref 52), some (.int l1), none, none, none, none] [] (sm_m N S) (x8_mean F l1 S)
  unfold x8_mean
  refine sd_aload_n (pc := 0) d8_mean_0 rfl ?_
  refine sd_iload_n (pc := 1) d8_mean_1 rfl ?_
  refine sd_cVI (k2 := k8_askedRow) (As := [.int l1]) (rest := []) (b := 52) (ci := 7) (pc := 2) 95 (show sm_sq 52 = some (.inr 7) from rfl) (by decide) rfl d8_mean_2 ml8_95 (ms8_askedRow).1 (ms8_askedRow).2 (me8_askedRow) ⟨rfl, rfl⟩ ⟨Nat.le_of_ble_eq_true rfl, Nat.le_of_ble_eq_true rfl⟩ (Nat.le_of_ble_eq_true rfl) (Nat.le_of_ble_eq_true rfl) (Or.inl rfl) (Nat.zero_le _) (Nat.zero_le _) rfl (s8_askedRow F l1 S) (fun v1 S => ?_)
  refine sd_istore_n (lf2 := [some (.ref 52), some (.int l1), some (.int v1), none, none, none]) (pc := 5) d8_mean_5 (Nat.le_of_ble_eq_true rfl) rfl ?_
  refine sd_iload_n (pc := 6) d8_mean_6 rfl ?_
  refine sd_if_ge (pc := 7) 12 d8_mean_7 (by decide) (fun _ => ?_) (fun _ => ?_)
  · refine sd_lconst (pc := 12) 0 d8_mean_12 rfl ?_
    refine sd_lstore_n (lf2 := [some (.ref 52), some (.int l1), some (.int v1), some (.long 0), none, none]) (pc := 13) d8_mean_13 (Nat.le_of_ble_eq_true rfl) rfl ?_
    refine sd_iconst (pc := 14) 0 d8_mean_14 ci_0 ?_
    refine sd_istore (lf2 := [some (.ref 52), some (.int l1), some (.int v1), some (.long 0), none, some (.int 0)]) (pc := 15) d8_mean_15 (Nat.le_of_ble_eq_true rfl) rfl ?_
    exact sd_fg [true, true, false, true, true, true] rfl (s8_mean_17 F F l1 0 0 S)
  · refine sd_iload_n (pc := 10) d8_mean_10 rfl ?_
    exact sd_iret (pc := 11) d8_mean_11 rfl (Nat.zero_le _) (Nat.zero_le _)
set_option maxHeartbeats 4000000 in
set_option maxRecDepth 20000 in
theorem s7_isText {N : Nat} (F : Nat) (l0 : Int32) (S : sm_t) : sm_P (sm_jI N) k7_isText [.int l0] (sm_m N S) (x7_isText F l0 S) := by
  show sm_S (sm_jI N) k7_isText 0 0 0 [some (.int l0)] [] (sm_m N S) (x7_isText F l0 S)
  unfold x7_isText
  refine sd_iload_n (pc := 0) d7_isText_0 rfl ?_
  refine sd_if_lt (pc := 1) 13 d7_isText_1 (by decide) (fun _ => ?_) (fun _ => ?_)
  · refine sd_iconst (pc := 13) 0 d7_isText_13 ci_0 ?_
    exact sd_zret (pc := 14) d7_isText_14 (by decide) (Nat.zero_le _) (Nat.zero_le _)
  · refine sd_iload_n (pc := 4) d7_isText_4 rfl ?_
    refine sd_iconst (pc := 5) 4 d7_isText_5 ci_4 ?_
    refine sd_ic_ge (pc := 6) 13 d7_isText_6 (by decide) (fun _ => ?_) (fun _ => ?_)
    · refine sd_iconst (pc := 13) 0 d7_isText_13 ci_0 ?_
      exact sd_zret (pc := 14) d7_isText_14 (by decide) (Nat.zero_le _) (Nat.zero_le _)
    · refine sd_iconst (pc := 9) 1 d7_isText_9 ci_1 ?_
      refine sd_goto (pc := 10) 14 d7_isText_10 (by decide) ?_
      exact sd_zret (pc := 14) d7_isText_14 (by decide) (Nat.zero_le _) (Nat.zero_le _)
set_option maxHeartbeats 4000000 in
set_option maxRecDepth 20000 in
theorem sA_fillB_5 {N : Nat} (F : Nat) : ∀ (f : Nat) (l0 : Nat) (l1 : Int32) (l2 : Int32) (l3 : Int32) (S : sm_t), sm_S (sm_jV N) kA_fillB 0 0 5 [some (.ref l0), some (.int l1), some (.int l2), some (.int l3)] [] (sm_m N S) (xA_fillB_5 F f l0 l1 l2 l3 S) := by
  intro f
  induction f with
  | zero =>
    intro l0 l1 l2 l3 S
    exact sd_none
  | succ f ih =>
    intro l0 l1 l2 l3 S
    rw [xA_fillB_5]
    refine sd_iload_n (pc := 5) dA_fillB_5 rfl ?_
    refine sd_iload_n (pc := 6) dA_fillB_6 rfl ?_
    refine sd_ic_ge (pc := 7) 20 dA_fillB_7 (by decide) (fun _ => ?_) (fun _ => ?_)
    · exact sd_vret (pc := 20) dA_fillB_20 (Nat.zero_le _) (Nat.zero_le _)
    · refine sd_aload_n (pc := 10) dA_fillB_10 rfl ?_
      refine sd_iload_n (pc := 11) dA_fillB_11 rfl ?_
      refine sd_iload_n (pc := 12) dA_fillB_12 rfl ?_
      refine sd_an (fun n2 h1 => ?_)
      refine sd_bast (pc := 13) h1 dA_fillB_13 (fun S => ?_)
      refine sd_iinc (lf2 := [some (.ref l0), some (.int l1), some (.int (l2 + 1)), some (.int l3)]) (pc := 14) dA_fillB_14 (Nat.le_of_ble_eq_true rfl) rfl ci_1 rfl ?_
      refine sd_goto (pc := 17) 5 dA_fillB_17 (by decide) ?_
      exact ih l0 l1 (l2 + 1) l3 S
set_option maxHeartbeats 4000000 in
set_option maxRecDepth 20000 in
theorem sA_fillB {N : Nat} (F : Nat) (l0 : Nat) (l1 : Int32) (S : sm_t) : sm_P (sm_jV N) kA_fillB [.ref l0, .int l1] (sm_m N S) (xA_fillB F l0 l1 S) := by
  show sm_S (sm_jV N) kA_fillB 0 0 0 [some (.ref l0), some (.int l1), none, none] [] (sm_m N S) (xA_fillB F l0 l1 S)
  unfold xA_fillB
  refine sd_iconst (pc := 0) 0 dA_fillB_0 ci_0 ?_
  refine sd_istore_n (lf2 := [some (.ref l0), some (.int l1), some (.int 0), none]) (pc := 1) dA_fillB_1 (Nat.le_of_ble_eq_true rfl) rfl ?_
  refine sd_aload_n (pc := 2) dA_fillB_2 rfl ?_
  refine sd_an (fun n2 h1 => ?_)
  refine sd_alen (pc := 3) 2 (Int32.ofNat n2) h1 (fun _ => rfl) rfl dA_fillB_3 ?_
  refine sd_ni (fun v3 => ?_)
  refine sd_istore_n (lf2 := [some (.ref l0), some (.int l1), some (.int 0), some (.int v3)]) (pc := 4) dA_fillB_4 (Nat.le_of_ble_eq_true rfl) rfl ?_
  exact sA_fillB_5 F F l0 l1 0 v3 S
set_option maxHeartbeats 4000000 in
set_option maxRecDepth 20000 in
theorem s7_text {N : Nat} (F : Nat) (l1 : Int32) (l2 : Int32) (S : sm_t) : sm_P (sm_jI N) k7_text [.ref 3, .int l1, .int l2] (sm_m N S) (x7_text F l1 l2 S) := by
  show sm_S (sm_jI N) k7_text 0 0 0 [some (.ref 3), some (.int l1), some (.int l2)] [] (sm_m N S) (x7_text F l1 l2 S)
  unfold x7_text
  refine sd_iload_n (pc := 0) d7_text_0 rfl ?_
  refine sd_cSI (k2 := k7_isText) (As := [.int l1]) (rest := []) (pc := 1) 114 d7_text_1 ml7_114 (ms7_isText) (me7_isText) ⟨rfl, rfl⟩ ⟨Nat.le_of_ble_eq_true rfl, Nat.le_of_ble_eq_true rfl⟩ (Nat.le_of_ble_eq_true rfl) (Nat.le_of_ble_eq_true rfl) (Or.inr rfl) (Nat.zero_le _) (Nat.zero_le _) rfl (s7_isText F l1 S) (fun v1 S => ?_)
  refine sd_if_eq (pc := 4) 13 d7_text_4 (by decide) (fun _ => ?_) (fun _ => ?_)
  · refine sd_iconst (pc := 13) (-1) d7_text_13 ci_m1 ?_
    exact sd_iret (pc := 14) d7_text_14 rfl (Nat.zero_le _) (Nat.zero_le _)
  · refine sd_iload_n (pc := 7) d7_text_7 rfl ?_
    refine sd_bipush (pc := 8) 80 d7_text_8 cb_80 ?_
    refine sd_ic_le (pc := 10) 15 d7_text_10 (by decide) (fun _ => ?_) (fun _ => ?_)
    · refine sd_iload_n (pc := 15) d7_text_15 rfl ?_
      refine sd_if_ge (pc := 16) 25 d7_text_16 (by decide) (fun _ => ?_) (fun _ => ?_)
      · refine sd_aload_n (pc := 25) d7_text_25 rfl ?_
        refine sd_getR (pc := 26) 17 (show sm_sq 3 = some (.inr 6) from rfl) rfl fl7_23 rfl d7_text_26 ?_
        refine sd_iload_n (pc := 29) d7_text_29 rfl ?_
        refine sd_iload_n (pc := 30) d7_text_30 rfl ?_
        refine sd_iast (pc := 31) (show sm_sq 17 = some (.inl (.int, 4)) from rfl) d7_text_31 (fun S => ?_)
        refine sd_aload_n (pc := 32) d7_text_32 rfl ?_
        refine sd_getR (pc := 33) 12 (show sm_sq 3 = some (.inr 6) from rfl) rfl fl7_20 rfl d7_text_33 ?_
        refine sd_iload_n (pc := 36) d7_text_36 rfl ?_
        refine sd_aald (pc := 37) 5 (show sm_sq 12 = some (.inl (.array .byte, 4)) from rfl) rfl rfl (fun _ => rfl) (fun _ _ _ _ h => if_pos h) d7_text_37 (fun a2 => ?_)
        refine sd_bipush (pc := 38) 32 d7_text_38 cb_32 ?_
        refine sd_cSV (k2 := kA_fillB) (As := [.ref a2, .int 32]) (rest := []) (pc := 40) 117 d7_text_40 ml7_117 (msA_fillB) (meA_fillB) ⟨rfl, rfl⟩ ⟨Nat.le_of_ble_eq_true rfl, Nat.le_of_ble_eq_true rfl⟩ (Nat.le_of_ble_eq_true rfl) (Nat.le_of_ble_eq_true rfl) rfl (Nat.zero_le _) (Nat.zero_le _) rfl (sA_fillB F a2 32 S) (fun S => ?_)
        refine sd_iload_n (pc := 43) d7_text_43 rfl ?_
        exact sd_iret (pc := 44) d7_text_44 rfl (Nat.zero_le _) (Nat.zero_le _)
      · refine sd_aload_n (pc := 19) d7_text_19 rfl ?_
        refine sd_iconst (pc := 20) 5 d7_text_20 ci_5 ?_
        refine sd_cVI (k2 := k7_found) (As := [.int 5]) (rest := []) (b := 3) (ci := 6) (pc := 21) 92 (show sm_sq 3 = some (.inr 6) from rfl) (by decide) rfl d7_text_21 ml7_92 (ms7_found).1 (ms7_found).2 (me7_found) ⟨rfl, rfl⟩ ⟨Nat.le_of_ble_eq_true rfl, Nat.le_of_ble_eq_true rfl⟩ (Nat.le_of_ble_eq_true rfl) (Nat.le_of_ble_eq_true rfl) (Or.inl rfl) (Nat.zero_le _) (Nat.zero_le _) rfl (s7_found F 5 S) (fun v4 S => ?_)
        exact sd_iret (pc := 24) d7_text_24 rfl (Nat.zero_le _) (Nat.zero_le _)
    · refine sd_iconst (pc := 13) (-1) d7_text_13 ci_m1 ?_
      exact sd_iret (pc := 14) d7_text_14 rfl (Nat.zero_le _) (Nat.zero_le _)
set_option maxHeartbeats 4000000 in
set_option maxRecDepth 20000 in
theorem s8_isText {N : Nat} (F : Nat) (l0 : Int32) (S : sm_t) : sm_P (sm_jI N) k8_isText [.int l0] (sm_m N S) (x8_isText F l0 S) := by
  show sm_S (sm_jI N) k8_isText 0 0 0 [some (.int l0)] [] (sm_m N S) (x8_isText F l0 S)
  unfold x8_isText
  refine sd_iload_n (pc := 0) d8_isText_0 rfl ?_
  refine sd_iconst (pc := 1) 0 d8_isText_1 ci_0 ?_
  refine sd_iconst (pc := 2) 3 d8_isText_2 ci_3 ?_
  refine sd_cSI (k2 := k8_in) (As := [.int l0, .int 0, .int 3]) (rest := []) (pc := 3) 80 d8_isText_3 ml8_80 (ms8_in) (me8_in) ⟨rfl, rfl⟩ ⟨Nat.le_of_ble_eq_true rfl, Nat.le_of_ble_eq_true rfl⟩ (Nat.le_of_ble_eq_true rfl) (Nat.le_of_ble_eq_true rfl) (Or.inr rfl) (Nat.zero_le _) (Nat.zero_le _) rfl (s8_in F l0 0 3 S) (fun v1 S => ?_)
  exact sd_zrv (pc := 6) d8_isText_6 (Nat.zero_le _) (Nat.zero_le _)
set_option maxHeartbeats 4000000 in
set_option maxRecDepth 20000 in
theorem s8_text_34 {N : Nat} (F : Nat) : ∀ (f : Nat) (l1 : Int32) (l2 : Int32) (l3 : Int32) (S : sm_t), sm_S (sm_jI N) k8_text 0 0 34 [some (.ref 52), some (.int l1), some (.int l2), some (.int l3)] [] (sm_m N S) (x8_text_34 F f l1 l2 l3 S) := by
  intro f
  induction f with
  | zero =>
    intro l1 l2 l3 S
    exact sd_none
  | succ f ih =>
    intro l1 l2 l3 S
    rw [x8_text_34]
    refine sd_iload_n (pc := 34) d8_text_34 rfl ?_
    refine sd_bipush (pc := 35) 80 d8_text_35 cb_80 ?_
    refine sd_ic_ge (pc := 37) 59 d8_text_37 (by decide) (fun _ => ?_) (fun _ => ?_)
    · refine sd_iload_n (pc := 59) d8_text_59 rfl ?_
      exact sd_iret (pc := 60) d8_text_60 rfl (Nat.zero_le _) (Nat.zero_le _)
    · refine sd_aload_n (pc := 40) d8_text_40 rfl ?_
      refine sd_getR (pc := 41) 58 (show sm_sq 52 = some (.inr 7) from rfl) rfl fl8_29 rfl d8_text_41 ?_
      refine sd_bipush (pc := 44) 80 d8_text_44 cb_80 ?_
      refine sd_iload_n (pc := 46) d8_text_46 rfl ?_
      refine sd_imul (pc := 47) d8_text_47 ?_
      refine sd_iload_n (pc := 48) d8_text_48 rfl ?_
      refine sd_iadd (pc := 49) d8_text_49 ?_
      refine sd_bipush (pc := 50) 32 d8_text_50 cb_32 ?_
      refine sd_iast (pc := 52) (show sm_sq 58 = some (.inl (.int, 320)) from rfl) d8_text_52 (fun S => ?_)
      refine sd_iinc (lf2 := [some (.ref 52), some (.int l1), some (.int l2), some (.int (l3 + 1))]) (pc := 53) d8_text_53 (Nat.le_of_ble_eq_true rfl) rfl ci_1 rfl ?_
      refine sd_goto (pc := 56) 34 d8_text_56 (by decide) ?_
      exact ih l1 l2 (l3 + 1) S
set_option maxHeartbeats 4000000 in
set_option maxRecDepth 20000 in
theorem s8_text {N : Nat} (F : Nat) (l1 : Int32) (l2 : Int32) (S : sm_t) : sm_P (sm_jI N) k8_text [.ref 52, .int l1, .int l2] (sm_m N S) (x8_text F l1 l2 S) := by
  show sm_S (sm_jI N) k8_text 0 0 0 [some (.ref 52), some (.int l1), some (.int l2), none] [] (sm_m N S) (x8_text F l1 l2 S)
  unfold x8_text
  refine sd_iload_n (pc := 0) d8_text_0 rfl ?_
  refine sd_cSI (k2 := k8_isText) (As := [.int l1]) (rest := []) (pc := 1) 92 d8_text_1 ml8_92 (ms8_isText) (me8_isText) ⟨rfl, rfl⟩ ⟨Nat.le_of_ble_eq_true rfl, Nat.le_of_ble_eq_true rfl⟩ (Nat.le_of_ble_eq_true rfl) (Nat.le_of_ble_eq_true rfl) (Or.inr rfl) (Nat.zero_le _) (Nat.zero_le _) rfl (s8_isText F l1 S) (fun v1 S => ?_)
  refine sd_if_eq (pc := 4) 13 d8_text_4 (by decide) (fun _ => ?_) (fun _ => ?_)
  · refine sd_iconst (pc := 13) (-1) d8_text_13 ci_m1 ?_
    exact sd_iret (pc := 14) d8_text_14 rfl (Nat.zero_le _) (Nat.zero_le _)
  · refine sd_iload_n (pc := 7) d8_text_7 rfl ?_
    refine sd_bipush (pc := 8) 80 d8_text_8 cb_80 ?_
    refine sd_ic_le (pc := 10) 15 d8_text_10 (by decide) (fun _ => ?_) (fun _ => ?_)
    · refine sd_iload_n (pc := 15) d8_text_15 rfl ?_
      refine sd_if_ge (pc := 16) 25 d8_text_16 (by decide) (fun _ => ?_) (fun _ => ?_)
      · refine sd_aload_n (pc := 25) d8_text_25 rfl ?_
        refine sd_getR (pc := 26) 57 (show sm_sq 52 = some (.inr 7) from rfl) rfl fl8_26 rfl d8_text_26 ?_
        refine sd_iload_n (pc := 29) d8_text_29 rfl ?_
        refine sd_iload_n (pc := 30) d8_text_30 rfl ?_
        refine sd_iast (pc := 31) (show sm_sq 57 = some (.inl (.int, 4)) from rfl) d8_text_31 (fun S => ?_)
        refine sd_iconst (pc := 32) 0 d8_text_32 ci_0 ?_
        refine sd_istore_n (lf2 := [some (.ref 52), some (.int l1), some (.int l2), some (.int 0)]) (pc := 33) d8_text_33 (Nat.le_of_ble_eq_true rfl) rfl ?_
        exact s8_text_34 F F l1 l2 0 S
      · refine sd_aload_n (pc := 19) d8_text_19 rfl ?_
        refine sd_iconst (pc := 20) 5 d8_text_20 ci_5 ?_
        refine sd_cVI (k2 := k8_meets) (As := [.int 5]) (rest := []) (b := 52) (ci := 7) (pc := 21) 88 (show sm_sq 52 = some (.inr 7) from rfl) (by decide) rfl d8_text_21 ml8_88 (ms8_meets).1 (ms8_meets).2 (me8_meets) ⟨rfl, rfl⟩ ⟨Nat.le_of_ble_eq_true rfl, Nat.le_of_ble_eq_true rfl⟩ (Nat.le_of_ble_eq_true rfl) (Nat.le_of_ble_eq_true rfl) (Or.inl rfl) (Nat.zero_le _) (Nat.zero_le _) rfl (s8_meets F 5 S) (fun v2 S => ?_)
        exact sd_iret (pc := 24) d8_text_24 rfl (Nat.zero_le _) (Nat.zero_le _)
    · refine sd_iconst (pc := 13) (-1) d8_text_13 ci_m1 ?_
      exact sd_iret (pc := 14) d8_text_14 rfl (Nat.zero_le _) (Nat.zero_le _)
set_option maxHeartbeats 4000000 in
set_option maxRecDepth 20000 in
theorem s7_put {N : Nat} (F : Nat) (l1 : Int32) (l2 : Int32) (l3 : Int32) (S : sm_t) : sm_P (sm_jI N) k7_put [.ref 3, .int l1, .int l2, .int l3] (sm_m N S) (x7_put F l1 l2 l3 S) := by
  show sm_S (sm_jI N) k7_put 0 0 0 [some (.ref 3), some (.int l1), some (.int l2), some (.int l3), none] [] (sm_m N S) (x7_put F l1 l2 l3 S)
  unfold x7_put
  refine sd_iload_n (pc := 0) d7_put_0 rfl ?_
  refine sd_cSI (k2 := k7_isText) (As := [.int l1]) (rest := []) (pc := 1) 114 d7_put_1 ml7_114 (ms7_isText) (me7_isText) ⟨rfl, rfl⟩ ⟨Nat.le_of_ble_eq_true rfl, Nat.le_of_ble_eq_true rfl⟩ (Nat.le_of_ble_eq_true rfl) (Nat.le_of_ble_eq_true rfl) (Or.inr rfl) (Nat.zero_le _) (Nat.zero_le _) rfl (s7_isText F l1 S) (fun v1 S => ?_)
  refine sd_if_ne (pc := 4) 9 d7_put_4 (by decide) (fun _ => ?_) (fun _ => ?_)
  · refine sd_iconst (pc := 7) (-1) d7_put_7 ci_m1 ?_
    exact sd_iret (pc := 8) d7_put_8 rfl (Nat.zero_le _) (Nat.zero_le _)
  · refine sd_aload_n (pc := 9) d7_put_9 rfl ?_
    refine sd_getR (pc := 10) 17 (show sm_sq 3 = some (.inr 6) from rfl) rfl fl7_23 rfl d7_put_10 ?_
    refine sd_iload_n (pc := 13) d7_put_13 rfl ?_
    refine sd_iald (pc := 14) (show sm_sq 17 = some (.inl (.int, 4)) from rfl) d7_put_14 (fun v2 => ?_)
    refine sd_iconst (pc := 15) (-1) d7_put_15 ci_m1 ?_
    refine sd_ic_ne (pc := 16) 25 d7_put_16 (by decide) (fun _ => ?_) (fun _ => ?_)
    · refine sd_aload_n (pc := 19) d7_put_19 rfl ?_
      refine sd_iconst (pc := 20) 1 d7_put_20 ci_1 ?_
      refine sd_cVI (k2 := k7_found) (As := [.int 1]) (rest := []) (b := 3) (ci := 6) (pc := 21) 92 (show sm_sq 3 = some (.inr 6) from rfl) (by decide) rfl d7_put_21 ml7_92 (ms7_found).1 (ms7_found).2 (me7_found) ⟨rfl, rfl⟩ ⟨Nat.le_of_ble_eq_true rfl, Nat.le_of_ble_eq_true rfl⟩ (Nat.le_of_ble_eq_true rfl) (Nat.le_of_ble_eq_true rfl) (Or.inl rfl) (Nat.zero_le _) (Nat.zero_le _) rfl (s7_found F 1 S) (fun v3 S => ?_)
      exact sd_iret (pc := 24) d7_put_24 rfl (Nat.zero_le _) (Nat.zero_le _)
    · refine sd_iload_n (pc := 25) d7_put_25 rfl ?_
      refine sd_if_lt (pc := 26) 39 d7_put_26 (by decide) (fun _ => ?_) (fun _ => ?_)
      · refine sd_aload_n (pc := 39) d7_put_39 rfl ?_
        refine sd_iconst (pc := 40) 2 d7_put_40 ci_2 ?_
        refine sd_cVI (k2 := k7_found) (As := [.int 2]) (rest := []) (b := 3) (ci := 6) (pc := 41) 92 (show sm_sq 3 = some (.inr 6) from rfl) (by decide) rfl d7_put_41 ml7_92 (ms7_found).1 (ms7_found).2 (me7_found) ⟨rfl, rfl⟩ ⟨Nat.le_of_ble_eq_true rfl, Nat.le_of_ble_eq_true rfl⟩ (Nat.le_of_ble_eq_true rfl) (Nat.le_of_ble_eq_true rfl) (Or.inl rfl) (Nat.zero_le _) (Nat.zero_le _) rfl (s7_found F 2 S) (fun v4 S => ?_)
        exact sd_iret (pc := 44) d7_put_44 rfl (Nat.zero_le _) (Nat.zero_le _)
      · refine sd_iload_n (pc := 29) d7_put_29 rfl ?_
        refine sd_aload_n (pc := 30) d7_put_30 rfl ?_
        refine sd_getR (pc := 31) 17 (show sm_sq 3 = some (.inr 6) from rfl) rfl fl7_23 rfl d7_put_31 ?_
        refine sd_iload_n (pc := 34) d7_put_34 rfl ?_
        refine sd_iald (pc := 35) (show sm_sq 17 = some (.inl (.int, 4)) from rfl) d7_put_35 (fun v5 => ?_)
        refine sd_ic_lt (pc := 36) 45 d7_put_36 (by decide) (fun _ => ?_) (fun _ => ?_)
        · refine sd_aload_n (pc := 45) d7_put_45 rfl ?_
          refine sd_getR (pc := 46) 12 (show sm_sq 3 = some (.inr 6) from rfl) rfl fl7_20 rfl d7_put_46 ?_
          refine sd_iload_n (pc := 49) d7_put_49 rfl ?_
          refine sd_aald (pc := 50) 5 (show sm_sq 12 = some (.inl (.array .byte, 4)) from rfl) rfl rfl (fun _ => rfl) (fun _ _ _ _ h => if_pos h) d7_put_50 (fun a6 => ?_)
          refine sd_iload_n (pc := 51) d7_put_51 rfl ?_
          refine sd_an (fun n8 h7 => ?_)
          refine sd_bald (pc := 52) h7 d7_put_52 (fun v9 => ?_)
          refine sd_istore (lf2 := [some (.ref 3), some (.int l1), some (.int l2), some (.int l3), some (.int v9)]) (pc := 53) d7_put_53 (Nat.le_of_ble_eq_true rfl) rfl ?_
          refine sd_aload_n (pc := 55) d7_put_55 rfl ?_
          refine sd_getR (pc := 56) 12 (show sm_sq 3 = some (.inr 6) from rfl) rfl fl7_20 rfl d7_put_56 ?_
          refine sd_iload_n (pc := 59) d7_put_59 rfl ?_
          refine sd_aald (pc := 60) 5 (show sm_sq 12 = some (.inl (.array .byte, 4)) from rfl) rfl rfl (fun _ => rfl) (fun _ _ _ _ h => if_pos h) d7_put_60 (fun a10 => ?_)
          refine sd_iload_n (pc := 61) d7_put_61 rfl ?_
          refine sd_iload_n (pc := 62) d7_put_62 rfl ?_
          refine sd_i2b (pc := 63) d7_put_63 ?_
          refine sd_an (fun n12 h11 => ?_)
          refine sd_bast (pc := 64) h11 d7_put_64 (fun S => ?_)
          refine sd_iload (pc := 65) d7_put_65 rfl ?_
          refine sd_sipush (pc := 67) 1000 d7_put_67 cs_1000 ?_
          refine sd_iadd (pc := 70) d7_put_70 ?_
          exact sd_iret (pc := 71) d7_put_71 rfl (Nat.zero_le _) (Nat.zero_le _)
        · refine sd_aload_n (pc := 39) d7_put_39 rfl ?_
          refine sd_iconst (pc := 40) 2 d7_put_40 ci_2 ?_
          refine sd_cVI (k2 := k7_found) (As := [.int 2]) (rest := []) (b := 3) (ci := 6) (pc := 41) 92 (show sm_sq 3 = some (.inr 6) from rfl) (by decide) rfl d7_put_41 ml7_92 (ms7_found).1 (ms7_found).2 (me7_found) ⟨rfl, rfl⟩ ⟨Nat.le_of_ble_eq_true rfl, Nat.le_of_ble_eq_true rfl⟩ (Nat.le_of_ble_eq_true rfl) (Nat.le_of_ble_eq_true rfl) (Or.inl rfl) (Nat.zero_le _) (Nat.zero_le _) rfl (s7_found F 2 S) (fun v13 S => ?_)
          exact sd_iret (pc := 44) d7_put_44 rfl (Nat.zero_le _) (Nat.zero_le _)
set_option maxHeartbeats 4000000 in
set_option maxRecDepth 20000 in
theorem s8_askedText {N : Nat} (F : Nat) (l1 : Int32) (S : sm_t) : sm_P (sm_jI N) k8_askedText [.ref 52, .int l1] (sm_m N S) (x8_askedText F l1 S) := by
  show sm_S (sm_jI N) k8_askedText 0 0 0 [some (.ref 52), some (.int l1)] [] (sm_m N S) (x8_askedText F l1 S)
  unfold x8_askedText
  refine sd_iload_n (pc := 0) d8_askedText_0 rfl ?_
  refine sd_cSI (k2 := k8_isText) (As := [.int l1]) (rest := []) (pc := 1) 92 d8_askedText_1 ml8_92 (ms8_isText) (me8_isText) ⟨rfl, rfl⟩ ⟨Nat.le_of_ble_eq_true rfl, Nat.le_of_ble_eq_true rfl⟩ (Nat.le_of_ble_eq_true rfl) (Nat.le_of_ble_eq_true rfl) (Or.inr rfl) (Nat.zero_le _) (Nat.zero_le _) rfl (s8_isText F l1 S) (fun v1 S => ?_)
  refine sd_if_ne (pc := 4) 11 d8_askedText_4 (by decide) (fun _ => ?_) (fun _ => ?_)
  · refine sd_iconst (pc := 7) (-1) d8_askedText_7 ci_m1 ?_
    refine sd_goto (pc := 8) 29 d8_askedText_8 (by decide) ?_
    exact sd_iret (pc := 29) d8_askedText_29 rfl (Nat.zero_le _) (Nat.zero_le _)
  · refine sd_aload_n (pc := 11) d8_askedText_11 rfl ?_
    refine sd_getR (pc := 12) 57 (show sm_sq 52 = some (.inr 7) from rfl) rfl fl8_26 rfl d8_askedText_12 ?_
    refine sd_iload_n (pc := 15) d8_askedText_15 rfl ?_
    refine sd_iald (pc := 16) (show sm_sq 57 = some (.inl (.int, 4)) from rfl) d8_askedText_16 (fun v2 => ?_)
    refine sd_if_ge (pc := 17) 28 d8_askedText_17 (by decide) (fun _ => ?_) (fun _ => ?_)
    · refine sd_iconst (pc := 28) 0 d8_askedText_28 ci_0 ?_
      exact sd_iret (pc := 29) d8_askedText_29 rfl (Nat.zero_le _) (Nat.zero_le _)
    · refine sd_aload_n (pc := 20) d8_askedText_20 rfl ?_
      refine sd_iconst (pc := 21) 1 d8_askedText_21 ci_1 ?_
      refine sd_cVI (k2 := k8_meets) (As := [.int 1]) (rest := []) (b := 52) (ci := 7) (pc := 22) 88 (show sm_sq 52 = some (.inr 7) from rfl) (by decide) rfl d8_askedText_22 ml8_88 (ms8_meets).1 (ms8_meets).2 (me8_meets) ⟨rfl, rfl⟩ ⟨Nat.le_of_ble_eq_true rfl, Nat.le_of_ble_eq_true rfl⟩ (Nat.le_of_ble_eq_true rfl) (Nat.le_of_ble_eq_true rfl) (Or.inl rfl) (Nat.zero_le _) (Nat.zero_le _) rfl (s8_meets F 1 S) (fun v3 S => ?_)
      refine sd_goto (pc := 25) 29 d8_askedText_25 (by decide) ?_
      exact sd_iret (pc := 29) d8_askedText_29 rfl (Nat.zero_le _) (Nat.zero_le _)
set_option maxHeartbeats 4000000 in
set_option maxRecDepth 20000 in
theorem s8_put {N : Nat} (F : Nat) (l1 : Int32) (l2 : Int32) (l3 : Int32) (S : sm_t) : sm_P (sm_jI N) k8_put [.ref 52, .int l1, .int l2, .int l3] (sm_m N S) (x8_put F l1 l2 l3 S) := by
  show sm_S (sm_jI N) k8_put 0 0 0 [some (.ref 52), some (.int l1), some (.int l2), some (.int l3), none, none] [] (sm_m N S) (x8_put F l1 l2 l3 S)
  unfold x8_put
  refine sd_aload_n (pc := 0) d8_put_0 rfl ?_
  refine sd_iload_n (pc := 1) d8_put_1 rfl ?_
  refine sd_cVI (k2 := k8_askedText) (As := [.int l1]) (rest := []) (b := 52) (ci := 7) (pc := 2) 108 (show sm_sq 52 = some (.inr 7) from rfl) (by decide) rfl d8_put_2 ml8_108 (ms8_askedText).1 (ms8_askedText).2 (me8_askedText) ⟨rfl, rfl⟩ ⟨Nat.le_of_ble_eq_true rfl, Nat.le_of_ble_eq_true rfl⟩ (Nat.le_of_ble_eq_true rfl) (Nat.le_of_ble_eq_true rfl) (Or.inl rfl) (Nat.zero_le _) (Nat.zero_le _) rfl (s8_askedText F l1 S) (fun v1 S => ?_)
  refine sd_istore (lf2 := [some (.ref 52), some (.int l1), some (.int l2), some (.int l3), some (.int v1), none]) (pc := 5) d8_put_5 (Nat.le_of_ble_eq_true rfl) rfl ?_
  refine sd_iload (pc := 7) d8_put_7 rfl ?_
  refine sd_if_ge (pc := 9) 15 d8_put_9 (by decide) (fun _ => ?_) (fun _ => ?_)
  · refine sd_iload_n (pc := 15) d8_put_15 rfl ?_
    refine sd_iconst (pc := 16) 0 d8_put_16 ci_0 ?_
    refine sd_aload_n (pc := 17) d8_put_17 rfl ?_
    refine sd_getR (pc := 18) 57 (show sm_sq 52 = some (.inr 7) from rfl) rfl fl8_26 rfl d8_put_18 ?_
    refine sd_iload_n (pc := 21) d8_put_21 rfl ?_
    refine sd_iald (pc := 22) (show sm_sq 57 = some (.inl (.int, 4)) from rfl) d8_put_22 (fun v2 => ?_)
    refine sd_iconst (pc := 23) 1 d8_put_23 ci_1 ?_
    refine sd_isub (pc := 24) d8_put_24 ?_
    refine sd_cSI (k2 := k8_in) (As := [.int l2, .int 0, .int (v2 - 1)]) (rest := []) (pc := 25) 80 d8_put_25 ml8_80 (ms8_in) (me8_in) ⟨rfl, rfl⟩ ⟨Nat.le_of_ble_eq_true rfl, Nat.le_of_ble_eq_true rfl⟩ (Nat.le_of_ble_eq_true rfl) (Nat.le_of_ble_eq_true rfl) (Or.inr rfl) (Nat.zero_le _) (Nat.zero_le _) rfl (s8_in F l2 0 (v2 - 1) S) (fun v3 S => ?_)
    refine sd_if_ne (pc := 28) 37 d8_put_28 (by decide) (fun _ => ?_) (fun _ => ?_)
    · refine sd_aload_n (pc := 31) d8_put_31 rfl ?_
      refine sd_iconst (pc := 32) 2 d8_put_32 ci_2 ?_
      refine sd_cVI (k2 := k8_meets) (As := [.int 2]) (rest := []) (b := 52) (ci := 7) (pc := 33) 88 (show sm_sq 52 = some (.inr 7) from rfl) (by decide) rfl d8_put_33 ml8_88 (ms8_meets).1 (ms8_meets).2 (me8_meets) ⟨rfl, rfl⟩ ⟨Nat.le_of_ble_eq_true rfl, Nat.le_of_ble_eq_true rfl⟩ (Nat.le_of_ble_eq_true rfl) (Nat.le_of_ble_eq_true rfl) (Or.inl rfl) (Nat.zero_le _) (Nat.zero_le _) rfl (s8_meets F 2 S) (fun v4 S => ?_)
      exact sd_iret (pc := 36) d8_put_36 rfl (Nat.zero_le _) (Nat.zero_le _)
    · refine sd_aload_n (pc := 37) d8_put_37 rfl ?_
      refine sd_getR (pc := 38) 58 (show sm_sq 52 = some (.inr 7) from rfl) rfl fl8_29 rfl d8_put_38 ?_
      refine sd_bipush (pc := 41) 80 d8_put_41 cb_80 ?_
      refine sd_iload_n (pc := 43) d8_put_43 rfl ?_
      refine sd_imul (pc := 44) d8_put_44 ?_
      refine sd_iload_n (pc := 45) d8_put_45 rfl ?_
      refine sd_iadd (pc := 46) d8_put_46 ?_
      refine sd_iald (pc := 47) (show sm_sq 58 = some (.inl (.int, 320)) from rfl) d8_put_47 (fun v5 => ?_)
      refine sd_istore (lf2 := [some (.ref 52), some (.int l1), some (.int l2), some (.int l3), some (.int v1), some (.int v5)]) (pc := 48) d8_put_48 (Nat.le_of_ble_eq_true rfl) rfl ?_
      refine sd_aload_n (pc := 50) d8_put_50 rfl ?_
      refine sd_getR (pc := 51) 58 (show sm_sq 52 = some (.inr 7) from rfl) rfl fl8_29 rfl d8_put_51 ?_
      refine sd_bipush (pc := 54) 80 d8_put_54 cb_80 ?_
      refine sd_iload_n (pc := 56) d8_put_56 rfl ?_
      refine sd_imul (pc := 57) d8_put_57 ?_
      refine sd_iload_n (pc := 58) d8_put_58 rfl ?_
      refine sd_iadd (pc := 59) d8_put_59 ?_
      refine sd_iload_n (pc := 60) d8_put_60 rfl ?_
      refine sd_i2b (pc := 61) d8_put_61 ?_
      refine sd_iast (pc := 62) (show sm_sq 58 = some (.inl (.int, 320)) from rfl) d8_put_62 (fun S => ?_)
      refine sd_iload (pc := 63) d8_put_63 rfl ?_
      refine sd_sipush (pc := 65) 1000 d8_put_65 cs_1000 ?_
      refine sd_iadd (pc := 68) d8_put_68 ?_
      exact sd_iret (pc := 69) d8_put_69 rfl (Nat.zero_le _) (Nat.zero_le _)
  · refine sd_iload (pc := 12) d8_put_12 rfl ?_
    exact sd_iret (pc := 14) d8_put_14 rfl (Nat.zero_le _) (Nat.zero_le _)
set_option maxHeartbeats 4000000 in
set_option maxRecDepth 20000 in
theorem s1_isCell {N : Nat} (F : Nat) (l0 : Int32) (S : sm_t) : sm_P (sm_jI N) k1_isCell [.int l0] (sm_m N S) (x1_isCell F l0 S) := by
  show sm_S (sm_jI N) k1_isCell 0 0 0 [some (.int l0)] [] (sm_m N S) (x1_isCell F l0 S)
  unfold x1_isCell
  refine sd_iload_n (pc := 0) d1_isCell_0 rfl ?_
  refine sd_if_lt (pc := 1) 14 d1_isCell_1 (by decide) (fun _ => ?_) (fun _ => ?_)
  · refine sd_iconst (pc := 14) 0 d1_isCell_14 ci_0 ?_
    exact sd_zret (pc := 15) d1_isCell_15 (by decide) (Nat.zero_le _) (Nat.zero_le _)
  · refine sd_iload_n (pc := 4) d1_isCell_4 rfl ?_
    refine sd_bipush (pc := 5) 120 d1_isCell_5 cb_120 ?_
    refine sd_ic_ge (pc := 7) 14 d1_isCell_7 (by decide) (fun _ => ?_) (fun _ => ?_)
    · refine sd_iconst (pc := 14) 0 d1_isCell_14 ci_0 ?_
      exact sd_zret (pc := 15) d1_isCell_15 (by decide) (Nat.zero_le _) (Nat.zero_le _)
    · refine sd_iconst (pc := 10) 1 d1_isCell_10 ci_1 ?_
      refine sd_goto (pc := 11) 15 d1_isCell_11 (by decide) ?_
      exact sd_zret (pc := 15) d1_isCell_15 (by decide) (Nat.zero_le _) (Nat.zero_le _)
set_option maxHeartbeats 4000000 in
set_option maxRecDepth 20000 in
theorem s1_isSide {N : Nat} (F : Nat) (l0 : Int32) (S : sm_t) : sm_P (sm_jI N) k1_isSide [.int l0] (sm_m N S) (x1_isSide F l0 S) := by
  show sm_S (sm_jI N) k1_isSide 0 0 0 [some (.int l0)] [] (sm_m N S) (x1_isSide F l0 S)
  unfold x1_isSide
  refine sd_iload_n (pc := 0) d1_isSide_0 rfl ?_
  refine sd_if_lt (pc := 1) 14 d1_isSide_1 (by decide) (fun _ => ?_) (fun _ => ?_)
  · refine sd_iconst (pc := 14) 0 d1_isSide_14 ci_0 ?_
    exact sd_zret (pc := 15) d1_isSide_15 (by decide) (Nat.zero_le _) (Nat.zero_le _)
  · refine sd_iload_n (pc := 4) d1_isSide_4 rfl ?_
    refine sd_bipush (pc := 5) 8 d1_isSide_5 cb_8 ?_
    refine sd_ic_ge (pc := 7) 14 d1_isSide_7 (by decide) (fun _ => ?_) (fun _ => ?_)
    · refine sd_iconst (pc := 14) 0 d1_isSide_14 ci_0 ?_
      exact sd_zret (pc := 15) d1_isSide_15 (by decide) (Nat.zero_le _) (Nat.zero_le _)
    · refine sd_iconst (pc := 10) 1 d1_isSide_10 ci_1 ?_
      refine sd_goto (pc := 11) 15 d1_isSide_11 (by decide) ?_
      exact sd_zret (pc := 15) d1_isSide_15 (by decide) (Nat.zero_le _) (Nat.zero_le _)
set_option maxHeartbeats 4000000 in
set_option maxRecDepth 20000 in
theorem s3_begin {N : Nat} (F : Nat) (l1 : Int32) (l2 : Nat) (l3 : Int32) (S : sm_t) : sm_P (sm_jV N) k3_begin [.ref 19, .int l1, .ref l2, .int l3] (sm_m N S) (x3_begin F l1 l2 l3 S) := by
  show sm_S (sm_jV N) k3_begin 0 0 0 [some (.ref 19), some (.int l1), some (.ref l2), some (.int l3)] [] (sm_m N S) (x3_begin F l1 l2 l3 S)
  unfold x3_begin
  refine sd_aload_n (pc := 0) d3_begin_0 rfl ?_
  refine sd_iload_n (pc := 1) d3_begin_1 rfl ?_
  refine sd_putI (pc := 2) (show sm_sq 19 = some (.inr 2) from rfl) rfl fl3_9 rfl d3_begin_2 (fun S => ?_)
  refine sd_aload_n (pc := 5) d3_begin_5 rfl ?_
  refine sd_iload_n (pc := 6) d3_begin_6 rfl ?_
  refine sd_putI (pc := 7) (show sm_sq 19 = some (.inr 2) from rfl) rfl fl3_15 rfl d3_begin_7 (fun S => ?_)
  refine sd_aload_n (pc := 10) d3_begin_10 rfl ?_
  refine sd_iconst (pc := 11) 0 d3_begin_11 ci_0 ?_
  refine sd_aload_n (pc := 12) d3_begin_12 rfl ?_
  refine sd_getR (pc := 13) 20 (show sm_sq 19 = some (.inr 2) from rfl) rfl fl3_18 rfl d3_begin_13 ?_
  refine sd_iconst (pc := 16) 0 d3_begin_16 ci_0 ?_
  refine sd_iload_n (pc := 17) d3_begin_17 rfl ?_
  refine sd_an (fun n2 h1 => ?_)
  refine sd_copy (pc := 18) 25 sl3_25 h1 (show sm_sq 20 = some (.inl (.int, 6)) from rfl) (Nat.le_of_ble_eq_true rfl) (Nat.le_of_ble_eq_true rfl) d3_begin_18 (fun S => ?_)
  refine sd_aload_n (pc := 21) d3_begin_21 rfl ?_
  refine sd_getR (pc := 22) 21 (show sm_sq 19 = some (.inr 2) from rfl) rfl fl3_22 rfl d3_begin_22 ?_
  refine sd_iconst (pc := 25) 0 d3_begin_25 ci_0 ?_
  refine sd_cSV (k2 := kA_fillI) (As := [.ref 21, .int 0]) (rest := []) (pc := 26) 31 d3_begin_26 ml3_31 (msA_fillI) (meA_fillI) ⟨rfl, rfl⟩ ⟨Nat.le_of_ble_eq_true rfl, Nat.le_of_ble_eq_true rfl⟩ (Nat.le_of_ble_eq_true rfl) (Nat.le_of_ble_eq_true rfl) rfl (Nat.zero_le _) (Nat.zero_le _) rfl (sA_fillI F 21 0 S) (fun S => ?_)
  refine sd_aload_n (pc := 29) d3_begin_29 rfl ?_
  refine sd_getR (pc := 30) 21 (show sm_sq 19 = some (.inr 2) from rfl) rfl fl3_22 rfl d3_begin_30 ?_
  refine sd_iload_n (pc := 33) d3_begin_33 rfl ?_
  refine sd_iconst (pc := 34) 1 d3_begin_34 ci_1 ?_
  refine sd_iast (pc := 35) (show sm_sq 21 = some (.inl (.int, 7)) from rfl) d3_begin_35 (fun S => ?_)
  exact sd_vret (pc := 36) d3_begin_36 (Nat.zero_le _) (Nat.zero_le _)
set_option maxHeartbeats 4000000 in
set_option maxRecDepth 20000 in
theorem s7_flight_87 {N : Nat} (F : Nat) (l1 : Int32) (l2 : Int32) (S : sm_t) : sm_S (sm_jI N) k7_flight 0 0 87 [some (.ref 3), some (.int l1), some (.int l2), none] [] (sm_m N S) (x7_flight_87 F l1 l2 S) := by
  unfold x7_flight_87
  refine sd_aload_n (pc := 87) d7_flight_87 rfl ?_
  refine sd_getR (pc := 88) 19 (show sm_sq 3 = some (.inr 6) from rfl) rfl fl7_37 rfl d7_flight_88 ?_
  refine sd_iload_n (pc := 91) d7_flight_91 rfl ?_
  refine sd_aload_n (pc := 92) d7_flight_92 rfl ?_
  refine sd_getR (pc := 93) 4 (show sm_sq 3 = some (.inr 6) from rfl) rfl fl7_11 rfl d7_flight_93 ?_
  refine sd_iload_n (pc := 96) d7_flight_96 rfl ?_
  refine sd_aald (pc := 97) 4 (show sm_sq 4 = some (.inl (.array .int, 6)) from rfl) rfl rfl (fun _ => rfl) (fun _ _ _ _ h => if_pos h) d7_flight_97 (fun a1 => ?_)
  refine sd_aload_n (pc := 98) d7_flight_98 rfl ?_
  refine sd_getR (pc := 99) 11 (show sm_sq 3 = some (.inr 6) from rfl) rfl fl7_14 rfl d7_flight_99 ?_
  refine sd_iload_n (pc := 102) d7_flight_102 rfl ?_
  refine sd_iald (pc := 103) (show sm_sq 11 = some (.inl (.int, 6)) from rfl) d7_flight_103 (fun v2 => ?_)
  refine sd_cVV (k2 := k3_begin) (As := [.int l1, .ref a1, .int v2]) (rest := []) (b := 19) (ci := 2) (pc := 104) 130 (show sm_sq 19 = some (.inr 2) from rfl) (by decide) rfl d7_flight_104 ml7_130 (ms3_begin).1 (ms3_begin).2 (me3_begin) ⟨rfl, rfl⟩ ⟨Nat.le_of_ble_eq_true rfl, Nat.le_of_ble_eq_true rfl⟩ (Nat.le_of_ble_eq_true rfl) (Nat.le_of_ble_eq_true rfl) rfl (Nat.zero_le _) (Nat.zero_le _) rfl (s3_begin F l1 a1 v2 S) (fun S => ?_)
  refine sd_aload_n (pc := 107) d7_flight_107 rfl ?_
  refine sd_getR (pc := 108) 19 (show sm_sq 3 = some (.inr 6) from rfl) rfl fl7_37 rfl d7_flight_108 ?_
  refine sd_getI (pc := 111) (show sm_sq 19 = some (.inr 2) from rfl) rfl fl7_134 d7_flight_111 (fun v4 => ?_)
  exact sd_iret (pc := 114) d7_flight_114 rfl (Nat.zero_le _) (Nat.zero_le _)
set_option maxHeartbeats 4000000 in
set_option maxRecDepth 20000 in
theorem s7_flight_51 {N : Nat} (F : Nat) : ∀ (f : Nat) (l1 : Int32) (l2 : Int32) (l3 : Int32) (S : sm_t), sm_S (sm_jI N) k7_flight 0 0 51 [some (.ref 3), some (.int l1), some (.int l2), some (.int l3)] [] (sm_m N S) (x7_flight_51 F f l1 l2 l3 S) := by
  intro f
  induction f with
  | zero =>
    intro l1 l2 l3 S
    exact sd_none
  | succ f ih =>
    intro l1 l2 l3 S
    rw [x7_flight_51]
    refine sd_iload_n (pc := 51) d7_flight_51 rfl ?_
    refine sd_aload_n (pc := 52) d7_flight_52 rfl ?_
    refine sd_getR (pc := 53) 11 (show sm_sq 3 = some (.inr 6) from rfl) rfl fl7_14 rfl d7_flight_53 ?_
    refine sd_iload_n (pc := 56) d7_flight_56 rfl ?_
    refine sd_iald (pc := 57) (show sm_sq 11 = some (.inl (.int, 6)) from rfl) d7_flight_57 (fun v1 => ?_)
    refine sd_ic_ge (pc := 58) 87 d7_flight_58 (by decide) (fun _ => ?_) (fun _ => ?_)
    · exact sd_fg [true, true, true, false] rfl (s7_flight_87 F l1 l2 S)
    · refine sd_aload_n (pc := 61) d7_flight_61 rfl ?_
      refine sd_getR (pc := 62) 4 (show sm_sq 3 = some (.inr 6) from rfl) rfl fl7_11 rfl d7_flight_62 ?_
      refine sd_iload_n (pc := 65) d7_flight_65 rfl ?_
      refine sd_aald (pc := 66) 4 (show sm_sq 4 = some (.inl (.array .int, 6)) from rfl) rfl rfl (fun _ => rfl) (fun _ _ _ _ h => if_pos h) d7_flight_66 (fun a2 => ?_)
      refine sd_iload_n (pc := 67) d7_flight_67 rfl ?_
      refine sd_an (fun n4 h3 => ?_)
      refine sd_iald (pc := 68) h3 d7_flight_68 (fun v5 => ?_)
      refine sd_cSI (k2 := k1_isSide) (As := [.int v5]) (rest := []) (pc := 69) 127 d7_flight_69 ml7_127 (ms1_isSide) (me1_isSide) ⟨rfl, rfl⟩ ⟨Nat.le_of_ble_eq_true rfl, Nat.le_of_ble_eq_true rfl⟩ (Nat.le_of_ble_eq_true rfl) (Nat.le_of_ble_eq_true rfl) (Or.inr rfl) (Nat.zero_le _) (Nat.zero_le _) rfl (s1_isSide F v5 S) (fun v6 S => ?_)
      refine sd_if_ne (pc := 72) 81 d7_flight_72 (by decide) (fun _ => ?_) (fun _ => ?_)
      · refine sd_aload_n (pc := 75) d7_flight_75 rfl ?_
        refine sd_iconst (pc := 76) 3 d7_flight_76 ci_3 ?_
        refine sd_cVI (k2 := k7_found) (As := [.int 3]) (rest := []) (b := 3) (ci := 6) (pc := 77) 92 (show sm_sq 3 = some (.inr 6) from rfl) (by decide) rfl d7_flight_77 ml7_92 (ms7_found).1 (ms7_found).2 (me7_found) ⟨rfl, rfl⟩ ⟨Nat.le_of_ble_eq_true rfl, Nat.le_of_ble_eq_true rfl⟩ (Nat.le_of_ble_eq_true rfl) (Nat.le_of_ble_eq_true rfl) (Or.inl rfl) (Nat.zero_le _) (Nat.zero_le _) rfl (s7_found F 3 S) (fun v7 S => ?_)
        exact sd_iret (pc := 80) d7_flight_80 rfl (Nat.zero_le _) (Nat.zero_le _)
      · refine sd_iinc (lf2 := [some (.ref 3), some (.int l1), some (.int l2), some (.int (l3 + 1))]) (pc := 81) d7_flight_81 (Nat.le_of_ble_eq_true rfl) rfl ci_1 rfl ?_
        refine sd_goto (pc := 84) 51 d7_flight_84 (by decide) ?_
        exact ih l1 l2 (l3 + 1) S
set_option maxHeartbeats 4000000 in
set_option maxRecDepth 20000 in
theorem s7_flight {N : Nat} (F : Nat) (l1 : Int32) (l2 : Int32) (S : sm_t) : sm_P (sm_jI N) k7_flight [.ref 3, .int l1, .int l2] (sm_m N S) (x7_flight F l1 l2 S) := by
  show sm_S (sm_jI N) k7_flight 0 0 0 [some (.ref 3), some (.int l1), some (.int l2), none] [] (sm_m N S) (x7_flight F l1 l2 S)
  unfold x7_flight
  refine sd_iload_n (pc := 0) d7_flight_0 rfl ?_
  refine sd_cSI (k2 := k1_isCell) (As := [.int l1]) (rest := []) (pc := 1) 120 d7_flight_1 ml7_120 (ms1_isCell) (me1_isCell) ⟨rfl, rfl⟩ ⟨Nat.le_of_ble_eq_true rfl, Nat.le_of_ble_eq_true rfl⟩ (Nat.le_of_ble_eq_true rfl) (Nat.le_of_ble_eq_true rfl) (Or.inr rfl) (Nat.zero_le _) (Nat.zero_le _) rfl (s1_isCell F l1 S) (fun v1 S => ?_)
  refine sd_if_eq (pc := 4) 14 d7_flight_4 (by decide) (fun _ => ?_) (fun _ => ?_)
  · refine sd_iconst (pc := 14) (-1) d7_flight_14 ci_m1 ?_
    exact sd_iret (pc := 15) d7_flight_15 rfl (Nat.zero_le _) (Nat.zero_le _)
  · refine sd_iload_n (pc := 7) d7_flight_7 rfl ?_
    refine sd_cSI (k2 := k7_isRow) (As := [.int l2]) (rest := []) (pc := 8) 88 d7_flight_8 ml7_88 (ms7_isRow) (me7_isRow) ⟨rfl, rfl⟩ ⟨Nat.le_of_ble_eq_true rfl, Nat.le_of_ble_eq_true rfl⟩ (Nat.le_of_ble_eq_true rfl) (Nat.le_of_ble_eq_true rfl) (Or.inr rfl) (Nat.zero_le _) (Nat.zero_le _) rfl (s7_isRow F l2 S) (fun v2 S => ?_)
    refine sd_if_ne (pc := 11) 16 d7_flight_11 (by decide) (fun _ => ?_) (fun _ => ?_)
    · refine sd_iconst (pc := 14) (-1) d7_flight_14 ci_m1 ?_
      exact sd_iret (pc := 15) d7_flight_15 rfl (Nat.zero_le _) (Nat.zero_le _)
    · refine sd_aload_n (pc := 16) d7_flight_16 rfl ?_
      refine sd_getR (pc := 17) 11 (show sm_sq 3 = some (.inr 6) from rfl) rfl fl7_14 rfl d7_flight_17 ?_
      refine sd_iload_n (pc := 20) d7_flight_20 rfl ?_
      refine sd_iald (pc := 21) (show sm_sq 11 = some (.inl (.int, 6)) from rfl) d7_flight_21 (fun v3 => ?_)
      refine sd_iconst (pc := 22) (-1) d7_flight_22 ci_m1 ?_
      refine sd_ic_ne (pc := 23) 32 d7_flight_23 (by decide) (fun _ => ?_) (fun _ => ?_)
      · refine sd_aload_n (pc := 26) d7_flight_26 rfl ?_
        refine sd_iconst (pc := 27) 1 d7_flight_27 ci_1 ?_
        refine sd_cVI (k2 := k7_found) (As := [.int 1]) (rest := []) (b := 3) (ci := 6) (pc := 28) 92 (show sm_sq 3 = some (.inr 6) from rfl) (by decide) rfl d7_flight_28 ml7_92 (ms7_found).1 (ms7_found).2 (me7_found) ⟨rfl, rfl⟩ ⟨Nat.le_of_ble_eq_true rfl, Nat.le_of_ble_eq_true rfl⟩ (Nat.le_of_ble_eq_true rfl) (Nat.le_of_ble_eq_true rfl) (Or.inl rfl) (Nat.zero_le _) (Nat.zero_le _) rfl (s7_found F 1 S) (fun v4 S => ?_)
        exact sd_iret (pc := 31) d7_flight_31 rfl (Nat.zero_le _) (Nat.zero_le _)
      · refine sd_aload_n (pc := 32) d7_flight_32 rfl ?_
        refine sd_getR (pc := 33) 11 (show sm_sq 3 = some (.inr 6) from rfl) rfl fl7_14 rfl d7_flight_33 ?_
        refine sd_iload_n (pc := 36) d7_flight_36 rfl ?_
        refine sd_iald (pc := 37) (show sm_sq 11 = some (.inl (.int, 6)) from rfl) d7_flight_37 (fun v5 => ?_)
        refine sd_bipush (pc := 38) 6 d7_flight_38 cb_6 ?_
        refine sd_ic_le (pc := 40) 49 d7_flight_40 (by decide) (fun _ => ?_) (fun _ => ?_)
        · refine sd_iconst (pc := 49) 0 d7_flight_49 ci_0 ?_
          refine sd_istore_n (lf2 := [some (.ref 3), some (.int l1), some (.int l2), some (.int 0)]) (pc := 50) d7_flight_50 (Nat.le_of_ble_eq_true rfl) rfl ?_
          exact s7_flight_51 F F l1 l2 0 S
        · refine sd_aload_n (pc := 43) d7_flight_43 rfl ?_
          refine sd_iconst (pc := 44) 5 d7_flight_44 ci_5 ?_
          refine sd_cVI (k2 := k7_found) (As := [.int 5]) (rest := []) (b := 3) (ci := 6) (pc := 45) 92 (show sm_sq 3 = some (.inr 6) from rfl) (by decide) rfl d7_flight_45 ml7_92 (ms7_found).1 (ms7_found).2 (me7_found) ⟨rfl, rfl⟩ ⟨Nat.le_of_ble_eq_true rfl, Nat.le_of_ble_eq_true rfl⟩ (Nat.le_of_ble_eq_true rfl) (Nat.le_of_ble_eq_true rfl) (Or.inl rfl) (Nat.zero_le _) (Nat.zero_le _) rfl (s7_found F 5 S) (fun v6 S => ?_)
          exact sd_iret (pc := 48) d7_flight_48 rfl (Nat.zero_le _) (Nat.zero_le _)
set_option maxHeartbeats 4000000 in
set_option maxRecDepth 20000 in
theorem s8_isCell {N : Nat} (F : Nat) (l0 : Int32) (S : sm_t) : sm_P (sm_jI N) k8_isCell [.int l0] (sm_m N S) (x8_isCell F l0 S) := by
  show sm_S (sm_jI N) k8_isCell 0 0 0 [some (.int l0)] [] (sm_m N S) (x8_isCell F l0 S)
  unfold x8_isCell
  refine sd_iload_n (pc := 0) d8_isCell_0 rfl ?_
  refine sd_iconst (pc := 1) 0 d8_isCell_1 ci_0 ?_
  refine sd_bipush (pc := 2) 119 d8_isCell_2 cb_119 ?_
  refine sd_cSI (k2 := k8_in) (As := [.int l0, .int 0, .int 119]) (rest := []) (pc := 4) 80 d8_isCell_4 ml8_80 (ms8_in) (me8_in) ⟨rfl, rfl⟩ ⟨Nat.le_of_ble_eq_true rfl, Nat.le_of_ble_eq_true rfl⟩ (Nat.le_of_ble_eq_true rfl) (Nat.le_of_ble_eq_true rfl) (Or.inr rfl) (Nat.zero_le _) (Nat.zero_le _) rfl (s8_in F l0 0 119 S) (fun v1 S => ?_)
  exact sd_zrv (pc := 7) d8_isCell_7 (Nat.zero_le _) (Nat.zero_le _)
set_option maxHeartbeats 4000000 in
set_option maxRecDepth 20000 in
theorem s8_isSide {N : Nat} (F : Nat) (l0 : Int32) (S : sm_t) : sm_P (sm_jI N) k8_isSide [.int l0] (sm_m N S) (x8_isSide F l0 S) := by
  show sm_S (sm_jI N) k8_isSide 0 0 0 [some (.int l0)] [] (sm_m N S) (x8_isSide F l0 S)
  unfold x8_isSide
  refine sd_iload_n (pc := 0) d8_isSide_0 rfl ?_
  refine sd_iconst (pc := 1) 0 d8_isSide_1 ci_0 ?_
  refine sd_bipush (pc := 2) 7 d8_isSide_2 cb_7 ?_
  refine sd_cSI (k2 := k8_in) (As := [.int l0, .int 0, .int 7]) (rest := []) (pc := 4) 80 d8_isSide_4 ml8_80 (ms8_in) (me8_in) ⟨rfl, rfl⟩ ⟨Nat.le_of_ble_eq_true rfl, Nat.le_of_ble_eq_true rfl⟩ (Nat.le_of_ble_eq_true rfl) (Nat.le_of_ble_eq_true rfl) (Or.inr rfl) (Nat.zero_le _) (Nat.zero_le _) rfl (s8_in F l0 0 7 S) (fun v1 S => ?_)
  exact sd_zrv (pc := 7) d8_isSide_7 (Nat.zero_le _) (Nat.zero_le _)
set_option maxHeartbeats 4000000 in
set_option maxRecDepth 20000 in
theorem s8_flight_139 {N : Nat} (F : Nat) : ∀ (f : Nat) (l4 : Int32) (l5 : Int32) (S : sm_t), sm_S (sm_jI N) k8_flight 0 0 139 [some (.ref 52), none, none, none, some (.int l4), some (.int l5)] [] (sm_m N S) (x8_flight_139 F f l4 l5 S) := by
  intro f
  induction f with
  | zero =>
    intro l4 l5 S
    exact sd_none
  | succ f ih =>
    intro l4 l5 S
    rw [x8_flight_139]
    refine sd_iload (pc := 139) d8_flight_139 rfl ?_
    refine sd_bipush (pc := 141) 6 d8_flight_141 cb_6 ?_
    refine sd_ic_gt (pc := 143) 186 d8_flight_143 (by decide) (fun _ => ?_) (fun _ => ?_)
    · refine sd_iload (pc := 186) d8_flight_186 rfl ?_
      exact sd_iret (pc := 188) d8_flight_188 rfl (Nat.zero_le _) (Nat.zero_le _)
    · refine sd_aload_n (pc := 146) d8_flight_146 rfl ?_
      refine sd_getR (pc := 147) 59 (show sm_sq 52 = some (.inr 7) from rfl) rfl fl8_32 rfl d8_flight_147 ?_
      refine sd_bipush (pc := 150) 8 d8_flight_150 cb_8 ?_
      refine sd_iload (pc := 152) d8_flight_152 rfl ?_
      refine sd_iadd (pc := 154) d8_flight_154 ?_
      refine sd_iload (pc := 155) d8_flight_155 rfl ?_
      refine sd_iload (pc := 157) d8_flight_157 rfl ?_
      refine sd_ic_le (pc := 159) 167 d8_flight_159 (by decide) (fun _ => ?_) (fun _ => ?_)
      · refine sd_iload (pc := 167) d8_flight_167 rfl ?_
        refine sd_iload (pc := 169) d8_flight_169 rfl ?_
        refine sd_ic_ne (pc := 171) 178 d8_flight_171 (by decide) (fun _ => ?_) (fun _ => ?_)
        · refine sd_iconst (pc := 174) 1 d8_flight_174 ci_1 ?_
          refine sd_goto (pc := 175) 179 d8_flight_175 (by decide) ?_
          refine sd_iast (pc := 179) (show sm_sq 59 = some (.inl (.int, 15)) from rfl) d8_flight_179 (fun S => ?_)
          refine sd_iinc (lf2 := [some (.ref 52), none, none, none, some (.int l4), some (.int (l5 + 1))]) (pc := 180) d8_flight_180 (Nat.le_of_ble_eq_true rfl) rfl ci_1 rfl ?_
          refine sd_goto (pc := 183) 139 d8_flight_183 (by decide) ?_
          exact ih l4 (l5 + 1) S
        · refine sd_iconst (pc := 178) 0 d8_flight_178 ci_0 ?_
          refine sd_iast (pc := 179) (show sm_sq 59 = some (.inl (.int, 15)) from rfl) d8_flight_179 (fun S => ?_)
          refine sd_iinc (lf2 := [some (.ref 52), none, none, none, some (.int l4), some (.int (l5 + 1))]) (pc := 180) d8_flight_180 (Nat.le_of_ble_eq_true rfl) rfl ci_1 rfl ?_
          refine sd_goto (pc := 183) 139 d8_flight_183 (by decide) ?_
          exact ih l4 (l5 + 1) S
      · refine sd_bipush (pc := 162) (-9) d8_flight_162 cb_m9 ?_
        refine sd_goto (pc := 164) 179 d8_flight_164 (by decide) ?_
        refine sd_iast (pc := 179) (show sm_sq 59 = some (.inl (.int, 15)) from rfl) d8_flight_179 (fun S => ?_)
        refine sd_iinc (lf2 := [some (.ref 52), none, none, none, some (.int l4), some (.int (l5 + 1))]) (pc := 180) d8_flight_180 (Nat.le_of_ble_eq_true rfl) rfl ci_1 rfl ?_
        refine sd_goto (pc := 183) 139 d8_flight_183 (by decide) ?_
        exact ih l4 (l5 + 1) S
set_option maxHeartbeats 4000000 in
set_option maxRecDepth 20000 in
theorem s8_flight_95 {N : Nat} (F : Nat) : ∀ (f : Nat) (l2 : Int32) (l4 : Int32) (l5 : Int32) (S : sm_t), sm_S (sm_jI N) k8_flight 0 0 95 [some (.ref 52), none, some (.int l2), none, some (.int l4), some (.int l5)] [] (sm_m N S) (x8_flight_95 F f l2 l4 l5 S) := by
  intro f
  induction f with
  | zero =>
    intro l2 l4 l5 S
    exact sd_none
  | succ f ih =>
    intro l2 l4 l5 S
    rw [x8_flight_95]
    refine sd_iload (pc := 95) d8_flight_95 rfl ?_
    refine sd_bipush (pc := 97) 6 d8_flight_97 cb_6 ?_
    refine sd_ic_ge (pc := 99) 136 d8_flight_99 (by decide) (fun _ => ?_) (fun _ => ?_)
    · refine sd_iconst (pc := 136) 0 d8_flight_136 ci_0 ?_
      refine sd_istore (lf2 := [some (.ref 52), none, some (.int l2), none, some (.int l4), some (.int 0)]) (pc := 137) d8_flight_137 (Nat.le_of_ble_eq_true rfl) rfl ?_
      exact sd_fg [true, true, false, true, true, true] rfl (s8_flight_139 F F l4 0 S)
    · refine sd_aload_n (pc := 102) d8_flight_102 rfl ?_
      refine sd_getR (pc := 103) 59 (show sm_sq 52 = some (.inr 7) from rfl) rfl fl8_32 rfl d8_flight_103 ?_
      refine sd_iconst (pc := 106) 2 d8_flight_106 ci_2 ?_
      refine sd_iload (pc := 107) d8_flight_107 rfl ?_
      refine sd_iadd (pc := 109) d8_flight_109 ?_
      refine sd_iload (pc := 110) d8_flight_110 rfl ?_
      refine sd_iload (pc := 112) d8_flight_112 rfl ?_
      refine sd_ic_ge (pc := 114) 127 d8_flight_114 (by decide) (fun _ => ?_) (fun _ => ?_)
      · refine sd_bipush (pc := 127) (-9) d8_flight_127 cb_m9 ?_
        refine sd_iast (pc := 129) (show sm_sq 59 = some (.inl (.int, 15)) from rfl) d8_flight_129 (fun S => ?_)
        refine sd_iinc (lf2 := [some (.ref 52), none, some (.int l2), none, some (.int l4), some (.int (l5 + 1))]) (pc := 130) d8_flight_130 (Nat.le_of_ble_eq_true rfl) rfl ci_1 rfl ?_
        refine sd_goto (pc := 133) 95 d8_flight_133 (by decide) ?_
        exact ih l2 l4 (l5 + 1) S
      · refine sd_aload_n (pc := 117) d8_flight_117 rfl ?_
        refine sd_iload_n (pc := 118) d8_flight_118 rfl ?_
        refine sd_iload (pc := 119) d8_flight_119 rfl ?_
        refine sd_cVI (k2 := k8_rowAt) (As := [.int l2, .int l5]) (rest := [.int (2 + l5), .ref 59]) (b := 52) (ci := 7) (pc := 121) 98 (show sm_sq 52 = some (.inr 7) from rfl) (by decide) rfl d8_flight_121 ml8_98 (ms8_rowAt).1 (ms8_rowAt).2 (me8_rowAt) ⟨rfl, rfl⟩ ⟨Nat.le_of_ble_eq_true rfl, Nat.le_of_ble_eq_true rfl⟩ (Nat.le_of_ble_eq_true rfl) (Nat.le_of_ble_eq_true rfl) (Or.inl rfl) (Nat.zero_le _) (Nat.zero_le _) rfl (s8_rowAt F l2 l5 S) (fun v1 S => ?_)
        refine sd_goto (pc := 124) 129 d8_flight_124 (by decide) ?_
        refine sd_iast (pc := 129) (show sm_sq 59 = some (.inl (.int, 15)) from rfl) d8_flight_129 (fun S => ?_)
        refine sd_iinc (lf2 := [some (.ref 52), none, some (.int l2), none, some (.int l4), some (.int (l5 + 1))]) (pc := 130) d8_flight_130 (Nat.le_of_ble_eq_true rfl) rfl ci_1 rfl ?_
        refine sd_goto (pc := 133) 95 d8_flight_133 (by decide) ?_
        exact ih l2 l4 (l5 + 1) S
set_option maxHeartbeats 4000000 in
set_option maxRecDepth 20000 in
theorem s8_flight_77 {N : Nat} (F : Nat) (l1 : Int32) (l2 : Int32) (l4 : Int32) (S : sm_t) : sm_S (sm_jI N) k8_flight 0 0 77 [some (.ref 52), some (.int l1), some (.int l2), none, some (.int l4), none] [] (sm_m N S) (x8_flight_77 F l1 l2 l4 S) := by
  unfold x8_flight_77
  refine sd_aload_n (pc := 77) d8_flight_77 rfl ?_
  refine sd_getR (pc := 78) 59 (show sm_sq 52 = some (.inr 7) from rfl) rfl fl8_32 rfl d8_flight_78 ?_
  refine sd_iconst (pc := 81) 0 d8_flight_81 ci_0 ?_
  refine sd_iload_n (pc := 82) d8_flight_82 rfl ?_
  refine sd_iast (pc := 83) (show sm_sq 59 = some (.inl (.int, 15)) from rfl) d8_flight_83 (fun S => ?_)
  refine sd_aload_n (pc := 84) d8_flight_84 rfl ?_
  refine sd_getR (pc := 85) 59 (show sm_sq 52 = some (.inr 7) from rfl) rfl fl8_32 rfl d8_flight_85 ?_
  refine sd_iconst (pc := 88) 1 d8_flight_88 ci_1 ?_
  refine sd_iload (pc := 89) d8_flight_89 rfl ?_
  refine sd_iast (pc := 91) (show sm_sq 59 = some (.inl (.int, 15)) from rfl) d8_flight_91 (fun S => ?_)
  refine sd_iconst (pc := 92) 0 d8_flight_92 ci_0 ?_
  refine sd_istore (lf2 := [some (.ref 52), some (.int l1), some (.int l2), none, some (.int l4), some (.int 0)]) (pc := 93) d8_flight_93 (Nat.le_of_ble_eq_true rfl) rfl ?_
  exact sd_fg [true, false, true, true, true, true] rfl (s8_flight_95 F F l2 l4 0 S)
set_option maxHeartbeats 4000000 in
set_option maxRecDepth 20000 in
theorem s8_flight_45 {N : Nat} (F : Nat) : ∀ (f : Nat) (l1 : Int32) (l2 : Int32) (l4 : Int32) (l5 : Int32) (S : sm_t), sm_S (sm_jI N) k8_flight 0 0 45 [some (.ref 52), some (.int l1), some (.int l2), none, some (.int l4), some (.int l5)] [] (sm_m N S) (x8_flight_45 F f l1 l2 l4 l5 S) := by
  intro f
  induction f with
  | zero =>
    intro l1 l2 l4 l5 S
    exact sd_none
  | succ f ih =>
    intro l1 l2 l4 l5 S
    rw [x8_flight_45]
    refine sd_iload (pc := 45) d8_flight_45 rfl ?_
    refine sd_iload (pc := 47) d8_flight_47 rfl ?_
    refine sd_ic_ge (pc := 49) 77 d8_flight_49 (by decide) (fun _ => ?_) (fun _ => ?_)
    · exact sd_fg [true, true, true, true, true, false] rfl (s8_flight_77 F l1 l2 l4 S)
    · refine sd_aload_n (pc := 52) d8_flight_52 rfl ?_
      refine sd_iload_n (pc := 53) d8_flight_53 rfl ?_
      refine sd_iload (pc := 54) d8_flight_54 rfl ?_
      refine sd_cVI (k2 := k8_rowAt) (As := [.int l2, .int l5]) (rest := []) (b := 52) (ci := 7) (pc := 56) 98 (show sm_sq 52 = some (.inr 7) from rfl) (by decide) rfl d8_flight_56 ml8_98 (ms8_rowAt).1 (ms8_rowAt).2 (me8_rowAt) ⟨rfl, rfl⟩ ⟨Nat.le_of_ble_eq_true rfl, Nat.le_of_ble_eq_true rfl⟩ (Nat.le_of_ble_eq_true rfl) (Nat.le_of_ble_eq_true rfl) (Or.inl rfl) (Nat.zero_le _) (Nat.zero_le _) rfl (s8_rowAt F l2 l5 S) (fun v1 S => ?_)
      refine sd_cSI (k2 := k8_isSide) (As := [.int v1]) (rest := []) (pc := 59) 126 d8_flight_59 ml8_126 (ms8_isSide) (me8_isSide) ⟨rfl, rfl⟩ ⟨Nat.le_of_ble_eq_true rfl, Nat.le_of_ble_eq_true rfl⟩ (Nat.le_of_ble_eq_true rfl) (Nat.le_of_ble_eq_true rfl) (Or.inr rfl) (Nat.zero_le _) (Nat.zero_le _) rfl (s8_isSide F v1 S) (fun v2 S => ?_)
      refine sd_if_ne (pc := 62) 71 d8_flight_62 (by decide) (fun _ => ?_) (fun _ => ?_)
      · refine sd_aload_n (pc := 65) d8_flight_65 rfl ?_
        refine sd_iconst (pc := 66) 3 d8_flight_66 ci_3 ?_
        refine sd_cVI (k2 := k8_meets) (As := [.int 3]) (rest := []) (b := 52) (ci := 7) (pc := 67) 88 (show sm_sq 52 = some (.inr 7) from rfl) (by decide) rfl d8_flight_67 ml8_88 (ms8_meets).1 (ms8_meets).2 (me8_meets) ⟨rfl, rfl⟩ ⟨Nat.le_of_ble_eq_true rfl, Nat.le_of_ble_eq_true rfl⟩ (Nat.le_of_ble_eq_true rfl) (Nat.le_of_ble_eq_true rfl) (Or.inl rfl) (Nat.zero_le _) (Nat.zero_le _) rfl (s8_meets F 3 S) (fun v3 S => ?_)
        exact sd_iret (pc := 70) d8_flight_70 rfl (Nat.zero_le _) (Nat.zero_le _)
      · refine sd_iinc (lf2 := [some (.ref 52), some (.int l1), some (.int l2), none, some (.int l4), some (.int (l5 + 1))]) (pc := 71) d8_flight_71 (Nat.le_of_ble_eq_true rfl) rfl ci_1 rfl ?_
        refine sd_goto (pc := 74) 45 d8_flight_74 (by decide) ?_
        exact ih l1 l2 l4 (l5 + 1) S
set_option maxHeartbeats 4000000 in
set_option maxRecDepth 20000 in
theorem s8_flight {N : Nat} (F : Nat) (l1 : Int32) (l2 : Int32) (S : sm_t) : sm_P (sm_jI N) k8_flight [.ref 52, .int l1, .int l2] (sm_m N S) (x8_flight F l1 l2 S) := by
  show sm_S (sm_jI N) k8_flight 0 0 0 [some (.ref 52), some (.int l1), some (.int l2), none, none, none] [] (sm_m N S) (x8_flight F l1 l2 S)
  unfold x8_flight
  refine sd_iload_n (pc := 0) d8_flight_0 rfl ?_
  refine sd_cSI (k2 := k8_isCell) (As := [.int l1]) (rest := []) (pc := 1) 117 d8_flight_1 ml8_117 (ms8_isCell) (me8_isCell) ⟨rfl, rfl⟩ ⟨Nat.le_of_ble_eq_true rfl, Nat.le_of_ble_eq_true rfl⟩ (Nat.le_of_ble_eq_true rfl) (Nat.le_of_ble_eq_true rfl) (Or.inr rfl) (Nat.zero_le _) (Nat.zero_le _) rfl (s8_isCell F l1 S) (fun v1 S => ?_)
  refine sd_if_ne (pc := 4) 9 d8_flight_4 (by decide) (fun _ => ?_) (fun _ => ?_)
  · refine sd_iconst (pc := 7) (-1) d8_flight_7 ci_m1 ?_
    exact sd_iret (pc := 8) d8_flight_8 rfl (Nat.zero_le _) (Nat.zero_le _)
  · refine sd_aload_n (pc := 9) d8_flight_9 rfl ?_
    refine sd_iload_n (pc := 10) d8_flight_10 rfl ?_
    refine sd_cVI (k2 := k8_askedRow) (As := [.int l2]) (rest := []) (b := 52) (ci := 7) (pc := 11) 95 (show sm_sq 52 = some (.inr 7) from rfl) (by decide) rfl d8_flight_11 ml8_95 (ms8_askedRow).1 (ms8_askedRow).2 (me8_askedRow) ⟨rfl, rfl⟩ ⟨Nat.le_of_ble_eq_true rfl, Nat.le_of_ble_eq_true rfl⟩ (Nat.le_of_ble_eq_true rfl) (Nat.le_of_ble_eq_true rfl) (Or.inl rfl) (Nat.zero_le _) (Nat.zero_le _) rfl (s8_askedRow F l2 S) (fun v2 S => ?_)
    refine sd_istore_n (lf2 := [some (.ref 52), some (.int l1), some (.int l2), some (.int v2), none, none]) (pc := 14) d8_flight_14 (Nat.le_of_ble_eq_true rfl) rfl ?_
    refine sd_iload_n (pc := 15) d8_flight_15 rfl ?_
    refine sd_if_ge (pc := 16) 21 d8_flight_16 (by decide) (fun _ => ?_) (fun _ => ?_)
    · refine sd_aload_n (pc := 21) d8_flight_21 rfl ?_
      refine sd_getR (pc := 22) 54 (show sm_sq 52 = some (.inr 7) from rfl) rfl fl8_17 rfl d8_flight_22 ?_
      refine sd_iload_n (pc := 25) d8_flight_25 rfl ?_
      refine sd_iald (pc := 26) (show sm_sq 54 = some (.inl (.int, 6)) from rfl) d8_flight_26 (fun v3 => ?_)
      refine sd_istore (lf2 := [some (.ref 52), some (.int l1), some (.int l2), some (.int v2), some (.int v3), none]) (pc := 27) d8_flight_27 (Nat.le_of_ble_eq_true rfl) rfl ?_
      refine sd_iload (pc := 29) d8_flight_29 rfl ?_
      refine sd_bipush (pc := 31) 6 d8_flight_31 cb_6 ?_
      refine sd_ic_le (pc := 33) 42 d8_flight_33 (by decide) (fun _ => ?_) (fun _ => ?_)
      · refine sd_iconst (pc := 42) 0 d8_flight_42 ci_0 ?_
        refine sd_istore (lf2 := [some (.ref 52), some (.int l1), some (.int l2), some (.int v2), some (.int v3), some (.int 0)]) (pc := 43) d8_flight_43 (Nat.le_of_ble_eq_true rfl) rfl ?_
        exact sd_fg [true, true, true, false, true, true] rfl (s8_flight_45 F F l1 l2 v3 0 S)
      · refine sd_aload_n (pc := 36) d8_flight_36 rfl ?_
        refine sd_iconst (pc := 37) 5 d8_flight_37 ci_5 ?_
        refine sd_cVI (k2 := k8_meets) (As := [.int 5]) (rest := []) (b := 52) (ci := 7) (pc := 38) 88 (show sm_sq 52 = some (.inr 7) from rfl) (by decide) rfl d8_flight_38 ml8_88 (ms8_meets).1 (ms8_meets).2 (me8_meets) ⟨rfl, rfl⟩ ⟨Nat.le_of_ble_eq_true rfl, Nat.le_of_ble_eq_true rfl⟩ (Nat.le_of_ble_eq_true rfl) (Nat.le_of_ble_eq_true rfl) (Or.inl rfl) (Nat.zero_le _) (Nat.zero_le _) rfl (s8_meets F 5 S) (fun v4 S => ?_)
        exact sd_iret (pc := 41) d8_flight_41 rfl (Nat.zero_le _) (Nat.zero_le _)
    · refine sd_iload_n (pc := 19) d8_flight_19 rfl ?_
      exact sd_iret (pc := 20) d8_flight_20 rfl (Nat.zero_le _) (Nat.zero_le _)
set_option maxHeartbeats 4000000 in
set_option maxRecDepth 20000 in
theorem s7_isWithin {N : Nat} (F : Nat) (l0 : Int32) (l1 : Int32) (S : sm_t) : sm_P (sm_jI N) k7_isWithin [.int l0, .int l1] (sm_m N S) (x7_isWithin F l0 l1 S) := by
  show sm_S (sm_jI N) k7_isWithin 0 0 0 [some (.int l0), some (.int l1)] [] (sm_m N S) (x7_isWithin F l0 l1 S)
  unfold x7_isWithin
  refine sd_iload_n (pc := 0) d7_isWithin_0 rfl ?_
  refine sd_if_lt (pc := 1) 13 d7_isWithin_1 (by decide) (fun _ => ?_) (fun _ => ?_)
  · refine sd_iconst (pc := 13) 0 d7_isWithin_13 ci_0 ?_
    exact sd_zret (pc := 14) d7_isWithin_14 (by decide) (Nat.zero_le _) (Nat.zero_le _)
  · refine sd_iload_n (pc := 4) d7_isWithin_4 rfl ?_
    refine sd_iload_n (pc := 5) d7_isWithin_5 rfl ?_
    refine sd_ic_gt (pc := 6) 13 d7_isWithin_6 (by decide) (fun _ => ?_) (fun _ => ?_)
    · refine sd_iconst (pc := 13) 0 d7_isWithin_13 ci_0 ?_
      exact sd_zret (pc := 14) d7_isWithin_14 (by decide) (Nat.zero_le _) (Nat.zero_le _)
    · refine sd_iconst (pc := 9) 1 d7_isWithin_9 ci_1 ?_
      refine sd_goto (pc := 10) 14 d7_isWithin_10 (by decide) ?_
      exact sd_zret (pc := 14) d7_isWithin_14 (by decide) (Nat.zero_le _) (Nat.zero_le _)
set_option maxHeartbeats 4000000 in
set_option maxRecDepth 20000 in
theorem s7_ends_103 {N : Nat} (F : Nat) (l1 : Int32) (l2 : Int32) (S : sm_t) : sm_S (sm_jI N) k7_ends 0 0 103 [some (.ref 3), some (.int l1), some (.int l2), none] [] (sm_m N S) (x7_ends_103 F l1 l2 S) := by
  unfold x7_ends_103
  refine sd_iload_n (pc := 103) d7_ends_103 rfl ?_
  refine sd_if_ne (pc := 104) 113 d7_ends_104 (by decide) (fun _ => ?_) (fun _ => ?_)
  · refine sd_aload_n (pc := 107) d7_ends_107 rfl ?_
    refine sd_iconst (pc := 108) 4 d7_ends_108 ci_4 ?_
    refine sd_cVI (k2 := k7_found) (As := [.int 4]) (rest := []) (b := 3) (ci := 6) (pc := 109) 92 (show sm_sq 3 = some (.inr 6) from rfl) (by decide) rfl d7_ends_109 ml7_92 (ms7_found).1 (ms7_found).2 (me7_found) ⟨rfl, rfl⟩ ⟨Nat.le_of_ble_eq_true rfl, Nat.le_of_ble_eq_true rfl⟩ (Nat.le_of_ble_eq_true rfl) (Nat.le_of_ble_eq_true rfl) (Or.inl rfl) (Nat.zero_le _) (Nat.zero_le _) rfl (s7_found F 4 S) (fun v1 S => ?_)
    exact sd_iret (pc := 112) d7_ends_112 rfl (Nat.zero_le _) (Nat.zero_le _)
  · refine sd_aload_n (pc := 113) d7_ends_113 rfl ?_
    refine sd_getR (pc := 114) 4 (show sm_sq 3 = some (.inr 6) from rfl) rfl fl7_11 rfl d7_ends_114 ?_
    refine sd_iload_n (pc := 117) d7_ends_117 rfl ?_
    refine sd_aald (pc := 118) 4 (show sm_sq 4 = some (.inl (.array .int, 6)) from rfl) rfl rfl (fun _ => rfl) (fun _ _ _ _ h => if_pos h) d7_ends_118 (fun a2 => ?_)
    refine sd_iconst (pc := 119) 0 d7_ends_119 ci_0 ?_
    refine sd_aload_n (pc := 120) d7_ends_120 rfl ?_
    refine sd_getR (pc := 121) 19 (show sm_sq 3 = some (.inr 6) from rfl) rfl fl7_37 rfl d7_ends_121 ?_
    refine sd_getR (pc := 124) 21 (show sm_sq 19 = some (.inr 2) from rfl) rfl fl7_141 rfl d7_ends_124 ?_
    refine sd_iconst (pc := 127) 0 d7_ends_127 ci_0 ?_
    refine sd_aload_n (pc := 128) d7_ends_128 rfl ?_
    refine sd_getR (pc := 129) 19 (show sm_sq 3 = some (.inr 6) from rfl) rfl fl7_37 rfl d7_ends_129 ?_
    refine sd_getI (pc := 132) (show sm_sq 19 = some (.inr 2) from rfl) rfl fl7_134 d7_ends_132 (fun v3 => ?_)
    refine sd_iconst (pc := 135) 1 d7_ends_135 ci_1 ?_
    refine sd_iadd (pc := 136) d7_ends_136 ?_
    refine sd_an (fun n5 h4 => ?_)
    refine sd_copy (pc := 137) 108 sl7_108 h4 (show sm_sq 21 = some (.inl (.int, 7)) from rfl) (Nat.le_of_ble_eq_true rfl) (Nat.le_of_ble_eq_true rfl) d7_ends_137 (fun S => ?_)
    refine sd_iload_n (pc := 140) d7_ends_140 rfl ?_
    exact sd_iret (pc := 141) d7_ends_141 rfl (Nat.zero_le _) (Nat.zero_le _)
set_option maxHeartbeats 4000000 in
set_option maxRecDepth 20000 in
theorem s7_ends_53 {N : Nat} (F : Nat) : ∀ (f : Nat) (l1 : Int32) (l2 : Int32) (l3 : Int32) (S : sm_t), sm_S (sm_jI N) k7_ends 0 0 53 [some (.ref 3), some (.int l1), some (.int l2), some (.int l3)] [] (sm_m N S) (x7_ends_53 F f l1 l2 l3 S) := by
  intro f
  induction f with
  | zero =>
    intro l1 l2 l3 S
    exact sd_none
  | succ f ih =>
    intro l1 l2 l3 S
    rw [x7_ends_53]
    refine sd_iload_n (pc := 53) d7_ends_53 rfl ?_
    refine sd_aload_n (pc := 54) d7_ends_54 rfl ?_
    refine sd_getR (pc := 55) 19 (show sm_sq 3 = some (.inr 6) from rfl) rfl fl7_37 rfl d7_ends_55 ?_
    refine sd_getI (pc := 58) (show sm_sq 19 = some (.inr 2) from rfl) rfl fl7_134 d7_ends_58 (fun v1 => ?_)
    refine sd_ic_gt (pc := 61) 103 d7_ends_61 (by decide) (fun _ => ?_) (fun _ => ?_)
    · exact sd_fg [true, true, true, false] rfl (s7_ends_103 F l1 l2 S)
    · refine sd_aload_n (pc := 64) d7_ends_64 rfl ?_
      refine sd_getR (pc := 65) 4 (show sm_sq 3 = some (.inr 6) from rfl) rfl fl7_11 rfl d7_ends_65 ?_
      refine sd_iload_n (pc := 68) d7_ends_68 rfl ?_
      refine sd_aald (pc := 69) 4 (show sm_sq 4 = some (.inl (.array .int, 6)) from rfl) rfl rfl (fun _ => rfl) (fun _ _ _ _ h => if_pos h) d7_ends_69 (fun a2 => ?_)
      refine sd_iload_n (pc := 70) d7_ends_70 rfl ?_
      refine sd_an (fun n4 h3 => ?_)
      refine sd_iald (pc := 71) h3 d7_ends_71 (fun v5 => ?_)
      refine sd_bipush (pc := 72) 9 d7_ends_72 cb_9 ?_
      refine sd_cSI (k2 := k7_isWithin) (As := [.int v5, .int 9]) (rest := []) (pc := 74) 137 d7_ends_74 ml7_137 (ms7_isWithin) (me7_isWithin) ⟨rfl, rfl⟩ ⟨Nat.le_of_ble_eq_true rfl, Nat.le_of_ble_eq_true rfl⟩ (Nat.le_of_ble_eq_true rfl) (Nat.le_of_ble_eq_true rfl) (Or.inr rfl) (Nat.zero_le _) (Nat.zero_le _) rfl (s7_isWithin F v5 9 S) (fun v6 S => ?_)
      refine sd_if_ne (pc := 77) 86 d7_ends_77 (by decide) (fun _ => ?_) (fun _ => ?_)
      · refine sd_aload_n (pc := 80) d7_ends_80 rfl ?_
        refine sd_iconst (pc := 81) 3 d7_ends_81 ci_3 ?_
        refine sd_cVI (k2 := k7_found) (As := [.int 3]) (rest := []) (b := 3) (ci := 6) (pc := 82) 92 (show sm_sq 3 = some (.inr 6) from rfl) (by decide) rfl d7_ends_82 ml7_92 (ms7_found).1 (ms7_found).2 (me7_found) ⟨rfl, rfl⟩ ⟨Nat.le_of_ble_eq_true rfl, Nat.le_of_ble_eq_true rfl⟩ (Nat.le_of_ble_eq_true rfl) (Nat.le_of_ble_eq_true rfl) (Or.inl rfl) (Nat.zero_le _) (Nat.zero_le _) rfl (s7_found F 3 S) (fun v7 S => ?_)
        exact sd_iret (pc := 85) d7_ends_85 rfl (Nat.zero_le _) (Nat.zero_le _)
      · refine sd_iload_n (pc := 86) d7_ends_86 rfl ?_
        refine sd_aload_n (pc := 87) d7_ends_87 rfl ?_
        refine sd_getR (pc := 88) 4 (show sm_sq 3 = some (.inr 6) from rfl) rfl fl7_11 rfl d7_ends_88 ?_
        refine sd_iload_n (pc := 91) d7_ends_91 rfl ?_
        refine sd_aald (pc := 92) 4 (show sm_sq 4 = some (.inl (.array .int, 6)) from rfl) rfl rfl (fun _ => rfl) (fun _ _ _ _ h => if_pos h) d7_ends_92 (fun a8 => ?_)
        refine sd_iload_n (pc := 93) d7_ends_93 rfl ?_
        refine sd_an (fun n10 h9 => ?_)
        refine sd_iald (pc := 94) h9 d7_ends_94 (fun v11 => ?_)
        refine sd_iadd (pc := 95) d7_ends_95 ?_
        refine sd_ni (fun v12 => ?_)
        refine sd_istore_n (lf2 := [some (.ref 3), some (.int l1), some (.int v12), some (.int l3)]) (pc := 96) d7_ends_96 (Nat.le_of_ble_eq_true rfl) rfl ?_
        refine sd_iinc (lf2 := [some (.ref 3), some (.int l1), some (.int v12), some (.int (l3 + 1))]) (pc := 97) d7_ends_97 (Nat.le_of_ble_eq_true rfl) rfl ci_1 rfl ?_
        refine sd_goto (pc := 100) 53 d7_ends_100 (by decide) ?_
        exact ih l1 v12 (l3 + 1) S
set_option maxHeartbeats 4000000 in
set_option maxRecDepth 20000 in
theorem s7_ends {N : Nat} (F : Nat) (l1 : Int32) (S : sm_t) : sm_P (sm_jI N) k7_ends [.ref 3, .int l1] (sm_m N S) (x7_ends F l1 S) := by
  show sm_S (sm_jI N) k7_ends 0 0 0 [some (.ref 3), some (.int l1), none, none] [] (sm_m N S) (x7_ends F l1 S)
  unfold x7_ends
  refine sd_iload_n (pc := 0) d7_ends_0 rfl ?_
  refine sd_cSI (k2 := k7_isRow) (As := [.int l1]) (rest := []) (pc := 1) 88 d7_ends_1 ml7_88 (ms7_isRow) (me7_isRow) ⟨rfl, rfl⟩ ⟨Nat.le_of_ble_eq_true rfl, Nat.le_of_ble_eq_true rfl⟩ (Nat.le_of_ble_eq_true rfl) (Nat.le_of_ble_eq_true rfl) (Or.inr rfl) (Nat.zero_le _) (Nat.zero_le _) rfl (s7_isRow F l1 S) (fun v1 S => ?_)
  refine sd_if_ne (pc := 4) 9 d7_ends_4 (by decide) (fun _ => ?_) (fun _ => ?_)
  · refine sd_iconst (pc := 7) (-1) d7_ends_7 ci_m1 ?_
    exact sd_iret (pc := 8) d7_ends_8 rfl (Nat.zero_le _) (Nat.zero_le _)
  · refine sd_aload_n (pc := 9) d7_ends_9 rfl ?_
    refine sd_getR (pc := 10) 11 (show sm_sq 3 = some (.inr 6) from rfl) rfl fl7_14 rfl d7_ends_10 ?_
    refine sd_iload_n (pc := 13) d7_ends_13 rfl ?_
    refine sd_iald (pc := 14) (show sm_sq 11 = some (.inl (.int, 6)) from rfl) d7_ends_14 (fun v2 => ?_)
    refine sd_iconst (pc := 15) (-1) d7_ends_15 ci_m1 ?_
    refine sd_ic_ne (pc := 16) 25 d7_ends_16 (by decide) (fun _ => ?_) (fun _ => ?_)
    · refine sd_aload_n (pc := 19) d7_ends_19 rfl ?_
      refine sd_iconst (pc := 20) 1 d7_ends_20 ci_1 ?_
      refine sd_cVI (k2 := k7_found) (As := [.int 1]) (rest := []) (b := 3) (ci := 6) (pc := 21) 92 (show sm_sq 3 = some (.inr 6) from rfl) (by decide) rfl d7_ends_21 ml7_92 (ms7_found).1 (ms7_found).2 (me7_found) ⟨rfl, rfl⟩ ⟨Nat.le_of_ble_eq_true rfl, Nat.le_of_ble_eq_true rfl⟩ (Nat.le_of_ble_eq_true rfl) (Nat.le_of_ble_eq_true rfl) (Or.inl rfl) (Nat.zero_le _) (Nat.zero_le _) rfl (s7_found F 1 S) (fun v3 S => ?_)
      exact sd_iret (pc := 24) d7_ends_24 rfl (Nat.zero_le _) (Nat.zero_le _)
    · refine sd_aload_n (pc := 25) d7_ends_25 rfl ?_
      refine sd_getR (pc := 26) 11 (show sm_sq 3 = some (.inr 6) from rfl) rfl fl7_14 rfl d7_ends_26 ?_
      refine sd_iload_n (pc := 29) d7_ends_29 rfl ?_
      refine sd_iald (pc := 30) (show sm_sq 11 = some (.inl (.int, 6)) from rfl) d7_ends_30 (fun v4 => ?_)
      refine sd_aload_n (pc := 31) d7_ends_31 rfl ?_
      refine sd_getR (pc := 32) 19 (show sm_sq 3 = some (.inr 6) from rfl) rfl fl7_37 rfl d7_ends_32 ?_
      refine sd_getI (pc := 35) (show sm_sq 19 = some (.inr 2) from rfl) rfl fl7_134 d7_ends_35 (fun v5 => ?_)
      refine sd_iconst (pc := 38) 1 d7_ends_38 ci_1 ?_
      refine sd_iadd (pc := 39) d7_ends_39 ?_
      refine sd_ic_eq (pc := 40) 49 d7_ends_40 (by decide) (fun _ => ?_) (fun _ => ?_)
      · refine sd_iconst (pc := 49) 0 d7_ends_49 ci_0 ?_
        refine sd_istore_n (lf2 := [some (.ref 3), some (.int l1), some (.int 0), none]) (pc := 50) d7_ends_50 (Nat.le_of_ble_eq_true rfl) rfl ?_
        refine sd_iconst (pc := 51) 0 d7_ends_51 ci_0 ?_
        refine sd_istore_n (lf2 := [some (.ref 3), some (.int l1), some (.int 0), some (.int 0)]) (pc := 52) d7_ends_52 (Nat.le_of_ble_eq_true rfl) rfl ?_
        exact s7_ends_53 F F l1 0 0 S
      · refine sd_aload_n (pc := 43) d7_ends_43 rfl ?_
        refine sd_iconst (pc := 44) 5 d7_ends_44 ci_5 ?_
        refine sd_cVI (k2 := k7_found) (As := [.int 5]) (rest := []) (b := 3) (ci := 6) (pc := 45) 92 (show sm_sq 3 = some (.inr 6) from rfl) (by decide) rfl d7_ends_45 ml7_92 (ms7_found).1 (ms7_found).2 (me7_found) ⟨rfl, rfl⟩ ⟨Nat.le_of_ble_eq_true rfl, Nat.le_of_ble_eq_true rfl⟩ (Nat.le_of_ble_eq_true rfl) (Nat.le_of_ble_eq_true rfl) (Or.inl rfl) (Nat.zero_le _) (Nat.zero_le _) rfl (s7_found F 5 S) (fun v6 S => ?_)
        exact sd_iret (pc := 48) d7_ends_48 rfl (Nat.zero_le _) (Nat.zero_le _)
set_option maxHeartbeats 4000000 in
set_option maxRecDepth 20000 in
theorem s8_hours {N : Nat} (F : Nat) (S : sm_t) : sm_P (sm_jI N) k8_hours [.ref 52] (sm_m N S) (x8_hours F S) := by
  show sm_S (sm_jI N) k8_hours 0 0 0 [some (.ref 52)] [] (sm_m N S) (x8_hours F S)
  unfold x8_hours
  refine sd_aload_n (pc := 0) d8_hours_0 rfl ?_
  refine sd_getR (pc := 1) 59 (show sm_sq 52 = some (.inr 7) from rfl) rfl fl8_32 rfl d8_hours_1 ?_
  refine sd_iconst (pc := 4) 1 d8_hours_4 ci_1 ?_
  refine sd_iald (pc := 5) (show sm_sq 59 = some (.inl (.int, 15)) from rfl) d8_hours_5 (fun v1 => ?_)
  exact sd_iret (pc := 6) d8_hours_6 rfl (Nat.zero_le _) (Nat.zero_le _)
set_option maxHeartbeats 4000000 in
set_option maxRecDepth 20000 in
theorem s8_ends_100 {N : Nat} (F : Nat) : ∀ (f : Nat) (l1 : Int32) (l3 : Int32) (l4 : Int32) (S : sm_t), sm_S (sm_jI N) k8_ends 0 0 100 [some (.ref 52), some (.int l1), none, some (.int l3), some (.int l4)] [] (sm_m N S) (x8_ends_100 F f l1 l3 l4 S) := by
  intro f
  induction f with
  | zero =>
    intro l1 l3 l4 S
    exact sd_none
  | succ f ih =>
    intro l1 l3 l4 S
    rw [x8_ends_100]
    refine sd_iload (pc := 100) d8_ends_100 rfl ?_
    refine sd_aload_n (pc := 102) d8_ends_102 rfl ?_
    refine sd_getR (pc := 103) 54 (show sm_sq 52 = some (.inr 7) from rfl) rfl fl8_17 rfl d8_ends_103 ?_
    refine sd_iload_n (pc := 106) d8_ends_106 rfl ?_
    refine sd_iald (pc := 107) (show sm_sq 54 = some (.inl (.int, 6)) from rfl) d8_ends_107 (fun v1 => ?_)
    refine sd_ic_ge (pc := 108) 134 d8_ends_108 (by decide) (fun _ => ?_) (fun _ => ?_)
    · refine sd_iload_n (pc := 134) d8_ends_134 rfl ?_
      exact sd_iret (pc := 135) d8_ends_135 rfl (Nat.zero_le _) (Nat.zero_le _)
    · refine sd_aload_n (pc := 111) d8_ends_111 rfl ?_
      refine sd_getR (pc := 112) 59 (show sm_sq 52 = some (.inr 7) from rfl) rfl fl8_32 rfl d8_ends_112 ?_
      refine sd_bipush (pc := 115) 8 d8_ends_115 cb_8 ?_
      refine sd_iload (pc := 117) d8_ends_117 rfl ?_
      refine sd_iadd (pc := 119) d8_ends_119 ?_
      refine sd_aload_n (pc := 120) d8_ends_120 rfl ?_
      refine sd_iload_n (pc := 121) d8_ends_121 rfl ?_
      refine sd_iload (pc := 122) d8_ends_122 rfl ?_
      refine sd_cVI (k2 := k8_rowAt) (As := [.int l1, .int l4]) (rest := [.int (8 + l4), .ref 59]) (b := 52) (ci := 7) (pc := 124) 98 (show sm_sq 52 = some (.inr 7) from rfl) (by decide) rfl d8_ends_124 ml8_98 (ms8_rowAt).1 (ms8_rowAt).2 (me8_rowAt) ⟨rfl, rfl⟩ ⟨Nat.le_of_ble_eq_true rfl, Nat.le_of_ble_eq_true rfl⟩ (Nat.le_of_ble_eq_true rfl) (Nat.le_of_ble_eq_true rfl) (Or.inl rfl) (Nat.zero_le _) (Nat.zero_le _) rfl (s8_rowAt F l1 l4 S) (fun v2 S => ?_)
      refine sd_iast (pc := 127) (show sm_sq 59 = some (.inl (.int, 15)) from rfl) d8_ends_127 (fun S => ?_)
      refine sd_iinc (lf2 := [some (.ref 52), some (.int l1), none, some (.int l3), some (.int (l4 + 1))]) (pc := 128) d8_ends_128 (Nat.le_of_ble_eq_true rfl) rfl ci_1 rfl ?_
      refine sd_goto (pc := 131) 100 d8_ends_131 (by decide) ?_
      exact ih l1 l3 (l4 + 1) S
set_option maxHeartbeats 4000000 in
set_option maxRecDepth 20000 in
theorem s8_ends_87 {N : Nat} (F : Nat) (l1 : Int32) (l3 : Int32) (S : sm_t) : sm_S (sm_jI N) k8_ends 0 0 87 [some (.ref 52), some (.int l1), none, some (.int l3), none] [] (sm_m N S) (x8_ends_87 F l1 l3 S) := by
  unfold x8_ends_87
  refine sd_iload_n (pc := 87) d8_ends_87 rfl ?_
  refine sd_if_ne (pc := 88) 97 d8_ends_88 (by decide) (fun _ => ?_) (fun _ => ?_)
  · refine sd_aload_n (pc := 91) d8_ends_91 rfl ?_
    refine sd_iconst (pc := 92) 4 d8_ends_92 ci_4 ?_
    refine sd_cVI (k2 := k8_meets) (As := [.int 4]) (rest := []) (b := 52) (ci := 7) (pc := 93) 88 (show sm_sq 52 = some (.inr 7) from rfl) (by decide) rfl d8_ends_93 ml8_88 (ms8_meets).1 (ms8_meets).2 (me8_meets) ⟨rfl, rfl⟩ ⟨Nat.le_of_ble_eq_true rfl, Nat.le_of_ble_eq_true rfl⟩ (Nat.le_of_ble_eq_true rfl) (Nat.le_of_ble_eq_true rfl) (Or.inl rfl) (Nat.zero_le _) (Nat.zero_le _) rfl (s8_meets F 4 S) (fun v1 S => ?_)
    exact sd_iret (pc := 96) d8_ends_96 rfl (Nat.zero_le _) (Nat.zero_le _)
  · refine sd_iconst (pc := 97) 0 d8_ends_97 ci_0 ?_
    refine sd_istore (lf2 := [some (.ref 52), some (.int l1), none, some (.int l3), some (.int 0)]) (pc := 98) d8_ends_98 (Nat.le_of_ble_eq_true rfl) rfl ?_
    exact s8_ends_100 F F l1 l3 0 S
set_option maxHeartbeats 4000000 in
set_option maxRecDepth 20000 in
theorem s8_ends_38 {N : Nat} (F : Nat) : ∀ (f : Nat) (l1 : Int32) (l3 : Int32) (l4 : Int32) (S : sm_t), sm_S (sm_jI N) k8_ends 0 0 38 [some (.ref 52), some (.int l1), none, some (.int l3), some (.int l4)] [] (sm_m N S) (x8_ends_38 F f l1 l3 l4 S) := by
  intro f
  induction f with
  | zero =>
    intro l1 l3 l4 S
    exact sd_none
  | succ f ih =>
    intro l1 l3 l4 S
    rw [x8_ends_38]
    refine sd_iload (pc := 38) d8_ends_38 rfl ?_
    refine sd_aload_n (pc := 40) d8_ends_40 rfl ?_
    refine sd_getR (pc := 41) 54 (show sm_sq 52 = some (.inr 7) from rfl) rfl fl8_17 rfl d8_ends_41 ?_
    refine sd_iload_n (pc := 44) d8_ends_44 rfl ?_
    refine sd_iald (pc := 45) (show sm_sq 54 = some (.inl (.int, 6)) from rfl) d8_ends_45 (fun v1 => ?_)
    refine sd_ic_ge (pc := 46) 87 d8_ends_46 (by decide) (fun _ => ?_) (fun _ => ?_)
    · exact sd_fg [true, true, true, true, false] rfl (s8_ends_87 F l1 l3 S)
    · refine sd_aload_n (pc := 49) d8_ends_49 rfl ?_
      refine sd_iload_n (pc := 50) d8_ends_50 rfl ?_
      refine sd_iload (pc := 51) d8_ends_51 rfl ?_
      refine sd_cVI (k2 := k8_rowAt) (As := [.int l1, .int l4]) (rest := []) (b := 52) (ci := 7) (pc := 53) 98 (show sm_sq 52 = some (.inr 7) from rfl) (by decide) rfl d8_ends_53 ml8_98 (ms8_rowAt).1 (ms8_rowAt).2 (me8_rowAt) ⟨rfl, rfl⟩ ⟨Nat.le_of_ble_eq_true rfl, Nat.le_of_ble_eq_true rfl⟩ (Nat.le_of_ble_eq_true rfl) (Nat.le_of_ble_eq_true rfl) (Or.inl rfl) (Nat.zero_le _) (Nat.zero_le _) rfl (s8_rowAt F l1 l4 S) (fun v2 S => ?_)
      refine sd_iconst (pc := 56) 0 d8_ends_56 ci_0 ?_
      refine sd_bipush (pc := 57) 9 d8_ends_57 cb_9 ?_
      refine sd_cSI (k2 := k8_in) (As := [.int v2, .int 0, .int 9]) (rest := []) (pc := 59) 80 d8_ends_59 ml8_80 (ms8_in) (me8_in) ⟨rfl, rfl⟩ ⟨Nat.le_of_ble_eq_true rfl, Nat.le_of_ble_eq_true rfl⟩ (Nat.le_of_ble_eq_true rfl) (Nat.le_of_ble_eq_true rfl) (Or.inr rfl) (Nat.zero_le _) (Nat.zero_le _) rfl (s8_in F v2 0 9 S) (fun v3 S => ?_)
      refine sd_if_ne (pc := 62) 71 d8_ends_62 (by decide) (fun _ => ?_) (fun _ => ?_)
      · refine sd_aload_n (pc := 65) d8_ends_65 rfl ?_
        refine sd_iconst (pc := 66) 3 d8_ends_66 ci_3 ?_
        refine sd_cVI (k2 := k8_meets) (As := [.int 3]) (rest := []) (b := 52) (ci := 7) (pc := 67) 88 (show sm_sq 52 = some (.inr 7) from rfl) (by decide) rfl d8_ends_67 ml8_88 (ms8_meets).1 (ms8_meets).2 (me8_meets) ⟨rfl, rfl⟩ ⟨Nat.le_of_ble_eq_true rfl, Nat.le_of_ble_eq_true rfl⟩ (Nat.le_of_ble_eq_true rfl) (Nat.le_of_ble_eq_true rfl) (Or.inl rfl) (Nat.zero_le _) (Nat.zero_le _) rfl (s8_meets F 3 S) (fun v4 S => ?_)
        exact sd_iret (pc := 70) d8_ends_70 rfl (Nat.zero_le _) (Nat.zero_le _)
      · refine sd_iload_n (pc := 71) d8_ends_71 rfl ?_
        refine sd_aload_n (pc := 72) d8_ends_72 rfl ?_
        refine sd_iload_n (pc := 73) d8_ends_73 rfl ?_
        refine sd_iload (pc := 74) d8_ends_74 rfl ?_
        refine sd_cVI (k2 := k8_rowAt) (As := [.int l1, .int l4]) (rest := [.int l3]) (b := 52) (ci := 7) (pc := 76) 98 (show sm_sq 52 = some (.inr 7) from rfl) (by decide) rfl d8_ends_76 ml8_98 (ms8_rowAt).1 (ms8_rowAt).2 (me8_rowAt) ⟨rfl, rfl⟩ ⟨Nat.le_of_ble_eq_true rfl, Nat.le_of_ble_eq_true rfl⟩ (Nat.le_of_ble_eq_true rfl) (Nat.le_of_ble_eq_true rfl) (Or.inl rfl) (Nat.zero_le _) (Nat.zero_le _) rfl (s8_rowAt F l1 l4 S) (fun v5 S => ?_)
        refine sd_iadd (pc := 79) d8_ends_79 ?_
        refine sd_ni (fun v6 => ?_)
        refine sd_istore_n (lf2 := [some (.ref 52), some (.int l1), none, some (.int v6), some (.int l4)]) (pc := 80) d8_ends_80 (Nat.le_of_ble_eq_true rfl) rfl ?_
        refine sd_iinc (lf2 := [some (.ref 52), some (.int l1), none, some (.int v6), some (.int (l4 + 1))]) (pc := 81) d8_ends_81 (Nat.le_of_ble_eq_true rfl) rfl ci_1 rfl ?_
        refine sd_goto (pc := 84) 38 d8_ends_84 (by decide) ?_
        exact ih l1 v6 (l4 + 1) S
set_option maxHeartbeats 4000000 in
set_option maxRecDepth 20000 in
theorem s8_ends {N : Nat} (F : Nat) (l1 : Int32) (S : sm_t) : sm_P (sm_jI N) k8_ends [.ref 52, .int l1] (sm_m N S) (x8_ends F l1 S) := by
  show sm_S (sm_jI N) k8_ends 0 0 0 [some (.ref 52), some (.int l1), none, none, none] [] (sm_m N S) (x8_ends F l1 S)
  unfold x8_ends
  refine sd_aload_n (pc := 0) d8_ends_0 rfl ?_
  refine sd_iload_n (pc := 1) d8_ends_1 rfl ?_
  refine sd_cVI (k2 := k8_askedRow) (As := [.int l1]) (rest := []) (b := 52) (ci := 7) (pc := 2) 95 (show sm_sq 52 = some (.inr 7) from rfl) (by decide) rfl d8_ends_2 ml8_95 (ms8_askedRow).1 (ms8_askedRow).2 (me8_askedRow) ⟨rfl, rfl⟩ ⟨Nat.le_of_ble_eq_true rfl, Nat.le_of_ble_eq_true rfl⟩ (Nat.le_of_ble_eq_true rfl) (Nat.le_of_ble_eq_true rfl) (Or.inl rfl) (Nat.zero_le _) (Nat.zero_le _) rfl (s8_askedRow F l1 S) (fun v1 S => ?_)
  refine sd_istore_n (lf2 := [some (.ref 52), some (.int l1), some (.int v1), none, none]) (pc := 5) d8_ends_5 (Nat.le_of_ble_eq_true rfl) rfl ?_
  refine sd_iload_n (pc := 6) d8_ends_6 rfl ?_
  refine sd_if_ge (pc := 7) 12 d8_ends_7 (by decide) (fun _ => ?_) (fun _ => ?_)
  · refine sd_aload_n (pc := 12) d8_ends_12 rfl ?_
    refine sd_getR (pc := 13) 54 (show sm_sq 52 = some (.inr 7) from rfl) rfl fl8_17 rfl d8_ends_13 ?_
    refine sd_iload_n (pc := 16) d8_ends_16 rfl ?_
    refine sd_iald (pc := 17) (show sm_sq 54 = some (.inl (.int, 6)) from rfl) d8_ends_17 (fun v2 => ?_)
    refine sd_aload_n (pc := 18) d8_ends_18 rfl ?_
    refine sd_cVI (k2 := k8_hours) (As := []) (rest := [.int v2]) (b := 52) (ci := 7) (pc := 19) 129 (show sm_sq 52 = some (.inr 7) from rfl) (by decide) rfl d8_ends_19 ml8_129 (ms8_hours).1 (ms8_hours).2 (me8_hours) ⟨rfl, rfl⟩ ⟨Nat.le_of_ble_eq_true rfl, Nat.le_of_ble_eq_true rfl⟩ (Nat.le_of_ble_eq_true rfl) (Nat.le_of_ble_eq_true rfl) (Or.inl rfl) (Nat.zero_le _) (Nat.zero_le _) rfl (s8_hours F S) (fun v3 S => ?_)
    refine sd_iconst (pc := 22) 1 d8_ends_22 ci_1 ?_
    refine sd_iadd (pc := 23) d8_ends_23 ?_
    refine sd_ic_eq (pc := 24) 33 d8_ends_24 (by decide) (fun _ => ?_) (fun _ => ?_)
    · refine sd_iconst (pc := 33) 0 d8_ends_33 ci_0 ?_
      refine sd_istore_n (lf2 := [some (.ref 52), some (.int l1), some (.int v1), some (.int 0), none]) (pc := 34) d8_ends_34 (Nat.le_of_ble_eq_true rfl) rfl ?_
      refine sd_iconst (pc := 35) 0 d8_ends_35 ci_0 ?_
      refine sd_istore (lf2 := [some (.ref 52), some (.int l1), some (.int v1), some (.int 0), some (.int 0)]) (pc := 36) d8_ends_36 (Nat.le_of_ble_eq_true rfl) rfl ?_
      exact sd_fg [true, true, false, true, true] rfl (s8_ends_38 F F l1 0 0 S)
    · refine sd_aload_n (pc := 27) d8_ends_27 rfl ?_
      refine sd_iconst (pc := 28) 5 d8_ends_28 ci_5 ?_
      refine sd_cVI (k2 := k8_meets) (As := [.int 5]) (rest := []) (b := 52) (ci := 7) (pc := 29) 88 (show sm_sq 52 = some (.inr 7) from rfl) (by decide) rfl d8_ends_29 ml8_88 (ms8_meets).1 (ms8_meets).2 (me8_meets) ⟨rfl, rfl⟩ ⟨Nat.le_of_ble_eq_true rfl, Nat.le_of_ble_eq_true rfl⟩ (Nat.le_of_ble_eq_true rfl) (Nat.le_of_ble_eq_true rfl) (Or.inl rfl) (Nat.zero_le _) (Nat.zero_le _) rfl (s8_meets F 5 S) (fun v4 S => ?_)
      exact sd_iret (pc := 32) d8_ends_32 rfl (Nat.zero_le _) (Nat.zero_le _)
  · refine sd_iload_n (pc := 10) d8_ends_10 rfl ?_
    exact sd_iret (pc := 11) d8_ends_11 rfl (Nat.zero_le _) (Nat.zero_le _)
set_option maxHeartbeats 4000000 in
set_option maxRecDepth 20000 in
theorem s7_course {N : Nat} (F : Nat) (l1 : Int32) (l2 : Int32) (S : sm_t) : sm_P (sm_jI N) k7_course [.ref 3, .int l1, .int l2] (sm_m N S) (x7_course F l1 l2 S) := by
  show sm_S (sm_jI N) k7_course 0 0 0 [some (.ref 3), some (.int l1), some (.int l2), none] [] (sm_m N S) (x7_course F l1 l2 S)
  unfold x7_course
  refine sd_iload_n (pc := 0) d7_course_0 rfl ?_
  refine sd_if_lt (pc := 1) 22 d7_course_1 (by decide) (fun _ => ?_) (fun _ => ?_)
  · refine sd_iconst (pc := 22) (-1) d7_course_22 ci_m1 ?_
    exact sd_iret (pc := 23) d7_course_23 rfl (Nat.zero_le _) (Nat.zero_le _)
  · refine sd_iload_n (pc := 4) d7_course_4 rfl ?_
    refine sd_aload_n (pc := 5) d7_course_5 rfl ?_
    refine sd_getR (pc := 6) 19 (show sm_sq 3 = some (.inr 6) from rfl) rfl fl7_37 rfl d7_course_6 ?_
    refine sd_getI (pc := 9) (show sm_sq 19 = some (.inr 2) from rfl) rfl fl7_134 d7_course_9 (fun v1 => ?_)
    refine sd_ic_ge (pc := 12) 22 d7_course_12 (by decide) (fun _ => ?_) (fun _ => ?_)
    · refine sd_iconst (pc := 22) (-1) d7_course_22 ci_m1 ?_
      exact sd_iret (pc := 23) d7_course_23 rfl (Nat.zero_le _) (Nat.zero_le _)
    · refine sd_iload_n (pc := 15) d7_course_15 rfl ?_
      refine sd_cSI (k2 := k1_isSide) (As := [.int l2]) (rest := []) (pc := 16) 127 d7_course_16 ml7_127 (ms1_isSide) (me1_isSide) ⟨rfl, rfl⟩ ⟨Nat.le_of_ble_eq_true rfl, Nat.le_of_ble_eq_true rfl⟩ (Nat.le_of_ble_eq_true rfl) (Nat.le_of_ble_eq_true rfl) (Or.inr rfl) (Nat.zero_le _) (Nat.zero_le _) rfl (s1_isSide F l2 S) (fun v2 S => ?_)
      refine sd_if_ne (pc := 19) 24 d7_course_19 (by decide) (fun _ => ?_) (fun _ => ?_)
      · refine sd_iconst (pc := 22) (-1) d7_course_22 ci_m1 ?_
        exact sd_iret (pc := 23) d7_course_23 rfl (Nat.zero_le _) (Nat.zero_le _)
      · refine sd_aload_n (pc := 24) d7_course_24 rfl ?_
        refine sd_getR (pc := 25) 19 (show sm_sq 3 = some (.inr 6) from rfl) rfl fl7_37 rfl d7_course_25 ?_
        refine sd_getR (pc := 28) 20 (show sm_sq 19 = some (.inr 2) from rfl) rfl fl7_144 rfl d7_course_28 ?_
        refine sd_iload_n (pc := 31) d7_course_31 rfl ?_
        refine sd_iald (pc := 32) (show sm_sq 20 = some (.inl (.int, 6)) from rfl) d7_course_32 (fun v3 => ?_)
        refine sd_istore_n (lf2 := [some (.ref 3), some (.int l1), some (.int l2), some (.int v3)]) (pc := 33) d7_course_33 (Nat.le_of_ble_eq_true rfl) rfl ?_
        refine sd_aload_n (pc := 34) d7_course_34 rfl ?_
        refine sd_getR (pc := 35) 19 (show sm_sq 3 = some (.inr 6) from rfl) rfl fl7_37 rfl d7_course_35 ?_
        refine sd_getR (pc := 38) 20 (show sm_sq 19 = some (.inr 2) from rfl) rfl fl7_144 rfl d7_course_38 ?_
        refine sd_iload_n (pc := 41) d7_course_41 rfl ?_
        refine sd_iload_n (pc := 42) d7_course_42 rfl ?_
        refine sd_iast (pc := 43) (show sm_sq 20 = some (.inl (.int, 6)) from rfl) d7_course_43 (fun S => ?_)
        refine sd_iload_n (pc := 44) d7_course_44 rfl ?_
        exact sd_iret (pc := 45) d7_course_45 rfl (Nat.zero_le _) (Nat.zero_le _)
set_option maxHeartbeats 4000000 in
set_option maxRecDepth 20000 in
theorem s8_courseOf {N : Nat} (F : Nat) (l1 : Int32) (S : sm_t) : sm_P (sm_jI N) k8_courseOf [.ref 52, .int l1] (sm_m N S) (x8_courseOf F l1 S) := by
  show sm_S (sm_jI N) k8_courseOf 0 0 0 [some (.ref 52), some (.int l1)] [] (sm_m N S) (x8_courseOf F l1 S)
  unfold x8_courseOf
  refine sd_aload_n (pc := 0) d8_courseOf_0 rfl ?_
  refine sd_getR (pc := 1) 59 (show sm_sq 52 = some (.inr 7) from rfl) rfl fl8_32 rfl d8_courseOf_1 ?_
  refine sd_iconst (pc := 4) 2 d8_courseOf_4 ci_2 ?_
  refine sd_iload_n (pc := 5) d8_courseOf_5 rfl ?_
  refine sd_iadd (pc := 6) d8_courseOf_6 ?_
  refine sd_iald (pc := 7) (show sm_sq 59 = some (.inl (.int, 15)) from rfl) d8_courseOf_7 (fun v1 => ?_)
  exact sd_iret (pc := 8) d8_courseOf_8 rfl (Nat.zero_le _) (Nat.zero_le _)
set_option maxHeartbeats 4000000 in
set_option maxRecDepth 20000 in
theorem s8_course {N : Nat} (F : Nat) (l1 : Int32) (l2 : Int32) (S : sm_t) : sm_P (sm_jI N) k8_course [.ref 52, .int l1, .int l2] (sm_m N S) (x8_course F l1 l2 S) := by
  show sm_S (sm_jI N) k8_course 0 0 0 [some (.ref 52), some (.int l1), some (.int l2), none] [] (sm_m N S) (x8_course F l1 l2 S)
  unfold x8_course
  refine sd_iload_n (pc := 0) d8_course_0 rfl ?_
  refine sd_iconst (pc := 1) 0 d8_course_1 ci_0 ?_
  refine sd_aload_n (pc := 2) d8_course_2 rfl ?_
  refine sd_cVI (k2 := k8_hours) (As := []) (rest := [.int 0, .int l1]) (b := 52) (ci := 7) (pc := 3) 129 (show sm_sq 52 = some (.inr 7) from rfl) (by decide) rfl d8_course_3 ml8_129 (ms8_hours).1 (ms8_hours).2 (me8_hours) ⟨rfl, rfl⟩ ⟨Nat.le_of_ble_eq_true rfl, Nat.le_of_ble_eq_true rfl⟩ (Nat.le_of_ble_eq_true rfl) (Nat.le_of_ble_eq_true rfl) (Or.inl rfl) (Nat.zero_le _) (Nat.zero_le _) rfl (s8_hours F S) (fun v1 S => ?_)
  refine sd_iconst (pc := 6) 1 d8_course_6 ci_1 ?_
  refine sd_isub (pc := 7) d8_course_7 ?_
  refine sd_cSI (k2 := k8_in) (As := [.int l1, .int 0, .int (v1 - 1)]) (rest := []) (pc := 8) 80 d8_course_8 ml8_80 (ms8_in) (me8_in) ⟨rfl, rfl⟩ ⟨Nat.le_of_ble_eq_true rfl, Nat.le_of_ble_eq_true rfl⟩ (Nat.le_of_ble_eq_true rfl) (Nat.le_of_ble_eq_true rfl) (Or.inr rfl) (Nat.zero_le _) (Nat.zero_le _) rfl (s8_in F l1 0 (v1 - 1) S) (fun v2 S => ?_)
  refine sd_if_eq (pc := 11) 21 d8_course_11 (by decide) (fun _ => ?_) (fun _ => ?_)
  · refine sd_iconst (pc := 21) (-1) d8_course_21 ci_m1 ?_
    exact sd_iret (pc := 22) d8_course_22 rfl (Nat.zero_le _) (Nat.zero_le _)
  · refine sd_iload_n (pc := 14) d8_course_14 rfl ?_
    refine sd_cSI (k2 := k8_isSide) (As := [.int l2]) (rest := []) (pc := 15) 126 d8_course_15 ml8_126 (ms8_isSide) (me8_isSide) ⟨rfl, rfl⟩ ⟨Nat.le_of_ble_eq_true rfl, Nat.le_of_ble_eq_true rfl⟩ (Nat.le_of_ble_eq_true rfl) (Nat.le_of_ble_eq_true rfl) (Or.inr rfl) (Nat.zero_le _) (Nat.zero_le _) rfl (s8_isSide F l2 S) (fun v3 S => ?_)
    refine sd_if_ne (pc := 18) 23 d8_course_18 (by decide) (fun _ => ?_) (fun _ => ?_)
    · refine sd_iconst (pc := 21) (-1) d8_course_21 ci_m1 ?_
      exact sd_iret (pc := 22) d8_course_22 rfl (Nat.zero_le _) (Nat.zero_le _)
    · refine sd_aload_n (pc := 23) d8_course_23 rfl ?_
      refine sd_iload_n (pc := 24) d8_course_24 rfl ?_
      refine sd_cVI (k2 := k8_courseOf) (As := [.int l1]) (rest := []) (b := 52) (ci := 7) (pc := 25) 133 (show sm_sq 52 = some (.inr 7) from rfl) (by decide) rfl d8_course_25 ml8_133 (ms8_courseOf).1 (ms8_courseOf).2 (me8_courseOf) ⟨rfl, rfl⟩ ⟨Nat.le_of_ble_eq_true rfl, Nat.le_of_ble_eq_true rfl⟩ (Nat.le_of_ble_eq_true rfl) (Nat.le_of_ble_eq_true rfl) (Or.inl rfl) (Nat.zero_le _) (Nat.zero_le _) rfl (s8_courseOf F l1 S) (fun v4 S => ?_)
      refine sd_istore_n (lf2 := [some (.ref 52), some (.int l1), some (.int l2), some (.int v4)]) (pc := 28) d8_course_28 (Nat.le_of_ble_eq_true rfl) rfl ?_
      refine sd_aload_n (pc := 29) d8_course_29 rfl ?_
      refine sd_getR (pc := 30) 59 (show sm_sq 52 = some (.inr 7) from rfl) rfl fl8_32 rfl d8_course_30 ?_
      refine sd_iconst (pc := 33) 2 d8_course_33 ci_2 ?_
      refine sd_iload_n (pc := 34) d8_course_34 rfl ?_
      refine sd_iadd (pc := 35) d8_course_35 ?_
      refine sd_iload_n (pc := 36) d8_course_36 rfl ?_
      refine sd_iast (pc := 37) (show sm_sq 59 = some (.inl (.int, 15)) from rfl) d8_course_37 (fun S => ?_)
      refine sd_iload_n (pc := 38) d8_course_38 rfl ?_
      exact sd_iret (pc := 39) d8_course_39 rfl (Nat.zero_le _) (Nat.zero_le _)
set_option maxHeartbeats 4000000 in
set_option maxRecDepth 20000 in
theorem s3_number {N : Nat} (F : Nat) (l1 : Int32) (S : sm_t) : sm_P (sm_jI N) k3_number [.ref 19, .int l1] (sm_m N S) (x3_number F l1 S) := by
  show sm_S (sm_jI N) k3_number 0 0 0 [some (.ref 19), some (.int l1), none] [] (sm_m N S) (x3_number F l1 S)
  unfold x3_number
  refine sd_iload_n (pc := 0) d3_number_0 rfl ?_
  refine sd_if_ne (pc := 1) 9 d3_number_1 (by decide) (fun _ => ?_) (fun _ => ?_)
  · refine sd_aload_n (pc := 4) d3_number_4 rfl ?_
    refine sd_getI (pc := 5) (show sm_sq 19 = some (.inr 2) from rfl) rfl fl3_9 d3_number_5 (fun v1 => ?_)
    exact sd_iret (pc := 8) d3_number_8 rfl (Nat.zero_le _) (Nat.zero_le _)
  · refine sd_iload_n (pc := 9) d3_number_9 rfl ?_
    refine sd_iconst (pc := 10) 1 d3_number_10 ci_1 ?_
    refine sd_ic_ne (pc := 11) 19 d3_number_11 (by decide) (fun _ => ?_) (fun _ => ?_)
    · refine sd_aload_n (pc := 14) d3_number_14 rfl ?_
      refine sd_getI (pc := 15) (show sm_sq 19 = some (.inr 2) from rfl) rfl fl3_15 d3_number_15 (fun v2 => ?_)
      exact sd_iret (pc := 18) d3_number_18 rfl (Nat.zero_le _) (Nat.zero_le _)
    · refine sd_iload_n (pc := 19) d3_number_19 rfl ?_
      refine sd_bipush (pc := 20) 8 d3_number_20 cb_8 ?_
      refine sd_ic_ge (pc := 22) 53 d3_number_22 (by decide) (fun _ => ?_) (fun _ => ?_)
      · refine sd_iload_n (pc := 53) d3_number_53 rfl ?_
        refine sd_bipush (pc := 54) 8 d3_number_54 cb_8 ?_
        refine sd_isub (pc := 56) d3_number_56 ?_
        refine sd_ni (fun v3 => ?_)
        refine sd_istore_n (lf2 := [some (.ref 19), some (.int l1), some (.int v3)]) (pc := 57) d3_number_57 (Nat.le_of_ble_eq_true rfl) rfl ?_
        refine sd_iload_n (pc := 58) d3_number_58 rfl ?_
        refine sd_aload_n (pc := 59) d3_number_59 rfl ?_
        refine sd_getI (pc := 60) (show sm_sq 19 = some (.inr 2) from rfl) rfl fl3_15 d3_number_60 (fun v4 => ?_)
        refine sd_ic_gt (pc := 63) 75 d3_number_63 (by decide) (fun _ => ?_) (fun _ => ?_)
        · refine sd_bipush (pc := 75) (-9) d3_number_75 cb_m9 ?_
          exact sd_iret (pc := 77) d3_number_77 rfl (Nat.zero_le _) (Nat.zero_le _)
        · refine sd_aload_n (pc := 66) d3_number_66 rfl ?_
          refine sd_getR (pc := 67) 21 (show sm_sq 19 = some (.inr 2) from rfl) rfl fl3_22 rfl d3_number_67 ?_
          refine sd_iload_n (pc := 70) d3_number_70 rfl ?_
          refine sd_iald (pc := 71) (show sm_sq 21 = some (.inl (.int, 7)) from rfl) d3_number_71 (fun v5 => ?_)
          refine sd_goto (pc := 72) 77 d3_number_72 (by decide) ?_
          exact sd_iret (pc := 77) d3_number_77 rfl (Nat.zero_le _) (Nat.zero_le _)
      · refine sd_iload_n (pc := 25) d3_number_25 rfl ?_
        refine sd_iconst (pc := 26) 2 d3_number_26 ci_2 ?_
        refine sd_isub (pc := 27) d3_number_27 ?_
        refine sd_ni (fun v6 => ?_)
        refine sd_istore_n (lf2 := [some (.ref 19), some (.int l1), some (.int v6)]) (pc := 28) d3_number_28 (Nat.le_of_ble_eq_true rfl) rfl ?_
        refine sd_iload_n (pc := 29) d3_number_29 rfl ?_
        refine sd_if_lt (pc := 30) 50 d3_number_30 (by decide) (fun _ => ?_) (fun _ => ?_)
        · refine sd_bipush (pc := 50) (-9) d3_number_50 cb_m9 ?_
          exact sd_iret (pc := 52) d3_number_52 rfl (Nat.zero_le _) (Nat.zero_le _)
        · refine sd_iload_n (pc := 33) d3_number_33 rfl ?_
          refine sd_aload_n (pc := 34) d3_number_34 rfl ?_
          refine sd_getI (pc := 35) (show sm_sq 19 = some (.inr 2) from rfl) rfl fl3_15 d3_number_35 (fun v7 => ?_)
          refine sd_ic_ge (pc := 38) 50 d3_number_38 (by decide) (fun _ => ?_) (fun _ => ?_)
          · refine sd_bipush (pc := 50) (-9) d3_number_50 cb_m9 ?_
            exact sd_iret (pc := 52) d3_number_52 rfl (Nat.zero_le _) (Nat.zero_le _)
          · refine sd_aload_n (pc := 41) d3_number_41 rfl ?_
            refine sd_getR (pc := 42) 20 (show sm_sq 19 = some (.inr 2) from rfl) rfl fl3_18 rfl d3_number_42 ?_
            refine sd_iload_n (pc := 45) d3_number_45 rfl ?_
            refine sd_iald (pc := 46) (show sm_sq 20 = some (.inl (.int, 6)) from rfl) d3_number_46 (fun v8 => ?_)
            refine sd_goto (pc := 47) 52 d3_number_47 (by decide) ?_
            exact sd_iret (pc := 52) d3_number_52 rfl (Nat.zero_le _) (Nat.zero_le _)
set_option maxHeartbeats 4000000 in
set_option maxRecDepth 20000 in
theorem s7_plan {N : Nat} (F : Nat) (l1 : Int32) (S : sm_t) : sm_P (sm_jI N) k7_plan [.ref 3, .int l1] (sm_m N S) (x7_plan F l1 S) := by
  show sm_S (sm_jI N) k7_plan 0 0 0 [some (.ref 3), some (.int l1)] [] (sm_m N S) (x7_plan F l1 S)
  unfold x7_plan
  refine sd_iload_n (pc := 0) d7_plan_0 rfl ?_
  refine sd_bipush (pc := 1) 14 d7_plan_1 cb_14 ?_
  refine sd_cSI (k2 := k7_isWithin) (As := [.int l1, .int 14]) (rest := []) (pc := 3) 137 d7_plan_3 ml7_137 (ms7_isWithin) (me7_isWithin) ⟨rfl, rfl⟩ ⟨Nat.le_of_ble_eq_true rfl, Nat.le_of_ble_eq_true rfl⟩ (Nat.le_of_ble_eq_true rfl) (Nat.le_of_ble_eq_true rfl) (Or.inr rfl) (Nat.zero_le _) (Nat.zero_le _) rfl (s7_isWithin F l1 14 S) (fun v1 S => ?_)
  refine sd_if_ne (pc := 6) 11 d7_plan_6 (by decide) (fun _ => ?_) (fun _ => ?_)
  · refine sd_iconst (pc := 9) (-1) d7_plan_9 ci_m1 ?_
    exact sd_iret (pc := 10) d7_plan_10 rfl (Nat.zero_le _) (Nat.zero_le _)
  · refine sd_aload_n (pc := 11) d7_plan_11 rfl ?_
    refine sd_aload_n (pc := 12) d7_plan_12 rfl ?_
    refine sd_getR (pc := 13) 19 (show sm_sq 3 = some (.inr 6) from rfl) rfl fl7_37 rfl d7_plan_13 ?_
    refine sd_iload_n (pc := 16) d7_plan_16 rfl ?_
    refine sd_cVI (k2 := k3_number) (As := [.int l1]) (rest := [.ref 3]) (b := 19) (ci := 2) (pc := 17) 147 (show sm_sq 19 = some (.inr 2) from rfl) (by decide) rfl d7_plan_17 ml7_147 (ms3_number).1 (ms3_number).2 (me3_number) ⟨rfl, rfl⟩ ⟨Nat.le_of_ble_eq_true rfl, Nat.le_of_ble_eq_true rfl⟩ (Nat.le_of_ble_eq_true rfl) (Nat.le_of_ble_eq_true rfl) (Or.inl rfl) (Nat.zero_le _) (Nat.zero_le _) rfl (s3_number F l1 S) (fun v2 S => ?_)
    refine sd_putI (pc := 20) (show sm_sq 3 = some (.inr 6) from rfl) rfl fl7_65 rfl d7_plan_20 (fun S => ?_)
    refine sd_iconst (pc := 23) 1 d7_plan_23 ci_1 ?_
    exact sd_iret (pc := 24) d7_plan_24 rfl (Nat.zero_le _) (Nat.zero_le _)
set_option maxHeartbeats 4000000 in
set_option maxRecDepth 20000 in
theorem s8_plan {N : Nat} (F : Nat) (l1 : Int32) (S : sm_t) : sm_P (sm_jI N) k8_plan [.ref 52, .int l1] (sm_m N S) (x8_plan F l1 S) := by
  show sm_S (sm_jI N) k8_plan 0 0 0 [some (.ref 52), some (.int l1)] [] (sm_m N S) (x8_plan F l1 S)
  unfold x8_plan
  refine sd_iload_n (pc := 0) d8_plan_0 rfl ?_
  refine sd_iconst (pc := 1) 0 d8_plan_1 ci_0 ?_
  refine sd_bipush (pc := 2) 14 d8_plan_2 cb_14 ?_
  refine sd_cSI (k2 := k8_in) (As := [.int l1, .int 0, .int 14]) (rest := []) (pc := 4) 80 d8_plan_4 ml8_80 (ms8_in) (me8_in) ⟨rfl, rfl⟩ ⟨Nat.le_of_ble_eq_true rfl, Nat.le_of_ble_eq_true rfl⟩ (Nat.le_of_ble_eq_true rfl) (Nat.le_of_ble_eq_true rfl) (Or.inr rfl) (Nat.zero_le _) (Nat.zero_le _) rfl (s8_in F l1 0 14 S) (fun v1 S => ?_)
  refine sd_if_eq (pc := 7) 24 d8_plan_7 (by decide) (fun _ => ?_) (fun _ => ?_)
  · refine sd_iconst (pc := 24) (-1) d8_plan_24 ci_m1 ?_
    exact sd_iret (pc := 25) d8_plan_25 rfl (Nat.zero_le _) (Nat.zero_le _)
  · refine sd_aload_n (pc := 10) d8_plan_10 rfl ?_
    refine sd_aload_n (pc := 11) d8_plan_11 rfl ?_
    refine sd_getR (pc := 12) 59 (show sm_sq 52 = some (.inr 7) from rfl) rfl fl8_32 rfl d8_plan_12 ?_
    refine sd_iload_n (pc := 15) d8_plan_15 rfl ?_
    refine sd_iald (pc := 16) (show sm_sq 59 = some (.inl (.int, 15)) from rfl) d8_plan_16 (fun v2 => ?_)
    refine sd_iconst (pc := 17) 1 d8_plan_17 ci_1 ?_
    refine sd_cVI (k2 := k8_ask) (As := [.int v2, .int 1]) (rest := []) (b := 52) (ci := 7) (pc := 18) 102 (show sm_sq 52 = some (.inr 7) from rfl) (by decide) rfl d8_plan_18 ml8_102 (ms8_ask).1 (ms8_ask).2 (me8_ask) ⟨rfl, rfl⟩ ⟨Nat.le_of_ble_eq_true rfl, Nat.le_of_ble_eq_true rfl⟩ (Nat.le_of_ble_eq_true rfl) (Nat.le_of_ble_eq_true rfl) (Or.inl rfl) (Nat.zero_le _) (Nat.zero_le _) rfl (s8_ask F v2 1 S) (fun v3 S => ?_)
    refine sd_goto (pc := 21) 25 d8_plan_21 (by decide) ?_
    exact sd_iret (pc := 25) d8_plan_25 rfl (Nat.zero_le _) (Nat.zero_le _)
set_option maxHeartbeats 4000000 in
set_option maxRecDepth 20000 in
theorem s4_skipBlanks_0 {N : Nat} (F : Nat) : ∀ (f : Nat) (S : sm_t), sm_S (sm_jV N) k4_skipBlanks 0 0 0 [some (.ref 46)] [] (sm_m N S) (x4_skipBlanks_0 F f S) := by
  intro f
  induction f with
  | zero =>
    intro  S
    exact sd_none
  | succ f ih =>
    intro  S
    rw [x4_skipBlanks_0]
    refine sd_aload_n (pc := 0) d4_skipBlanks_0 rfl ?_
    refine sd_getI (pc := 1) (show sm_sq 46 = some (.inr 3) from rfl) rfl fl4_19 d4_skipBlanks_1 (fun v1 => ?_)
    refine sd_aload_n (pc := 4) d4_skipBlanks_4 rfl ?_
    refine sd_getI (pc := 5) (show sm_sq 46 = some (.inr 3) from rfl) rfl fl4_15 d4_skipBlanks_5 (fun v2 => ?_)
    refine sd_ic_ge (pc := 8) 38 d4_skipBlanks_8 (by decide) (fun _ => ?_) (fun _ => ?_)
    · exact sd_vret (pc := 38) d4_skipBlanks_38 (Nat.zero_le _) (Nat.zero_le _)
    · refine sd_aload_n (pc := 11) d4_skipBlanks_11 rfl ?_
      refine sd_getT (pc := 12) (show sm_sq 46 = some (.inr 3) from rfl) rfl fl4_9 rfl d4_skipBlanks_12 (fun a3 => ?_)
      refine sd_aload_n (pc := 15) d4_skipBlanks_15 rfl ?_
      refine sd_getI (pc := 16) (show sm_sq 46 = some (.inr 3) from rfl) rfl fl4_19 d4_skipBlanks_16 (fun v4 => ?_)
      refine sd_an (fun n6 h5 => ?_)
      refine sd_bald (pc := 19) h5 d4_skipBlanks_19 (fun v7 => ?_)
      refine sd_bipush (pc := 20) 32 d4_skipBlanks_20 cb_32 ?_
      refine sd_ic_ne (pc := 22) 38 d4_skipBlanks_22 (by decide) (fun _ => ?_) (fun _ => ?_)
      · refine sd_aload_n (pc := 25) d4_skipBlanks_25 rfl ?_
        refine sd_dup (pc := 26) d4_skipBlanks_26 rfl ?_
        refine sd_getI (pc := 27) (show sm_sq 46 = some (.inr 3) from rfl) rfl fl4_19 d4_skipBlanks_27 (fun v8 => ?_)
        refine sd_iconst (pc := 30) 1 d4_skipBlanks_30 ci_1 ?_
        refine sd_iadd (pc := 31) d4_skipBlanks_31 ?_
        refine sd_putI (pc := 32) (show sm_sq 46 = some (.inr 3) from rfl) rfl fl4_19 rfl d4_skipBlanks_32 (fun S => ?_)
        refine sd_goto (pc := 35) 0 d4_skipBlanks_35 (by decide) ?_
        exact ih S
      · exact sd_vret (pc := 38) d4_skipBlanks_38 (Nat.zero_le _) (Nat.zero_le _)
set_option maxHeartbeats 4000000 in
set_option maxRecDepth 20000 in
theorem s4_skipBlanks {N : Nat} (F : Nat) (S : sm_t) : sm_P (sm_jV N) k4_skipBlanks [.ref 46] (sm_m N S) (x4_skipBlanks F S) := by
  show sm_S (sm_jV N) k4_skipBlanks 0 0 0 [some (.ref 46)] [] (sm_m N S) (x4_skipBlanks F S)
  unfold x4_skipBlanks
  exact s4_skipBlanks_0 F F S
set_option maxHeartbeats 4000000 in
set_option maxRecDepth 20000 in
theorem s4_take {N : Nat} (F : Nat) (l1 : Int32) (S : sm_t) : sm_P (sm_jV N) k4_take [.ref 46, .int l1] (sm_m N S) (x4_take F l1 S) := by
  show sm_S (sm_jV N) k4_take 0 0 0 [some (.ref 46), some (.int l1)] [] (sm_m N S) (x4_take F l1 S)
  unfold x4_take
  refine sd_aload_n (pc := 0) d4_take_0 rfl ?_
  refine sd_getI (pc := 1) (show sm_sq 46 = some (.inr 3) from rfl) rfl fl4_22 d4_take_1 (fun v1 => ?_)
  refine sd_bipush (pc := 4) (-9) d4_take_4 cb_m9 ?_
  refine sd_ic_ne (pc := 6) 46 d4_take_6 (by decide) (fun _ => ?_) (fun _ => ?_)
  · refine sd_aload_n (pc := 9) d4_take_9 rfl ?_
    refine sd_getI (pc := 10) (show sm_sq 46 = some (.inr 3) from rfl) rfl fl4_19 d4_take_10 (fun v2 => ?_)
    refine sd_aload_n (pc := 13) d4_take_13 rfl ?_
    refine sd_getI (pc := 14) (show sm_sq 46 = some (.inr 3) from rfl) rfl fl4_15 d4_take_14 (fun v3 => ?_)
    refine sd_ic_ge (pc := 17) 46 d4_take_17 (by decide) (fun _ => ?_) (fun _ => ?_)
    · refine sd_aload_n (pc := 46) d4_take_46 rfl ?_
      refine sd_getI (pc := 47) (show sm_sq 46 = some (.inr 3) from rfl) rfl fl4_22 d4_take_47 (fun v4 => ?_)
      refine sd_bipush (pc := 50) (-9) d4_take_50 cb_m9 ?_
      refine sd_ic_ne (pc := 52) 63 d4_take_52 (by decide) (fun _ => ?_) (fun _ => ?_)
      · refine sd_aload_n (pc := 55) d4_take_55 rfl ?_
        refine sd_aload_n (pc := 56) d4_take_56 rfl ?_
        refine sd_getI (pc := 57) (show sm_sq 46 = some (.inr 3) from rfl) rfl fl4_19 d4_take_57 (fun v5 => ?_)
        refine sd_putI (pc := 60) (show sm_sq 46 = some (.inr 3) from rfl) rfl fl4_22 rfl d4_take_60 (fun S => ?_)
        exact sd_vret (pc := 63) d4_take_63 (Nat.zero_le _) (Nat.zero_le _)
      · exact sd_vret (pc := 63) d4_take_63 (Nat.zero_le _) (Nat.zero_le _)
    · refine sd_aload_n (pc := 20) d4_take_20 rfl ?_
      refine sd_getT (pc := 21) (show sm_sq 46 = some (.inr 3) from rfl) rfl fl4_9 rfl d4_take_21 (fun a6 => ?_)
      refine sd_aload_n (pc := 24) d4_take_24 rfl ?_
      refine sd_getI (pc := 25) (show sm_sq 46 = some (.inr 3) from rfl) rfl fl4_19 d4_take_25 (fun v7 => ?_)
      refine sd_an (fun n9 h8 => ?_)
      refine sd_bald (pc := 28) h8 d4_take_28 (fun v10 => ?_)
      refine sd_iload_n (pc := 29) d4_take_29 rfl ?_
      refine sd_ic_ne (pc := 30) 46 d4_take_30 (by decide) (fun _ => ?_) (fun _ => ?_)
      · refine sd_aload_n (pc := 33) d4_take_33 rfl ?_
        refine sd_dup (pc := 34) d4_take_34 rfl ?_
        refine sd_getI (pc := 35) (show sm_sq 46 = some (.inr 3) from rfl) rfl fl4_19 d4_take_35 (fun v11 => ?_)
        refine sd_iconst (pc := 38) 1 d4_take_38 ci_1 ?_
        refine sd_iadd (pc := 39) d4_take_39 ?_
        refine sd_putI (pc := 40) (show sm_sq 46 = some (.inr 3) from rfl) rfl fl4_19 rfl d4_take_40 (fun S => ?_)
        refine sd_goto (pc := 43) 63 d4_take_43 (by decide) ?_
        exact sd_vret (pc := 63) d4_take_63 (Nat.zero_le _) (Nat.zero_le _)
      · refine sd_aload_n (pc := 46) d4_take_46 rfl ?_
        refine sd_getI (pc := 47) (show sm_sq 46 = some (.inr 3) from rfl) rfl fl4_22 d4_take_47 (fun v12 => ?_)
        refine sd_bipush (pc := 50) (-9) d4_take_50 cb_m9 ?_
        refine sd_ic_ne (pc := 52) 63 d4_take_52 (by decide) (fun _ => ?_) (fun _ => ?_)
        · refine sd_aload_n (pc := 55) d4_take_55 rfl ?_
          refine sd_aload_n (pc := 56) d4_take_56 rfl ?_
          refine sd_getI (pc := 57) (show sm_sq 46 = some (.inr 3) from rfl) rfl fl4_19 d4_take_57 (fun v13 => ?_)
          refine sd_putI (pc := 60) (show sm_sq 46 = some (.inr 3) from rfl) rfl fl4_22 rfl d4_take_60 (fun S => ?_)
          exact sd_vret (pc := 63) d4_take_63 (Nat.zero_le _) (Nat.zero_le _)
        · exact sd_vret (pc := 63) d4_take_63 (Nat.zero_le _) (Nat.zero_le _)
  · refine sd_aload_n (pc := 46) d4_take_46 rfl ?_
    refine sd_getI (pc := 47) (show sm_sq 46 = some (.inr 3) from rfl) rfl fl4_22 d4_take_47 (fun v14 => ?_)
    refine sd_bipush (pc := 50) (-9) d4_take_50 cb_m9 ?_
    refine sd_ic_ne (pc := 52) 63 d4_take_52 (by decide) (fun _ => ?_) (fun _ => ?_)
    · refine sd_aload_n (pc := 55) d4_take_55 rfl ?_
      refine sd_aload_n (pc := 56) d4_take_56 rfl ?_
      refine sd_getI (pc := 57) (show sm_sq 46 = some (.inr 3) from rfl) rfl fl4_19 d4_take_57 (fun v15 => ?_)
      refine sd_putI (pc := 60) (show sm_sq 46 = some (.inr 3) from rfl) rfl fl4_22 rfl d4_take_60 (fun S => ?_)
      exact sd_vret (pc := 63) d4_take_63 (Nat.zero_le _) (Nat.zero_le _)
    · exact sd_vret (pc := 63) d4_take_63 (Nat.zero_le _) (Nat.zero_le _)
