set_option maxHeartbeats 4000000 in
set_option maxRecDepth 20000 in
theorem s4_isFigure {N : Nat} (F : Nat) (l1 : Int32) (S : sm_t) : sm_P (sm_jI N) k4_isFigure [.ref 46, .int l1] (sm_m N S) (x4_isFigure F l1 S) := by
  show sm_S (sm_jI N) k4_isFigure 0 0 0 [some (.ref 46), some (.int l1)] [] (sm_m N S) (x4_isFigure F l1 S)
  unfold x4_isFigure
  refine sd_aload_n (pc := 0) d4_isFigure_0 rfl ?_
  refine sd_getI (pc := 1) (show sm_sq 46 = some (.inr 3) from rfl) rfl fl4_19 d4_isFigure_1 (fun v1 => ?_)
  refine sd_aload_n (pc := 4) d4_isFigure_4 rfl ?_
  refine sd_getI (pc := 5) (show sm_sq 46 = some (.inr 3) from rfl) rfl fl4_15 d4_isFigure_5 (fun v2 => ?_)
  refine sd_ic_ge (pc := 8) 45 d4_isFigure_8 (by decide) (fun _ => ?_) (fun _ => ?_)
  · refine sd_iconst (pc := 45) 0 d4_isFigure_45 ci_0 ?_
    exact sd_zret (pc := 46) d4_isFigure_46 (by decide) (Nat.zero_le _) (Nat.zero_le _)
  · refine sd_aload_n (pc := 11) d4_isFigure_11 rfl ?_
    refine sd_getT (pc := 12) (show sm_sq 46 = some (.inr 3) from rfl) rfl fl4_9 rfl d4_isFigure_12 (fun a3 => ?_)
    refine sd_aload_n (pc := 15) d4_isFigure_15 rfl ?_
    refine sd_getI (pc := 16) (show sm_sq 46 = some (.inr 3) from rfl) rfl fl4_19 d4_isFigure_16 (fun v4 => ?_)
    refine sd_an (fun n6 h5 => ?_)
    refine sd_bald (pc := 19) h5 d4_isFigure_19 (fun v7 => ?_)
    refine sd_bipush (pc := 20) 48 d4_isFigure_20 cb_48 ?_
    refine sd_ic_lt (pc := 22) 45 d4_isFigure_22 (by decide) (fun _ => ?_) (fun _ => ?_)
    · refine sd_iconst (pc := 45) 0 d4_isFigure_45 ci_0 ?_
      exact sd_zret (pc := 46) d4_isFigure_46 (by decide) (Nat.zero_le _) (Nat.zero_le _)
    · refine sd_aload_n (pc := 25) d4_isFigure_25 rfl ?_
      refine sd_getT (pc := 26) (show sm_sq 46 = some (.inr 3) from rfl) rfl fl4_9 rfl d4_isFigure_26 (fun a8 => ?_)
      refine sd_aload_n (pc := 29) d4_isFigure_29 rfl ?_
      refine sd_getI (pc := 30) (show sm_sq 46 = some (.inr 3) from rfl) rfl fl4_19 d4_isFigure_30 (fun v9 => ?_)
      refine sd_an (fun n11 h10 => ?_)
      refine sd_bald (pc := 33) h10 d4_isFigure_33 (fun v12 => ?_)
      refine sd_bipush (pc := 34) 48 d4_isFigure_34 cb_48 ?_
      refine sd_iload_n (pc := 36) d4_isFigure_36 rfl ?_
      refine sd_iadd (pc := 37) d4_isFigure_37 ?_
      refine sd_ic_gt (pc := 38) 45 d4_isFigure_38 (by decide) (fun _ => ?_) (fun _ => ?_)
      · refine sd_iconst (pc := 45) 0 d4_isFigure_45 ci_0 ?_
        exact sd_zret (pc := 46) d4_isFigure_46 (by decide) (Nat.zero_le _) (Nat.zero_le _)
      · refine sd_iconst (pc := 41) 1 d4_isFigure_41 ci_1 ?_
        refine sd_goto (pc := 42) 46 d4_isFigure_42 (by decide) ?_
        exact sd_zret (pc := 46) d4_isFigure_46 (by decide) (Nat.zero_le _) (Nat.zero_le _)
set_option maxHeartbeats 4000000 in
set_option maxRecDepth 20000 in
theorem s4_takeFigure {N : Nat} (F : Nat) (l1 : Int32) (S : sm_t) : sm_P (sm_jI N) k4_takeFigure [.ref 46, .int l1] (sm_m N S) (x4_takeFigure F l1 S) := by
  show sm_S (sm_jI N) k4_takeFigure 0 0 0 [some (.ref 46), some (.int l1)] [] (sm_m N S) (x4_takeFigure F l1 S)
  unfold x4_takeFigure
  refine sd_aload_n (pc := 0) d4_takeFigure_0 rfl ?_
  refine sd_getI (pc := 1) (show sm_sq 46 = some (.inr 3) from rfl) rfl fl4_22 d4_takeFigure_1 (fun v1 => ?_)
  refine sd_bipush (pc := 4) (-9) d4_takeFigure_4 cb_m9 ?_
  refine sd_ic_ne (pc := 6) 42 d4_takeFigure_6 (by decide) (fun _ => ?_) (fun _ => ?_)
  · refine sd_aload_n (pc := 9) d4_takeFigure_9 rfl ?_
    refine sd_iload_n (pc := 10) d4_takeFigure_10 rfl ?_
    refine sd_cVI (k2 := k4_isFigure) (As := [.int l1]) (rest := []) (b := 46) (ci := 3) (pc := 11) 78 (show sm_sq 46 = some (.inr 3) from rfl) (by decide) rfl d4_takeFigure_11 ml4_78 (ms4_isFigure).1 (ms4_isFigure).2 (me4_isFigure) ⟨rfl, rfl⟩ ⟨Nat.le_of_ble_eq_true rfl, Nat.le_of_ble_eq_true rfl⟩ (Nat.le_of_ble_eq_true rfl) (Nat.le_of_ble_eq_true rfl) (Or.inr rfl) (Nat.zero_le _) (Nat.zero_le _) rfl (s4_isFigure F l1 S) (fun v2 S => ?_)
    refine sd_if_eq (pc := 14) 42 d4_takeFigure_14 (by decide) (fun _ => ?_) (fun _ => ?_)
    · refine sd_aload_n (pc := 42) d4_takeFigure_42 rfl ?_
      refine sd_getI (pc := 43) (show sm_sq 46 = some (.inr 3) from rfl) rfl fl4_22 d4_takeFigure_43 (fun v3 => ?_)
      refine sd_bipush (pc := 46) (-9) d4_takeFigure_46 cb_m9 ?_
      refine sd_ic_ne (pc := 48) 59 d4_takeFigure_48 (by decide) (fun _ => ?_) (fun _ => ?_)
      · refine sd_aload_n (pc := 51) d4_takeFigure_51 rfl ?_
        refine sd_aload_n (pc := 52) d4_takeFigure_52 rfl ?_
        refine sd_getI (pc := 53) (show sm_sq 46 = some (.inr 3) from rfl) rfl fl4_19 d4_takeFigure_53 (fun v4 => ?_)
        refine sd_putI (pc := 56) (show sm_sq 46 = some (.inr 3) from rfl) rfl fl4_22 rfl d4_takeFigure_56 (fun S => ?_)
        refine sd_bipush (pc := 59) (-9) d4_takeFigure_59 cb_m9 ?_
        exact sd_iret (pc := 61) d4_takeFigure_61 rfl (Nat.zero_le _) (Nat.zero_le _)
      · refine sd_bipush (pc := 59) (-9) d4_takeFigure_59 cb_m9 ?_
        exact sd_iret (pc := 61) d4_takeFigure_61 rfl (Nat.zero_le _) (Nat.zero_le _)
    · refine sd_aload_n (pc := 17) d4_takeFigure_17 rfl ?_
      refine sd_dup (pc := 18) d4_takeFigure_18 rfl ?_
      refine sd_getI (pc := 19) (show sm_sq 46 = some (.inr 3) from rfl) rfl fl4_19 d4_takeFigure_19 (fun v5 => ?_)
      refine sd_iconst (pc := 22) 1 d4_takeFigure_22 ci_1 ?_
      refine sd_iadd (pc := 23) d4_takeFigure_23 ?_
      refine sd_putI (pc := 24) (show sm_sq 46 = some (.inr 3) from rfl) rfl fl4_19 rfl d4_takeFigure_24 (fun S => ?_)
      refine sd_aload_n (pc := 27) d4_takeFigure_27 rfl ?_
      refine sd_getT (pc := 28) (show sm_sq 46 = some (.inr 3) from rfl) rfl fl4_9 rfl d4_takeFigure_28 (fun a6 => ?_)
      refine sd_aload_n (pc := 31) d4_takeFigure_31 rfl ?_
      refine sd_getI (pc := 32) (show sm_sq 46 = some (.inr 3) from rfl) rfl fl4_19 d4_takeFigure_32 (fun v7 => ?_)
      refine sd_iconst (pc := 35) 1 d4_takeFigure_35 ci_1 ?_
      refine sd_isub (pc := 36) d4_takeFigure_36 ?_
      refine sd_an (fun n9 h8 => ?_)
      refine sd_bald (pc := 37) h8 d4_takeFigure_37 (fun v10 => ?_)
      refine sd_bipush (pc := 38) 48 d4_takeFigure_38 cb_48 ?_
      refine sd_isub (pc := 40) d4_takeFigure_40 ?_
      exact sd_iret (pc := 41) d4_takeFigure_41 rfl (Nat.zero_le _) (Nat.zero_le _)
  · refine sd_aload_n (pc := 42) d4_takeFigure_42 rfl ?_
    refine sd_getI (pc := 43) (show sm_sq 46 = some (.inr 3) from rfl) rfl fl4_22 d4_takeFigure_43 (fun v11 => ?_)
    refine sd_bipush (pc := 46) (-9) d4_takeFigure_46 cb_m9 ?_
    refine sd_ic_ne (pc := 48) 59 d4_takeFigure_48 (by decide) (fun _ => ?_) (fun _ => ?_)
    · refine sd_aload_n (pc := 51) d4_takeFigure_51 rfl ?_
      refine sd_aload_n (pc := 52) d4_takeFigure_52 rfl ?_
      refine sd_getI (pc := 53) (show sm_sq 46 = some (.inr 3) from rfl) rfl fl4_19 d4_takeFigure_53 (fun v12 => ?_)
      refine sd_putI (pc := 56) (show sm_sq 46 = some (.inr 3) from rfl) rfl fl4_22 rfl d4_takeFigure_56 (fun S => ?_)
      refine sd_bipush (pc := 59) (-9) d4_takeFigure_59 cb_m9 ?_
      exact sd_iret (pc := 61) d4_takeFigure_61 rfl (Nat.zero_le _) (Nat.zero_le _)
    · refine sd_bipush (pc := 59) (-9) d4_takeFigure_59 cb_m9 ?_
      exact sd_iret (pc := 61) d4_takeFigure_61 rfl (Nat.zero_le _) (Nat.zero_le _)
set_option maxHeartbeats 4000000 in
set_option maxRecDepth 20000 in
theorem s4_takeNumber_9 {N : Nat} (F : Nat) : ∀ (f : Nat) (l1 : Int32) (l2 : Int32) (l3 : Int32) (S : sm_t), sm_S (sm_jI N) k4_takeNumber 0 0 9 [some (.ref 46), some (.int l1), some (.int l2), some (.int l3)] [] (sm_m N S) (x4_takeNumber_9 F f l1 l2 l3 S) := by
  intro f
  induction f with
  | zero =>
    intro l1 l2 l3 S
    exact sd_none
  | succ f ih =>
    intro l1 l2 l3 S
    rw [x4_takeNumber_9]
    refine sd_iload_n (pc := 9) d4_takeNumber_9 rfl ?_
    refine sd_iload_n (pc := 10) d4_takeNumber_10 rfl ?_
    refine sd_ic_ge (pc := 11) 50 d4_takeNumber_11 (by decide) (fun _ => ?_) (fun _ => ?_)
    · refine sd_iload_n (pc := 50) d4_takeNumber_50 rfl ?_
      exact sd_iret (pc := 51) d4_takeNumber_51 rfl (Nat.zero_le _) (Nat.zero_le _)
    · refine sd_aload_n (pc := 14) d4_takeNumber_14 rfl ?_
      refine sd_getI (pc := 15) (show sm_sq 46 = some (.inr 3) from rfl) rfl fl4_22 d4_takeNumber_15 (fun v1 => ?_)
      refine sd_bipush (pc := 18) (-9) d4_takeNumber_18 cb_m9 ?_
      refine sd_ic_ne (pc := 20) 50 d4_takeNumber_20 (by decide) (fun _ => ?_) (fun _ => ?_)
      · refine sd_aload_n (pc := 23) d4_takeNumber_23 rfl ?_
        refine sd_bipush (pc := 24) 9 d4_takeNumber_24 cb_9 ?_
        refine sd_cVI (k2 := k4_isFigure) (As := [.int 9]) (rest := []) (b := 46) (ci := 3) (pc := 26) 78 (show sm_sq 46 = some (.inr 3) from rfl) (by decide) rfl d4_takeNumber_26 ml4_78 (ms4_isFigure).1 (ms4_isFigure).2 (me4_isFigure) ⟨rfl, rfl⟩ ⟨Nat.le_of_ble_eq_true rfl, Nat.le_of_ble_eq_true rfl⟩ (Nat.le_of_ble_eq_true rfl) (Nat.le_of_ble_eq_true rfl) (Or.inr rfl) (Nat.zero_le _) (Nat.zero_le _) rfl (s4_isFigure F 9 S) (fun v2 S => ?_)
        refine sd_if_eq (pc := 29) 50 d4_takeNumber_29 (by decide) (fun _ => ?_) (fun _ => ?_)
        · refine sd_iload_n (pc := 50) d4_takeNumber_50 rfl ?_
          exact sd_iret (pc := 51) d4_takeNumber_51 rfl (Nat.zero_le _) (Nat.zero_le _)
        · refine sd_iload_n (pc := 32) d4_takeNumber_32 rfl ?_
          refine sd_bipush (pc := 33) 10 d4_takeNumber_33 cb_10 ?_
          refine sd_imul (pc := 35) d4_takeNumber_35 ?_
          refine sd_aload_n (pc := 36) d4_takeNumber_36 rfl ?_
          refine sd_bipush (pc := 37) 9 d4_takeNumber_37 cb_9 ?_
          refine sd_cVI (k2 := k4_takeFigure) (As := [.int 9]) (rest := [.int (l2 * 10)]) (b := 46) (ci := 3) (pc := 39) 64 (show sm_sq 46 = some (.inr 3) from rfl) (by decide) rfl d4_takeNumber_39 ml4_64 (ms4_takeFigure).1 (ms4_takeFigure).2 (me4_takeFigure) ⟨rfl, rfl⟩ ⟨Nat.le_of_ble_eq_true rfl, Nat.le_of_ble_eq_true rfl⟩ (Nat.le_of_ble_eq_true rfl) (Nat.le_of_ble_eq_true rfl) (Or.inl rfl) (Nat.zero_le _) (Nat.zero_le _) rfl (s4_takeFigure F 9 S) (fun v3 S => ?_)
          refine sd_iadd (pc := 42) d4_takeNumber_42 ?_
          refine sd_ni (fun v4 => ?_)
          refine sd_istore_n (lf2 := [some (.ref 46), some (.int l1), some (.int v4), some (.int l3)]) (pc := 43) d4_takeNumber_43 (Nat.le_of_ble_eq_true rfl) rfl ?_
          refine sd_iinc (lf2 := [some (.ref 46), some (.int l1), some (.int v4), some (.int (l3 + 1))]) (pc := 44) d4_takeNumber_44 (Nat.le_of_ble_eq_true rfl) rfl ci_1 rfl ?_
          refine sd_goto (pc := 47) 9 d4_takeNumber_47 (by decide) ?_
          exact ih l1 v4 (l3 + 1) S
      · refine sd_iload_n (pc := 50) d4_takeNumber_50 rfl ?_
        exact sd_iret (pc := 51) d4_takeNumber_51 rfl (Nat.zero_le _) (Nat.zero_le _)
set_option maxHeartbeats 4000000 in
set_option maxRecDepth 20000 in
theorem s4_takeNumber {N : Nat} (F : Nat) (l1 : Int32) (S : sm_t) : sm_P (sm_jI N) k4_takeNumber [.ref 46, .int l1] (sm_m N S) (x4_takeNumber F l1 S) := by
  show sm_S (sm_jI N) k4_takeNumber 0 0 0 [some (.ref 46), some (.int l1), none, none] [] (sm_m N S) (x4_takeNumber F l1 S)
  unfold x4_takeNumber
  refine sd_aload_n (pc := 0) d4_takeNumber_0 rfl ?_
  refine sd_bipush (pc := 1) 9 d4_takeNumber_1 cb_9 ?_
  refine sd_cVI (k2 := k4_takeFigure) (As := [.int 9]) (rest := []) (b := 46) (ci := 3) (pc := 3) 64 (show sm_sq 46 = some (.inr 3) from rfl) (by decide) rfl d4_takeNumber_3 ml4_64 (ms4_takeFigure).1 (ms4_takeFigure).2 (me4_takeFigure) ⟨rfl, rfl⟩ ⟨Nat.le_of_ble_eq_true rfl, Nat.le_of_ble_eq_true rfl⟩ (Nat.le_of_ble_eq_true rfl) (Nat.le_of_ble_eq_true rfl) (Or.inl rfl) (Nat.zero_le _) (Nat.zero_le _) rfl (s4_takeFigure F 9 S) (fun v1 S => ?_)
  refine sd_istore_n (lf2 := [some (.ref 46), some (.int l1), some (.int v1), none]) (pc := 6) d4_takeNumber_6 (Nat.le_of_ble_eq_true rfl) rfl ?_
  refine sd_iconst (pc := 7) 1 d4_takeNumber_7 ci_1 ?_
  refine sd_istore_n (lf2 := [some (.ref 46), some (.int l1), some (.int v1), some (.int 1)]) (pc := 8) d4_takeNumber_8 (Nat.le_of_ble_eq_true rfl) rfl ?_
  exact s4_takeNumber_9 F F l1 v1 1 S
set_option maxHeartbeats 4000000 in
set_option maxRecDepth 20000 in
theorem s4_takeCell {N : Nat} (F : Nat) (S : sm_t) : sm_P (sm_jI N) k4_takeCell [.ref 46] (sm_m N S) (x4_takeCell F S) := by
  show sm_S (sm_jI N) k4_takeCell 0 0 0 [some (.ref 46), none] [] (sm_m N S) (x4_takeCell F S)
  unfold x4_takeCell
  refine sd_aload_n (pc := 0) d4_takeCell_0 rfl ?_
  refine sd_iconst (pc := 1) 3 d4_takeCell_1 ci_3 ?_
  refine sd_cVI (k2 := k4_takeNumber) (As := [.int 3]) (rest := []) (b := 46) (ci := 3) (pc := 2) 50 (show sm_sq 46 = some (.inr 3) from rfl) (by decide) rfl d4_takeCell_2 ml4_50 (ms4_takeNumber).1 (ms4_takeNumber).2 (me4_takeNumber) ⟨rfl, rfl⟩ ⟨Nat.le_of_ble_eq_true rfl, Nat.le_of_ble_eq_true rfl⟩ (Nat.le_of_ble_eq_true rfl) (Nat.le_of_ble_eq_true rfl) (Or.inl rfl) (Nat.zero_le _) (Nat.zero_le _) rfl (s4_takeNumber F 3 S) (fun v1 S => ?_)
  refine sd_istore_n (lf2 := [some (.ref 46), some (.int v1)]) (pc := 5) d4_takeCell_5 (Nat.le_of_ble_eq_true rfl) rfl ?_
  refine sd_aload_n (pc := 6) d4_takeCell_6 rfl ?_
  refine sd_getI (pc := 7) (show sm_sq 46 = some (.inr 3) from rfl) rfl fl4_22 d4_takeCell_7 (fun v2 => ?_)
  refine sd_bipush (pc := 10) (-9) d4_takeCell_10 cb_m9 ?_
  refine sd_ic_ne (pc := 12) 30 d4_takeCell_12 (by decide) (fun _ => ?_) (fun _ => ?_)
  · refine sd_iload_n (pc := 15) d4_takeCell_15 rfl ?_
    refine sd_cSI (k2 := k1_isCell) (As := [.int v1]) (rest := []) (pc := 16) 74 d4_takeCell_16 ml4_74 (ms1_isCell) (me1_isCell) ⟨rfl, rfl⟩ ⟨Nat.le_of_ble_eq_true rfl, Nat.le_of_ble_eq_true rfl⟩ (Nat.le_of_ble_eq_true rfl) (Nat.le_of_ble_eq_true rfl) (Or.inr rfl) (Nat.zero_le _) (Nat.zero_le _) rfl (s1_isCell F v1 S) (fun v3 S => ?_)
    refine sd_if_ne (pc := 19) 30 d4_takeCell_19 (by decide) (fun _ => ?_) (fun _ => ?_)
    · refine sd_aload_n (pc := 22) d4_takeCell_22 rfl ?_
      refine sd_aload_n (pc := 23) d4_takeCell_23 rfl ?_
      refine sd_getI (pc := 24) (show sm_sq 46 = some (.inr 3) from rfl) rfl fl4_19 d4_takeCell_24 (fun v4 => ?_)
      refine sd_putI (pc := 27) (show sm_sq 46 = some (.inr 3) from rfl) rfl fl4_22 rfl d4_takeCell_27 (fun S => ?_)
      refine sd_iload_n (pc := 30) d4_takeCell_30 rfl ?_
      exact sd_iret (pc := 31) d4_takeCell_31 rfl (Nat.zero_le _) (Nat.zero_le _)
    · refine sd_iload_n (pc := 30) d4_takeCell_30 rfl ?_
      exact sd_iret (pc := 31) d4_takeCell_31 rfl (Nat.zero_le _) (Nat.zero_le _)
  · refine sd_iload_n (pc := 30) d4_takeCell_30 rfl ?_
    exact sd_iret (pc := 31) d4_takeCell_31 rfl (Nat.zero_le _) (Nat.zero_le _)
set_option maxHeartbeats 4000000 in
set_option maxRecDepth 20000 in
theorem s1_apart {N : Nat} (F : Nat) (l0 : Int32) (l1 : Int32) (S : sm_t) : sm_P (sm_jI N) k1_apart [.int l0, .int l1] (sm_m N S) (x1_apart F l0 l1 S) := by
  show sm_S (sm_jI N) k1_apart 0 0 0 [some (.int l0), some (.int l1), none, none] [] (sm_m N S) (x1_apart F l0 l1 S)
  unfold x1_apart
  refine sd_iload_n (pc := 0) d1_apart_0 rfl ?_
  refine sd_bipush (pc := 1) 12 d1_apart_1 cb_12 ?_
  refine sd_irem (pc := 3) d1_apart_3 (by decide) ?_
  refine sd_iload_n (pc := 4) d1_apart_4 rfl ?_
  refine sd_bipush (pc := 5) 12 d1_apart_5 cb_12 ?_
  refine sd_irem (pc := 7) d1_apart_7 (by decide) ?_
  refine sd_isub (pc := 8) d1_apart_8 ?_
  refine sd_mabs (pc := 9) 11 sl1_11 (Nat.le_of_ble_eq_true rfl) (Nat.le_of_ble_eq_true rfl) (Nat.zero_le _) (Nat.zero_le _) d1_apart_9 ?_
  refine sd_ni (fun v1 => ?_)
  refine sd_istore_n (lf2 := [some (.int l0), some (.int l1), some (.int v1), none]) (pc := 12) d1_apart_12 (Nat.le_of_ble_eq_true rfl) rfl ?_
  refine sd_iload_n (pc := 13) d1_apart_13 rfl ?_
  refine sd_bipush (pc := 14) 12 d1_apart_14 cb_12 ?_
  refine sd_idiv (pc := 16) d1_apart_16 (by decide) ?_
  refine sd_iload_n (pc := 17) d1_apart_17 rfl ?_
  refine sd_bipush (pc := 18) 12 d1_apart_18 cb_12 ?_
  refine sd_idiv (pc := 20) d1_apart_20 (by decide) ?_
  refine sd_isub (pc := 21) d1_apart_21 ?_
  refine sd_mabs (pc := 22) 11 sl1_11 (Nat.le_of_ble_eq_true rfl) (Nat.le_of_ble_eq_true rfl) (Nat.zero_le _) (Nat.zero_le _) d1_apart_22 ?_
  refine sd_ni (fun v2 => ?_)
  refine sd_istore_n (lf2 := [some (.int l0), some (.int l1), some (.int v1), some (.int v2)]) (pc := 25) d1_apart_25 (Nat.le_of_ble_eq_true rfl) rfl ?_
  refine sd_iload_n (pc := 26) d1_apart_26 rfl ?_
  refine sd_iload_n (pc := 27) d1_apart_27 rfl ?_
  refine sd_mmax (pc := 28) 17 sl1_17 (Nat.le_of_ble_eq_true rfl) (Nat.le_of_ble_eq_true rfl) (Nat.zero_le _) (Nat.zero_le _) d1_apart_28 ?_
  exact sd_iret (pc := 31) d1_apart_31 rfl (Nat.zero_le _) (Nat.zero_le _)
set_option maxHeartbeats 4000000 in
set_option maxRecDepth 20000 in
theorem s4_readRound_33 {N : Nat} (F : Nat) : ∀ (f : Nat) (l1 : Int32) (l2 : Int32) (l3 : Int32) (l4 : Int32) (S : sm_t), sm_S (sm_jV N) k4_readRound 0 0 33 [some (.ref 46), some (.int l1), some (.int l2), some (.int l3), some (.int l4)] [] (sm_m N S) (x4_readRound_33 F f l1 l2 l3 l4 S) := by
  intro f
  induction f with
  | zero =>
    intro l1 l2 l3 l4 S
    exact sd_none
  | succ f ih =>
    intro l1 l2 l3 l4 S
    rw [x4_readRound_33]
    refine sd_iload (pc := 33) d4_readRound_33 rfl ?_
    refine sd_bipush (pc := 35) 120 d4_readRound_35 cb_120 ?_
    refine sd_ic_ge (pc := 37) 73 d4_readRound_37 (by decide) (fun _ => ?_) (fun _ => ?_)
    · exact sd_vret (pc := 73) d4_readRound_73 (Nat.zero_le _) (Nat.zero_le _)
    · refine sd_aload_n (pc := 40) d4_readRound_40 rfl ?_
      refine sd_getI (pc := 41) (show sm_sq 46 = some (.inr 3) from rfl) rfl fl4_22 d4_readRound_41 (fun v1 => ?_)
      refine sd_bipush (pc := 44) (-9) d4_readRound_44 cb_m9 ?_
      refine sd_ic_ne (pc := 46) 73 d4_readRound_46 (by decide) (fun _ => ?_) (fun _ => ?_)
      · refine sd_iload_n (pc := 49) d4_readRound_49 rfl ?_
        refine sd_iload (pc := 50) d4_readRound_50 rfl ?_
        refine sd_cSI (k2 := k1_apart) (As := [.int l1, .int l4]) (rest := []) (pc := 52) 67 d4_readRound_52 ml4_67 (ms1_apart) (me1_apart) ⟨rfl, rfl⟩ ⟨Nat.le_of_ble_eq_true rfl, Nat.le_of_ble_eq_true rfl⟩ (Nat.le_of_ble_eq_true rfl) (Nat.le_of_ble_eq_true rfl) (Or.inl rfl) (Nat.zero_le _) (Nat.zero_le _) rfl (s1_apart F l1 l4 S) (fun v2 S => ?_)
        refine sd_iload_n (pc := 55) d4_readRound_55 rfl ?_
        refine sd_ic_gt (pc := 56) 67 d4_readRound_56 (by decide) (fun _ => ?_) (fun _ => ?_)
        · refine sd_iinc (lf2 := [some (.ref 46), some (.int l1), some (.int l2), some (.int l3), some (.int (l4 + 1))]) (pc := 67) d4_readRound_67 (Nat.le_of_ble_eq_true rfl) rfl ci_1 rfl ?_
          refine sd_goto (pc := 70) 33 d4_readRound_70 (by decide) ?_
          exact ih l1 l2 l3 (l4 + 1) S
        · refine sd_aload_n (pc := 59) d4_readRound_59 rfl ?_
          refine sd_getR (pc := 60) 47 (show sm_sq 46 = some (.inr 3) from rfl) rfl fl4_27 rfl d4_readRound_60 ?_
          refine sd_iload (pc := 63) d4_readRound_63 rfl ?_
          refine sd_iload_n (pc := 65) d4_readRound_65 rfl ?_
          refine sd_iast (pc := 66) (show sm_sq 47 = some (.inl (.int, 120)) from rfl) d4_readRound_66 (fun S => ?_)
          refine sd_iinc (lf2 := [some (.ref 46), some (.int l1), some (.int l2), some (.int l3), some (.int (l4 + 1))]) (pc := 67) d4_readRound_67 (Nat.le_of_ble_eq_true rfl) rfl ci_1 rfl ?_
          refine sd_goto (pc := 70) 33 d4_readRound_70 (by decide) ?_
          exact ih l1 l2 l3 (l4 + 1) S
      · exact sd_vret (pc := 73) d4_readRound_73 (Nat.zero_le _) (Nat.zero_le _)
set_option maxHeartbeats 4000000 in
set_option maxRecDepth 20000 in
theorem s4_readRound {N : Nat} (F : Nat) (S : sm_t) : sm_P (sm_jV N) k4_readRound [.ref 46] (sm_m N S) (x4_readRound F S) := by
  show sm_S (sm_jV N) k4_readRound 0 0 0 [some (.ref 46), none, none, none, none] [] (sm_m N S) (x4_readRound F S)
  unfold x4_readRound
  refine sd_aload_n (pc := 0) d4_readRound_0 rfl ?_
  refine sd_cVI (k2 := k4_takeCell) (As := []) (rest := []) (b := 46) (ci := 3) (pc := 1) 60 (show sm_sq 46 = some (.inr 3) from rfl) (by decide) rfl d4_readRound_1 ml4_60 (ms4_takeCell).1 (ms4_takeCell).2 (me4_takeCell) ⟨rfl, rfl⟩ ⟨Nat.le_of_ble_eq_true rfl, Nat.le_of_ble_eq_true rfl⟩ (Nat.le_of_ble_eq_true rfl) (Nat.le_of_ble_eq_true rfl) (Or.inl rfl) (Nat.zero_le _) (Nat.zero_le _) rfl (s4_takeCell F S) (fun v1 S => ?_)
  refine sd_istore_n (lf2 := [some (.ref 46), some (.int v1), none, none, none]) (pc := 4) d4_readRound_4 (Nat.le_of_ble_eq_true rfl) rfl ?_
  refine sd_aload_n (pc := 5) d4_readRound_5 rfl ?_
  refine sd_bipush (pc := 6) 58 d4_readRound_6 cb_58 ?_
  refine sd_cVV (k2 := k4_take) (As := [.int 58]) (rest := []) (b := 46) (ci := 3) (pc := 8) 46 (show sm_sq 46 = some (.inr 3) from rfl) (by decide) rfl d4_readRound_8 ml4_46 (ms4_take).1 (ms4_take).2 (me4_take) ⟨rfl, rfl⟩ ⟨Nat.le_of_ble_eq_true rfl, Nat.le_of_ble_eq_true rfl⟩ (Nat.le_of_ble_eq_true rfl) (Nat.le_of_ble_eq_true rfl) rfl (Nat.zero_le _) (Nat.zero_le _) rfl (s4_take F 58 S) (fun S => ?_)
  refine sd_aload_n (pc := 11) d4_readRound_11 rfl ?_
  refine sd_bipush (pc := 12) 9 d4_readRound_12 cb_9 ?_
  refine sd_cVI (k2 := k4_takeFigure) (As := [.int 9]) (rest := []) (b := 46) (ci := 3) (pc := 14) 64 (show sm_sq 46 = some (.inr 3) from rfl) (by decide) rfl d4_readRound_14 ml4_64 (ms4_takeFigure).1 (ms4_takeFigure).2 (me4_takeFigure) ⟨rfl, rfl⟩ ⟨Nat.le_of_ble_eq_true rfl, Nat.le_of_ble_eq_true rfl⟩ (Nat.le_of_ble_eq_true rfl) (Nat.le_of_ble_eq_true rfl) (Or.inl rfl) (Nat.zero_le _) (Nat.zero_le _) rfl (s4_takeFigure F 9 S) (fun v3 S => ?_)
  refine sd_istore_n (lf2 := [some (.ref 46), some (.int v1), some (.int v3), none, none]) (pc := 17) d4_readRound_17 (Nat.le_of_ble_eq_true rfl) rfl ?_
  refine sd_aload_n (pc := 18) d4_readRound_18 rfl ?_
  refine sd_bipush (pc := 19) 61 d4_readRound_19 cb_61 ?_
  refine sd_cVV (k2 := k4_take) (As := [.int 61]) (rest := []) (b := 46) (ci := 3) (pc := 21) 46 (show sm_sq 46 = some (.inr 3) from rfl) (by decide) rfl d4_readRound_21 ml4_46 (ms4_take).1 (ms4_take).2 (me4_take) ⟨rfl, rfl⟩ ⟨Nat.le_of_ble_eq_true rfl, Nat.le_of_ble_eq_true rfl⟩ (Nat.le_of_ble_eq_true rfl) (Nat.le_of_ble_eq_true rfl) rfl (Nat.zero_le _) (Nat.zero_le _) rfl (s4_take F 61 S) (fun S => ?_)
  refine sd_aload_n (pc := 24) d4_readRound_24 rfl ?_
  refine sd_iconst (pc := 25) 2 d4_readRound_25 ci_2 ?_
  refine sd_cVI (k2 := k4_takeNumber) (As := [.int 2]) (rest := []) (b := 46) (ci := 3) (pc := 26) 50 (show sm_sq 46 = some (.inr 3) from rfl) (by decide) rfl d4_readRound_26 ml4_50 (ms4_takeNumber).1 (ms4_takeNumber).2 (me4_takeNumber) ⟨rfl, rfl⟩ ⟨Nat.le_of_ble_eq_true rfl, Nat.le_of_ble_eq_true rfl⟩ (Nat.le_of_ble_eq_true rfl) (Nat.le_of_ble_eq_true rfl) (Or.inl rfl) (Nat.zero_le _) (Nat.zero_le _) rfl (s4_takeNumber F 2 S) (fun v5 S => ?_)
  refine sd_istore_n (lf2 := [some (.ref 46), some (.int v1), some (.int v3), some (.int v5), none]) (pc := 29) d4_readRound_29 (Nat.le_of_ble_eq_true rfl) rfl ?_
  refine sd_iconst (pc := 30) 0 d4_readRound_30 ci_0 ?_
  refine sd_istore (lf2 := [some (.ref 46), some (.int v1), some (.int v3), some (.int v5), some (.int 0)]) (pc := 31) d4_readRound_31 (Nat.le_of_ble_eq_true rfl) rfl ?_
  exact s4_readRound_33 F F v1 v3 v5 0 S
set_option maxHeartbeats 4000000 in
set_option maxRecDepth 20000 in
theorem s1_beside {N : Nat} (F : Nat) (l0 : Int32) (l1 : Int32) (S : sm_t) : sm_P (sm_jI N) k1_beside [.int l0, .int l1] (sm_m N S) (x1_beside F l0 l1 S) := by
  show sm_S (sm_jI N) k1_beside 0 0 0 [some (.int l0), some (.int l1), none, none] [] (sm_m N S) (x1_beside F l0 l1 S)
  unfold x1_beside
  refine sd_iload_n (pc := 0) d1_beside_0 rfl ?_
  refine sd_bipush (pc := 1) 12 d1_beside_1 cb_12 ?_
  refine sd_irem (pc := 3) d1_beside_3 (by decide) ?_
  refine sd_gs0 (pc := 4) fl1_21 d1_beside_4 ?_
  refine sd_iload_n (pc := 7) d1_beside_7 rfl ?_
  refine sd_ts0 (pc := 8) d1_beside_8 (fun v1 => ?_)
  refine sd_iadd (pc := 9) d1_beside_9 ?_
  refine sd_ni (fun v2 => ?_)
  refine sd_istore_n (lf2 := [some (.int l0), some (.int l1), some (.int v2), none]) (pc := 10) d1_beside_10 (Nat.le_of_ble_eq_true rfl) rfl ?_
  refine sd_iload_n (pc := 11) d1_beside_11 rfl ?_
  refine sd_bipush (pc := 12) 12 d1_beside_12 cb_12 ?_
  refine sd_idiv (pc := 14) d1_beside_14 (by decide) ?_
  refine sd_gs1 (pc := 15) fl1_25 d1_beside_15 ?_
  refine sd_iload_n (pc := 18) d1_beside_18 rfl ?_
  refine sd_ts1 (pc := 19) d1_beside_19 (fun v3 => ?_)
  refine sd_iadd (pc := 20) d1_beside_20 ?_
  refine sd_ni (fun v4 => ?_)
  refine sd_istore_n (lf2 := [some (.int l0), some (.int l1), some (.int v2), some (.int v4)]) (pc := 21) d1_beside_21 (Nat.le_of_ble_eq_true rfl) rfl ?_
  refine sd_iload_n (pc := 22) d1_beside_22 rfl ?_
  refine sd_if_lt (pc := 23) 42 d1_beside_23 (by decide) (fun _ => ?_) (fun _ => ?_)
  · refine sd_bipush (pc := 42) (-9) d1_beside_42 cb_m9 ?_
    refine sd_goto (pc := 44) 53 d1_beside_44 (by decide) ?_
    exact sd_iret (pc := 53) d1_beside_53 rfl (Nat.zero_le _) (Nat.zero_le _)
  · refine sd_iload_n (pc := 26) d1_beside_26 rfl ?_
    refine sd_bipush (pc := 27) 12 d1_beside_27 cb_12 ?_
    refine sd_ic_ge (pc := 29) 42 d1_beside_29 (by decide) (fun _ => ?_) (fun _ => ?_)
    · refine sd_bipush (pc := 42) (-9) d1_beside_42 cb_m9 ?_
      refine sd_goto (pc := 44) 53 d1_beside_44 (by decide) ?_
      exact sd_iret (pc := 53) d1_beside_53 rfl (Nat.zero_le _) (Nat.zero_le _)
    · refine sd_iload_n (pc := 32) d1_beside_32 rfl ?_
      refine sd_if_lt (pc := 33) 42 d1_beside_33 (by decide) (fun _ => ?_) (fun _ => ?_)
      · refine sd_bipush (pc := 42) (-9) d1_beside_42 cb_m9 ?_
        refine sd_goto (pc := 44) 53 d1_beside_44 (by decide) ?_
        exact sd_iret (pc := 53) d1_beside_53 rfl (Nat.zero_le _) (Nat.zero_le _)
      · refine sd_iload_n (pc := 36) d1_beside_36 rfl ?_
        refine sd_bipush (pc := 37) 10 d1_beside_37 cb_10 ?_
        refine sd_ic_lt (pc := 39) 47 d1_beside_39 (by decide) (fun _ => ?_) (fun _ => ?_)
        · refine sd_iload_n (pc := 47) d1_beside_47 rfl ?_
          refine sd_bipush (pc := 48) 12 d1_beside_48 cb_12 ?_
          refine sd_imul (pc := 50) d1_beside_50 ?_
          refine sd_iload_n (pc := 51) d1_beside_51 rfl ?_
          refine sd_iadd (pc := 52) d1_beside_52 ?_
          exact sd_iret (pc := 53) d1_beside_53 rfl (Nat.zero_le _) (Nat.zero_le _)
        · refine sd_bipush (pc := 42) (-9) d1_beside_42 cb_m9 ?_
          refine sd_goto (pc := 44) 53 d1_beside_44 (by decide) ?_
          exact sd_iret (pc := 53) d1_beside_53 rfl (Nat.zero_le _) (Nat.zero_le _)
set_option maxHeartbeats 4000000 in
set_option maxRecDepth 20000 in
theorem s4_readLine_33 {N : Nat} (F : Nat) : ∀ (f : Nat) (l1 : Int32) (l2 : Int32) (l3 : Int32) (l4 : Int32) (S : sm_t), sm_S (sm_jV N) k4_readLine 0 0 33 [some (.ref 46), some (.int l1), some (.int l2), some (.int l3), some (.int l4)] [] (sm_m N S) (x4_readLine_33 F f l1 l2 l3 l4 S) := by
  intro f
  induction f with
  | zero =>
    intro l1 l2 l3 l4 S
    exact sd_none
  | succ f ih =>
    intro l1 l2 l3 l4 S
    rw [x4_readLine_33]
    refine sd_iload (pc := 33) d4_readLine_33 rfl ?_
    refine sd_bipush (pc := 35) 12 d4_readLine_35 cb_12 ?_
    refine sd_ic_ge (pc := 37) 74 d4_readLine_37 (by decide) (fun _ => ?_) (fun _ => ?_)
    · exact sd_vret (pc := 74) d4_readLine_74 (Nat.zero_le _) (Nat.zero_le _)
    · refine sd_iload_n (pc := 40) d4_readLine_40 rfl ?_
      refine sd_bipush (pc := 41) (-9) d4_readLine_41 cb_m9 ?_
      refine sd_ic_eq (pc := 43) 74 d4_readLine_43 (by decide) (fun _ => ?_) (fun _ => ?_)
      · exact sd_vret (pc := 74) d4_readLine_74 (Nat.zero_le _) (Nat.zero_le _)
      · refine sd_aload_n (pc := 46) d4_readLine_46 rfl ?_
        refine sd_getI (pc := 47) (show sm_sq 46 = some (.inr 3) from rfl) rfl fl4_22 d4_readLine_47 (fun v1 => ?_)
        refine sd_bipush (pc := 50) (-9) d4_readLine_50 cb_m9 ?_
        refine sd_ic_ne (pc := 52) 74 d4_readLine_52 (by decide) (fun _ => ?_) (fun _ => ?_)
        · refine sd_aload_n (pc := 55) d4_readLine_55 rfl ?_
          refine sd_getR (pc := 56) 47 (show sm_sq 46 = some (.inr 3) from rfl) rfl fl4_27 rfl d4_readLine_56 ?_
          refine sd_iload_n (pc := 59) d4_readLine_59 rfl ?_
          refine sd_iload_n (pc := 60) d4_readLine_60 rfl ?_
          refine sd_iast (pc := 61) (show sm_sq 47 = some (.inl (.int, 120)) from rfl) d4_readLine_61 (fun S => ?_)
          refine sd_iload_n (pc := 62) d4_readLine_62 rfl ?_
          refine sd_iload_n (pc := 63) d4_readLine_63 rfl ?_
          refine sd_cSI (k2 := k1_beside) (As := [.int l1, .int l2]) (rest := []) (pc := 64) 71 d4_readLine_64 ml4_71 (ms1_beside) (me1_beside) ⟨rfl, rfl⟩ ⟨Nat.le_of_ble_eq_true rfl, Nat.le_of_ble_eq_true rfl⟩ (Nat.le_of_ble_eq_true rfl) (Nat.le_of_ble_eq_true rfl) (Or.inl rfl) (Nat.zero_le _) (Nat.zero_le _) rfl (s1_beside F l1 l2 S) (fun v2 S => ?_)
          refine sd_istore_n (lf2 := [some (.ref 46), some (.int v2), some (.int l2), some (.int l3), some (.int l4)]) (pc := 67) d4_readLine_67 (Nat.le_of_ble_eq_true rfl) rfl ?_
          refine sd_iinc (lf2 := [some (.ref 46), some (.int v2), some (.int l2), some (.int l3), some (.int (l4 + 1))]) (pc := 68) d4_readLine_68 (Nat.le_of_ble_eq_true rfl) rfl ci_1 rfl ?_
          refine sd_goto (pc := 71) 33 d4_readLine_71 (by decide) ?_
          exact ih v2 l2 l3 (l4 + 1) S
        · exact sd_vret (pc := 74) d4_readLine_74 (Nat.zero_le _) (Nat.zero_le _)
set_option maxHeartbeats 4000000 in
set_option maxRecDepth 20000 in
theorem s4_readLine {N : Nat} (F : Nat) (S : sm_t) : sm_P (sm_jV N) k4_readLine [.ref 46] (sm_m N S) (x4_readLine F S) := by
  show sm_S (sm_jV N) k4_readLine 0 0 0 [some (.ref 46), none, none, none, none] [] (sm_m N S) (x4_readLine F S)
  unfold x4_readLine
  refine sd_aload_n (pc := 0) d4_readLine_0 rfl ?_
  refine sd_cVI (k2 := k4_takeCell) (As := []) (rest := []) (b := 46) (ci := 3) (pc := 1) 60 (show sm_sq 46 = some (.inr 3) from rfl) (by decide) rfl d4_readLine_1 ml4_60 (ms4_takeCell).1 (ms4_takeCell).2 (me4_takeCell) ⟨rfl, rfl⟩ ⟨Nat.le_of_ble_eq_true rfl, Nat.le_of_ble_eq_true rfl⟩ (Nat.le_of_ble_eq_true rfl) (Nat.le_of_ble_eq_true rfl) (Or.inl rfl) (Nat.zero_le _) (Nat.zero_le _) rfl (s4_takeCell F S) (fun v1 S => ?_)
  refine sd_istore_n (lf2 := [some (.ref 46), some (.int v1), none, none, none]) (pc := 4) d4_readLine_4 (Nat.le_of_ble_eq_true rfl) rfl ?_
  refine sd_aload_n (pc := 5) d4_readLine_5 rfl ?_
  refine sd_bipush (pc := 6) 58 d4_readLine_6 cb_58 ?_
  refine sd_cVV (k2 := k4_take) (As := [.int 58]) (rest := []) (b := 46) (ci := 3) (pc := 8) 46 (show sm_sq 46 = some (.inr 3) from rfl) (by decide) rfl d4_readLine_8 ml4_46 (ms4_take).1 (ms4_take).2 (me4_take) ⟨rfl, rfl⟩ ⟨Nat.le_of_ble_eq_true rfl, Nat.le_of_ble_eq_true rfl⟩ (Nat.le_of_ble_eq_true rfl) (Nat.le_of_ble_eq_true rfl) rfl (Nat.zero_le _) (Nat.zero_le _) rfl (s4_take F 58 S) (fun S => ?_)
  refine sd_aload_n (pc := 11) d4_readLine_11 rfl ?_
  refine sd_bipush (pc := 12) 7 d4_readLine_12 cb_7 ?_
  refine sd_cVI (k2 := k4_takeFigure) (As := [.int 7]) (rest := []) (b := 46) (ci := 3) (pc := 14) 64 (show sm_sq 46 = some (.inr 3) from rfl) (by decide) rfl d4_readLine_14 ml4_64 (ms4_takeFigure).1 (ms4_takeFigure).2 (me4_takeFigure) ⟨rfl, rfl⟩ ⟨Nat.le_of_ble_eq_true rfl, Nat.le_of_ble_eq_true rfl⟩ (Nat.le_of_ble_eq_true rfl) (Nat.le_of_ble_eq_true rfl) (Or.inl rfl) (Nat.zero_le _) (Nat.zero_le _) rfl (s4_takeFigure F 7 S) (fun v3 S => ?_)
  refine sd_istore_n (lf2 := [some (.ref 46), some (.int v1), some (.int v3), none, none]) (pc := 17) d4_readLine_17 (Nat.le_of_ble_eq_true rfl) rfl ?_
  refine sd_aload_n (pc := 18) d4_readLine_18 rfl ?_
  refine sd_bipush (pc := 19) 61 d4_readLine_19 cb_61 ?_
  refine sd_cVV (k2 := k4_take) (As := [.int 61]) (rest := []) (b := 46) (ci := 3) (pc := 21) 46 (show sm_sq 46 = some (.inr 3) from rfl) (by decide) rfl d4_readLine_21 ml4_46 (ms4_take).1 (ms4_take).2 (me4_take) ⟨rfl, rfl⟩ ⟨Nat.le_of_ble_eq_true rfl, Nat.le_of_ble_eq_true rfl⟩ (Nat.le_of_ble_eq_true rfl) (Nat.le_of_ble_eq_true rfl) rfl (Nat.zero_le _) (Nat.zero_le _) rfl (s4_take F 61 S) (fun S => ?_)
  refine sd_aload_n (pc := 24) d4_readLine_24 rfl ?_
  refine sd_iconst (pc := 25) 2 d4_readLine_25 ci_2 ?_
  refine sd_cVI (k2 := k4_takeNumber) (As := [.int 2]) (rest := []) (b := 46) (ci := 3) (pc := 26) 50 (show sm_sq 46 = some (.inr 3) from rfl) (by decide) rfl d4_readLine_26 ml4_50 (ms4_takeNumber).1 (ms4_takeNumber).2 (me4_takeNumber) ⟨rfl, rfl⟩ ⟨Nat.le_of_ble_eq_true rfl, Nat.le_of_ble_eq_true rfl⟩ (Nat.le_of_ble_eq_true rfl) (Nat.le_of_ble_eq_true rfl) (Or.inl rfl) (Nat.zero_le _) (Nat.zero_le _) rfl (s4_takeNumber F 2 S) (fun v5 S => ?_)
  refine sd_istore_n (lf2 := [some (.ref 46), some (.int v1), some (.int v3), some (.int v5), none]) (pc := 29) d4_readLine_29 (Nat.le_of_ble_eq_true rfl) rfl ?_
  refine sd_iconst (pc := 30) 0 d4_readLine_30 ci_0 ?_
  refine sd_istore (lf2 := [some (.ref 46), some (.int v1), some (.int v3), some (.int v5), some (.int 0)]) (pc := 31) d4_readLine_31 (Nat.le_of_ble_eq_true rfl) rfl ?_
  exact s4_readLine_33 F F v1 v3 v5 0 S
set_option maxHeartbeats 4000000 in
set_option maxRecDepth 20000 in
theorem s4_readItem {N : Nat} (F : Nat) (S : sm_t) : sm_P (sm_jV N) k4_readItem [.ref 46] (sm_m N S) (x4_readItem F S) := by
  show sm_S (sm_jV N) k4_readItem 0 0 0 [some (.ref 46), none] [] (sm_m N S) (x4_readItem F S)
  unfold x4_readItem
  refine sd_aload_n (pc := 0) d4_readItem_0 rfl ?_
  refine sd_getT (pc := 1) (show sm_sq 46 = some (.inr 3) from rfl) rfl fl4_9 rfl d4_readItem_1 (fun a1 => ?_)
  refine sd_aload_n (pc := 4) d4_readItem_4 rfl ?_
  refine sd_getI (pc := 5) (show sm_sq 46 = some (.inr 3) from rfl) rfl fl4_19 d4_readItem_5 (fun v2 => ?_)
  refine sd_an (fun n4 h3 => ?_)
  refine sd_bald (pc := 8) h3 d4_readItem_8 (fun v5 => ?_)
  refine sd_bipush (pc := 9) 97 d4_readItem_9 cb_97 ?_
  refine sd_ic_ne (pc := 11) 56 d4_readItem_11 (by decide) (fun _ => ?_) (fun _ => ?_)
  · refine sd_aload_n (pc := 14) d4_readItem_14 rfl ?_
    refine sd_dup (pc := 15) d4_readItem_15 rfl ?_
    refine sd_getI (pc := 16) (show sm_sq 46 = some (.inr 3) from rfl) rfl fl4_19 d4_readItem_16 (fun v6 => ?_)
    refine sd_iconst (pc := 19) 1 d4_readItem_19 ci_1 ?_
    refine sd_iadd (pc := 20) d4_readItem_20 ?_
    refine sd_putI (pc := 21) (show sm_sq 46 = some (.inr 3) from rfl) rfl fl4_19 rfl d4_readItem_21 (fun S => ?_)
    refine sd_aload_n (pc := 24) d4_readItem_24 rfl ?_
    refine sd_bipush (pc := 25) 61 d4_readItem_25 cb_61 ?_
    refine sd_cVV (k2 := k4_take) (As := [.int 61]) (rest := []) (b := 46) (ci := 3) (pc := 27) 46 (show sm_sq 46 = some (.inr 3) from rfl) (by decide) rfl d4_readItem_27 ml4_46 (ms4_take).1 (ms4_take).2 (me4_take) ⟨rfl, rfl⟩ ⟨Nat.le_of_ble_eq_true rfl, Nat.le_of_ble_eq_true rfl⟩ (Nat.le_of_ble_eq_true rfl) (Nat.le_of_ble_eq_true rfl) rfl (Nat.zero_le _) (Nat.zero_le _) rfl (s4_take F 61 S) (fun S => ?_)
    refine sd_aload_n (pc := 30) d4_readItem_30 rfl ?_
    refine sd_iconst (pc := 31) 2 d4_readItem_31 ci_2 ?_
    refine sd_cVI (k2 := k4_takeNumber) (As := [.int 2]) (rest := []) (b := 46) (ci := 3) (pc := 32) 50 (show sm_sq 46 = some (.inr 3) from rfl) (by decide) rfl d4_readItem_32 ml4_50 (ms4_takeNumber).1 (ms4_takeNumber).2 (me4_takeNumber) ⟨rfl, rfl⟩ ⟨Nat.le_of_ble_eq_true rfl, Nat.le_of_ble_eq_true rfl⟩ (Nat.le_of_ble_eq_true rfl) (Nat.le_of_ble_eq_true rfl) (Or.inl rfl) (Nat.zero_le _) (Nat.zero_le _) rfl (s4_takeNumber F 2 S) (fun v8 S => ?_)
    refine sd_istore_n (lf2 := [some (.ref 46), some (.int v8)]) (pc := 35) d4_readItem_35 (Nat.le_of_ble_eq_true rfl) rfl ?_
    refine sd_aload_n (pc := 36) d4_readItem_36 rfl ?_
    refine sd_getI (pc := 37) (show sm_sq 46 = some (.inr 3) from rfl) rfl fl4_22 d4_readItem_37 (fun v9 => ?_)
    refine sd_bipush (pc := 40) (-9) d4_readItem_40 cb_m9 ?_
    refine sd_ic_ne (pc := 42) 53 d4_readItem_42 (by decide) (fun _ => ?_) (fun _ => ?_)
    · refine sd_aload_n (pc := 45) d4_readItem_45 rfl ?_
      refine sd_getR (pc := 46) 47 (show sm_sq 46 = some (.inr 3) from rfl) rfl fl4_27 rfl d4_readItem_46 ?_
      refine sd_iload_n (pc := 49) d4_readItem_49 rfl ?_
      refine sd_cSV (k2 := kA_fillI) (As := [.ref 47, .int v8]) (rest := []) (pc := 50) 34 d4_readItem_50 ml4_34 (msA_fillI) (meA_fillI) ⟨rfl, rfl⟩ ⟨Nat.le_of_ble_eq_true rfl, Nat.le_of_ble_eq_true rfl⟩ (Nat.le_of_ble_eq_true rfl) (Nat.le_of_ble_eq_true rfl) rfl (Nat.zero_le _) (Nat.zero_le _) rfl (sA_fillI F 47 v8 S) (fun S => ?_)
      refine sd_goto (pc := 53) 126 d4_readItem_53 (by decide) ?_
      exact sd_vret (pc := 126) d4_readItem_126 (Nat.zero_le _) (Nat.zero_le _)
    · refine sd_goto (pc := 53) 126 d4_readItem_53 (by decide) ?_
      exact sd_vret (pc := 126) d4_readItem_126 (Nat.zero_le _) (Nat.zero_le _)
  · refine sd_aload_n (pc := 56) d4_readItem_56 rfl ?_
    refine sd_getT (pc := 57) (show sm_sq 46 = some (.inr 3) from rfl) rfl fl4_9 rfl d4_readItem_57 (fun a11 => ?_)
    refine sd_aload_n (pc := 60) d4_readItem_60 rfl ?_
    refine sd_getI (pc := 61) (show sm_sq 46 = some (.inr 3) from rfl) rfl fl4_19 d4_readItem_61 (fun v12 => ?_)
    refine sd_an (fun n14 h13 => ?_)
    refine sd_bald (pc := 64) h13 d4_readItem_64 (fun v15 => ?_)
    refine sd_bipush (pc := 65) 114 d4_readItem_65 cb_114 ?_
    refine sd_ic_ne (pc := 67) 87 d4_readItem_67 (by decide) (fun _ => ?_) (fun _ => ?_)
    · refine sd_aload_n (pc := 70) d4_readItem_70 rfl ?_
      refine sd_dup (pc := 71) d4_readItem_71 rfl ?_
      refine sd_getI (pc := 72) (show sm_sq 46 = some (.inr 3) from rfl) rfl fl4_19 d4_readItem_72 (fun v16 => ?_)
      refine sd_iconst (pc := 75) 1 d4_readItem_75 ci_1 ?_
      refine sd_iadd (pc := 76) d4_readItem_76 ?_
      refine sd_putI (pc := 77) (show sm_sq 46 = some (.inr 3) from rfl) rfl fl4_19 rfl d4_readItem_77 (fun S => ?_)
      refine sd_aload_n (pc := 80) d4_readItem_80 rfl ?_
      refine sd_cVV (k2 := k4_readRound) (As := []) (rest := []) (b := 46) (ci := 3) (pc := 81) 54 (show sm_sq 46 = some (.inr 3) from rfl) (by decide) rfl d4_readItem_81 ml4_54 (ms4_readRound).1 (ms4_readRound).2 (me4_readRound) ⟨rfl, rfl⟩ ⟨Nat.le_of_ble_eq_true rfl, Nat.le_of_ble_eq_true rfl⟩ (Nat.le_of_ble_eq_true rfl) (Nat.le_of_ble_eq_true rfl) rfl (Nat.zero_le _) (Nat.zero_le _) rfl (s4_readRound F S) (fun S => ?_)
      refine sd_goto (pc := 84) 126 d4_readItem_84 (by decide) ?_
      exact sd_vret (pc := 126) d4_readItem_126 (Nat.zero_le _) (Nat.zero_le _)
    · refine sd_aload_n (pc := 87) d4_readItem_87 rfl ?_
      refine sd_getT (pc := 88) (show sm_sq 46 = some (.inr 3) from rfl) rfl fl4_9 rfl d4_readItem_88 (fun a18 => ?_)
      refine sd_aload_n (pc := 91) d4_readItem_91 rfl ?_
      refine sd_getI (pc := 92) (show sm_sq 46 = some (.inr 3) from rfl) rfl fl4_19 d4_readItem_92 (fun v19 => ?_)
      refine sd_an (fun n21 h20 => ?_)
      refine sd_bald (pc := 95) h20 d4_readItem_95 (fun v22 => ?_)
      refine sd_bipush (pc := 96) 108 d4_readItem_96 cb_108 ?_
      refine sd_ic_ne (pc := 98) 118 d4_readItem_98 (by decide) (fun _ => ?_) (fun _ => ?_)
      · refine sd_aload_n (pc := 101) d4_readItem_101 rfl ?_
        refine sd_dup (pc := 102) d4_readItem_102 rfl ?_
        refine sd_getI (pc := 103) (show sm_sq 46 = some (.inr 3) from rfl) rfl fl4_19 d4_readItem_103 (fun v23 => ?_)
        refine sd_iconst (pc := 106) 1 d4_readItem_106 ci_1 ?_
        refine sd_iadd (pc := 107) d4_readItem_107 ?_
        refine sd_putI (pc := 108) (show sm_sq 46 = some (.inr 3) from rfl) rfl fl4_19 rfl d4_readItem_108 (fun S => ?_)
        refine sd_aload_n (pc := 111) d4_readItem_111 rfl ?_
        refine sd_cVV (k2 := k4_readLine) (As := []) (rest := []) (b := 46) (ci := 3) (pc := 112) 57 (show sm_sq 46 = some (.inr 3) from rfl) (by decide) rfl d4_readItem_112 ml4_57 (ms4_readLine).1 (ms4_readLine).2 (me4_readLine) ⟨rfl, rfl⟩ ⟨Nat.le_of_ble_eq_true rfl, Nat.le_of_ble_eq_true rfl⟩ (Nat.le_of_ble_eq_true rfl) (Nat.le_of_ble_eq_true rfl) rfl (Nat.zero_le _) (Nat.zero_le _) rfl (s4_readLine F S) (fun S => ?_)
        refine sd_goto (pc := 115) 126 d4_readItem_115 (by decide) ?_
        exact sd_vret (pc := 126) d4_readItem_126 (Nat.zero_le _) (Nat.zero_le _)
      · refine sd_aload_n (pc := 118) d4_readItem_118 rfl ?_
        refine sd_aload_n (pc := 119) d4_readItem_119 rfl ?_
        refine sd_getI (pc := 120) (show sm_sq 46 = some (.inr 3) from rfl) rfl fl4_19 d4_readItem_120 (fun v25 => ?_)
        refine sd_putI (pc := 123) (show sm_sq 46 = some (.inr 3) from rfl) rfl fl4_22 rfl d4_readItem_123 (fun S => ?_)
        exact sd_vret (pc := 126) d4_readItem_126 (Nat.zero_le _) (Nat.zero_le _)
set_option maxHeartbeats 4000000 in
set_option maxRecDepth 20000 in
theorem s4_read_40 {N : Nat} (F : Nat) : ∀ (f : Nat) (l3 : Int32) (S : sm_t), sm_S (sm_jI N) k4_read 0 0 40 [some (.ref 46), none, none, some (.int l3)] [] (sm_m N S) (x4_read_40 F f l3 S) := by
  intro f
  induction f with
  | zero =>
    intro l3 S
    exact sd_none
  | succ f ih =>
    intro l3 S
    rw [x4_read_40]
    refine sd_iload_n (pc := 40) d4_read_40 rfl ?_
    refine sd_aload_n (pc := 41) d4_read_41 rfl ?_
    refine sd_getI (pc := 42) (show sm_sq 46 = some (.inr 3) from rfl) rfl fl4_15 d4_read_42 (fun v1 => ?_)
    refine sd_ic_ge (pc := 45) 92 d4_read_45 (by decide) (fun _ => ?_) (fun _ => ?_)
    · refine sd_aload_n (pc := 92) d4_read_92 rfl ?_
      refine sd_getI (pc := 93) (show sm_sq 46 = some (.inr 3) from rfl) rfl fl4_22 d4_read_93 (fun v2 => ?_)
      exact sd_iret (pc := 96) d4_read_96 rfl (Nat.zero_le _) (Nat.zero_le _)
    · refine sd_aload_n (pc := 48) d4_read_48 rfl ?_
      refine sd_getI (pc := 49) (show sm_sq 46 = some (.inr 3) from rfl) rfl fl4_19 d4_read_49 (fun v3 => ?_)
      refine sd_aload_n (pc := 52) d4_read_52 rfl ?_
      refine sd_getI (pc := 53) (show sm_sq 46 = some (.inr 3) from rfl) rfl fl4_15 d4_read_53 (fun v4 => ?_)
      refine sd_ic_ge (pc := 56) 92 d4_read_56 (by decide) (fun _ => ?_) (fun _ => ?_)
      · refine sd_aload_n (pc := 92) d4_read_92 rfl ?_
        refine sd_getI (pc := 93) (show sm_sq 46 = some (.inr 3) from rfl) rfl fl4_22 d4_read_93 (fun v5 => ?_)
        exact sd_iret (pc := 96) d4_read_96 rfl (Nat.zero_le _) (Nat.zero_le _)
      · refine sd_aload_n (pc := 59) d4_read_59 rfl ?_
        refine sd_getI (pc := 60) (show sm_sq 46 = some (.inr 3) from rfl) rfl fl4_22 d4_read_60 (fun v6 => ?_)
        refine sd_bipush (pc := 63) (-9) d4_read_63 cb_m9 ?_
        refine sd_ic_ne (pc := 65) 92 d4_read_65 (by decide) (fun _ => ?_) (fun _ => ?_)
        · refine sd_aload_n (pc := 68) d4_read_68 rfl ?_
          refine sd_cVV (k2 := k4_readItem) (As := []) (rest := []) (b := 46) (ci := 3) (pc := 69) 43 (show sm_sq 46 = some (.inr 3) from rfl) (by decide) rfl d4_read_69 ml4_43 (ms4_readItem).1 (ms4_readItem).2 (me4_readItem) ⟨rfl, rfl⟩ ⟨Nat.le_of_ble_eq_true rfl, Nat.le_of_ble_eq_true rfl⟩ (Nat.le_of_ble_eq_true rfl) (Nat.le_of_ble_eq_true rfl) rfl (Nat.zero_le _) (Nat.zero_le _) rfl (s4_readItem F S) (fun S => ?_)
          refine sd_aload_n (pc := 72) d4_read_72 rfl ?_
          refine sd_dup (pc := 73) d4_read_73 rfl ?_
          refine sd_getI (pc := 74) (show sm_sq 46 = some (.inr 3) from rfl) rfl fl4_31 d4_read_74 (fun v8 => ?_)
          refine sd_iconst (pc := 77) 1 d4_read_77 ci_1 ?_
          refine sd_iadd (pc := 78) d4_read_78 ?_
          refine sd_putI (pc := 79) (show sm_sq 46 = some (.inr 3) from rfl) rfl fl4_31 rfl d4_read_79 (fun S => ?_)
          refine sd_aload_n (pc := 82) d4_read_82 rfl ?_
          refine sd_cVV (k2 := k4_skipBlanks) (As := []) (rest := []) (b := 46) (ci := 3) (pc := 83) 40 (show sm_sq 46 = some (.inr 3) from rfl) (by decide) rfl d4_read_83 ml4_40 (ms4_skipBlanks).1 (ms4_skipBlanks).2 (me4_skipBlanks) ⟨rfl, rfl⟩ ⟨Nat.le_of_ble_eq_true rfl, Nat.le_of_ble_eq_true rfl⟩ (Nat.le_of_ble_eq_true rfl) (Nat.le_of_ble_eq_true rfl) rfl (Nat.zero_le _) (Nat.zero_le _) rfl (s4_skipBlanks F S) (fun S => ?_)
          refine sd_iinc (lf2 := [some (.ref 46), none, none, some (.int (l3 + 1))]) (pc := 86) d4_read_86 (Nat.le_of_ble_eq_true rfl) rfl ci_1 rfl ?_
          refine sd_goto (pc := 89) 40 d4_read_89 (by decide) ?_
          exact ih (l3 + 1) S
        · refine sd_aload_n (pc := 92) d4_read_92 rfl ?_
          refine sd_getI (pc := 93) (show sm_sq 46 = some (.inr 3) from rfl) rfl fl4_22 d4_read_93 (fun v10 => ?_)
          exact sd_iret (pc := 96) d4_read_96 rfl (Nat.zero_le _) (Nat.zero_le _)
set_option maxHeartbeats 4000000 in
set_option maxRecDepth 20000 in
theorem s4_read {N : Nat} (F : Nat) (l1 : Nat) (l2 : Int32) (S : sm_t) : sm_P (sm_jI N) k4_read [.ref 46, .ref l1, .int l2] (sm_m N S) (x4_read F l1 l2 S) := by
  show sm_S (sm_jI N) k4_read 0 0 0 [some (.ref 46), some (.ref l1), some (.int l2), none] [] (sm_m N S) (x4_read F l1 l2 S)
  unfold x4_read
  refine sd_aload_n (pc := 0) d4_read_0 rfl ?_
  refine sd_aload_n (pc := 1) d4_read_1 rfl ?_
  refine sd_ptx (pc := 2) fl4_9 d4_read_2 (fun S => ?_)
  refine sd_aload_n (pc := 5) d4_read_5 rfl ?_
  refine sd_iload_n (pc := 6) d4_read_6 rfl ?_
  refine sd_putI (pc := 7) (show sm_sq 46 = some (.inr 3) from rfl) rfl fl4_15 rfl d4_read_7 (fun S => ?_)
  refine sd_aload_n (pc := 10) d4_read_10 rfl ?_
  refine sd_iconst (pc := 11) 0 d4_read_11 ci_0 ?_
  refine sd_putI (pc := 12) (show sm_sq 46 = some (.inr 3) from rfl) rfl fl4_19 rfl d4_read_12 (fun S => ?_)
  refine sd_aload_n (pc := 15) d4_read_15 rfl ?_
  refine sd_bipush (pc := 16) (-9) d4_read_16 cb_m9 ?_
  refine sd_putI (pc := 18) (show sm_sq 46 = some (.inr 3) from rfl) rfl fl4_22 rfl d4_read_18 (fun S => ?_)
  refine sd_aload_n (pc := 21) d4_read_21 rfl ?_
  refine sd_iconst (pc := 22) 0 d4_read_22 ci_0 ?_
  refine sd_putI (pc := 23) (show sm_sq 46 = some (.inr 3) from rfl) rfl fl4_31 rfl d4_read_23 (fun S => ?_)
  refine sd_aload_n (pc := 26) d4_read_26 rfl ?_
  refine sd_getR (pc := 27) 47 (show sm_sq 46 = some (.inr 3) from rfl) rfl fl4_27 rfl d4_read_27 ?_
  refine sd_iconst (pc := 30) 0 d4_read_30 ci_0 ?_
  refine sd_cSV (k2 := kA_fillI) (As := [.ref 47, .int 0]) (rest := []) (pc := 31) 34 d4_read_31 ml4_34 (msA_fillI) (meA_fillI) ⟨rfl, rfl⟩ ⟨Nat.le_of_ble_eq_true rfl, Nat.le_of_ble_eq_true rfl⟩ (Nat.le_of_ble_eq_true rfl) (Nat.le_of_ble_eq_true rfl) rfl (Nat.zero_le _) (Nat.zero_le _) rfl (sA_fillI F 47 0 S) (fun S => ?_)
  refine sd_aload_n (pc := 34) d4_read_34 rfl ?_
  refine sd_cVV (k2 := k4_skipBlanks) (As := []) (rest := []) (b := 46) (ci := 3) (pc := 35) 40 (show sm_sq 46 = some (.inr 3) from rfl) (by decide) rfl d4_read_35 ml4_40 (ms4_skipBlanks).1 (ms4_skipBlanks).2 (me4_skipBlanks) ⟨rfl, rfl⟩ ⟨Nat.le_of_ble_eq_true rfl, Nat.le_of_ble_eq_true rfl⟩ (Nat.le_of_ble_eq_true rfl) (Nat.le_of_ble_eq_true rfl) rfl (Nat.zero_le _) (Nat.zero_le _) rfl (s4_skipBlanks F S) (fun S => ?_)
  refine sd_iconst (pc := 38) 0 d4_read_38 ci_0 ?_
  refine sd_istore_n (lf2 := [some (.ref 46), some (.ref l1), some (.int l2), some (.int 0)]) (pc := 39) d4_read_39 (Nat.le_of_ble_eq_true rfl) rfl ?_
  exact sd_fg [true, false, false, true] rfl (s4_read_40 F F 0 S)
set_option maxHeartbeats 4000000 in
set_option maxRecDepth 20000 in
theorem s7_fault {N : Nat} (F : Nat) (l1 : Int32) (S : sm_t) : sm_P (sm_jI N) k7_fault [.ref 3, .int l1] (sm_m N S) (x7_fault F l1 S) := by
  show sm_S (sm_jI N) k7_fault 0 0 0 [some (.ref 3), some (.int l1)] [] (sm_m N S) (x7_fault F l1 S)
  unfold x7_fault
  refine sd_iload_n (pc := 0) d7_fault_0 rfl ?_
  refine sd_cSI (k2 := k7_isText) (As := [.int l1]) (rest := []) (pc := 1) 114 d7_fault_1 ml7_114 (ms7_isText) (me7_isText) ⟨rfl, rfl⟩ ⟨Nat.le_of_ble_eq_true rfl, Nat.le_of_ble_eq_true rfl⟩ (Nat.le_of_ble_eq_true rfl) (Nat.le_of_ble_eq_true rfl) (Or.inr rfl) (Nat.zero_le _) (Nat.zero_le _) rfl (s7_isText F l1 S) (fun v1 S => ?_)
  refine sd_if_ne (pc := 4) 9 d7_fault_4 (by decide) (fun _ => ?_) (fun _ => ?_)
  · refine sd_iconst (pc := 7) (-1) d7_fault_7 ci_m1 ?_
    exact sd_iret (pc := 8) d7_fault_8 rfl (Nat.zero_le _) (Nat.zero_le _)
  · refine sd_aload_n (pc := 9) d7_fault_9 rfl ?_
    refine sd_getR (pc := 10) 17 (show sm_sq 3 = some (.inr 6) from rfl) rfl fl7_23 rfl d7_fault_10 ?_
    refine sd_iload_n (pc := 13) d7_fault_13 rfl ?_
    refine sd_iald (pc := 14) (show sm_sq 17 = some (.inl (.int, 4)) from rfl) d7_fault_14 (fun v2 => ?_)
    refine sd_iconst (pc := 15) (-1) d7_fault_15 ci_m1 ?_
    refine sd_ic_ne (pc := 16) 25 d7_fault_16 (by decide) (fun _ => ?_) (fun _ => ?_)
    · refine sd_aload_n (pc := 19) d7_fault_19 rfl ?_
      refine sd_iconst (pc := 20) 1 d7_fault_20 ci_1 ?_
      refine sd_cVI (k2 := k7_found) (As := [.int 1]) (rest := []) (b := 3) (ci := 6) (pc := 21) 92 (show sm_sq 3 = some (.inr 6) from rfl) (by decide) rfl d7_fault_21 ml7_92 (ms7_found).1 (ms7_found).2 (me7_found) ⟨rfl, rfl⟩ ⟨Nat.le_of_ble_eq_true rfl, Nat.le_of_ble_eq_true rfl⟩ (Nat.le_of_ble_eq_true rfl) (Nat.le_of_ble_eq_true rfl) (Or.inl rfl) (Nat.zero_le _) (Nat.zero_le _) rfl (s7_found F 1 S) (fun v3 S => ?_)
      exact sd_iret (pc := 24) d7_fault_24 rfl (Nat.zero_le _) (Nat.zero_le _)
    · refine sd_aload_n (pc := 25) d7_fault_25 rfl ?_
      refine sd_getR (pc := 26) 46 (show sm_sq 3 = some (.inr 6) from rfl) rfl fl7_54 rfl d7_fault_26 ?_
      refine sd_aload_n (pc := 29) d7_fault_29 rfl ?_
      refine sd_getR (pc := 30) 12 (show sm_sq 3 = some (.inr 6) from rfl) rfl fl7_20 rfl d7_fault_30 ?_
      refine sd_iload_n (pc := 33) d7_fault_33 rfl ?_
      refine sd_aald (pc := 34) 5 (show sm_sq 12 = some (.inl (.array .byte, 4)) from rfl) rfl rfl (fun _ => rfl) (fun _ _ _ _ h => if_pos h) d7_fault_34 (fun a4 => ?_)
      refine sd_aload_n (pc := 35) d7_fault_35 rfl ?_
      refine sd_getR (pc := 36) 17 (show sm_sq 3 = some (.inr 6) from rfl) rfl fl7_23 rfl d7_fault_36 ?_
      refine sd_iload_n (pc := 39) d7_fault_39 rfl ?_
      refine sd_iald (pc := 40) (show sm_sq 17 = some (.inl (.int, 4)) from rfl) d7_fault_40 (fun v5 => ?_)
      refine sd_cVI (k2 := k4_read) (As := [.ref a4, .int v5]) (rest := []) (b := 46) (ci := 3) (pc := 41) 150 (show sm_sq 46 = some (.inr 3) from rfl) (by decide) rfl d7_fault_41 ml7_150 (ms4_read).1 (ms4_read).2 (me4_read) ⟨rfl, rfl⟩ ⟨Nat.le_of_ble_eq_true rfl, Nat.le_of_ble_eq_true rfl⟩ (Nat.le_of_ble_eq_true rfl) (Nat.le_of_ble_eq_true rfl) (Or.inl rfl) (Nat.zero_le _) (Nat.zero_le _) rfl (s4_read F a4 v5 S) (fun v6 S => ?_)
      exact sd_iret (pc := 44) d7_fault_44 rfl (Nat.zero_le _) (Nat.zero_le _)
set_option maxHeartbeats 4000000 in
set_option maxRecDepth 20000 in
theorem s8_here {N : Nat} (F : Nat) (l1 : Int32) (S : sm_t) : sm_P (sm_jI N) k8_here [.ref 52, .int l1] (sm_m N S) (x8_here F l1 S) := by
  show sm_S (sm_jI N) k8_here 0 0 0 [some (.ref 52), some (.int l1)] [] (sm_m N S) (x8_here F l1 S)
  unfold x8_here
  refine sd_aload_n (pc := 0) d8_here_0 rfl ?_
  refine sd_getI (pc := 1) (show sm_sq 52 = some (.inr 7) from rfl) rfl fl8_136 d8_here_1 (fun v1 => ?_)
  refine sd_aload_n (pc := 4) d8_here_4 rfl ?_
  refine sd_getR (pc := 5) 57 (show sm_sq 52 = some (.inr 7) from rfl) rfl fl8_26 rfl d8_here_5 ?_
  refine sd_iload_n (pc := 8) d8_here_8 rfl ?_
  refine sd_iald (pc := 9) (show sm_sq 57 = some (.inl (.int, 4)) from rfl) d8_here_9 (fun v2 => ?_)
  refine sd_ic_ge (pc := 10) 30 d8_here_10 (by decide) (fun _ => ?_) (fun _ => ?_)
  · refine sd_bipush (pc := 30) (-9) d8_here_30 cb_m9 ?_
    exact sd_iret (pc := 32) d8_here_32 rfl (Nat.zero_le _) (Nat.zero_le _)
  · refine sd_aload_n (pc := 13) d8_here_13 rfl ?_
    refine sd_getR (pc := 14) 58 (show sm_sq 52 = some (.inr 7) from rfl) rfl fl8_29 rfl d8_here_14 ?_
    refine sd_bipush (pc := 17) 80 d8_here_17 cb_80 ?_
    refine sd_iload_n (pc := 19) d8_here_19 rfl ?_
    refine sd_imul (pc := 20) d8_here_20 ?_
    refine sd_aload_n (pc := 21) d8_here_21 rfl ?_
    refine sd_getI (pc := 22) (show sm_sq 52 = some (.inr 7) from rfl) rfl fl8_136 d8_here_22 (fun v3 => ?_)
    refine sd_iadd (pc := 25) d8_here_25 ?_
    refine sd_iald (pc := 26) (show sm_sq 58 = some (.inl (.int, 320)) from rfl) d8_here_26 (fun v4 => ?_)
    refine sd_goto (pc := 27) 32 d8_here_27 (by decide) ?_
    exact sd_iret (pc := 32) d8_here_32 rfl (Nat.zero_le _) (Nat.zero_le _)
set_option maxHeartbeats 4000000 in
set_option maxRecDepth 20000 in
theorem s8_reads_14 {N : Nat} (F : Nat) (t0 : Int32) (S : sm_t) : sm_S (sm_jI N) k8_reads 0 0 14 [some (.ref 52), none, none, none] [.int t0] (sm_m N S) (x8_reads_14 F t0 S) := by
  unfold x8_reads_14
  refine sd_istore_n (lf2 := [some (.ref 52), none, none, some (.int t0)]) (pc := 14) d8_reads_14 (Nat.le_of_ble_eq_true rfl) rfl ?_
  refine sd_aload_n (pc := 15) d8_reads_15 rfl ?_
  refine sd_dup (pc := 16) d8_reads_16 rfl ?_
  refine sd_getI (pc := 17) (show sm_sq 52 = some (.inr 7) from rfl) rfl fl8_136 d8_reads_17 (fun v1 => ?_)
  refine sd_iload_n (pc := 20) d8_reads_20 rfl ?_
  refine sd_if_eq (pc := 21) 28 d8_reads_21 (by decide) (fun _ => ?_) (fun _ => ?_)
  · refine sd_iconst (pc := 28) 0 d8_reads_28 ci_0 ?_
    refine sd_iadd (pc := 29) d8_reads_29 ?_
    refine sd_putI (pc := 30) (show sm_sq 52 = some (.inr 7) from rfl) rfl fl8_136 rfl d8_reads_30 (fun S => ?_)
    refine sd_iload_n (pc := 33) d8_reads_33 rfl ?_
    exact sd_zrv (pc := 34) d8_reads_34 (Nat.zero_le _) (Nat.zero_le _)
  · refine sd_iconst (pc := 24) 1 d8_reads_24 ci_1 ?_
    refine sd_goto (pc := 25) 29 d8_reads_25 (by decide) ?_
    refine sd_iadd (pc := 29) d8_reads_29 ?_
    refine sd_putI (pc := 30) (show sm_sq 52 = some (.inr 7) from rfl) rfl fl8_136 rfl d8_reads_30 (fun S => ?_)
    refine sd_iload_n (pc := 33) d8_reads_33 rfl ?_
    exact sd_zrv (pc := 34) d8_reads_34 (Nat.zero_le _) (Nat.zero_le _)
set_option maxHeartbeats 4000000 in
set_option maxRecDepth 20000 in
theorem s8_reads {N : Nat} (F : Nat) (l1 : Int32) (l2 : Int32) (S : sm_t) : sm_P (sm_jI N) k8_reads [.ref 52, .int l1, .int l2] (sm_m N S) (x8_reads F l1 l2 S) := by
  show sm_S (sm_jI N) k8_reads 0 0 0 [some (.ref 52), some (.int l1), some (.int l2), none] [] (sm_m N S) (x8_reads F l1 l2 S)
  unfold x8_reads
  refine sd_aload_n (pc := 0) d8_reads_0 rfl ?_
  refine sd_iload_n (pc := 1) d8_reads_1 rfl ?_
  refine sd_cVI (k2 := k8_here) (As := [.int l1]) (rest := []) (b := 52) (ci := 7) (pc := 2) 139 (show sm_sq 52 = some (.inr 7) from rfl) (by decide) rfl d8_reads_2 ml8_139 (ms8_here).1 (ms8_here).2 (me8_here) ⟨rfl, rfl⟩ ⟨Nat.le_of_ble_eq_true rfl, Nat.le_of_ble_eq_true rfl⟩ (Nat.le_of_ble_eq_true rfl) (Nat.le_of_ble_eq_true rfl) (Or.inl rfl) (Nat.zero_le _) (Nat.zero_le _) rfl (s8_here F l1 S) (fun v1 S => ?_)
  refine sd_iload_n (pc := 5) d8_reads_5 rfl ?_
  refine sd_ic_ne (pc := 6) 13 d8_reads_6 (by decide) (fun _ => ?_) (fun _ => ?_)
  · refine sd_iconst (pc := 9) 1 d8_reads_9 ci_1 ?_
    refine sd_goto (pc := 10) 14 d8_reads_10 (by decide) ?_
    exact sd_fg [true, false, false, true] rfl (s8_reads_14 F 1 S)
  · refine sd_iconst (pc := 13) 0 d8_reads_13 ci_0 ?_
    exact sd_fg [true, false, false, true] rfl (s8_reads_14 F 0 S)
set_option maxHeartbeats 4000000 in
set_option maxRecDepth 20000 in
theorem s8_readsNumber_70 {N : Nat} (F : Nat) (l3 : Int32) (l4 : Int32) (S : sm_t) : sm_S (sm_jI N) k8_readsNumber 0 0 70 [some (.ref 52), none, none, some (.int l3), some (.int l4)] [] (sm_m N S) (x8_readsNumber_70 F l3 l4 S) := by
  unfold x8_readsNumber_70
  refine sd_aload_n (pc := 70) d8_readsNumber_70 rfl ?_
  refine sd_getI (pc := 71) (show sm_sq 52 = some (.inr 7) from rfl) rfl fl8_136 d8_readsNumber_71 (fun v1 => ?_)
  refine sd_iload (pc := 74) d8_readsNumber_74 rfl ?_
  refine sd_ic_le (pc := 76) 91 d8_readsNumber_76 (by decide) (fun _ => ?_) (fun _ => ?_)
  · refine sd_iconst (pc := 91) 0 d8_readsNumber_91 ci_0 ?_
    exact sd_zret (pc := 92) d8_readsNumber_92 (by decide) (Nat.zero_le _) (Nat.zero_le _)
  · refine sd_aload_n (pc := 79) d8_readsNumber_79 rfl ?_
    refine sd_getI (pc := 80) (show sm_sq 52 = some (.inr 7) from rfl) rfl fl8_142 d8_readsNumber_80 (fun v2 => ?_)
    refine sd_iload_n (pc := 83) d8_readsNumber_83 rfl ?_
    refine sd_ic_gt (pc := 84) 91 d8_readsNumber_84 (by decide) (fun _ => ?_) (fun _ => ?_)
    · refine sd_iconst (pc := 91) 0 d8_readsNumber_91 ci_0 ?_
      exact sd_zret (pc := 92) d8_readsNumber_92 (by decide) (Nat.zero_le _) (Nat.zero_le _)
    · refine sd_iconst (pc := 87) 1 d8_readsNumber_87 ci_1 ?_
      refine sd_goto (pc := 88) 92 d8_readsNumber_88 (by decide) ?_
      exact sd_zret (pc := 92) d8_readsNumber_92 (by decide) (Nat.zero_le _) (Nat.zero_le _)
set_option maxHeartbeats 4000000 in
set_option maxRecDepth 20000 in
theorem s8_readsNumber_11 {N : Nat} (F : Nat) : ∀ (f : Nat) (l1 : Int32) (l2 : Int32) (l3 : Int32) (l4 : Int32) (S : sm_t), sm_S (sm_jI N) k8_readsNumber 0 0 11 [some (.ref 52), some (.int l1), some (.int l2), some (.int l3), some (.int l4)] [] (sm_m N S) (x8_readsNumber_11 F f l1 l2 l3 l4 S) := by
  intro f
  induction f with
  | zero =>
    intro l1 l2 l3 l4 S
    exact sd_none
  | succ f ih =>
    intro l1 l2 l3 l4 S
    rw [x8_readsNumber_11]
    refine sd_aload_n (pc := 11) d8_readsNumber_11 rfl ?_
    refine sd_getI (pc := 12) (show sm_sq 52 = some (.inr 7) from rfl) rfl fl8_136 d8_readsNumber_12 (fun v1 => ?_)
    refine sd_iload (pc := 15) d8_readsNumber_15 rfl ?_
    refine sd_isub (pc := 17) d8_readsNumber_17 ?_
    refine sd_iload_n (pc := 18) d8_readsNumber_18 rfl ?_
    refine sd_ic_ge (pc := 19) 70 d8_readsNumber_19 (by decide) (fun _ => ?_) (fun _ => ?_)
    · exact sd_fg [true, false, false, true, true] rfl (s8_readsNumber_70 F l3 l4 S)
    · refine sd_aload_n (pc := 22) d8_readsNumber_22 rfl ?_
      refine sd_iload_n (pc := 23) d8_readsNumber_23 rfl ?_
      refine sd_cVI (k2 := k8_here) (As := [.int l1]) (rest := []) (b := 52) (ci := 7) (pc := 24) 139 (show sm_sq 52 = some (.inr 7) from rfl) (by decide) rfl d8_readsNumber_24 ml8_139 (ms8_here).1 (ms8_here).2 (me8_here) ⟨rfl, rfl⟩ ⟨Nat.le_of_ble_eq_true rfl, Nat.le_of_ble_eq_true rfl⟩ (Nat.le_of_ble_eq_true rfl) (Nat.le_of_ble_eq_true rfl) (Or.inl rfl) (Nat.zero_le _) (Nat.zero_le _) rfl (s8_here F l1 S) (fun v2 S => ?_)
      refine sd_bipush (pc := 27) 48 d8_readsNumber_27 cb_48 ?_
      refine sd_bipush (pc := 29) 57 d8_readsNumber_29 cb_57 ?_
      refine sd_cSI (k2 := k8_in) (As := [.int v2, .int 48, .int 57]) (rest := []) (pc := 31) 80 d8_readsNumber_31 ml8_80 (ms8_in) (me8_in) ⟨rfl, rfl⟩ ⟨Nat.le_of_ble_eq_true rfl, Nat.le_of_ble_eq_true rfl⟩ (Nat.le_of_ble_eq_true rfl) (Nat.le_of_ble_eq_true rfl) (Or.inr rfl) (Nat.zero_le _) (Nat.zero_le _) rfl (s8_in F v2 48 57 S) (fun v3 S => ?_)
      refine sd_if_eq (pc := 34) 70 d8_readsNumber_34 (by decide) (fun _ => ?_) (fun _ => ?_)
      · exact sd_fg [true, false, false, true, true] rfl (s8_readsNumber_70 F l3 l4 S)
      · refine sd_aload_n (pc := 37) d8_readsNumber_37 rfl ?_
        refine sd_bipush (pc := 38) 10 d8_readsNumber_38 cb_10 ?_
        refine sd_aload_n (pc := 40) d8_readsNumber_40 rfl ?_
        refine sd_getI (pc := 41) (show sm_sq 52 = some (.inr 7) from rfl) rfl fl8_142 d8_readsNumber_41 (fun v4 => ?_)
        refine sd_imul (pc := 44) d8_readsNumber_44 ?_
        refine sd_aload_n (pc := 45) d8_readsNumber_45 rfl ?_
        refine sd_iload_n (pc := 46) d8_readsNumber_46 rfl ?_
        refine sd_cVI (k2 := k8_here) (As := [.int l1]) (rest := [.int (10 * v4), .ref 52]) (b := 52) (ci := 7) (pc := 47) 139 (show sm_sq 52 = some (.inr 7) from rfl) (by decide) rfl d8_readsNumber_47 ml8_139 (ms8_here).1 (ms8_here).2 (me8_here) ⟨rfl, rfl⟩ ⟨Nat.le_of_ble_eq_true rfl, Nat.le_of_ble_eq_true rfl⟩ (Nat.le_of_ble_eq_true rfl) (Nat.le_of_ble_eq_true rfl) (Or.inl rfl) (Nat.zero_le _) (Nat.zero_le _) rfl (s8_here F l1 S) (fun v5 S => ?_)
        refine sd_iadd (pc := 50) d8_readsNumber_50 ?_
        refine sd_bipush (pc := 51) 48 d8_readsNumber_51 cb_48 ?_
        refine sd_isub (pc := 53) d8_readsNumber_53 ?_
        refine sd_putI (pc := 54) (show sm_sq 52 = some (.inr 7) from rfl) rfl fl8_142 rfl d8_readsNumber_54 (fun S => ?_)
        refine sd_aload_n (pc := 57) d8_readsNumber_57 rfl ?_
        refine sd_dup (pc := 58) d8_readsNumber_58 rfl ?_
        refine sd_getI (pc := 59) (show sm_sq 52 = some (.inr 7) from rfl) rfl fl8_136 d8_readsNumber_59 (fun v6 => ?_)
        refine sd_iconst (pc := 62) 1 d8_readsNumber_62 ci_1 ?_
        refine sd_iadd (pc := 63) d8_readsNumber_63 ?_
        refine sd_putI (pc := 64) (show sm_sq 52 = some (.inr 7) from rfl) rfl fl8_136 rfl d8_readsNumber_64 (fun S => ?_)
        refine sd_goto (pc := 67) 11 d8_readsNumber_67 (by decide) ?_
        exact ih l1 l2 l3 l4 S
set_option maxHeartbeats 4000000 in
set_option maxRecDepth 20000 in
theorem s8_readsNumber {N : Nat} (F : Nat) (l1 : Int32) (l2 : Int32) (l3 : Int32) (S : sm_t) : sm_P (sm_jI N) k8_readsNumber [.ref 52, .int l1, .int l2, .int l3] (sm_m N S) (x8_readsNumber F l1 l2 l3 S) := by
  show sm_S (sm_jI N) k8_readsNumber 0 0 0 [some (.ref 52), some (.int l1), some (.int l2), some (.int l3), none] [] (sm_m N S) (x8_readsNumber F l1 l2 l3 S)
  unfold x8_readsNumber
  refine sd_aload_n (pc := 0) d8_readsNumber_0 rfl ?_
  refine sd_getI (pc := 1) (show sm_sq 52 = some (.inr 7) from rfl) rfl fl8_136 d8_readsNumber_1 (fun v1 => ?_)
  refine sd_istore (lf2 := [some (.ref 52), some (.int l1), some (.int l2), some (.int l3), some (.int v1)]) (pc := 4) d8_readsNumber_4 (Nat.le_of_ble_eq_true rfl) rfl ?_
  refine sd_aload_n (pc := 6) d8_readsNumber_6 rfl ?_
  refine sd_iconst (pc := 7) 0 d8_readsNumber_7 ci_0 ?_
  refine sd_putI (pc := 8) (show sm_sq 52 = some (.inr 7) from rfl) rfl fl8_142 rfl d8_readsNumber_8 (fun S => ?_)
  exact s8_readsNumber_11 F F l1 l2 l3 v1 S
set_option maxHeartbeats 4000000 in
set_option maxRecDepth 20000 in
theorem s8_abs {N : Nat} (F : Nat) (l0 : Int32) (S : sm_t) : sm_P (sm_jI N) k8_abs [.int l0] (sm_m N S) (x8_abs F l0 S) := by
  show sm_S (sm_jI N) k8_abs 0 0 0 [some (.int l0)] [] (sm_m N S) (x8_abs F l0 S)
  unfold x8_abs
  refine sd_iload_n (pc := 0) d8_abs_0 rfl ?_
  refine sd_if_ge (pc := 1) 9 d8_abs_1 (by decide) (fun _ => ?_) (fun _ => ?_)
  · refine sd_iload_n (pc := 9) d8_abs_9 rfl ?_
    exact sd_iret (pc := 10) d8_abs_10 rfl (Nat.zero_le _) (Nat.zero_le _)
  · refine sd_iload_n (pc := 4) d8_abs_4 rfl ?_
    refine sd_ineg (pc := 5) d8_abs_5 ?_
    refine sd_goto (pc := 6) 10 d8_abs_6 (by decide) ?_
    exact sd_iret (pc := 10) d8_abs_10 rfl (Nat.zero_le _) (Nat.zero_le _)
set_option maxHeartbeats 4000000 in
set_option maxRecDepth 20000 in
theorem s8_farOf {N : Nat} (F : Nat) (l0 : Int32) (l1 : Int32) (S : sm_t) : sm_P (sm_jI N) k8_farOf [.int l0, .int l1] (sm_m N S) (x8_farOf F l0 l1 S) := by
  show sm_S (sm_jI N) k8_farOf 0 0 0 [some (.int l0), some (.int l1), none, none] [] (sm_m N S) (x8_farOf F l0 l1 S)
  unfold x8_farOf
  refine sd_iload_n (pc := 0) d8_farOf_0 rfl ?_
  refine sd_bipush (pc := 1) 12 d8_farOf_1 cb_12 ?_
  refine sd_irem (pc := 3) d8_farOf_3 (by decide) ?_
  refine sd_iload_n (pc := 4) d8_farOf_4 rfl ?_
  refine sd_bipush (pc := 5) 12 d8_farOf_5 cb_12 ?_
  refine sd_irem (pc := 7) d8_farOf_7 (by decide) ?_
  refine sd_isub (pc := 8) d8_farOf_8 ?_
  refine sd_cSI (k2 := k8_abs) (As := [.int ((sm_ir l0 12) - (sm_ir l1 12))]) (rest := []) (pc := 9) 111 d8_farOf_9 ml8_111 (ms8_abs) (me8_abs) ⟨rfl, rfl⟩ ⟨Nat.le_of_ble_eq_true rfl, Nat.le_of_ble_eq_true rfl⟩ (Nat.le_of_ble_eq_true rfl) (Nat.le_of_ble_eq_true rfl) (Or.inl rfl) (Nat.zero_le _) (Nat.zero_le _) rfl (s8_abs F ((sm_ir l0 12) - (sm_ir l1 12)) S) (fun v1 S => ?_)
  refine sd_istore_n (lf2 := [some (.int l0), some (.int l1), some (.int v1), none]) (pc := 12) d8_farOf_12 (Nat.le_of_ble_eq_true rfl) rfl ?_
  refine sd_iload_n (pc := 13) d8_farOf_13 rfl ?_
  refine sd_bipush (pc := 14) 12 d8_farOf_14 cb_12 ?_
  refine sd_idiv (pc := 16) d8_farOf_16 (by decide) ?_
  refine sd_iload_n (pc := 17) d8_farOf_17 rfl ?_
  refine sd_bipush (pc := 18) 12 d8_farOf_18 cb_12 ?_
  refine sd_idiv (pc := 20) d8_farOf_20 (by decide) ?_
  refine sd_isub (pc := 21) d8_farOf_21 ?_
  refine sd_cSI (k2 := k8_abs) (As := [.int ((l0 / 12) - (l1 / 12))]) (rest := []) (pc := 22) 111 d8_farOf_22 ml8_111 (ms8_abs) (me8_abs) ⟨rfl, rfl⟩ ⟨Nat.le_of_ble_eq_true rfl, Nat.le_of_ble_eq_true rfl⟩ (Nat.le_of_ble_eq_true rfl) (Nat.le_of_ble_eq_true rfl) (Or.inl rfl) (Nat.zero_le _) (Nat.zero_le _) rfl (s8_abs F ((l0 / 12) - (l1 / 12)) S) (fun v2 S => ?_)
  refine sd_istore_n (lf2 := [some (.int l0), some (.int l1), some (.int v1), some (.int v2)]) (pc := 25) d8_farOf_25 (Nat.le_of_ble_eq_true rfl) rfl ?_
  refine sd_iload_n (pc := 26) d8_farOf_26 rfl ?_
  refine sd_iload_n (pc := 27) d8_farOf_27 rfl ?_
  refine sd_ic_le (pc := 28) 35 d8_farOf_28 (by decide) (fun _ => ?_) (fun _ => ?_)
  · refine sd_iload_n (pc := 35) d8_farOf_35 rfl ?_
    exact sd_iret (pc := 36) d8_farOf_36 rfl (Nat.zero_le _) (Nat.zero_le _)
  · refine sd_iload_n (pc := 31) d8_farOf_31 rfl ?_
    refine sd_goto (pc := 32) 36 d8_farOf_32 (by decide) ?_
    exact sd_iret (pc := 36) d8_farOf_36 rfl (Nat.zero_le _) (Nat.zero_le _)
set_option maxHeartbeats 4000000 in
set_option maxRecDepth 20000 in
theorem s8_nextOf_71 {N : Nat} (F : Nat) (l2 : Int32) (t0 : Int32) (t1 : Int32) (S : sm_t) : sm_S (sm_jI N) k8_nextOf 0 0 71 [none, none, some (.int l2), none] [.int t1, .int t0] (sm_m N S) (x8_nextOf_71 F l2 t0 t1 S) := by
  unfold x8_nextOf_71
  refine sd_iadd (pc := 71) d8_nextOf_71 ?_
  refine sd_ni (fun v1 => ?_)
  refine sd_istore_n (lf2 := [none, none, some (.int l2), some (.int v1)]) (pc := 72) d8_nextOf_72 (Nat.le_of_ble_eq_true rfl) rfl ?_
  refine sd_iload_n (pc := 73) d8_nextOf_73 rfl ?_
  refine sd_iconst (pc := 74) 0 d8_nextOf_74 ci_0 ?_
  refine sd_bipush (pc := 75) 11 d8_nextOf_75 cb_11 ?_
  refine sd_cSI (k2 := k8_in) (As := [.int l2, .int 0, .int 11]) (rest := []) (pc := 77) 80 d8_nextOf_77 ml8_80 (ms8_in) (me8_in) ⟨rfl, rfl⟩ ⟨Nat.le_of_ble_eq_true rfl, Nat.le_of_ble_eq_true rfl⟩ (Nat.le_of_ble_eq_true rfl) (Nat.le_of_ble_eq_true rfl) (Or.inr rfl) (Nat.zero_le _) (Nat.zero_le _) rfl (s8_in F l2 0 11 S) (fun v2 S => ?_)
  refine sd_if_eq (pc := 80) 102 d8_nextOf_80 (by decide) (fun _ => ?_) (fun _ => ?_)
  · refine sd_bipush (pc := 102) (-9) d8_nextOf_102 cb_m9 ?_
    exact sd_iret (pc := 104) d8_nextOf_104 rfl (Nat.zero_le _) (Nat.zero_le _)
  · refine sd_iload_n (pc := 83) d8_nextOf_83 rfl ?_
    refine sd_iconst (pc := 84) 0 d8_nextOf_84 ci_0 ?_
    refine sd_bipush (pc := 85) 9 d8_nextOf_85 cb_9 ?_
    refine sd_cSI (k2 := k8_in) (As := [.int v1, .int 0, .int 9]) (rest := []) (pc := 87) 80 d8_nextOf_87 ml8_80 (ms8_in) (me8_in) ⟨rfl, rfl⟩ ⟨Nat.le_of_ble_eq_true rfl, Nat.le_of_ble_eq_true rfl⟩ (Nat.le_of_ble_eq_true rfl) (Nat.le_of_ble_eq_true rfl) (Or.inr rfl) (Nat.zero_le _) (Nat.zero_le _) rfl (s8_in F v1 0 9 S) (fun v3 S => ?_)
    refine sd_if_eq (pc := 90) 102 d8_nextOf_90 (by decide) (fun _ => ?_) (fun _ => ?_)
    · refine sd_bipush (pc := 102) (-9) d8_nextOf_102 cb_m9 ?_
      exact sd_iret (pc := 104) d8_nextOf_104 rfl (Nat.zero_le _) (Nat.zero_le _)
    · refine sd_bipush (pc := 93) 12 d8_nextOf_93 cb_12 ?_
      refine sd_iload_n (pc := 95) d8_nextOf_95 rfl ?_
      refine sd_imul (pc := 96) d8_nextOf_96 ?_
      refine sd_iload_n (pc := 97) d8_nextOf_97 rfl ?_
      refine sd_iadd (pc := 98) d8_nextOf_98 ?_
      refine sd_goto (pc := 99) 104 d8_nextOf_99 (by decide) ?_
      exact sd_iret (pc := 104) d8_nextOf_104 rfl (Nat.zero_le _) (Nat.zero_le _)
set_option maxHeartbeats 4000000 in
set_option maxRecDepth 20000 in
theorem s8_nextOf_66 {N : Nat} (F : Nat) (l2 : Int32) (t0 : Int32) (S : sm_t) : sm_S (sm_jI N) k8_nextOf 0 0 66 [none, none, some (.int l2), none] [.int t0] (sm_m N S) (x8_nextOf_66 F l2 t0 S) := by
  unfold x8_nextOf_66
  refine sd_iconst (pc := 66) (-1) d8_nextOf_66 ci_m1 ?_
  refine sd_goto (pc := 67) 71 d8_nextOf_67 (by decide) ?_
  exact s8_nextOf_71 F l2 t0 (-1) S
set_option maxHeartbeats 4000000 in
set_option maxRecDepth 20000 in
theorem s8_nextOf_32 {N : Nat} (F : Nat) (l0 : Int32) (l1 : Int32) (t0 : Int32) (t1 : Int32) (S : sm_t) : sm_S (sm_jI N) k8_nextOf 0 0 32 [some (.int l0), some (.int l1), none, none] [.int t1, .int t0] (sm_m N S) (x8_nextOf_32 F l0 l1 t0 t1 S) := by
  unfold x8_nextOf_32
  refine sd_iadd (pc := 32) d8_nextOf_32 ?_
  refine sd_ni (fun v1 => ?_)
  refine sd_istore_n (lf2 := [some (.int l0), some (.int l1), some (.int v1), none]) (pc := 33) d8_nextOf_33 (Nat.le_of_ble_eq_true rfl) rfl ?_
  refine sd_iload_n (pc := 34) d8_nextOf_34 rfl ?_
  refine sd_bipush (pc := 35) 12 d8_nextOf_35 cb_12 ?_
  refine sd_idiv (pc := 37) d8_nextOf_37 (by decide) ?_
  refine sd_iload_n (pc := 38) d8_nextOf_38 rfl ?_
  refine sd_iconst (pc := 39) 3 d8_nextOf_39 ci_3 ?_
  refine sd_iconst (pc := 40) 5 d8_nextOf_40 ci_5 ?_
  refine sd_cSI (k2 := k8_in) (As := [.int l1, .int 3, .int 5]) (rest := [.int (l0 / 12)]) (pc := 41) 80 d8_nextOf_41 ml8_80 (ms8_in) (me8_in) ⟨rfl, rfl⟩ ⟨Nat.le_of_ble_eq_true rfl, Nat.le_of_ble_eq_true rfl⟩ (Nat.le_of_ble_eq_true rfl) (Nat.le_of_ble_eq_true rfl) (Or.inr rfl) (Nat.zero_le _) (Nat.zero_le _) rfl (s8_in F l1 3 5 S) (fun v2 S => ?_)
  refine sd_if_eq (pc := 44) 51 d8_nextOf_44 (by decide) (fun _ => ?_) (fun _ => ?_)
  · refine sd_iload_n (pc := 51) d8_nextOf_51 rfl ?_
    refine sd_if_eq (pc := 52) 66 d8_nextOf_52 (by decide) (fun _ => ?_) (fun _ => ?_)
    · exact sd_fg [false, false, true, true] rfl (s8_nextOf_66 F v1 (l0 / 12) S)
    · refine sd_iload_n (pc := 55) d8_nextOf_55 rfl ?_
      refine sd_iconst (pc := 56) 1 d8_nextOf_56 ci_1 ?_
      refine sd_ic_eq (pc := 57) 66 d8_nextOf_57 (by decide) (fun _ => ?_) (fun _ => ?_)
      · exact sd_fg [false, false, true, true] rfl (s8_nextOf_66 F v1 (l0 / 12) S)
      · refine sd_iload_n (pc := 60) d8_nextOf_60 rfl ?_
        refine sd_bipush (pc := 61) 7 d8_nextOf_61 cb_7 ?_
        refine sd_ic_ne (pc := 63) 70 d8_nextOf_63 (by decide) (fun _ => ?_) (fun _ => ?_)
        · exact sd_fg [false, false, true, true] rfl (s8_nextOf_66 F v1 (l0 / 12) S)
        · refine sd_iconst (pc := 70) 0 d8_nextOf_70 ci_0 ?_
          exact sd_fg [false, false, true, true] rfl (s8_nextOf_71 F v1 (l0 / 12) 0 S)
  · refine sd_iconst (pc := 47) 1 d8_nextOf_47 ci_1 ?_
    refine sd_goto (pc := 48) 71 d8_nextOf_48 (by decide) ?_
    exact sd_fg [false, false, true, true] rfl (s8_nextOf_71 F v1 (l0 / 12) 1 S)
set_option maxHeartbeats 4000000 in
set_option maxRecDepth 20000 in
theorem s8_nextOf {N : Nat} (F : Nat) (l0 : Int32) (l1 : Int32) (S : sm_t) : sm_P (sm_jI N) k8_nextOf [.int l0, .int l1] (sm_m N S) (x8_nextOf F l0 l1 S) := by
  show sm_S (sm_jI N) k8_nextOf 0 0 0 [some (.int l0), some (.int l1), none, none] [] (sm_m N S) (x8_nextOf F l0 l1 S)
  unfold x8_nextOf
  refine sd_iload_n (pc := 0) d8_nextOf_0 rfl ?_
  refine sd_bipush (pc := 1) 12 d8_nextOf_1 cb_12 ?_
  refine sd_irem (pc := 3) d8_nextOf_3 (by decide) ?_
  refine sd_iload_n (pc := 4) d8_nextOf_4 rfl ?_
  refine sd_iconst (pc := 5) 1 d8_nextOf_5 ci_1 ?_
  refine sd_iconst (pc := 6) 3 d8_nextOf_6 ci_3 ?_
  refine sd_cSI (k2 := k8_in) (As := [.int l1, .int 1, .int 3]) (rest := [.int (sm_ir l0 12)]) (pc := 7) 80 d8_nextOf_7 ml8_80 (ms8_in) (me8_in) ⟨rfl, rfl⟩ ⟨Nat.le_of_ble_eq_true rfl, Nat.le_of_ble_eq_true rfl⟩ (Nat.le_of_ble_eq_true rfl) (Nat.le_of_ble_eq_true rfl) (Or.inr rfl) (Nat.zero_le _) (Nat.zero_le _) rfl (s8_in F l1 1 3 S) (fun v1 S => ?_)
  refine sd_if_eq (pc := 10) 17 d8_nextOf_10 (by decide) (fun _ => ?_) (fun _ => ?_)
  · refine sd_iload_n (pc := 17) d8_nextOf_17 rfl ?_
    refine sd_iconst (pc := 18) 5 d8_nextOf_18 ci_5 ?_
    refine sd_bipush (pc := 19) 7 d8_nextOf_19 cb_7 ?_
    refine sd_cSI (k2 := k8_in) (As := [.int l1, .int 5, .int 7]) (rest := [.int (sm_ir l0 12)]) (pc := 21) 80 d8_nextOf_21 ml8_80 (ms8_in) (me8_in) ⟨rfl, rfl⟩ ⟨Nat.le_of_ble_eq_true rfl, Nat.le_of_ble_eq_true rfl⟩ (Nat.le_of_ble_eq_true rfl) (Nat.le_of_ble_eq_true rfl) (Or.inr rfl) (Nat.zero_le _) (Nat.zero_le _) rfl (s8_in F l1 5 7 S) (fun v2 S => ?_)
    refine sd_if_eq (pc := 24) 31 d8_nextOf_24 (by decide) (fun _ => ?_) (fun _ => ?_)
    · refine sd_iconst (pc := 31) 0 d8_nextOf_31 ci_0 ?_
      exact s8_nextOf_32 F l0 l1 (sm_ir l0 12) 0 S
    · refine sd_iconst (pc := 27) (-1) d8_nextOf_27 ci_m1 ?_
      refine sd_goto (pc := 28) 32 d8_nextOf_28 (by decide) ?_
      exact s8_nextOf_32 F l0 l1 (sm_ir l0 12) (-1) S
  · refine sd_iconst (pc := 13) 1 d8_nextOf_13 ci_1 ?_
    refine sd_goto (pc := 14) 32 d8_nextOf_14 (by decide) ?_
    exact s8_nextOf_32 F l0 l1 (sm_ir l0 12) 1 S
set_option maxHeartbeats 4000000 in
set_option maxRecDepth 20000 in
theorem s8_readsItem_215 {N : Nat} (F : Nat) : ∀ (f : Nat) (l2 : Int32) (l3 : Int32) (l4 : Int32) (S : sm_t), sm_S (sm_jI N) k8_readsItem 0 0 215 [some (.ref 52), none, some (.int l2), some (.int l3), some (.int l4), none] [] (sm_m N S) (x8_readsItem_215 F f l2 l3 l4 S) := by
  intro f
  induction f with
  | zero =>
    intro l2 l3 l4 S
    exact sd_none
  | succ f ih =>
    intro l2 l3 l4 S
    rw [x8_readsItem_215]
    refine sd_iload_n (pc := 215) d8_readsItem_215 rfl ?_
    refine sd_bipush (pc := 216) 108 d8_readsItem_216 cb_108 ?_
    refine sd_ic_ne (pc := 218) 245 d8_readsItem_218 (by decide) (fun _ => ?_) (fun _ => ?_)
    · refine sd_iload_n (pc := 221) d8_readsItem_221 rfl ?_
      refine sd_if_lt (pc := 222) 245 d8_readsItem_222 (by decide) (fun _ => ?_) (fun _ => ?_)
      · refine sd_iconst (pc := 245) 1 d8_readsItem_245 ci_1 ?_
        exact sd_zret (pc := 246) d8_readsItem_246 (by decide) (Nat.zero_le _) (Nat.zero_le _)
      · refine sd_aload_n (pc := 225) d8_readsItem_225 rfl ?_
        refine sd_getR (pc := 226) 62 (show sm_sq 52 = some (.inr 7) from rfl) rfl fl8_42 rfl d8_readsItem_226 ?_
        refine sd_iload_n (pc := 229) d8_readsItem_229 rfl ?_
        refine sd_aload_n (pc := 230) d8_readsItem_230 rfl ?_
        refine sd_getI (pc := 231) (show sm_sq 52 = some (.inr 7) from rfl) rfl fl8_142 d8_readsItem_231 (fun v1 => ?_)
        refine sd_iast (pc := 234) (show sm_sq 62 = some (.inl (.int, 120)) from rfl) d8_readsItem_234 (fun S => ?_)
        refine sd_iload_n (pc := 235) d8_readsItem_235 rfl ?_
        refine sd_iload (pc := 236) d8_readsItem_236 rfl ?_
        refine sd_cSI (k2 := k8_nextOf) (As := [.int l3, .int l4]) (rest := []) (pc := 238) 114 d8_readsItem_238 ml8_114 (ms8_nextOf) (me8_nextOf) ⟨rfl, rfl⟩ ⟨Nat.le_of_ble_eq_true rfl, Nat.le_of_ble_eq_true rfl⟩ (Nat.le_of_ble_eq_true rfl) (Nat.le_of_ble_eq_true rfl) (Or.inl rfl) (Nat.zero_le _) (Nat.zero_le _) rfl (s8_nextOf F l3 l4 S) (fun v2 S => ?_)
        refine sd_istore_n (lf2 := [some (.ref 52), none, some (.int l2), some (.int v2), some (.int l4), none]) (pc := 241) d8_readsItem_241 (Nat.le_of_ble_eq_true rfl) rfl ?_
        refine sd_goto (pc := 242) 215 d8_readsItem_242 (by decide) ?_
        exact ih l2 v2 l4 S
    · refine sd_iconst (pc := 245) 1 d8_readsItem_245 ci_1 ?_
      exact sd_zret (pc := 246) d8_readsItem_246 (by decide) (Nat.zero_le _) (Nat.zero_le _)
set_option maxHeartbeats 4000000 in
set_option maxRecDepth 20000 in
theorem s8_readsItem_158 {N : Nat} (F : Nat) : ∀ (f : Nat) (l2 : Int32) (l3 : Int32) (l4 : Int32) (l5 : Int32) (S : sm_t), sm_S (sm_jI N) k8_readsItem 0 0 158 [some (.ref 52), none, some (.int l2), some (.int l3), some (.int l4), some (.int l5)] [] (sm_m N S) (x8_readsItem_158 F f l2 l3 l4 l5 S) := by
  intro f
  induction f with
  | zero =>
    intro l2 l3 l4 l5 S
    exact sd_none
  | succ f ih =>
    intro l2 l3 l4 l5 S
    rw [x8_readsItem_158]
    refine sd_iload (pc := 158) d8_readsItem_158 rfl ?_
    refine sd_bipush (pc := 160) 120 d8_readsItem_160 cb_120 ?_
    refine sd_ic_ge (pc := 162) 215 d8_readsItem_162 (by decide) (fun _ => ?_) (fun _ => ?_)
    · exact sd_fg [true, true, true, true, true, false] rfl (s8_readsItem_215 F F l2 l3 l4 S)
    · refine sd_aload_n (pc := 165) d8_readsItem_165 rfl ?_
      refine sd_getR (pc := 166) 62 (show sm_sq 52 = some (.inr 7) from rfl) rfl fl8_42 rfl d8_readsItem_166 ?_
      refine sd_iload (pc := 169) d8_readsItem_169 rfl ?_
      refine sd_iload_n (pc := 171) d8_readsItem_171 rfl ?_
      refine sd_bipush (pc := 172) 97 d8_readsItem_172 cb_97 ?_
      refine sd_ic_eq (pc := 174) 194 d8_readsItem_174 (by decide) (fun _ => ?_) (fun _ => ?_)
      · refine sd_aload_n (pc := 194) d8_readsItem_194 rfl ?_
        refine sd_getI (pc := 195) (show sm_sq 52 = some (.inr 7) from rfl) rfl fl8_142 d8_readsItem_195 (fun v1 => ?_)
        refine sd_goto (pc := 198) 208 d8_readsItem_198 (by decide) ?_
        refine sd_iast (pc := 208) (show sm_sq 62 = some (.inl (.int, 120)) from rfl) d8_readsItem_208 (fun S => ?_)
        refine sd_iinc (lf2 := [some (.ref 52), none, some (.int l2), some (.int l3), some (.int l4), some (.int (l5 + 1))]) (pc := 209) d8_readsItem_209 (Nat.le_of_ble_eq_true rfl) rfl ci_1 rfl ?_
        refine sd_goto (pc := 212) 158 d8_readsItem_212 (by decide) ?_
        exact ih l2 l3 l4 (l5 + 1) S
      · refine sd_iload_n (pc := 177) d8_readsItem_177 rfl ?_
        refine sd_bipush (pc := 178) 114 d8_readsItem_178 cb_114 ?_
        refine sd_ic_ne (pc := 180) 201 d8_readsItem_180 (by decide) (fun _ => ?_) (fun _ => ?_)
        · refine sd_iload_n (pc := 183) d8_readsItem_183 rfl ?_
          refine sd_iload (pc := 184) d8_readsItem_184 rfl ?_
          refine sd_cSI (k2 := k8_farOf) (As := [.int l3, .int l5]) (rest := [.int l5, .ref 62]) (pc := 186) 123 d8_readsItem_186 ml8_123 (ms8_farOf) (me8_farOf) ⟨rfl, rfl⟩ ⟨Nat.le_of_ble_eq_true rfl, Nat.le_of_ble_eq_true rfl⟩ (Nat.le_of_ble_eq_true rfl) (Nat.le_of_ble_eq_true rfl) (Or.inl rfl) (Nat.zero_le _) (Nat.zero_le _) rfl (s8_farOf F l3 l5 S) (fun v2 S => ?_)
          refine sd_iload (pc := 189) d8_readsItem_189 rfl ?_
          refine sd_ic_gt (pc := 191) 201 d8_readsItem_191 (by decide) (fun _ => ?_) (fun _ => ?_)
          · refine sd_aload_n (pc := 201) d8_readsItem_201 rfl ?_
            refine sd_getR (pc := 202) 62 (show sm_sq 52 = some (.inr 7) from rfl) rfl fl8_42 rfl d8_readsItem_202 ?_
            refine sd_iload (pc := 205) d8_readsItem_205 rfl ?_
            refine sd_iald (pc := 207) (show sm_sq 62 = some (.inl (.int, 120)) from rfl) d8_readsItem_207 (fun v3 => ?_)
            refine sd_iast (pc := 208) (show sm_sq 62 = some (.inl (.int, 120)) from rfl) d8_readsItem_208 (fun S => ?_)
            refine sd_iinc (lf2 := [some (.ref 52), none, some (.int l2), some (.int l3), some (.int l4), some (.int (l5 + 1))]) (pc := 209) d8_readsItem_209 (Nat.le_of_ble_eq_true rfl) rfl ci_1 rfl ?_
            refine sd_goto (pc := 212) 158 d8_readsItem_212 (by decide) ?_
            exact ih l2 l3 l4 (l5 + 1) S
          · refine sd_aload_n (pc := 194) d8_readsItem_194 rfl ?_
            refine sd_getI (pc := 195) (show sm_sq 52 = some (.inr 7) from rfl) rfl fl8_142 d8_readsItem_195 (fun v4 => ?_)
            refine sd_goto (pc := 198) 208 d8_readsItem_198 (by decide) ?_
            refine sd_iast (pc := 208) (show sm_sq 62 = some (.inl (.int, 120)) from rfl) d8_readsItem_208 (fun S => ?_)
            refine sd_iinc (lf2 := [some (.ref 52), none, some (.int l2), some (.int l3), some (.int l4), some (.int (l5 + 1))]) (pc := 209) d8_readsItem_209 (Nat.le_of_ble_eq_true rfl) rfl ci_1 rfl ?_
            refine sd_goto (pc := 212) 158 d8_readsItem_212 (by decide) ?_
            exact ih l2 l3 l4 (l5 + 1) S
        · refine sd_aload_n (pc := 201) d8_readsItem_201 rfl ?_
          refine sd_getR (pc := 202) 62 (show sm_sq 52 = some (.inr 7) from rfl) rfl fl8_42 rfl d8_readsItem_202 ?_
          refine sd_iload (pc := 205) d8_readsItem_205 rfl ?_
          refine sd_iald (pc := 207) (show sm_sq 62 = some (.inl (.int, 120)) from rfl) d8_readsItem_207 (fun v5 => ?_)
          refine sd_iast (pc := 208) (show sm_sq 62 = some (.inl (.int, 120)) from rfl) d8_readsItem_208 (fun S => ?_)
          refine sd_iinc (lf2 := [some (.ref 52), none, some (.int l2), some (.int l3), some (.int l4), some (.int (l5 + 1))]) (pc := 209) d8_readsItem_209 (Nat.le_of_ble_eq_true rfl) rfl ci_1 rfl ?_
          refine sd_goto (pc := 212) 158 d8_readsItem_212 (by decide) ?_
          exact ih l2 l3 l4 (l5 + 1) S
set_option maxHeartbeats 4000000 in
set_option maxRecDepth 20000 in
theorem s8_readsItem_132 {N : Nat} (F : Nat) (l1 : Int32) (l2 : Int32) (l3 : Int32) (l4 : Int32) (S : sm_t) : sm_S (sm_jI N) k8_readsItem 0 0 132 [some (.ref 52), some (.int l1), some (.int l2), some (.int l3), some (.int l4), none] [] (sm_m N S) (x8_readsItem_132 F l1 l2 l3 l4 S) := by
  unfold x8_readsItem_132
  refine sd_aload_n (pc := 132) d8_readsItem_132 rfl ?_
  refine sd_iload_n (pc := 133) d8_readsItem_133 rfl ?_
  refine sd_bipush (pc := 134) 61 d8_readsItem_134 cb_61 ?_
  refine sd_cVI (k2 := k8_reads) (As := [.int l1, .int 61]) (rest := []) (b := 52) (ci := 7) (pc := 136) 145 (show sm_sq 52 = some (.inr 7) from rfl) (by decide) rfl d8_readsItem_136 ml8_145 (ms8_reads).1 (ms8_reads).2 (me8_reads) ⟨rfl, rfl⟩ ⟨Nat.le_of_ble_eq_true rfl, Nat.le_of_ble_eq_true rfl⟩ (Nat.le_of_ble_eq_true rfl) (Nat.le_of_ble_eq_true rfl) (Or.inr rfl) (Nat.zero_le _) (Nat.zero_le _) rfl (s8_reads F l1 61 S) (fun v1 S => ?_)
  refine sd_if_eq (pc := 139) 153 d8_readsItem_139 (by decide) (fun _ => ?_) (fun _ => ?_)
  · refine sd_iconst (pc := 153) 0 d8_readsItem_153 ci_0 ?_
    exact sd_zret (pc := 154) d8_readsItem_154 (by decide) (Nat.zero_le _) (Nat.zero_le _)
  · refine sd_aload_n (pc := 142) d8_readsItem_142 rfl ?_
    refine sd_iload_n (pc := 143) d8_readsItem_143 rfl ?_
    refine sd_iconst (pc := 144) 2 d8_readsItem_144 ci_2 ?_
    refine sd_bipush (pc := 145) 99 d8_readsItem_145 cb_99 ?_
    refine sd_cVI (k2 := k8_readsNumber) (As := [.int l1, .int 2, .int 99]) (rest := []) (b := 52) (ci := 7) (pc := 147) 149 (show sm_sq 52 = some (.inr 7) from rfl) (by decide) rfl d8_readsItem_147 ml8_149 (ms8_readsNumber).1 (ms8_readsNumber).2 (me8_readsNumber) ⟨rfl, rfl⟩ ⟨Nat.le_of_ble_eq_true rfl, Nat.le_of_ble_eq_true rfl⟩ (Nat.le_of_ble_eq_true rfl) (Nat.le_of_ble_eq_true rfl) (Or.inr rfl) (Nat.zero_le _) (Nat.zero_le _) rfl (s8_readsNumber F l1 2 99 S) (fun v2 S => ?_)
    refine sd_if_ne (pc := 150) 155 d8_readsItem_150 (by decide) (fun _ => ?_) (fun _ => ?_)
    · refine sd_iconst (pc := 153) 0 d8_readsItem_153 ci_0 ?_
      exact sd_zret (pc := 154) d8_readsItem_154 (by decide) (Nat.zero_le _) (Nat.zero_le _)
    · refine sd_iconst (pc := 155) 0 d8_readsItem_155 ci_0 ?_
      refine sd_istore (lf2 := [some (.ref 52), some (.int l1), some (.int l2), some (.int l3), some (.int l4), some (.int 0)]) (pc := 156) d8_readsItem_156 (Nat.le_of_ble_eq_true rfl) rfl ?_
      exact sd_fg [true, false, true, true, true, true] rfl (s8_readsItem_158 F F l2 l3 l4 0 S)
set_option maxHeartbeats 4000000 in
set_option maxRecDepth 20000 in
theorem s8_readsItem_93 {N : Nat} (F : Nat) (l1 : Int32) (l2 : Int32) (l3 : Int32) (t1 : Int32) (t2 : Int32) (t3 : Int32) (S : sm_t) : sm_S (sm_jI N) k8_readsItem 0 0 93 [some (.ref 52), some (.int l1), some (.int l2), some (.int l3), none, none] [.int t3, .int t2, .int t1, .ref 52] (sm_m N S) (x8_readsItem_93 F l1 l2 l3 t1 t2 t3 S) := by
  unfold x8_readsItem_93
  refine sd_cVI (k2 := k8_readsNumber) (As := [.int t1, .int t2, .int t3]) (rest := []) (b := 52) (ci := 7) (pc := 93) 149 (show sm_sq 52 = some (.inr 7) from rfl) (by decide) rfl d8_readsItem_93 ml8_149 (ms8_readsNumber).1 (ms8_readsNumber).2 (me8_readsNumber) ⟨rfl, rfl⟩ ⟨Nat.le_of_ble_eq_true rfl, Nat.le_of_ble_eq_true rfl⟩ (Nat.le_of_ble_eq_true rfl) (Nat.le_of_ble_eq_true rfl) (Or.inr rfl) (Nat.zero_le _) (Nat.zero_le _) rfl (s8_readsNumber F t1 t2 t3 S) (fun v1 S => ?_)
  refine sd_if_ne (pc := 96) 101 d8_readsItem_96 (by decide) (fun _ => ?_) (fun _ => ?_)
  · refine sd_iconst (pc := 99) 0 d8_readsItem_99 ci_0 ?_
    exact sd_zret (pc := 100) d8_readsItem_100 (by decide) (Nat.zero_le _) (Nat.zero_le _)
  · refine sd_aload_n (pc := 101) d8_readsItem_101 rfl ?_
    refine sd_getI (pc := 102) (show sm_sq 52 = some (.inr 7) from rfl) rfl fl8_142 d8_readsItem_102 (fun v2 => ?_)
    refine sd_istore (lf2 := [some (.ref 52), some (.int l1), some (.int l2), some (.int l3), some (.int v2), none]) (pc := 105) d8_readsItem_105 (Nat.le_of_ble_eq_true rfl) rfl ?_
    refine sd_iload_n (pc := 107) d8_readsItem_107 rfl ?_
    refine sd_bipush (pc := 108) 108 d8_readsItem_108 cb_108 ?_
    refine sd_ic_ne (pc := 110) 132 d8_readsItem_110 (by decide) (fun _ => ?_) (fun _ => ?_)
    · refine sd_iload (pc := 113) d8_readsItem_113 rfl ?_
      refine sd_bipush (pc := 115) 7 d8_readsItem_115 cb_7 ?_
      refine sd_ic_le (pc := 117) 132 d8_readsItem_117 (by decide) (fun _ => ?_) (fun _ => ?_)
      · exact s8_readsItem_132 F l1 l2 l3 v2 S
      · refine sd_aload_n (pc := 120) d8_readsItem_120 rfl ?_
        refine sd_dup (pc := 121) d8_readsItem_121 rfl ?_
        refine sd_getI (pc := 122) (show sm_sq 52 = some (.inr 7) from rfl) rfl fl8_136 d8_readsItem_122 (fun v3 => ?_)
        refine sd_iconst (pc := 125) 1 d8_readsItem_125 ci_1 ?_
        refine sd_isub (pc := 126) d8_readsItem_126 ?_
        refine sd_putI (pc := 127) (show sm_sq 52 = some (.inr 7) from rfl) rfl fl8_136 rfl d8_readsItem_127 (fun S => ?_)
        refine sd_iconst (pc := 130) 0 d8_readsItem_130 ci_0 ?_
        exact sd_zret (pc := 131) d8_readsItem_131 (by decide) (Nat.zero_le _) (Nat.zero_le _)
    · exact s8_readsItem_132 F l1 l2 l3 v2 S
set_option maxHeartbeats 4000000 in
set_option maxRecDepth 20000 in
theorem s8_readsItem_38 {N : Nat} (F : Nat) (l1 : Int32) (l2 : Int32) (S : sm_t) : sm_S (sm_jI N) k8_readsItem 0 0 38 [some (.ref 52), some (.int l1), some (.int l2), none, none, none] [] (sm_m N S) (x8_readsItem_38 F l1 l2 S) := by
  unfold x8_readsItem_38
  refine sd_iconst (pc := 38) 0 d8_readsItem_38 ci_0 ?_
  refine sd_istore_n (lf2 := [some (.ref 52), some (.int l1), some (.int l2), some (.int 0), none, none]) (pc := 39) d8_readsItem_39 (Nat.le_of_ble_eq_true rfl) rfl ?_
  refine sd_iconst (pc := 40) 0 d8_readsItem_40 ci_0 ?_
  refine sd_istore (lf2 := [some (.ref 52), some (.int l1), some (.int l2), some (.int 0), some (.int 0), none]) (pc := 41) d8_readsItem_41 (Nat.le_of_ble_eq_true rfl) rfl ?_
  refine sd_iload_n (pc := 43) d8_readsItem_43 rfl ?_
  refine sd_bipush (pc := 44) 97 d8_readsItem_44 cb_97 ?_
  refine sd_ic_eq (pc := 46) 132 d8_readsItem_46 (by decide) (fun _ => ?_) (fun _ => ?_)
  · exact s8_readsItem_132 F l1 l2 0 0 S
  · refine sd_aload_n (pc := 49) d8_readsItem_49 rfl ?_
    refine sd_iload_n (pc := 50) d8_readsItem_50 rfl ?_
    refine sd_iconst (pc := 51) 3 d8_readsItem_51 ci_3 ?_
    refine sd_bipush (pc := 52) 119 d8_readsItem_52 cb_119 ?_
    refine sd_cVI (k2 := k8_readsNumber) (As := [.int l1, .int 3, .int 119]) (rest := []) (b := 52) (ci := 7) (pc := 54) 149 (show sm_sq 52 = some (.inr 7) from rfl) (by decide) rfl d8_readsItem_54 ml8_149 (ms8_readsNumber).1 (ms8_readsNumber).2 (me8_readsNumber) ⟨rfl, rfl⟩ ⟨Nat.le_of_ble_eq_true rfl, Nat.le_of_ble_eq_true rfl⟩ (Nat.le_of_ble_eq_true rfl) (Nat.le_of_ble_eq_true rfl) (Or.inr rfl) (Nat.zero_le _) (Nat.zero_le _) rfl (s8_readsNumber F l1 3 119 S) (fun v1 S => ?_)
    refine sd_if_ne (pc := 57) 62 d8_readsItem_57 (by decide) (fun _ => ?_) (fun _ => ?_)
    · refine sd_iconst (pc := 60) 0 d8_readsItem_60 ci_0 ?_
      exact sd_zret (pc := 61) d8_readsItem_61 (by decide) (Nat.zero_le _) (Nat.zero_le _)
    · refine sd_aload_n (pc := 62) d8_readsItem_62 rfl ?_
      refine sd_getI (pc := 63) (show sm_sq 52 = some (.inr 7) from rfl) rfl fl8_142 d8_readsItem_63 (fun v2 => ?_)
      refine sd_istore_n (lf2 := [some (.ref 52), some (.int l1), some (.int l2), some (.int v2), some (.int 0), none]) (pc := 66) d8_readsItem_66 (Nat.le_of_ble_eq_true rfl) rfl ?_
      refine sd_aload_n (pc := 67) d8_readsItem_67 rfl ?_
      refine sd_iload_n (pc := 68) d8_readsItem_68 rfl ?_
      refine sd_bipush (pc := 69) 58 d8_readsItem_69 cb_58 ?_
      refine sd_cVI (k2 := k8_reads) (As := [.int l1, .int 58]) (rest := []) (b := 52) (ci := 7) (pc := 71) 145 (show sm_sq 52 = some (.inr 7) from rfl) (by decide) rfl d8_readsItem_71 ml8_145 (ms8_reads).1 (ms8_reads).2 (me8_reads) ⟨rfl, rfl⟩ ⟨Nat.le_of_ble_eq_true rfl, Nat.le_of_ble_eq_true rfl⟩ (Nat.le_of_ble_eq_true rfl) (Nat.le_of_ble_eq_true rfl) (Or.inr rfl) (Nat.zero_le _) (Nat.zero_le _) rfl (s8_reads F l1 58 S) (fun v3 S => ?_)
      refine sd_if_eq (pc := 74) 99 d8_readsItem_74 (by decide) (fun _ => ?_) (fun _ => ?_)
      · refine sd_iconst (pc := 99) 0 d8_readsItem_99 ci_0 ?_
        exact sd_zret (pc := 100) d8_readsItem_100 (by decide) (Nat.zero_le _) (Nat.zero_le _)
      · refine sd_aload_n (pc := 77) d8_readsItem_77 rfl ?_
        refine sd_iload_n (pc := 78) d8_readsItem_78 rfl ?_
        refine sd_iconst (pc := 79) 1 d8_readsItem_79 ci_1 ?_
        refine sd_iload_n (pc := 80) d8_readsItem_80 rfl ?_
        refine sd_bipush (pc := 81) 114 d8_readsItem_81 cb_114 ?_
        refine sd_ic_ne (pc := 83) 91 d8_readsItem_83 (by decide) (fun _ => ?_) (fun _ => ?_)
        · refine sd_bipush (pc := 86) 9 d8_readsItem_86 cb_9 ?_
          refine sd_goto (pc := 88) 93 d8_readsItem_88 (by decide) ?_
          exact sd_fg [true, true, true, true, false, true] rfl (s8_readsItem_93 F l1 l2 v2 l1 1 9 S)
        · refine sd_bipush (pc := 91) 99 d8_readsItem_91 cb_99 ?_
          exact sd_fg [true, true, true, true, false, true] rfl (s8_readsItem_93 F l1 l2 v2 l1 1 99 S)
set_option maxHeartbeats 4000000 in
set_option maxRecDepth 20000 in
theorem s8_readsItem {N : Nat} (F : Nat) (l1 : Int32) (S : sm_t) : sm_P (sm_jI N) k8_readsItem [.ref 52, .int l1] (sm_m N S) (x8_readsItem F l1 S) := by
  show sm_S (sm_jI N) k8_readsItem 0 0 0 [some (.ref 52), some (.int l1), none, none, none, none] [] (sm_m N S) (x8_readsItem F l1 S)
  unfold x8_readsItem
  refine sd_aload_n (pc := 0) d8_readsItem_0 rfl ?_
  refine sd_iload_n (pc := 1) d8_readsItem_1 rfl ?_
  refine sd_cVI (k2 := k8_here) (As := [.int l1]) (rest := []) (b := 52) (ci := 7) (pc := 2) 139 (show sm_sq 52 = some (.inr 7) from rfl) (by decide) rfl d8_readsItem_2 ml8_139 (ms8_here).1 (ms8_here).2 (me8_here) ⟨rfl, rfl⟩ ⟨Nat.le_of_ble_eq_true rfl, Nat.le_of_ble_eq_true rfl⟩ (Nat.le_of_ble_eq_true rfl) (Nat.le_of_ble_eq_true rfl) (Or.inl rfl) (Nat.zero_le _) (Nat.zero_le _) rfl (s8_here F l1 S) (fun v1 S => ?_)
  refine sd_istore_n (lf2 := [some (.ref 52), some (.int l1), some (.int v1), none, none, none]) (pc := 5) d8_readsItem_5 (Nat.le_of_ble_eq_true rfl) rfl ?_
  refine sd_aload_n (pc := 6) d8_readsItem_6 rfl ?_
  refine sd_iload_n (pc := 7) d8_readsItem_7 rfl ?_
  refine sd_bipush (pc := 8) 114 d8_readsItem_8 cb_114 ?_
  refine sd_cVI (k2 := k8_reads) (As := [.int l1, .int 114]) (rest := []) (b := 52) (ci := 7) (pc := 10) 145 (show sm_sq 52 = some (.inr 7) from rfl) (by decide) rfl d8_readsItem_10 ml8_145 (ms8_reads).1 (ms8_reads).2 (me8_reads) ⟨rfl, rfl⟩ ⟨Nat.le_of_ble_eq_true rfl, Nat.le_of_ble_eq_true rfl⟩ (Nat.le_of_ble_eq_true rfl) (Nat.le_of_ble_eq_true rfl) (Or.inr rfl) (Nat.zero_le _) (Nat.zero_le _) rfl (s8_reads F l1 114 S) (fun v2 S => ?_)
  refine sd_if_ne (pc := 13) 38 d8_readsItem_13 (by decide) (fun _ => ?_) (fun _ => ?_)
  · refine sd_aload_n (pc := 16) d8_readsItem_16 rfl ?_
    refine sd_iload_n (pc := 17) d8_readsItem_17 rfl ?_
    refine sd_bipush (pc := 18) 108 d8_readsItem_18 cb_108 ?_
    refine sd_cVI (k2 := k8_reads) (As := [.int l1, .int 108]) (rest := []) (b := 52) (ci := 7) (pc := 20) 145 (show sm_sq 52 = some (.inr 7) from rfl) (by decide) rfl d8_readsItem_20 ml8_145 (ms8_reads).1 (ms8_reads).2 (me8_reads) ⟨rfl, rfl⟩ ⟨Nat.le_of_ble_eq_true rfl, Nat.le_of_ble_eq_true rfl⟩ (Nat.le_of_ble_eq_true rfl) (Nat.le_of_ble_eq_true rfl) (Or.inr rfl) (Nat.zero_le _) (Nat.zero_le _) rfl (s8_reads F l1 108 S) (fun v3 S => ?_)
    refine sd_if_ne (pc := 23) 38 d8_readsItem_23 (by decide) (fun _ => ?_) (fun _ => ?_)
    · refine sd_aload_n (pc := 26) d8_readsItem_26 rfl ?_
      refine sd_iload_n (pc := 27) d8_readsItem_27 rfl ?_
      refine sd_bipush (pc := 28) 97 d8_readsItem_28 cb_97 ?_
      refine sd_cVI (k2 := k8_reads) (As := [.int l1, .int 97]) (rest := []) (b := 52) (ci := 7) (pc := 30) 145 (show sm_sq 52 = some (.inr 7) from rfl) (by decide) rfl d8_readsItem_30 ml8_145 (ms8_reads).1 (ms8_reads).2 (me8_reads) ⟨rfl, rfl⟩ ⟨Nat.le_of_ble_eq_true rfl, Nat.le_of_ble_eq_true rfl⟩ (Nat.le_of_ble_eq_true rfl) (Nat.le_of_ble_eq_true rfl) (Or.inr rfl) (Nat.zero_le _) (Nat.zero_le _) rfl (s8_reads F l1 97 S) (fun v4 S => ?_)
      refine sd_if_ne (pc := 33) 38 d8_readsItem_33 (by decide) (fun _ => ?_) (fun _ => ?_)
      · refine sd_iconst (pc := 36) 0 d8_readsItem_36 ci_0 ?_
        exact sd_zret (pc := 37) d8_readsItem_37 (by decide) (Nat.zero_le _) (Nat.zero_le _)
      · exact s8_readsItem_38 F l1 v1 S
    · exact s8_readsItem_38 F l1 v1 S
  · exact s8_readsItem_38 F l1 v1 S
set_option maxHeartbeats 4000000 in
set_option maxRecDepth 20000 in
theorem s8_goesOn_31 {N : Nat} (F : Nat) : ∀ (f : Nat) (l1 : Int32) (S : sm_t), sm_S (sm_jI N) k8_goesOn 0 0 31 [some (.ref 52), some (.int l1), none] [] (sm_m N S) (x8_goesOn_31 F f l1 S) := by
  intro f
  induction f with
  | zero =>
    intro l1 S
    exact sd_none
  | succ f ih =>
    intro l1 S
    rw [x8_goesOn_31]
    refine sd_aload_n (pc := 31) d8_goesOn_31 rfl ?_
    refine sd_getI (pc := 32) (show sm_sq 52 = some (.inr 7) from rfl) rfl fl8_136 d8_goesOn_32 (fun v1 => ?_)
    refine sd_aload_n (pc := 35) d8_goesOn_35 rfl ?_
    refine sd_getR (pc := 36) 57 (show sm_sq 52 = some (.inr 7) from rfl) rfl fl8_26 rfl d8_goesOn_36 ?_
    refine sd_iload_n (pc := 39) d8_goesOn_39 rfl ?_
    refine sd_iald (pc := 40) (show sm_sq 57 = some (.inl (.int, 4)) from rfl) d8_goesOn_40 (fun v2 => ?_)
    refine sd_ic_ge (pc := 41) 93 d8_goesOn_41 (by decide) (fun _ => ?_) (fun _ => ?_)
    · refine sd_bipush (pc := 93) (-9) d8_goesOn_93 cb_m9 ?_
      exact sd_iret (pc := 95) d8_goesOn_95 rfl (Nat.zero_le _) (Nat.zero_le _)
    · refine sd_aload_n (pc := 44) d8_goesOn_44 rfl ?_
      refine sd_iload_n (pc := 45) d8_goesOn_45 rfl ?_
      refine sd_cVI (k2 := k8_here) (As := [.int l1]) (rest := []) (b := 52) (ci := 7) (pc := 46) 139 (show sm_sq 52 = some (.inr 7) from rfl) (by decide) rfl d8_goesOn_46 ml8_139 (ms8_here).1 (ms8_here).2 (me8_here) ⟨rfl, rfl⟩ ⟨Nat.le_of_ble_eq_true rfl, Nat.le_of_ble_eq_true rfl⟩ (Nat.le_of_ble_eq_true rfl) (Nat.le_of_ble_eq_true rfl) (Or.inl rfl) (Nat.zero_le _) (Nat.zero_le _) rfl (s8_here F l1 S) (fun v3 S => ?_)
      refine sd_bipush (pc := 49) 32 d8_goesOn_49 cb_32 ?_
      refine sd_ic_ne (pc := 51) 67 d8_goesOn_51 (by decide) (fun _ => ?_) (fun _ => ?_)
      · refine sd_aload_n (pc := 54) d8_goesOn_54 rfl ?_
        refine sd_dup (pc := 55) d8_goesOn_55 rfl ?_
        refine sd_getI (pc := 56) (show sm_sq 52 = some (.inr 7) from rfl) rfl fl8_136 d8_goesOn_56 (fun v4 => ?_)
        refine sd_iconst (pc := 59) 1 d8_goesOn_59 ci_1 ?_
        refine sd_iadd (pc := 60) d8_goesOn_60 ?_
        refine sd_putI (pc := 61) (show sm_sq 52 = some (.inr 7) from rfl) rfl fl8_136 rfl d8_goesOn_61 (fun S => ?_)
        refine sd_goto (pc := 64) 31 d8_goesOn_64 (by decide) ?_
        exact ih l1 S
      · refine sd_aload_n (pc := 67) d8_goesOn_67 rfl ?_
        refine sd_iload_n (pc := 68) d8_goesOn_68 rfl ?_
        refine sd_cVI (k2 := k8_readsItem) (As := [.int l1]) (rest := []) (b := 52) (ci := 7) (pc := 69) 155 (show sm_sq 52 = some (.inr 7) from rfl) (by decide) rfl d8_goesOn_69 ml8_155 (ms8_readsItem).1 (ms8_readsItem).2 (me8_readsItem) ⟨rfl, rfl⟩ ⟨Nat.le_of_ble_eq_true rfl, Nat.le_of_ble_eq_true rfl⟩ (Nat.le_of_ble_eq_true rfl) (Nat.le_of_ble_eq_true rfl) (Or.inr rfl) (Nat.zero_le _) (Nat.zero_le _) rfl (s8_readsItem F l1 S) (fun v5 S => ?_)
        refine sd_if_ne (pc := 72) 80 d8_goesOn_72 (by decide) (fun _ => ?_) (fun _ => ?_)
        · refine sd_aload_n (pc := 75) d8_goesOn_75 rfl ?_
          refine sd_getI (pc := 76) (show sm_sq 52 = some (.inr 7) from rfl) rfl fl8_136 d8_goesOn_76 (fun v6 => ?_)
          exact sd_iret (pc := 79) d8_goesOn_79 rfl (Nat.zero_le _) (Nat.zero_le _)
        · refine sd_aload_n (pc := 80) d8_goesOn_80 rfl ?_
          refine sd_dup (pc := 81) d8_goesOn_81 rfl ?_
          refine sd_getI (pc := 82) (show sm_sq 52 = some (.inr 7) from rfl) rfl fl8_152 d8_goesOn_82 (fun v7 => ?_)
          refine sd_iconst (pc := 85) 1 d8_goesOn_85 ci_1 ?_
          refine sd_iadd (pc := 86) d8_goesOn_86 ?_
          refine sd_putI (pc := 87) (show sm_sq 52 = some (.inr 7) from rfl) rfl fl8_152 rfl d8_goesOn_87 (fun S => ?_)
          refine sd_goto (pc := 90) 31 d8_goesOn_90 (by decide) ?_
          exact ih l1 S
set_option maxHeartbeats 4000000 in
set_option maxRecDepth 20000 in
theorem s8_goesOn_12 {N : Nat} (F : Nat) : ∀ (f : Nat) (l1 : Int32) (l2 : Int32) (S : sm_t), sm_S (sm_jI N) k8_goesOn 0 0 12 [some (.ref 52), some (.int l1), some (.int l2)] [] (sm_m N S) (x8_goesOn_12 F f l1 l2 S) := by
  intro f
  induction f with
  | zero =>
    intro l1 l2 S
    exact sd_none
  | succ f ih =>
    intro l1 l2 S
    rw [x8_goesOn_12]
    refine sd_iload_n (pc := 12) d8_goesOn_12 rfl ?_
    refine sd_bipush (pc := 13) 120 d8_goesOn_13 cb_120 ?_
    refine sd_ic_ge (pc := 15) 31 d8_goesOn_15 (by decide) (fun _ => ?_) (fun _ => ?_)
    · exact sd_fg [true, true, false] rfl (s8_goesOn_31 F F l1 S)
    · refine sd_aload_n (pc := 18) d8_goesOn_18 rfl ?_
      refine sd_getR (pc := 19) 62 (show sm_sq 52 = some (.inr 7) from rfl) rfl fl8_42 rfl d8_goesOn_19 ?_
      refine sd_iload_n (pc := 22) d8_goesOn_22 rfl ?_
      refine sd_iconst (pc := 23) 0 d8_goesOn_23 ci_0 ?_
      refine sd_iast (pc := 24) (show sm_sq 62 = some (.inl (.int, 120)) from rfl) d8_goesOn_24 (fun S => ?_)
      refine sd_iinc (lf2 := [some (.ref 52), some (.int l1), some (.int (l2 + 1))]) (pc := 25) d8_goesOn_25 (Nat.le_of_ble_eq_true rfl) rfl ci_1 rfl ?_
      refine sd_goto (pc := 28) 12 d8_goesOn_28 (by decide) ?_
      exact ih l1 (l2 + 1) S
set_option maxHeartbeats 4000000 in
set_option maxRecDepth 20000 in
theorem s8_goesOn {N : Nat} (F : Nat) (l1 : Int32) (S : sm_t) : sm_P (sm_jI N) k8_goesOn [.ref 52, .int l1] (sm_m N S) (x8_goesOn F l1 S) := by
  show sm_S (sm_jI N) k8_goesOn 0 0 0 [some (.ref 52), some (.int l1), none] [] (sm_m N S) (x8_goesOn F l1 S)
  unfold x8_goesOn
  refine sd_aload_n (pc := 0) d8_goesOn_0 rfl ?_
  refine sd_iconst (pc := 1) 0 d8_goesOn_1 ci_0 ?_
  refine sd_putI (pc := 2) (show sm_sq 52 = some (.inr 7) from rfl) rfl fl8_136 rfl d8_goesOn_2 (fun S => ?_)
  refine sd_aload_n (pc := 5) d8_goesOn_5 rfl ?_
  refine sd_iconst (pc := 6) 0 d8_goesOn_6 ci_0 ?_
  refine sd_putI (pc := 7) (show sm_sq 52 = some (.inr 7) from rfl) rfl fl8_152 rfl d8_goesOn_7 (fun S => ?_)
  refine sd_iconst (pc := 10) 0 d8_goesOn_10 ci_0 ?_
  refine sd_istore_n (lf2 := [some (.ref 52), some (.int l1), some (.int 0)]) (pc := 11) d8_goesOn_11 (Nat.le_of_ble_eq_true rfl) rfl ?_
  exact s8_goesOn_12 F F l1 0 S
set_option maxHeartbeats 4000000 in
set_option maxRecDepth 20000 in
theorem s8_fault {N : Nat} (F : Nat) (l1 : Int32) (S : sm_t) : sm_P (sm_jI N) k8_fault [.ref 52, .int l1] (sm_m N S) (x8_fault F l1 S) := by
  show sm_S (sm_jI N) k8_fault 0 0 0 [some (.ref 52), some (.int l1), none] [] (sm_m N S) (x8_fault F l1 S)
  unfold x8_fault
  refine sd_aload_n (pc := 0) d8_fault_0 rfl ?_
  refine sd_iload_n (pc := 1) d8_fault_1 rfl ?_
  refine sd_cVI (k2 := k8_askedText) (As := [.int l1]) (rest := []) (b := 52) (ci := 7) (pc := 2) 108 (show sm_sq 52 = some (.inr 7) from rfl) (by decide) rfl d8_fault_2 ml8_108 (ms8_askedText).1 (ms8_askedText).2 (me8_askedText) ⟨rfl, rfl⟩ ⟨Nat.le_of_ble_eq_true rfl, Nat.le_of_ble_eq_true rfl⟩ (Nat.le_of_ble_eq_true rfl) (Nat.le_of_ble_eq_true rfl) (Or.inl rfl) (Nat.zero_le _) (Nat.zero_le _) rfl (s8_askedText F l1 S) (fun v1 S => ?_)
  refine sd_istore_n (lf2 := [some (.ref 52), some (.int l1), some (.int v1)]) (pc := 5) d8_fault_5 (Nat.le_of_ble_eq_true rfl) rfl ?_
  refine sd_iload_n (pc := 6) d8_fault_6 rfl ?_
  refine sd_if_ge (pc := 7) 14 d8_fault_7 (by decide) (fun _ => ?_) (fun _ => ?_)
  · refine sd_aload_n (pc := 14) d8_fault_14 rfl ?_
    refine sd_iload_n (pc := 15) d8_fault_15 rfl ?_
    refine sd_cVI (k2 := k8_goesOn) (As := [.int l1]) (rest := []) (b := 52) (ci := 7) (pc := 16) 158 (show sm_sq 52 = some (.inr 7) from rfl) (by decide) rfl d8_fault_16 ml8_158 (ms8_goesOn).1 (ms8_goesOn).2 (me8_goesOn) ⟨rfl, rfl⟩ ⟨Nat.le_of_ble_eq_true rfl, Nat.le_of_ble_eq_true rfl⟩ (Nat.le_of_ble_eq_true rfl) (Nat.le_of_ble_eq_true rfl) (Or.inl rfl) (Nat.zero_le _) (Nat.zero_le _) rfl (s8_goesOn F l1 S) (fun v2 S => ?_)
    exact sd_iret (pc := 19) d8_fault_19 rfl (Nat.zero_le _) (Nat.zero_le _)
  · refine sd_iload_n (pc := 10) d8_fault_10 rfl ?_
    refine sd_goto (pc := 11) 19 d8_fault_11 (by decide) ?_
    exact sd_iret (pc := 19) d8_fault_19 rfl (Nat.zero_le _) (Nat.zero_le _)
set_option maxHeartbeats 4000000 in
set_option maxRecDepth 20000 in
theorem s7_story {N : Nat} (F : Nat) (l1 : Int32) (l2 : Int32) (S : sm_t) : sm_P (sm_jI N) k7_story [.ref 3, .int l1, .int l2] (sm_m N S) (x7_story F l1 l2 S) := by
  show sm_S (sm_jI N) k7_story 0 0 0 [some (.ref 3), some (.int l1), some (.int l2)] [] (sm_m N S) (x7_story F l1 l2 S)
  unfold x7_story
  refine sd_iload_n (pc := 0) d7_story_0 rfl ?_
  refine sd_iconst (pc := 1) 1 d7_story_1 ci_1 ?_
  refine sd_ic_lt (pc := 2) 17 d7_story_2 (by decide) (fun _ => ?_) (fun _ => ?_)
  · refine sd_iconst (pc := 17) (-1) d7_story_17 ci_m1 ?_
    exact sd_iret (pc := 18) d7_story_18 rfl (Nat.zero_le _) (Nat.zero_le _)
  · refine sd_iload_n (pc := 5) d7_story_5 rfl ?_
    refine sd_iconst (pc := 6) 3 d7_story_6 ci_3 ?_
    refine sd_ic_gt (pc := 7) 17 d7_story_7 (by decide) (fun _ => ?_) (fun _ => ?_)
    · refine sd_iconst (pc := 17) (-1) d7_story_17 ci_m1 ?_
      exact sd_iret (pc := 18) d7_story_18 rfl (Nat.zero_le _) (Nat.zero_le _)
    · refine sd_iload_n (pc := 10) d7_story_10 rfl ?_
      refine sd_cSI (k2 := k7_isText) (As := [.int l2]) (rest := []) (pc := 11) 114 d7_story_11 ml7_114 (ms7_isText) (me7_isText) ⟨rfl, rfl⟩ ⟨Nat.le_of_ble_eq_true rfl, Nat.le_of_ble_eq_true rfl⟩ (Nat.le_of_ble_eq_true rfl) (Nat.le_of_ble_eq_true rfl) (Or.inr rfl) (Nat.zero_le _) (Nat.zero_le _) rfl (s7_isText F l2 S) (fun v1 S => ?_)
      refine sd_if_ne (pc := 14) 19 d7_story_14 (by decide) (fun _ => ?_) (fun _ => ?_)
      · refine sd_iconst (pc := 17) (-1) d7_story_17 ci_m1 ?_
        exact sd_iret (pc := 18) d7_story_18 rfl (Nat.zero_le _) (Nat.zero_le _)
      · refine sd_aload_n (pc := 19) d7_story_19 rfl ?_
        refine sd_getR (pc := 20) 17 (show sm_sq 3 = some (.inr 6) from rfl) rfl fl7_23 rfl d7_story_20 ?_
        refine sd_iload_n (pc := 23) d7_story_23 rfl ?_
        refine sd_iald (pc := 24) (show sm_sq 17 = some (.inl (.int, 4)) from rfl) d7_story_24 (fun v2 => ?_)
        refine sd_iconst (pc := 25) (-1) d7_story_25 ci_m1 ?_
        refine sd_ic_ne (pc := 26) 35 d7_story_26 (by decide) (fun _ => ?_) (fun _ => ?_)
        · refine sd_aload_n (pc := 29) d7_story_29 rfl ?_
          refine sd_iconst (pc := 30) 1 d7_story_30 ci_1 ?_
          refine sd_cVI (k2 := k7_found) (As := [.int 1]) (rest := []) (b := 3) (ci := 6) (pc := 31) 92 (show sm_sq 3 = some (.inr 6) from rfl) (by decide) rfl d7_story_31 ml7_92 (ms7_found).1 (ms7_found).2 (me7_found) ⟨rfl, rfl⟩ ⟨Nat.le_of_ble_eq_true rfl, Nat.le_of_ble_eq_true rfl⟩ (Nat.le_of_ble_eq_true rfl) (Nat.le_of_ble_eq_true rfl) (Or.inl rfl) (Nat.zero_le _) (Nat.zero_le _) rfl (s7_found F 1 S) (fun v3 S => ?_)
          exact sd_iret (pc := 34) d7_story_34 rfl (Nat.zero_le _) (Nat.zero_le _)
        · refine sd_aload_n (pc := 35) d7_story_35 rfl ?_
          refine sd_getR (pc := 36) 46 (show sm_sq 3 = some (.inr 6) from rfl) rfl fl7_54 rfl d7_story_36 ?_
          refine sd_aload_n (pc := 39) d7_story_39 rfl ?_
          refine sd_getR (pc := 40) 12 (show sm_sq 3 = some (.inr 6) from rfl) rfl fl7_20 rfl d7_story_40 ?_
          refine sd_iload_n (pc := 43) d7_story_43 rfl ?_
          refine sd_aald (pc := 44) 5 (show sm_sq 12 = some (.inl (.array .byte, 4)) from rfl) rfl rfl (fun _ => rfl) (fun _ _ _ _ h => if_pos h) d7_story_44 (fun a4 => ?_)
          refine sd_aload_n (pc := 45) d7_story_45 rfl ?_
          refine sd_getR (pc := 46) 17 (show sm_sq 3 = some (.inr 6) from rfl) rfl fl7_23 rfl d7_story_46 ?_
          refine sd_iload_n (pc := 49) d7_story_49 rfl ?_
          refine sd_iald (pc := 50) (show sm_sq 17 = some (.inl (.int, 4)) from rfl) d7_story_50 (fun v5 => ?_)
          refine sd_cVI (k2 := k4_read) (As := [.ref a4, .int v5]) (rest := []) (b := 46) (ci := 3) (pc := 51) 150 (show sm_sq 46 = some (.inr 3) from rfl) (by decide) rfl d7_story_51 ml7_150 (ms4_read).1 (ms4_read).2 (me4_read) ⟨rfl, rfl⟩ ⟨Nat.le_of_ble_eq_true rfl, Nat.le_of_ble_eq_true rfl⟩ (Nat.le_of_ble_eq_true rfl) (Nat.le_of_ble_eq_true rfl) (Or.inl rfl) (Nat.zero_le _) (Nat.zero_le _) rfl (s4_read F a4 v5 S) (fun v6 S => ?_)
          refine sd_bipush (pc := 54) (-9) d7_story_54 cb_m9 ?_
          refine sd_ic_eq (pc := 56) 62 d7_story_56 (by decide) (fun _ => ?_) (fun _ => ?_)
          · refine sd_aload_n (pc := 62) d7_story_62 rfl ?_
            refine sd_getR (pc := 63) 46 (show sm_sq 3 = some (.inr 6) from rfl) rfl fl7_54 rfl d7_story_63 ?_
            refine sd_getR (pc := 66) 47 (show sm_sq 46 = some (.inr 3) from rfl) rfl fl7_154 rfl d7_story_66 ?_
            refine sd_iconst (pc := 69) 0 d7_story_69 ci_0 ?_
            refine sd_aload_n (pc := 70) d7_story_70 rfl ?_
            refine sd_getR (pc := 71) 36 (show sm_sq 3 = some (.inr 6) from rfl) rfl fl7_46 rfl d7_story_71 ?_
            refine sd_iload_n (pc := 74) d7_story_74 rfl ?_
            refine sd_iconst (pc := 75) 1 d7_story_75 ci_1 ?_
            refine sd_isub (pc := 76) d7_story_76 ?_
            refine sd_aald (pc := 77) 4 (show sm_sq 36 = some (.inl (.array .int, 3)) from rfl) rfl rfl (fun _ => rfl) (fun _ _ _ _ h => if_pos h) d7_story_77 (fun a7 => ?_)
            refine sd_iconst (pc := 78) 0 d7_story_78 ci_0 ?_
            refine sd_bipush (pc := 79) 120 d7_story_79 cb_120 ?_
            refine sd_an (fun n9 h8 => ?_)
            refine sd_copy (pc := 81) 108 sl7_108 (show sm_sq 47 = some (.inl (.int, 120)) from rfl) h8 (Nat.le_of_ble_eq_true rfl) (Nat.le_of_ble_eq_true rfl) d7_story_81 (fun S => ?_)
            refine sd_aload_n (pc := 84) d7_story_84 rfl ?_
            refine sd_getR (pc := 85) 45 (show sm_sq 3 = some (.inr 6) from rfl) rfl fl7_47 rfl d7_story_85 ?_
            refine sd_iload_n (pc := 88) d7_story_88 rfl ?_
            refine sd_iconst (pc := 89) 1 d7_story_89 ci_1 ?_
            refine sd_isub (pc := 90) d7_story_90 ?_
            refine sd_iconst (pc := 91) 1 d7_story_91 ci_1 ?_
            refine sd_zast (pc := 92) (show sm_sq 45 = some (.inl (.boolean, 3)) from rfl) d7_story_92 (fun S => ?_)
            refine sd_aload_n (pc := 93) d7_story_93 rfl ?_
            refine sd_getR (pc := 94) 46 (show sm_sq 3 = some (.inr 6) from rfl) rfl fl7_54 rfl d7_story_94 ?_
            refine sd_getI (pc := 97) (show sm_sq 46 = some (.inr 3) from rfl) rfl fl7_157 d7_story_97 (fun v10 => ?_)
            exact sd_iret (pc := 100) d7_story_100 rfl (Nat.zero_le _) (Nat.zero_le _)
          · refine sd_bipush (pc := 59) (-4) d7_story_59 cb_m4 ?_
            exact sd_iret (pc := 61) d7_story_61 rfl (Nat.zero_le _) (Nat.zero_le _)
set_option maxHeartbeats 4000000 in
set_option maxRecDepth 20000 in
theorem s8_story_46 {N : Nat} (F : Nat) : ∀ (f : Nat) (l1 : Int32) (l4 : Int32) (S : sm_t), sm_S (sm_jI N) k8_story 0 0 46 [some (.ref 52), some (.int l1), none, none, some (.int l4)] [] (sm_m N S) (x8_story_46 F f l1 l4 S) := by
  intro f
  induction f with
  | zero =>
    intro l1 l4 S
    exact sd_none
  | succ f ih =>
    intro l1 l4 S
    rw [x8_story_46]
    refine sd_iload (pc := 46) d8_story_46 rfl ?_
    refine sd_bipush (pc := 48) 120 d8_story_48 cb_120 ?_
    refine sd_ic_ge (pc := 50) 78 d8_story_50 (by decide) (fun _ => ?_) (fun _ => ?_)
    · refine sd_aload_n (pc := 78) d8_story_78 rfl ?_
      refine sd_getI (pc := 79) (show sm_sq 52 = some (.inr 7) from rfl) rfl fl8_152 d8_story_79 (fun v1 => ?_)
      exact sd_iret (pc := 82) d8_story_82 rfl (Nat.zero_le _) (Nat.zero_le _)
    · refine sd_aload_n (pc := 53) d8_story_53 rfl ?_
      refine sd_getR (pc := 54) 61 (show sm_sq 52 = some (.inr 7) from rfl) rfl fl8_39 rfl d8_story_54 ?_
      refine sd_bipush (pc := 57) 120 d8_story_57 cb_120 ?_
      refine sd_iload_n (pc := 59) d8_story_59 rfl ?_
      refine sd_imul (pc := 60) d8_story_60 ?_
      refine sd_iload (pc := 61) d8_story_61 rfl ?_
      refine sd_iadd (pc := 63) d8_story_63 ?_
      refine sd_aload_n (pc := 64) d8_story_64 rfl ?_
      refine sd_getR (pc := 65) 62 (show sm_sq 52 = some (.inr 7) from rfl) rfl fl8_42 rfl d8_story_65 ?_
      refine sd_iload (pc := 68) d8_story_68 rfl ?_
      refine sd_iald (pc := 70) (show sm_sq 62 = some (.inl (.int, 120)) from rfl) d8_story_70 (fun v2 => ?_)
      refine sd_iast (pc := 71) (show sm_sq 61 = some (.inl (.int, 480)) from rfl) d8_story_71 (fun S => ?_)
      refine sd_iinc (lf2 := [some (.ref 52), some (.int l1), none, none, some (.int (l4 + 1))]) (pc := 72) d8_story_72 (Nat.le_of_ble_eq_true rfl) rfl ci_1 rfl ?_
      refine sd_goto (pc := 75) 46 d8_story_75 (by decide) ?_
      exact ih l1 (l4 + 1) S
set_option maxHeartbeats 4000000 in
set_option maxRecDepth 20000 in
theorem s8_story {N : Nat} (F : Nat) (l1 : Int32) (l2 : Int32) (S : sm_t) : sm_P (sm_jI N) k8_story [.ref 52, .int l1, .int l2] (sm_m N S) (x8_story F l1 l2 S) := by
  show sm_S (sm_jI N) k8_story 0 0 0 [some (.ref 52), some (.int l1), some (.int l2), none, none] [] (sm_m N S) (x8_story F l1 l2 S)
  unfold x8_story
  refine sd_iload_n (pc := 0) d8_story_0 rfl ?_
  refine sd_iconst (pc := 1) 1 d8_story_1 ci_1 ?_
  refine sd_iconst (pc := 2) 3 d8_story_2 ci_3 ?_
  refine sd_cSI (k2 := k8_in) (As := [.int l1, .int 1, .int 3]) (rest := []) (pc := 3) 80 d8_story_3 ml8_80 (ms8_in) (me8_in) ⟨rfl, rfl⟩ ⟨Nat.le_of_ble_eq_true rfl, Nat.le_of_ble_eq_true rfl⟩ (Nat.le_of_ble_eq_true rfl) (Nat.le_of_ble_eq_true rfl) (Or.inr rfl) (Nat.zero_le _) (Nat.zero_le _) rfl (s8_in F l1 1 3 S) (fun v1 S => ?_)
  refine sd_if_ne (pc := 6) 11 d8_story_6 (by decide) (fun _ => ?_) (fun _ => ?_)
  · refine sd_iconst (pc := 9) (-1) d8_story_9 ci_m1 ?_
    exact sd_iret (pc := 10) d8_story_10 rfl (Nat.zero_le _) (Nat.zero_le _)
  · refine sd_aload_n (pc := 11) d8_story_11 rfl ?_
    refine sd_iload_n (pc := 12) d8_story_12 rfl ?_
    refine sd_cVI (k2 := k8_askedText) (As := [.int l2]) (rest := []) (b := 52) (ci := 7) (pc := 13) 108 (show sm_sq 52 = some (.inr 7) from rfl) (by decide) rfl d8_story_13 ml8_108 (ms8_askedText).1 (ms8_askedText).2 (me8_askedText) ⟨rfl, rfl⟩ ⟨Nat.le_of_ble_eq_true rfl, Nat.le_of_ble_eq_true rfl⟩ (Nat.le_of_ble_eq_true rfl) (Nat.le_of_ble_eq_true rfl) (Or.inl rfl) (Nat.zero_le _) (Nat.zero_le _) rfl (s8_askedText F l2 S) (fun v2 S => ?_)
    refine sd_istore_n (lf2 := [some (.ref 52), some (.int l1), some (.int l2), some (.int v2), none]) (pc := 16) d8_story_16 (Nat.le_of_ble_eq_true rfl) rfl ?_
    refine sd_iload_n (pc := 17) d8_story_17 rfl ?_
    refine sd_if_ge (pc := 18) 23 d8_story_18 (by decide) (fun _ => ?_) (fun _ => ?_)
    · refine sd_aload_n (pc := 23) d8_story_23 rfl ?_
      refine sd_iload_n (pc := 24) d8_story_24 rfl ?_
      refine sd_cVI (k2 := k8_goesOn) (As := [.int l2]) (rest := []) (b := 52) (ci := 7) (pc := 25) 158 (show sm_sq 52 = some (.inr 7) from rfl) (by decide) rfl d8_story_25 ml8_158 (ms8_goesOn).1 (ms8_goesOn).2 (me8_goesOn) ⟨rfl, rfl⟩ ⟨Nat.le_of_ble_eq_true rfl, Nat.le_of_ble_eq_true rfl⟩ (Nat.le_of_ble_eq_true rfl) (Nat.le_of_ble_eq_true rfl) (Or.inl rfl) (Nat.zero_le _) (Nat.zero_le _) rfl (s8_goesOn F l2 S) (fun v3 S => ?_)
      refine sd_bipush (pc := 28) (-9) d8_story_28 cb_m9 ?_
      refine sd_ic_eq (pc := 30) 36 d8_story_30 (by decide) (fun _ => ?_) (fun _ => ?_)
      · refine sd_aload_n (pc := 36) d8_story_36 rfl ?_
        refine sd_getR (pc := 37) 60 (show sm_sq 52 = some (.inr 7) from rfl) rfl fl8_35 rfl d8_story_37 ?_
        refine sd_iload_n (pc := 40) d8_story_40 rfl ?_
        refine sd_iconst (pc := 41) 1 d8_story_41 ci_1 ?_
        refine sd_zast (pc := 42) (show sm_sq 60 = some (.inl (.boolean, 4)) from rfl) d8_story_42 (fun S => ?_)
        refine sd_iconst (pc := 43) 0 d8_story_43 ci_0 ?_
        refine sd_istore (lf2 := [some (.ref 52), some (.int l1), some (.int l2), some (.int v2), some (.int 0)]) (pc := 44) d8_story_44 (Nat.le_of_ble_eq_true rfl) rfl ?_
        exact sd_fg [true, true, false, false, true] rfl (s8_story_46 F F l1 0 S)
      · refine sd_bipush (pc := 33) (-4) d8_story_33 cb_m4 ?_
        exact sd_iret (pc := 35) d8_story_35 rfl (Nat.zero_le _) (Nat.zero_le _)
    · refine sd_iload_n (pc := 21) d8_story_21 rfl ?_
      exact sd_iret (pc := 22) d8_story_22 rfl (Nat.zero_le _) (Nat.zero_le _)
set_option maxHeartbeats 4000000 in
set_option maxRecDepth 20000 in
theorem s7_isMissing {N : Nat} (F : Nat) (l1 : Int32) (S : sm_t) : sm_P (sm_jI N) k7_isMissing [.ref 3, .int l1] (sm_m N S) (x7_isMissing F l1 S) := by
  show sm_S (sm_jI N) k7_isMissing 0 0 0 [some (.ref 3), some (.int l1)] [] (sm_m N S) (x7_isMissing F l1 S)
  unfold x7_isMissing
  refine sd_iload_n (pc := 0) d7_isMissing_0 rfl ?_
  refine sd_if_le (pc := 1) 24 d7_isMissing_1 (by decide) (fun _ => ?_) (fun _ => ?_)
  · refine sd_iconst (pc := 24) 0 d7_isMissing_24 ci_0 ?_
    exact sd_zret (pc := 25) d7_isMissing_25 (by decide) (Nat.zero_le _) (Nat.zero_le _)
  · refine sd_iload_n (pc := 4) d7_isMissing_4 rfl ?_
    refine sd_iconst (pc := 5) 3 d7_isMissing_5 ci_3 ?_
    refine sd_ic_gt (pc := 6) 24 d7_isMissing_6 (by decide) (fun _ => ?_) (fun _ => ?_)
    · refine sd_iconst (pc := 24) 0 d7_isMissing_24 ci_0 ?_
      exact sd_zret (pc := 25) d7_isMissing_25 (by decide) (Nat.zero_le _) (Nat.zero_le _)
    · refine sd_aload_n (pc := 9) d7_isMissing_9 rfl ?_
      refine sd_getR (pc := 10) 45 (show sm_sq 3 = some (.inr 6) from rfl) rfl fl7_47 rfl d7_isMissing_10 ?_
      refine sd_iload_n (pc := 13) d7_isMissing_13 rfl ?_
      refine sd_iconst (pc := 14) 1 d7_isMissing_14 ci_1 ?_
      refine sd_isub (pc := 15) d7_isMissing_15 ?_
      refine sd_zald (pc := 16) (show sm_sq 45 = some (.inl (.boolean, 3)) from rfl) d7_isMissing_16 (fun v1 => ?_)
      refine sd_if_ne (pc := 17) 24 d7_isMissing_17 (by decide) (fun _ => ?_) (fun _ => ?_)
      · refine sd_iconst (pc := 20) 1 d7_isMissing_20 ci_1 ?_
        refine sd_goto (pc := 21) 25 d7_isMissing_21 (by decide) ?_
        exact sd_zret (pc := 25) d7_isMissing_25 (by decide) (Nat.zero_le _) (Nat.zero_le _)
      · refine sd_iconst (pc := 24) 0 d7_isMissing_24 ci_0 ?_
        exact sd_zret (pc := 25) d7_isMissing_25 (by decide) (Nat.zero_le _) (Nat.zero_le _)
set_option maxHeartbeats 4000000 in
set_option maxRecDepth 20000 in
theorem s7_lies {N : Nat} (F : Nat) (l1 : Int32) (l2 : Int32) (S : sm_t) : sm_P (sm_jI N) k7_lies [.ref 3, .int l1, .int l2] (sm_m N S) (x7_lies F l1 l2 S) := by
  show sm_S (sm_jI N) k7_lies 0 0 0 [some (.ref 3), some (.int l1), some (.int l2)] [] (sm_m N S) (x7_lies F l1 l2 S)
  unfold x7_lies
  refine sd_iload_n (pc := 0) d7_lies_0 rfl ?_
  refine sd_iconst (pc := 1) 1 d7_lies_1 ci_1 ?_
  refine sd_ic_lt (pc := 2) 17 d7_lies_2 (by decide) (fun _ => ?_) (fun _ => ?_)
  · refine sd_iconst (pc := 17) (-1) d7_lies_17 ci_m1 ?_
    exact sd_iret (pc := 18) d7_lies_18 rfl (Nat.zero_le _) (Nat.zero_le _)
  · refine sd_iload_n (pc := 5) d7_lies_5 rfl ?_
    refine sd_iconst (pc := 6) 3 d7_lies_6 ci_3 ?_
    refine sd_ic_gt (pc := 7) 17 d7_lies_7 (by decide) (fun _ => ?_) (fun _ => ?_)
    · refine sd_iconst (pc := 17) (-1) d7_lies_17 ci_m1 ?_
      exact sd_iret (pc := 18) d7_lies_18 rfl (Nat.zero_le _) (Nat.zero_le _)
    · refine sd_iload_n (pc := 10) d7_lies_10 rfl ?_
      refine sd_cSI (k2 := k1_isCell) (As := [.int l2]) (rest := []) (pc := 11) 120 d7_lies_11 ml7_120 (ms1_isCell) (me1_isCell) ⟨rfl, rfl⟩ ⟨Nat.le_of_ble_eq_true rfl, Nat.le_of_ble_eq_true rfl⟩ (Nat.le_of_ble_eq_true rfl) (Nat.le_of_ble_eq_true rfl) (Or.inr rfl) (Nat.zero_le _) (Nat.zero_le _) rfl (s1_isCell F l2 S) (fun v1 S => ?_)
      refine sd_if_ne (pc := 14) 19 d7_lies_14 (by decide) (fun _ => ?_) (fun _ => ?_)
      · refine sd_iconst (pc := 17) (-1) d7_lies_17 ci_m1 ?_
        exact sd_iret (pc := 18) d7_lies_18 rfl (Nat.zero_le _) (Nat.zero_le _)
      · refine sd_aload_n (pc := 19) d7_lies_19 rfl ?_
        refine sd_iload_n (pc := 20) d7_lies_20 rfl ?_
        refine sd_cVI (k2 := k7_isMissing) (As := [.int l1]) (rest := []) (b := 3) (ci := 6) (pc := 21) 160 (show sm_sq 3 = some (.inr 6) from rfl) (by decide) rfl d7_lies_21 ml7_160 (ms7_isMissing).1 (ms7_isMissing).2 (me7_isMissing) ⟨rfl, rfl⟩ ⟨Nat.le_of_ble_eq_true rfl, Nat.le_of_ble_eq_true rfl⟩ (Nat.le_of_ble_eq_true rfl) (Nat.le_of_ble_eq_true rfl) (Or.inr rfl) (Nat.zero_le _) (Nat.zero_le _) rfl (s7_isMissing F l1 S) (fun v2 S => ?_)
        refine sd_if_eq (pc := 24) 33 d7_lies_24 (by decide) (fun _ => ?_) (fun _ => ?_)
        · refine sd_aload_n (pc := 33) d7_lies_33 rfl ?_
          refine sd_getR (pc := 34) 36 (show sm_sq 3 = some (.inr 6) from rfl) rfl fl7_46 rfl d7_lies_34 ?_
          refine sd_iload_n (pc := 37) d7_lies_37 rfl ?_
          refine sd_iconst (pc := 38) 1 d7_lies_38 ci_1 ?_
          refine sd_isub (pc := 39) d7_lies_39 ?_
          refine sd_aald (pc := 40) 4 (show sm_sq 36 = some (.inl (.array .int, 3)) from rfl) rfl rfl (fun _ => rfl) (fun _ _ _ _ h => if_pos h) d7_lies_40 (fun a3 => ?_)
          refine sd_iload_n (pc := 41) d7_lies_41 rfl ?_
          refine sd_an (fun n5 h4 => ?_)
          refine sd_iald (pc := 42) h4 d7_lies_42 (fun v6 => ?_)
          exact sd_iret (pc := 43) d7_lies_43 rfl (Nat.zero_le _) (Nat.zero_le _)
        · refine sd_aload_n (pc := 27) d7_lies_27 rfl ?_
          refine sd_iconst (pc := 28) 1 d7_lies_28 ci_1 ?_
          refine sd_cVI (k2 := k7_found) (As := [.int 1]) (rest := []) (b := 3) (ci := 6) (pc := 29) 92 (show sm_sq 3 = some (.inr 6) from rfl) (by decide) rfl d7_lies_29 ml7_92 (ms7_found).1 (ms7_found).2 (me7_found) ⟨rfl, rfl⟩ ⟨Nat.le_of_ble_eq_true rfl, Nat.le_of_ble_eq_true rfl⟩ (Nat.le_of_ble_eq_true rfl) (Nat.le_of_ble_eq_true rfl) (Or.inl rfl) (Nat.zero_le _) (Nat.zero_le _) rfl (s7_found F 1 S) (fun v7 S => ?_)
          exact sd_iret (pc := 32) d7_lies_32 rfl (Nat.zero_le _) (Nat.zero_le _)
set_option maxHeartbeats 4000000 in
set_option maxRecDepth 20000 in
theorem s8_lies {N : Nat} (F : Nat) (l1 : Int32) (l2 : Int32) (S : sm_t) : sm_P (sm_jI N) k8_lies [.ref 52, .int l1, .int l2] (sm_m N S) (x8_lies F l1 l2 S) := by
  show sm_S (sm_jI N) k8_lies 0 0 0 [some (.ref 52), some (.int l1), some (.int l2)] [] (sm_m N S) (x8_lies F l1 l2 S)
  unfold x8_lies
  refine sd_iload_n (pc := 0) d8_lies_0 rfl ?_
  refine sd_iconst (pc := 1) 1 d8_lies_1 ci_1 ?_
  refine sd_iconst (pc := 2) 3 d8_lies_2 ci_3 ?_
  refine sd_cSI (k2 := k8_in) (As := [.int l1, .int 1, .int 3]) (rest := []) (pc := 3) 80 d8_lies_3 ml8_80 (ms8_in) (me8_in) ⟨rfl, rfl⟩ ⟨Nat.le_of_ble_eq_true rfl, Nat.le_of_ble_eq_true rfl⟩ (Nat.le_of_ble_eq_true rfl) (Nat.le_of_ble_eq_true rfl) (Or.inr rfl) (Nat.zero_le _) (Nat.zero_le _) rfl (s8_in F l1 1 3 S) (fun v1 S => ?_)
  refine sd_if_eq (pc := 6) 16 d8_lies_6 (by decide) (fun _ => ?_) (fun _ => ?_)
  · refine sd_iconst (pc := 16) (-1) d8_lies_16 ci_m1 ?_
    exact sd_iret (pc := 17) d8_lies_17 rfl (Nat.zero_le _) (Nat.zero_le _)
  · refine sd_iload_n (pc := 9) d8_lies_9 rfl ?_
    refine sd_cSI (k2 := k8_isCell) (As := [.int l2]) (rest := []) (pc := 10) 117 d8_lies_10 ml8_117 (ms8_isCell) (me8_isCell) ⟨rfl, rfl⟩ ⟨Nat.le_of_ble_eq_true rfl, Nat.le_of_ble_eq_true rfl⟩ (Nat.le_of_ble_eq_true rfl) (Nat.le_of_ble_eq_true rfl) (Or.inr rfl) (Nat.zero_le _) (Nat.zero_le _) rfl (s8_isCell F l2 S) (fun v2 S => ?_)
    refine sd_if_ne (pc := 13) 18 d8_lies_13 (by decide) (fun _ => ?_) (fun _ => ?_)
    · refine sd_iconst (pc := 16) (-1) d8_lies_16 ci_m1 ?_
      exact sd_iret (pc := 17) d8_lies_17 rfl (Nat.zero_le _) (Nat.zero_le _)
    · refine sd_aload_n (pc := 18) d8_lies_18 rfl ?_
      refine sd_getR (pc := 19) 60 (show sm_sq 52 = some (.inr 7) from rfl) rfl fl8_35 rfl d8_lies_19 ?_
      refine sd_iload_n (pc := 22) d8_lies_22 rfl ?_
      refine sd_zald (pc := 23) (show sm_sq 60 = some (.inl (.boolean, 4)) from rfl) d8_lies_23 (fun v3 => ?_)
      refine sd_if_eq (pc := 24) 41 d8_lies_24 (by decide) (fun _ => ?_) (fun _ => ?_)
      · refine sd_aload_n (pc := 41) d8_lies_41 rfl ?_
        refine sd_iconst (pc := 42) 1 d8_lies_42 ci_1 ?_
        refine sd_cVI (k2 := k8_meets) (As := [.int 1]) (rest := []) (b := 52) (ci := 7) (pc := 43) 88 (show sm_sq 52 = some (.inr 7) from rfl) (by decide) rfl d8_lies_43 ml8_88 (ms8_meets).1 (ms8_meets).2 (me8_meets) ⟨rfl, rfl⟩ ⟨Nat.le_of_ble_eq_true rfl, Nat.le_of_ble_eq_true rfl⟩ (Nat.le_of_ble_eq_true rfl) (Nat.le_of_ble_eq_true rfl) (Or.inl rfl) (Nat.zero_le _) (Nat.zero_le _) rfl (s8_meets F 1 S) (fun v4 S => ?_)
        exact sd_iret (pc := 46) d8_lies_46 rfl (Nat.zero_le _) (Nat.zero_le _)
      · refine sd_aload_n (pc := 27) d8_lies_27 rfl ?_
        refine sd_getR (pc := 28) 61 (show sm_sq 52 = some (.inr 7) from rfl) rfl fl8_39 rfl d8_lies_28 ?_
        refine sd_bipush (pc := 31) 120 d8_lies_31 cb_120 ?_
        refine sd_iload_n (pc := 33) d8_lies_33 rfl ?_
        refine sd_imul (pc := 34) d8_lies_34 ?_
        refine sd_iload_n (pc := 35) d8_lies_35 rfl ?_
        refine sd_iadd (pc := 36) d8_lies_36 ?_
        refine sd_iald (pc := 37) (show sm_sq 61 = some (.inl (.int, 480)) from rfl) d8_lies_37 (fun v5 => ?_)
        refine sd_goto (pc := 38) 46 d8_lies_38 (by decide) ?_
        exact sd_iret (pc := 46) d8_lies_46 rfl (Nat.zero_le _) (Nat.zero_le _)
set_option maxHeartbeats 4000000 in
set_option maxRecDepth 20000 in
theorem s1_sideOn_31 {N : Nat} (F : Nat) (l2 : Int32) (l3 : Int32) (S : sm_t) : sm_S (sm_jI N) k1_sideOn 0 0 31 [none, none, some (.int l2), some (.int l3)] [] (sm_m N S) (x1_sideOn_31 F l2 l3 S) := by
  unfold x1_sideOn_31
  refine sd_iload_n (pc := 31) d1_sideOn_31 rfl ?_
  refine sd_iload_n (pc := 32) d1_sideOn_32 rfl ?_
  refine sd_imul (pc := 33) d1_sideOn_33 ?_
  refine sd_iconst (pc := 34) 4 d1_sideOn_34 ci_4 ?_
  refine sd_iload_n (pc := 35) d1_sideOn_35 rfl ?_
  refine sd_imul (pc := 36) d1_sideOn_36 ?_
  refine sd_iload_n (pc := 37) d1_sideOn_37 rfl ?_
  refine sd_imul (pc := 38) d1_sideOn_38 ?_
  refine sd_ic_lt (pc := 39) 53 d1_sideOn_39 (by decide) (fun _ => ?_) (fun _ => ?_)
  · refine sd_iload_n (pc := 53) d1_sideOn_53 rfl ?_
    refine sd_iload_n (pc := 54) d1_sideOn_54 rfl ?_
    refine sd_imul (pc := 55) d1_sideOn_55 ?_
    refine sd_iconst (pc := 56) 4 d1_sideOn_56 ci_4 ?_
    refine sd_iload_n (pc := 57) d1_sideOn_57 rfl ?_
    refine sd_imul (pc := 58) d1_sideOn_58 ?_
    refine sd_iload_n (pc := 59) d1_sideOn_59 rfl ?_
    refine sd_imul (pc := 60) d1_sideOn_60 ?_
    refine sd_ic_lt (pc := 61) 74 d1_sideOn_61 (by decide) (fun _ => ?_) (fun _ => ?_)
    · refine sd_iload_n (pc := 74) d1_sideOn_74 rfl ?_
      refine sd_if_le (pc := 75) 88 d1_sideOn_75 (by decide) (fun _ => ?_) (fun _ => ?_)
      · refine sd_iload_n (pc := 88) d1_sideOn_88 rfl ?_
        refine sd_if_le (pc := 89) 96 d1_sideOn_89 (by decide) (fun _ => ?_) (fun _ => ?_)
        · refine sd_bipush (pc := 96) 7 d1_sideOn_96 cb_7 ?_
          exact sd_iret (pc := 98) d1_sideOn_98 rfl (Nat.zero_le _) (Nat.zero_le _)
        · refine sd_iconst (pc := 92) 5 d1_sideOn_92 ci_5 ?_
          refine sd_goto (pc := 93) 98 d1_sideOn_93 (by decide) ?_
          exact sd_iret (pc := 98) d1_sideOn_98 rfl (Nat.zero_le _) (Nat.zero_le _)
      · refine sd_iload_n (pc := 78) d1_sideOn_78 rfl ?_
        refine sd_if_le (pc := 79) 86 d1_sideOn_79 (by decide) (fun _ => ?_) (fun _ => ?_)
        · refine sd_iconst (pc := 86) 1 d1_sideOn_86 ci_1 ?_
          exact sd_iret (pc := 87) d1_sideOn_87 rfl (Nat.zero_le _) (Nat.zero_le _)
        · refine sd_iconst (pc := 82) 3 d1_sideOn_82 ci_3 ?_
          refine sd_goto (pc := 83) 87 d1_sideOn_83 (by decide) ?_
          exact sd_iret (pc := 87) d1_sideOn_87 rfl (Nat.zero_le _) (Nat.zero_le _)
    · refine sd_iload_n (pc := 64) d1_sideOn_64 rfl ?_
      refine sd_if_le (pc := 65) 72 d1_sideOn_65 (by decide) (fun _ => ?_) (fun _ => ?_)
      · refine sd_iconst (pc := 72) 0 d1_sideOn_72 ci_0 ?_
        exact sd_iret (pc := 73) d1_sideOn_73 rfl (Nat.zero_le _) (Nat.zero_le _)
      · refine sd_iconst (pc := 68) 4 d1_sideOn_68 ci_4 ?_
        refine sd_goto (pc := 69) 73 d1_sideOn_69 (by decide) ?_
        exact sd_iret (pc := 73) d1_sideOn_73 rfl (Nat.zero_le _) (Nat.zero_le _)
  · refine sd_iload_n (pc := 42) d1_sideOn_42 rfl ?_
    refine sd_if_le (pc := 43) 50 d1_sideOn_43 (by decide) (fun _ => ?_) (fun _ => ?_)
    · refine sd_bipush (pc := 50) 6 d1_sideOn_50 cb_6 ?_
      exact sd_iret (pc := 52) d1_sideOn_52 rfl (Nat.zero_le _) (Nat.zero_le _)
    · refine sd_iconst (pc := 46) 2 d1_sideOn_46 ci_2 ?_
      refine sd_goto (pc := 47) 52 d1_sideOn_47 (by decide) ?_
      exact sd_iret (pc := 52) d1_sideOn_52 rfl (Nat.zero_le _) (Nat.zero_le _)
set_option maxHeartbeats 4000000 in
set_option maxRecDepth 20000 in
theorem s1_sideOn {N : Nat} (F : Nat) (l0 : Int32) (l1 : Int32) (S : sm_t) : sm_P (sm_jI N) k1_sideOn [.int l0, .int l1] (sm_m N S) (x1_sideOn F l0 l1 S) := by
  show sm_S (sm_jI N) k1_sideOn 0 0 0 [some (.int l0), some (.int l1), none, none] [] (sm_m N S) (x1_sideOn F l0 l1 S)
  unfold x1_sideOn
  refine sd_iload_n (pc := 0) d1_sideOn_0 rfl ?_
  refine sd_bipush (pc := 1) 12 d1_sideOn_1 cb_12 ?_
  refine sd_irem (pc := 3) d1_sideOn_3 (by decide) ?_
  refine sd_iload_n (pc := 4) d1_sideOn_4 rfl ?_
  refine sd_bipush (pc := 5) 12 d1_sideOn_5 cb_12 ?_
  refine sd_irem (pc := 7) d1_sideOn_7 (by decide) ?_
  refine sd_isub (pc := 8) d1_sideOn_8 ?_
  refine sd_ni (fun v1 => ?_)
  refine sd_istore_n (lf2 := [some (.int l0), some (.int l1), some (.int v1), none]) (pc := 9) d1_sideOn_9 (Nat.le_of_ble_eq_true rfl) rfl ?_
  refine sd_iload_n (pc := 10) d1_sideOn_10 rfl ?_
  refine sd_bipush (pc := 11) 12 d1_sideOn_11 cb_12 ?_
  refine sd_idiv (pc := 13) d1_sideOn_13 (by decide) ?_
  refine sd_iload_n (pc := 14) d1_sideOn_14 rfl ?_
  refine sd_bipush (pc := 15) 12 d1_sideOn_15 cb_12 ?_
  refine sd_idiv (pc := 17) d1_sideOn_17 (by decide) ?_
  refine sd_isub (pc := 18) d1_sideOn_18 ?_
  refine sd_ni (fun v2 => ?_)
  refine sd_istore_n (lf2 := [some (.int l0), some (.int l1), some (.int v1), some (.int v2)]) (pc := 19) d1_sideOn_19 (Nat.le_of_ble_eq_true rfl) rfl ?_
  refine sd_iload_n (pc := 20) d1_sideOn_20 rfl ?_
  refine sd_if_ne (pc := 21) 31 d1_sideOn_21 (by decide) (fun _ => ?_) (fun _ => ?_)
  · refine sd_iload_n (pc := 24) d1_sideOn_24 rfl ?_
    refine sd_if_ne (pc := 25) 31 d1_sideOn_25 (by decide) (fun _ => ?_) (fun _ => ?_)
    · refine sd_bipush (pc := 28) (-9) d1_sideOn_28 cb_m9 ?_
      exact sd_iret (pc := 30) d1_sideOn_30 rfl (Nat.zero_le _) (Nat.zero_le _)
    · exact sd_fg [false, false, true, true] rfl (s1_sideOn_31 F v1 v2 S)
  · exact sd_fg [false, false, true, true] rfl (s1_sideOn_31 F v1 v2 S)
set_option maxHeartbeats 4000000 in
set_option maxRecDepth 20000 in
theorem s7_far {N : Nat} (F : Nat) (l1 : Int32) (l2 : Int32) (S : sm_t) : sm_P (sm_jI N) k7_far [.ref 3, .int l1, .int l2] (sm_m N S) (x7_far F l1 l2 S) := by
  show sm_S (sm_jI N) k7_far 0 0 0 [some (.ref 3), some (.int l1), some (.int l2)] [] (sm_m N S) (x7_far F l1 l2 S)
  unfold x7_far
  refine sd_iload_n (pc := 0) d7_far_0 rfl ?_
  refine sd_cSI (k2 := k1_isCell) (As := [.int l1]) (rest := []) (pc := 1) 120 d7_far_1 ml7_120 (ms1_isCell) (me1_isCell) ⟨rfl, rfl⟩ ⟨Nat.le_of_ble_eq_true rfl, Nat.le_of_ble_eq_true rfl⟩ (Nat.le_of_ble_eq_true rfl) (Nat.le_of_ble_eq_true rfl) (Or.inr rfl) (Nat.zero_le _) (Nat.zero_le _) rfl (s1_isCell F l1 S) (fun v1 S => ?_)
  refine sd_if_eq (pc := 4) 14 d7_far_4 (by decide) (fun _ => ?_) (fun _ => ?_)
  · refine sd_iconst (pc := 14) (-1) d7_far_14 ci_m1 ?_
    exact sd_iret (pc := 15) d7_far_15 rfl (Nat.zero_le _) (Nat.zero_le _)
  · refine sd_iload_n (pc := 7) d7_far_7 rfl ?_
    refine sd_cSI (k2 := k1_isCell) (As := [.int l2]) (rest := []) (pc := 8) 120 d7_far_8 ml7_120 (ms1_isCell) (me1_isCell) ⟨rfl, rfl⟩ ⟨Nat.le_of_ble_eq_true rfl, Nat.le_of_ble_eq_true rfl⟩ (Nat.le_of_ble_eq_true rfl) (Nat.le_of_ble_eq_true rfl) (Or.inr rfl) (Nat.zero_le _) (Nat.zero_le _) rfl (s1_isCell F l2 S) (fun v2 S => ?_)
    refine sd_if_ne (pc := 11) 16 d7_far_11 (by decide) (fun _ => ?_) (fun _ => ?_)
    · refine sd_iconst (pc := 14) (-1) d7_far_14 ci_m1 ?_
      exact sd_iret (pc := 15) d7_far_15 rfl (Nat.zero_le _) (Nat.zero_le _)
    · refine sd_aload_n (pc := 16) d7_far_16 rfl ?_
      refine sd_iload_n (pc := 17) d7_far_17 rfl ?_
      refine sd_iload_n (pc := 18) d7_far_18 rfl ?_
      refine sd_cSI (k2 := k1_sideOn) (As := [.int l1, .int l2]) (rest := [.ref 3]) (pc := 19) 163 d7_far_19 ml7_163 (ms1_sideOn) (me1_sideOn) ⟨rfl, rfl⟩ ⟨Nat.le_of_ble_eq_true rfl, Nat.le_of_ble_eq_true rfl⟩ (Nat.le_of_ble_eq_true rfl) (Nat.le_of_ble_eq_true rfl) (Or.inl rfl) (Nat.zero_le _) (Nat.zero_le _) rfl (s1_sideOn F l1 l2 S) (fun v3 S => ?_)
      refine sd_putI (pc := 22) (show sm_sq 3 = some (.inr 6) from rfl) rfl fl7_65 rfl d7_far_22 (fun S => ?_)
      refine sd_iload_n (pc := 25) d7_far_25 rfl ?_
      refine sd_iload_n (pc := 26) d7_far_26 rfl ?_
      refine sd_cSI (k2 := k1_apart) (As := [.int l1, .int l2]) (rest := []) (pc := 27) 166 d7_far_27 ml7_166 (ms1_apart) (me1_apart) ⟨rfl, rfl⟩ ⟨Nat.le_of_ble_eq_true rfl, Nat.le_of_ble_eq_true rfl⟩ (Nat.le_of_ble_eq_true rfl) (Nat.le_of_ble_eq_true rfl) (Or.inl rfl) (Nat.zero_le _) (Nat.zero_le _) rfl (s1_apart F l1 l2 S) (fun v4 S => ?_)
      exact sd_iret (pc := 30) d7_far_30 rfl (Nat.zero_le _) (Nat.zero_le _)
set_option maxHeartbeats 4000000 in
set_option maxRecDepth 20000 in
theorem s8_sideOf_31 {N : Nat} (F : Nat) (l2 : Int32) (l3 : Int32) (S : sm_t) : sm_S (sm_jI N) k8_sideOf 0 0 31 [none, none, some (.int l2), some (.int l3)] [] (sm_m N S) (x8_sideOf_31 F l2 l3 S) := by
  unfold x8_sideOf_31
  refine sd_iload_n (pc := 31) d8_sideOf_31 rfl ?_
  refine sd_cSI (k2 := k8_abs) (As := [.int l2]) (rest := []) (pc := 32) 111 d8_sideOf_32 ml8_111 (ms8_abs) (me8_abs) ⟨rfl, rfl⟩ ⟨Nat.le_of_ble_eq_true rfl, Nat.le_of_ble_eq_true rfl⟩ (Nat.le_of_ble_eq_true rfl) (Nat.le_of_ble_eq_true rfl) (Or.inl rfl) (Nat.zero_le _) (Nat.zero_le _) rfl (s8_abs F l2 S) (fun v1 S => ?_)
  refine sd_iconst (pc := 35) 2 d8_sideOf_35 ci_2 ?_
  refine sd_iload_n (pc := 36) d8_sideOf_36 rfl ?_
  refine sd_cSI (k2 := k8_abs) (As := [.int l3]) (rest := [.int 2, .int v1]) (pc := 37) 111 d8_sideOf_37 ml8_111 (ms8_abs) (me8_abs) ⟨rfl, rfl⟩ ⟨Nat.le_of_ble_eq_true rfl, Nat.le_of_ble_eq_true rfl⟩ (Nat.le_of_ble_eq_true rfl) (Nat.le_of_ble_eq_true rfl) (Or.inl rfl) (Nat.zero_le _) (Nat.zero_le _) rfl (s8_abs F l3 S) (fun v2 S => ?_)
  refine sd_imul (pc := 40) d8_sideOf_40 ?_
  refine sd_ic_lt (pc := 41) 55 d8_sideOf_41 (by decide) (fun _ => ?_) (fun _ => ?_)
  · refine sd_iload_n (pc := 55) d8_sideOf_55 rfl ?_
    refine sd_cSI (k2 := k8_abs) (As := [.int l3]) (rest := []) (pc := 56) 111 d8_sideOf_56 ml8_111 (ms8_abs) (me8_abs) ⟨rfl, rfl⟩ ⟨Nat.le_of_ble_eq_true rfl, Nat.le_of_ble_eq_true rfl⟩ (Nat.le_of_ble_eq_true rfl) (Nat.le_of_ble_eq_true rfl) (Or.inl rfl) (Nat.zero_le _) (Nat.zero_le _) rfl (s8_abs F l3 S) (fun v3 S => ?_)
    refine sd_iconst (pc := 59) 2 d8_sideOf_59 ci_2 ?_
    refine sd_iload_n (pc := 60) d8_sideOf_60 rfl ?_
    refine sd_cSI (k2 := k8_abs) (As := [.int l2]) (rest := [.int 2, .int v3]) (pc := 61) 111 d8_sideOf_61 ml8_111 (ms8_abs) (me8_abs) ⟨rfl, rfl⟩ ⟨Nat.le_of_ble_eq_true rfl, Nat.le_of_ble_eq_true rfl⟩ (Nat.le_of_ble_eq_true rfl) (Nat.le_of_ble_eq_true rfl) (Or.inl rfl) (Nat.zero_le _) (Nat.zero_le _) rfl (s8_abs F l2 S) (fun v4 S => ?_)
    refine sd_imul (pc := 64) d8_sideOf_64 ?_
    refine sd_ic_lt (pc := 65) 78 d8_sideOf_65 (by decide) (fun _ => ?_) (fun _ => ?_)
    · refine sd_iload_n (pc := 78) d8_sideOf_78 rfl ?_
      refine sd_if_le (pc := 79) 94 d8_sideOf_79 (by decide) (fun _ => ?_) (fun _ => ?_)
      · refine sd_iload_n (pc := 94) d8_sideOf_94 rfl ?_
        refine sd_if_ge (pc := 95) 103 d8_sideOf_95 (by decide) (fun _ => ?_) (fun _ => ?_)
        · refine sd_iconst (pc := 103) 5 d8_sideOf_103 ci_5 ?_
          exact sd_iret (pc := 104) d8_sideOf_104 rfl (Nat.zero_le _) (Nat.zero_le _)
        · refine sd_bipush (pc := 98) 7 d8_sideOf_98 cb_7 ?_
          refine sd_goto (pc := 100) 104 d8_sideOf_100 (by decide) ?_
          exact sd_iret (pc := 104) d8_sideOf_104 rfl (Nat.zero_le _) (Nat.zero_le _)
      · refine sd_iload_n (pc := 82) d8_sideOf_82 rfl ?_
        refine sd_if_ge (pc := 83) 90 d8_sideOf_83 (by decide) (fun _ => ?_) (fun _ => ?_)
        · refine sd_iconst (pc := 90) 3 d8_sideOf_90 ci_3 ?_
          refine sd_goto (pc := 91) 104 d8_sideOf_91 (by decide) ?_
          exact sd_iret (pc := 104) d8_sideOf_104 rfl (Nat.zero_le _) (Nat.zero_le _)
        · refine sd_iconst (pc := 86) 1 d8_sideOf_86 ci_1 ?_
          refine sd_goto (pc := 87) 104 d8_sideOf_87 (by decide) ?_
          exact sd_iret (pc := 104) d8_sideOf_104 rfl (Nat.zero_le _) (Nat.zero_le _)
    · refine sd_iload_n (pc := 68) d8_sideOf_68 rfl ?_
      refine sd_if_ge (pc := 69) 76 d8_sideOf_69 (by decide) (fun _ => ?_) (fun _ => ?_)
      · refine sd_iconst (pc := 76) 4 d8_sideOf_76 ci_4 ?_
        exact sd_iret (pc := 77) d8_sideOf_77 rfl (Nat.zero_le _) (Nat.zero_le _)
      · refine sd_iconst (pc := 72) 0 d8_sideOf_72 ci_0 ?_
        refine sd_goto (pc := 73) 77 d8_sideOf_73 (by decide) ?_
        exact sd_iret (pc := 77) d8_sideOf_77 rfl (Nat.zero_le _) (Nat.zero_le _)
  · refine sd_iload_n (pc := 44) d8_sideOf_44 rfl ?_
    refine sd_if_le (pc := 45) 52 d8_sideOf_45 (by decide) (fun _ => ?_) (fun _ => ?_)
    · refine sd_bipush (pc := 52) 6 d8_sideOf_52 cb_6 ?_
      exact sd_iret (pc := 54) d8_sideOf_54 rfl (Nat.zero_le _) (Nat.zero_le _)
    · refine sd_iconst (pc := 48) 2 d8_sideOf_48 ci_2 ?_
      refine sd_goto (pc := 49) 54 d8_sideOf_49 (by decide) ?_
      exact sd_iret (pc := 54) d8_sideOf_54 rfl (Nat.zero_le _) (Nat.zero_le _)
set_option maxHeartbeats 4000000 in
set_option maxRecDepth 20000 in
theorem s8_sideOf {N : Nat} (F : Nat) (l0 : Int32) (l1 : Int32) (S : sm_t) : sm_P (sm_jI N) k8_sideOf [.int l0, .int l1] (sm_m N S) (x8_sideOf F l0 l1 S) := by
  show sm_S (sm_jI N) k8_sideOf 0 0 0 [some (.int l0), some (.int l1), none, none] [] (sm_m N S) (x8_sideOf F l0 l1 S)
  unfold x8_sideOf
  refine sd_iload_n (pc := 0) d8_sideOf_0 rfl ?_
  refine sd_bipush (pc := 1) 12 d8_sideOf_1 cb_12 ?_
  refine sd_irem (pc := 3) d8_sideOf_3 (by decide) ?_
  refine sd_iload_n (pc := 4) d8_sideOf_4 rfl ?_
  refine sd_bipush (pc := 5) 12 d8_sideOf_5 cb_12 ?_
  refine sd_irem (pc := 7) d8_sideOf_7 (by decide) ?_
  refine sd_isub (pc := 8) d8_sideOf_8 ?_
  refine sd_ni (fun v1 => ?_)
  refine sd_istore_n (lf2 := [some (.int l0), some (.int l1), some (.int v1), none]) (pc := 9) d8_sideOf_9 (Nat.le_of_ble_eq_true rfl) rfl ?_
  refine sd_iload_n (pc := 10) d8_sideOf_10 rfl ?_
  refine sd_bipush (pc := 11) 12 d8_sideOf_11 cb_12 ?_
  refine sd_idiv (pc := 13) d8_sideOf_13 (by decide) ?_
  refine sd_iload_n (pc := 14) d8_sideOf_14 rfl ?_
  refine sd_bipush (pc := 15) 12 d8_sideOf_15 cb_12 ?_
  refine sd_idiv (pc := 17) d8_sideOf_17 (by decide) ?_
  refine sd_isub (pc := 18) d8_sideOf_18 ?_
  refine sd_ni (fun v2 => ?_)
  refine sd_istore_n (lf2 := [some (.int l0), some (.int l1), some (.int v1), some (.int v2)]) (pc := 19) d8_sideOf_19 (Nat.le_of_ble_eq_true rfl) rfl ?_
  refine sd_iload_n (pc := 20) d8_sideOf_20 rfl ?_
  refine sd_if_ne (pc := 21) 31 d8_sideOf_21 (by decide) (fun _ => ?_) (fun _ => ?_)
  · refine sd_iload_n (pc := 24) d8_sideOf_24 rfl ?_
    refine sd_if_ne (pc := 25) 31 d8_sideOf_25 (by decide) (fun _ => ?_) (fun _ => ?_)
    · refine sd_bipush (pc := 28) (-9) d8_sideOf_28 cb_m9 ?_
      exact sd_iret (pc := 30) d8_sideOf_30 rfl (Nat.zero_le _) (Nat.zero_le _)
    · exact sd_fg [false, false, true, true] rfl (s8_sideOf_31 F v1 v2 S)
  · exact sd_fg [false, false, true, true] rfl (s8_sideOf_31 F v1 v2 S)
set_option maxHeartbeats 4000000 in
set_option maxRecDepth 20000 in
theorem s8_far {N : Nat} (F : Nat) (l1 : Int32) (l2 : Int32) (S : sm_t) : sm_P (sm_jI N) k8_far [.ref 52, .int l1, .int l2] (sm_m N S) (x8_far F l1 l2 S) := by
  show sm_S (sm_jI N) k8_far 0 0 0 [some (.ref 52), some (.int l1), some (.int l2)] [] (sm_m N S) (x8_far F l1 l2 S)
  unfold x8_far
  refine sd_iload_n (pc := 0) d8_far_0 rfl ?_
  refine sd_cSI (k2 := k8_isCell) (As := [.int l1]) (rest := []) (pc := 1) 117 d8_far_1 ml8_117 (ms8_isCell) (me8_isCell) ⟨rfl, rfl⟩ ⟨Nat.le_of_ble_eq_true rfl, Nat.le_of_ble_eq_true rfl⟩ (Nat.le_of_ble_eq_true rfl) (Nat.le_of_ble_eq_true rfl) (Or.inr rfl) (Nat.zero_le _) (Nat.zero_le _) rfl (s8_isCell F l1 S) (fun v1 S => ?_)
  refine sd_if_eq (pc := 4) 31 d8_far_4 (by decide) (fun _ => ?_) (fun _ => ?_)
  · refine sd_iconst (pc := 31) (-1) d8_far_31 ci_m1 ?_
    exact sd_iret (pc := 32) d8_far_32 rfl (Nat.zero_le _) (Nat.zero_le _)
  · refine sd_iload_n (pc := 7) d8_far_7 rfl ?_
    refine sd_cSI (k2 := k8_isCell) (As := [.int l2]) (rest := []) (pc := 8) 117 d8_far_8 ml8_117 (ms8_isCell) (me8_isCell) ⟨rfl, rfl⟩ ⟨Nat.le_of_ble_eq_true rfl, Nat.le_of_ble_eq_true rfl⟩ (Nat.le_of_ble_eq_true rfl) (Nat.le_of_ble_eq_true rfl) (Or.inr rfl) (Nat.zero_le _) (Nat.zero_le _) rfl (s8_isCell F l2 S) (fun v2 S => ?_)
    refine sd_if_eq (pc := 11) 31 d8_far_11 (by decide) (fun _ => ?_) (fun _ => ?_)
    · refine sd_iconst (pc := 31) (-1) d8_far_31 ci_m1 ?_
      exact sd_iret (pc := 32) d8_far_32 rfl (Nat.zero_le _) (Nat.zero_le _)
    · refine sd_aload_n (pc := 14) d8_far_14 rfl ?_
      refine sd_iload_n (pc := 15) d8_far_15 rfl ?_
      refine sd_iload_n (pc := 16) d8_far_16 rfl ?_
      refine sd_cSI (k2 := k8_sideOf) (As := [.int l1, .int l2]) (rest := [.ref 52]) (pc := 17) 120 d8_far_17 ml8_120 (ms8_sideOf) (me8_sideOf) ⟨rfl, rfl⟩ ⟨Nat.le_of_ble_eq_true rfl, Nat.le_of_ble_eq_true rfl⟩ (Nat.le_of_ble_eq_true rfl) (Nat.le_of_ble_eq_true rfl) (Or.inl rfl) (Nat.zero_le _) (Nat.zero_le _) rfl (s8_sideOf F l1 l2 S) (fun v3 S => ?_)
      refine sd_iload_n (pc := 20) d8_far_20 rfl ?_
      refine sd_iload_n (pc := 21) d8_far_21 rfl ?_
      refine sd_cSI (k2 := k8_farOf) (As := [.int l1, .int l2]) (rest := [.int v3, .ref 52]) (pc := 22) 123 d8_far_22 ml8_123 (ms8_farOf) (me8_farOf) ⟨rfl, rfl⟩ ⟨Nat.le_of_ble_eq_true rfl, Nat.le_of_ble_eq_true rfl⟩ (Nat.le_of_ble_eq_true rfl) (Nat.le_of_ble_eq_true rfl) (Or.inl rfl) (Nat.zero_le _) (Nat.zero_le _) rfl (s8_farOf F l1 l2 S) (fun v4 S => ?_)
      refine sd_cVI (k2 := k8_ask) (As := [.int v3, .int v4]) (rest := []) (b := 52) (ci := 7) (pc := 25) 102 (show sm_sq 52 = some (.inr 7) from rfl) (by decide) rfl d8_far_25 ml8_102 (ms8_ask).1 (ms8_ask).2 (me8_ask) ⟨rfl, rfl⟩ ⟨Nat.le_of_ble_eq_true rfl, Nat.le_of_ble_eq_true rfl⟩ (Nat.le_of_ble_eq_true rfl) (Nat.le_of_ble_eq_true rfl) (Or.inl rfl) (Nat.zero_le _) (Nat.zero_le _) rfl (s8_ask F v3 v4 S) (fun v5 S => ?_)
      refine sd_goto (pc := 28) 32 d8_far_28 (by decide) ?_
      exact sd_iret (pc := 32) d8_far_32 rfl (Nat.zero_le _) (Nat.zero_le _)
set_option maxHeartbeats 4000000 in
set_option maxRecDepth 20000 in
theorem s6_fits {N : Nat} (F : Nat) (l0 : Int32) (l1 : Int32) (l2 : Int32) (l3 : Int32) (S : sm_t) : sm_P (sm_jI N) k6_fits [.int l0, .int l1, .int l2, .int l3] (sm_m N S) (x6_fits F l0 l1 l2 l3 S) := by
  show sm_S (sm_jI N) k6_fits 0 0 0 [some (.int l0), some (.int l1), some (.int l2), some (.int l3)] [] (sm_m N S) (x6_fits F l0 l1 l2 l3 S)
  unfold x6_fits
  refine sd_iload_n (pc := 0) d6_fits_0 rfl ?_
  refine sd_ite (fun h1 => ?_) (fun _ => ?_)
  · refine sd_swo (pc := 1) 206 d6_fits_1 (sm_so (by decide) (by decide) h1) (by decide) ?_
    refine sd_iconst (pc := 206) 0 d6_fits_206 ci_0 ?_
    exact sd_zret (pc := 207) d6_fits_207 (by decide) (Nat.zero_le _) (Nat.zero_le _)
  refine sd_ite (fun h2 => ?_) (fun _ => ?_)
  · refine sd_swi (off := 47) (pc := 1) 48 d6_fits_1 (by rw [h2]; decide) (by rw [h2]; decide) (by rw [h2]; decide) (by decide) ?_
    refine sd_iconst (pc := 48) 1 d6_fits_48 ci_1 ?_
    exact sd_zret (pc := 49) d6_fits_49 (by decide) (Nat.zero_le _) (Nat.zero_le _)
  refine sd_ite (fun h6 => ?_) (fun _ => ?_)
  · refine sd_swi (off := 49) (pc := 1) 50 d6_fits_1 (by rw [h6]; decide) (by rw [h6]; decide) (by rw [h6]; decide) (by decide) ?_
    refine sd_iload_n (pc := 50) d6_fits_50 rfl ?_
    refine sd_bipush (pc := 51) 6 d6_fits_51 cb_6 ?_
    refine sd_cNI (k2 := k7_isWithin) (As := [.int l1, .int 6]) (rest := []) (pc := 53) 30 "TwoFliers" d6_fits_53 ml6_30 (ms7_isWithin) (me7_isWithin) ⟨rfl, rfl⟩ ⟨Nat.le_of_ble_eq_true rfl, Nat.le_of_ble_eq_true rfl⟩ (Nat.le_of_ble_eq_true rfl) (Nat.le_of_ble_eq_true rfl) (Or.inr rfl) (Nat.zero_le _) (Nat.zero_le _) rfl (s7_isWithin F l1 6 S) (fun v3 S => ?_)
    refine sd_if_eq (pc := 56) 78 d6_fits_56 (by decide) (fun _ => ?_) (fun _ => ?_)
    · refine sd_iconst (pc := 78) 0 d6_fits_78 ci_0 ?_
      exact sd_zret (pc := 79) d6_fits_79 (by decide) (Nat.zero_le _) (Nat.zero_le _)
    · refine sd_iload_n (pc := 59) d6_fits_59 rfl ?_
      refine sd_cSI (k2 := k1_isCell) (As := [.int l2]) (rest := []) (pc := 60) 34 d6_fits_60 ml6_34 (ms1_isCell) (me1_isCell) ⟨rfl, rfl⟩ ⟨Nat.le_of_ble_eq_true rfl, Nat.le_of_ble_eq_true rfl⟩ (Nat.le_of_ble_eq_true rfl) (Nat.le_of_ble_eq_true rfl) (Or.inr rfl) (Nat.zero_le _) (Nat.zero_le _) rfl (s1_isCell F l2 S) (fun v4 S => ?_)
      refine sd_if_eq (pc := 63) 78 d6_fits_63 (by decide) (fun _ => ?_) (fun _ => ?_)
      · refine sd_iconst (pc := 78) 0 d6_fits_78 ci_0 ?_
        exact sd_zret (pc := 79) d6_fits_79 (by decide) (Nat.zero_le _) (Nat.zero_le _)
      · refine sd_iload_n (pc := 66) d6_fits_66 rfl ?_
        refine sd_iconst (pc := 67) 5 d6_fits_67 ci_5 ?_
        refine sd_cNI (k2 := k7_isWithin) (As := [.int l3, .int 5]) (rest := []) (pc := 68) 30 "TwoFliers" d6_fits_68 ml6_30 (ms7_isWithin) (me7_isWithin) ⟨rfl, rfl⟩ ⟨Nat.le_of_ble_eq_true rfl, Nat.le_of_ble_eq_true rfl⟩ (Nat.le_of_ble_eq_true rfl) (Nat.le_of_ble_eq_true rfl) (Or.inr rfl) (Nat.zero_le _) (Nat.zero_le _) rfl (s7_isWithin F l3 5 S) (fun v5 S => ?_)
        refine sd_if_eq (pc := 71) 78 d6_fits_71 (by decide) (fun _ => ?_) (fun _ => ?_)
        · refine sd_iconst (pc := 78) 0 d6_fits_78 ci_0 ?_
          exact sd_zret (pc := 79) d6_fits_79 (by decide) (Nat.zero_le _) (Nat.zero_le _)
        · refine sd_iconst (pc := 74) 1 d6_fits_74 ci_1 ?_
          refine sd_goto (pc := 75) 79 d6_fits_75 (by decide) ?_
          exact sd_zret (pc := 79) d6_fits_79 (by decide) (Nat.zero_le _) (Nat.zero_le _)
  refine sd_ite (fun h10 => ?_) (fun _ => ?_)
  · refine sd_swi (off := 79) (pc := 1) 80 d6_fits_1 (by rw [h10]; decide) (by rw [h10]; decide) (by rw [h10]; decide) (by decide) ?_
    refine sd_iload_n (pc := 80) d6_fits_80 rfl ?_
    refine sd_bipush (pc := 81) 6 d6_fits_81 cb_6 ?_
    refine sd_cNI (k2 := k7_isWithin) (As := [.int l1, .int 6]) (rest := []) (pc := 83) 30 "TwoFliers" d6_fits_83 ml6_30 (ms7_isWithin) (me7_isWithin) ⟨rfl, rfl⟩ ⟨Nat.le_of_ble_eq_true rfl, Nat.le_of_ble_eq_true rfl⟩ (Nat.le_of_ble_eq_true rfl) (Nat.le_of_ble_eq_true rfl) (Or.inr rfl) (Nat.zero_le _) (Nat.zero_le _) rfl (s7_isWithin F l1 6 S) (fun v7 S => ?_)
    refine sd_if_eq (pc := 86) 108 d6_fits_86 (by decide) (fun _ => ?_) (fun _ => ?_)
    · refine sd_iconst (pc := 108) 0 d6_fits_108 ci_0 ?_
      exact sd_zret (pc := 109) d6_fits_109 (by decide) (Nat.zero_le _) (Nat.zero_le _)
    · refine sd_iload_n (pc := 89) d6_fits_89 rfl ?_
      refine sd_cSI (k2 := k1_isCell) (As := [.int l2]) (rest := []) (pc := 90) 34 d6_fits_90 ml6_34 (ms1_isCell) (me1_isCell) ⟨rfl, rfl⟩ ⟨Nat.le_of_ble_eq_true rfl, Nat.le_of_ble_eq_true rfl⟩ (Nat.le_of_ble_eq_true rfl) (Nat.le_of_ble_eq_true rfl) (Or.inr rfl) (Nat.zero_le _) (Nat.zero_le _) rfl (s1_isCell F l2 S) (fun v8 S => ?_)
      refine sd_if_eq (pc := 93) 108 d6_fits_93 (by decide) (fun _ => ?_) (fun _ => ?_)
      · refine sd_iconst (pc := 108) 0 d6_fits_108 ci_0 ?_
        exact sd_zret (pc := 109) d6_fits_109 (by decide) (Nat.zero_le _) (Nat.zero_le _)
      · refine sd_iload_n (pc := 96) d6_fits_96 rfl ?_
        refine sd_iconst (pc := 97) 5 d6_fits_97 ci_5 ?_
        refine sd_cNI (k2 := k7_isWithin) (As := [.int l3, .int 5]) (rest := []) (pc := 98) 30 "TwoFliers" d6_fits_98 ml6_30 (ms7_isWithin) (me7_isWithin) ⟨rfl, rfl⟩ ⟨Nat.le_of_ble_eq_true rfl, Nat.le_of_ble_eq_true rfl⟩ (Nat.le_of_ble_eq_true rfl) (Nat.le_of_ble_eq_true rfl) (Or.inr rfl) (Nat.zero_le _) (Nat.zero_le _) rfl (s7_isWithin F l3 5 S) (fun v9 S => ?_)
        refine sd_if_eq (pc := 101) 108 d6_fits_101 (by decide) (fun _ => ?_) (fun _ => ?_)
        · refine sd_iconst (pc := 108) 0 d6_fits_108 ci_0 ?_
          exact sd_zret (pc := 109) d6_fits_109 (by decide) (Nat.zero_le _) (Nat.zero_le _)
        · refine sd_iconst (pc := 104) 1 d6_fits_104 ci_1 ?_
          refine sd_goto (pc := 105) 109 d6_fits_105 (by decide) ?_
          exact sd_zret (pc := 109) d6_fits_109 (by decide) (Nat.zero_le _) (Nat.zero_le _)
  refine sd_ite (fun h12 => ?_) (fun _ => ?_)
  · refine sd_swi (off := 109) (pc := 1) 110 d6_fits_1 (by rw [h12]; decide) (by rw [h12]; decide) (by rw [h12]; decide) (by decide) ?_
    refine sd_iload_n (pc := 110) d6_fits_110 rfl ?_
    refine sd_bipush (pc := 111) 6 d6_fits_111 cb_6 ?_
    refine sd_cNI (k2 := k7_isWithin) (As := [.int l1, .int 6]) (rest := []) (pc := 113) 30 "TwoFliers" d6_fits_113 ml6_30 (ms7_isWithin) (me7_isWithin) ⟨rfl, rfl⟩ ⟨Nat.le_of_ble_eq_true rfl, Nat.le_of_ble_eq_true rfl⟩ (Nat.le_of_ble_eq_true rfl) (Nat.le_of_ble_eq_true rfl) (Or.inr rfl) (Nat.zero_le _) (Nat.zero_le _) rfl (s7_isWithin F l1 6 S) (fun v11 S => ?_)
    exact sd_zrv (pc := 116) d6_fits_116 (Nat.zero_le _) (Nat.zero_le _)
  refine sd_ite (fun h16 => ?_) (fun _ => ?_)
  · refine sd_swi (off := 116) (pc := 1) 117 d6_fits_1 (by rw [h16]; decide) (by rw [h16]; decide) (by rw [h16]; decide) (by decide) ?_
    refine sd_iload_n (pc := 117) d6_fits_117 rfl ?_
    refine sd_cSI (k2 := k1_isCell) (As := [.int l1]) (rest := []) (pc := 118) 34 d6_fits_118 ml6_34 (ms1_isCell) (me1_isCell) ⟨rfl, rfl⟩ ⟨Nat.le_of_ble_eq_true rfl, Nat.le_of_ble_eq_true rfl⟩ (Nat.le_of_ble_eq_true rfl) (Nat.le_of_ble_eq_true rfl) (Or.inr rfl) (Nat.zero_le _) (Nat.zero_le _) rfl (s1_isCell F l1 S) (fun v13 S => ?_)
    refine sd_if_eq (pc := 121) 144 d6_fits_121 (by decide) (fun _ => ?_) (fun _ => ?_)
    · refine sd_iconst (pc := 144) 0 d6_fits_144 ci_0 ?_
      exact sd_zret (pc := 145) d6_fits_145 (by decide) (Nat.zero_le _) (Nat.zero_le _)
    · refine sd_iload_n (pc := 124) d6_fits_124 rfl ?_
      refine sd_cSI (k2 := k1_isCell) (As := [.int l2]) (rest := []) (pc := 125) 34 d6_fits_125 ml6_34 (ms1_isCell) (me1_isCell) ⟨rfl, rfl⟩ ⟨Nat.le_of_ble_eq_true rfl, Nat.le_of_ble_eq_true rfl⟩ (Nat.le_of_ble_eq_true rfl) (Nat.le_of_ble_eq_true rfl) (Or.inr rfl) (Nat.zero_le _) (Nat.zero_le _) rfl (s1_isCell F l2 S) (fun v14 S => ?_)
      refine sd_if_eq (pc := 128) 144 d6_fits_128 (by decide) (fun _ => ?_) (fun _ => ?_)
      · refine sd_iconst (pc := 144) 0 d6_fits_144 ci_0 ?_
        exact sd_zret (pc := 145) d6_fits_145 (by decide) (Nat.zero_le _) (Nat.zero_le _)
      · refine sd_iload_n (pc := 131) d6_fits_131 rfl ?_
        refine sd_bipush (pc := 132) 12 d6_fits_132 cb_12 ?_
        refine sd_cNI (k2 := k7_isWithin) (As := [.int l3, .int 12]) (rest := []) (pc := 134) 30 "TwoFliers" d6_fits_134 ml6_30 (ms7_isWithin) (me7_isWithin) ⟨rfl, rfl⟩ ⟨Nat.le_of_ble_eq_true rfl, Nat.le_of_ble_eq_true rfl⟩ (Nat.le_of_ble_eq_true rfl) (Nat.le_of_ble_eq_true rfl) (Or.inr rfl) (Nat.zero_le _) (Nat.zero_le _) rfl (s7_isWithin F l3 12 S) (fun v15 S => ?_)
        refine sd_if_eq (pc := 137) 144 d6_fits_137 (by decide) (fun _ => ?_) (fun _ => ?_)
        · refine sd_iconst (pc := 144) 0 d6_fits_144 ci_0 ?_
          exact sd_zret (pc := 145) d6_fits_145 (by decide) (Nat.zero_le _) (Nat.zero_le _)
        · refine sd_iconst (pc := 140) 1 d6_fits_140 ci_1 ?_
          refine sd_goto (pc := 141) 145 d6_fits_141 (by decide) ?_
          exact sd_zret (pc := 145) d6_fits_145 (by decide) (Nat.zero_le _) (Nat.zero_le _)
  refine sd_ite (fun h20 => ?_) (fun _ => ?_)
  · refine sd_swi (off := 145) (pc := 1) 146 d6_fits_1 (by rw [h20]; decide) (by rw [h20]; decide) (by rw [h20]; decide) (by decide) ?_
    refine sd_iload_n (pc := 146) d6_fits_146 rfl ?_
    refine sd_cSI (k2 := k1_isCell) (As := [.int l1]) (rest := []) (pc := 147) 34 d6_fits_147 ml6_34 (ms1_isCell) (me1_isCell) ⟨rfl, rfl⟩ ⟨Nat.le_of_ble_eq_true rfl, Nat.le_of_ble_eq_true rfl⟩ (Nat.le_of_ble_eq_true rfl) (Nat.le_of_ble_eq_true rfl) (Or.inr rfl) (Nat.zero_le _) (Nat.zero_le _) rfl (s1_isCell F l1 S) (fun v17 S => ?_)
    refine sd_if_eq (pc := 150) 173 d6_fits_150 (by decide) (fun _ => ?_) (fun _ => ?_)
    · refine sd_iconst (pc := 173) 0 d6_fits_173 ci_0 ?_
      exact sd_zret (pc := 174) d6_fits_174 (by decide) (Nat.zero_le _) (Nat.zero_le _)
    · refine sd_iload_n (pc := 153) d6_fits_153 rfl ?_
      refine sd_cSI (k2 := k1_isSide) (As := [.int l2]) (rest := []) (pc := 154) 40 d6_fits_154 ml6_40 (ms1_isSide) (me1_isSide) ⟨rfl, rfl⟩ ⟨Nat.le_of_ble_eq_true rfl, Nat.le_of_ble_eq_true rfl⟩ (Nat.le_of_ble_eq_true rfl) (Nat.le_of_ble_eq_true rfl) (Or.inr rfl) (Nat.zero_le _) (Nat.zero_le _) rfl (s1_isSide F l2 S) (fun v18 S => ?_)
      refine sd_if_eq (pc := 157) 173 d6_fits_157 (by decide) (fun _ => ?_) (fun _ => ?_)
      · refine sd_iconst (pc := 173) 0 d6_fits_173 ci_0 ?_
        exact sd_zret (pc := 174) d6_fits_174 (by decide) (Nat.zero_le _) (Nat.zero_le _)
      · refine sd_iload_n (pc := 160) d6_fits_160 rfl ?_
        refine sd_bipush (pc := 161) 12 d6_fits_161 cb_12 ?_
        refine sd_cNI (k2 := k7_isWithin) (As := [.int l3, .int 12]) (rest := []) (pc := 163) 30 "TwoFliers" d6_fits_163 ml6_30 (ms7_isWithin) (me7_isWithin) ⟨rfl, rfl⟩ ⟨Nat.le_of_ble_eq_true rfl, Nat.le_of_ble_eq_true rfl⟩ (Nat.le_of_ble_eq_true rfl) (Nat.le_of_ble_eq_true rfl) (Or.inr rfl) (Nat.zero_le _) (Nat.zero_le _) rfl (s7_isWithin F l3 12 S) (fun v19 S => ?_)
        refine sd_if_eq (pc := 166) 173 d6_fits_166 (by decide) (fun _ => ?_) (fun _ => ?_)
        · refine sd_iconst (pc := 173) 0 d6_fits_173 ci_0 ?_
          exact sd_zret (pc := 174) d6_fits_174 (by decide) (Nat.zero_le _) (Nat.zero_le _)
        · refine sd_iconst (pc := 169) 1 d6_fits_169 ci_1 ?_
          refine sd_goto (pc := 170) 174 d6_fits_170 (by decide) ?_
          exact sd_zret (pc := 174) d6_fits_174 (by decide) (Nat.zero_le _) (Nat.zero_le _)
  refine sd_ite (fun h24 => ?_) (fun _ => ?_)
  · refine sd_swi (off := 145) (pc := 1) 146 d6_fits_1 (by rw [h24]; decide) (by rw [h24]; decide) (by rw [h24]; decide) (by decide) ?_
    refine sd_iload_n (pc := 146) d6_fits_146 rfl ?_
    refine sd_cSI (k2 := k1_isCell) (As := [.int l1]) (rest := []) (pc := 147) 34 d6_fits_147 ml6_34 (ms1_isCell) (me1_isCell) ⟨rfl, rfl⟩ ⟨Nat.le_of_ble_eq_true rfl, Nat.le_of_ble_eq_true rfl⟩ (Nat.le_of_ble_eq_true rfl) (Nat.le_of_ble_eq_true rfl) (Or.inr rfl) (Nat.zero_le _) (Nat.zero_le _) rfl (s1_isCell F l1 S) (fun v21 S => ?_)
    refine sd_if_eq (pc := 150) 173 d6_fits_150 (by decide) (fun _ => ?_) (fun _ => ?_)
    · refine sd_iconst (pc := 173) 0 d6_fits_173 ci_0 ?_
      exact sd_zret (pc := 174) d6_fits_174 (by decide) (Nat.zero_le _) (Nat.zero_le _)
    · refine sd_iload_n (pc := 153) d6_fits_153 rfl ?_
      refine sd_cSI (k2 := k1_isSide) (As := [.int l2]) (rest := []) (pc := 154) 40 d6_fits_154 ml6_40 (ms1_isSide) (me1_isSide) ⟨rfl, rfl⟩ ⟨Nat.le_of_ble_eq_true rfl, Nat.le_of_ble_eq_true rfl⟩ (Nat.le_of_ble_eq_true rfl) (Nat.le_of_ble_eq_true rfl) (Or.inr rfl) (Nat.zero_le _) (Nat.zero_le _) rfl (s1_isSide F l2 S) (fun v22 S => ?_)
      refine sd_if_eq (pc := 157) 173 d6_fits_157 (by decide) (fun _ => ?_) (fun _ => ?_)
      · refine sd_iconst (pc := 173) 0 d6_fits_173 ci_0 ?_
        exact sd_zret (pc := 174) d6_fits_174 (by decide) (Nat.zero_le _) (Nat.zero_le _)
      · refine sd_iload_n (pc := 160) d6_fits_160 rfl ?_
        refine sd_bipush (pc := 161) 12 d6_fits_161 cb_12 ?_
        refine sd_cNI (k2 := k7_isWithin) (As := [.int l3, .int 12]) (rest := []) (pc := 163) 30 "TwoFliers" d6_fits_163 ml6_30 (ms7_isWithin) (me7_isWithin) ⟨rfl, rfl⟩ ⟨Nat.le_of_ble_eq_true rfl, Nat.le_of_ble_eq_true rfl⟩ (Nat.le_of_ble_eq_true rfl) (Nat.le_of_ble_eq_true rfl) (Or.inr rfl) (Nat.zero_le _) (Nat.zero_le _) rfl (s7_isWithin F l3 12 S) (fun v23 S => ?_)
        refine sd_if_eq (pc := 166) 173 d6_fits_166 (by decide) (fun _ => ?_) (fun _ => ?_)
        · refine sd_iconst (pc := 173) 0 d6_fits_173 ci_0 ?_
          exact sd_zret (pc := 174) d6_fits_174 (by decide) (Nat.zero_le _) (Nat.zero_le _)
        · refine sd_iconst (pc := 169) 1 d6_fits_169 ci_1 ?_
          refine sd_goto (pc := 170) 174 d6_fits_170 (by decide) ?_
          exact sd_zret (pc := 174) d6_fits_174 (by decide) (Nat.zero_le _) (Nat.zero_le _)
  refine sd_ite (fun h28 => ?_) (fun _ => ?_)
  · refine sd_swi (off := 174) (pc := 1) 175 d6_fits_1 (by rw [h28]; decide) (by rw [h28]; decide) (by rw [h28]; decide) (by decide) ?_
    refine sd_iload_n (pc := 175) d6_fits_175 rfl ?_
    refine sd_cSI (k2 := k1_isCell) (As := [.int l1]) (rest := []) (pc := 176) 34 d6_fits_176 ml6_34 (ms1_isCell) (me1_isCell) ⟨rfl, rfl⟩ ⟨Nat.le_of_ble_eq_true rfl, Nat.le_of_ble_eq_true rfl⟩ (Nat.le_of_ble_eq_true rfl) (Nat.le_of_ble_eq_true rfl) (Or.inr rfl) (Nat.zero_le _) (Nat.zero_le _) rfl (s1_isCell F l1 S) (fun v25 S => ?_)
    refine sd_if_eq (pc := 179) 204 d6_fits_179 (by decide) (fun _ => ?_) (fun _ => ?_)
    · refine sd_iconst (pc := 204) 0 d6_fits_204 ci_0 ?_
      exact sd_zret (pc := 205) d6_fits_205 (by decide) (Nat.zero_le _) (Nat.zero_le _)
    · refine sd_iload_n (pc := 182) d6_fits_182 rfl ?_
      refine sd_bipush (pc := 183) 9 d6_fits_183 cb_9 ?_
      refine sd_cNI (k2 := k7_isWithin) (As := [.int l2, .int 9]) (rest := []) (pc := 185) 30 "TwoFliers" d6_fits_185 ml6_30 (ms7_isWithin) (me7_isWithin) ⟨rfl, rfl⟩ ⟨Nat.le_of_ble_eq_true rfl, Nat.le_of_ble_eq_true rfl⟩ (Nat.le_of_ble_eq_true rfl) (Nat.le_of_ble_eq_true rfl) (Or.inr rfl) (Nat.zero_le _) (Nat.zero_le _) rfl (s7_isWithin F l2 9 S) (fun v26 S => ?_)
      refine sd_if_eq (pc := 188) 204 d6_fits_188 (by decide) (fun _ => ?_) (fun _ => ?_)
      · refine sd_iconst (pc := 204) 0 d6_fits_204 ci_0 ?_
        exact sd_zret (pc := 205) d6_fits_205 (by decide) (Nat.zero_le _) (Nat.zero_le _)
      · refine sd_iload_n (pc := 191) d6_fits_191 rfl ?_
        refine sd_bipush (pc := 192) 12 d6_fits_192 cb_12 ?_
        refine sd_cNI (k2 := k7_isWithin) (As := [.int l3, .int 12]) (rest := []) (pc := 194) 30 "TwoFliers" d6_fits_194 ml6_30 (ms7_isWithin) (me7_isWithin) ⟨rfl, rfl⟩ ⟨Nat.le_of_ble_eq_true rfl, Nat.le_of_ble_eq_true rfl⟩ (Nat.le_of_ble_eq_true rfl) (Nat.le_of_ble_eq_true rfl) (Or.inr rfl) (Nat.zero_le _) (Nat.zero_le _) rfl (s7_isWithin F l3 12 S) (fun v27 S => ?_)
        refine sd_if_eq (pc := 197) 204 d6_fits_197 (by decide) (fun _ => ?_) (fun _ => ?_)
        · refine sd_iconst (pc := 204) 0 d6_fits_204 ci_0 ?_
          exact sd_zret (pc := 205) d6_fits_205 (by decide) (Nat.zero_le _) (Nat.zero_le _)
        · refine sd_iconst (pc := 200) 1 d6_fits_200 ci_1 ?_
          refine sd_goto (pc := 201) 205 d6_fits_201 (by decide) ?_
          exact sd_zret (pc := 205) d6_fits_205 (by decide) (Nat.zero_le _) (Nat.zero_le _)
  exact sd_none
set_option maxHeartbeats 4000000 in
set_option maxRecDepth 20000 in
theorem s6_become_58 {N : Nat} (F : Nat) (l0 : Nat) (l4 : Int32) (l6 : Int32) (t0 : Nat) (t1 : Int32) (S : sm_t) : sm_S (sm_jV N) k6_become 0 0 58 [some (.ref l0), none, none, none, some (.int l4), none, some (.int l6)] [.int t1, .ref t0] (sm_m N S) (x6_become_58 F l0 l4 l6 t0 t1 S) := by
  unfold x6_become_58
  refine sd_on (fun h1 => ?_)
  refine sd_putI (pc := 58) h1 rfl fl6_18 rfl d6_become_58 (fun S => ?_)
  refine sd_aload_n (pc := 61) d6_become_61 rfl ?_
  refine sd_iload (pc := 62) d6_become_62 rfl ?_
  refine sd_if_eq (pc := 64) 72 d6_become_64 (by decide) (fun _ => ?_) (fun _ => ?_)
  · refine sd_iconst (pc := 72) 0 d6_become_72 ci_0 ?_
    refine sd_on (fun h2 => ?_)
    refine sd_putI (pc := 73) h2 rfl fl6_21 rfl d6_become_73 (fun S => ?_)
    refine sd_aload_n (pc := 76) d6_become_76 rfl ?_
    refine sd_iconst (pc := 77) 0 d6_become_77 ci_0 ?_
    refine sd_putZ (pc := 78) (by decide) h2 rfl fl6_24 rfl d6_become_78 (fun S => ?_)
    exact sd_vret (pc := 81) d6_become_81 (Nat.zero_le _) (Nat.zero_le _)
  · refine sd_iload (pc := 67) d6_become_67 rfl ?_
    refine sd_goto (pc := 69) 73 d6_become_69 (by decide) ?_
    refine sd_on (fun h3 => ?_)
    refine sd_putI (pc := 73) h3 rfl fl6_21 rfl d6_become_73 (fun S => ?_)
    refine sd_aload_n (pc := 76) d6_become_76 rfl ?_
    refine sd_iconst (pc := 77) 0 d6_become_77 ci_0 ?_
    refine sd_putZ (pc := 78) (by decide) h3 rfl fl6_24 rfl d6_become_78 (fun S => ?_)
    exact sd_vret (pc := 81) d6_become_81 (Nat.zero_le _) (Nat.zero_le _)
set_option maxHeartbeats 4000000 in
set_option maxRecDepth 20000 in
theorem s6_become_44 {N : Nat} (F : Nat) (l0 : Nat) (l3 : Int32) (l4 : Int32) (l6 : Int32) (t0 : Nat) (t1 : Int32) (S : sm_t) : sm_S (sm_jV N) k6_become 0 0 44 [some (.ref l0), none, none, some (.int l3), some (.int l4), none, some (.int l6)] [.int t1, .ref t0] (sm_m N S) (x6_become_44 F l0 l3 l4 l6 t0 t1 S) := by
  unfold x6_become_44
  refine sd_on (fun h1 => ?_)
  refine sd_putI (pc := 44) h1 rfl fl6_15 rfl d6_become_44 (fun S => ?_)
  refine sd_aload_n (pc := 47) d6_become_47 rfl ?_
  refine sd_iload (pc := 48) d6_become_48 rfl ?_
  refine sd_if_eq (pc := 50) 57 d6_become_50 (by decide) (fun _ => ?_) (fun _ => ?_)
  · refine sd_iconst (pc := 57) 0 d6_become_57 ci_0 ?_
    exact sd_fg [true, true, true, false, true, true, true] rfl (s6_become_58 F l0 l4 l6 l0 0 S)
  · refine sd_iload_n (pc := 53) d6_become_53 rfl ?_
    refine sd_goto (pc := 54) 58 d6_become_54 (by decide) ?_
    exact sd_fg [true, true, true, false, true, true, true] rfl (s6_become_58 F l0 l4 l6 l0 l3 S)
set_option maxHeartbeats 4000000 in
set_option maxRecDepth 20000 in
theorem s6_become_26 {N : Nat} (F : Nat) (l0 : Nat) (l1 : Int32) (l2 : Int32) (l3 : Int32) (l4 : Int32) (l5 : Int32) (t0 : Int32) (S : sm_t) : sm_S (sm_jV N) k6_become 0 0 26 [some (.ref l0), some (.int l1), some (.int l2), some (.int l3), some (.int l4), some (.int l5), none] [.int t0] (sm_m N S) (x6_become_26 F l0 l1 l2 l3 l4 l5 t0 S) := by
  unfold x6_become_26
  refine sd_istore (lf2 := [some (.ref l0), some (.int l1), some (.int l2), some (.int l3), some (.int l4), some (.int l5), some (.int t0)]) (pc := 26) d6_become_26 (Nat.le_of_ble_eq_true rfl) rfl ?_
  refine sd_aload_n (pc := 28) d6_become_28 rfl ?_
  refine sd_iload_n (pc := 29) d6_become_29 rfl ?_
  refine sd_on (fun h1 => ?_)
  refine sd_putI (pc := 30) h1 rfl fl6_11 rfl d6_become_30 (fun S => ?_)
  refine sd_aload_n (pc := 33) d6_become_33 rfl ?_
  refine sd_iload (pc := 34) d6_become_34 rfl ?_
  refine sd_if_eq (pc := 36) 43 d6_become_36 (by decide) (fun _ => ?_) (fun _ => ?_)
  · refine sd_iconst (pc := 43) 0 d6_become_43 ci_0 ?_
    exact sd_fg [true, false, false, true, true, false, true] rfl (s6_become_44 F l0 l3 l4 t0 l0 0 S)
  · refine sd_iload_n (pc := 39) d6_become_39 rfl ?_
    refine sd_goto (pc := 40) 44 d6_become_40 (by decide) ?_
    exact sd_fg [true, false, false, true, true, false, true] rfl (s6_become_44 F l0 l3 l4 t0 l0 l2 S)
set_option maxHeartbeats 4000000 in
set_option maxRecDepth 20000 in
theorem s6_become_25 {N : Nat} (F : Nat) (l0 : Nat) (l1 : Int32) (l2 : Int32) (l3 : Int32) (l4 : Int32) (l5 : Int32) (S : sm_t) : sm_S (sm_jV N) k6_become 0 0 25 [some (.ref l0), some (.int l1), some (.int l2), some (.int l3), some (.int l4), some (.int l5), none] [] (sm_m N S) (x6_become_25 F l0 l1 l2 l3 l4 l5 S) := by
  unfold x6_become_25
  refine sd_iconst (pc := 25) 0 d6_become_25 ci_0 ?_
  exact s6_become_26 F l0 l1 l2 l3 l4 l5 0 S
set_option maxHeartbeats 4000000 in
set_option maxRecDepth 20000 in
theorem s6_become_9 {N : Nat} (F : Nat) (l0 : Nat) (l1 : Int32) (l2 : Int32) (l3 : Int32) (l4 : Int32) (t0 : Int32) (S : sm_t) : sm_S (sm_jV N) k6_become 0 0 9 [some (.ref l0), some (.int l1), some (.int l2), some (.int l3), some (.int l4), none, none] [.int t0] (sm_m N S) (x6_become_9 F l0 l1 l2 l3 l4 t0 S) := by
  unfold x6_become_9
  refine sd_istore (lf2 := [some (.ref l0), some (.int l1), some (.int l2), some (.int l3), some (.int l4), some (.int t0), none]) (pc := 9) d6_become_9 (Nat.le_of_ble_eq_true rfl) rfl ?_
  refine sd_iload (pc := 11) d6_become_11 rfl ?_
  refine sd_if_eq (pc := 13) 25 d6_become_13 (by decide) (fun _ => ?_) (fun _ => ?_)
  · exact s6_become_25 F l0 l1 l2 l3 l4 t0 S
  · refine sd_iload_n (pc := 16) d6_become_16 rfl ?_
    refine sd_iconst (pc := 17) 3 d6_become_17 ci_3 ?_
    refine sd_ic_eq (pc := 18) 25 d6_become_18 (by decide) (fun _ => ?_) (fun _ => ?_)
    · exact s6_become_25 F l0 l1 l2 l3 l4 t0 S
    · refine sd_iconst (pc := 21) 1 d6_become_21 ci_1 ?_
      refine sd_goto (pc := 22) 26 d6_become_22 (by decide) ?_
      exact s6_become_26 F l0 l1 l2 l3 l4 t0 1 S
set_option maxHeartbeats 4000000 in
set_option maxRecDepth 20000 in
theorem s6_become {N : Nat} (F : Nat) (l0 : Nat) (l1 : Int32) (l2 : Int32) (l3 : Int32) (l4 : Int32) (S : sm_t) : sm_P (sm_jV N) k6_become [.ref l0, .int l1, .int l2, .int l3, .int l4] (sm_m N S) (x6_become F l0 l1 l2 l3 l4 S) := by
  show sm_S (sm_jV N) k6_become 0 0 0 [some (.ref l0), some (.int l1), some (.int l2), some (.int l3), some (.int l4), none, none] [] (sm_m N S) (x6_become F l0 l1 l2 l3 l4 S)
  unfold x6_become
  refine sd_iload_n (pc := 0) d6_become_0 rfl ?_
  refine sd_if_eq (pc := 1) 8 d6_become_1 (by decide) (fun _ => ?_) (fun _ => ?_)
  · refine sd_iconst (pc := 8) 0 d6_become_8 ci_0 ?_
    exact s6_become_9 F l0 l1 l2 l3 l4 0 S
  · refine sd_iconst (pc := 4) 1 d6_become_4 ci_1 ?_
    refine sd_goto (pc := 5) 9 d6_become_5 (by decide) ?_
    exact s6_become_9 F l0 l1 l2 l3 l4 1 S
set_option maxHeartbeats 4000000 in
set_option maxRecDepth 20000 in
theorem s0_add {N : Nat} (F : Nat) (l1 : Int32) (l2 : Int32) (l3 : Int32) (l4 : Int32) (S : sm_t) : sm_P (sm_jI N) k0_add [.ref 22, .int l1, .int l2, .int l3, .int l4] (sm_m N S) (x0_add F l1 l2 l3 l4 S) := by
  show sm_S (sm_jI N) k0_add 0 0 0 [some (.ref 22), some (.int l1), some (.int l2), some (.int l3), some (.int l4)] [] (sm_m N S) (x0_add F l1 l2 l3 l4 S)
  unfold x0_add
  refine sd_aload_n (pc := 0) d0_add_0 rfl ?_
  refine sd_getI (pc := 1) (show sm_sq 22 = some (.inr 0) from rfl) rfl fl0_17 d0_add_1 (fun v1 => ?_)
  refine sd_bipush (pc := 4) 12 d0_add_4 cb_12 ?_
  refine sd_ic_lt (pc := 6) 12 d0_add_6 (by decide) (fun _ => ?_) (fun _ => ?_)
  · refine sd_aload_n (pc := 12) d0_add_12 rfl ?_
    refine sd_getR (pc := 13) 23 (show sm_sq 22 = some (.inr 0) from rfl) rfl fl0_13 rfl d0_add_13 ?_
    refine sd_aload_n (pc := 16) d0_add_16 rfl ?_
    refine sd_getI (pc := 17) (show sm_sq 22 = some (.inr 0) from rfl) rfl fl0_17 d0_add_17 (fun v2 => ?_)
    refine sd_aald (pc := 20) 6 (show sm_sq 23 = some (.inl (.object "TwoFliers$Sign", 12)) from rfl) rfl rfl (fun _ => rfl) (fun _ _ _ _ h => if_pos h) d0_add_20 (fun a3 => ?_)
    refine sd_iload_n (pc := 21) d0_add_21 rfl ?_
    refine sd_iload_n (pc := 22) d0_add_22 rfl ?_
    refine sd_iload_n (pc := 23) d0_add_23 rfl ?_
    refine sd_iload (pc := 24) d0_add_24 rfl ?_
    refine sd_on (fun h5 => ?_)
    refine sd_cVV (k2 := k6_become) (As := [.int l1, .int l2, .int l3, .int l4]) (rest := []) (b := a3) (ci := 5) (pc := 26) 22 h5 (by decide) rfl d0_add_26 ml0_22 (ms6_become).1 (ms6_become).2 (me6_become) ⟨rfl, rfl⟩ ⟨Nat.le_of_ble_eq_true rfl, Nat.le_of_ble_eq_true rfl⟩ (Nat.le_of_ble_eq_true rfl) (Nat.le_of_ble_eq_true rfl) rfl (Nat.zero_le _) (Nat.zero_le _) rfl (s6_become F a3 l1 l2 l3 l4 S) (fun S => ?_)
    refine sd_aload_n (pc := 29) d0_add_29 rfl ?_
    refine sd_dup (pc := 30) d0_add_30 rfl ?_
    refine sd_getI (pc := 31) (show sm_sq 22 = some (.inr 0) from rfl) rfl fl0_17 d0_add_31 (fun v6 => ?_)
    refine sd_iconst (pc := 34) 1 d0_add_34 ci_1 ?_
    refine sd_iadd (pc := 35) d0_add_35 ?_
    refine sd_putI (pc := 36) (show sm_sq 22 = some (.inr 0) from rfl) rfl fl0_17 rfl d0_add_36 (fun S => ?_)
    refine sd_aload_n (pc := 39) d0_add_39 rfl ?_
    refine sd_getI (pc := 40) (show sm_sq 22 = some (.inr 0) from rfl) rfl fl0_17 d0_add_40 (fun v7 => ?_)
    refine sd_iconst (pc := 43) 1 d0_add_43 ci_1 ?_
    refine sd_isub (pc := 44) d0_add_44 ?_
    exact sd_iret (pc := 45) d0_add_45 rfl (Nat.zero_le _) (Nat.zero_le _)
  · refine sd_bipush (pc := 9) (-9) d0_add_9 cb_m9 ?_
    exact sd_iret (pc := 11) d0_add_11 rfl (Nat.zero_le _) (Nat.zero_le _)
set_option maxHeartbeats 4000000 in
set_option maxRecDepth 20000 in
theorem s7_sign {N : Nat} (F : Nat) (l1 : Int32) (l2 : Int32) (l3 : Int32) (l4 : Int32) (S : sm_t) : sm_P (sm_jI N) k7_sign [.ref 3, .int l1, .int l2, .int l3, .int l4] (sm_m N S) (x7_sign F l1 l2 l3 l4 S) := by
  show sm_S (sm_jI N) k7_sign 0 0 0 [some (.ref 3), some (.int l1), some (.int l2), some (.int l3), some (.int l4)] [] (sm_m N S) (x7_sign F l1 l2 l3 l4 S)
  unfold x7_sign
  refine sd_iload_n (pc := 0) d7_sign_0 rfl ?_
  refine sd_iload_n (pc := 1) d7_sign_1 rfl ?_
  refine sd_iload_n (pc := 2) d7_sign_2 rfl ?_
  refine sd_iload (pc := 3) d7_sign_3 rfl ?_
  refine sd_cSI (k2 := k6_fits) (As := [.int l1, .int l2, .int l3, .int l4]) (rest := []) (pc := 5) 169 d7_sign_5 ml7_169 (ms6_fits) (me6_fits) ⟨rfl, rfl⟩ ⟨Nat.le_of_ble_eq_true rfl, Nat.le_of_ble_eq_true rfl⟩ (Nat.le_of_ble_eq_true rfl) (Nat.le_of_ble_eq_true rfl) (Or.inr rfl) (Nat.zero_le _) (Nat.zero_le _) rfl (s6_fits F l1 l2 l3 l4 S) (fun v1 S => ?_)
  refine sd_if_ne (pc := 8) 13 d7_sign_8 (by decide) (fun _ => ?_) (fun _ => ?_)
  · refine sd_iconst (pc := 11) (-1) d7_sign_11 ci_m1 ?_
    exact sd_iret (pc := 12) d7_sign_12 rfl (Nat.zero_le _) (Nat.zero_le _)
  · refine sd_aload_n (pc := 13) d7_sign_13 rfl ?_
    refine sd_getR (pc := 14) 22 (show sm_sq 3 = some (.inr 6) from rfl) rfl fl7_42 rfl d7_sign_14 ?_
    refine sd_getI (pc := 17) (show sm_sq 22 = some (.inr 0) from rfl) rfl fl7_175 d7_sign_17 (fun v2 => ?_)
    refine sd_bipush (pc := 20) 12 d7_sign_20 cb_12 ?_
    refine sd_ic_lt (pc := 22) 28 d7_sign_22 (by decide) (fun _ => ?_) (fun _ => ?_)
    · refine sd_aload_n (pc := 28) d7_sign_28 rfl ?_
      refine sd_getR (pc := 29) 22 (show sm_sq 3 = some (.inr 6) from rfl) rfl fl7_42 rfl d7_sign_29 ?_
      refine sd_iload_n (pc := 32) d7_sign_32 rfl ?_
      refine sd_iload_n (pc := 33) d7_sign_33 rfl ?_
      refine sd_iload_n (pc := 34) d7_sign_34 rfl ?_
      refine sd_iload (pc := 35) d7_sign_35 rfl ?_
      refine sd_cVI (k2 := k0_add) (As := [.int l1, .int l2, .int l3, .int l4]) (rest := []) (b := 22) (ci := 0) (pc := 37) 180 (show sm_sq 22 = some (.inr 0) from rfl) (by decide) rfl d7_sign_37 ml7_180 (ms0_add).1 (ms0_add).2 (me0_add) ⟨rfl, rfl⟩ ⟨Nat.le_of_ble_eq_true rfl, Nat.le_of_ble_eq_true rfl⟩ (Nat.le_of_ble_eq_true rfl) (Nat.le_of_ble_eq_true rfl) (Or.inl rfl) (Nat.zero_le _) (Nat.zero_le _) rfl (s0_add F l1 l2 l3 l4 S) (fun v3 S => ?_)
      exact sd_iret (pc := 40) d7_sign_40 rfl (Nat.zero_le _) (Nat.zero_le _)
    · refine sd_bipush (pc := 25) (-2) d7_sign_25 cb_m2 ?_
      exact sd_iret (pc := 27) d7_sign_27 rfl (Nat.zero_le _) (Nat.zero_le _)
set_option maxHeartbeats 4000000 in
set_option maxRecDepth 20000 in
theorem s8_isGood {N : Nat} (F : Nat) (l0 : Int32) (l1 : Int32) (l2 : Int32) (l3 : Int32) (S : sm_t) : sm_P (sm_jI N) k8_isGood [.int l0, .int l1, .int l2, .int l3] (sm_m N S) (x8_isGood F l0 l1 l2 l3 S) := by
  show sm_S (sm_jI N) k8_isGood 0 0 0 [some (.int l0), some (.int l1), some (.int l2), some (.int l3)] [] (sm_m N S) (x8_isGood F l0 l1 l2 l3 S)
  unfold x8_isGood
  refine sd_iload_n (pc := 0) d8_isGood_0 rfl ?_
  refine sd_ite (fun h1 => ?_) (fun _ => ?_)
  · refine sd_swo (pc := 1) 183 d8_isGood_1 (sm_so (by decide) (by decide) h1) (by decide) ?_
    refine sd_iconst (pc := 183) 0 d8_isGood_183 ci_0 ?_
    exact sd_zret (pc := 184) d8_isGood_184 (by decide) (Nat.zero_le _) (Nat.zero_le _)
  refine sd_ite (fun h2 => ?_) (fun _ => ?_)
  · refine sd_swi (off := 47) (pc := 1) 48 d8_isGood_1 (by rw [h2]; decide) (by rw [h2]; decide) (by rw [h2]; decide) (by decide) ?_
    refine sd_iconst (pc := 48) 1 d8_isGood_48 ci_1 ?_
    exact sd_zret (pc := 49) d8_isGood_49 (by decide) (Nat.zero_le _) (Nat.zero_le _)
  refine sd_ite (fun h6 => ?_) (fun _ => ?_)
  · refine sd_swi (off := 49) (pc := 1) 50 d8_isGood_1 (by rw [h6]; decide) (by rw [h6]; decide) (by rw [h6]; decide) (by decide) ?_
    refine sd_iload_n (pc := 50) d8_isGood_50 rfl ?_
    refine sd_iconst (pc := 51) 0 d8_isGood_51 ci_0 ?_
    refine sd_bipush (pc := 52) 6 d8_isGood_52 cb_6 ?_
    refine sd_cSI (k2 := k8_in) (As := [.int l1, .int 0, .int 6]) (rest := []) (pc := 54) 80 d8_isGood_54 ml8_80 (ms8_in) (me8_in) ⟨rfl, rfl⟩ ⟨Nat.le_of_ble_eq_true rfl, Nat.le_of_ble_eq_true rfl⟩ (Nat.le_of_ble_eq_true rfl) (Nat.le_of_ble_eq_true rfl) (Or.inr rfl) (Nat.zero_le _) (Nat.zero_le _) rfl (s8_in F l1 0 6 S) (fun v3 S => ?_)
    refine sd_if_eq (pc := 57) 80 d8_isGood_57 (by decide) (fun _ => ?_) (fun _ => ?_)
    · refine sd_iconst (pc := 80) 0 d8_isGood_80 ci_0 ?_
      exact sd_zret (pc := 81) d8_isGood_81 (by decide) (Nat.zero_le _) (Nat.zero_le _)
    · refine sd_iload_n (pc := 60) d8_isGood_60 rfl ?_
      refine sd_cSI (k2 := k8_isCell) (As := [.int l2]) (rest := []) (pc := 61) 117 d8_isGood_61 ml8_117 (ms8_isCell) (me8_isCell) ⟨rfl, rfl⟩ ⟨Nat.le_of_ble_eq_true rfl, Nat.le_of_ble_eq_true rfl⟩ (Nat.le_of_ble_eq_true rfl) (Nat.le_of_ble_eq_true rfl) (Or.inr rfl) (Nat.zero_le _) (Nat.zero_le _) rfl (s8_isCell F l2 S) (fun v4 S => ?_)
      refine sd_if_eq (pc := 64) 80 d8_isGood_64 (by decide) (fun _ => ?_) (fun _ => ?_)
      · refine sd_iconst (pc := 80) 0 d8_isGood_80 ci_0 ?_
        exact sd_zret (pc := 81) d8_isGood_81 (by decide) (Nat.zero_le _) (Nat.zero_le _)
      · refine sd_iload_n (pc := 67) d8_isGood_67 rfl ?_
        refine sd_iconst (pc := 68) 0 d8_isGood_68 ci_0 ?_
        refine sd_iconst (pc := 69) 5 d8_isGood_69 ci_5 ?_
        refine sd_cSI (k2 := k8_in) (As := [.int l3, .int 0, .int 5]) (rest := []) (pc := 70) 80 d8_isGood_70 ml8_80 (ms8_in) (me8_in) ⟨rfl, rfl⟩ ⟨Nat.le_of_ble_eq_true rfl, Nat.le_of_ble_eq_true rfl⟩ (Nat.le_of_ble_eq_true rfl) (Nat.le_of_ble_eq_true rfl) (Or.inr rfl) (Nat.zero_le _) (Nat.zero_le _) rfl (s8_in F l3 0 5 S) (fun v5 S => ?_)
        refine sd_if_eq (pc := 73) 80 d8_isGood_73 (by decide) (fun _ => ?_) (fun _ => ?_)
        · refine sd_iconst (pc := 80) 0 d8_isGood_80 ci_0 ?_
          exact sd_zret (pc := 81) d8_isGood_81 (by decide) (Nat.zero_le _) (Nat.zero_le _)
        · refine sd_iconst (pc := 76) 1 d8_isGood_76 ci_1 ?_
          refine sd_goto (pc := 77) 81 d8_isGood_77 (by decide) ?_
          exact sd_zret (pc := 81) d8_isGood_81 (by decide) (Nat.zero_le _) (Nat.zero_le _)
  refine sd_ite (fun h10 => ?_) (fun _ => ?_)
  · refine sd_swi (off := 49) (pc := 1) 50 d8_isGood_1 (by rw [h10]; decide) (by rw [h10]; decide) (by rw [h10]; decide) (by decide) ?_
    refine sd_iload_n (pc := 50) d8_isGood_50 rfl ?_
    refine sd_iconst (pc := 51) 0 d8_isGood_51 ci_0 ?_
    refine sd_bipush (pc := 52) 6 d8_isGood_52 cb_6 ?_
    refine sd_cSI (k2 := k8_in) (As := [.int l1, .int 0, .int 6]) (rest := []) (pc := 54) 80 d8_isGood_54 ml8_80 (ms8_in) (me8_in) ⟨rfl, rfl⟩ ⟨Nat.le_of_ble_eq_true rfl, Nat.le_of_ble_eq_true rfl⟩ (Nat.le_of_ble_eq_true rfl) (Nat.le_of_ble_eq_true rfl) (Or.inr rfl) (Nat.zero_le _) (Nat.zero_le _) rfl (s8_in F l1 0 6 S) (fun v7 S => ?_)
    refine sd_if_eq (pc := 57) 80 d8_isGood_57 (by decide) (fun _ => ?_) (fun _ => ?_)
    · refine sd_iconst (pc := 80) 0 d8_isGood_80 ci_0 ?_
      exact sd_zret (pc := 81) d8_isGood_81 (by decide) (Nat.zero_le _) (Nat.zero_le _)
    · refine sd_iload_n (pc := 60) d8_isGood_60 rfl ?_
      refine sd_cSI (k2 := k8_isCell) (As := [.int l2]) (rest := []) (pc := 61) 117 d8_isGood_61 ml8_117 (ms8_isCell) (me8_isCell) ⟨rfl, rfl⟩ ⟨Nat.le_of_ble_eq_true rfl, Nat.le_of_ble_eq_true rfl⟩ (Nat.le_of_ble_eq_true rfl) (Nat.le_of_ble_eq_true rfl) (Or.inr rfl) (Nat.zero_le _) (Nat.zero_le _) rfl (s8_isCell F l2 S) (fun v8 S => ?_)
      refine sd_if_eq (pc := 64) 80 d8_isGood_64 (by decide) (fun _ => ?_) (fun _ => ?_)
      · refine sd_iconst (pc := 80) 0 d8_isGood_80 ci_0 ?_
        exact sd_zret (pc := 81) d8_isGood_81 (by decide) (Nat.zero_le _) (Nat.zero_le _)
      · refine sd_iload_n (pc := 67) d8_isGood_67 rfl ?_
        refine sd_iconst (pc := 68) 0 d8_isGood_68 ci_0 ?_
        refine sd_iconst (pc := 69) 5 d8_isGood_69 ci_5 ?_
        refine sd_cSI (k2 := k8_in) (As := [.int l3, .int 0, .int 5]) (rest := []) (pc := 70) 80 d8_isGood_70 ml8_80 (ms8_in) (me8_in) ⟨rfl, rfl⟩ ⟨Nat.le_of_ble_eq_true rfl, Nat.le_of_ble_eq_true rfl⟩ (Nat.le_of_ble_eq_true rfl) (Nat.le_of_ble_eq_true rfl) (Or.inr rfl) (Nat.zero_le _) (Nat.zero_le _) rfl (s8_in F l3 0 5 S) (fun v9 S => ?_)
        refine sd_if_eq (pc := 73) 80 d8_isGood_73 (by decide) (fun _ => ?_) (fun _ => ?_)
        · refine sd_iconst (pc := 80) 0 d8_isGood_80 ci_0 ?_
          exact sd_zret (pc := 81) d8_isGood_81 (by decide) (Nat.zero_le _) (Nat.zero_le _)
        · refine sd_iconst (pc := 76) 1 d8_isGood_76 ci_1 ?_
          refine sd_goto (pc := 77) 81 d8_isGood_77 (by decide) ?_
          exact sd_zret (pc := 81) d8_isGood_81 (by decide) (Nat.zero_le _) (Nat.zero_le _)
  refine sd_ite (fun h12 => ?_) (fun _ => ?_)
  · refine sd_swi (off := 81) (pc := 1) 82 d8_isGood_1 (by rw [h12]; decide) (by rw [h12]; decide) (by rw [h12]; decide) (by decide) ?_
    refine sd_iload_n (pc := 82) d8_isGood_82 rfl ?_
    refine sd_iconst (pc := 83) 0 d8_isGood_83 ci_0 ?_
    refine sd_bipush (pc := 84) 6 d8_isGood_84 cb_6 ?_
    refine sd_cSI (k2 := k8_in) (As := [.int l1, .int 0, .int 6]) (rest := []) (pc := 86) 80 d8_isGood_86 ml8_80 (ms8_in) (me8_in) ⟨rfl, rfl⟩ ⟨Nat.le_of_ble_eq_true rfl, Nat.le_of_ble_eq_true rfl⟩ (Nat.le_of_ble_eq_true rfl) (Nat.le_of_ble_eq_true rfl) (Or.inr rfl) (Nat.zero_le _) (Nat.zero_le _) rfl (s8_in F l1 0 6 S) (fun v11 S => ?_)
    exact sd_zrv (pc := 89) d8_isGood_89 (Nat.zero_le _) (Nat.zero_le _)
  refine sd_ite (fun h16 => ?_) (fun _ => ?_)
  · refine sd_swi (off := 89) (pc := 1) 90 d8_isGood_1 (by rw [h16]; decide) (by rw [h16]; decide) (by rw [h16]; decide) (by decide) ?_
    refine sd_iload_n (pc := 90) d8_isGood_90 rfl ?_
    refine sd_cSI (k2 := k8_isCell) (As := [.int l1]) (rest := []) (pc := 91) 117 d8_isGood_91 ml8_117 (ms8_isCell) (me8_isCell) ⟨rfl, rfl⟩ ⟨Nat.le_of_ble_eq_true rfl, Nat.le_of_ble_eq_true rfl⟩ (Nat.le_of_ble_eq_true rfl) (Nat.le_of_ble_eq_true rfl) (Or.inr rfl) (Nat.zero_le _) (Nat.zero_le _) rfl (s8_isCell F l1 S) (fun v13 S => ?_)
    refine sd_if_eq (pc := 94) 118 d8_isGood_94 (by decide) (fun _ => ?_) (fun _ => ?_)
    · refine sd_iconst (pc := 118) 0 d8_isGood_118 ci_0 ?_
      exact sd_zret (pc := 119) d8_isGood_119 (by decide) (Nat.zero_le _) (Nat.zero_le _)
    · refine sd_iload_n (pc := 97) d8_isGood_97 rfl ?_
      refine sd_cSI (k2 := k8_isCell) (As := [.int l2]) (rest := []) (pc := 98) 117 d8_isGood_98 ml8_117 (ms8_isCell) (me8_isCell) ⟨rfl, rfl⟩ ⟨Nat.le_of_ble_eq_true rfl, Nat.le_of_ble_eq_true rfl⟩ (Nat.le_of_ble_eq_true rfl) (Nat.le_of_ble_eq_true rfl) (Or.inr rfl) (Nat.zero_le _) (Nat.zero_le _) rfl (s8_isCell F l2 S) (fun v14 S => ?_)
      refine sd_if_eq (pc := 101) 118 d8_isGood_101 (by decide) (fun _ => ?_) (fun _ => ?_)
      · refine sd_iconst (pc := 118) 0 d8_isGood_118 ci_0 ?_
        exact sd_zret (pc := 119) d8_isGood_119 (by decide) (Nat.zero_le _) (Nat.zero_le _)
      · refine sd_iload_n (pc := 104) d8_isGood_104 rfl ?_
        refine sd_iconst (pc := 105) 0 d8_isGood_105 ci_0 ?_
        refine sd_bipush (pc := 106) 12 d8_isGood_106 cb_12 ?_
        refine sd_cSI (k2 := k8_in) (As := [.int l3, .int 0, .int 12]) (rest := []) (pc := 108) 80 d8_isGood_108 ml8_80 (ms8_in) (me8_in) ⟨rfl, rfl⟩ ⟨Nat.le_of_ble_eq_true rfl, Nat.le_of_ble_eq_true rfl⟩ (Nat.le_of_ble_eq_true rfl) (Nat.le_of_ble_eq_true rfl) (Or.inr rfl) (Nat.zero_le _) (Nat.zero_le _) rfl (s8_in F l3 0 12 S) (fun v15 S => ?_)
        refine sd_if_eq (pc := 111) 118 d8_isGood_111 (by decide) (fun _ => ?_) (fun _ => ?_)
        · refine sd_iconst (pc := 118) 0 d8_isGood_118 ci_0 ?_
          exact sd_zret (pc := 119) d8_isGood_119 (by decide) (Nat.zero_le _) (Nat.zero_le _)
        · refine sd_iconst (pc := 114) 1 d8_isGood_114 ci_1 ?_
          refine sd_goto (pc := 115) 119 d8_isGood_115 (by decide) ?_
          exact sd_zret (pc := 119) d8_isGood_119 (by decide) (Nat.zero_le _) (Nat.zero_le _)
  refine sd_ite (fun h20 => ?_) (fun _ => ?_)
  · refine sd_swi (off := 119) (pc := 1) 120 d8_isGood_1 (by rw [h20]; decide) (by rw [h20]; decide) (by rw [h20]; decide) (by decide) ?_
    refine sd_iload_n (pc := 120) d8_isGood_120 rfl ?_
    refine sd_cSI (k2 := k8_isCell) (As := [.int l1]) (rest := []) (pc := 121) 117 d8_isGood_121 ml8_117 (ms8_isCell) (me8_isCell) ⟨rfl, rfl⟩ ⟨Nat.le_of_ble_eq_true rfl, Nat.le_of_ble_eq_true rfl⟩ (Nat.le_of_ble_eq_true rfl) (Nat.le_of_ble_eq_true rfl) (Or.inr rfl) (Nat.zero_le _) (Nat.zero_le _) rfl (s8_isCell F l1 S) (fun v17 S => ?_)
    refine sd_if_eq (pc := 124) 148 d8_isGood_124 (by decide) (fun _ => ?_) (fun _ => ?_)
    · refine sd_iconst (pc := 148) 0 d8_isGood_148 ci_0 ?_
      exact sd_zret (pc := 149) d8_isGood_149 (by decide) (Nat.zero_le _) (Nat.zero_le _)
    · refine sd_iload_n (pc := 127) d8_isGood_127 rfl ?_
      refine sd_cSI (k2 := k8_isSide) (As := [.int l2]) (rest := []) (pc := 128) 126 d8_isGood_128 ml8_126 (ms8_isSide) (me8_isSide) ⟨rfl, rfl⟩ ⟨Nat.le_of_ble_eq_true rfl, Nat.le_of_ble_eq_true rfl⟩ (Nat.le_of_ble_eq_true rfl) (Nat.le_of_ble_eq_true rfl) (Or.inr rfl) (Nat.zero_le _) (Nat.zero_le _) rfl (s8_isSide F l2 S) (fun v18 S => ?_)
      refine sd_if_eq (pc := 131) 148 d8_isGood_131 (by decide) (fun _ => ?_) (fun _ => ?_)
      · refine sd_iconst (pc := 148) 0 d8_isGood_148 ci_0 ?_
        exact sd_zret (pc := 149) d8_isGood_149 (by decide) (Nat.zero_le _) (Nat.zero_le _)
      · refine sd_iload_n (pc := 134) d8_isGood_134 rfl ?_
        refine sd_iconst (pc := 135) 0 d8_isGood_135 ci_0 ?_
        refine sd_bipush (pc := 136) 12 d8_isGood_136 cb_12 ?_
        refine sd_cSI (k2 := k8_in) (As := [.int l3, .int 0, .int 12]) (rest := []) (pc := 138) 80 d8_isGood_138 ml8_80 (ms8_in) (me8_in) ⟨rfl, rfl⟩ ⟨Nat.le_of_ble_eq_true rfl, Nat.le_of_ble_eq_true rfl⟩ (Nat.le_of_ble_eq_true rfl) (Nat.le_of_ble_eq_true rfl) (Or.inr rfl) (Nat.zero_le _) (Nat.zero_le _) rfl (s8_in F l3 0 12 S) (fun v19 S => ?_)
        refine sd_if_eq (pc := 141) 148 d8_isGood_141 (by decide) (fun _ => ?_) (fun _ => ?_)
        · refine sd_iconst (pc := 148) 0 d8_isGood_148 ci_0 ?_
          exact sd_zret (pc := 149) d8_isGood_149 (by decide) (Nat.zero_le _) (Nat.zero_le _)
        · refine sd_iconst (pc := 144) 1 d8_isGood_144 ci_1 ?_
          refine sd_goto (pc := 145) 149 d8_isGood_145 (by decide) ?_
          exact sd_zret (pc := 149) d8_isGood_149 (by decide) (Nat.zero_le _) (Nat.zero_le _)
  refine sd_ite (fun h24 => ?_) (fun _ => ?_)
  · refine sd_swi (off := 119) (pc := 1) 120 d8_isGood_1 (by rw [h24]; decide) (by rw [h24]; decide) (by rw [h24]; decide) (by decide) ?_
    refine sd_iload_n (pc := 120) d8_isGood_120 rfl ?_
    refine sd_cSI (k2 := k8_isCell) (As := [.int l1]) (rest := []) (pc := 121) 117 d8_isGood_121 ml8_117 (ms8_isCell) (me8_isCell) ⟨rfl, rfl⟩ ⟨Nat.le_of_ble_eq_true rfl, Nat.le_of_ble_eq_true rfl⟩ (Nat.le_of_ble_eq_true rfl) (Nat.le_of_ble_eq_true rfl) (Or.inr rfl) (Nat.zero_le _) (Nat.zero_le _) rfl (s8_isCell F l1 S) (fun v21 S => ?_)
    refine sd_if_eq (pc := 124) 148 d8_isGood_124 (by decide) (fun _ => ?_) (fun _ => ?_)
    · refine sd_iconst (pc := 148) 0 d8_isGood_148 ci_0 ?_
      exact sd_zret (pc := 149) d8_isGood_149 (by decide) (Nat.zero_le _) (Nat.zero_le _)
    · refine sd_iload_n (pc := 127) d8_isGood_127 rfl ?_
      refine sd_cSI (k2 := k8_isSide) (As := [.int l2]) (rest := []) (pc := 128) 126 d8_isGood_128 ml8_126 (ms8_isSide) (me8_isSide) ⟨rfl, rfl⟩ ⟨Nat.le_of_ble_eq_true rfl, Nat.le_of_ble_eq_true rfl⟩ (Nat.le_of_ble_eq_true rfl) (Nat.le_of_ble_eq_true rfl) (Or.inr rfl) (Nat.zero_le _) (Nat.zero_le _) rfl (s8_isSide F l2 S) (fun v22 S => ?_)
      refine sd_if_eq (pc := 131) 148 d8_isGood_131 (by decide) (fun _ => ?_) (fun _ => ?_)
      · refine sd_iconst (pc := 148) 0 d8_isGood_148 ci_0 ?_
        exact sd_zret (pc := 149) d8_isGood_149 (by decide) (Nat.zero_le _) (Nat.zero_le _)
      · refine sd_iload_n (pc := 134) d8_isGood_134 rfl ?_
        refine sd_iconst (pc := 135) 0 d8_isGood_135 ci_0 ?_
        refine sd_bipush (pc := 136) 12 d8_isGood_136 cb_12 ?_
        refine sd_cSI (k2 := k8_in) (As := [.int l3, .int 0, .int 12]) (rest := []) (pc := 138) 80 d8_isGood_138 ml8_80 (ms8_in) (me8_in) ⟨rfl, rfl⟩ ⟨Nat.le_of_ble_eq_true rfl, Nat.le_of_ble_eq_true rfl⟩ (Nat.le_of_ble_eq_true rfl) (Nat.le_of_ble_eq_true rfl) (Or.inr rfl) (Nat.zero_le _) (Nat.zero_le _) rfl (s8_in F l3 0 12 S) (fun v23 S => ?_)
        refine sd_if_eq (pc := 141) 148 d8_isGood_141 (by decide) (fun _ => ?_) (fun _ => ?_)
        · refine sd_iconst (pc := 148) 0 d8_isGood_148 ci_0 ?_
          exact sd_zret (pc := 149) d8_isGood_149 (by decide) (Nat.zero_le _) (Nat.zero_le _)
        · refine sd_iconst (pc := 144) 1 d8_isGood_144 ci_1 ?_
          refine sd_goto (pc := 145) 149 d8_isGood_145 (by decide) ?_
          exact sd_zret (pc := 149) d8_isGood_149 (by decide) (Nat.zero_le _) (Nat.zero_le _)
  refine sd_ite (fun h28 => ?_) (fun _ => ?_)
  · refine sd_swi (off := 149) (pc := 1) 150 d8_isGood_1 (by rw [h28]; decide) (by rw [h28]; decide) (by rw [h28]; decide) (by decide) ?_
    refine sd_iload_n (pc := 150) d8_isGood_150 rfl ?_
    refine sd_cSI (k2 := k8_isCell) (As := [.int l1]) (rest := []) (pc := 151) 117 d8_isGood_151 ml8_117 (ms8_isCell) (me8_isCell) ⟨rfl, rfl⟩ ⟨Nat.le_of_ble_eq_true rfl, Nat.le_of_ble_eq_true rfl⟩ (Nat.le_of_ble_eq_true rfl) (Nat.le_of_ble_eq_true rfl) (Or.inr rfl) (Nat.zero_le _) (Nat.zero_le _) rfl (s8_isCell F l1 S) (fun v25 S => ?_)
    refine sd_if_eq (pc := 154) 181 d8_isGood_154 (by decide) (fun _ => ?_) (fun _ => ?_)
    · refine sd_iconst (pc := 181) 0 d8_isGood_181 ci_0 ?_
      exact sd_zret (pc := 182) d8_isGood_182 (by decide) (Nat.zero_le _) (Nat.zero_le _)
    · refine sd_iload_n (pc := 157) d8_isGood_157 rfl ?_
      refine sd_iconst (pc := 158) 0 d8_isGood_158 ci_0 ?_
      refine sd_bipush (pc := 159) 9 d8_isGood_159 cb_9 ?_
      refine sd_cSI (k2 := k8_in) (As := [.int l2, .int 0, .int 9]) (rest := []) (pc := 161) 80 d8_isGood_161 ml8_80 (ms8_in) (me8_in) ⟨rfl, rfl⟩ ⟨Nat.le_of_ble_eq_true rfl, Nat.le_of_ble_eq_true rfl⟩ (Nat.le_of_ble_eq_true rfl) (Nat.le_of_ble_eq_true rfl) (Or.inr rfl) (Nat.zero_le _) (Nat.zero_le _) rfl (s8_in F l2 0 9 S) (fun v26 S => ?_)
      refine sd_if_eq (pc := 164) 181 d8_isGood_164 (by decide) (fun _ => ?_) (fun _ => ?_)
      · refine sd_iconst (pc := 181) 0 d8_isGood_181 ci_0 ?_
        exact sd_zret (pc := 182) d8_isGood_182 (by decide) (Nat.zero_le _) (Nat.zero_le _)
      · refine sd_iload_n (pc := 167) d8_isGood_167 rfl ?_
        refine sd_iconst (pc := 168) 0 d8_isGood_168 ci_0 ?_
        refine sd_bipush (pc := 169) 12 d8_isGood_169 cb_12 ?_
        refine sd_cSI (k2 := k8_in) (As := [.int l3, .int 0, .int 12]) (rest := []) (pc := 171) 80 d8_isGood_171 ml8_80 (ms8_in) (me8_in) ⟨rfl, rfl⟩ ⟨Nat.le_of_ble_eq_true rfl, Nat.le_of_ble_eq_true rfl⟩ (Nat.le_of_ble_eq_true rfl) (Nat.le_of_ble_eq_true rfl) (Or.inr rfl) (Nat.zero_le _) (Nat.zero_le _) rfl (s8_in F l3 0 12 S) (fun v27 S => ?_)
        refine sd_if_eq (pc := 174) 181 d8_isGood_174 (by decide) (fun _ => ?_) (fun _ => ?_)
        · refine sd_iconst (pc := 181) 0 d8_isGood_181 ci_0 ?_
          exact sd_zret (pc := 182) d8_isGood_182 (by decide) (Nat.zero_le _) (Nat.zero_le _)
        · refine sd_iconst (pc := 177) 1 d8_isGood_177 ci_1 ?_
          refine sd_goto (pc := 178) 182 d8_isGood_178 (by decide) ?_
          exact sd_zret (pc := 182) d8_isGood_182 (by decide) (Nat.zero_le _) (Nat.zero_le _)
  exact sd_none
