set_option maxHeartbeats 4000000 in
set_option maxRecDepth 20000 in
theorem s3_goOn {N : Nat} (F : Nat) (l1 : Nat) (S : sm_t) : sm_P (sm_jV N) k3_goOn [.ref 19, .ref l1] (sm_m N S) (x3_goOn F l1 S) := by
  show sm_S (sm_jV N) k3_goOn 0 0 0 [some (.ref 19), some (.ref l1)] [] (sm_m N S) (x3_goOn F l1 S)
  unfold x3_goOn
  refine sd_aload_n (pc := 0) d3_goOn_0 rfl ?_
  refine sd_aload_n (pc := 1) d3_goOn_1 rfl ?_
  refine sd_iconst (pc := 2) 0 d3_goOn_2 ci_0 ?_
  refine sd_an (fun n2 h1 => ?_)
  refine sd_iald (pc := 3) h1 d3_goOn_3 (fun v3 => ?_)
  refine sd_putI (pc := 4) (show sm_sq 19 = some (.inr 2) from rfl) rfl fl3_9 rfl d3_goOn_4 (fun S => ?_)
  refine sd_aload_n (pc := 7) d3_goOn_7 rfl ?_
  refine sd_aload_n (pc := 8) d3_goOn_8 rfl ?_
  refine sd_iconst (pc := 9) 1 d3_goOn_9 ci_1 ?_
  refine sd_iald (pc := 10) h1 d3_goOn_10 (fun v4 => ?_)
  refine sd_putI (pc := 11) (show sm_sq 19 = some (.inr 2) from rfl) rfl fl3_15 rfl d3_goOn_11 (fun S => ?_)
  refine sd_aload_n (pc := 14) d3_goOn_14 rfl ?_
  refine sd_iconst (pc := 15) 2 d3_goOn_15 ci_2 ?_
  refine sd_aload_n (pc := 16) d3_goOn_16 rfl ?_
  refine sd_getR (pc := 17) 20 (show sm_sq 19 = some (.inr 2) from rfl) rfl fl3_18 rfl d3_goOn_17 ?_
  refine sd_iconst (pc := 20) 0 d3_goOn_20 ci_0 ?_
  refine sd_aload_n (pc := 21) d3_goOn_21 rfl ?_
  refine sd_getI (pc := 22) (show sm_sq 19 = some (.inr 2) from rfl) rfl fl3_15 d3_goOn_22 (fun v5 => ?_)
  refine sd_copy (pc := 25) 25 sl3_25 h1 (show sm_sq 20 = some (.inl (.int, 6)) from rfl) (Nat.le_of_ble_eq_true rfl) (Nat.le_of_ble_eq_true rfl) d3_goOn_25 (fun S => ?_)
  refine sd_aload_n (pc := 28) d3_goOn_28 rfl ?_
  refine sd_bipush (pc := 29) 8 d3_goOn_29 cb_8 ?_
  refine sd_aload_n (pc := 31) d3_goOn_31 rfl ?_
  refine sd_getR (pc := 32) 21 (show sm_sq 19 = some (.inr 2) from rfl) rfl fl3_22 rfl d3_goOn_32 ?_
  refine sd_iconst (pc := 35) 0 d3_goOn_35 ci_0 ?_
  refine sd_aload_n (pc := 36) d3_goOn_36 rfl ?_
  refine sd_getI (pc := 37) (show sm_sq 19 = some (.inr 2) from rfl) rfl fl3_15 d3_goOn_37 (fun v6 => ?_)
  refine sd_iconst (pc := 40) 1 d3_goOn_40 ci_1 ?_
  refine sd_iadd (pc := 41) d3_goOn_41 ?_
  refine sd_copy (pc := 42) 25 sl3_25 h1 (show sm_sq 21 = some (.inl (.int, 7)) from rfl) (Nat.le_of_ble_eq_true rfl) (Nat.le_of_ble_eq_true rfl) d3_goOn_42 (fun S => ?_)
  exact sd_vret (pc := 45) d3_goOn_45 (Nat.zero_le _) (Nat.zero_le _)
set_option maxHeartbeats 4000000 in
set_option maxRecDepth 20000 in
theorem s0_undoBits_2 {N : Nat} (F : Nat) : ∀ (f : Nat) (l1 : Int32) (l2 : Int32) (S : sm_t), sm_S (sm_jV N) k0_undoBits 0 0 2 [some (.ref 22), some (.int l1), some (.int l2)] [] (sm_m N S) (x0_undoBits_2 F f l1 l2 S) := by
  intro f
  induction f with
  | zero =>
    intro l1 l2 S
    exact sd_none
  | succ f ih =>
    intro l1 l2 S
    rw [x0_undoBits_2]
    refine sd_iload_n (pc := 2) d0_undoBits_2 rfl ?_
    refine sd_aload_n (pc := 3) d0_undoBits_3 rfl ?_
    refine sd_getI (pc := 4) (show sm_sq 22 = some (.inr 0) from rfl) rfl fl0_17 d0_undoBits_4 (fun v1 => ?_)
    refine sd_ic_ge (pc := 7) 39 d0_undoBits_7 (by decide) (fun _ => ?_) (fun _ => ?_)
    · exact sd_vret (pc := 39) d0_undoBits_39 (Nat.zero_le _) (Nat.zero_le _)
    · refine sd_aload_n (pc := 10) d0_undoBits_10 rfl ?_
      refine sd_getR (pc := 11) 23 (show sm_sq 22 = some (.inr 0) from rfl) rfl fl0_13 rfl d0_undoBits_11 ?_
      refine sd_iload_n (pc := 14) d0_undoBits_14 rfl ?_
      refine sd_aald (pc := 15) 6 (show sm_sq 23 = some (.inl (.object "TwoFliers$Sign", 12)) from rfl) rfl rfl (fun _ => rfl) (fun _ _ _ _ h => if_pos h) d0_undoBits_15 (fun a2 => ?_)
      refine sd_iload_n (pc := 16) d0_undoBits_16 rfl ?_
      refine sd_iload_n (pc := 17) d0_undoBits_17 rfl ?_
      refine sd_ishr (pc := 18) d0_undoBits_18 ?_
      refine sd_iconst (pc := 19) 1 d0_undoBits_19 ci_1 ?_
      refine sd_iand (pc := 20) d0_undoBits_20 ?_
      refine sd_iconst (pc := 21) 1 d0_undoBits_21 ci_1 ?_
      refine sd_ic_ne (pc := 22) 29 d0_undoBits_22 (by decide) (fun _ => ?_) (fun _ => ?_)
      · refine sd_iconst (pc := 25) 1 d0_undoBits_25 ci_1 ?_
        refine sd_goto (pc := 26) 30 d0_undoBits_26 (by decide) ?_
        refine sd_on (fun h3 => ?_)
        refine sd_putZ (pc := 30) (by decide) h3 rfl fl0_40 rfl d0_undoBits_30 (fun S => ?_)
        refine sd_iinc (lf2 := [some (.ref 22), some (.int l1), some (.int (l2 + 1))]) (pc := 33) d0_undoBits_33 (Nat.le_of_ble_eq_true rfl) rfl ci_1 rfl ?_
        refine sd_goto (pc := 36) 2 d0_undoBits_36 (by decide) ?_
        exact ih l1 (l2 + 1) S
      · refine sd_iconst (pc := 29) 0 d0_undoBits_29 ci_0 ?_
        refine sd_on (fun h4 => ?_)
        refine sd_putZ (pc := 30) (by decide) h4 rfl fl0_40 rfl d0_undoBits_30 (fun S => ?_)
        refine sd_iinc (lf2 := [some (.ref 22), some (.int l1), some (.int (l2 + 1))]) (pc := 33) d0_undoBits_33 (Nat.le_of_ble_eq_true rfl) rfl ci_1 rfl ?_
        refine sd_goto (pc := 36) 2 d0_undoBits_36 (by decide) ?_
        exact ih l1 (l2 + 1) S
set_option maxHeartbeats 4000000 in
set_option maxRecDepth 20000 in
theorem s0_undoBits {N : Nat} (F : Nat) (l1 : Int32) (S : sm_t) : sm_P (sm_jV N) k0_undoBits [.ref 22, .int l1] (sm_m N S) (x0_undoBits F l1 S) := by
  show sm_S (sm_jV N) k0_undoBits 0 0 0 [some (.ref 22), some (.int l1), none] [] (sm_m N S) (x0_undoBits F l1 S)
  unfold x0_undoBits
  refine sd_iconst (pc := 0) 0 d0_undoBits_0 ci_0 ?_
  refine sd_istore_n (lf2 := [some (.ref 22), some (.int l1), some (.int 0)]) (pc := 1) d0_undoBits_1 (Nat.le_of_ble_eq_true rfl) rfl ?_
  exact s0_undoBits_2 F F l1 0 S
set_option maxHeartbeats 4000000 in
set_option maxRecDepth 20000 in
theorem s7_on {N : Nat} (F : Nat) (l1 : Int32) (S : sm_t) : sm_P (sm_jI N) k7_on [.ref 3, .int l1] (sm_m N S) (x7_on F l1 S) := by
  show sm_S (sm_jI N) k7_on 0 0 0 [some (.ref 3), some (.int l1), none] [] (sm_m N S) (x7_on F l1 S)
  unfold x7_on
  refine sd_iload_n (pc := 0) d7_on_0 rfl ?_
  refine sd_cSI (k2 := k7_isRow) (As := [.int l1]) (rest := []) (pc := 1) 88 d7_on_1 ml7_88 (ms7_isRow) (me7_isRow) ⟨rfl, rfl⟩ ⟨Nat.le_of_ble_eq_true rfl, Nat.le_of_ble_eq_true rfl⟩ (Nat.le_of_ble_eq_true rfl) (Nat.le_of_ble_eq_true rfl) (Or.inr rfl) (Nat.zero_le _) (Nat.zero_le _) rfl (s7_isRow F l1 S) (fun v1 S => ?_)
  refine sd_if_ne (pc := 4) 9 d7_on_4 (by decide) (fun _ => ?_) (fun _ => ?_)
  · refine sd_iconst (pc := 7) (-1) d7_on_7 ci_m1 ?_
    exact sd_iret (pc := 8) d7_on_8 rfl (Nat.zero_le _) (Nat.zero_le _)
  · refine sd_aload_n (pc := 9) d7_on_9 rfl ?_
    refine sd_getR (pc := 10) 11 (show sm_sq 3 = some (.inr 6) from rfl) rfl fl7_14 rfl d7_on_10 ?_
    refine sd_iload_n (pc := 13) d7_on_13 rfl ?_
    refine sd_iald (pc := 14) (show sm_sq 11 = some (.inl (.int, 6)) from rfl) d7_on_14 (fun v2 => ?_)
    refine sd_iconst (pc := 15) (-1) d7_on_15 ci_m1 ?_
    refine sd_ic_ne (pc := 16) 25 d7_on_16 (by decide) (fun _ => ?_) (fun _ => ?_)
    · refine sd_aload_n (pc := 19) d7_on_19 rfl ?_
      refine sd_iconst (pc := 20) 1 d7_on_20 ci_1 ?_
      refine sd_cVI (k2 := k7_found) (As := [.int 1]) (rest := []) (b := 3) (ci := 6) (pc := 21) 92 (show sm_sq 3 = some (.inr 6) from rfl) (by decide) rfl d7_on_21 ml7_92 (ms7_found).1 (ms7_found).2 (me7_found) ⟨rfl, rfl⟩ ⟨Nat.le_of_ble_eq_true rfl, Nat.le_of_ble_eq_true rfl⟩ (Nat.le_of_ble_eq_true rfl) (Nat.le_of_ble_eq_true rfl) (Or.inl rfl) (Nat.zero_le _) (Nat.zero_le _) rfl (s7_found F 1 S) (fun v3 S => ?_)
      exact sd_iret (pc := 24) d7_on_24 rfl (Nat.zero_le _) (Nat.zero_le _)
    · refine sd_aload_n (pc := 25) d7_on_25 rfl ?_
      refine sd_getR (pc := 26) 11 (show sm_sq 3 = some (.inr 6) from rfl) rfl fl7_14 rfl d7_on_26 ?_
      refine sd_iload_n (pc := 29) d7_on_29 rfl ?_
      refine sd_iald (pc := 30) (show sm_sq 11 = some (.inl (.int, 6)) from rfl) d7_on_30 (fun v4 => ?_)
      refine sd_bipush (pc := 31) 16 d7_on_31 cb_16 ?_
      refine sd_ic_eq (pc := 33) 42 d7_on_33 (by decide) (fun _ => ?_) (fun _ => ?_)
      · refine sd_aload_n (pc := 42) d7_on_42 rfl ?_
        refine sd_getR (pc := 43) 4 (show sm_sq 3 = some (.inr 6) from rfl) rfl fl7_11 rfl d7_on_43 ?_
        refine sd_iload_n (pc := 46) d7_on_46 rfl ?_
        refine sd_aald (pc := 47) 4 (show sm_sq 4 = some (.inl (.array .int, 6)) from rfl) rfl rfl (fun _ => rfl) (fun _ _ _ _ h => if_pos h) d7_on_47 (fun a5 => ?_)
        refine sd_astore_n (lf2 := [some (.ref 3), some (.int l1), some (.ref a5)]) (pc := 48) d7_on_48 (Nat.le_of_ble_eq_true rfl) rfl ?_
        refine sd_aload_n (pc := 49) d7_on_49 rfl ?_
        refine sd_cSI (k2 := k3_couldTell) (As := [.ref a5]) (rest := []) (pc := 50) 311 d7_on_50 ml7_311 (ms3_couldTell) (me3_couldTell) ⟨rfl, rfl⟩ ⟨Nat.le_of_ble_eq_true rfl, Nat.le_of_ble_eq_true rfl⟩ (Nat.le_of_ble_eq_true rfl) (Nat.le_of_ble_eq_true rfl) (Or.inr rfl) (Nat.zero_le _) (Nat.zero_le _) rfl (s3_couldTell F a5 S) (fun v6 S => ?_)
        refine sd_if_eq (pc := 53) 79 d7_on_53 (by decide) (fun _ => ?_) (fun _ => ?_)
        · refine sd_aload_n (pc := 79) d7_on_79 rfl ?_
          refine sd_iconst (pc := 80) 3 d7_on_80 ci_3 ?_
          refine sd_cVI (k2 := k7_found) (As := [.int 3]) (rest := []) (b := 3) (ci := 6) (pc := 81) 92 (show sm_sq 3 = some (.inr 6) from rfl) (by decide) rfl d7_on_81 ml7_92 (ms7_found).1 (ms7_found).2 (me7_found) ⟨rfl, rfl⟩ ⟨Nat.le_of_ble_eq_true rfl, Nat.le_of_ble_eq_true rfl⟩ (Nat.le_of_ble_eq_true rfl) (Nat.le_of_ble_eq_true rfl) (Or.inl rfl) (Nat.zero_le _) (Nat.zero_le _) rfl (s7_found F 3 S) (fun v7 S => ?_)
          exact sd_iret (pc := 84) d7_on_84 rfl (Nat.zero_le _) (Nat.zero_le _)
        · refine sd_aload_n (pc := 56) d7_on_56 rfl ?_
          refine sd_bipush (pc := 57) 15 d7_on_57 cb_15 ?_
          refine sd_an (fun n9 h8 => ?_)
          refine sd_iald (pc := 59) h8 d7_on_59 (fun v10 => ?_)
          refine sd_if_lt (pc := 60) 79 d7_on_60 (by decide) (fun _ => ?_) (fun _ => ?_)
          · refine sd_aload_n (pc := 79) d7_on_79 rfl ?_
            refine sd_iconst (pc := 80) 3 d7_on_80 ci_3 ?_
            refine sd_cVI (k2 := k7_found) (As := [.int 3]) (rest := []) (b := 3) (ci := 6) (pc := 81) 92 (show sm_sq 3 = some (.inr 6) from rfl) (by decide) rfl d7_on_81 ml7_92 (ms7_found).1 (ms7_found).2 (me7_found) ⟨rfl, rfl⟩ ⟨Nat.le_of_ble_eq_true rfl, Nat.le_of_ble_eq_true rfl⟩ (Nat.le_of_ble_eq_true rfl) (Nat.le_of_ble_eq_true rfl) (Or.inl rfl) (Nat.zero_le _) (Nat.zero_le _) rfl (s7_found F 3 S) (fun v11 S => ?_)
            exact sd_iret (pc := 84) d7_on_84 rfl (Nat.zero_le _) (Nat.zero_le _)
          · refine sd_aload_n (pc := 63) d7_on_63 rfl ?_
            refine sd_bipush (pc := 64) 15 d7_on_64 cb_15 ?_
            refine sd_iald (pc := 66) h8 d7_on_66 (fun v12 => ?_)
            refine sd_iconst (pc := 67) 1 d7_on_67 ci_1 ?_
            refine sd_aload_n (pc := 68) d7_on_68 rfl ?_
            refine sd_getR (pc := 69) 22 (show sm_sq 3 = some (.inr 6) from rfl) rfl fl7_42 rfl d7_on_69 ?_
            refine sd_getI (pc := 72) (show sm_sq 22 = some (.inr 0) from rfl) rfl fl7_175 d7_on_72 (fun v13 => ?_)
            refine sd_ishl (pc := 75) d7_on_75 ?_
            refine sd_ic_lt (pc := 76) 85 d7_on_76 (by decide) (fun _ => ?_) (fun _ => ?_)
            · refine sd_aload_n (pc := 85) d7_on_85 rfl ?_
              refine sd_getR (pc := 86) 19 (show sm_sq 3 = some (.inr 6) from rfl) rfl fl7_37 rfl d7_on_86 ?_
              refine sd_aload_n (pc := 89) d7_on_89 rfl ?_
              refine sd_cVV (k2 := k3_goOn) (As := [.ref a5]) (rest := []) (b := 19) (ci := 2) (pc := 90) 315 (show sm_sq 19 = some (.inr 2) from rfl) (by decide) rfl d7_on_90 ml7_315 (ms3_goOn).1 (ms3_goOn).2 (me3_goOn) ⟨rfl, rfl⟩ ⟨Nat.le_of_ble_eq_true rfl, Nat.le_of_ble_eq_true rfl⟩ (Nat.le_of_ble_eq_true rfl) (Nat.le_of_ble_eq_true rfl) rfl (Nat.zero_le _) (Nat.zero_le _) rfl (s3_goOn F a5 S) (fun S => ?_)
              refine sd_aload_n (pc := 93) d7_on_93 rfl ?_
              refine sd_getR (pc := 94) 22 (show sm_sq 3 = some (.inr 6) from rfl) rfl fl7_42 rfl d7_on_94 ?_
              refine sd_aload_n (pc := 97) d7_on_97 rfl ?_
              refine sd_bipush (pc := 98) 15 d7_on_98 cb_15 ?_
              refine sd_iald (pc := 100) h8 d7_on_100 (fun v15 => ?_)
              refine sd_cVV (k2 := k0_undoBits) (As := [.int v15]) (rest := []) (b := 22) (ci := 0) (pc := 101) 319 (show sm_sq 22 = some (.inr 0) from rfl) (by decide) rfl d7_on_101 ml7_319 (ms0_undoBits).1 (ms0_undoBits).2 (me0_undoBits) ⟨rfl, rfl⟩ ⟨Nat.le_of_ble_eq_true rfl, Nat.le_of_ble_eq_true rfl⟩ (Nat.le_of_ble_eq_true rfl) (Nat.le_of_ble_eq_true rfl) rfl (Nat.zero_le _) (Nat.zero_le _) rfl (s0_undoBits F v15 S) (fun S => ?_)
              refine sd_iconst (pc := 104) 1 d7_on_104 ci_1 ?_
              exact sd_iret (pc := 105) d7_on_105 rfl (Nat.zero_le _) (Nat.zero_le _)
            · refine sd_aload_n (pc := 79) d7_on_79 rfl ?_
              refine sd_iconst (pc := 80) 3 d7_on_80 ci_3 ?_
              refine sd_cVI (k2 := k7_found) (As := [.int 3]) (rest := []) (b := 3) (ci := 6) (pc := 81) 92 (show sm_sq 3 = some (.inr 6) from rfl) (by decide) rfl d7_on_81 ml7_92 (ms7_found).1 (ms7_found).2 (me7_found) ⟨rfl, rfl⟩ ⟨Nat.le_of_ble_eq_true rfl, Nat.le_of_ble_eq_true rfl⟩ (Nat.le_of_ble_eq_true rfl) (Nat.le_of_ble_eq_true rfl) (Or.inl rfl) (Nat.zero_le _) (Nat.zero_le _) rfl (s7_found F 3 S) (fun v17 S => ?_)
              exact sd_iret (pc := 84) d7_on_84 rfl (Nat.zero_le _) (Nat.zero_le _)
      · refine sd_aload_n (pc := 36) d7_on_36 rfl ?_
        refine sd_iconst (pc := 37) 5 d7_on_37 ci_5 ?_
        refine sd_cVI (k2 := k7_found) (As := [.int 5]) (rest := []) (b := 3) (ci := 6) (pc := 38) 92 (show sm_sq 3 = some (.inr 6) from rfl) (by decide) rfl d7_on_38 ml7_92 (ms7_found).1 (ms7_found).2 (me7_found) ⟨rfl, rfl⟩ ⟨Nat.le_of_ble_eq_true rfl, Nat.le_of_ble_eq_true rfl⟩ (Nat.le_of_ble_eq_true rfl) (Nat.le_of_ble_eq_true rfl) (Or.inl rfl) (Nat.zero_le _) (Nat.zero_le _) rfl (s7_found F 5 S) (fun v18 S => ?_)
        exact sd_iret (pc := 41) d7_on_41 rfl (Nat.zero_le _) (Nat.zero_le _)
set_option maxHeartbeats 4000000 in
set_option maxRecDepth 20000 in
theorem s8_isImage_176 {N : Nat} (F : Nat) (c124 : Int32 → Int32 → Int32 → Int32 → Int32 → sm_t → Option (Int32 × sm_t)) (hc124 : ∀ (l1 : Int32) (l2 : Int32) (l3 : Int32) (l4 : Int32) (l5 : Int32) (S : sm_t), sm_S (sm_jI N) k8_isImage 0 0 124 [some (.ref 52), some (.int l1), some (.int l2), some (.int l3), some (.int l4), some (.int l5), none] [] (sm_m N S) (c124 l1 l2 l3 l4 l5 S)) (l1 : Int32) (l2 : Int32) (l4 : Int32) (l5 : Int32) (l6 : Int32) (t0 : Int32) (S : sm_t) : sm_S (sm_jI N) k8_isImage 0 0 176 [some (.ref 52), some (.int l1), some (.int l2), none, some (.int l4), some (.int l5), some (.int l6)] [.int t0] (sm_m N S) (x8_isImage_176 F c124 l1 l2 l4 l5 l6 t0 S) := by
  unfold x8_isImage_176
  refine sd_istore_n (lf2 := [some (.ref 52), some (.int l1), some (.int l2), some (.int t0), some (.int l4), some (.int l5), some (.int l6)]) (pc := 176) d8_isImage_176 (Nat.le_of_ble_eq_true rfl) rfl ?_
  refine sd_iload (pc := 177) d8_isImage_177 rfl ?_
  refine sd_iload (pc := 179) d8_isImage_179 rfl ?_
  refine sd_iload_n (pc := 181) d8_isImage_181 rfl ?_
  refine sd_ic_gt (pc := 182) 190 d8_isImage_182 (by decide) (fun _ => ?_) (fun _ => ?_)
  · refine sd_iconst (pc := 190) 0 d8_isImage_190 ci_0 ?_
    refine sd_iadd (pc := 191) d8_isImage_191 ?_
    refine sd_ni (fun v1 => ?_)
    refine sd_istore (lf2 := [some (.ref 52), some (.int l1), some (.int l2), some (.int t0), some (.int v1), some (.int l5), some (.int l6)]) (pc := 192) d8_isImage_192 (Nat.le_of_ble_eq_true rfl) rfl ?_
    refine sd_iinc (lf2 := [some (.ref 52), some (.int l1), some (.int l2), some (.int t0), some (.int v1), some (.int (l5 + 1)), some (.int l6)]) (pc := 194) d8_isImage_194 (Nat.le_of_ble_eq_true rfl) rfl ci_1 rfl ?_
    refine sd_goto (pc := 197) 124 d8_isImage_197 (by decide) ?_
    exact sd_fg [true, true, true, true, true, true, false] rfl (hc124 l1 l2 t0 v1 (l5 + 1) S)
  · refine sd_iload (pc := 185) d8_isImage_185 rfl ?_
    refine sd_goto (pc := 187) 191 d8_isImage_187 (by decide) ?_
    refine sd_iadd (pc := 191) d8_isImage_191 ?_
    refine sd_ni (fun v2 => ?_)
    refine sd_istore (lf2 := [some (.ref 52), some (.int l1), some (.int l2), some (.int t0), some (.int v2), some (.int l5), some (.int l6)]) (pc := 192) d8_isImage_192 (Nat.le_of_ble_eq_true rfl) rfl ?_
    refine sd_iinc (lf2 := [some (.ref 52), some (.int l1), some (.int l2), some (.int t0), some (.int v2), some (.int (l5 + 1)), some (.int l6)]) (pc := 194) d8_isImage_194 (Nat.le_of_ble_eq_true rfl) rfl ci_1 rfl ?_
    refine sd_goto (pc := 197) 124 d8_isImage_197 (by decide) ?_
    exact sd_fg [true, true, true, true, true, true, false] rfl (hc124 l1 l2 t0 v2 (l5 + 1) S)
set_option maxHeartbeats 4000000 in
set_option maxRecDepth 20000 in
theorem s8_isImage_200 {N : Nat} (F : Nat) (l3 : Int32) (l4 : Int32) (S : sm_t) : sm_S (sm_jI N) k8_isImage 0 0 200 [none, none, none, some (.int l3), some (.int l4), none, none] [] (sm_m N S) (x8_isImage_200 F l3 l4 S) := by
  unfold x8_isImage_200
  refine sd_iload_n (pc := 200) d8_isImage_200 rfl ?_
  refine sd_if_eq (pc := 201) 213 d8_isImage_201 (by decide) (fun _ => ?_) (fun _ => ?_)
  · refine sd_iconst (pc := 213) 0 d8_isImage_213 ci_0 ?_
    exact sd_zret (pc := 214) d8_isImage_214 (by decide) (Nat.zero_le _) (Nat.zero_le _)
  · refine sd_iload (pc := 204) d8_isImage_204 rfl ?_
    refine sd_if_le (pc := 206) 213 d8_isImage_206 (by decide) (fun _ => ?_) (fun _ => ?_)
    · refine sd_iconst (pc := 213) 0 d8_isImage_213 ci_0 ?_
      exact sd_zret (pc := 214) d8_isImage_214 (by decide) (Nat.zero_le _) (Nat.zero_le _)
    · refine sd_iconst (pc := 209) 1 d8_isImage_209 ci_1 ?_
      refine sd_goto (pc := 210) 214 d8_isImage_210 (by decide) ?_
      exact sd_zret (pc := 214) d8_isImage_214 (by decide) (Nat.zero_le _) (Nat.zero_le _)
set_option maxHeartbeats 4000000 in
set_option maxRecDepth 20000 in
theorem s8_isImage_124 {N : Nat} (F : Nat) : ∀ (f : Nat) (l1 : Int32) (l2 : Int32) (l3 : Int32) (l4 : Int32) (l5 : Int32) (S : sm_t), sm_S (sm_jI N) k8_isImage 0 0 124 [some (.ref 52), some (.int l1), some (.int l2), some (.int l3), some (.int l4), some (.int l5), none] [] (sm_m N S) (x8_isImage_124 F f l1 l2 l3 l4 l5 S) := by
  intro f
  induction f with
  | zero =>
    intro l1 l2 l3 l4 l5 S
    exact sd_none
  | succ f ih =>
    intro l1 l2 l3 l4 l5 S
    rw [x8_isImage_124]
    refine sd_iload (pc := 124) d8_isImage_124 rfl ?_
    refine sd_bipush (pc := 126) 6 d8_isImage_126 cb_6 ?_
    refine sd_ic_gt (pc := 128) 200 d8_isImage_128 (by decide) (fun _ => ?_) (fun _ => ?_)
    · exact sd_fg [false, false, false, true, true, false, true] rfl (s8_isImage_200 F l3 l4 S)
    · refine sd_iload_n (pc := 131) d8_isImage_131 rfl ?_
      refine sd_if_eq (pc := 132) 200 d8_isImage_132 (by decide) (fun _ => ?_) (fun _ => ?_)
      · exact sd_fg [false, false, false, true, true, false, true] rfl (s8_isImage_200 F l3 l4 S)
      · refine sd_aload_n (pc := 135) d8_isImage_135 rfl ?_
        refine sd_iload_n (pc := 136) d8_isImage_136 rfl ?_
        refine sd_bipush (pc := 137) 8 d8_isImage_137 cb_8 ?_
        refine sd_iload (pc := 139) d8_isImage_139 rfl ?_
        refine sd_iadd (pc := 141) d8_isImage_141 ?_
        refine sd_cVI (k2 := k8_rowAt) (As := [.int l1, .int (8 + l5)]) (rest := []) (b := 52) (ci := 7) (pc := 142) 98 (show sm_sq 52 = some (.inr 7) from rfl) (by decide) rfl d8_isImage_142 ml8_98 (ms8_rowAt).1 (ms8_rowAt).2 (me8_rowAt) ⟨rfl, rfl⟩ ⟨Nat.le_of_ble_eq_true rfl, Nat.le_of_ble_eq_true rfl⟩ (Nat.le_of_ble_eq_true rfl) (Nat.le_of_ble_eq_true rfl) (Or.inl rfl) (Nat.zero_le _) (Nat.zero_le _) rfl (s8_rowAt F l1 (8 + l5) S) (fun v1 S => ?_)
        refine sd_istore (lf2 := [some (.ref 52), some (.int l1), some (.int l2), some (.int l3), some (.int l4), some (.int l5), some (.int v1)]) (pc := 145) d8_isImage_145 (Nat.le_of_ble_eq_true rfl) rfl ?_
        refine sd_iload (pc := 147) d8_isImage_147 rfl ?_
        refine sd_iload_n (pc := 149) d8_isImage_149 rfl ?_
        refine sd_ic_gt (pc := 150) 164 d8_isImage_150 (by decide) (fun _ => ?_) (fun _ => ?_)
        · refine sd_iload (pc := 164) d8_isImage_164 rfl ?_
          refine sd_bipush (pc := 166) (-9) d8_isImage_166 cb_m9 ?_
          refine sd_ic_ne (pc := 168) 175 d8_isImage_168 (by decide) (fun _ => ?_) (fun _ => ?_)
          · refine sd_iconst (pc := 171) 1 d8_isImage_171 ci_1 ?_
            refine sd_goto (pc := 172) 176 d8_isImage_172 (by decide) ?_
            exact sd_fg [true, true, true, false, true, true, true] rfl (s8_isImage_176 F _ ih l1 l2 l4 l5 v1 1 S)
          · refine sd_iconst (pc := 175) 0 d8_isImage_175 ci_0 ?_
            exact sd_fg [true, true, true, false, true, true, true] rfl (s8_isImage_176 F _ ih l1 l2 l4 l5 v1 0 S)
        · refine sd_iload (pc := 153) d8_isImage_153 rfl ?_
          refine sd_iconst (pc := 155) 0 d8_isImage_155 ci_0 ?_
          refine sd_bipush (pc := 156) 9 d8_isImage_156 cb_9 ?_
          refine sd_cSI (k2 := k8_in) (As := [.int v1, .int 0, .int 9]) (rest := []) (pc := 158) 80 d8_isImage_158 ml8_80 (ms8_in) (me8_in) ⟨rfl, rfl⟩ ⟨Nat.le_of_ble_eq_true rfl, Nat.le_of_ble_eq_true rfl⟩ (Nat.le_of_ble_eq_true rfl) (Nat.le_of_ble_eq_true rfl) (Or.inr rfl) (Nat.zero_le _) (Nat.zero_le _) rfl (s8_in F v1 0 9 S) (fun v2 S => ?_)
          refine sd_goto (pc := 161) 176 d8_isImage_161 (by decide) ?_
          exact sd_fg [true, true, true, false, true, true, true] rfl (s8_isImage_176 F _ ih l1 l2 l4 l5 v1 v2 S)
set_option maxHeartbeats 4000000 in
set_option maxRecDepth 20000 in
theorem s8_isImage_63 {N : Nat} (F : Nat) : ∀ (f : Nat) (l1 : Int32) (l2 : Int32) (l3 : Int32) (l4 : Int32) (l5 : Int32) (S : sm_t), sm_S (sm_jI N) k8_isImage 0 0 63 [some (.ref 52), some (.int l1), some (.int l2), some (.int l3), some (.int l4), some (.int l5), none] [] (sm_m N S) (x8_isImage_63 F f l1 l2 l3 l4 l5 S) := by
  intro f
  induction f with
  | zero =>
    intro l1 l2 l3 l4 l5 S
    exact sd_none
  | succ f ih =>
    intro l1 l2 l3 l4 l5 S
    rw [x8_isImage_63]
    refine sd_iload (pc := 63) d8_isImage_63 rfl ?_
    refine sd_bipush (pc := 65) 6 d8_isImage_65 cb_6 ?_
    refine sd_ic_ge (pc := 67) 121 d8_isImage_67 (by decide) (fun _ => ?_) (fun _ => ?_)
    · refine sd_iconst (pc := 121) 0 d8_isImage_121 ci_0 ?_
      refine sd_istore (lf2 := [some (.ref 52), some (.int l1), some (.int l2), some (.int l3), some (.int l4), some (.int 0), none]) (pc := 122) d8_isImage_122 (Nat.le_of_ble_eq_true rfl) rfl ?_
      exact s8_isImage_124 F F l1 l2 l3 l4 0 S
    · refine sd_iload_n (pc := 70) d8_isImage_70 rfl ?_
      refine sd_if_eq (pc := 71) 121 d8_isImage_71 (by decide) (fun _ => ?_) (fun _ => ?_)
      · refine sd_iconst (pc := 121) 0 d8_isImage_121 ci_0 ?_
        refine sd_istore (lf2 := [some (.ref 52), some (.int l1), some (.int l2), some (.int l3), some (.int l4), some (.int 0), none]) (pc := 122) d8_isImage_122 (Nat.le_of_ble_eq_true rfl) rfl ?_
        exact s8_isImage_124 F F l1 l2 l3 l4 0 S
      · refine sd_iload (pc := 74) d8_isImage_74 rfl ?_
        refine sd_iload_n (pc := 76) d8_isImage_76 rfl ?_
        refine sd_ic_ge (pc := 77) 95 d8_isImage_77 (by decide) (fun _ => ?_) (fun _ => ?_)
        · refine sd_aload_n (pc := 95) d8_isImage_95 rfl ?_
          refine sd_iload_n (pc := 96) d8_isImage_96 rfl ?_
          refine sd_iconst (pc := 97) 2 d8_isImage_97 ci_2 ?_
          refine sd_iload (pc := 98) d8_isImage_98 rfl ?_
          refine sd_iadd (pc := 100) d8_isImage_100 ?_
          refine sd_cVI (k2 := k8_rowAt) (As := [.int l1, .int (2 + l5)]) (rest := []) (b := 52) (ci := 7) (pc := 101) 98 (show sm_sq 52 = some (.inr 7) from rfl) (by decide) rfl d8_isImage_101 ml8_98 (ms8_rowAt).1 (ms8_rowAt).2 (me8_rowAt) ⟨rfl, rfl⟩ ⟨Nat.le_of_ble_eq_true rfl, Nat.le_of_ble_eq_true rfl⟩ (Nat.le_of_ble_eq_true rfl) (Nat.le_of_ble_eq_true rfl) (Or.inl rfl) (Nat.zero_le _) (Nat.zero_le _) rfl (s8_rowAt F l1 (2 + l5) S) (fun v1 S => ?_)
          refine sd_bipush (pc := 104) (-9) d8_isImage_104 cb_m9 ?_
          refine sd_ic_ne (pc := 106) 113 d8_isImage_106 (by decide) (fun _ => ?_) (fun _ => ?_)
          · refine sd_iconst (pc := 109) 1 d8_isImage_109 ci_1 ?_
            refine sd_goto (pc := 110) 114 d8_isImage_110 (by decide) ?_
            refine sd_istore_n (lf2 := [some (.ref 52), some (.int l1), some (.int l2), some (.int 1), some (.int l4), some (.int l5), none]) (pc := 114) d8_isImage_114 (Nat.le_of_ble_eq_true rfl) rfl ?_
            refine sd_iinc (lf2 := [some (.ref 52), some (.int l1), some (.int l2), some (.int 1), some (.int l4), some (.int (l5 + 1)), none]) (pc := 115) d8_isImage_115 (Nat.le_of_ble_eq_true rfl) rfl ci_1 rfl ?_
            refine sd_goto (pc := 118) 63 d8_isImage_118 (by decide) ?_
            exact ih l1 l2 1 l4 (l5 + 1) S
          · refine sd_iconst (pc := 113) 0 d8_isImage_113 ci_0 ?_
            refine sd_istore_n (lf2 := [some (.ref 52), some (.int l1), some (.int l2), some (.int 0), some (.int l4), some (.int l5), none]) (pc := 114) d8_isImage_114 (Nat.le_of_ble_eq_true rfl) rfl ?_
            refine sd_iinc (lf2 := [some (.ref 52), some (.int l1), some (.int l2), some (.int 0), some (.int l4), some (.int (l5 + 1)), none]) (pc := 115) d8_isImage_115 (Nat.le_of_ble_eq_true rfl) rfl ci_1 rfl ?_
            refine sd_goto (pc := 118) 63 d8_isImage_118 (by decide) ?_
            exact ih l1 l2 0 l4 (l5 + 1) S
        · refine sd_aload_n (pc := 80) d8_isImage_80 rfl ?_
          refine sd_iload_n (pc := 81) d8_isImage_81 rfl ?_
          refine sd_iconst (pc := 82) 2 d8_isImage_82 ci_2 ?_
          refine sd_iload (pc := 83) d8_isImage_83 rfl ?_
          refine sd_iadd (pc := 85) d8_isImage_85 ?_
          refine sd_cVI (k2 := k8_rowAt) (As := [.int l1, .int (2 + l5)]) (rest := []) (b := 52) (ci := 7) (pc := 86) 98 (show sm_sq 52 = some (.inr 7) from rfl) (by decide) rfl d8_isImage_86 ml8_98 (ms8_rowAt).1 (ms8_rowAt).2 (me8_rowAt) ⟨rfl, rfl⟩ ⟨Nat.le_of_ble_eq_true rfl, Nat.le_of_ble_eq_true rfl⟩ (Nat.le_of_ble_eq_true rfl) (Nat.le_of_ble_eq_true rfl) (Or.inl rfl) (Nat.zero_le _) (Nat.zero_le _) rfl (s8_rowAt F l1 (2 + l5) S) (fun v2 S => ?_)
          refine sd_cSI (k2 := k8_isSide) (As := [.int v2]) (rest := []) (pc := 89) 126 d8_isImage_89 ml8_126 (ms8_isSide) (me8_isSide) ⟨rfl, rfl⟩ ⟨Nat.le_of_ble_eq_true rfl, Nat.le_of_ble_eq_true rfl⟩ (Nat.le_of_ble_eq_true rfl) (Nat.le_of_ble_eq_true rfl) (Or.inr rfl) (Nat.zero_le _) (Nat.zero_le _) rfl (s8_isSide F v2 S) (fun v3 S => ?_)
          refine sd_goto (pc := 92) 114 d8_isImage_92 (by decide) ?_
          refine sd_istore_n (lf2 := [some (.ref 52), some (.int l1), some (.int l2), some (.int v3), some (.int l4), some (.int l5), none]) (pc := 114) d8_isImage_114 (Nat.le_of_ble_eq_true rfl) rfl ?_
          refine sd_iinc (lf2 := [some (.ref 52), some (.int l1), some (.int l2), some (.int v3), some (.int l4), some (.int (l5 + 1)), none]) (pc := 115) d8_isImage_115 (Nat.le_of_ble_eq_true rfl) rfl ci_1 rfl ?_
          refine sd_goto (pc := 118) 63 d8_isImage_118 (by decide) ?_
          exact ih l1 l2 v3 l4 (l5 + 1) S
set_option maxHeartbeats 4000000 in
set_option maxRecDepth 20000 in
theorem s8_isImage {N : Nat} (F : Nat) (l1 : Int32) (S : sm_t) : sm_P (sm_jI N) k8_isImage [.ref 52, .int l1] (sm_m N S) (x8_isImage F l1 S) := by
  show sm_S (sm_jI N) k8_isImage 0 0 0 [some (.ref 52), some (.int l1), none, none, none, none, none] [] (sm_m N S) (x8_isImage F l1 S)
  unfold x8_isImage
  refine sd_aload_n (pc := 0) d8_isImage_0 rfl ?_
  refine sd_iload_n (pc := 1) d8_isImage_1 rfl ?_
  refine sd_iconst (pc := 2) 1 d8_isImage_2 ci_1 ?_
  refine sd_cVI (k2 := k8_rowAt) (As := [.int l1, .int 1]) (rest := []) (b := 52) (ci := 7) (pc := 3) 98 (show sm_sq 52 = some (.inr 7) from rfl) (by decide) rfl d8_isImage_3 ml8_98 (ms8_rowAt).1 (ms8_rowAt).2 (me8_rowAt) ⟨rfl, rfl⟩ ⟨Nat.le_of_ble_eq_true rfl, Nat.le_of_ble_eq_true rfl⟩ (Nat.le_of_ble_eq_true rfl) (Nat.le_of_ble_eq_true rfl) (Or.inl rfl) (Nat.zero_le _) (Nat.zero_le _) rfl (s8_rowAt F l1 1 S) (fun v1 S => ?_)
  refine sd_istore_n (lf2 := [some (.ref 52), some (.int l1), some (.int v1), none, none, none, none]) (pc := 6) d8_isImage_6 (Nat.le_of_ble_eq_true rfl) rfl ?_
  refine sd_aload_n (pc := 7) d8_isImage_7 rfl ?_
  refine sd_iload_n (pc := 8) d8_isImage_8 rfl ?_
  refine sd_iconst (pc := 9) 0 d8_isImage_9 ci_0 ?_
  refine sd_cVI (k2 := k8_rowAt) (As := [.int l1, .int 0]) (rest := []) (b := 52) (ci := 7) (pc := 10) 98 (show sm_sq 52 = some (.inr 7) from rfl) (by decide) rfl d8_isImage_10 ml8_98 (ms8_rowAt).1 (ms8_rowAt).2 (me8_rowAt) ⟨rfl, rfl⟩ ⟨Nat.le_of_ble_eq_true rfl, Nat.le_of_ble_eq_true rfl⟩ (Nat.le_of_ble_eq_true rfl) (Nat.le_of_ble_eq_true rfl) (Or.inl rfl) (Nat.zero_le _) (Nat.zero_le _) rfl (s8_rowAt F l1 0 S) (fun v2 S => ?_)
  refine sd_cSI (k2 := k8_isCell) (As := [.int v2]) (rest := []) (pc := 13) 117 d8_isImage_13 ml8_117 (ms8_isCell) (me8_isCell) ⟨rfl, rfl⟩ ⟨Nat.le_of_ble_eq_true rfl, Nat.le_of_ble_eq_true rfl⟩ (Nat.le_of_ble_eq_true rfl) (Nat.le_of_ble_eq_true rfl) (Or.inr rfl) (Nat.zero_le _) (Nat.zero_le _) rfl (s8_isCell F v2 S) (fun v3 S => ?_)
  refine sd_if_eq (pc := 16) 55 d8_isImage_16 (by decide) (fun _ => ?_) (fun _ => ?_)
  · refine sd_iconst (pc := 55) 0 d8_isImage_55 ci_0 ?_
    refine sd_istore_n (lf2 := [some (.ref 52), some (.int l1), some (.int v1), some (.int 0), none, none, none]) (pc := 56) d8_isImage_56 (Nat.le_of_ble_eq_true rfl) rfl ?_
    refine sd_iconst (pc := 57) 0 d8_isImage_57 ci_0 ?_
    refine sd_istore (lf2 := [some (.ref 52), some (.int l1), some (.int v1), some (.int 0), some (.int 0), none, none]) (pc := 58) d8_isImage_58 (Nat.le_of_ble_eq_true rfl) rfl ?_
    refine sd_iconst (pc := 60) 0 d8_isImage_60 ci_0 ?_
    refine sd_istore (lf2 := [some (.ref 52), some (.int l1), some (.int v1), some (.int 0), some (.int 0), some (.int 0), none]) (pc := 61) d8_isImage_61 (Nat.le_of_ble_eq_true rfl) rfl ?_
    exact s8_isImage_63 F F l1 v1 0 0 0 S
  · refine sd_iload_n (pc := 19) d8_isImage_19 rfl ?_
    refine sd_iconst (pc := 20) 0 d8_isImage_20 ci_0 ?_
    refine sd_bipush (pc := 21) 6 d8_isImage_21 cb_6 ?_
    refine sd_cSI (k2 := k8_in) (As := [.int v1, .int 0, .int 6]) (rest := []) (pc := 23) 80 d8_isImage_23 ml8_80 (ms8_in) (me8_in) ⟨rfl, rfl⟩ ⟨Nat.le_of_ble_eq_true rfl, Nat.le_of_ble_eq_true rfl⟩ (Nat.le_of_ble_eq_true rfl) (Nat.le_of_ble_eq_true rfl) (Or.inr rfl) (Nat.zero_le _) (Nat.zero_le _) rfl (s8_in F v1 0 6 S) (fun v4 S => ?_)
    refine sd_if_eq (pc := 26) 55 d8_isImage_26 (by decide) (fun _ => ?_) (fun _ => ?_)
    · refine sd_iconst (pc := 55) 0 d8_isImage_55 ci_0 ?_
      refine sd_istore_n (lf2 := [some (.ref 52), some (.int l1), some (.int v1), some (.int 0), none, none, none]) (pc := 56) d8_isImage_56 (Nat.le_of_ble_eq_true rfl) rfl ?_
      refine sd_iconst (pc := 57) 0 d8_isImage_57 ci_0 ?_
      refine sd_istore (lf2 := [some (.ref 52), some (.int l1), some (.int v1), some (.int 0), some (.int 0), none, none]) (pc := 58) d8_isImage_58 (Nat.le_of_ble_eq_true rfl) rfl ?_
      refine sd_iconst (pc := 60) 0 d8_isImage_60 ci_0 ?_
      refine sd_istore (lf2 := [some (.ref 52), some (.int l1), some (.int v1), some (.int 0), some (.int 0), some (.int 0), none]) (pc := 61) d8_isImage_61 (Nat.le_of_ble_eq_true rfl) rfl ?_
      exact s8_isImage_63 F F l1 v1 0 0 0 S
    · refine sd_aload_n (pc := 29) d8_isImage_29 rfl ?_
      refine sd_iload_n (pc := 30) d8_isImage_30 rfl ?_
      refine sd_bipush (pc := 31) 15 d8_isImage_31 cb_15 ?_
      refine sd_cVI (k2 := k8_rowAt) (As := [.int l1, .int 15]) (rest := []) (b := 52) (ci := 7) (pc := 33) 98 (show sm_sq 52 = some (.inr 7) from rfl) (by decide) rfl d8_isImage_33 ml8_98 (ms8_rowAt).1 (ms8_rowAt).2 (me8_rowAt) ⟨rfl, rfl⟩ ⟨Nat.le_of_ble_eq_true rfl, Nat.le_of_ble_eq_true rfl⟩ (Nat.le_of_ble_eq_true rfl) (Nat.le_of_ble_eq_true rfl) (Or.inl rfl) (Nat.zero_le _) (Nat.zero_le _) rfl (s8_rowAt F l1 15 S) (fun v5 S => ?_)
      refine sd_iconst (pc := 36) 0 d8_isImage_36 ci_0 ?_
      refine sd_iconst (pc := 37) 1 d8_isImage_37 ci_1 ?_
      refine sd_aload_n (pc := 38) d8_isImage_38 rfl ?_
      refine sd_getI (pc := 39) (show sm_sq 52 = some (.inr 7) from rfl) rfl fl8_161 d8_isImage_39 (fun v6 => ?_)
      refine sd_ishl (pc := 42) d8_isImage_42 ?_
      refine sd_iconst (pc := 43) 1 d8_isImage_43 ci_1 ?_
      refine sd_isub (pc := 44) d8_isImage_44 ?_
      refine sd_cSI (k2 := k8_in) (As := [.int v5, .int 0, .int ((1 <<< (v6 &&& 31)) - 1)]) (rest := []) (pc := 45) 80 d8_isImage_45 ml8_80 (ms8_in) (me8_in) ⟨rfl, rfl⟩ ⟨Nat.le_of_ble_eq_true rfl, Nat.le_of_ble_eq_true rfl⟩ (Nat.le_of_ble_eq_true rfl) (Nat.le_of_ble_eq_true rfl) (Or.inr rfl) (Nat.zero_le _) (Nat.zero_le _) rfl (s8_in F v5 0 ((1 <<< (v6 &&& 31)) - 1) S) (fun v7 S => ?_)
      refine sd_if_eq (pc := 48) 55 d8_isImage_48 (by decide) (fun _ => ?_) (fun _ => ?_)
      · refine sd_iconst (pc := 55) 0 d8_isImage_55 ci_0 ?_
        refine sd_istore_n (lf2 := [some (.ref 52), some (.int l1), some (.int v1), some (.int 0), none, none, none]) (pc := 56) d8_isImage_56 (Nat.le_of_ble_eq_true rfl) rfl ?_
        refine sd_iconst (pc := 57) 0 d8_isImage_57 ci_0 ?_
        refine sd_istore (lf2 := [some (.ref 52), some (.int l1), some (.int v1), some (.int 0), some (.int 0), none, none]) (pc := 58) d8_isImage_58 (Nat.le_of_ble_eq_true rfl) rfl ?_
        refine sd_iconst (pc := 60) 0 d8_isImage_60 ci_0 ?_
        refine sd_istore (lf2 := [some (.ref 52), some (.int l1), some (.int v1), some (.int 0), some (.int 0), some (.int 0), none]) (pc := 61) d8_isImage_61 (Nat.le_of_ble_eq_true rfl) rfl ?_
        exact s8_isImage_63 F F l1 v1 0 0 0 S
      · refine sd_iconst (pc := 51) 1 d8_isImage_51 ci_1 ?_
        refine sd_goto (pc := 52) 56 d8_isImage_52 (by decide) ?_
        refine sd_istore_n (lf2 := [some (.ref 52), some (.int l1), some (.int v1), some (.int 1), none, none, none]) (pc := 56) d8_isImage_56 (Nat.le_of_ble_eq_true rfl) rfl ?_
        refine sd_iconst (pc := 57) 0 d8_isImage_57 ci_0 ?_
        refine sd_istore (lf2 := [some (.ref 52), some (.int l1), some (.int v1), some (.int 1), some (.int 0), none, none]) (pc := 58) d8_isImage_58 (Nat.le_of_ble_eq_true rfl) rfl ?_
        refine sd_iconst (pc := 60) 0 d8_isImage_60 ci_0 ?_
        refine sd_istore (lf2 := [some (.ref 52), some (.int l1), some (.int v1), some (.int 1), some (.int 0), some (.int 0), none]) (pc := 61) d8_isImage_61 (Nat.le_of_ble_eq_true rfl) rfl ?_
        exact s8_isImage_63 F F l1 v1 1 0 0 S
set_option maxHeartbeats 4000000 in
set_option maxRecDepth 20000 in
theorem s8_on_71 {N : Nat} (F : Nat) : ∀ (f : Nat) (l1 : Int32) (l3 : Int32) (S : sm_t), sm_S (sm_jI N) k8_on 0 0 71 [some (.ref 52), some (.int l1), none, some (.int l3)] [] (sm_m N S) (x8_on_71 F f l1 l3 S) := by
  intro f
  induction f with
  | zero =>
    intro l1 l3 S
    exact sd_none
  | succ f ih =>
    intro l1 l3 S
    rw [x8_on_71]
    refine sd_iload_n (pc := 71) d8_on_71 rfl ?_
    refine sd_aload_n (pc := 72) d8_on_72 rfl ?_
    refine sd_getI (pc := 73) (show sm_sq 52 = some (.inr 7) from rfl) rfl fl8_161 d8_on_73 (fun v1 => ?_)
    refine sd_ic_ge (pc := 76) 106 d8_on_76 (by decide) (fun _ => ?_) (fun _ => ?_)
    · refine sd_iconst (pc := 106) 1 d8_on_106 ci_1 ?_
      exact sd_iret (pc := 107) d8_on_107 rfl (Nat.zero_le _) (Nat.zero_le _)
    · refine sd_aload_n (pc := 79) d8_on_79 rfl ?_
      refine sd_getR (pc := 80) 63 (show sm_sq 52 = some (.inr 7) from rfl) rfl fl8_45 rfl d8_on_80 ?_
      refine sd_iconst (pc := 83) 5 d8_on_83 ci_5 ?_
      refine sd_iload_n (pc := 84) d8_on_84 rfl ?_
      refine sd_imul (pc := 85) d8_on_85 ?_
      refine sd_iconst (pc := 86) 4 d8_on_86 ci_4 ?_
      refine sd_iadd (pc := 87) d8_on_87 ?_
      refine sd_aload_n (pc := 88) d8_on_88 rfl ?_
      refine sd_iload_n (pc := 89) d8_on_89 rfl ?_
      refine sd_bipush (pc := 90) 15 d8_on_90 cb_15 ?_
      refine sd_cVI (k2 := k8_rowAt) (As := [.int l1, .int 15]) (rest := [.int ((5 * l3) + 4), .ref 63]) (b := 52) (ci := 7) (pc := 92) 98 (show sm_sq 52 = some (.inr 7) from rfl) (by decide) rfl d8_on_92 ml8_98 (ms8_rowAt).1 (ms8_rowAt).2 (me8_rowAt) ⟨rfl, rfl⟩ ⟨Nat.le_of_ble_eq_true rfl, Nat.le_of_ble_eq_true rfl⟩ (Nat.le_of_ble_eq_true rfl) (Nat.le_of_ble_eq_true rfl) (Or.inl rfl) (Nat.zero_le _) (Nat.zero_le _) rfl (s8_rowAt F l1 15 S) (fun v2 S => ?_)
      refine sd_iload_n (pc := 95) d8_on_95 rfl ?_
      refine sd_ishr (pc := 96) d8_on_96 ?_
      refine sd_iconst (pc := 97) 1 d8_on_97 ci_1 ?_
      refine sd_iand (pc := 98) d8_on_98 ?_
      refine sd_iast (pc := 99) (show sm_sq 63 = some (.inl (.int, 60)) from rfl) d8_on_99 (fun S => ?_)
      refine sd_iinc (lf2 := [some (.ref 52), some (.int l1), none, some (.int (l3 + 1))]) (pc := 100) d8_on_100 (Nat.le_of_ble_eq_true rfl) rfl ci_1 rfl ?_
      refine sd_goto (pc := 103) 71 d8_on_103 (by decide) ?_
      exact ih l1 (l3 + 1) S
set_option maxHeartbeats 4000000 in
set_option maxRecDepth 20000 in
theorem s8_on_45 {N : Nat} (F : Nat) : ∀ (f : Nat) (l1 : Int32) (l3 : Int32) (S : sm_t), sm_S (sm_jI N) k8_on 0 0 45 [some (.ref 52), some (.int l1), none, some (.int l3)] [] (sm_m N S) (x8_on_45 F f l1 l3 S) := by
  intro f
  induction f with
  | zero =>
    intro l1 l3 S
    exact sd_none
  | succ f ih =>
    intro l1 l3 S
    rw [x8_on_45]
    refine sd_iload_n (pc := 45) d8_on_45 rfl ?_
    refine sd_bipush (pc := 46) 15 d8_on_46 cb_15 ?_
    refine sd_ic_ge (pc := 48) 69 d8_on_48 (by decide) (fun _ => ?_) (fun _ => ?_)
    · refine sd_iconst (pc := 69) 0 d8_on_69 ci_0 ?_
      refine sd_istore_n (lf2 := [some (.ref 52), some (.int l1), none, some (.int 0)]) (pc := 70) d8_on_70 (Nat.le_of_ble_eq_true rfl) rfl ?_
      exact s8_on_71 F F l1 0 S
    · refine sd_aload_n (pc := 51) d8_on_51 rfl ?_
      refine sd_getR (pc := 52) 59 (show sm_sq 52 = some (.inr 7) from rfl) rfl fl8_32 rfl d8_on_52 ?_
      refine sd_iload_n (pc := 55) d8_on_55 rfl ?_
      refine sd_aload_n (pc := 56) d8_on_56 rfl ?_
      refine sd_iload_n (pc := 57) d8_on_57 rfl ?_
      refine sd_iload_n (pc := 58) d8_on_58 rfl ?_
      refine sd_cVI (k2 := k8_rowAt) (As := [.int l1, .int l3]) (rest := [.int l3, .ref 59]) (b := 52) (ci := 7) (pc := 59) 98 (show sm_sq 52 = some (.inr 7) from rfl) (by decide) rfl d8_on_59 ml8_98 (ms8_rowAt).1 (ms8_rowAt).2 (me8_rowAt) ⟨rfl, rfl⟩ ⟨Nat.le_of_ble_eq_true rfl, Nat.le_of_ble_eq_true rfl⟩ (Nat.le_of_ble_eq_true rfl) (Nat.le_of_ble_eq_true rfl) (Or.inl rfl) (Nat.zero_le _) (Nat.zero_le _) rfl (s8_rowAt F l1 l3 S) (fun v1 S => ?_)
      refine sd_iast (pc := 62) (show sm_sq 59 = some (.inl (.int, 15)) from rfl) d8_on_62 (fun S => ?_)
      refine sd_iinc (lf2 := [some (.ref 52), some (.int l1), none, some (.int (l3 + 1))]) (pc := 63) d8_on_63 (Nat.le_of_ble_eq_true rfl) rfl ci_1 rfl ?_
      refine sd_goto (pc := 66) 45 d8_on_66 (by decide) ?_
      exact ih l1 (l3 + 1) S
set_option maxHeartbeats 4000000 in
set_option maxRecDepth 20000 in
theorem s8_on {N : Nat} (F : Nat) (l1 : Int32) (S : sm_t) : sm_P (sm_jI N) k8_on [.ref 52, .int l1] (sm_m N S) (x8_on F l1 S) := by
  show sm_S (sm_jI N) k8_on 0 0 0 [some (.ref 52), some (.int l1), none, none] [] (sm_m N S) (x8_on F l1 S)
  unfold x8_on
  refine sd_aload_n (pc := 0) d8_on_0 rfl ?_
  refine sd_iload_n (pc := 1) d8_on_1 rfl ?_
  refine sd_cVI (k2 := k8_askedRow) (As := [.int l1]) (rest := []) (b := 52) (ci := 7) (pc := 2) 95 (show sm_sq 52 = some (.inr 7) from rfl) (by decide) rfl d8_on_2 ml8_95 (ms8_askedRow).1 (ms8_askedRow).2 (me8_askedRow) ⟨rfl, rfl⟩ ⟨Nat.le_of_ble_eq_true rfl, Nat.le_of_ble_eq_true rfl⟩ (Nat.le_of_ble_eq_true rfl) (Nat.le_of_ble_eq_true rfl) (Or.inl rfl) (Nat.zero_le _) (Nat.zero_le _) rfl (s8_askedRow F l1 S) (fun v1 S => ?_)
  refine sd_istore_n (lf2 := [some (.ref 52), some (.int l1), some (.int v1), none]) (pc := 5) d8_on_5 (Nat.le_of_ble_eq_true rfl) rfl ?_
  refine sd_iload_n (pc := 6) d8_on_6 rfl ?_
  refine sd_if_ge (pc := 7) 12 d8_on_7 (by decide) (fun _ => ?_) (fun _ => ?_)
  · refine sd_aload_n (pc := 12) d8_on_12 rfl ?_
    refine sd_getR (pc := 13) 54 (show sm_sq 52 = some (.inr 7) from rfl) rfl fl8_17 rfl d8_on_13 ?_
    refine sd_iload_n (pc := 16) d8_on_16 rfl ?_
    refine sd_iald (pc := 17) (show sm_sq 54 = some (.inl (.int, 6)) from rfl) d8_on_17 (fun v2 => ?_)
    refine sd_bipush (pc := 18) 16 d8_on_18 cb_16 ?_
    refine sd_ic_eq (pc := 20) 29 d8_on_20 (by decide) (fun _ => ?_) (fun _ => ?_)
    · refine sd_aload_n (pc := 29) d8_on_29 rfl ?_
      refine sd_iload_n (pc := 30) d8_on_30 rfl ?_
      refine sd_cVI (k2 := k8_isImage) (As := [.int l1]) (rest := []) (b := 52) (ci := 7) (pc := 31) 292 (show sm_sq 52 = some (.inr 7) from rfl) (by decide) rfl d8_on_31 ml8_292 (ms8_isImage).1 (ms8_isImage).2 (me8_isImage) ⟨rfl, rfl⟩ ⟨Nat.le_of_ble_eq_true rfl, Nat.le_of_ble_eq_true rfl⟩ (Nat.le_of_ble_eq_true rfl) (Nat.le_of_ble_eq_true rfl) (Or.inr rfl) (Nat.zero_le _) (Nat.zero_le _) rfl (s8_isImage F l1 S) (fun v3 S => ?_)
      refine sd_if_ne (pc := 34) 43 d8_on_34 (by decide) (fun _ => ?_) (fun _ => ?_)
      · refine sd_aload_n (pc := 37) d8_on_37 rfl ?_
        refine sd_iconst (pc := 38) 3 d8_on_38 ci_3 ?_
        refine sd_cVI (k2 := k8_meets) (As := [.int 3]) (rest := []) (b := 52) (ci := 7) (pc := 39) 88 (show sm_sq 52 = some (.inr 7) from rfl) (by decide) rfl d8_on_39 ml8_88 (ms8_meets).1 (ms8_meets).2 (me8_meets) ⟨rfl, rfl⟩ ⟨Nat.le_of_ble_eq_true rfl, Nat.le_of_ble_eq_true rfl⟩ (Nat.le_of_ble_eq_true rfl) (Nat.le_of_ble_eq_true rfl) (Or.inl rfl) (Nat.zero_le _) (Nat.zero_le _) rfl (s8_meets F 3 S) (fun v4 S => ?_)
        exact sd_iret (pc := 42) d8_on_42 rfl (Nat.zero_le _) (Nat.zero_le _)
      · refine sd_iconst (pc := 43) 0 d8_on_43 ci_0 ?_
        refine sd_istore_n (lf2 := [some (.ref 52), some (.int l1), some (.int v1), some (.int 0)]) (pc := 44) d8_on_44 (Nat.le_of_ble_eq_true rfl) rfl ?_
        exact sd_fg [true, true, false, true] rfl (s8_on_45 F F l1 0 S)
    · refine sd_aload_n (pc := 23) d8_on_23 rfl ?_
      refine sd_iconst (pc := 24) 5 d8_on_24 ci_5 ?_
      refine sd_cVI (k2 := k8_meets) (As := [.int 5]) (rest := []) (b := 52) (ci := 7) (pc := 25) 88 (show sm_sq 52 = some (.inr 7) from rfl) (by decide) rfl d8_on_25 ml8_88 (ms8_meets).1 (ms8_meets).2 (me8_meets) ⟨rfl, rfl⟩ ⟨Nat.le_of_ble_eq_true rfl, Nat.le_of_ble_eq_true rfl⟩ (Nat.le_of_ble_eq_true rfl) (Nat.le_of_ble_eq_true rfl) (Or.inl rfl) (Nat.zero_le _) (Nat.zero_le _) rfl (s8_meets F 5 S) (fun v5 S => ?_)
      exact sd_iret (pc := 28) d8_on_28 rfl (Nat.zero_le _) (Nat.zero_le _)
  · refine sd_iload_n (pc := 10) d8_on_10 rfl ?_
    exact sd_iret (pc := 11) d8_on_11 rfl (Nat.zero_le _) (Nat.zero_le _)
set_option maxHeartbeats 4000000 in
set_option maxRecDepth 20000 in
theorem s7_asked {N : Nat} (F : Nat) (S : sm_t) : sm_P (sm_jI N) k7_asked [.ref 3] (sm_m N S) (x7_asked F S) := by
  show sm_S (sm_jI N) k7_asked 0 0 0 [some (.ref 3)] [] (sm_m N S) (x7_asked F S)
  unfold x7_asked
  refine sd_aload_n (pc := 0) d7_asked_0 rfl ?_
  refine sd_getI (pc := 1) (show sm_sq 3 = some (.inr 6) from rfl) rfl fl7_65 d7_asked_1 (fun v1 => ?_)
  exact sd_iret (pc := 4) d7_asked_4 rfl (Nat.zero_le _) (Nat.zero_le _)
set_option maxHeartbeats 4000000 in
set_option maxRecDepth 20000 in
theorem s8_asked {N : Nat} (F : Nat) (S : sm_t) : sm_P (sm_jI N) k8_asked [.ref 52] (sm_m N S) (x8_asked F S) := by
  show sm_S (sm_jI N) k8_asked 0 0 0 [some (.ref 52)] [] (sm_m N S) (x8_asked F S)
  unfold x8_asked
  refine sd_aload_n (pc := 0) d8_asked_0 rfl ?_
  refine sd_getI (pc := 1) (show sm_sq 52 = some (.inr 7) from rfl) rfl fl8_74 d8_asked_1 (fun v1 => ?_)
  exact sd_iret (pc := 4) d8_asked_4 rfl (Nat.zero_le _) (Nat.zero_le _)
set_option maxHeartbeats 4000000 in
set_option maxRecDepth 20000 in
theorem s7_upper {N : Nat} (F : Nat) (S : sm_t) : sm_P (sm_jL N) k7_upper [.ref 3] (sm_m N S) (x7_upper F S) := by
  show sm_S (sm_jL N) k7_upper 0 0 0 [some (.ref 3)] [] (sm_m N S) (x7_upper F S)
  unfold x7_upper
  refine sd_aload_n (pc := 0) d7_upper_0 rfl ?_
  refine sd_getL (pc := 1) (show sm_sq 3 = some (.inr 6) from rfl) rfl fl7_69 d7_upper_1 (fun v1 => ?_)
  exact sd_lret (pc := 4) d7_upper_4 (Nat.zero_le _) (Nat.zero_le _)
set_option maxHeartbeats 4000000 in
set_option maxRecDepth 20000 in
theorem s8_upper {N : Nat} (F : Nat) (S : sm_t) : sm_P (sm_jL N) k8_upper [.ref 52] (sm_m N S) (x8_upper F S) := by
  show sm_S (sm_jL N) k8_upper 0 0 0 [some (.ref 52)] [] (sm_m N S) (x8_upper F S)
  unfold x8_upper
  refine sd_aload_n (pc := 0) d8_upper_0 rfl ?_
  refine sd_getL (pc := 1) (show sm_sq 52 = some (.inr 7) from rfl) rfl fl8_77 d8_upper_1 (fun v1 => ?_)
  exact sd_lret (pc := 4) d8_upper_4 (Nat.zero_le _) (Nat.zero_le _)
set_option maxHeartbeats 4000000 in
set_option maxRecDepth 20000 in
theorem s7_lower {N : Nat} (F : Nat) (S : sm_t) : sm_P (sm_jL N) k7_lower [.ref 3] (sm_m N S) (x7_lower F S) := by
  show sm_S (sm_jL N) k7_lower 0 0 0 [some (.ref 3)] [] (sm_m N S) (x7_lower F S)
  unfold x7_lower
  refine sd_aload_n (pc := 0) d7_lower_0 rfl ?_
  refine sd_getL (pc := 1) (show sm_sq 3 = some (.inr 6) from rfl) rfl fl7_73 d7_lower_1 (fun v1 => ?_)
  exact sd_lret (pc := 4) d7_lower_4 (Nat.zero_le _) (Nat.zero_le _)
set_option maxHeartbeats 4000000 in
set_option maxRecDepth 20000 in
theorem s8_lower {N : Nat} (F : Nat) (S : sm_t) : sm_P (sm_jL N) k8_lower [.ref 52] (sm_m N S) (x8_lower F S) := by
  show sm_S (sm_jL N) k8_lower 0 0 0 [some (.ref 52)] [] (sm_m N S) (x8_lower F S)
  unfold x8_lower
  refine sd_aload_n (pc := 0) d8_lower_0 rfl ?_
  refine sd_getL (pc := 1) (show sm_sq 52 = some (.inr 7) from rfl) rfl fl8_13 d8_lower_1 (fun v1 => ?_)
  exact sd_lret (pc := 4) d8_lower_4 (Nat.zero_le _) (Nat.zero_le _)
set_option maxHeartbeats 4000000 in
set_option maxRecDepth 20000 in
theorem s7_storiesThere_4 {N : Nat} (F : Nat) : ∀ (f : Nat) (l1 : Int32) (l2 : Int32) (S : sm_t), sm_S (sm_jI N) k7_storiesThere 0 0 4 [some (.ref 3), some (.int l1), some (.int l2)] [] (sm_m N S) (x7_storiesThere_4 F f l1 l2 S) := by
  intro f
  induction f with
  | zero =>
    intro l1 l2 S
    exact sd_none
  | succ f ih =>
    intro l1 l2 S
    rw [x7_storiesThere_4]
    refine sd_iload_n (pc := 4) d7_storiesThere_4 rfl ?_
    refine sd_iconst (pc := 5) 3 d7_storiesThere_5 ci_3 ?_
    refine sd_ic_ge (pc := 6) 32 d7_storiesThere_6 (by decide) (fun _ => ?_) (fun _ => ?_)
    · refine sd_iload_n (pc := 32) d7_storiesThere_32 rfl ?_
      exact sd_iret (pc := 33) d7_storiesThere_33 rfl (Nat.zero_le _) (Nat.zero_le _)
    · refine sd_iload_n (pc := 9) d7_storiesThere_9 rfl ?_
      refine sd_aload_n (pc := 10) d7_storiesThere_10 rfl ?_
      refine sd_getR (pc := 11) 45 (show sm_sq 3 = some (.inr 6) from rfl) rfl fl7_47 rfl d7_storiesThere_11 ?_
      refine sd_iload_n (pc := 14) d7_storiesThere_14 rfl ?_
      refine sd_zald (pc := 15) (show sm_sq 45 = some (.inl (.boolean, 3)) from rfl) d7_storiesThere_15 (fun v1 => ?_)
      refine sd_if_eq (pc := 16) 23 d7_storiesThere_16 (by decide) (fun _ => ?_) (fun _ => ?_)
      · refine sd_iconst (pc := 23) 0 d7_storiesThere_23 ci_0 ?_
        refine sd_iadd (pc := 24) d7_storiesThere_24 ?_
        refine sd_ni (fun v2 => ?_)
        refine sd_istore_n (lf2 := [some (.ref 3), some (.int v2), some (.int l2)]) (pc := 25) d7_storiesThere_25 (Nat.le_of_ble_eq_true rfl) rfl ?_
        refine sd_iinc (lf2 := [some (.ref 3), some (.int v2), some (.int (l2 + 1))]) (pc := 26) d7_storiesThere_26 (Nat.le_of_ble_eq_true rfl) rfl ci_1 rfl ?_
        refine sd_goto (pc := 29) 4 d7_storiesThere_29 (by decide) ?_
        exact ih v2 (l2 + 1) S
      · refine sd_iconst (pc := 19) 1 d7_storiesThere_19 ci_1 ?_
        refine sd_goto (pc := 20) 24 d7_storiesThere_20 (by decide) ?_
        refine sd_iadd (pc := 24) d7_storiesThere_24 ?_
        refine sd_ni (fun v3 => ?_)
        refine sd_istore_n (lf2 := [some (.ref 3), some (.int v3), some (.int l2)]) (pc := 25) d7_storiesThere_25 (Nat.le_of_ble_eq_true rfl) rfl ?_
        refine sd_iinc (lf2 := [some (.ref 3), some (.int v3), some (.int (l2 + 1))]) (pc := 26) d7_storiesThere_26 (Nat.le_of_ble_eq_true rfl) rfl ci_1 rfl ?_
        refine sd_goto (pc := 29) 4 d7_storiesThere_29 (by decide) ?_
        exact ih v3 (l2 + 1) S
set_option maxHeartbeats 4000000 in
set_option maxRecDepth 20000 in
theorem s7_storiesThere {N : Nat} (F : Nat) (S : sm_t) : sm_P (sm_jI N) k7_storiesThere [.ref 3] (sm_m N S) (x7_storiesThere F S) := by
  show sm_S (sm_jI N) k7_storiesThere 0 0 0 [some (.ref 3), none, none] [] (sm_m N S) (x7_storiesThere F S)
  unfold x7_storiesThere
  refine sd_iconst (pc := 0) 0 d7_storiesThere_0 ci_0 ?_
  refine sd_istore_n (lf2 := [some (.ref 3), some (.int 0), none]) (pc := 1) d7_storiesThere_1 (Nat.le_of_ble_eq_true rfl) rfl ?_
  refine sd_iconst (pc := 2) 0 d7_storiesThere_2 ci_0 ?_
  refine sd_istore_n (lf2 := [some (.ref 3), some (.int 0), some (.int 0)]) (pc := 3) d7_storiesThere_3 (Nat.le_of_ble_eq_true rfl) rfl ?_
  exact s7_storiesThere_4 F F 0 0 S
set_option maxHeartbeats 4000000 in
set_option maxRecDepth 20000 in
theorem s0_voices_4 {N : Nat} (F : Nat) : ∀ (f : Nat) (l1 : Int32) (l2 : Int32) (S : sm_t), sm_S (sm_jI N) k0_voices 0 0 4 [some (.ref 22), some (.int l1), some (.int l2)] [] (sm_m N S) (x0_voices_4 F f l1 l2 S) := by
  intro f
  induction f with
  | zero =>
    intro l1 l2 S
    exact sd_none
  | succ f ih =>
    intro l1 l2 S
    rw [x0_voices_4]
    refine sd_iload_n (pc := 4) d0_voices_4 rfl ?_
    refine sd_aload_n (pc := 5) d0_voices_5 rfl ?_
    refine sd_getI (pc := 6) (show sm_sq 22 = some (.inr 0) from rfl) rfl fl0_17 d0_voices_6 (fun v1 => ?_)
    refine sd_ic_ge (pc := 9) 39 d0_voices_9 (by decide) (fun _ => ?_) (fun _ => ?_)
    · refine sd_iload_n (pc := 39) d0_voices_39 rfl ?_
      exact sd_iret (pc := 40) d0_voices_40 rfl (Nat.zero_le _) (Nat.zero_le _)
    · refine sd_iload_n (pc := 12) d0_voices_12 rfl ?_
      refine sd_aload_n (pc := 13) d0_voices_13 rfl ?_
      refine sd_getR (pc := 14) 23 (show sm_sq 22 = some (.inr 0) from rfl) rfl fl0_13 rfl d0_voices_14 ?_
      refine sd_iload_n (pc := 17) d0_voices_17 rfl ?_
      refine sd_aald (pc := 18) 6 (show sm_sq 23 = some (.inl (.object "TwoFliers$Sign", 12)) from rfl) rfl rfl (fun _ => rfl) (fun _ _ _ _ h => if_pos h) d0_voices_18 (fun a2 => ?_)
      refine sd_iconst (pc := 19) 5 d0_voices_19 ci_5 ?_
      refine sd_on (fun h4 => ?_)
      refine sd_cVI (k2 := k6_is) (As := [.int 5]) (rest := [.int l1]) (b := a2) (ci := 5) (pc := 20) 30 h4 (by decide) rfl d0_voices_20 ml0_30 (ms6_is).1 (ms6_is).2 (me6_is) ⟨rfl, rfl⟩ ⟨Nat.le_of_ble_eq_true rfl, Nat.le_of_ble_eq_true rfl⟩ (Nat.le_of_ble_eq_true rfl) (Nat.le_of_ble_eq_true rfl) (Or.inr rfl) (Nat.zero_le _) (Nat.zero_le _) rfl (s6_is F a2 5 S) (fun v3 S => ?_)
      refine sd_if_eq (pc := 23) 30 d0_voices_23 (by decide) (fun _ => ?_) (fun _ => ?_)
      · refine sd_iconst (pc := 30) 0 d0_voices_30 ci_0 ?_
        refine sd_iadd (pc := 31) d0_voices_31 ?_
        refine sd_ni (fun v5 => ?_)
        refine sd_istore_n (lf2 := [some (.ref 22), some (.int v5), some (.int l2)]) (pc := 32) d0_voices_32 (Nat.le_of_ble_eq_true rfl) rfl ?_
        refine sd_iinc (lf2 := [some (.ref 22), some (.int v5), some (.int (l2 + 1))]) (pc := 33) d0_voices_33 (Nat.le_of_ble_eq_true rfl) rfl ci_1 rfl ?_
        refine sd_goto (pc := 36) 4 d0_voices_36 (by decide) ?_
        exact ih v5 (l2 + 1) S
      · refine sd_iconst (pc := 26) 1 d0_voices_26 ci_1 ?_
        refine sd_goto (pc := 27) 31 d0_voices_27 (by decide) ?_
        refine sd_iadd (pc := 31) d0_voices_31 ?_
        refine sd_ni (fun v6 => ?_)
        refine sd_istore_n (lf2 := [some (.ref 22), some (.int v6), some (.int l2)]) (pc := 32) d0_voices_32 (Nat.le_of_ble_eq_true rfl) rfl ?_
        refine sd_iinc (lf2 := [some (.ref 22), some (.int v6), some (.int (l2 + 1))]) (pc := 33) d0_voices_33 (Nat.le_of_ble_eq_true rfl) rfl ci_1 rfl ?_
        refine sd_goto (pc := 36) 4 d0_voices_36 (by decide) ?_
        exact ih v6 (l2 + 1) S
set_option maxHeartbeats 4000000 in
set_option maxRecDepth 20000 in
theorem s0_voices {N : Nat} (F : Nat) (S : sm_t) : sm_P (sm_jI N) k0_voices [.ref 22] (sm_m N S) (x0_voices F S) := by
  show sm_S (sm_jI N) k0_voices 0 0 0 [some (.ref 22), none, none] [] (sm_m N S) (x0_voices F S)
  unfold x0_voices
  refine sd_iconst (pc := 0) 0 d0_voices_0 ci_0 ?_
  refine sd_istore_n (lf2 := [some (.ref 22), some (.int 0), none]) (pc := 1) d0_voices_1 (Nat.le_of_ble_eq_true rfl) rfl ?_
  refine sd_iconst (pc := 2) 0 d0_voices_2 ci_0 ?_
  refine sd_istore_n (lf2 := [some (.ref 22), some (.int 0), some (.int 0)]) (pc := 3) d0_voices_3 (Nat.le_of_ble_eq_true rfl) rfl ?_
  exact s0_voices_4 F F 0 0 S
set_option maxHeartbeats 4000000 in
set_option maxRecDepth 20000 in
theorem sJ_bitCount {N : Nat} (F : Nat) (l0 : Int32) (S : sm_t) : sm_P (sm_jI N) kJ_bitCount [.int l0] (sm_m N S) (xJ_bitCount F l0 S) := by
  show sm_S (sm_jI N) kJ_bitCount 0 0 0 [some (.int l0)] [] (sm_m N S) (xJ_bitCount F l0 S)
  unfold xJ_bitCount
  refine sd_iload_n (pc := 0) dJ_bitCount_0 rfl ?_
  refine sd_iload_n (pc := 1) dJ_bitCount_1 rfl ?_
  refine sd_iconst (pc := 2) 1 dJ_bitCount_2 ci_1 ?_
  refine sd_iushr (pc := 3) dJ_bitCount_3 ?_
  refine sd_ldcw (pc := 4) clJ_265 dJ_bitCount_4 ?_
  refine sd_iand (pc := 7) dJ_bitCount_7 ?_
  refine sd_isub (pc := 8) dJ_bitCount_8 ?_
  refine sd_ni (fun v1 => ?_)
  refine sd_istore_n (lf2 := [some (.int v1)]) (pc := 9) dJ_bitCount_9 (Nat.le_of_ble_eq_true rfl) rfl ?_
  refine sd_iload_n (pc := 10) dJ_bitCount_10 rfl ?_
  refine sd_ldcw (pc := 11) clJ_266 dJ_bitCount_11 ?_
  refine sd_iand (pc := 14) dJ_bitCount_14 ?_
  refine sd_iload_n (pc := 15) dJ_bitCount_15 rfl ?_
  refine sd_iconst (pc := 16) 2 dJ_bitCount_16 ci_2 ?_
  refine sd_iushr (pc := 17) dJ_bitCount_17 ?_
  refine sd_ldcw (pc := 18) clJ_266 dJ_bitCount_18 ?_
  refine sd_iand (pc := 21) dJ_bitCount_21 ?_
  refine sd_iadd (pc := 22) dJ_bitCount_22 ?_
  refine sd_ni (fun v2 => ?_)
  refine sd_istore_n (lf2 := [some (.int v2)]) (pc := 23) dJ_bitCount_23 (Nat.le_of_ble_eq_true rfl) rfl ?_
  refine sd_iload_n (pc := 24) dJ_bitCount_24 rfl ?_
  refine sd_iload_n (pc := 25) dJ_bitCount_25 rfl ?_
  refine sd_iconst (pc := 26) 4 dJ_bitCount_26 ci_4 ?_
  refine sd_iushr (pc := 27) dJ_bitCount_27 ?_
  refine sd_iadd (pc := 28) dJ_bitCount_28 ?_
  refine sd_ldcw (pc := 29) clJ_267 dJ_bitCount_29 ?_
  refine sd_iand (pc := 32) dJ_bitCount_32 ?_
  refine sd_ni (fun v3 => ?_)
  refine sd_istore_n (lf2 := [some (.int v3)]) (pc := 33) dJ_bitCount_33 (Nat.le_of_ble_eq_true rfl) rfl ?_
  refine sd_iload_n (pc := 34) dJ_bitCount_34 rfl ?_
  refine sd_iload_n (pc := 35) dJ_bitCount_35 rfl ?_
  refine sd_bipush (pc := 36) 8 dJ_bitCount_36 cb_8 ?_
  refine sd_iushr (pc := 38) dJ_bitCount_38 ?_
  refine sd_iadd (pc := 39) dJ_bitCount_39 ?_
  refine sd_ni (fun v4 => ?_)
  refine sd_istore_n (lf2 := [some (.int v4)]) (pc := 40) dJ_bitCount_40 (Nat.le_of_ble_eq_true rfl) rfl ?_
  refine sd_iload_n (pc := 41) dJ_bitCount_41 rfl ?_
  refine sd_iload_n (pc := 42) dJ_bitCount_42 rfl ?_
  refine sd_bipush (pc := 43) 16 dJ_bitCount_43 cb_16 ?_
  refine sd_iushr (pc := 45) dJ_bitCount_45 ?_
  refine sd_iadd (pc := 46) dJ_bitCount_46 ?_
  refine sd_ni (fun v5 => ?_)
  refine sd_istore_n (lf2 := [some (.int v5)]) (pc := 47) dJ_bitCount_47 (Nat.le_of_ble_eq_true rfl) rfl ?_
  refine sd_iload_n (pc := 48) dJ_bitCount_48 rfl ?_
  refine sd_bipush (pc := 49) 63 dJ_bitCount_49 cb_63 ?_
  refine sd_iand (pc := 51) dJ_bitCount_51 ?_
  exact sd_iret (pc := 52) dJ_bitCount_52 rfl (Nat.zero_le _) (Nat.zero_le _)
set_option maxHeartbeats 4000000 in
set_option maxRecDepth 20000 in
theorem s7_howManyThere_4 {N : Nat} (F : Nat) : ∀ (f : Nat) (l0 : Nat) (l1 : Int32) (l2 : Int32) (S : sm_t), sm_S (sm_jI N) k7_howManyThere 0 0 4 [some (.ref l0), some (.int l1), some (.int l2)] [] (sm_m N S) (x7_howManyThere_4 F f l0 l1 l2 S) := by
  intro f
  induction f with
  | zero =>
    intro l0 l1 l2 S
    exact sd_none
  | succ f ih =>
    intro l0 l1 l2 S
    rw [x7_howManyThere_4]
    refine sd_iload_n (pc := 4) d7_howManyThere_4 rfl ?_
    refine sd_aload_n (pc := 5) d7_howManyThere_5 rfl ?_
    refine sd_an (fun n2 h1 => ?_)
    refine sd_alen (pc := 6) 0 (Int32.ofNat n2) h1 (fun _ => rfl) rfl d7_howManyThere_6 ?_
    refine sd_ic_ge (pc := 7) 31 d7_howManyThere_7 (by decide) (fun _ => ?_) (fun _ => ?_)
    · refine sd_iload_n (pc := 31) d7_howManyThere_31 rfl ?_
      exact sd_iret (pc := 32) d7_howManyThere_32 rfl (Nat.zero_le _) (Nat.zero_le _)
    · refine sd_iload_n (pc := 10) d7_howManyThere_10 rfl ?_
      refine sd_aload_n (pc := 11) d7_howManyThere_11 rfl ?_
      refine sd_iload_n (pc := 12) d7_howManyThere_12 rfl ?_
      refine sd_iald (pc := 13) h1 d7_howManyThere_13 (fun v3 => ?_)
      refine sd_iconst (pc := 14) (-1) d7_howManyThere_14 ci_m1 ?_
      refine sd_ic_eq (pc := 15) 22 d7_howManyThere_15 (by decide) (fun _ => ?_) (fun _ => ?_)
      · refine sd_iconst (pc := 22) 0 d7_howManyThere_22 ci_0 ?_
        refine sd_iadd (pc := 23) d7_howManyThere_23 ?_
        refine sd_ni (fun v4 => ?_)
        refine sd_istore_n (lf2 := [some (.ref l0), some (.int v4), some (.int l2)]) (pc := 24) d7_howManyThere_24 (Nat.le_of_ble_eq_true rfl) rfl ?_
        refine sd_iinc (lf2 := [some (.ref l0), some (.int v4), some (.int (l2 + 1))]) (pc := 25) d7_howManyThere_25 (Nat.le_of_ble_eq_true rfl) rfl ci_1 rfl ?_
        refine sd_goto (pc := 28) 4 d7_howManyThere_28 (by decide) ?_
        exact ih l0 v4 (l2 + 1) S
      · refine sd_iconst (pc := 18) 1 d7_howManyThere_18 ci_1 ?_
        refine sd_goto (pc := 19) 23 d7_howManyThere_19 (by decide) ?_
        refine sd_iadd (pc := 23) d7_howManyThere_23 ?_
        refine sd_ni (fun v5 => ?_)
        refine sd_istore_n (lf2 := [some (.ref l0), some (.int v5), some (.int l2)]) (pc := 24) d7_howManyThere_24 (Nat.le_of_ble_eq_true rfl) rfl ?_
        refine sd_iinc (lf2 := [some (.ref l0), some (.int v5), some (.int (l2 + 1))]) (pc := 25) d7_howManyThere_25 (Nat.le_of_ble_eq_true rfl) rfl ci_1 rfl ?_
        refine sd_goto (pc := 28) 4 d7_howManyThere_28 (by decide) ?_
        exact ih l0 v5 (l2 + 1) S
set_option maxHeartbeats 4000000 in
set_option maxRecDepth 20000 in
theorem s7_howManyThere {N : Nat} (F : Nat) (l0 : Nat) (S : sm_t) : sm_P (sm_jI N) k7_howManyThere [.ref l0] (sm_m N S) (x7_howManyThere F l0 S) := by
  show sm_S (sm_jI N) k7_howManyThere 0 0 0 [some (.ref l0), none, none] [] (sm_m N S) (x7_howManyThere F l0 S)
  unfold x7_howManyThere
  refine sd_iconst (pc := 0) 0 d7_howManyThere_0 ci_0 ?_
  refine sd_istore_n (lf2 := [some (.ref l0), some (.int 0), none]) (pc := 1) d7_howManyThere_1 (Nat.le_of_ble_eq_true rfl) rfl ?_
  refine sd_iconst (pc := 2) 0 d7_howManyThere_2 ci_0 ?_
  refine sd_istore_n (lf2 := [some (.ref l0), some (.int 0), some (.int 0)]) (pc := 3) d7_howManyThere_3 (Nat.le_of_ble_eq_true rfl) rfl ?_
  exact s7_howManyThere_4 F F l0 0 0 S
set_option maxHeartbeats 4000000 in
set_option maxRecDepth 20000 in
theorem s7_count {N : Nat} (F : Nat) (l1 : Int32) (S : sm_t) : sm_P (sm_jI N) k7_count [.ref 3, .int l1] (sm_m N S) (x7_count F l1 S) := by
  show sm_S (sm_jI N) k7_count 0 0 0 [some (.ref 3), some (.int l1)] [] (sm_m N S) (x7_count F l1 S)
  unfold x7_count
  refine sd_iload_n (pc := 0) d7_count_0 rfl ?_
  refine sd_ite (fun h1 => ?_) (fun _ => ?_)
  · refine sd_swo (pc := 1) 100 d7_count_1 (sm_so (by decide) (by decide) h1) (by decide) ?_
    refine sd_iconst (pc := 100) (-1) d7_count_100 ci_m1 ?_
    exact sd_iret (pc := 101) d7_count_101 rfl (Nat.zero_le _) (Nat.zero_le _)
  refine sd_ite (fun h3 => ?_) (fun _ => ?_)
  · refine sd_swi (off := 43) (pc := 1) 44 d7_count_1 (by rw [h3]; decide) (by rw [h3]; decide) (by rw [h3]; decide) (by decide) ?_
    refine sd_aload_n (pc := 44) d7_count_44 rfl ?_
    refine sd_getR (pc := 45) 19 (show sm_sq 3 = some (.inr 6) from rfl) rfl fl7_37 rfl d7_count_45 ?_
    refine sd_getI (pc := 48) (show sm_sq 19 = some (.inr 2) from rfl) rfl fl7_134 d7_count_48 (fun v2 => ?_)
    exact sd_iret (pc := 51) d7_count_51 rfl (Nat.zero_le _) (Nat.zero_le _)
  refine sd_ite (fun h5 => ?_) (fun _ => ?_)
  · refine sd_swi (off := 51) (pc := 1) 52 d7_count_1 (by rw [h5]; decide) (by rw [h5]; decide) (by rw [h5]; decide) (by decide) ?_
    refine sd_aload_n (pc := 52) d7_count_52 rfl ?_
    refine sd_cVI (k2 := k7_storiesThere) (As := []) (rest := []) (b := 3) (ci := 6) (pc := 53) 323 (show sm_sq 3 = some (.inr 6) from rfl) (by decide) rfl d7_count_53 ml7_323 (ms7_storiesThere).1 (ms7_storiesThere).2 (me7_storiesThere) ⟨rfl, rfl⟩ ⟨Nat.le_of_ble_eq_true rfl, Nat.le_of_ble_eq_true rfl⟩ (Nat.le_of_ble_eq_true rfl) (Nat.le_of_ble_eq_true rfl) (Or.inl rfl) (Nat.zero_le _) (Nat.zero_le _) rfl (s7_storiesThere F S) (fun v4 S => ?_)
    exact sd_iret (pc := 56) d7_count_56 rfl (Nat.zero_le _) (Nat.zero_le _)
  refine sd_ite (fun h7 => ?_) (fun _ => ?_)
  · refine sd_swi (off := 56) (pc := 1) 57 d7_count_1 (by rw [h7]; decide) (by rw [h7]; decide) (by rw [h7]; decide) (by decide) ?_
    refine sd_aload_n (pc := 57) d7_count_57 rfl ?_
    refine sd_getR (pc := 58) 22 (show sm_sq 3 = some (.inr 6) from rfl) rfl fl7_42 rfl d7_count_58 ?_
    refine sd_getI (pc := 61) (show sm_sq 22 = some (.inr 0) from rfl) rfl fl7_175 d7_count_61 (fun v6 => ?_)
    exact sd_iret (pc := 64) d7_count_64 rfl (Nat.zero_le _) (Nat.zero_le _)
  refine sd_ite (fun h9 => ?_) (fun _ => ?_)
  · refine sd_swi (off := 64) (pc := 1) 65 d7_count_1 (by rw [h9]; decide) (by rw [h9]; decide) (by rw [h9]; decide) (by decide) ?_
    refine sd_aload_n (pc := 65) d7_count_65 rfl ?_
    refine sd_getR (pc := 66) 22 (show sm_sq 3 = some (.inr 6) from rfl) rfl fl7_42 rfl d7_count_66 ?_
    refine sd_cVI (k2 := k0_voices) (As := []) (rest := []) (b := 22) (ci := 0) (pc := 69) 326 (show sm_sq 22 = some (.inr 0) from rfl) (by decide) rfl d7_count_69 ml7_326 (ms0_voices).1 (ms0_voices).2 (me0_voices) ⟨rfl, rfl⟩ ⟨Nat.le_of_ble_eq_true rfl, Nat.le_of_ble_eq_true rfl⟩ (Nat.le_of_ble_eq_true rfl) (Nat.le_of_ble_eq_true rfl) (Or.inl rfl) (Nat.zero_le _) (Nat.zero_le _) rfl (s0_voices F S) (fun v8 S => ?_)
    exact sd_iret (pc := 72) d7_count_72 rfl (Nat.zero_le _) (Nat.zero_le _)
  refine sd_ite (fun h12 => ?_) (fun _ => ?_)
  · refine sd_swi (off := 72) (pc := 1) 73 d7_count_1 (by rw [h12]; decide) (by rw [h12]; decide) (by rw [h12]; decide) (by decide) ?_
    refine sd_aload_n (pc := 73) d7_count_73 rfl ?_
    refine sd_getR (pc := 74) 22 (show sm_sq 3 = some (.inr 6) from rfl) rfl fl7_42 rfl d7_count_74 ?_
    refine sd_cVI (k2 := k0_undoneBits) (As := []) (rest := []) (b := 22) (ci := 0) (pc := 77) 308 (show sm_sq 22 = some (.inr 0) from rfl) (by decide) rfl d7_count_77 ml7_308 (ms0_undoneBits).1 (ms0_undoneBits).2 (me0_undoneBits) ⟨rfl, rfl⟩ ⟨Nat.le_of_ble_eq_true rfl, Nat.le_of_ble_eq_true rfl⟩ (Nat.le_of_ble_eq_true rfl) (Nat.le_of_ble_eq_true rfl) (Or.inl rfl) (Nat.zero_le _) (Nat.zero_le _) rfl (s0_undoneBits F S) (fun v10 S => ?_)
    refine sd_cSI (k2 := kJ_bitCount) (As := [.int v10]) (rest := []) (pc := 80) 329 d7_count_80 ml7_329 (msJ_bitCount) (meJ_bitCount) ⟨rfl, rfl⟩ ⟨Nat.le_of_ble_eq_true rfl, Nat.le_of_ble_eq_true rfl⟩ (Nat.le_of_ble_eq_true rfl) (Nat.le_of_ble_eq_true rfl) (Or.inl rfl) (Nat.zero_le _) (Nat.zero_le _) rfl (sJ_bitCount F v10 S) (fun v11 S => ?_)
    exact sd_iret (pc := 83) d7_count_83 rfl (Nat.zero_le _) (Nat.zero_le _)
  refine sd_ite (fun h14 => ?_) (fun _ => ?_)
  · refine sd_swi (off := 83) (pc := 1) 84 d7_count_1 (by rw [h14]; decide) (by rw [h14]; decide) (by rw [h14]; decide) (by decide) ?_
    refine sd_aload_n (pc := 84) d7_count_84 rfl ?_
    refine sd_getR (pc := 85) 11 (show sm_sq 3 = some (.inr 6) from rfl) rfl fl7_14 rfl d7_count_85 ?_
    refine sd_cSI (k2 := k7_howManyThere) (As := [.ref 11]) (rest := []) (pc := 88) 334 d7_count_88 ml7_334 (ms7_howManyThere) (me7_howManyThere) ⟨rfl, rfl⟩ ⟨Nat.le_of_ble_eq_true rfl, Nat.le_of_ble_eq_true rfl⟩ (Nat.le_of_ble_eq_true rfl) (Nat.le_of_ble_eq_true rfl) (Or.inl rfl) (Nat.zero_le _) (Nat.zero_le _) rfl (s7_howManyThere F 11 S) (fun v13 S => ?_)
    exact sd_iret (pc := 91) d7_count_91 rfl (Nat.zero_le _) (Nat.zero_le _)
  refine sd_ite (fun h16 => ?_) (fun _ => ?_)
  · refine sd_swi (off := 91) (pc := 1) 92 d7_count_1 (by rw [h16]; decide) (by rw [h16]; decide) (by rw [h16]; decide) (by decide) ?_
    refine sd_aload_n (pc := 92) d7_count_92 rfl ?_
    refine sd_getR (pc := 93) 17 (show sm_sq 3 = some (.inr 6) from rfl) rfl fl7_23 rfl d7_count_93 ?_
    refine sd_cSI (k2 := k7_howManyThere) (As := [.ref 17]) (rest := []) (pc := 96) 334 d7_count_96 ml7_334 (ms7_howManyThere) (me7_howManyThere) ⟨rfl, rfl⟩ ⟨Nat.le_of_ble_eq_true rfl, Nat.le_of_ble_eq_true rfl⟩ (Nat.le_of_ble_eq_true rfl) (Nat.le_of_ble_eq_true rfl) (Or.inl rfl) (Nat.zero_le _) (Nat.zero_le _) rfl (s7_howManyThere F 17 S) (fun v15 S => ?_)
    exact sd_iret (pc := 99) d7_count_99 rfl (Nat.zero_le _) (Nat.zero_le _)
  exact sd_none
set_option maxHeartbeats 4000000 in
set_option maxRecDepth 20000 in
theorem s8_countsOf_44 {N : Nat} (F : Nat) (c4 : Int32 → Int32 → Int32 → sm_t → Option (Int32 × sm_t)) (hc4 : ∀ (l1 : Int32) (l2 : Int32) (l3 : Int32) (S : sm_t), sm_S (sm_jI N) k8_countsOf 0 0 4 [some (.ref 52), some (.int l1), some (.int l2), some (.int l3)] [] (sm_m N S) (c4 l1 l2 l3 S)) (l1 : Int32) (l3 : Int32) (t0 : Int32) (S : sm_t) : sm_S (sm_jI N) k8_countsOf 0 0 44 [some (.ref 52), some (.int l1), none, some (.int l3)] [.int t0] (sm_m N S) (x8_countsOf_44 F c4 l1 l3 t0 S) := by
  unfold x8_countsOf_44
  refine sd_iload_n (pc := 44) d8_countsOf_44 rfl ?_
  refine sd_bipush (pc := 45) 6 d8_countsOf_45 cb_6 ?_
  refine sd_ic_ne (pc := 47) 68 d8_countsOf_47 (by decide) (fun _ => ?_) (fun _ => ?_)
  · refine sd_iload_n (pc := 50) d8_countsOf_50 rfl ?_
    refine sd_iconst (pc := 51) 4 d8_countsOf_51 ci_4 ?_
    refine sd_ic_ge (pc := 52) 68 d8_countsOf_52 (by decide) (fun _ => ?_) (fun _ => ?_)
    · refine sd_iconst (pc := 68) 0 d8_countsOf_68 ci_0 ?_
      refine sd_iadd (pc := 69) d8_countsOf_69 ?_
      refine sd_ni (fun v1 => ?_)
      refine sd_istore_n (lf2 := [some (.ref 52), some (.int l1), some (.int v1), some (.int l3)]) (pc := 70) d8_countsOf_70 (Nat.le_of_ble_eq_true rfl) rfl ?_
      refine sd_iinc (lf2 := [some (.ref 52), some (.int l1), some (.int v1), some (.int (l3 + 1))]) (pc := 71) d8_countsOf_71 (Nat.le_of_ble_eq_true rfl) rfl ci_1 rfl ?_
      refine sd_goto (pc := 74) 4 d8_countsOf_74 (by decide) ?_
      exact hc4 l1 v1 (l3 + 1) S
    · refine sd_aload_n (pc := 55) d8_countsOf_55 rfl ?_
      refine sd_getR (pc := 56) 57 (show sm_sq 52 = some (.inr 7) from rfl) rfl fl8_26 rfl d8_countsOf_56 ?_
      refine sd_iload_n (pc := 59) d8_countsOf_59 rfl ?_
      refine sd_iald (pc := 60) (show sm_sq 57 = some (.inl (.int, 4)) from rfl) d8_countsOf_60 (fun v2 => ?_)
      refine sd_if_lt (pc := 61) 68 d8_countsOf_61 (by decide) (fun _ => ?_) (fun _ => ?_)
      · refine sd_iconst (pc := 68) 0 d8_countsOf_68 ci_0 ?_
        refine sd_iadd (pc := 69) d8_countsOf_69 ?_
        refine sd_ni (fun v3 => ?_)
        refine sd_istore_n (lf2 := [some (.ref 52), some (.int l1), some (.int v3), some (.int l3)]) (pc := 70) d8_countsOf_70 (Nat.le_of_ble_eq_true rfl) rfl ?_
        refine sd_iinc (lf2 := [some (.ref 52), some (.int l1), some (.int v3), some (.int (l3 + 1))]) (pc := 71) d8_countsOf_71 (Nat.le_of_ble_eq_true rfl) rfl ci_1 rfl ?_
        refine sd_goto (pc := 74) 4 d8_countsOf_74 (by decide) ?_
        exact hc4 l1 v3 (l3 + 1) S
      · refine sd_iconst (pc := 64) 1 d8_countsOf_64 ci_1 ?_
        refine sd_goto (pc := 65) 69 d8_countsOf_65 (by decide) ?_
        refine sd_iadd (pc := 69) d8_countsOf_69 ?_
        refine sd_ni (fun v4 => ?_)
        refine sd_istore_n (lf2 := [some (.ref 52), some (.int l1), some (.int v4), some (.int l3)]) (pc := 70) d8_countsOf_70 (Nat.le_of_ble_eq_true rfl) rfl ?_
        refine sd_iinc (lf2 := [some (.ref 52), some (.int l1), some (.int v4), some (.int (l3 + 1))]) (pc := 71) d8_countsOf_71 (Nat.le_of_ble_eq_true rfl) rfl ci_1 rfl ?_
        refine sd_goto (pc := 74) 4 d8_countsOf_74 (by decide) ?_
        exact hc4 l1 v4 (l3 + 1) S
  · refine sd_iconst (pc := 68) 0 d8_countsOf_68 ci_0 ?_
    refine sd_iadd (pc := 69) d8_countsOf_69 ?_
    refine sd_ni (fun v5 => ?_)
    refine sd_istore_n (lf2 := [some (.ref 52), some (.int l1), some (.int v5), some (.int l3)]) (pc := 70) d8_countsOf_70 (Nat.le_of_ble_eq_true rfl) rfl ?_
    refine sd_iinc (lf2 := [some (.ref 52), some (.int l1), some (.int v5), some (.int (l3 + 1))]) (pc := 71) d8_countsOf_71 (Nat.le_of_ble_eq_true rfl) rfl ci_1 rfl ?_
    refine sd_goto (pc := 74) 4 d8_countsOf_74 (by decide) ?_
    exact hc4 l1 v5 (l3 + 1) S
set_option maxHeartbeats 4000000 in
set_option maxRecDepth 20000 in
theorem s8_countsOf_30 {N : Nat} (F : Nat) (c4 : Int32 → Int32 → Int32 → sm_t → Option (Int32 × sm_t)) (hc4 : ∀ (l1 : Int32) (l2 : Int32) (l3 : Int32) (S : sm_t), sm_S (sm_jI N) k8_countsOf 0 0 4 [some (.ref 52), some (.int l1), some (.int l2), some (.int l3)] [] (sm_m N S) (c4 l1 l2 l3 S)) (l1 : Int32) (l3 : Int32) (t0 : Int32) (S : sm_t) : sm_S (sm_jI N) k8_countsOf 0 0 30 [some (.ref 52), some (.int l1), none, some (.int l3)] [.int t0] (sm_m N S) (x8_countsOf_30 F c4 l1 l3 t0 S) := by
  unfold x8_countsOf_30
  refine sd_iload_n (pc := 30) d8_countsOf_30 rfl ?_
  refine sd_iconst (pc := 31) 5 d8_countsOf_31 ci_5 ?_
  refine sd_ic_ne (pc := 32) 44 d8_countsOf_32 (by decide) (fun _ => ?_) (fun _ => ?_)
  · refine sd_aload_n (pc := 35) d8_countsOf_35 rfl ?_
    refine sd_getR (pc := 36) 54 (show sm_sq 52 = some (.inr 7) from rfl) rfl fl8_17 rfl d8_countsOf_36 ?_
    refine sd_iload_n (pc := 39) d8_countsOf_39 rfl ?_
    refine sd_iald (pc := 40) (show sm_sq 54 = some (.inl (.int, 6)) from rfl) d8_countsOf_40 (fun v1 => ?_)
    refine sd_if_ge (pc := 41) 64 d8_countsOf_41 (by decide) (fun _ => ?_) (fun _ => ?_)
    · refine sd_iconst (pc := 64) 1 d8_countsOf_64 ci_1 ?_
      refine sd_goto (pc := 65) 69 d8_countsOf_65 (by decide) ?_
      refine sd_iadd (pc := 69) d8_countsOf_69 ?_
      refine sd_ni (fun v2 => ?_)
      refine sd_istore_n (lf2 := [some (.ref 52), some (.int l1), some (.int v2), some (.int l3)]) (pc := 70) d8_countsOf_70 (Nat.le_of_ble_eq_true rfl) rfl ?_
      refine sd_iinc (lf2 := [some (.ref 52), some (.int l1), some (.int v2), some (.int (l3 + 1))]) (pc := 71) d8_countsOf_71 (Nat.le_of_ble_eq_true rfl) rfl ci_1 rfl ?_
      refine sd_goto (pc := 74) 4 d8_countsOf_74 (by decide) ?_
      exact hc4 l1 v2 (l3 + 1) S
    · exact s8_countsOf_44 F _ hc4 l1 l3 t0 S
  · exact s8_countsOf_44 F _ hc4 l1 l3 t0 S
set_option maxHeartbeats 4000000 in
set_option maxRecDepth 20000 in
theorem s8_countsOf_110 {N : Nat} (F : Nat) (c79 : Int32 → Int32 → Int32 → sm_t → Option (Int32 × sm_t)) (hc79 : ∀ (l1 : Int32) (l2 : Int32) (l3 : Int32) (S : sm_t), sm_S (sm_jI N) k8_countsOf 0 0 79 [some (.ref 52), some (.int l1), some (.int l2), some (.int l3)] [] (sm_m N S) (c79 l1 l2 l3 S)) (l1 : Int32) (l3 : Int32) (t0 : Int32) (S : sm_t) : sm_S (sm_jI N) k8_countsOf 0 0 110 [some (.ref 52), some (.int l1), none, some (.int l3)] [.int t0] (sm_m N S) (x8_countsOf_110 F c79 l1 l3 t0 S) := by
  unfold x8_countsOf_110
  refine sd_iload_n (pc := 110) d8_countsOf_110 rfl ?_
  refine sd_iconst (pc := 111) 4 d8_countsOf_111 ci_4 ?_
  refine sd_ic_ne (pc := 112) 129 d8_countsOf_112 (by decide) (fun _ => ?_) (fun _ => ?_)
  · refine sd_aload_n (pc := 115) d8_countsOf_115 rfl ?_
    refine sd_iload_n (pc := 116) d8_countsOf_116 rfl ?_
    refine sd_iconst (pc := 117) 4 d8_countsOf_117 ci_4 ?_
    refine sd_cVI (k2 := k8_tell) (As := [.int l3, .int 4]) (rest := [.int t0]) (b := 52) (ci := 7) (pc := 118) 175 (show sm_sq 52 = some (.inr 7) from rfl) (by decide) rfl d8_countsOf_118 ml8_175 (ms8_tell).1 (ms8_tell).2 (me8_tell) ⟨rfl, rfl⟩ ⟨Nat.le_of_ble_eq_true rfl, Nat.le_of_ble_eq_true rfl⟩ (Nat.le_of_ble_eq_true rfl) (Nat.le_of_ble_eq_true rfl) (Or.inl rfl) (Nat.zero_le _) (Nat.zero_le _) rfl (s8_tell F l3 4 S) (fun v1 S => ?_)
    refine sd_iconst (pc := 121) 1 d8_countsOf_121 ci_1 ?_
    refine sd_ic_ne (pc := 122) 129 d8_countsOf_122 (by decide) (fun _ => ?_) (fun _ => ?_)
    · refine sd_iconst (pc := 125) 1 d8_countsOf_125 ci_1 ?_
      refine sd_goto (pc := 126) 130 d8_countsOf_126 (by decide) ?_
      refine sd_iadd (pc := 130) d8_countsOf_130 ?_
      refine sd_ni (fun v2 => ?_)
      refine sd_istore_n (lf2 := [some (.ref 52), some (.int l1), some (.int v2), some (.int l3)]) (pc := 131) d8_countsOf_131 (Nat.le_of_ble_eq_true rfl) rfl ?_
      refine sd_iinc (lf2 := [some (.ref 52), some (.int l1), some (.int v2), some (.int (l3 + 1))]) (pc := 132) d8_countsOf_132 (Nat.le_of_ble_eq_true rfl) rfl ci_1 rfl ?_
      refine sd_goto (pc := 135) 79 d8_countsOf_135 (by decide) ?_
      exact hc79 l1 v2 (l3 + 1) S
    · refine sd_iconst (pc := 129) 0 d8_countsOf_129 ci_0 ?_
      refine sd_iadd (pc := 130) d8_countsOf_130 ?_
      refine sd_ni (fun v3 => ?_)
      refine sd_istore_n (lf2 := [some (.ref 52), some (.int l1), some (.int v3), some (.int l3)]) (pc := 131) d8_countsOf_131 (Nat.le_of_ble_eq_true rfl) rfl ?_
      refine sd_iinc (lf2 := [some (.ref 52), some (.int l1), some (.int v3), some (.int (l3 + 1))]) (pc := 132) d8_countsOf_132 (Nat.le_of_ble_eq_true rfl) rfl ci_1 rfl ?_
      refine sd_goto (pc := 135) 79 d8_countsOf_135 (by decide) ?_
      exact hc79 l1 v3 (l3 + 1) S
  · refine sd_iconst (pc := 129) 0 d8_countsOf_129 ci_0 ?_
    refine sd_iadd (pc := 130) d8_countsOf_130 ?_
    refine sd_ni (fun v4 => ?_)
    refine sd_istore_n (lf2 := [some (.ref 52), some (.int l1), some (.int v4), some (.int l3)]) (pc := 131) d8_countsOf_131 (Nat.le_of_ble_eq_true rfl) rfl ?_
    refine sd_iinc (lf2 := [some (.ref 52), some (.int l1), some (.int v4), some (.int (l3 + 1))]) (pc := 132) d8_countsOf_132 (Nat.le_of_ble_eq_true rfl) rfl ci_1 rfl ?_
    refine sd_goto (pc := 135) 79 d8_countsOf_135 (by decide) ?_
    exact hc79 l1 v4 (l3 + 1) S
set_option maxHeartbeats 4000000 in
set_option maxRecDepth 20000 in
theorem s8_countsOf_138 {N : Nat} (F : Nat) (l1 : Int32) (l2 : Int32) (S : sm_t) : sm_S (sm_jI N) k8_countsOf 0 0 138 [some (.ref 52), some (.int l1), some (.int l2), none] [] (sm_m N S) (x8_countsOf_138 F l1 l2 S) := by
  unfold x8_countsOf_138
  refine sd_iload_n (pc := 138) d8_countsOf_138 rfl ?_
  refine sd_if_ne (pc := 139) 149 d8_countsOf_139 (by decide) (fun _ => ?_) (fun _ => ?_)
  · refine sd_aload_n (pc := 142) d8_countsOf_142 rfl ?_
    refine sd_cVI (k2 := k8_hours) (As := []) (rest := []) (b := 52) (ci := 7) (pc := 143) 129 (show sm_sq 52 = some (.inr 7) from rfl) (by decide) rfl d8_countsOf_143 ml8_129 (ms8_hours).1 (ms8_hours).2 (me8_hours) ⟨rfl, rfl⟩ ⟨Nat.le_of_ble_eq_true rfl, Nat.le_of_ble_eq_true rfl⟩ (Nat.le_of_ble_eq_true rfl) (Nat.le_of_ble_eq_true rfl) (Or.inl rfl) (Nat.zero_le _) (Nat.zero_le _) rfl (s8_hours F S) (fun v1 S => ?_)
    refine sd_goto (pc := 146) 150 d8_countsOf_146 (by decide) ?_
    exact sd_iret (pc := 150) d8_countsOf_150 rfl (Nat.zero_le _) (Nat.zero_le _)
  · refine sd_iload_n (pc := 149) d8_countsOf_149 rfl ?_
    exact sd_iret (pc := 150) d8_countsOf_150 rfl (Nat.zero_le _) (Nat.zero_le _)
set_option maxHeartbeats 4000000 in
set_option maxRecDepth 20000 in
theorem s8_countsOf_79 {N : Nat} (F : Nat) : ∀ (f : Nat) (l1 : Int32) (l2 : Int32) (l3 : Int32) (S : sm_t), sm_S (sm_jI N) k8_countsOf 0 0 79 [some (.ref 52), some (.int l1), some (.int l2), some (.int l3)] [] (sm_m N S) (x8_countsOf_79 F f l1 l2 l3 S) := by
  intro f
  induction f with
  | zero =>
    intro l1 l2 l3 S
    exact sd_none
  | succ f ih =>
    intro l1 l2 l3 S
    rw [x8_countsOf_79]
    refine sd_iload_n (pc := 79) d8_countsOf_79 rfl ?_
    refine sd_aload_n (pc := 80) d8_countsOf_80 rfl ?_
    refine sd_getI (pc := 81) (show sm_sq 52 = some (.inr 7) from rfl) rfl fl8_161 d8_countsOf_81 (fun v1 => ?_)
    refine sd_ic_ge (pc := 84) 138 d8_countsOf_84 (by decide) (fun _ => ?_) (fun _ => ?_)
    · exact sd_fg [true, true, true, false] rfl (s8_countsOf_138 F l1 l2 S)
    · refine sd_iload_n (pc := 87) d8_countsOf_87 rfl ?_
      refine sd_iload_n (pc := 88) d8_countsOf_88 rfl ?_
      refine sd_iconst (pc := 89) 2 d8_countsOf_89 ci_2 ?_
      refine sd_ic_eq (pc := 90) 125 d8_countsOf_90 (by decide) (fun _ => ?_) (fun _ => ?_)
      · refine sd_iconst (pc := 125) 1 d8_countsOf_125 ci_1 ?_
        refine sd_goto (pc := 126) 130 d8_countsOf_126 (by decide) ?_
        refine sd_iadd (pc := 130) d8_countsOf_130 ?_
        refine sd_ni (fun v2 => ?_)
        refine sd_istore_n (lf2 := [some (.ref 52), some (.int l1), some (.int v2), some (.int l3)]) (pc := 131) d8_countsOf_131 (Nat.le_of_ble_eq_true rfl) rfl ?_
        refine sd_iinc (lf2 := [some (.ref 52), some (.int l1), some (.int v2), some (.int (l3 + 1))]) (pc := 132) d8_countsOf_132 (Nat.le_of_ble_eq_true rfl) rfl ci_1 rfl ?_
        refine sd_goto (pc := 135) 79 d8_countsOf_135 (by decide) ?_
        exact ih l1 v2 (l3 + 1) S
      · refine sd_iload_n (pc := 93) d8_countsOf_93 rfl ?_
        refine sd_iconst (pc := 94) 3 d8_countsOf_94 ci_3 ?_
        refine sd_ic_ne (pc := 95) 110 d8_countsOf_95 (by decide) (fun _ => ?_) (fun _ => ?_)
        · refine sd_aload_n (pc := 98) d8_countsOf_98 rfl ?_
          refine sd_iload_n (pc := 99) d8_countsOf_99 rfl ?_
          refine sd_iconst (pc := 100) 0 d8_countsOf_100 ci_0 ?_
          refine sd_cVI (k2 := k8_tell) (As := [.int l3, .int 0]) (rest := [.int l2]) (b := 52) (ci := 7) (pc := 101) 175 (show sm_sq 52 = some (.inr 7) from rfl) (by decide) rfl d8_countsOf_101 ml8_175 (ms8_tell).1 (ms8_tell).2 (me8_tell) ⟨rfl, rfl⟩ ⟨Nat.le_of_ble_eq_true rfl, Nat.le_of_ble_eq_true rfl⟩ (Nat.le_of_ble_eq_true rfl) (Nat.le_of_ble_eq_true rfl) (Or.inl rfl) (Nat.zero_le _) (Nat.zero_le _) rfl (s8_tell F l3 0 S) (fun v3 S => ?_)
          refine sd_cSI (k2 := k8_isVoice) (As := [.int v3]) (rest := [.int l2]) (pc := 104) 257 d8_countsOf_104 ml8_257 (ms8_isVoice) (me8_isVoice) ⟨rfl, rfl⟩ ⟨Nat.le_of_ble_eq_true rfl, Nat.le_of_ble_eq_true rfl⟩ (Nat.le_of_ble_eq_true rfl) (Nat.le_of_ble_eq_true rfl) (Or.inr rfl) (Nat.zero_le _) (Nat.zero_le _) rfl (s8_isVoice F v3 S) (fun v4 S => ?_)
          refine sd_if_ne (pc := 107) 125 d8_countsOf_107 (by decide) (fun _ => ?_) (fun _ => ?_)
          · exact sd_fg [true, true, false, true] rfl (s8_countsOf_110 F _ ih l1 l3 l2 S)
          · refine sd_iconst (pc := 125) 1 d8_countsOf_125 ci_1 ?_
            refine sd_goto (pc := 126) 130 d8_countsOf_126 (by decide) ?_
            refine sd_iadd (pc := 130) d8_countsOf_130 ?_
            refine sd_ni (fun v5 => ?_)
            refine sd_istore_n (lf2 := [some (.ref 52), some (.int l1), some (.int v5), some (.int l3)]) (pc := 131) d8_countsOf_131 (Nat.le_of_ble_eq_true rfl) rfl ?_
            refine sd_iinc (lf2 := [some (.ref 52), some (.int l1), some (.int v5), some (.int (l3 + 1))]) (pc := 132) d8_countsOf_132 (Nat.le_of_ble_eq_true rfl) rfl ci_1 rfl ?_
            refine sd_goto (pc := 135) 79 d8_countsOf_135 (by decide) ?_
            exact ih l1 v5 (l3 + 1) S
        · exact sd_fg [true, true, false, true] rfl (s8_countsOf_110 F _ ih l1 l3 l2 S)
set_option maxHeartbeats 4000000 in
set_option maxRecDepth 20000 in
theorem s8_countsOf_4 {N : Nat} (F : Nat) : ∀ (f : Nat) (l1 : Int32) (l2 : Int32) (l3 : Int32) (S : sm_t), sm_S (sm_jI N) k8_countsOf 0 0 4 [some (.ref 52), some (.int l1), some (.int l2), some (.int l3)] [] (sm_m N S) (x8_countsOf_4 F f l1 l2 l3 S) := by
  intro f
  induction f with
  | zero =>
    intro l1 l2 l3 S
    exact sd_none
  | succ f ih =>
    intro l1 l2 l3 S
    rw [x8_countsOf_4]
    refine sd_iload_n (pc := 4) d8_countsOf_4 rfl ?_
    refine sd_bipush (pc := 5) 6 d8_countsOf_5 cb_6 ?_
    refine sd_ic_ge (pc := 7) 77 d8_countsOf_7 (by decide) (fun _ => ?_) (fun _ => ?_)
    · refine sd_iconst (pc := 77) 0 d8_countsOf_77 ci_0 ?_
      refine sd_istore_n (lf2 := [some (.ref 52), some (.int l1), some (.int l2), some (.int 0)]) (pc := 78) d8_countsOf_78 (Nat.le_of_ble_eq_true rfl) rfl ?_
      exact s8_countsOf_79 F F l1 l2 0 S
    · refine sd_iload_n (pc := 10) d8_countsOf_10 rfl ?_
      refine sd_iload_n (pc := 11) d8_countsOf_11 rfl ?_
      refine sd_iconst (pc := 12) 1 d8_countsOf_12 ci_1 ?_
      refine sd_ic_ne (pc := 13) 30 d8_countsOf_13 (by decide) (fun _ => ?_) (fun _ => ?_)
      · refine sd_iload_n (pc := 16) d8_countsOf_16 rfl ?_
        refine sd_iconst (pc := 17) 4 d8_countsOf_17 ci_4 ?_
        refine sd_ic_ge (pc := 18) 30 d8_countsOf_18 (by decide) (fun _ => ?_) (fun _ => ?_)
        · exact sd_fg [true, true, false, true] rfl (s8_countsOf_30 F _ ih l1 l3 l2 S)
        · refine sd_aload_n (pc := 21) d8_countsOf_21 rfl ?_
          refine sd_getR (pc := 22) 60 (show sm_sq 52 = some (.inr 7) from rfl) rfl fl8_35 rfl d8_countsOf_22 ?_
          refine sd_iload_n (pc := 25) d8_countsOf_25 rfl ?_
          refine sd_zald (pc := 26) (show sm_sq 60 = some (.inl (.boolean, 4)) from rfl) d8_countsOf_26 (fun v1 => ?_)
          refine sd_if_ne (pc := 27) 64 d8_countsOf_27 (by decide) (fun _ => ?_) (fun _ => ?_)
          · exact sd_fg [true, true, false, true] rfl (s8_countsOf_30 F _ ih l1 l3 l2 S)
          · refine sd_iconst (pc := 64) 1 d8_countsOf_64 ci_1 ?_
            refine sd_goto (pc := 65) 69 d8_countsOf_65 (by decide) ?_
            refine sd_iadd (pc := 69) d8_countsOf_69 ?_
            refine sd_ni (fun v2 => ?_)
            refine sd_istore_n (lf2 := [some (.ref 52), some (.int l1), some (.int v2), some (.int l3)]) (pc := 70) d8_countsOf_70 (Nat.le_of_ble_eq_true rfl) rfl ?_
            refine sd_iinc (lf2 := [some (.ref 52), some (.int l1), some (.int v2), some (.int (l3 + 1))]) (pc := 71) d8_countsOf_71 (Nat.le_of_ble_eq_true rfl) rfl ci_1 rfl ?_
            refine sd_goto (pc := 74) 4 d8_countsOf_74 (by decide) ?_
            exact ih l1 v2 (l3 + 1) S
      · exact sd_fg [true, true, false, true] rfl (s8_countsOf_30 F _ ih l1 l3 l2 S)
set_option maxHeartbeats 4000000 in
set_option maxRecDepth 20000 in
theorem s8_countsOf {N : Nat} (F : Nat) (l1 : Int32) (S : sm_t) : sm_P (sm_jI N) k8_countsOf [.ref 52, .int l1] (sm_m N S) (x8_countsOf F l1 S) := by
  show sm_S (sm_jI N) k8_countsOf 0 0 0 [some (.ref 52), some (.int l1), none, none] [] (sm_m N S) (x8_countsOf F l1 S)
  unfold x8_countsOf
  refine sd_iconst (pc := 0) 0 d8_countsOf_0 ci_0 ?_
  refine sd_istore_n (lf2 := [some (.ref 52), some (.int l1), some (.int 0), none]) (pc := 1) d8_countsOf_1 (Nat.le_of_ble_eq_true rfl) rfl ?_
  refine sd_iconst (pc := 2) 0 d8_countsOf_2 ci_0 ?_
  refine sd_istore_n (lf2 := [some (.ref 52), some (.int l1), some (.int 0), some (.int 0)]) (pc := 3) d8_countsOf_3 (Nat.le_of_ble_eq_true rfl) rfl ?_
  exact s8_countsOf_4 F F l1 0 0 S
set_option maxHeartbeats 4000000 in
set_option maxRecDepth 20000 in
theorem s8_count {N : Nat} (F : Nat) (l1 : Int32) (S : sm_t) : sm_P (sm_jI N) k8_count [.ref 52, .int l1] (sm_m N S) (x8_count F l1 S) := by
  show sm_S (sm_jI N) k8_count 0 0 0 [some (.ref 52), some (.int l1)] [] (sm_m N S) (x8_count F l1 S)
  unfold x8_count
  refine sd_iload_n (pc := 0) d8_count_0 rfl ?_
  refine sd_iconst (pc := 1) 0 d8_count_1 ci_0 ?_
  refine sd_bipush (pc := 2) 6 d8_count_2 cb_6 ?_
  refine sd_cSI (k2 := k8_in) (As := [.int l1, .int 0, .int 6]) (rest := []) (pc := 4) 80 d8_count_4 ml8_80 (ms8_in) (me8_in) ⟨rfl, rfl⟩ ⟨Nat.le_of_ble_eq_true rfl, Nat.le_of_ble_eq_true rfl⟩ (Nat.le_of_ble_eq_true rfl) (Nat.le_of_ble_eq_true rfl) (Or.inr rfl) (Nat.zero_le _) (Nat.zero_le _) rfl (s8_in F l1 0 6 S) (fun v1 S => ?_)
  refine sd_if_eq (pc := 7) 18 d8_count_7 (by decide) (fun _ => ?_) (fun _ => ?_)
  · refine sd_iconst (pc := 18) (-1) d8_count_18 ci_m1 ?_
    exact sd_iret (pc := 19) d8_count_19 rfl (Nat.zero_le _) (Nat.zero_le _)
  · refine sd_aload_n (pc := 10) d8_count_10 rfl ?_
    refine sd_iload_n (pc := 11) d8_count_11 rfl ?_
    refine sd_cVI (k2 := k8_countsOf) (As := [.int l1]) (rest := []) (b := 52) (ci := 7) (pc := 12) 295 (show sm_sq 52 = some (.inr 7) from rfl) (by decide) rfl d8_count_12 ml8_295 (ms8_countsOf).1 (ms8_countsOf).2 (me8_countsOf) ⟨rfl, rfl⟩ ⟨Nat.le_of_ble_eq_true rfl, Nat.le_of_ble_eq_true rfl⟩ (Nat.le_of_ble_eq_true rfl) (Nat.le_of_ble_eq_true rfl) (Or.inl rfl) (Nat.zero_le _) (Nat.zero_le _) rfl (s8_countsOf F l1 S) (fun v2 S => ?_)
    refine sd_goto (pc := 15) 19 d8_count_15 (by decide) ?_
    exact sd_iret (pc := 19) d8_count_19 rfl (Nat.zero_le _) (Nat.zero_le _)
set_option maxHeartbeats 4000000 in
set_option maxRecDepth 20000 in
theorem s7_finding {N : Nat} (F : Nat) (S : sm_t) : sm_P (sm_jI N) k7_finding [.ref 3] (sm_m N S) (x7_finding F S) := by
  show sm_S (sm_jI N) k7_finding 0 0 0 [some (.ref 3)] [] (sm_m N S) (x7_finding F S)
  unfold x7_finding
  refine sd_aload_n (pc := 0) d7_finding_0 rfl ?_
  refine sd_getI (pc := 1) (show sm_sq 3 = some (.inr 6) from rfl) rfl fl7_76 d7_finding_1 (fun v1 => ?_)
  exact sd_iret (pc := 4) d7_finding_4 rfl (Nat.zero_le _) (Nat.zero_le _)
set_option maxHeartbeats 4000000 in
set_option maxRecDepth 20000 in
theorem s8_finding {N : Nat} (F : Nat) (S : sm_t) : sm_P (sm_jI N) k8_finding [.ref 52] (sm_m N S) (x8_finding F S) := by
  show sm_S (sm_jI N) k8_finding 0 0 0 [some (.ref 52)] [] (sm_m N S) (x8_finding F S)
  unfold x8_finding
  refine sd_aload_n (pc := 0) d8_finding_0 rfl ?_
  refine sd_getI (pc := 1) (show sm_sq 52 = some (.inr 7) from rfl) rfl fl8_71 d8_finding_1 (fun v1 => ?_)
  exact sd_iret (pc := 4) d8_finding_4 rfl (Nat.zero_le _) (Nat.zero_le _)
set_option maxHeartbeats 4000000 in
set_option maxRecDepth 20000 in
theorem s7_findings {N : Nat} (F : Nat) (l1 : Int32) (S : sm_t) : sm_P (sm_jI N) k7_findings [.ref 3, .int l1] (sm_m N S) (x7_findings F l1 S) := by
  show sm_S (sm_jI N) k7_findings 0 0 0 [some (.ref 3), some (.int l1)] [] (sm_m N S) (x7_findings F l1 S)
  unfold x7_findings
  refine sd_iload_n (pc := 0) d7_findings_0 rfl ?_
  refine sd_iconst (pc := 1) 1 d7_findings_1 ci_1 ?_
  refine sd_ic_lt (pc := 2) 10 d7_findings_2 (by decide) (fun _ => ?_) (fun _ => ?_)
  · refine sd_iconst (pc := 10) (-1) d7_findings_10 ci_m1 ?_
    exact sd_iret (pc := 11) d7_findings_11 rfl (Nat.zero_le _) (Nat.zero_le _)
  · refine sd_iload_n (pc := 5) d7_findings_5 rfl ?_
    refine sd_iconst (pc := 6) 5 d7_findings_6 ci_5 ?_
    refine sd_ic_le (pc := 7) 12 d7_findings_7 (by decide) (fun _ => ?_) (fun _ => ?_)
    · refine sd_aload_n (pc := 12) d7_findings_12 rfl ?_
      refine sd_getR (pc := 13) 51 (show sm_sq 3 = some (.inr 6) from rfl) rfl fl7_79 rfl d7_findings_13 ?_
      refine sd_iload_n (pc := 16) d7_findings_16 rfl ?_
      refine sd_iald (pc := 17) (show sm_sq 51 = some (.inl (.int, 6)) from rfl) d7_findings_17 (fun v1 => ?_)
      exact sd_iret (pc := 18) d7_findings_18 rfl (Nat.zero_le _) (Nat.zero_le _)
    · refine sd_iconst (pc := 10) (-1) d7_findings_10 ci_m1 ?_
      exact sd_iret (pc := 11) d7_findings_11 rfl (Nat.zero_le _) (Nat.zero_le _)
set_option maxHeartbeats 4000000 in
set_option maxRecDepth 20000 in
theorem s8_findings {N : Nat} (F : Nat) (l1 : Int32) (S : sm_t) : sm_P (sm_jI N) k8_findings [.ref 52, .int l1] (sm_m N S) (x8_findings F l1 S) := by
  show sm_S (sm_jI N) k8_findings 0 0 0 [some (.ref 52), some (.int l1)] [] (sm_m N S) (x8_findings F l1 S)
  unfold x8_findings
  refine sd_iload_n (pc := 0) d8_findings_0 rfl ?_
  refine sd_iconst (pc := 1) 1 d8_findings_1 ci_1 ?_
  refine sd_iconst (pc := 2) 5 d8_findings_2 ci_5 ?_
  refine sd_cSI (k2 := k8_in) (As := [.int l1, .int 1, .int 5]) (rest := []) (pc := 3) 80 d8_findings_3 ml8_80 (ms8_in) (me8_in) ⟨rfl, rfl⟩ ⟨Nat.le_of_ble_eq_true rfl, Nat.le_of_ble_eq_true rfl⟩ (Nat.le_of_ble_eq_true rfl) (Nat.le_of_ble_eq_true rfl) (Or.inr rfl) (Nat.zero_le _) (Nat.zero_le _) rfl (s8_in F l1 1 5 S) (fun v1 S => ?_)
  refine sd_if_eq (pc := 6) 18 d8_findings_6 (by decide) (fun _ => ?_) (fun _ => ?_)
  · refine sd_iconst (pc := 18) (-1) d8_findings_18 ci_m1 ?_
    exact sd_iret (pc := 19) d8_findings_19 rfl (Nat.zero_le _) (Nat.zero_le _)
  · refine sd_aload_n (pc := 9) d8_findings_9 rfl ?_
    refine sd_getR (pc := 10) 53 (show sm_sq 52 = some (.inr 7) from rfl) rfl fl8_7 rfl d8_findings_10 ?_
    refine sd_iload_n (pc := 13) d8_findings_13 rfl ?_
    refine sd_iald (pc := 14) (show sm_sq 53 = some (.inl (.int, 6)) from rfl) d8_findings_14 (fun v2 => ?_)
    refine sd_goto (pc := 15) 19 d8_findings_15 (by decide) ?_
    exact sd_iret (pc := 19) d8_findings_19 rfl (Nat.zero_le _) (Nat.zero_le _)
set_option maxHeartbeats 4000000 in
set_option maxRecDepth 20000 in
theorem s7_digestInts_6 {N : Nat} (F : Nat) : ∀ (f : Nat) (l2 : Nat) (l3 : Int32) (l4 : Int64) (l6 : Int32) (S : sm_t), sm_S (sm_jL N) k7_digestInts 0 0 6 [none, none, some (.ref l2), some (.int l3), some (.long l4), none, some (.int l6)] [] (sm_m N S) (x7_digestInts_6 F f l2 l3 l4 l6 S) := by
  intro f
  induction f with
  | zero =>
    intro l2 l3 l4 l6 S
    exact sd_none
  | succ f ih =>
    intro l2 l3 l4 l6 S
    rw [x7_digestInts_6]
    refine sd_iload (pc := 6) d7_digestInts_6 rfl ?_
    refine sd_iload_n (pc := 8) d7_digestInts_8 rfl ?_
    refine sd_ic_ge (pc := 9) 32 d7_digestInts_9 (by decide) (fun _ => ?_) (fun _ => ?_)
    · refine sd_lload (pc := 32) d7_digestInts_32 rfl ?_
      exact sd_lret (pc := 34) d7_digestInts_34 (Nat.zero_le _) (Nat.zero_le _)
    · refine sd_ldc2 (pc := 12) cl7_340 d7_digestInts_12 ?_
      refine sd_lload (pc := 15) d7_digestInts_15 rfl ?_
      refine sd_lmul (pc := 17) d7_digestInts_17 ?_
      refine sd_aload_n (pc := 18) d7_digestInts_18 rfl ?_
      refine sd_iload (pc := 19) d7_digestInts_19 rfl ?_
      refine sd_an (fun n2 h1 => ?_)
      refine sd_iald (pc := 21) h1 d7_digestInts_21 (fun v3 => ?_)
      refine sd_i2l (pc := 22) d7_digestInts_22 ?_
      refine sd_ladd (pc := 23) d7_digestInts_23 ?_
      refine sd_nl (fun v4 => ?_)
      refine sd_lstore (lf2 := [none, none, some (.ref l2), some (.int l3), some (.long v4), none, some (.int l6)]) (pc := 24) d7_digestInts_24 (Nat.le_of_ble_eq_true rfl) rfl ?_
      refine sd_iinc (lf2 := [none, none, some (.ref l2), some (.int l3), some (.long v4), none, some (.int (l6 + 1))]) (pc := 26) d7_digestInts_26 (Nat.le_of_ble_eq_true rfl) rfl ci_1 rfl ?_
      refine sd_goto (pc := 29) 6 d7_digestInts_29 (by decide) ?_
      exact ih l2 l3 v4 (l6 + 1) S
set_option maxHeartbeats 4000000 in
set_option maxRecDepth 20000 in
theorem s7_digestInts {N : Nat} (F : Nat) (l0 : Int64) (l2 : Nat) (l3 : Int32) (S : sm_t) : sm_P (sm_jL N) k7_digestInts [.long l0, .ref l2, .int l3] (sm_m N S) (x7_digestInts F l0 l2 l3 S) := by
  show sm_S (sm_jL N) k7_digestInts 0 0 0 [some (.long l0), none, some (.ref l2), some (.int l3), none, none, none] [] (sm_m N S) (x7_digestInts F l0 l2 l3 S)
  unfold x7_digestInts
  refine sd_lload_n (pc := 0) d7_digestInts_0 rfl ?_
  refine sd_lstore (lf2 := [some (.long l0), none, some (.ref l2), some (.int l3), some (.long l0), none, none]) (pc := 1) d7_digestInts_1 (Nat.le_of_ble_eq_true rfl) rfl ?_
  refine sd_iconst (pc := 3) 0 d7_digestInts_3 ci_0 ?_
  refine sd_istore (lf2 := [some (.long l0), none, some (.ref l2), some (.int l3), some (.long l0), none, some (.int 0)]) (pc := 4) d7_digestInts_4 (Nat.le_of_ble_eq_true rfl) rfl ?_
  exact sd_fg [false, true, true, true, true, true, true] rfl (s7_digestInts_6 F F l2 l3 l0 0 S)
set_option maxHeartbeats 4000000 in
set_option maxRecDepth 20000 in
theorem s7_digest_124 {N : Nat} (F : Nat) (c110 : Int64 → Int32 → sm_t → Option (Int64 × sm_t)) (hc110 : ∀ (l1 : Int64) (l3 : Int32) (S : sm_t), sm_S (sm_jL N) k7_digest 0 0 110 [some (.ref 3), some (.long l1), none, some (.int l3), none] [] (sm_m N S) (c110 l1 l3 S)) : ∀ (f : Nat) (l1 : Int64) (l3 : Int32) (l4 : Int32) (S : sm_t), sm_S (sm_jL N) k7_digest 0 0 124 [some (.ref 3), some (.long l1), none, some (.int l3), some (.int l4)] [] (sm_m N S) (x7_digest_124 F c110 f l1 l3 l4 S) := by
  intro f
  induction f with
  | zero =>
    intro l1 l3 l4 S
    exact sd_none
  | succ f ih =>
    intro l1 l3 l4 S
    rw [x7_digest_124]
    refine sd_iload (pc := 124) d7_digest_124 rfl ?_
    refine sd_iconst (pc := 126) 4 d7_digest_126 ci_4 ?_
    refine sd_ic_gt (pc := 127) 158 d7_digest_127 (by decide) (fun _ => ?_) (fun _ => ?_)
    · refine sd_iinc (lf2 := [some (.ref 3), some (.long l1), none, some (.int (l3 + 1)), some (.int l4)]) (pc := 158) d7_digest_158 (Nat.le_of_ble_eq_true rfl) rfl ci_1 rfl ?_
      refine sd_goto (pc := 161) 110 d7_digest_161 (by decide) ?_
      exact sd_fg [true, true, true, true, false] rfl (hc110 l1 (l3 + 1) S)
    · refine sd_ldc2 (pc := 130) cl7_340 d7_digest_130 ?_
      refine sd_lload_n (pc := 133) d7_digest_133 rfl ?_
      refine sd_lmul (pc := 134) d7_digest_134 ?_
      refine sd_aload_n (pc := 135) d7_digest_135 rfl ?_
      refine sd_getR (pc := 136) 22 (show sm_sq 3 = some (.inr 6) from rfl) rfl fl7_42 rfl d7_digest_136 ?_
      refine sd_getR (pc := 139) 23 (show sm_sq 22 = some (.inr 0) from rfl) rfl fl7_187 rfl d7_digest_139 ?_
      refine sd_iload_n (pc := 142) d7_digest_142 rfl ?_
      refine sd_aald (pc := 143) 6 (show sm_sq 23 = some (.inl (.object "TwoFliers$Sign", 12)) from rfl) rfl rfl (fun _ => rfl) (fun _ _ _ _ h => if_pos h) d7_digest_143 (fun a1 => ?_)
      refine sd_iload (pc := 144) d7_digest_144 rfl ?_
      refine sd_on (fun h3 => ?_)
      refine sd_cVI (k2 := k6_number) (As := [.int l4]) (rest := [.long (31 * l1)]) (b := a1) (ci := 5) (pc := 146) 195 h3 (by decide) rfl d7_digest_146 ml7_195 (ms6_number).1 (ms6_number).2 (me6_number) ⟨rfl, rfl⟩ ⟨Nat.le_of_ble_eq_true rfl, Nat.le_of_ble_eq_true rfl⟩ (Nat.le_of_ble_eq_true rfl) (Nat.le_of_ble_eq_true rfl) (Or.inl rfl) (Nat.zero_le _) (Nat.zero_le _) rfl (s6_number F a1 l4 S) (fun v2 S => ?_)
      refine sd_i2l (pc := 149) d7_digest_149 ?_
      refine sd_ladd (pc := 150) d7_digest_150 ?_
      refine sd_nl (fun v4 => ?_)
      refine sd_lstore_n (lf2 := [some (.ref 3), some (.long v4), none, some (.int l3), some (.int l4)]) (pc := 151) d7_digest_151 (Nat.le_of_ble_eq_true rfl) rfl ?_
      refine sd_iinc (lf2 := [some (.ref 3), some (.long v4), none, some (.int l3), some (.int (l4 + 1))]) (pc := 152) d7_digest_152 (Nat.le_of_ble_eq_true rfl) rfl ci_1 rfl ?_
      refine sd_goto (pc := 155) 124 d7_digest_155 (by decide) ?_
      exact ih v4 l3 (l4 + 1) S
set_option maxHeartbeats 4000000 in
set_option maxRecDepth 20000 in
theorem s7_digest_231 {N : Nat} (F : Nat) (c209 : Int64 → Int32 → sm_t → Option (Int64 × sm_t)) (hc209 : ∀ (l1 : Int64) (l3 : Int32) (S : sm_t), sm_S (sm_jL N) k7_digest 0 0 209 [some (.ref 3), some (.long l1), none, some (.int l3), none] [] (sm_m N S) (c209 l1 l3 S)) : ∀ (f : Nat) (l1 : Int64) (l3 : Int32) (l4 : Int32) (S : sm_t), sm_S (sm_jL N) k7_digest 0 0 231 [some (.ref 3), some (.long l1), none, some (.int l3), some (.int l4)] [] (sm_m N S) (x7_digest_231 F c209 f l1 l3 l4 S) := by
  intro f
  induction f with
  | zero =>
    intro l1 l3 l4 S
    exact sd_none
  | succ f ih =>
    intro l1 l3 l4 S
    rw [x7_digest_231]
    refine sd_iload (pc := 231) d7_digest_231 rfl ?_
    refine sd_aload_n (pc := 233) d7_digest_233 rfl ?_
    refine sd_getR (pc := 234) 17 (show sm_sq 3 = some (.inr 6) from rfl) rfl fl7_23 rfl d7_digest_234 ?_
    refine sd_iload_n (pc := 237) d7_digest_237 rfl ?_
    refine sd_iald (pc := 238) (show sm_sq 17 = some (.inl (.int, 4)) from rfl) d7_digest_238 (fun v1 => ?_)
    refine sd_ic_ge (pc := 239) 265 d7_digest_239 (by decide) (fun _ => ?_) (fun _ => ?_)
    · refine sd_iinc (lf2 := [some (.ref 3), some (.long l1), none, some (.int (l3 + 1)), some (.int l4)]) (pc := 265) d7_digest_265 (Nat.le_of_ble_eq_true rfl) rfl ci_1 rfl ?_
      refine sd_goto (pc := 268) 209 d7_digest_268 (by decide) ?_
      exact sd_fg [true, true, true, true, false] rfl (hc209 l1 (l3 + 1) S)
    · refine sd_ldc2 (pc := 242) cl7_340 d7_digest_242 ?_
      refine sd_lload_n (pc := 245) d7_digest_245 rfl ?_
      refine sd_lmul (pc := 246) d7_digest_246 ?_
      refine sd_aload_n (pc := 247) d7_digest_247 rfl ?_
      refine sd_getR (pc := 248) 12 (show sm_sq 3 = some (.inr 6) from rfl) rfl fl7_20 rfl d7_digest_248 ?_
      refine sd_iload_n (pc := 251) d7_digest_251 rfl ?_
      refine sd_aald (pc := 252) 5 (show sm_sq 12 = some (.inl (.array .byte, 4)) from rfl) rfl rfl (fun _ => rfl) (fun _ _ _ _ h => if_pos h) d7_digest_252 (fun a2 => ?_)
      refine sd_iload (pc := 253) d7_digest_253 rfl ?_
      refine sd_an (fun n4 h3 => ?_)
      refine sd_bald (pc := 255) h3 d7_digest_255 (fun v5 => ?_)
      refine sd_i2l (pc := 256) d7_digest_256 ?_
      refine sd_ladd (pc := 257) d7_digest_257 ?_
      refine sd_nl (fun v6 => ?_)
      refine sd_lstore_n (lf2 := [some (.ref 3), some (.long v6), none, some (.int l3), some (.int l4)]) (pc := 258) d7_digest_258 (Nat.le_of_ble_eq_true rfl) rfl ?_
      refine sd_iinc (lf2 := [some (.ref 3), some (.long v6), none, some (.int l3), some (.int (l4 + 1))]) (pc := 259) d7_digest_259 (Nat.le_of_ble_eq_true rfl) rfl ci_1 rfl ?_
      refine sd_goto (pc := 262) 231 d7_digest_262 (by decide) ?_
      exact ih v6 l3 (l4 + 1) S
set_option maxHeartbeats 4000000 in
set_option maxRecDepth 20000 in
theorem s7_digest_209 {N : Nat} (F : Nat) : ∀ (f : Nat) (l1 : Int64) (l3 : Int32) (S : sm_t), sm_S (sm_jL N) k7_digest 0 0 209 [some (.ref 3), some (.long l1), none, some (.int l3), none] [] (sm_m N S) (x7_digest_209 F f l1 l3 S) := by
  intro f
  induction f with
  | zero =>
    intro l1 l3 S
    exact sd_none
  | succ f ih =>
    intro l1 l3 S
    rw [x7_digest_209]
    refine sd_iload_n (pc := 209) d7_digest_209 rfl ?_
    refine sd_iconst (pc := 210) 4 d7_digest_210 ci_4 ?_
    refine sd_ic_ge (pc := 211) 271 d7_digest_211 (by decide) (fun _ => ?_) (fun _ => ?_)
    · refine sd_lload_n (pc := 271) d7_digest_271 rfl ?_
      exact sd_lret (pc := 272) d7_digest_272 (Nat.zero_le _) (Nat.zero_le _)
    · refine sd_ldc2 (pc := 214) cl7_340 d7_digest_214 ?_
      refine sd_lload_n (pc := 217) d7_digest_217 rfl ?_
      refine sd_lmul (pc := 218) d7_digest_218 ?_
      refine sd_aload_n (pc := 219) d7_digest_219 rfl ?_
      refine sd_getR (pc := 220) 17 (show sm_sq 3 = some (.inr 6) from rfl) rfl fl7_23 rfl d7_digest_220 ?_
      refine sd_iload_n (pc := 223) d7_digest_223 rfl ?_
      refine sd_iald (pc := 224) (show sm_sq 17 = some (.inl (.int, 4)) from rfl) d7_digest_224 (fun v1 => ?_)
      refine sd_i2l (pc := 225) d7_digest_225 ?_
      refine sd_ladd (pc := 226) d7_digest_226 ?_
      refine sd_nl (fun v2 => ?_)
      refine sd_lstore_n (lf2 := [some (.ref 3), some (.long v2), none, some (.int l3), none]) (pc := 227) d7_digest_227 (Nat.le_of_ble_eq_true rfl) rfl ?_
      refine sd_iconst (pc := 228) 0 d7_digest_228 ci_0 ?_
      refine sd_istore (lf2 := [some (.ref 3), some (.long v2), none, some (.int l3), some (.int 0)]) (pc := 229) d7_digest_229 (Nat.le_of_ble_eq_true rfl) rfl ?_
      exact s7_digest_231 F _ ih F v2 l3 0 S
set_option maxHeartbeats 4000000 in
set_option maxRecDepth 20000 in
theorem s7_digest_166 {N : Nat} (F : Nat) : ∀ (f : Nat) (l1 : Int64) (l3 : Int32) (S : sm_t), sm_S (sm_jL N) k7_digest 0 0 166 [some (.ref 3), some (.long l1), none, some (.int l3), none] [] (sm_m N S) (x7_digest_166 F f l1 l3 S) := by
  intro f
  induction f with
  | zero =>
    intro l1 l3 S
    exact sd_none
  | succ f ih =>
    intro l1 l3 S
    rw [x7_digest_166]
    refine sd_iload_n (pc := 166) d7_digest_166 rfl ?_
    refine sd_bipush (pc := 167) 6 d7_digest_167 cb_6 ?_
    refine sd_ic_ge (pc := 169) 207 d7_digest_169 (by decide) (fun _ => ?_) (fun _ => ?_)
    · refine sd_iconst (pc := 207) 0 d7_digest_207 ci_0 ?_
      refine sd_istore_n (lf2 := [some (.ref 3), some (.long l1), none, some (.int 0), none]) (pc := 208) d7_digest_208 (Nat.le_of_ble_eq_true rfl) rfl ?_
      exact s7_digest_209 F F l1 0 S
    · refine sd_ldc2 (pc := 172) cl7_340 d7_digest_172 ?_
      refine sd_lload_n (pc := 175) d7_digest_175 rfl ?_
      refine sd_lmul (pc := 176) d7_digest_176 ?_
      refine sd_aload_n (pc := 177) d7_digest_177 rfl ?_
      refine sd_getR (pc := 178) 11 (show sm_sq 3 = some (.inr 6) from rfl) rfl fl7_14 rfl d7_digest_178 ?_
      refine sd_iload_n (pc := 181) d7_digest_181 rfl ?_
      refine sd_iald (pc := 182) (show sm_sq 11 = some (.inl (.int, 6)) from rfl) d7_digest_182 (fun v1 => ?_)
      refine sd_i2l (pc := 183) d7_digest_183 ?_
      refine sd_ladd (pc := 184) d7_digest_184 ?_
      refine sd_aload_n (pc := 185) d7_digest_185 rfl ?_
      refine sd_getR (pc := 186) 4 (show sm_sq 3 = some (.inr 6) from rfl) rfl fl7_11 rfl d7_digest_186 ?_
      refine sd_iload_n (pc := 189) d7_digest_189 rfl ?_
      refine sd_aald (pc := 190) 4 (show sm_sq 4 = some (.inl (.array .int, 6)) from rfl) rfl rfl (fun _ => rfl) (fun _ _ _ _ h => if_pos h) d7_digest_190 (fun a2 => ?_)
      refine sd_aload_n (pc := 191) d7_digest_191 rfl ?_
      refine sd_getR (pc := 192) 11 (show sm_sq 3 = some (.inr 6) from rfl) rfl fl7_14 rfl d7_digest_192 ?_
      refine sd_iload_n (pc := 195) d7_digest_195 rfl ?_
      refine sd_iald (pc := 196) (show sm_sq 11 = some (.inl (.int, 6)) from rfl) d7_digest_196 (fun v3 => ?_)
      refine sd_cSL (k2 := k7_digestInts) (As := [.long ((31 * l1) + (v1.toInt64)), .ref a2, .int v3]) (rest := []) (pc := 197) 345 d7_digest_197 ml7_345 (ms7_digestInts) (me7_digestInts) ⟨rfl, rfl⟩ ⟨Nat.le_of_ble_eq_true rfl, Nat.le_of_ble_eq_true rfl⟩ (Nat.le_of_ble_eq_true rfl) (Nat.le_of_ble_eq_true rfl) rfl (Nat.zero_le _) (Nat.zero_le _) rfl (s7_digestInts F ((31 * l1) + (v1.toInt64)) a2 v3 S) (fun v4 S => ?_)
      refine sd_lstore_n (lf2 := [some (.ref 3), some (.long v4), none, some (.int l3), none]) (pc := 200) d7_digest_200 (Nat.le_of_ble_eq_true rfl) rfl ?_
      refine sd_iinc (lf2 := [some (.ref 3), some (.long v4), none, some (.int (l3 + 1)), none]) (pc := 201) d7_digest_201 (Nat.le_of_ble_eq_true rfl) rfl ci_1 rfl ?_
      refine sd_goto (pc := 204) 166 d7_digest_204 (by decide) ?_
      exact ih v4 (l3 + 1) S
set_option maxHeartbeats 4000000 in
set_option maxRecDepth 20000 in
theorem s7_digest_110 {N : Nat} (F : Nat) : ∀ (f : Nat) (l1 : Int64) (l3 : Int32) (S : sm_t), sm_S (sm_jL N) k7_digest 0 0 110 [some (.ref 3), some (.long l1), none, some (.int l3), none] [] (sm_m N S) (x7_digest_110 F f l1 l3 S) := by
  intro f
  induction f with
  | zero =>
    intro l1 l3 S
    exact sd_none
  | succ f ih =>
    intro l1 l3 S
    rw [x7_digest_110]
    refine sd_iload_n (pc := 110) d7_digest_110 rfl ?_
    refine sd_aload_n (pc := 111) d7_digest_111 rfl ?_
    refine sd_getR (pc := 112) 22 (show sm_sq 3 = some (.inr 6) from rfl) rfl fl7_42 rfl d7_digest_112 ?_
    refine sd_getI (pc := 115) (show sm_sq 22 = some (.inr 0) from rfl) rfl fl7_175 d7_digest_115 (fun v1 => ?_)
    refine sd_ic_ge (pc := 118) 164 d7_digest_118 (by decide) (fun _ => ?_) (fun _ => ?_)
    · refine sd_iconst (pc := 164) 0 d7_digest_164 ci_0 ?_
      refine sd_istore_n (lf2 := [some (.ref 3), some (.long l1), none, some (.int 0), none]) (pc := 165) d7_digest_165 (Nat.le_of_ble_eq_true rfl) rfl ?_
      exact s7_digest_166 F F l1 0 S
    · refine sd_iconst (pc := 121) 0 d7_digest_121 ci_0 ?_
      refine sd_istore (lf2 := [some (.ref 3), some (.long l1), none, some (.int l3), some (.int 0)]) (pc := 122) d7_digest_122 (Nat.le_of_ble_eq_true rfl) rfl ?_
      exact s7_digest_124 F _ ih F l1 l3 0 S
set_option maxHeartbeats 4000000 in
set_option maxRecDepth 20000 in
theorem s7_digest_63 {N : Nat} (F : Nat) : ∀ (f : Nat) (l1 : Int64) (l3 : Int32) (S : sm_t), sm_S (sm_jL N) k7_digest 0 0 63 [some (.ref 3), some (.long l1), none, some (.int l3), none] [] (sm_m N S) (x7_digest_63 F f l1 l3 S) := by
  intro f
  induction f with
  | zero =>
    intro l1 l3 S
    exact sd_none
  | succ f ih =>
    intro l1 l3 S
    rw [x7_digest_63]
    refine sd_iload_n (pc := 63) d7_digest_63 rfl ?_
    refine sd_iconst (pc := 64) 3 d7_digest_64 ci_3 ?_
    refine sd_ic_ge (pc := 65) 108 d7_digest_65 (by decide) (fun _ => ?_) (fun _ => ?_)
    · refine sd_iconst (pc := 108) 0 d7_digest_108 ci_0 ?_
      refine sd_istore_n (lf2 := [some (.ref 3), some (.long l1), none, some (.int 0), none]) (pc := 109) d7_digest_109 (Nat.le_of_ble_eq_true rfl) rfl ?_
      exact s7_digest_110 F F l1 0 S
    · refine sd_aload_n (pc := 68) d7_digest_68 rfl ?_
      refine sd_getR (pc := 69) 45 (show sm_sq 3 = some (.inr 6) from rfl) rfl fl7_47 rfl d7_digest_69 ?_
      refine sd_iload_n (pc := 72) d7_digest_72 rfl ?_
      refine sd_zald (pc := 73) (show sm_sq 45 = some (.inl (.boolean, 3)) from rfl) d7_digest_73 (fun v1 => ?_)
      refine sd_if_eq (pc := 74) 92 d7_digest_74 (by decide) (fun _ => ?_) (fun _ => ?_)
      · refine sd_ldc2 (pc := 92) cl7_340 d7_digest_92 ?_
        refine sd_lload_n (pc := 95) d7_digest_95 rfl ?_
        refine sd_lmul (pc := 96) d7_digest_96 ?_
        refine sd_ldc2 (pc := 97) cl7_349 d7_digest_97 ?_
        refine sd_ladd (pc := 100) d7_digest_100 ?_
        refine sd_nl (fun v2 => ?_)
        refine sd_lstore_n (lf2 := [some (.ref 3), some (.long v2), none, some (.int l3), none]) (pc := 101) d7_digest_101 (Nat.le_of_ble_eq_true rfl) rfl ?_
        refine sd_iinc (lf2 := [some (.ref 3), some (.long v2), none, some (.int (l3 + 1)), none]) (pc := 102) d7_digest_102 (Nat.le_of_ble_eq_true rfl) rfl ci_1 rfl ?_
        refine sd_goto (pc := 105) 63 d7_digest_105 (by decide) ?_
        exact ih v2 (l3 + 1) S
      · refine sd_lload_n (pc := 77) d7_digest_77 rfl ?_
        refine sd_aload_n (pc := 78) d7_digest_78 rfl ?_
        refine sd_getR (pc := 79) 36 (show sm_sq 3 = some (.inr 6) from rfl) rfl fl7_46 rfl d7_digest_79 ?_
        refine sd_iload_n (pc := 82) d7_digest_82 rfl ?_
        refine sd_aald (pc := 83) 4 (show sm_sq 36 = some (.inl (.array .int, 3)) from rfl) rfl rfl (fun _ => rfl) (fun _ _ _ _ h => if_pos h) d7_digest_83 (fun a3 => ?_)
        refine sd_bipush (pc := 84) 120 d7_digest_84 cb_120 ?_
        refine sd_cSL (k2 := k7_digestInts) (As := [.long l1, .ref a3, .int 120]) (rest := []) (pc := 86) 345 d7_digest_86 ml7_345 (ms7_digestInts) (me7_digestInts) ⟨rfl, rfl⟩ ⟨Nat.le_of_ble_eq_true rfl, Nat.le_of_ble_eq_true rfl⟩ (Nat.le_of_ble_eq_true rfl) (Nat.le_of_ble_eq_true rfl) rfl (Nat.zero_le _) (Nat.zero_le _) rfl (s7_digestInts F l1 a3 120 S) (fun v4 S => ?_)
        refine sd_goto (pc := 89) 101 d7_digest_89 (by decide) ?_
        refine sd_lstore_n (lf2 := [some (.ref 3), some (.long v4), none, some (.int l3), none]) (pc := 101) d7_digest_101 (Nat.le_of_ble_eq_true rfl) rfl ?_
        refine sd_iinc (lf2 := [some (.ref 3), some (.long v4), none, some (.int (l3 + 1)), none]) (pc := 102) d7_digest_102 (Nat.le_of_ble_eq_true rfl) rfl ci_1 rfl ?_
        refine sd_goto (pc := 105) 63 d7_digest_105 (by decide) ?_
        exact ih v4 (l3 + 1) S
set_option maxHeartbeats 4000000 in
set_option maxRecDepth 20000 in
theorem s7_digest_33 {N : Nat} (F : Nat) : ∀ (f : Nat) (l1 : Int64) (l3 : Int32) (S : sm_t), sm_S (sm_jL N) k7_digest 0 0 33 [some (.ref 3), some (.long l1), none, some (.int l3), none] [] (sm_m N S) (x7_digest_33 F f l1 l3 S) := by
  intro f
  induction f with
  | zero =>
    intro l1 l3 S
    exact sd_none
  | succ f ih =>
    intro l1 l3 S
    rw [x7_digest_33]
    refine sd_iload_n (pc := 33) d7_digest_33 rfl ?_
    refine sd_bipush (pc := 34) 15 d7_digest_34 cb_15 ?_
    refine sd_ic_ge (pc := 36) 61 d7_digest_36 (by decide) (fun _ => ?_) (fun _ => ?_)
    · refine sd_iconst (pc := 61) 0 d7_digest_61 ci_0 ?_
      refine sd_istore_n (lf2 := [some (.ref 3), some (.long l1), none, some (.int 0), none]) (pc := 62) d7_digest_62 (Nat.le_of_ble_eq_true rfl) rfl ?_
      exact s7_digest_63 F F l1 0 S
    · refine sd_ldc2 (pc := 39) cl7_340 d7_digest_39 ?_
      refine sd_lload_n (pc := 42) d7_digest_42 rfl ?_
      refine sd_lmul (pc := 43) d7_digest_43 ?_
      refine sd_aload_n (pc := 44) d7_digest_44 rfl ?_
      refine sd_getR (pc := 45) 19 (show sm_sq 3 = some (.inr 6) from rfl) rfl fl7_37 rfl d7_digest_45 ?_
      refine sd_iload_n (pc := 48) d7_digest_48 rfl ?_
      refine sd_cVI (k2 := k3_number) (As := [.int l3]) (rest := [.long (31 * l1)]) (b := 19) (ci := 2) (pc := 49) 147 (show sm_sq 19 = some (.inr 2) from rfl) (by decide) rfl d7_digest_49 ml7_147 (ms3_number).1 (ms3_number).2 (me3_number) ⟨rfl, rfl⟩ ⟨Nat.le_of_ble_eq_true rfl, Nat.le_of_ble_eq_true rfl⟩ (Nat.le_of_ble_eq_true rfl) (Nat.le_of_ble_eq_true rfl) (Or.inl rfl) (Nat.zero_le _) (Nat.zero_le _) rfl (s3_number F l3 S) (fun v1 S => ?_)
      refine sd_i2l (pc := 52) d7_digest_52 ?_
      refine sd_ladd (pc := 53) d7_digest_53 ?_
      refine sd_nl (fun v2 => ?_)
      refine sd_lstore_n (lf2 := [some (.ref 3), some (.long v2), none, some (.int l3), none]) (pc := 54) d7_digest_54 (Nat.le_of_ble_eq_true rfl) rfl ?_
      refine sd_iinc (lf2 := [some (.ref 3), some (.long v2), none, some (.int (l3 + 1)), none]) (pc := 55) d7_digest_55 (Nat.le_of_ble_eq_true rfl) rfl ci_1 rfl ?_
      refine sd_goto (pc := 58) 33 d7_digest_58 (by decide) ?_
      exact ih v2 (l3 + 1) S
set_option maxHeartbeats 4000000 in
set_option maxRecDepth 20000 in
theorem s7_digest_6 {N : Nat} (F : Nat) : ∀ (f : Nat) (l1 : Int64) (l3 : Int32) (S : sm_t), sm_S (sm_jL N) k7_digest 0 0 6 [some (.ref 3), some (.long l1), none, some (.int l3), none] [] (sm_m N S) (x7_digest_6 F f l1 l3 S) := by
  intro f
  induction f with
  | zero =>
    intro l1 l3 S
    exact sd_none
  | succ f ih =>
    intro l1 l3 S
    rw [x7_digest_6]
    refine sd_iload_n (pc := 6) d7_digest_6 rfl ?_
    refine sd_bipush (pc := 7) 6 d7_digest_7 cb_6 ?_
    refine sd_ic_gt (pc := 9) 31 d7_digest_9 (by decide) (fun _ => ?_) (fun _ => ?_)
    · refine sd_iconst (pc := 31) 0 d7_digest_31 ci_0 ?_
      refine sd_istore_n (lf2 := [some (.ref 3), some (.long l1), none, some (.int 0), none]) (pc := 32) d7_digest_32 (Nat.le_of_ble_eq_true rfl) rfl ?_
      exact s7_digest_33 F F l1 0 S
    · refine sd_ldc2 (pc := 12) cl7_340 d7_digest_12 ?_
      refine sd_lload_n (pc := 15) d7_digest_15 rfl ?_
      refine sd_lmul (pc := 16) d7_digest_16 ?_
      refine sd_aload_n (pc := 17) d7_digest_17 rfl ?_
      refine sd_iload_n (pc := 18) d7_digest_18 rfl ?_
      refine sd_cVI (k2 := k7_count) (As := [.int l3]) (rest := [.long (31 * l1)]) (b := 3) (ci := 6) (pc := 19) 342 (show sm_sq 3 = some (.inr 6) from rfl) (by decide) rfl d7_digest_19 ml7_342 (ms7_count).1 (ms7_count).2 (me7_count) ⟨rfl, rfl⟩ ⟨Nat.le_of_ble_eq_true rfl, Nat.le_of_ble_eq_true rfl⟩ (Nat.le_of_ble_eq_true rfl) (Nat.le_of_ble_eq_true rfl) (Or.inl rfl) (Nat.zero_le _) (Nat.zero_le _) rfl (s7_count F l3 S) (fun v1 S => ?_)
      refine sd_i2l (pc := 22) d7_digest_22 ?_
      refine sd_ladd (pc := 23) d7_digest_23 ?_
      refine sd_nl (fun v2 => ?_)
      refine sd_lstore_n (lf2 := [some (.ref 3), some (.long v2), none, some (.int l3), none]) (pc := 24) d7_digest_24 (Nat.le_of_ble_eq_true rfl) rfl ?_
      refine sd_iinc (lf2 := [some (.ref 3), some (.long v2), none, some (.int (l3 + 1)), none]) (pc := 25) d7_digest_25 (Nat.le_of_ble_eq_true rfl) rfl ci_1 rfl ?_
      refine sd_goto (pc := 28) 6 d7_digest_28 (by decide) ?_
      exact ih v2 (l3 + 1) S
set_option maxHeartbeats 4000000 in
set_option maxRecDepth 20000 in
theorem s7_digest {N : Nat} (F : Nat) (S : sm_t) : sm_P (sm_jL N) k7_digest [.ref 3] (sm_m N S) (x7_digest F S) := by
  show sm_S (sm_jL N) k7_digest 0 0 0 [some (.ref 3), none, none, none, none] [] (sm_m N S) (x7_digest F S)
  unfold x7_digest
  refine sd_ldc2 (pc := 0) cl7_338 d7_digest_0 ?_
  refine sd_lstore_n (lf2 := [some (.ref 3), some (.long 17), none, none, none]) (pc := 3) d7_digest_3 (Nat.le_of_ble_eq_true rfl) rfl ?_
  refine sd_iconst (pc := 4) 0 d7_digest_4 ci_0 ?_
  refine sd_istore_n (lf2 := [some (.ref 3), some (.long 17), none, some (.int 0), none]) (pc := 5) d7_digest_5 (Nat.le_of_ble_eq_true rfl) rfl ?_
  exact s7_digest_6 F F 17 0 S
set_option maxHeartbeats 4000000 in
set_option maxRecDepth 20000 in
theorem s8_mix {N : Nat} (F : Nat) (l1 : Int32) (S : sm_t) : sm_P (sm_jV N) k8_mix [.ref 52, .int l1] (sm_m N S) (x8_mix F l1 S) := by
  show sm_S (sm_jV N) k8_mix 0 0 0 [some (.ref 52), some (.int l1)] [] (sm_m N S) (x8_mix F l1 S)
  unfold x8_mix
  refine sd_aload_n (pc := 0) d8_mix_0 rfl ?_
  refine sd_ldc2 (pc := 1) cl8_298 d8_mix_1 ?_
  refine sd_aload_n (pc := 4) d8_mix_4 rfl ?_
  refine sd_getL (pc := 5) (show sm_sq 52 = some (.inr 7) from rfl) rfl fl8_300 d8_mix_5 (fun v1 => ?_)
  refine sd_lmul (pc := 8) d8_mix_8 ?_
  refine sd_iload_n (pc := 9) d8_mix_9 rfl ?_
  refine sd_i2l (pc := 10) d8_mix_10 ?_
  refine sd_ladd (pc := 11) d8_mix_11 ?_
  refine sd_putL (pc := 12) (show sm_sq 52 = some (.inr 7) from rfl) rfl fl8_300 rfl d8_mix_12 (fun S => ?_)
  exact sd_vret (pc := 15) d8_mix_15 (Nat.zero_le _) (Nat.zero_le _)
set_option maxHeartbeats 4000000 in
set_option maxRecDepth 20000 in
theorem s8_mixFlight_47 {N : Nat} (F : Nat) (c26 : Int32 → sm_t → Option (sm_t)) (hc26 : ∀ (l1 : Int32) (S : sm_t), sm_S (sm_jV N) k8_mixFlight 0 0 26 [some (.ref 52), some (.int l1), none] [] (sm_m N S) (c26 l1 S)) : ∀ (f : Nat) (l1 : Int32) (l2 : Int32) (S : sm_t), sm_S (sm_jV N) k8_mixFlight 0 0 47 [some (.ref 52), some (.int l1), some (.int l2)] [] (sm_m N S) (x8_mixFlight_47 F c26 f l1 l2 S) := by
  intro f
  induction f with
  | zero =>
    intro l1 l2 S
    exact sd_none
  | succ f ih =>
    intro l1 l2 S
    rw [x8_mixFlight_47]
    refine sd_iload_n (pc := 47) d8_mixFlight_47 rfl ?_
    refine sd_bipush (pc := 48) 120 d8_mixFlight_48 cb_120 ?_
    refine sd_ic_ge (pc := 50) 83 d8_mixFlight_50 (by decide) (fun _ => ?_) (fun _ => ?_)
    · refine sd_iinc (lf2 := [some (.ref 52), some (.int (l1 + 1)), some (.int l2)]) (pc := 83) d8_mixFlight_83 (Nat.le_of_ble_eq_true rfl) rfl ci_1 rfl ?_
      refine sd_goto (pc := 86) 26 d8_mixFlight_86 (by decide) ?_
      exact sd_fg [true, true, false] rfl (hc26 (l1 + 1) S)
    · refine sd_aload_n (pc := 53) d8_mixFlight_53 rfl ?_
      refine sd_getR (pc := 54) 60 (show sm_sq 52 = some (.inr 7) from rfl) rfl fl8_35 rfl d8_mixFlight_54 ?_
      refine sd_iload_n (pc := 57) d8_mixFlight_57 rfl ?_
      refine sd_zald (pc := 58) (show sm_sq 60 = some (.inl (.boolean, 4)) from rfl) d8_mixFlight_58 (fun v1 => ?_)
      refine sd_if_eq (pc := 59) 83 d8_mixFlight_59 (by decide) (fun _ => ?_) (fun _ => ?_)
      · refine sd_iinc (lf2 := [some (.ref 52), some (.int (l1 + 1)), some (.int l2)]) (pc := 83) d8_mixFlight_83 (Nat.le_of_ble_eq_true rfl) rfl ci_1 rfl ?_
        refine sd_goto (pc := 86) 26 d8_mixFlight_86 (by decide) ?_
        exact sd_fg [true, true, false] rfl (hc26 (l1 + 1) S)
      · refine sd_aload_n (pc := 62) d8_mixFlight_62 rfl ?_
        refine sd_aload_n (pc := 63) d8_mixFlight_63 rfl ?_
        refine sd_getR (pc := 64) 61 (show sm_sq 52 = some (.inr 7) from rfl) rfl fl8_39 rfl d8_mixFlight_64 ?_
        refine sd_bipush (pc := 67) 120 d8_mixFlight_67 cb_120 ?_
        refine sd_iload_n (pc := 69) d8_mixFlight_69 rfl ?_
        refine sd_imul (pc := 70) d8_mixFlight_70 ?_
        refine sd_iload_n (pc := 71) d8_mixFlight_71 rfl ?_
        refine sd_iadd (pc := 72) d8_mixFlight_72 ?_
        refine sd_iald (pc := 73) (show sm_sq 61 = some (.inl (.int, 480)) from rfl) d8_mixFlight_73 (fun v2 => ?_)
        refine sd_cVV (k2 := k8_mix) (As := [.int v2]) (rest := []) (b := 52) (ci := 7) (pc := 74) 303 (show sm_sq 52 = some (.inr 7) from rfl) (by decide) rfl d8_mixFlight_74 ml8_303 (ms8_mix).1 (ms8_mix).2 (me8_mix) ⟨rfl, rfl⟩ ⟨Nat.le_of_ble_eq_true rfl, Nat.le_of_ble_eq_true rfl⟩ (Nat.le_of_ble_eq_true rfl) (Nat.le_of_ble_eq_true rfl) rfl (Nat.zero_le _) (Nat.zero_le _) rfl (s8_mix F v2 S) (fun S => ?_)
        refine sd_iinc (lf2 := [some (.ref 52), some (.int l1), some (.int (l2 + 1))]) (pc := 77) d8_mixFlight_77 (Nat.le_of_ble_eq_true rfl) rfl ci_1 rfl ?_
        refine sd_goto (pc := 80) 47 d8_mixFlight_80 (by decide) ?_
        exact ih l1 (l2 + 1) S
set_option maxHeartbeats 4000000 in
set_option maxRecDepth 20000 in
theorem s8_mixFlight_91 {N : Nat} (F : Nat) : ∀ (f : Nat) (l1 : Int32) (S : sm_t), sm_S (sm_jV N) k8_mixFlight 0 0 91 [some (.ref 52), some (.int l1), none] [] (sm_m N S) (x8_mixFlight_91 F f l1 S) := by
  intro f
  induction f with
  | zero =>
    intro l1 S
    exact sd_none
  | succ f ih =>
    intro l1 S
    rw [x8_mixFlight_91]
    refine sd_iload_n (pc := 91) d8_mixFlight_91 rfl ?_
    refine sd_iconst (pc := 92) 5 d8_mixFlight_92 ci_5 ?_
    refine sd_aload_n (pc := 93) d8_mixFlight_93 rfl ?_
    refine sd_getI (pc := 94) (show sm_sq 52 = some (.inr 7) from rfl) rfl fl8_161 d8_mixFlight_94 (fun v1 => ?_)
    refine sd_imul (pc := 97) d8_mixFlight_97 ?_
    refine sd_ic_ge (pc := 98) 117 d8_mixFlight_98 (by decide) (fun _ => ?_) (fun _ => ?_)
    · exact sd_vret (pc := 117) d8_mixFlight_117 (Nat.zero_le _) (Nat.zero_le _)
    · refine sd_aload_n (pc := 101) d8_mixFlight_101 rfl ?_
      refine sd_aload_n (pc := 102) d8_mixFlight_102 rfl ?_
      refine sd_getR (pc := 103) 63 (show sm_sq 52 = some (.inr 7) from rfl) rfl fl8_45 rfl d8_mixFlight_103 ?_
      refine sd_iload_n (pc := 106) d8_mixFlight_106 rfl ?_
      refine sd_iald (pc := 107) (show sm_sq 63 = some (.inl (.int, 60)) from rfl) d8_mixFlight_107 (fun v2 => ?_)
      refine sd_cVV (k2 := k8_mix) (As := [.int v2]) (rest := []) (b := 52) (ci := 7) (pc := 108) 303 (show sm_sq 52 = some (.inr 7) from rfl) (by decide) rfl d8_mixFlight_108 ml8_303 (ms8_mix).1 (ms8_mix).2 (me8_mix) ⟨rfl, rfl⟩ ⟨Nat.le_of_ble_eq_true rfl, Nat.le_of_ble_eq_true rfl⟩ (Nat.le_of_ble_eq_true rfl) (Nat.le_of_ble_eq_true rfl) rfl (Nat.zero_le _) (Nat.zero_le _) rfl (s8_mix F v2 S) (fun S => ?_)
      refine sd_iinc (lf2 := [some (.ref 52), some (.int (l1 + 1)), none]) (pc := 111) d8_mixFlight_111 (Nat.le_of_ble_eq_true rfl) rfl ci_1 rfl ?_
      refine sd_goto (pc := 114) 91 d8_mixFlight_114 (by decide) ?_
      exact ih (l1 + 1) S
set_option maxHeartbeats 4000000 in
set_option maxRecDepth 20000 in
theorem s8_mixFlight_26 {N : Nat} (F : Nat) : ∀ (f : Nat) (l1 : Int32) (S : sm_t), sm_S (sm_jV N) k8_mixFlight 0 0 26 [some (.ref 52), some (.int l1), none] [] (sm_m N S) (x8_mixFlight_26 F f l1 S) := by
  intro f
  induction f with
  | zero =>
    intro l1 S
    exact sd_none
  | succ f ih =>
    intro l1 S
    rw [x8_mixFlight_26]
    refine sd_iload_n (pc := 26) d8_mixFlight_26 rfl ?_
    refine sd_iconst (pc := 27) 4 d8_mixFlight_27 ci_4 ?_
    refine sd_ic_ge (pc := 28) 89 d8_mixFlight_28 (by decide) (fun _ => ?_) (fun _ => ?_)
    · refine sd_iconst (pc := 89) 0 d8_mixFlight_89 ci_0 ?_
      refine sd_istore_n (lf2 := [some (.ref 52), some (.int 0), none]) (pc := 90) d8_mixFlight_90 (Nat.le_of_ble_eq_true rfl) rfl ?_
      exact s8_mixFlight_91 F F 0 S
    · refine sd_aload_n (pc := 31) d8_mixFlight_31 rfl ?_
      refine sd_getR (pc := 32) 60 (show sm_sq 52 = some (.inr 7) from rfl) rfl fl8_35 rfl d8_mixFlight_32 ?_
      refine sd_iload_n (pc := 35) d8_mixFlight_35 rfl ?_
      refine sd_zald (pc := 36) (show sm_sq 60 = some (.inl (.boolean, 4)) from rfl) d8_mixFlight_36 (fun v1 => ?_)
      refine sd_if_ne (pc := 37) 45 d8_mixFlight_37 (by decide) (fun _ => ?_) (fun _ => ?_)
      · refine sd_aload_n (pc := 40) d8_mixFlight_40 rfl ?_
        refine sd_iconst (pc := 41) (-1) d8_mixFlight_41 ci_m1 ?_
        refine sd_cVV (k2 := k8_mix) (As := [.int (-1)]) (rest := []) (b := 52) (ci := 7) (pc := 42) 303 (show sm_sq 52 = some (.inr 7) from rfl) (by decide) rfl d8_mixFlight_42 ml8_303 (ms8_mix).1 (ms8_mix).2 (me8_mix) ⟨rfl, rfl⟩ ⟨Nat.le_of_ble_eq_true rfl, Nat.le_of_ble_eq_true rfl⟩ (Nat.le_of_ble_eq_true rfl) (Nat.le_of_ble_eq_true rfl) rfl (Nat.zero_le _) (Nat.zero_le _) rfl (s8_mix F (-1) S) (fun S => ?_)
        refine sd_iconst (pc := 45) 0 d8_mixFlight_45 ci_0 ?_
        refine sd_istore_n (lf2 := [some (.ref 52), some (.int l1), some (.int 0)]) (pc := 46) d8_mixFlight_46 (Nat.le_of_ble_eq_true rfl) rfl ?_
        exact s8_mixFlight_47 F _ ih F l1 0 S
      · refine sd_iconst (pc := 45) 0 d8_mixFlight_45 ci_0 ?_
        refine sd_istore_n (lf2 := [some (.ref 52), some (.int l1), some (.int 0)]) (pc := 46) d8_mixFlight_46 (Nat.le_of_ble_eq_true rfl) rfl ?_
        exact s8_mixFlight_47 F _ ih F l1 0 S
set_option maxHeartbeats 4000000 in
set_option maxRecDepth 20000 in
theorem s8_mixFlight_2 {N : Nat} (F : Nat) : ∀ (f : Nat) (l1 : Int32) (S : sm_t), sm_S (sm_jV N) k8_mixFlight 0 0 2 [some (.ref 52), some (.int l1), none] [] (sm_m N S) (x8_mixFlight_2 F f l1 S) := by
  intro f
  induction f with
  | zero =>
    intro l1 S
    exact sd_none
  | succ f ih =>
    intro l1 S
    rw [x8_mixFlight_2]
    refine sd_iload_n (pc := 2) d8_mixFlight_2 rfl ?_
    refine sd_bipush (pc := 3) 15 d8_mixFlight_3 cb_15 ?_
    refine sd_ic_ge (pc := 5) 24 d8_mixFlight_5 (by decide) (fun _ => ?_) (fun _ => ?_)
    · refine sd_iconst (pc := 24) 1 d8_mixFlight_24 ci_1 ?_
      refine sd_istore_n (lf2 := [some (.ref 52), some (.int 1), none]) (pc := 25) d8_mixFlight_25 (Nat.le_of_ble_eq_true rfl) rfl ?_
      exact s8_mixFlight_26 F F 1 S
    · refine sd_aload_n (pc := 8) d8_mixFlight_8 rfl ?_
      refine sd_aload_n (pc := 9) d8_mixFlight_9 rfl ?_
      refine sd_getR (pc := 10) 59 (show sm_sq 52 = some (.inr 7) from rfl) rfl fl8_32 rfl d8_mixFlight_10 ?_
      refine sd_iload_n (pc := 13) d8_mixFlight_13 rfl ?_
      refine sd_iald (pc := 14) (show sm_sq 59 = some (.inl (.int, 15)) from rfl) d8_mixFlight_14 (fun v1 => ?_)
      refine sd_cVV (k2 := k8_mix) (As := [.int v1]) (rest := []) (b := 52) (ci := 7) (pc := 15) 303 (show sm_sq 52 = some (.inr 7) from rfl) (by decide) rfl d8_mixFlight_15 ml8_303 (ms8_mix).1 (ms8_mix).2 (me8_mix) ⟨rfl, rfl⟩ ⟨Nat.le_of_ble_eq_true rfl, Nat.le_of_ble_eq_true rfl⟩ (Nat.le_of_ble_eq_true rfl) (Nat.le_of_ble_eq_true rfl) rfl (Nat.zero_le _) (Nat.zero_le _) rfl (s8_mix F v1 S) (fun S => ?_)
      refine sd_iinc (lf2 := [some (.ref 52), some (.int (l1 + 1)), none]) (pc := 18) d8_mixFlight_18 (Nat.le_of_ble_eq_true rfl) rfl ci_1 rfl ?_
      refine sd_goto (pc := 21) 2 d8_mixFlight_21 (by decide) ?_
      exact ih (l1 + 1) S
set_option maxHeartbeats 4000000 in
set_option maxRecDepth 20000 in
theorem s8_mixFlight {N : Nat} (F : Nat) (S : sm_t) : sm_P (sm_jV N) k8_mixFlight [.ref 52] (sm_m N S) (x8_mixFlight F S) := by
  show sm_S (sm_jV N) k8_mixFlight 0 0 0 [some (.ref 52), none, none] [] (sm_m N S) (x8_mixFlight F S)
  unfold x8_mixFlight
  refine sd_iconst (pc := 0) 0 d8_mixFlight_0 ci_0 ?_
  refine sd_istore_n (lf2 := [some (.ref 52), some (.int 0), none]) (pc := 1) d8_mixFlight_1 (Nat.le_of_ble_eq_true rfl) rfl ?_
  exact s8_mixFlight_2 F F 0 S
set_option maxHeartbeats 4000000 in
set_option maxRecDepth 20000 in
theorem s8_digest_67 {N : Nat} (F : Nat) (c36 : Int32 → sm_t → Option (Int64 × sm_t)) (hc36 : ∀ (l1 : Int32) (S : sm_t), sm_S (sm_jL N) k8_digest 0 0 36 [some (.ref 52), some (.int l1), none] [] (sm_m N S) (c36 l1 S)) : ∀ (f : Nat) (l1 : Int32) (l2 : Int32) (S : sm_t), sm_S (sm_jL N) k8_digest 0 0 67 [some (.ref 52), some (.int l1), some (.int l2)] [] (sm_m N S) (x8_digest_67 F c36 f l1 l2 S) := by
  intro f
  induction f with
  | zero =>
    intro l1 l2 S
    exact sd_none
  | succ f ih =>
    intro l1 l2 S
    rw [x8_digest_67]
    refine sd_iload_n (pc := 67) d8_digest_67 rfl ?_
    refine sd_aload_n (pc := 68) d8_digest_68 rfl ?_
    refine sd_getR (pc := 69) 54 (show sm_sq 52 = some (.inr 7) from rfl) rfl fl8_17 rfl d8_digest_69 ?_
    refine sd_iload_n (pc := 72) d8_digest_72 rfl ?_
    refine sd_iald (pc := 73) (show sm_sq 54 = some (.inl (.int, 6)) from rfl) d8_digest_73 (fun v1 => ?_)
    refine sd_ic_ge (pc := 74) 93 d8_digest_74 (by decide) (fun _ => ?_) (fun _ => ?_)
    · refine sd_iinc (lf2 := [some (.ref 52), some (.int (l1 + 1)), some (.int l2)]) (pc := 93) d8_digest_93 (Nat.le_of_ble_eq_true rfl) rfl ci_1 rfl ?_
      refine sd_goto (pc := 96) 36 d8_digest_96 (by decide) ?_
      exact sd_fg [true, true, false] rfl (hc36 (l1 + 1) S)
    · refine sd_aload_n (pc := 77) d8_digest_77 rfl ?_
      refine sd_aload_n (pc := 78) d8_digest_78 rfl ?_
      refine sd_iload_n (pc := 79) d8_digest_79 rfl ?_
      refine sd_iload_n (pc := 80) d8_digest_80 rfl ?_
      refine sd_cVI (k2 := k8_rowAt) (As := [.int l1, .int l2]) (rest := [.ref 52]) (b := 52) (ci := 7) (pc := 81) 98 (show sm_sq 52 = some (.inr 7) from rfl) (by decide) rfl d8_digest_81 ml8_98 (ms8_rowAt).1 (ms8_rowAt).2 (me8_rowAt) ⟨rfl, rfl⟩ ⟨Nat.le_of_ble_eq_true rfl, Nat.le_of_ble_eq_true rfl⟩ (Nat.le_of_ble_eq_true rfl) (Nat.le_of_ble_eq_true rfl) (Or.inl rfl) (Nat.zero_le _) (Nat.zero_le _) rfl (s8_rowAt F l1 l2 S) (fun v2 S => ?_)
      refine sd_cVV (k2 := k8_mix) (As := [.int v2]) (rest := []) (b := 52) (ci := 7) (pc := 84) 303 (show sm_sq 52 = some (.inr 7) from rfl) (by decide) rfl d8_digest_84 ml8_303 (ms8_mix).1 (ms8_mix).2 (me8_mix) ⟨rfl, rfl⟩ ⟨Nat.le_of_ble_eq_true rfl, Nat.le_of_ble_eq_true rfl⟩ (Nat.le_of_ble_eq_true rfl) (Nat.le_of_ble_eq_true rfl) rfl (Nat.zero_le _) (Nat.zero_le _) rfl (s8_mix F v2 S) (fun S => ?_)
      refine sd_iinc (lf2 := [some (.ref 52), some (.int l1), some (.int (l2 + 1))]) (pc := 87) d8_digest_87 (Nat.le_of_ble_eq_true rfl) rfl ci_1 rfl ?_
      refine sd_goto (pc := 90) 67 d8_digest_90 (by decide) ?_
      exact ih l1 (l2 + 1) S
set_option maxHeartbeats 4000000 in
set_option maxRecDepth 20000 in
theorem s8_digest_131 {N : Nat} (F : Nat) (c101 : Int32 → sm_t → Option (Int64 × sm_t)) (hc101 : ∀ (l1 : Int32) (S : sm_t), sm_S (sm_jL N) k8_digest 0 0 101 [some (.ref 52), some (.int l1), none] [] (sm_m N S) (c101 l1 S)) : ∀ (f : Nat) (l1 : Int32) (l2 : Int32) (S : sm_t), sm_S (sm_jL N) k8_digest 0 0 131 [some (.ref 52), some (.int l1), some (.int l2)] [] (sm_m N S) (x8_digest_131 F c101 f l1 l2 S) := by
  intro f
  induction f with
  | zero =>
    intro l1 l2 S
    exact sd_none
  | succ f ih =>
    intro l1 l2 S
    rw [x8_digest_131]
    refine sd_iload_n (pc := 131) d8_digest_131 rfl ?_
    refine sd_aload_n (pc := 132) d8_digest_132 rfl ?_
    refine sd_getR (pc := 133) 57 (show sm_sq 52 = some (.inr 7) from rfl) rfl fl8_26 rfl d8_digest_133 ?_
    refine sd_iload_n (pc := 136) d8_digest_136 rfl ?_
    refine sd_iald (pc := 137) (show sm_sq 57 = some (.inl (.int, 4)) from rfl) d8_digest_137 (fun v1 => ?_)
    refine sd_ic_ge (pc := 138) 162 d8_digest_138 (by decide) (fun _ => ?_) (fun _ => ?_)
    · refine sd_iinc (lf2 := [some (.ref 52), some (.int (l1 + 1)), some (.int l2)]) (pc := 162) d8_digest_162 (Nat.le_of_ble_eq_true rfl) rfl ci_1 rfl ?_
      refine sd_goto (pc := 165) 101 d8_digest_165 (by decide) ?_
      exact sd_fg [true, true, false] rfl (hc101 (l1 + 1) S)
    · refine sd_aload_n (pc := 141) d8_digest_141 rfl ?_
      refine sd_aload_n (pc := 142) d8_digest_142 rfl ?_
      refine sd_getR (pc := 143) 58 (show sm_sq 52 = some (.inr 7) from rfl) rfl fl8_29 rfl d8_digest_143 ?_
      refine sd_bipush (pc := 146) 80 d8_digest_146 cb_80 ?_
      refine sd_iload_n (pc := 148) d8_digest_148 rfl ?_
      refine sd_imul (pc := 149) d8_digest_149 ?_
      refine sd_iload_n (pc := 150) d8_digest_150 rfl ?_
      refine sd_iadd (pc := 151) d8_digest_151 ?_
      refine sd_iald (pc := 152) (show sm_sq 58 = some (.inl (.int, 320)) from rfl) d8_digest_152 (fun v2 => ?_)
      refine sd_cVV (k2 := k8_mix) (As := [.int v2]) (rest := []) (b := 52) (ci := 7) (pc := 153) 303 (show sm_sq 52 = some (.inr 7) from rfl) (by decide) rfl d8_digest_153 ml8_303 (ms8_mix).1 (ms8_mix).2 (me8_mix) ⟨rfl, rfl⟩ ⟨Nat.le_of_ble_eq_true rfl, Nat.le_of_ble_eq_true rfl⟩ (Nat.le_of_ble_eq_true rfl) (Nat.le_of_ble_eq_true rfl) rfl (Nat.zero_le _) (Nat.zero_le _) rfl (s8_mix F v2 S) (fun S => ?_)
      refine sd_iinc (lf2 := [some (.ref 52), some (.int l1), some (.int (l2 + 1))]) (pc := 156) d8_digest_156 (Nat.le_of_ble_eq_true rfl) rfl ci_1 rfl ?_
      refine sd_goto (pc := 159) 131 d8_digest_159 (by decide) ?_
      exact ih l1 (l2 + 1) S
set_option maxHeartbeats 4000000 in
set_option maxRecDepth 20000 in
theorem s8_digest_101 {N : Nat} (F : Nat) : ∀ (f : Nat) (l1 : Int32) (S : sm_t), sm_S (sm_jL N) k8_digest 0 0 101 [some (.ref 52), some (.int l1), none] [] (sm_m N S) (x8_digest_101 F f l1 S) := by
  intro f
  induction f with
  | zero =>
    intro l1 S
    exact sd_none
  | succ f ih =>
    intro l1 S
    rw [x8_digest_101]
    refine sd_iload_n (pc := 101) d8_digest_101 rfl ?_
    refine sd_iconst (pc := 102) 4 d8_digest_102 ci_4 ?_
    refine sd_ic_ge (pc := 103) 168 d8_digest_103 (by decide) (fun _ => ?_) (fun _ => ?_)
    · refine sd_aload_n (pc := 168) d8_digest_168 rfl ?_
      refine sd_getL (pc := 169) (show sm_sq 52 = some (.inr 7) from rfl) rfl fl8_300 d8_digest_169 (fun v1 => ?_)
      exact sd_lret (pc := 172) d8_digest_172 (Nat.zero_le _) (Nat.zero_le _)
    · refine sd_aload_n (pc := 106) d8_digest_106 rfl ?_
      refine sd_aload_n (pc := 107) d8_digest_107 rfl ?_
      refine sd_getR (pc := 108) 57 (show sm_sq 52 = some (.inr 7) from rfl) rfl fl8_26 rfl d8_digest_108 ?_
      refine sd_iload_n (pc := 111) d8_digest_111 rfl ?_
      refine sd_iald (pc := 112) (show sm_sq 57 = some (.inl (.int, 4)) from rfl) d8_digest_112 (fun v2 => ?_)
      refine sd_if_ge (pc := 113) 120 d8_digest_113 (by decide) (fun _ => ?_) (fun _ => ?_)
      · refine sd_aload_n (pc := 120) d8_digest_120 rfl ?_
        refine sd_getR (pc := 121) 57 (show sm_sq 52 = some (.inr 7) from rfl) rfl fl8_26 rfl d8_digest_121 ?_
        refine sd_iload_n (pc := 124) d8_digest_124 rfl ?_
        refine sd_iald (pc := 125) (show sm_sq 57 = some (.inl (.int, 4)) from rfl) d8_digest_125 (fun v3 => ?_)
        refine sd_cVV (k2 := k8_mix) (As := [.int v3]) (rest := []) (b := 52) (ci := 7) (pc := 126) 303 (show sm_sq 52 = some (.inr 7) from rfl) (by decide) rfl d8_digest_126 ml8_303 (ms8_mix).1 (ms8_mix).2 (me8_mix) ⟨rfl, rfl⟩ ⟨Nat.le_of_ble_eq_true rfl, Nat.le_of_ble_eq_true rfl⟩ (Nat.le_of_ble_eq_true rfl) (Nat.le_of_ble_eq_true rfl) rfl (Nat.zero_le _) (Nat.zero_le _) rfl (s8_mix F v3 S) (fun S => ?_)
        refine sd_iconst (pc := 129) 0 d8_digest_129 ci_0 ?_
        refine sd_istore_n (lf2 := [some (.ref 52), some (.int l1), some (.int 0)]) (pc := 130) d8_digest_130 (Nat.le_of_ble_eq_true rfl) rfl ?_
        exact s8_digest_131 F _ ih F l1 0 S
      · refine sd_iconst (pc := 116) (-1) d8_digest_116 ci_m1 ?_
        refine sd_goto (pc := 117) 126 d8_digest_117 (by decide) ?_
        refine sd_cVV (k2 := k8_mix) (As := [.int (-1)]) (rest := []) (b := 52) (ci := 7) (pc := 126) 303 (show sm_sq 52 = some (.inr 7) from rfl) (by decide) rfl d8_digest_126 ml8_303 (ms8_mix).1 (ms8_mix).2 (me8_mix) ⟨rfl, rfl⟩ ⟨Nat.le_of_ble_eq_true rfl, Nat.le_of_ble_eq_true rfl⟩ (Nat.le_of_ble_eq_true rfl) (Nat.le_of_ble_eq_true rfl) rfl (Nat.zero_le _) (Nat.zero_le _) rfl (s8_mix F (-1) S) (fun S => ?_)
        refine sd_iconst (pc := 129) 0 d8_digest_129 ci_0 ?_
        refine sd_istore_n (lf2 := [some (.ref 52), some (.int l1), some (.int 0)]) (pc := 130) d8_digest_130 (Nat.le_of_ble_eq_true rfl) rfl ?_
        exact s8_digest_131 F _ ih F l1 0 S
set_option maxHeartbeats 4000000 in
set_option maxRecDepth 20000 in
theorem s8_digest_36 {N : Nat} (F : Nat) : ∀ (f : Nat) (l1 : Int32) (S : sm_t), sm_S (sm_jL N) k8_digest 0 0 36 [some (.ref 52), some (.int l1), none] [] (sm_m N S) (x8_digest_36 F f l1 S) := by
  intro f
  induction f with
  | zero =>
    intro l1 S
    exact sd_none
  | succ f ih =>
    intro l1 S
    rw [x8_digest_36]
    refine sd_iload_n (pc := 36) d8_digest_36 rfl ?_
    refine sd_bipush (pc := 37) 6 d8_digest_37 cb_6 ?_
    refine sd_ic_ge (pc := 39) 99 d8_digest_39 (by decide) (fun _ => ?_) (fun _ => ?_)
    · refine sd_iconst (pc := 99) 0 d8_digest_99 ci_0 ?_
      refine sd_istore_n (lf2 := [some (.ref 52), some (.int 0), none]) (pc := 100) d8_digest_100 (Nat.le_of_ble_eq_true rfl) rfl ?_
      exact s8_digest_101 F F 0 S
    · refine sd_aload_n (pc := 42) d8_digest_42 rfl ?_
      refine sd_aload_n (pc := 43) d8_digest_43 rfl ?_
      refine sd_getR (pc := 44) 54 (show sm_sq 52 = some (.inr 7) from rfl) rfl fl8_17 rfl d8_digest_44 ?_
      refine sd_iload_n (pc := 47) d8_digest_47 rfl ?_
      refine sd_iald (pc := 48) (show sm_sq 54 = some (.inl (.int, 6)) from rfl) d8_digest_48 (fun v1 => ?_)
      refine sd_if_ge (pc := 49) 56 d8_digest_49 (by decide) (fun _ => ?_) (fun _ => ?_)
      · refine sd_aload_n (pc := 56) d8_digest_56 rfl ?_
        refine sd_getR (pc := 57) 54 (show sm_sq 52 = some (.inr 7) from rfl) rfl fl8_17 rfl d8_digest_57 ?_
        refine sd_iload_n (pc := 60) d8_digest_60 rfl ?_
        refine sd_iald (pc := 61) (show sm_sq 54 = some (.inl (.int, 6)) from rfl) d8_digest_61 (fun v2 => ?_)
        refine sd_cVV (k2 := k8_mix) (As := [.int v2]) (rest := []) (b := 52) (ci := 7) (pc := 62) 303 (show sm_sq 52 = some (.inr 7) from rfl) (by decide) rfl d8_digest_62 ml8_303 (ms8_mix).1 (ms8_mix).2 (me8_mix) ⟨rfl, rfl⟩ ⟨Nat.le_of_ble_eq_true rfl, Nat.le_of_ble_eq_true rfl⟩ (Nat.le_of_ble_eq_true rfl) (Nat.le_of_ble_eq_true rfl) rfl (Nat.zero_le _) (Nat.zero_le _) rfl (s8_mix F v2 S) (fun S => ?_)
        refine sd_iconst (pc := 65) 0 d8_digest_65 ci_0 ?_
        refine sd_istore_n (lf2 := [some (.ref 52), some (.int l1), some (.int 0)]) (pc := 66) d8_digest_66 (Nat.le_of_ble_eq_true rfl) rfl ?_
        exact s8_digest_67 F _ ih F l1 0 S
      · refine sd_iconst (pc := 52) (-1) d8_digest_52 ci_m1 ?_
        refine sd_goto (pc := 53) 62 d8_digest_53 (by decide) ?_
        refine sd_cVV (k2 := k8_mix) (As := [.int (-1)]) (rest := []) (b := 52) (ci := 7) (pc := 62) 303 (show sm_sq 52 = some (.inr 7) from rfl) (by decide) rfl d8_digest_62 ml8_303 (ms8_mix).1 (ms8_mix).2 (me8_mix) ⟨rfl, rfl⟩ ⟨Nat.le_of_ble_eq_true rfl, Nat.le_of_ble_eq_true rfl⟩ (Nat.le_of_ble_eq_true rfl) (Nat.le_of_ble_eq_true rfl) rfl (Nat.zero_le _) (Nat.zero_le _) rfl (s8_mix F (-1) S) (fun S => ?_)
        refine sd_iconst (pc := 65) 0 d8_digest_65 ci_0 ?_
        refine sd_istore_n (lf2 := [some (.ref 52), some (.int l1), some (.int 0)]) (pc := 66) d8_digest_66 (Nat.le_of_ble_eq_true rfl) rfl ?_
        exact s8_digest_67 F _ ih F l1 0 S
set_option maxHeartbeats 4000000 in
set_option maxRecDepth 20000 in
theorem s8_digest_9 {N : Nat} (F : Nat) : ∀ (f : Nat) (l1 : Int32) (S : sm_t), sm_S (sm_jL N) k8_digest 0 0 9 [some (.ref 52), some (.int l1), none] [] (sm_m N S) (x8_digest_9 F f l1 S) := by
  intro f
  induction f with
  | zero =>
    intro l1 S
    exact sd_none
  | succ f ih =>
    intro l1 S
    rw [x8_digest_9]
    refine sd_iload_n (pc := 9) d8_digest_9 rfl ?_
    refine sd_bipush (pc := 10) 6 d8_digest_10 cb_6 ?_
    refine sd_ic_gt (pc := 12) 30 d8_digest_12 (by decide) (fun _ => ?_) (fun _ => ?_)
    · refine sd_aload_n (pc := 30) d8_digest_30 rfl ?_
      refine sd_cVV (k2 := k8_mixFlight) (As := []) (rest := []) (b := 52) (ci := 7) (pc := 31) 308 (show sm_sq 52 = some (.inr 7) from rfl) (by decide) rfl d8_digest_31 ml8_308 (ms8_mixFlight).1 (ms8_mixFlight).2 (me8_mixFlight) ⟨rfl, rfl⟩ ⟨Nat.le_of_ble_eq_true rfl, Nat.le_of_ble_eq_true rfl⟩ (Nat.le_of_ble_eq_true rfl) (Nat.le_of_ble_eq_true rfl) rfl (Nat.zero_le _) (Nat.zero_le _) rfl (s8_mixFlight F S) (fun S => ?_)
      refine sd_iconst (pc := 34) 0 d8_digest_34 ci_0 ?_
      refine sd_istore_n (lf2 := [some (.ref 52), some (.int 0), none]) (pc := 35) d8_digest_35 (Nat.le_of_ble_eq_true rfl) rfl ?_
      exact s8_digest_36 F F 0 S
    · refine sd_aload_n (pc := 15) d8_digest_15 rfl ?_
      refine sd_aload_n (pc := 16) d8_digest_16 rfl ?_
      refine sd_iload_n (pc := 17) d8_digest_17 rfl ?_
      refine sd_cVI (k2 := k8_countsOf) (As := [.int l1]) (rest := [.ref 52]) (b := 52) (ci := 7) (pc := 18) 295 (show sm_sq 52 = some (.inr 7) from rfl) (by decide) rfl d8_digest_18 ml8_295 (ms8_countsOf).1 (ms8_countsOf).2 (me8_countsOf) ⟨rfl, rfl⟩ ⟨Nat.le_of_ble_eq_true rfl, Nat.le_of_ble_eq_true rfl⟩ (Nat.le_of_ble_eq_true rfl) (Nat.le_of_ble_eq_true rfl) (Or.inl rfl) (Nat.zero_le _) (Nat.zero_le _) rfl (s8_countsOf F l1 S) (fun v2 S => ?_)
      refine sd_cVV (k2 := k8_mix) (As := [.int v2]) (rest := []) (b := 52) (ci := 7) (pc := 21) 303 (show sm_sq 52 = some (.inr 7) from rfl) (by decide) rfl d8_digest_21 ml8_303 (ms8_mix).1 (ms8_mix).2 (me8_mix) ⟨rfl, rfl⟩ ⟨Nat.le_of_ble_eq_true rfl, Nat.le_of_ble_eq_true rfl⟩ (Nat.le_of_ble_eq_true rfl) (Nat.le_of_ble_eq_true rfl) rfl (Nat.zero_le _) (Nat.zero_le _) rfl (s8_mix F v2 S) (fun S => ?_)
      refine sd_iinc (lf2 := [some (.ref 52), some (.int (l1 + 1)), none]) (pc := 24) d8_digest_24 (Nat.le_of_ble_eq_true rfl) rfl ci_1 rfl ?_
      refine sd_goto (pc := 27) 9 d8_digest_27 (by decide) ?_
      exact ih (l1 + 1) S
set_option maxHeartbeats 4000000 in
set_option maxRecDepth 20000 in
theorem s8_digest {N : Nat} (F : Nat) (S : sm_t) : sm_P (sm_jL N) k8_digest [.ref 52] (sm_m N S) (x8_digest F S) := by
  show sm_S (sm_jL N) k8_digest 0 0 0 [some (.ref 52), none, none] [] (sm_m N S) (x8_digest F S)
  unfold x8_digest
  refine sd_aload_n (pc := 0) d8_digest_0 rfl ?_
  refine sd_ldc2 (pc := 1) cl8_306 d8_digest_1 ?_
  refine sd_putL (pc := 4) (show sm_sq 52 = some (.inr 7) from rfl) rfl fl8_300 rfl d8_digest_4 (fun S => ?_)
  refine sd_iconst (pc := 7) 0 d8_digest_7 ci_0 ?_
  refine sd_istore_n (lf2 := [some (.ref 52), some (.int 0), none]) (pc := 8) d8_digest_8 (Nat.le_of_ble_eq_true rfl) rfl ?_
  exact s8_digest_9 F F 0 S
