set_option maxHeartbeats 4000000 in
set_option maxRecDepth 20000 in
theorem s2_weighThrough {N : Nat} (F : Nat) (l1 : Int32) (l2 : Int32) (S : sm_t) : sm_P (sm_jL N) k2_weighThrough [.ref 18, .int l1, .int l2] (sm_m N S) (x2_weighThrough F l1 l2 S) := by
  show sm_S (sm_jL N) k2_weighThrough 0 0 0 [some (.ref 18), some (.int l1), some (.int l2)] [] (sm_m N S) (x2_weighThrough F l1 l2 S)
  unfold x2_weighThrough
  refine sd_aload_n (pc := 0) d2_weighThrough_0 rfl ?_
  refine sd_bipush (pc := 1) (-9) d2_weighThrough_1 cb_m9 ?_
  refine sd_iload_n (pc := 3) d2_weighThrough_3 rfl ?_
  refine sd_iload_n (pc := 4) d2_weighThrough_4 rfl ?_
  refine sd_cVL (k2 := k2_weighFlight) (As := [.int (-9), .int l1, .int l2]) (rest := []) (b := 18) (ci := 1) (pc := 5) 52 (show sm_sq 18 = some (.inr 1) from rfl) (by decide) rfl d2_weighThrough_5 ml2_52 (ms2_weighFlight).1 (ms2_weighFlight).2 (me2_weighFlight) ⟨rfl, rfl⟩ ⟨Nat.le_of_ble_eq_true rfl, Nat.le_of_ble_eq_true rfl⟩ (Nat.le_of_ble_eq_true rfl) (Nat.le_of_ble_eq_true rfl) rfl (Nat.zero_le _) (Nat.zero_le _) rfl (s2_weighFlight F (-9) l1 l2 S) (fun v1 S => ?_)
  exact sd_lret (pc := 8) d2_weighThrough_8 (Nat.zero_le _) (Nat.zero_le _)
set_option maxHeartbeats 4000000 in
set_option maxRecDepth 20000 in
theorem s7_hour {N : Nat} (F : Nat) (l1 : Int32) (l2 : Int32) (S : sm_t) : sm_P (sm_jI N) k7_hour [.ref 3, .int l1, .int l2] (sm_m N S) (x7_hour F l1 l2 S) := by
  show sm_S (sm_jI N) k7_hour 0 0 0 [some (.ref 3), some (.int l1), some (.int l2), none] [] (sm_m N S) (x7_hour F l1 l2 S)
  unfold x7_hour
  refine sd_iload_n (pc := 0) d7_hour_0 rfl ?_
  refine sd_bipush (pc := 1) 6 d7_hour_1 cb_6 ?_
  refine sd_cSI (k2 := k7_isWithin) (As := [.int l1, .int 6]) (rest := []) (pc := 3) 137 d7_hour_3 ml7_137 (ms7_isWithin) (me7_isWithin) ⟨rfl, rfl⟩ ⟨Nat.le_of_ble_eq_true rfl, Nat.le_of_ble_eq_true rfl⟩ (Nat.le_of_ble_eq_true rfl) (Nat.le_of_ble_eq_true rfl) (Or.inr rfl) (Nat.zero_le _) (Nat.zero_le _) rfl (s7_isWithin F l1 6 S) (fun v1 S => ?_)
  refine sd_if_eq (pc := 6) 16 d7_hour_6 (by decide) (fun _ => ?_) (fun _ => ?_)
  · refine sd_iconst (pc := 16) (-1) d7_hour_16 ci_m1 ?_
    exact sd_iret (pc := 17) d7_hour_17 rfl (Nat.zero_le _) (Nat.zero_le _)
  · refine sd_iload_n (pc := 9) d7_hour_9 rfl ?_
    refine sd_cSI (k2 := k1_isCell) (As := [.int l2]) (rest := []) (pc := 10) 120 d7_hour_10 ml7_120 (ms1_isCell) (me1_isCell) ⟨rfl, rfl⟩ ⟨Nat.le_of_ble_eq_true rfl, Nat.le_of_ble_eq_true rfl⟩ (Nat.le_of_ble_eq_true rfl) (Nat.le_of_ble_eq_true rfl) (Or.inr rfl) (Nat.zero_le _) (Nat.zero_le _) rfl (s1_isCell F l2 S) (fun v2 S => ?_)
    refine sd_if_ne (pc := 13) 18 d7_hour_13 (by decide) (fun _ => ?_) (fun _ => ?_)
    · refine sd_iconst (pc := 16) (-1) d7_hour_16 ci_m1 ?_
      exact sd_iret (pc := 17) d7_hour_17 rfl (Nat.zero_le _) (Nat.zero_le _)
    · refine sd_aload_n (pc := 18) d7_hour_18 rfl ?_
      refine sd_iconst (pc := 19) 0 d7_hour_19 ci_0 ?_
      refine sd_cVI (k2 := k7_weighed) (As := [.int 0]) (rest := []) (b := 3) (ci := 6) (pc := 20) 217 (show sm_sq 3 = some (.inr 6) from rfl) (by decide) rfl d7_hour_20 ml7_217 (ms7_weighed).1 (ms7_weighed).2 (me7_weighed) ⟨rfl, rfl⟩ ⟨Nat.le_of_ble_eq_true rfl, Nat.le_of_ble_eq_true rfl⟩ (Nat.le_of_ble_eq_true rfl) (Nat.le_of_ble_eq_true rfl) (Or.inl rfl) (Nat.zero_le _) (Nat.zero_le _) rfl (s7_weighed F 0 S) (fun v3 S => ?_)
      refine sd_istore_n (lf2 := [some (.ref 3), some (.int l1), some (.int l2), some (.int v3)]) (pc := 23) d7_hour_23 (Nat.le_of_ble_eq_true rfl) rfl ?_
      refine sd_iload_n (pc := 24) d7_hour_24 rfl ?_
      refine sd_if_eq (pc := 25) 30 d7_hour_25 (by decide) (fun _ => ?_) (fun _ => ?_)
      · refine sd_aload_n (pc := 30) d7_hour_30 rfl ?_
        refine sd_aload_n (pc := 31) d7_hour_31 rfl ?_
        refine sd_getR (pc := 32) 18 (show sm_sq 3 = some (.inr 6) from rfl) rfl fl7_29 rfl d7_hour_32 ?_
        refine sd_iload_n (pc := 35) d7_hour_35 rfl ?_
        refine sd_iload_n (pc := 36) d7_hour_36 rfl ?_
        refine sd_cVL (k2 := k2_weighThrough) (As := [.int l1, .int l2]) (rest := [.ref 3]) (b := 18) (ci := 1) (pc := 37) 234 (show sm_sq 18 = some (.inr 1) from rfl) (by decide) rfl d7_hour_37 ml7_234 (ms2_weighThrough).1 (ms2_weighThrough).2 (me2_weighThrough) ⟨rfl, rfl⟩ ⟨Nat.le_of_ble_eq_true rfl, Nat.le_of_ble_eq_true rfl⟩ (Nat.le_of_ble_eq_true rfl) (Nat.le_of_ble_eq_true rfl) rfl (Nat.zero_le _) (Nat.zero_le _) rfl (s2_weighThrough F l1 l2 S) (fun v4 S => ?_)
        refine sd_aload_n (pc := 40) d7_hour_40 rfl ?_
        refine sd_getR (pc := 41) 18 (show sm_sq 3 = some (.inr 6) from rfl) rfl fl7_29 rfl d7_hour_41 ?_
        refine sd_getL (pc := 44) (show sm_sq 18 = some (.inr 1) from rfl) rfl fl7_223 d7_hour_44 (fun v5 => ?_)
        refine sd_cVV (k2 := k7_fraction) (As := [.long v4, .long v5]) (rest := []) (b := 3) (ci := 6) (pc := 47) 226 (show sm_sq 3 = some (.inr 6) from rfl) (by decide) rfl d7_hour_47 ml7_226 (ms7_fraction).1 (ms7_fraction).2 (me7_fraction) ⟨rfl, rfl⟩ ⟨Nat.le_of_ble_eq_true rfl, Nat.le_of_ble_eq_true rfl⟩ (Nat.le_of_ble_eq_true rfl) (Nat.le_of_ble_eq_true rfl) rfl (Nat.zero_le _) (Nat.zero_le _) rfl (s7_fraction F v4 v5 S) (fun S => ?_)
        refine sd_iconst (pc := 50) 1 d7_hour_50 ci_1 ?_
        exact sd_iret (pc := 51) d7_hour_51 rfl (Nat.zero_le _) (Nat.zero_le _)
      · refine sd_iload_n (pc := 28) d7_hour_28 rfl ?_
        exact sd_iret (pc := 29) d7_hour_29 rfl (Nat.zero_le _) (Nat.zero_le _)
set_option maxHeartbeats 4000000 in
set_option maxRecDepth 20000 in
theorem s8_setRest_70 {N : Nat} (F : Nat) (c27 : Int32 → Int32 → Int64 → Int32 → sm_t → Option (sm_t)) (hc27 : ∀ (l1 : Int32) (l2 : Int32) (l3 : Int64) (l5 : Int32) (S : sm_t), sm_S (sm_jV N) k8_setRest 0 0 27 [some (.ref 52), some (.int l1), some (.int l2), some (.long l3), none, some (.int l5), none] [] (sm_m N S) (c27 l1 l2 l3 l5 S)) (l1 : Int32) (l2 : Int32) (l5 : Int32) (l6 : Int32) (t0 : Int64) (t1 : Int64) (S : sm_t) : sm_S (sm_jV N) k8_setRest 0 0 70 [some (.ref 52), some (.int l1), some (.int l2), none, none, some (.int l5), some (.int l6)] [.long t1, .long t0] (sm_m N S) (x8_setRest_70 F c27 l1 l2 l5 l6 t0 t1 S) := by
  unfold x8_setRest_70
  refine sd_aload_n (pc := 70) d8_setRest_70 rfl ?_
  refine sd_iload_n (pc := 71) d8_setRest_71 rfl ?_
  refine sd_iconst (pc := 72) 1 d8_setRest_72 ci_1 ?_
  refine sd_iadd (pc := 73) d8_setRest_73 ?_
  refine sd_iload (pc := 74) d8_setRest_74 rfl ?_
  refine sd_cVL (k2 := k8_hourWeight) (As := [.int (l1 + 1), .int l6]) (rest := [.long t1, .long t0]) (b := 52) (ci := 7) (pc := 76) 207 (show sm_sq 52 = some (.inr 7) from rfl) (by decide) rfl d8_setRest_76 ml8_207 (ms8_hourWeight).1 (ms8_hourWeight).2 (me8_hourWeight) ⟨rfl, rfl⟩ ⟨Nat.le_of_ble_eq_true rfl, Nat.le_of_ble_eq_true rfl⟩ (Nat.le_of_ble_eq_true rfl) (Nat.le_of_ble_eq_true rfl) rfl (Nat.zero_le _) (Nat.zero_le _) rfl (s8_hourWeight F (l1 + 1) l6 S) (fun v1 S => ?_)
  refine sd_lmul (pc := 79) d8_setRest_79 ?_
  refine sd_aload_n (pc := 80) d8_setRest_80 rfl ?_
  refine sd_getR (pc := 81) 65 (show sm_sq 52 = some (.inr 7) from rfl) rfl fl8_56 rfl d8_setRest_81 ?_
  refine sd_bipush (pc := 84) 120 d8_setRest_84 cb_120 ?_
  refine sd_iload_n (pc := 86) d8_setRest_86 rfl ?_
  refine sd_iconst (pc := 87) 1 d8_setRest_87 ci_1 ?_
  refine sd_iadd (pc := 88) d8_setRest_88 ?_
  refine sd_imul (pc := 89) d8_setRest_89 ?_
  refine sd_iload (pc := 90) d8_setRest_90 rfl ?_
  refine sd_iadd (pc := 92) d8_setRest_92 ?_
  refine sd_lald (pc := 93) (show sm_sq 65 = some (.inl (.long, 840)) from rfl) d8_setRest_93 (fun v2 => ?_)
  refine sd_lmul (pc := 94) d8_setRest_94 ?_
  refine sd_ladd (pc := 95) d8_setRest_95 ?_
  refine sd_nl (fun v3 => ?_)
  refine sd_lstore_n (lf2 := [some (.ref 52), some (.int l1), some (.int l2), some (.long v3), none, some (.int l5), some (.int l6)]) (pc := 96) d8_setRest_96 (Nat.le_of_ble_eq_true rfl) rfl ?_
  refine sd_iinc (lf2 := [some (.ref 52), some (.int l1), some (.int l2), some (.long v3), none, some (.int (l5 + 1)), some (.int l6)]) (pc := 97) d8_setRest_97 (Nat.le_of_ble_eq_true rfl) rfl ci_1 rfl ?_
  refine sd_goto (pc := 100) 27 d8_setRest_100 (by decide) ?_
  exact sd_fg [true, true, true, true, true, true, false] rfl (hc27 l1 l2 v3 (l5 + 1) S)
set_option maxHeartbeats 4000000 in
set_option maxRecDepth 20000 in
theorem s8_setRest_103 {N : Nat} (F : Nat) (c11 : Int32 → Int32 → sm_t → Option (sm_t)) (hc11 : ∀ (l1 : Int32) (l2 : Int32) (S : sm_t), sm_S (sm_jV N) k8_setRest 0 0 11 [some (.ref 52), some (.int l1), some (.int l2), none, none, none, none] [] (sm_m N S) (c11 l1 l2 S)) (l1 : Int32) (l2 : Int32) (l3 : Int64) (S : sm_t) : sm_S (sm_jV N) k8_setRest 0 0 103 [some (.ref 52), some (.int l1), some (.int l2), some (.long l3), none, none, none] [] (sm_m N S) (x8_setRest_103 F c11 l1 l2 l3 S) := by
  unfold x8_setRest_103
  refine sd_aload_n (pc := 103) d8_setRest_103 rfl ?_
  refine sd_getR (pc := 104) 65 (show sm_sq 52 = some (.inr 7) from rfl) rfl fl8_56 rfl d8_setRest_104 ?_
  refine sd_bipush (pc := 107) 120 d8_setRest_107 cb_120 ?_
  refine sd_iload_n (pc := 109) d8_setRest_109 rfl ?_
  refine sd_imul (pc := 110) d8_setRest_110 ?_
  refine sd_iload_n (pc := 111) d8_setRest_111 rfl ?_
  refine sd_iadd (pc := 112) d8_setRest_112 ?_
  refine sd_lload_n (pc := 113) d8_setRest_113 rfl ?_
  refine sd_last (pc := 114) (show sm_sq 65 = some (.inl (.long, 840)) from rfl) d8_setRest_114 (fun S => ?_)
  refine sd_iinc (lf2 := [some (.ref 52), some (.int l1), some (.int (l2 + 1)), some (.long l3), none, none, none]) (pc := 115) d8_setRest_115 (Nat.le_of_ble_eq_true rfl) rfl ci_1 rfl ?_
  refine sd_goto (pc := 118) 11 d8_setRest_118 (by decide) ?_
  exact sd_fg [true, true, true, false, true, true, true] rfl (hc11 l1 (l2 + 1) S)
set_option maxHeartbeats 4000000 in
set_option maxRecDepth 20000 in
theorem s8_setRest_27 {N : Nat} (F : Nat) (c11 : Int32 → Int32 → sm_t → Option (sm_t)) (hc11 : ∀ (l1 : Int32) (l2 : Int32) (S : sm_t), sm_S (sm_jV N) k8_setRest 0 0 11 [some (.ref 52), some (.int l1), some (.int l2), none, none, none, none] [] (sm_m N S) (c11 l1 l2 S)) : ∀ (f : Nat) (l1 : Int32) (l2 : Int32) (l3 : Int64) (l5 : Int32) (S : sm_t), sm_S (sm_jV N) k8_setRest 0 0 27 [some (.ref 52), some (.int l1), some (.int l2), some (.long l3), none, some (.int l5), none] [] (sm_m N S) (x8_setRest_27 F c11 f l1 l2 l3 l5 S) := by
  intro f
  induction f with
  | zero =>
    intro l1 l2 l3 l5 S
    exact sd_none
  | succ f ih =>
    intro l1 l2 l3 l5 S
    rw [x8_setRest_27]
    refine sd_iload (pc := 27) d8_setRest_27 rfl ?_
    refine sd_iconst (pc := 29) 2 d8_setRest_29 ci_2 ?_
    refine sd_ic_ge (pc := 30) 103 d8_setRest_30 (by decide) (fun _ => ?_) (fun _ => ?_)
    · exact sd_fg [true, true, true, true, true, false, true] rfl (s8_setRest_103 F _ hc11 l1 l2 l3 S)
    · refine sd_iload_n (pc := 33) d8_setRest_33 rfl ?_
      refine sd_aload_n (pc := 34) d8_setRest_34 rfl ?_
      refine sd_cVI (k2 := k8_hours) (As := []) (rest := [.int l1]) (b := 52) (ci := 7) (pc := 35) 129 (show sm_sq 52 = some (.inr 7) from rfl) (by decide) rfl d8_setRest_35 ml8_129 (ms8_hours).1 (ms8_hours).2 (me8_hours) ⟨rfl, rfl⟩ ⟨Nat.le_of_ble_eq_true rfl, Nat.le_of_ble_eq_true rfl⟩ (Nat.le_of_ble_eq_true rfl) (Nat.le_of_ble_eq_true rfl) (Or.inl rfl) (Nat.zero_le _) (Nat.zero_le _) rfl (s8_hours F S) (fun v1 S => ?_)
      refine sd_ic_ge (pc := 38) 103 d8_setRest_38 (by decide) (fun _ => ?_) (fun _ => ?_)
      · exact sd_fg [true, true, true, true, true, false, true] rfl (s8_setRest_103 F _ hc11 l1 l2 l3 S)
      · refine sd_iload_n (pc := 41) d8_setRest_41 rfl ?_
        refine sd_aload_n (pc := 42) d8_setRest_42 rfl ?_
        refine sd_iload_n (pc := 43) d8_setRest_43 rfl ?_
        refine sd_cVI (k2 := k8_courseOf) (As := [.int l1]) (rest := [.int l2]) (b := 52) (ci := 7) (pc := 44) 133 (show sm_sq 52 = some (.inr 7) from rfl) (by decide) rfl d8_setRest_44 ml8_133 (ms8_courseOf).1 (ms8_courseOf).2 (me8_courseOf) ⟨rfl, rfl⟩ ⟨Nat.le_of_ble_eq_true rfl, Nat.le_of_ble_eq_true rfl⟩ (Nat.le_of_ble_eq_true rfl) (Nat.le_of_ble_eq_true rfl) (Or.inl rfl) (Nat.zero_le _) (Nat.zero_le _) rfl (s8_courseOf F l1 S) (fun v2 S => ?_)
        refine sd_iload (pc := 47) d8_setRest_47 rfl ?_
        refine sd_cSI (k2 := k8_turned) (As := [.int v2, .int l5]) (rest := [.int l2]) (pc := 49) 211 d8_setRest_49 ml8_211 (ms8_turned) (me8_turned) ⟨rfl, rfl⟩ ⟨Nat.le_of_ble_eq_true rfl, Nat.le_of_ble_eq_true rfl⟩ (Nat.le_of_ble_eq_true rfl) (Nat.le_of_ble_eq_true rfl) (Or.inl rfl) (Nat.zero_le _) (Nat.zero_le _) rfl (s8_turned F v2 l5 S) (fun v3 S => ?_)
        refine sd_cSI (k2 := k8_goesTo) (As := [.int l2, .int v3]) (rest := []) (pc := 52) 214 d8_setRest_52 ml8_214 (ms8_goesTo) (me8_goesTo) ⟨rfl, rfl⟩ ⟨Nat.le_of_ble_eq_true rfl, Nat.le_of_ble_eq_true rfl⟩ (Nat.le_of_ble_eq_true rfl) (Nat.le_of_ble_eq_true rfl) (Or.inl rfl) (Nat.zero_le _) (Nat.zero_le _) rfl (s8_goesTo F l2 v3 S) (fun v4 S => ?_)
        refine sd_istore (lf2 := [some (.ref 52), some (.int l1), some (.int l2), some (.long l3), none, some (.int l5), some (.int v4)]) (pc := 55) d8_setRest_55 (Nat.le_of_ble_eq_true rfl) rfl ?_
        refine sd_lload_n (pc := 57) d8_setRest_57 rfl ?_
        refine sd_iload (pc := 58) d8_setRest_58 rfl ?_
        refine sd_if_ne (pc := 60) 69 d8_setRest_60 (by decide) (fun _ => ?_) (fun _ => ?_)
        · refine sd_ldc2 (pc := 63) cl8_217 d8_setRest_63 ?_
          refine sd_goto (pc := 66) 70 d8_setRest_66 (by decide) ?_
          exact sd_fg [true, true, true, false, true, true, true] rfl (s8_setRest_70 F _ ih l1 l2 l5 v4 l3 2 S)
        · refine sd_lconst (pc := 69) 1 d8_setRest_69 rfl ?_
          exact sd_fg [true, true, true, false, true, true, true] rfl (s8_setRest_70 F _ ih l1 l2 l5 v4 l3 1 S)
set_option maxHeartbeats 4000000 in
set_option maxRecDepth 20000 in
theorem s8_setRest_11 {N : Nat} (F : Nat) (c5 : Int32 → sm_t → Option (sm_t)) (hc5 : ∀ (l1 : Int32) (S : sm_t), sm_S (sm_jV N) k8_setRest 0 0 5 [some (.ref 52), some (.int l1), none, none, none, none, none] [] (sm_m N S) (c5 l1 S)) : ∀ (f : Nat) (l1 : Int32) (l2 : Int32) (S : sm_t), sm_S (sm_jV N) k8_setRest 0 0 11 [some (.ref 52), some (.int l1), some (.int l2), none, none, none, none] [] (sm_m N S) (x8_setRest_11 F c5 f l1 l2 S) := by
  intro f
  induction f with
  | zero =>
    intro l1 l2 S
    exact sd_none
  | succ f ih =>
    intro l1 l2 S
    rw [x8_setRest_11]
    refine sd_iload_n (pc := 11) d8_setRest_11 rfl ?_
    refine sd_bipush (pc := 12) 120 d8_setRest_12 cb_120 ?_
    refine sd_ic_ge (pc := 14) 121 d8_setRest_14 (by decide) (fun _ => ?_) (fun _ => ?_)
    · refine sd_iinc (lf2 := [some (.ref 52), some (.int (l1 + (-1))), some (.int l2), none, none, none, none]) (pc := 121) d8_setRest_121 (Nat.le_of_ble_eq_true rfl) rfl ci_m1 rfl ?_
      refine sd_goto (pc := 124) 5 d8_setRest_124 (by decide) ?_
      exact sd_fg [true, true, false, true, true, true, true] rfl (hc5 (l1 + (-1)) S)
    · refine sd_aload_n (pc := 17) d8_setRest_17 rfl ?_
      refine sd_iload_n (pc := 18) d8_setRest_18 rfl ?_
      refine sd_iload_n (pc := 19) d8_setRest_19 rfl ?_
      refine sd_cVL (k2 := k8_endWeight) (As := [.int l1, .int l2]) (rest := []) (b := 52) (ci := 7) (pc := 20) 219 (show sm_sq 52 = some (.inr 7) from rfl) (by decide) rfl d8_setRest_20 ml8_219 (ms8_endWeight).1 (ms8_endWeight).2 (me8_endWeight) ⟨rfl, rfl⟩ ⟨Nat.le_of_ble_eq_true rfl, Nat.le_of_ble_eq_true rfl⟩ (Nat.le_of_ble_eq_true rfl) (Nat.le_of_ble_eq_true rfl) rfl (Nat.zero_le _) (Nat.zero_le _) rfl (s8_endWeight F l1 l2 S) (fun v1 S => ?_)
      refine sd_lstore_n (lf2 := [some (.ref 52), some (.int l1), some (.int l2), some (.long v1), none, none, none]) (pc := 23) d8_setRest_23 (Nat.le_of_ble_eq_true rfl) rfl ?_
      refine sd_iconst (pc := 24) (-1) d8_setRest_24 ci_m1 ?_
      refine sd_istore (lf2 := [some (.ref 52), some (.int l1), some (.int l2), some (.long v1), none, some (.int (-1)), none]) (pc := 25) d8_setRest_25 (Nat.le_of_ble_eq_true rfl) rfl ?_
      exact s8_setRest_27 F _ ih F l1 l2 v1 (-1) S
set_option maxHeartbeats 4000000 in
set_option maxRecDepth 20000 in
theorem s8_setRest_5 {N : Nat} (F : Nat) : ∀ (f : Nat) (l1 : Int32) (S : sm_t), sm_S (sm_jV N) k8_setRest 0 0 5 [some (.ref 52), some (.int l1), none, none, none, none, none] [] (sm_m N S) (x8_setRest_5 F f l1 S) := by
  intro f
  induction f with
  | zero =>
    intro l1 S
    exact sd_none
  | succ f ih =>
    intro l1 S
    rw [x8_setRest_5]
    refine sd_iload_n (pc := 5) d8_setRest_5 rfl ?_
    refine sd_if_lt (pc := 6) 127 d8_setRest_6 (by decide) (fun _ => ?_) (fun _ => ?_)
    · exact sd_vret (pc := 127) d8_setRest_127 (Nat.zero_le _) (Nat.zero_le _)
    · refine sd_iconst (pc := 9) 0 d8_setRest_9 ci_0 ?_
      refine sd_istore_n (lf2 := [some (.ref 52), some (.int l1), some (.int 0), none, none, none, none]) (pc := 10) d8_setRest_10 (Nat.le_of_ble_eq_true rfl) rfl ?_
      exact s8_setRest_11 F _ ih F l1 0 S
set_option maxHeartbeats 4000000 in
set_option maxRecDepth 20000 in
theorem s8_setRest {N : Nat} (F : Nat) (S : sm_t) : sm_P (sm_jV N) k8_setRest [.ref 52] (sm_m N S) (x8_setRest F S) := by
  show sm_S (sm_jV N) k8_setRest 0 0 0 [some (.ref 52), none, none, none, none, none, none] [] (sm_m N S) (x8_setRest F S)
  unfold x8_setRest
  refine sd_aload_n (pc := 0) d8_setRest_0 rfl ?_
  refine sd_cVI (k2 := k8_hours) (As := []) (rest := []) (b := 52) (ci := 7) (pc := 1) 129 (show sm_sq 52 = some (.inr 7) from rfl) (by decide) rfl d8_setRest_1 ml8_129 (ms8_hours).1 (ms8_hours).2 (me8_hours) ⟨rfl, rfl⟩ ⟨Nat.le_of_ble_eq_true rfl, Nat.le_of_ble_eq_true rfl⟩ (Nat.le_of_ble_eq_true rfl) (Nat.le_of_ble_eq_true rfl) (Or.inl rfl) (Nat.zero_le _) (Nat.zero_le _) rfl (s8_hours F S) (fun v1 S => ?_)
  refine sd_istore_n (lf2 := [some (.ref 52), some (.int v1), none, none, none, none, none]) (pc := 4) d8_setRest_4 (Nat.le_of_ble_eq_true rfl) rfl ?_
  exact s8_setRest_5 F F v1 S
set_option maxHeartbeats 4000000 in
set_option maxRecDepth 20000 in
theorem s8_hour {N : Nat} (F : Nat) (l1 : Int32) (l2 : Int32) (S : sm_t) : sm_P (sm_jI N) k8_hour [.ref 52, .int l1, .int l2] (sm_m N S) (x8_hour F l1 l2 S) := by
  show sm_S (sm_jI N) k8_hour 0 0 0 [some (.ref 52), some (.int l1), some (.int l2), none, none, none] [] (sm_m N S) (x8_hour F l1 l2 S)
  unfold x8_hour
  refine sd_iload_n (pc := 0) d8_hour_0 rfl ?_
  refine sd_iconst (pc := 1) 0 d8_hour_1 ci_0 ?_
  refine sd_bipush (pc := 2) 6 d8_hour_2 cb_6 ?_
  refine sd_cSI (k2 := k8_in) (As := [.int l1, .int 0, .int 6]) (rest := []) (pc := 4) 80 d8_hour_4 ml8_80 (ms8_in) (me8_in) ⟨rfl, rfl⟩ ⟨Nat.le_of_ble_eq_true rfl, Nat.le_of_ble_eq_true rfl⟩ (Nat.le_of_ble_eq_true rfl) (Nat.le_of_ble_eq_true rfl) (Or.inr rfl) (Nat.zero_le _) (Nat.zero_le _) rfl (s8_in F l1 0 6 S) (fun v1 S => ?_)
  refine sd_if_eq (pc := 7) 17 d8_hour_7 (by decide) (fun _ => ?_) (fun _ => ?_)
  · refine sd_iconst (pc := 17) (-1) d8_hour_17 ci_m1 ?_
    exact sd_iret (pc := 18) d8_hour_18 rfl (Nat.zero_le _) (Nat.zero_le _)
  · refine sd_iload_n (pc := 10) d8_hour_10 rfl ?_
    refine sd_cSI (k2 := k8_isCell) (As := [.int l2]) (rest := []) (pc := 11) 117 d8_hour_11 ml8_117 (ms8_isCell) (me8_isCell) ⟨rfl, rfl⟩ ⟨Nat.le_of_ble_eq_true rfl, Nat.le_of_ble_eq_true rfl⟩ (Nat.le_of_ble_eq_true rfl) (Nat.le_of_ble_eq_true rfl) (Or.inr rfl) (Nat.zero_le _) (Nat.zero_le _) rfl (s8_isCell F l2 S) (fun v2 S => ?_)
    refine sd_if_ne (pc := 14) 19 d8_hour_14 (by decide) (fun _ => ?_) (fun _ => ?_)
    · refine sd_iconst (pc := 17) (-1) d8_hour_17 ci_m1 ?_
      exact sd_iret (pc := 18) d8_hour_18 rfl (Nat.zero_le _) (Nat.zero_le _)
    · refine sd_aload_n (pc := 19) d8_hour_19 rfl ?_
      refine sd_iconst (pc := 20) 0 d8_hour_20 ci_0 ?_
      refine sd_cVI (k2 := k8_weigh) (As := [.int 0]) (rest := []) (b := 52) (ci := 7) (pc := 21) 244 (show sm_sq 52 = some (.inr 7) from rfl) (by decide) rfl d8_hour_21 ml8_244 (ms8_weigh).1 (ms8_weigh).2 (me8_weigh) ⟨rfl, rfl⟩ ⟨Nat.le_of_ble_eq_true rfl, Nat.le_of_ble_eq_true rfl⟩ (Nat.le_of_ble_eq_true rfl) (Nat.le_of_ble_eq_true rfl) (Or.inl rfl) (Nat.zero_le _) (Nat.zero_le _) rfl (s8_weigh F 0 S) (fun v3 S => ?_)
      refine sd_istore_n (lf2 := [some (.ref 52), some (.int l1), some (.int l2), some (.int v3), none, none]) (pc := 24) d8_hour_24 (Nat.le_of_ble_eq_true rfl) rfl ?_
      refine sd_iload_n (pc := 25) d8_hour_25 rfl ?_
      refine sd_if_ge (pc := 26) 31 d8_hour_26 (by decide) (fun _ => ?_) (fun _ => ?_)
      · refine sd_aload_n (pc := 31) d8_hour_31 rfl ?_
        refine sd_cVV (k2 := k8_setRest) (As := []) (rest := []) (b := 52) (ci := 7) (pc := 32) 254 (show sm_sq 52 = some (.inr 7) from rfl) (by decide) rfl d8_hour_32 ml8_254 (ms8_setRest).1 (ms8_setRest).2 (me8_setRest) ⟨rfl, rfl⟩ ⟨Nat.le_of_ble_eq_true rfl, Nat.le_of_ble_eq_true rfl⟩ (Nat.le_of_ble_eq_true rfl) (Nat.le_of_ble_eq_true rfl) rfl (Nat.zero_le _) (Nat.zero_le _) rfl (s8_setRest F S) (fun S => ?_)
        refine sd_iload_n (pc := 35) d8_hour_35 rfl ?_
        refine sd_aload_n (pc := 36) d8_hour_36 rfl ?_
        refine sd_cVI (k2 := k8_hours) (As := []) (rest := [.int l1]) (b := 52) (ci := 7) (pc := 37) 129 (show sm_sq 52 = some (.inr 7) from rfl) (by decide) rfl d8_hour_37 ml8_129 (ms8_hours).1 (ms8_hours).2 (me8_hours) ⟨rfl, rfl⟩ ⟨Nat.le_of_ble_eq_true rfl, Nat.le_of_ble_eq_true rfl⟩ (Nat.le_of_ble_eq_true rfl) (Nat.le_of_ble_eq_true rfl) (Or.inl rfl) (Nat.zero_le _) (Nat.zero_le _) rfl (s8_hours F S) (fun v5 S => ?_)
        refine sd_ic_gt (pc := 40) 59 d8_hour_40 (by decide) (fun _ => ?_) (fun _ => ?_)
        · refine sd_lconst (pc := 59) 0 d8_hour_59 rfl ?_
          refine sd_goto (pc := 60) 86 d8_hour_60 (by decide) ?_
          refine sd_lstore (lf2 := [some (.ref 52), some (.int l1), some (.int l2), some (.int v3), some (.long 0), none]) (pc := 86) d8_hour_86 (Nat.le_of_ble_eq_true rfl) rfl ?_
          refine sd_aload_n (pc := 88) d8_hour_88 rfl ?_
          refine sd_lload (pc := 89) d8_hour_89 rfl ?_
          refine sd_aload_n (pc := 91) d8_hour_91 rfl ?_
          refine sd_getL (pc := 92) (show sm_sq 52 = some (.inr 7) from rfl) rfl fl8_222 d8_hour_92 (fun v6 => ?_)
          refine sd_iconst (pc := 95) 1 d8_hour_95 ci_1 ?_
          refine sd_cVI (k2 := k8_part) (As := [.long 0, .long v6, .int 1]) (rest := []) (b := 52) (ci := 7) (pc := 96) 247 (show sm_sq 52 = some (.inr 7) from rfl) (by decide) rfl d8_hour_96 ml8_247 (ms8_part).1 (ms8_part).2 (me8_part) ⟨rfl, rfl⟩ ⟨Nat.le_of_ble_eq_true rfl, Nat.le_of_ble_eq_true rfl⟩ (Nat.le_of_ble_eq_true rfl) (Nat.le_of_ble_eq_true rfl) (Or.inl rfl) (Nat.zero_le _) (Nat.zero_le _) rfl (s8_part F 0 v6 1 S) (fun v7 S => ?_)
          exact sd_iret (pc := 99) d8_hour_99 rfl (Nat.zero_le _) (Nat.zero_le _)
        · refine sd_aload_n (pc := 43) d8_hour_43 rfl ?_
          refine sd_getR (pc := 44) 64 (show sm_sq 52 = some (.inr 7) from rfl) rfl fl8_52 rfl d8_hour_44 ?_
          refine sd_bipush (pc := 47) 120 d8_hour_47 cb_120 ?_
          refine sd_iload_n (pc := 49) d8_hour_49 rfl ?_
          refine sd_imul (pc := 50) d8_hour_50 ?_
          refine sd_iload_n (pc := 51) d8_hour_51 rfl ?_
          refine sd_iadd (pc := 52) d8_hour_52 ?_
          refine sd_lald (pc := 53) (show sm_sq 64 = some (.inl (.long, 840)) from rfl) d8_hour_53 (fun v8 => ?_)
          refine sd_lconst (pc := 54) 0 d8_hour_54 rfl ?_
          refine sd_lc_ne (pc := 55) 63 d8_hour_55 d8_hour_56 (by decide) (fun _ => ?_) (fun _ => ?_)
          · refine sd_lconst (pc := 59) 0 d8_hour_59 rfl ?_
            refine sd_goto (pc := 60) 86 d8_hour_60 (by decide) ?_
            refine sd_lstore (lf2 := [some (.ref 52), some (.int l1), some (.int l2), some (.int v3), some (.long 0), none]) (pc := 86) d8_hour_86 (Nat.le_of_ble_eq_true rfl) rfl ?_
            refine sd_aload_n (pc := 88) d8_hour_88 rfl ?_
            refine sd_lload (pc := 89) d8_hour_89 rfl ?_
            refine sd_aload_n (pc := 91) d8_hour_91 rfl ?_
            refine sd_getL (pc := 92) (show sm_sq 52 = some (.inr 7) from rfl) rfl fl8_222 d8_hour_92 (fun v9 => ?_)
            refine sd_iconst (pc := 95) 1 d8_hour_95 ci_1 ?_
            refine sd_cVI (k2 := k8_part) (As := [.long 0, .long v9, .int 1]) (rest := []) (b := 52) (ci := 7) (pc := 96) 247 (show sm_sq 52 = some (.inr 7) from rfl) (by decide) rfl d8_hour_96 ml8_247 (ms8_part).1 (ms8_part).2 (me8_part) ⟨rfl, rfl⟩ ⟨Nat.le_of_ble_eq_true rfl, Nat.le_of_ble_eq_true rfl⟩ (Nat.le_of_ble_eq_true rfl) (Nat.le_of_ble_eq_true rfl) (Or.inl rfl) (Nat.zero_le _) (Nat.zero_le _) rfl (s8_part F 0 v9 1 S) (fun v10 S => ?_)
            exact sd_iret (pc := 99) d8_hour_99 rfl (Nat.zero_le _) (Nat.zero_le _)
          · refine sd_aload_n (pc := 63) d8_hour_63 rfl ?_
            refine sd_getR (pc := 64) 64 (show sm_sq 52 = some (.inr 7) from rfl) rfl fl8_52 rfl d8_hour_64 ?_
            refine sd_bipush (pc := 67) 120 d8_hour_67 cb_120 ?_
            refine sd_iload_n (pc := 69) d8_hour_69 rfl ?_
            refine sd_imul (pc := 70) d8_hour_70 ?_
            refine sd_iload_n (pc := 71) d8_hour_71 rfl ?_
            refine sd_iadd (pc := 72) d8_hour_72 ?_
            refine sd_lald (pc := 73) (show sm_sq 64 = some (.inl (.long, 840)) from rfl) d8_hour_73 (fun v11 => ?_)
            refine sd_aload_n (pc := 74) d8_hour_74 rfl ?_
            refine sd_getR (pc := 75) 65 (show sm_sq 52 = some (.inr 7) from rfl) rfl fl8_56 rfl d8_hour_75 ?_
            refine sd_bipush (pc := 78) 120 d8_hour_78 cb_120 ?_
            refine sd_iload_n (pc := 80) d8_hour_80 rfl ?_
            refine sd_imul (pc := 81) d8_hour_81 ?_
            refine sd_iload_n (pc := 82) d8_hour_82 rfl ?_
            refine sd_iadd (pc := 83) d8_hour_83 ?_
            refine sd_lald (pc := 84) (show sm_sq 65 = some (.inl (.long, 840)) from rfl) d8_hour_84 (fun v12 => ?_)
            refine sd_lmul (pc := 85) d8_hour_85 ?_
            refine sd_nl (fun v13 => ?_)
            refine sd_lstore (lf2 := [some (.ref 52), some (.int l1), some (.int l2), some (.int v3), some (.long v13), none]) (pc := 86) d8_hour_86 (Nat.le_of_ble_eq_true rfl) rfl ?_
            refine sd_aload_n (pc := 88) d8_hour_88 rfl ?_
            refine sd_lload (pc := 89) d8_hour_89 rfl ?_
            refine sd_aload_n (pc := 91) d8_hour_91 rfl ?_
            refine sd_getL (pc := 92) (show sm_sq 52 = some (.inr 7) from rfl) rfl fl8_222 d8_hour_92 (fun v14 => ?_)
            refine sd_iconst (pc := 95) 1 d8_hour_95 ci_1 ?_
            refine sd_cVI (k2 := k8_part) (As := [.long v13, .long v14, .int 1]) (rest := []) (b := 52) (ci := 7) (pc := 96) 247 (show sm_sq 52 = some (.inr 7) from rfl) (by decide) rfl d8_hour_96 ml8_247 (ms8_part).1 (ms8_part).2 (me8_part) ⟨rfl, rfl⟩ ⟨Nat.le_of_ble_eq_true rfl, Nat.le_of_ble_eq_true rfl⟩ (Nat.le_of_ble_eq_true rfl) (Nat.le_of_ble_eq_true rfl) (Or.inl rfl) (Nat.zero_le _) (Nat.zero_le _) rfl (s8_part F v13 v14 1 S) (fun v15 S => ?_)
            exact sd_iret (pc := 99) d8_hour_99 rfl (Nat.zero_le _) (Nat.zero_le _)
      · refine sd_iload_n (pc := 29) d8_hour_29 rfl ?_
        exact sd_iret (pc := 30) d8_hour_30 rfl (Nat.zero_le _) (Nat.zero_le _)
set_option maxHeartbeats 4000000 in
set_option maxRecDepth 20000 in
theorem s7_ended {N : Nat} (F : Nat) (l1 : Int32) (S : sm_t) : sm_P (sm_jI N) k7_ended [.ref 3, .int l1] (sm_m N S) (x7_ended F l1 S) := by
  show sm_S (sm_jI N) k7_ended 0 0 0 [some (.ref 3), some (.int l1), none] [] (sm_m N S) (x7_ended F l1 S)
  unfold x7_ended
  refine sd_iload_n (pc := 0) d7_ended_0 rfl ?_
  refine sd_bipush (pc := 1) 6 d7_ended_1 cb_6 ?_
  refine sd_cSI (k2 := k7_isWithin) (As := [.int l1, .int 6]) (rest := []) (pc := 3) 137 d7_ended_3 ml7_137 (ms7_isWithin) (me7_isWithin) ⟨rfl, rfl⟩ ⟨Nat.le_of_ble_eq_true rfl, Nat.le_of_ble_eq_true rfl⟩ (Nat.le_of_ble_eq_true rfl) (Nat.le_of_ble_eq_true rfl) (Or.inr rfl) (Nat.zero_le _) (Nat.zero_le _) rfl (s7_isWithin F l1 6 S) (fun v1 S => ?_)
  refine sd_if_ne (pc := 6) 11 d7_ended_6 (by decide) (fun _ => ?_) (fun _ => ?_)
  · refine sd_iconst (pc := 9) (-1) d7_ended_9 ci_m1 ?_
    exact sd_iret (pc := 10) d7_ended_10 rfl (Nat.zero_le _) (Nat.zero_le _)
  · refine sd_aload_n (pc := 11) d7_ended_11 rfl ?_
    refine sd_iconst (pc := 12) 0 d7_ended_12 ci_0 ?_
    refine sd_cVI (k2 := k7_weighed) (As := [.int 0]) (rest := []) (b := 3) (ci := 6) (pc := 13) 217 (show sm_sq 3 = some (.inr 6) from rfl) (by decide) rfl d7_ended_13 ml7_217 (ms7_weighed).1 (ms7_weighed).2 (me7_weighed) ⟨rfl, rfl⟩ ⟨Nat.le_of_ble_eq_true rfl, Nat.le_of_ble_eq_true rfl⟩ (Nat.le_of_ble_eq_true rfl) (Nat.le_of_ble_eq_true rfl) (Or.inl rfl) (Nat.zero_le _) (Nat.zero_le _) rfl (s7_weighed F 0 S) (fun v2 S => ?_)
    refine sd_istore_n (lf2 := [some (.ref 3), some (.int l1), some (.int v2)]) (pc := 16) d7_ended_16 (Nat.le_of_ble_eq_true rfl) rfl ?_
    refine sd_iload_n (pc := 17) d7_ended_17 rfl ?_
    refine sd_if_eq (pc := 18) 23 d7_ended_18 (by decide) (fun _ => ?_) (fun _ => ?_)
    · refine sd_aload_n (pc := 23) d7_ended_23 rfl ?_
      refine sd_aload_n (pc := 24) d7_ended_24 rfl ?_
      refine sd_getR (pc := 25) 18 (show sm_sq 3 = some (.inr 6) from rfl) rfl fl7_29 rfl d7_ended_25 ?_
      refine sd_getR (pc := 28) 41 (show sm_sq 18 = some (.inr 1) from rfl) rfl fl7_238 rfl d7_ended_28 ?_
      refine sd_iload_n (pc := 31) d7_ended_31 rfl ?_
      refine sd_lald (pc := 32) (show sm_sq 41 = some (.inl (.long, 7)) from rfl) d7_ended_32 (fun v3 => ?_)
      refine sd_aload_n (pc := 33) d7_ended_33 rfl ?_
      refine sd_getR (pc := 34) 18 (show sm_sq 3 = some (.inr 6) from rfl) rfl fl7_29 rfl d7_ended_34 ?_
      refine sd_getL (pc := 37) (show sm_sq 18 = some (.inr 1) from rfl) rfl fl7_223 d7_ended_37 (fun v4 => ?_)
      refine sd_cVV (k2 := k7_fraction) (As := [.long v3, .long v4]) (rest := []) (b := 3) (ci := 6) (pc := 40) 226 (show sm_sq 3 = some (.inr 6) from rfl) (by decide) rfl d7_ended_40 ml7_226 (ms7_fraction).1 (ms7_fraction).2 (me7_fraction) ⟨rfl, rfl⟩ ⟨Nat.le_of_ble_eq_true rfl, Nat.le_of_ble_eq_true rfl⟩ (Nat.le_of_ble_eq_true rfl) (Nat.le_of_ble_eq_true rfl) rfl (Nat.zero_le _) (Nat.zero_le _) rfl (s7_fraction F v3 v4 S) (fun S => ?_)
      refine sd_iconst (pc := 43) 1 d7_ended_43 ci_1 ?_
      exact sd_iret (pc := 44) d7_ended_44 rfl (Nat.zero_le _) (Nat.zero_le _)
    · refine sd_iload_n (pc := 21) d7_ended_21 rfl ?_
      exact sd_iret (pc := 22) d7_ended_22 rfl (Nat.zero_le _) (Nat.zero_le _)
set_option maxHeartbeats 4000000 in
set_option maxRecDepth 20000 in
theorem s8_ended_94 {N : Nat} (F : Nat) (l3 : Int64) (S : sm_t) : sm_S (sm_jI N) k8_ended 0 0 94 [some (.ref 52), none, none, some (.long l3), none, none] [] (sm_m N S) (x8_ended_94 F l3 S) := by
  unfold x8_ended_94
  refine sd_aload_n (pc := 94) d8_ended_94 rfl ?_
  refine sd_lload_n (pc := 95) d8_ended_95 rfl ?_
  refine sd_aload_n (pc := 96) d8_ended_96 rfl ?_
  refine sd_getL (pc := 97) (show sm_sq 52 = some (.inr 7) from rfl) rfl fl8_222 d8_ended_97 (fun v1 => ?_)
  refine sd_iconst (pc := 100) 1 d8_ended_100 ci_1 ?_
  refine sd_cVI (k2 := k8_part) (As := [.long l3, .long v1, .int 1]) (rest := []) (b := 52) (ci := 7) (pc := 101) 247 (show sm_sq 52 = some (.inr 7) from rfl) (by decide) rfl d8_ended_101 ml8_247 (ms8_part).1 (ms8_part).2 (me8_part) ⟨rfl, rfl⟩ ⟨Nat.le_of_ble_eq_true rfl, Nat.le_of_ble_eq_true rfl⟩ (Nat.le_of_ble_eq_true rfl) (Nat.le_of_ble_eq_true rfl) (Or.inl rfl) (Nat.zero_le _) (Nat.zero_le _) rfl (s8_part F l3 v1 1 S) (fun v2 S => ?_)
  exact sd_iret (pc := 104) d8_ended_104 rfl (Nat.zero_le _) (Nat.zero_le _)
set_option maxHeartbeats 4000000 in
set_option maxRecDepth 20000 in
theorem s8_ended_29 {N : Nat} (F : Nat) : ∀ (f : Nat) (l1 : Int32) (l3 : Int64) (l5 : Int32) (S : sm_t), sm_S (sm_jI N) k8_ended 0 0 29 [some (.ref 52), some (.int l1), none, some (.long l3), none, some (.int l5)] [] (sm_m N S) (x8_ended_29 F f l1 l3 l5 S) := by
  intro f
  induction f with
  | zero =>
    intro l1 l3 l5 S
    exact sd_none
  | succ f ih =>
    intro l1 l3 l5 S
    rw [x8_ended_29]
    refine sd_iload (pc := 29) d8_ended_29 rfl ?_
    refine sd_bipush (pc := 31) 120 d8_ended_31 cb_120 ?_
    refine sd_ic_ge (pc := 33) 94 d8_ended_33 (by decide) (fun _ => ?_) (fun _ => ?_)
    · exact sd_fg [true, false, true, true, true, false] rfl (s8_ended_94 F l3 S)
    · refine sd_iload_n (pc := 36) d8_ended_36 rfl ?_
      refine sd_aload_n (pc := 37) d8_ended_37 rfl ?_
      refine sd_cVI (k2 := k8_hours) (As := []) (rest := [.int l1]) (b := 52) (ci := 7) (pc := 38) 129 (show sm_sq 52 = some (.inr 7) from rfl) (by decide) rfl d8_ended_38 ml8_129 (ms8_hours).1 (ms8_hours).2 (me8_hours) ⟨rfl, rfl⟩ ⟨Nat.le_of_ble_eq_true rfl, Nat.le_of_ble_eq_true rfl⟩ (Nat.le_of_ble_eq_true rfl) (Nat.le_of_ble_eq_true rfl) (Or.inl rfl) (Nat.zero_le _) (Nat.zero_le _) rfl (s8_hours F S) (fun v1 S => ?_)
      refine sd_ic_gt (pc := 41) 94 d8_ended_41 (by decide) (fun _ => ?_) (fun _ => ?_)
      · exact sd_fg [true, false, true, true, true, false] rfl (s8_ended_94 F l3 S)
      · refine sd_lload_n (pc := 44) d8_ended_44 rfl ?_
        refine sd_aload_n (pc := 45) d8_ended_45 rfl ?_
        refine sd_getR (pc := 46) 64 (show sm_sq 52 = some (.inr 7) from rfl) rfl fl8_52 rfl d8_ended_46 ?_
        refine sd_bipush (pc := 49) 120 d8_ended_49 cb_120 ?_
        refine sd_iload_n (pc := 51) d8_ended_51 rfl ?_
        refine sd_imul (pc := 52) d8_ended_52 ?_
        refine sd_iload (pc := 53) d8_ended_53 rfl ?_
        refine sd_iadd (pc := 55) d8_ended_55 ?_
        refine sd_lald (pc := 56) (show sm_sq 64 = some (.inl (.long, 840)) from rfl) d8_ended_56 (fun v2 => ?_)
        refine sd_lconst (pc := 57) 0 d8_ended_57 rfl ?_
        refine sd_lc_ne (pc := 58) 66 d8_ended_58 d8_ended_59 (by decide) (fun _ => ?_) (fun _ => ?_)
        · refine sd_lconst (pc := 62) 0 d8_ended_62 rfl ?_
          refine sd_goto (pc := 63) 86 d8_ended_63 (by decide) ?_
          refine sd_ladd (pc := 86) d8_ended_86 ?_
          refine sd_nl (fun v3 => ?_)
          refine sd_lstore_n (lf2 := [some (.ref 52), some (.int l1), none, some (.long v3), none, some (.int l5)]) (pc := 87) d8_ended_87 (Nat.le_of_ble_eq_true rfl) rfl ?_
          refine sd_iinc (lf2 := [some (.ref 52), some (.int l1), none, some (.long v3), none, some (.int (l5 + 1))]) (pc := 88) d8_ended_88 (Nat.le_of_ble_eq_true rfl) rfl ci_1 rfl ?_
          refine sd_goto (pc := 91) 29 d8_ended_91 (by decide) ?_
          exact ih l1 v3 (l5 + 1) S
        · refine sd_aload_n (pc := 66) d8_ended_66 rfl ?_
          refine sd_getR (pc := 67) 64 (show sm_sq 52 = some (.inr 7) from rfl) rfl fl8_52 rfl d8_ended_67 ?_
          refine sd_bipush (pc := 70) 120 d8_ended_70 cb_120 ?_
          refine sd_iload_n (pc := 72) d8_ended_72 rfl ?_
          refine sd_imul (pc := 73) d8_ended_73 ?_
          refine sd_iload (pc := 74) d8_ended_74 rfl ?_
          refine sd_iadd (pc := 76) d8_ended_76 ?_
          refine sd_lald (pc := 77) (show sm_sq 64 = some (.inl (.long, 840)) from rfl) d8_ended_77 (fun v4 => ?_)
          refine sd_aload_n (pc := 78) d8_ended_78 rfl ?_
          refine sd_iload_n (pc := 79) d8_ended_79 rfl ?_
          refine sd_iload (pc := 80) d8_ended_80 rfl ?_
          refine sd_cVL (k2 := k8_endWeight) (As := [.int l1, .int l5]) (rest := [.long v4, .long l3]) (b := 52) (ci := 7) (pc := 82) 219 (show sm_sq 52 = some (.inr 7) from rfl) (by decide) rfl d8_ended_82 ml8_219 (ms8_endWeight).1 (ms8_endWeight).2 (me8_endWeight) ⟨rfl, rfl⟩ ⟨Nat.le_of_ble_eq_true rfl, Nat.le_of_ble_eq_true rfl⟩ (Nat.le_of_ble_eq_true rfl) (Nat.le_of_ble_eq_true rfl) rfl (Nat.zero_le _) (Nat.zero_le _) rfl (s8_endWeight F l1 l5 S) (fun v5 S => ?_)
          refine sd_lmul (pc := 85) d8_ended_85 ?_
          refine sd_ladd (pc := 86) d8_ended_86 ?_
          refine sd_nl (fun v6 => ?_)
          refine sd_lstore_n (lf2 := [some (.ref 52), some (.int l1), none, some (.long v6), none, some (.int l5)]) (pc := 87) d8_ended_87 (Nat.le_of_ble_eq_true rfl) rfl ?_
          refine sd_iinc (lf2 := [some (.ref 52), some (.int l1), none, some (.long v6), none, some (.int (l5 + 1))]) (pc := 88) d8_ended_88 (Nat.le_of_ble_eq_true rfl) rfl ci_1 rfl ?_
          refine sd_goto (pc := 91) 29 d8_ended_91 (by decide) ?_
          exact ih l1 v6 (l5 + 1) S
set_option maxHeartbeats 4000000 in
set_option maxRecDepth 20000 in
theorem s8_ended {N : Nat} (F : Nat) (l1 : Int32) (S : sm_t) : sm_P (sm_jI N) k8_ended [.ref 52, .int l1] (sm_m N S) (x8_ended F l1 S) := by
  show sm_S (sm_jI N) k8_ended 0 0 0 [some (.ref 52), some (.int l1), none, none, none, none] [] (sm_m N S) (x8_ended F l1 S)
  unfold x8_ended
  refine sd_iload_n (pc := 0) d8_ended_0 rfl ?_
  refine sd_iconst (pc := 1) 0 d8_ended_1 ci_0 ?_
  refine sd_bipush (pc := 2) 6 d8_ended_2 cb_6 ?_
  refine sd_cSI (k2 := k8_in) (As := [.int l1, .int 0, .int 6]) (rest := []) (pc := 4) 80 d8_ended_4 ml8_80 (ms8_in) (me8_in) ⟨rfl, rfl⟩ ⟨Nat.le_of_ble_eq_true rfl, Nat.le_of_ble_eq_true rfl⟩ (Nat.le_of_ble_eq_true rfl) (Nat.le_of_ble_eq_true rfl) (Or.inr rfl) (Nat.zero_le _) (Nat.zero_le _) rfl (s8_in F l1 0 6 S) (fun v1 S => ?_)
  refine sd_if_ne (pc := 7) 12 d8_ended_7 (by decide) (fun _ => ?_) (fun _ => ?_)
  · refine sd_iconst (pc := 10) (-1) d8_ended_10 ci_m1 ?_
    exact sd_iret (pc := 11) d8_ended_11 rfl (Nat.zero_le _) (Nat.zero_le _)
  · refine sd_aload_n (pc := 12) d8_ended_12 rfl ?_
    refine sd_iconst (pc := 13) 0 d8_ended_13 ci_0 ?_
    refine sd_cVI (k2 := k8_weigh) (As := [.int 0]) (rest := []) (b := 52) (ci := 7) (pc := 14) 244 (show sm_sq 52 = some (.inr 7) from rfl) (by decide) rfl d8_ended_14 ml8_244 (ms8_weigh).1 (ms8_weigh).2 (me8_weigh) ⟨rfl, rfl⟩ ⟨Nat.le_of_ble_eq_true rfl, Nat.le_of_ble_eq_true rfl⟩ (Nat.le_of_ble_eq_true rfl) (Nat.le_of_ble_eq_true rfl) (Or.inl rfl) (Nat.zero_le _) (Nat.zero_le _) rfl (s8_weigh F 0 S) (fun v2 S => ?_)
    refine sd_istore_n (lf2 := [some (.ref 52), some (.int l1), some (.int v2), none, none, none]) (pc := 17) d8_ended_17 (Nat.le_of_ble_eq_true rfl) rfl ?_
    refine sd_iload_n (pc := 18) d8_ended_18 rfl ?_
    refine sd_if_ge (pc := 19) 24 d8_ended_19 (by decide) (fun _ => ?_) (fun _ => ?_)
    · refine sd_lconst (pc := 24) 0 d8_ended_24 rfl ?_
      refine sd_lstore_n (lf2 := [some (.ref 52), some (.int l1), some (.int v2), some (.long 0), none, none]) (pc := 25) d8_ended_25 (Nat.le_of_ble_eq_true rfl) rfl ?_
      refine sd_iconst (pc := 26) 0 d8_ended_26 ci_0 ?_
      refine sd_istore (lf2 := [some (.ref 52), some (.int l1), some (.int v2), some (.long 0), none, some (.int 0)]) (pc := 27) d8_ended_27 (Nat.le_of_ble_eq_true rfl) rfl ?_
      exact sd_fg [true, true, false, true, true, true] rfl (s8_ended_29 F F l1 0 0 S)
    · refine sd_iload_n (pc := 22) d8_ended_22 rfl ?_
      exact sd_iret (pc := 23) d8_ended_23 rfl (Nat.zero_le _) (Nat.zero_le _)
set_option maxHeartbeats 4000000 in
set_option maxRecDepth 20000 in
theorem s7_falls {N : Nat} (F : Nat) (l1 : Int32) (l2 : Int32) (l3 : Int32) (S : sm_t) : sm_P (sm_jI N) k7_falls [.ref 3, .int l1, .int l2, .int l3] (sm_m N S) (x7_falls F l1 l2 l3 S) := by
  show sm_S (sm_jI N) k7_falls 0 0 0 [some (.ref 3), some (.int l1), some (.int l2), some (.int l3), none, none, none, none, none, none, none, none, none] [] (sm_m N S) (x7_falls F l1 l2 l3 S)
  unfold x7_falls
  refine sd_iload_n (pc := 0) d7_falls_0 rfl ?_
  refine sd_cSI (k2 := k7_isStory) (As := [.int l1]) (rest := []) (pc := 1) 214 d7_falls_1 ml7_214 (ms7_isStory) (me7_isStory) ⟨rfl, rfl⟩ ⟨Nat.le_of_ble_eq_true rfl, Nat.le_of_ble_eq_true rfl⟩ (Nat.le_of_ble_eq_true rfl) (Nat.le_of_ble_eq_true rfl) (Or.inr rfl) (Nat.zero_le _) (Nat.zero_le _) rfl (s7_isStory F l1 S) (fun v1 S => ?_)
  refine sd_if_eq (pc := 4) 25 d7_falls_4 (by decide) (fun _ => ?_) (fun _ => ?_)
  · refine sd_iconst (pc := 25) (-1) d7_falls_25 ci_m1 ?_
    exact sd_iret (pc := 26) d7_falls_26 rfl (Nat.zero_le _) (Nat.zero_le _)
  · refine sd_aload_n (pc := 7) d7_falls_7 rfl ?_
    refine sd_getR (pc := 8) 22 (show sm_sq 3 = some (.inr 6) from rfl) rfl fl7_42 rfl d7_falls_8 ?_
    refine sd_iload_n (pc := 11) d7_falls_11 rfl ?_
    refine sd_cVI (k2 := k0_has) (As := [.int l2]) (rest := []) (b := 22) (ci := 0) (pc := 12) 184 (show sm_sq 22 = some (.inr 0) from rfl) (by decide) rfl d7_falls_12 ml7_184 (ms0_has).1 (ms0_has).2 (me0_has) ⟨rfl, rfl⟩ ⟨Nat.le_of_ble_eq_true rfl, Nat.le_of_ble_eq_true rfl⟩ (Nat.le_of_ble_eq_true rfl) (Nat.le_of_ble_eq_true rfl) (Or.inr rfl) (Nat.zero_le _) (Nat.zero_le _) rfl (s0_has F l2 S) (fun v2 S => ?_)
    refine sd_if_eq (pc := 15) 25 d7_falls_15 (by decide) (fun _ => ?_) (fun _ => ?_)
    · refine sd_iconst (pc := 25) (-1) d7_falls_25 ci_m1 ?_
      exact sd_iret (pc := 26) d7_falls_26 rfl (Nat.zero_le _) (Nat.zero_le _)
    · refine sd_iload_n (pc := 18) d7_falls_18 rfl ?_
      refine sd_cSI (k2 := k1_isCell) (As := [.int l3]) (rest := []) (pc := 19) 120 d7_falls_19 ml7_120 (ms1_isCell) (me1_isCell) ⟨rfl, rfl⟩ ⟨Nat.le_of_ble_eq_true rfl, Nat.le_of_ble_eq_true rfl⟩ (Nat.le_of_ble_eq_true rfl) (Nat.le_of_ble_eq_true rfl) (Or.inr rfl) (Nat.zero_le _) (Nat.zero_le _) rfl (s1_isCell F l3 S) (fun v3 S => ?_)
      refine sd_if_ne (pc := 22) 27 d7_falls_22 (by decide) (fun _ => ?_) (fun _ => ?_)
      · refine sd_iconst (pc := 25) (-1) d7_falls_25 ci_m1 ?_
        exact sd_iret (pc := 26) d7_falls_26 rfl (Nat.zero_le _) (Nat.zero_le _)
      · refine sd_aload_n (pc := 27) d7_falls_27 rfl ?_
        refine sd_iload_n (pc := 28) d7_falls_28 rfl ?_
        refine sd_iconst (pc := 29) 3 d7_falls_29 ci_3 ?_
        refine sd_cVI (k2 := k7_barred) (As := [.int l1, .int 3]) (rest := []) (b := 3) (ci := 6) (pc := 30) 241 (show sm_sq 3 = some (.inr 6) from rfl) (by decide) rfl d7_falls_30 ml7_241 (ms7_barred).1 (ms7_barred).2 (me7_barred) ⟨rfl, rfl⟩ ⟨Nat.le_of_ble_eq_true rfl, Nat.le_of_ble_eq_true rfl⟩ (Nat.le_of_ble_eq_true rfl) (Nat.le_of_ble_eq_true rfl) (Or.inl rfl) (Nat.zero_le _) (Nat.zero_le _) rfl (s7_barred F l1 3 S) (fun v4 S => ?_)
        refine sd_istore (lf2 := [some (.ref 3), some (.int l1), some (.int l2), some (.int l3), some (.int v4), none, none, none, none, none, none, none, none]) (pc := 33) d7_falls_33 (Nat.le_of_ble_eq_true rfl) rfl ?_
        refine sd_iload (pc := 35) d7_falls_35 rfl ?_
        refine sd_if_eq (pc := 37) 43 d7_falls_37 (by decide) (fun _ => ?_) (fun _ => ?_)
        · refine sd_aload_n (pc := 43) d7_falls_43 rfl ?_
          refine sd_getR (pc := 44) 18 (show sm_sq 3 = some (.inr 6) from rfl) rfl fl7_29 rfl d7_falls_44 ?_
          refine sd_iload_n (pc := 47) d7_falls_47 rfl ?_
          refine sd_bipush (pc := 48) (-9) d7_falls_48 cb_m9 ?_
          refine sd_cVL (k2 := k2_weigh) (As := [.int l1, .int (-9)]) (rest := []) (b := 18) (ci := 1) (pc := 50) 244 (show sm_sq 18 = some (.inr 1) from rfl) (by decide) rfl d7_falls_50 ml7_244 (ms2_weigh).1 (ms2_weigh).2 (me2_weigh) ⟨rfl, rfl⟩ ⟨Nat.le_of_ble_eq_true rfl, Nat.le_of_ble_eq_true rfl⟩ (Nat.le_of_ble_eq_true rfl) (Nat.le_of_ble_eq_true rfl) rfl (Nat.zero_le _) (Nat.zero_le _) rfl (s2_weigh F l1 (-9) S) (fun v5 S => ?_)
          refine sd_lstore (lf2 := [some (.ref 3), some (.int l1), some (.int l2), some (.int l3), some (.int v4), some (.long v5), none, none, none, none, none, none, none]) (pc := 53) d7_falls_53 (Nat.le_of_ble_eq_true rfl) rfl ?_
          refine sd_aload_n (pc := 55) d7_falls_55 rfl ?_
          refine sd_getR (pc := 56) 18 (show sm_sq 3 = some (.inr 6) from rfl) rfl fl7_29 rfl d7_falls_56 ?_
          refine sd_getR (pc := 59) 40 (show sm_sq 18 = some (.inr 1) from rfl) rfl fl7_220 rfl d7_falls_59 ?_
          refine sd_iload_n (pc := 62) d7_falls_62 rfl ?_
          refine sd_lald (pc := 63) (show sm_sq 40 = some (.inl (.long, 120)) from rfl) d7_falls_63 (fun v6 => ?_)
          refine sd_lstore (lf2 := [some (.ref 3), some (.int l1), some (.int l2), some (.int l3), some (.int v4), some (.long v5), none, some (.long v6), none, none, none, none, none]) (pc := 64) d7_falls_64 (Nat.le_of_ble_eq_true rfl) rfl ?_
          refine sd_aload_n (pc := 66) d7_falls_66 rfl ?_
          refine sd_getR (pc := 67) 18 (show sm_sq 3 = some (.inr 6) from rfl) rfl fl7_29 rfl d7_falls_67 ?_
          refine sd_iload_n (pc := 70) d7_falls_70 rfl ?_
          refine sd_iload_n (pc := 71) d7_falls_71 rfl ?_
          refine sd_cVL (k2 := k2_weigh) (As := [.int l1, .int l2]) (rest := []) (b := 18) (ci := 1) (pc := 72) 244 (show sm_sq 18 = some (.inr 1) from rfl) (by decide) rfl d7_falls_72 ml7_244 (ms2_weigh).1 (ms2_weigh).2 (me2_weigh) ⟨rfl, rfl⟩ ⟨Nat.le_of_ble_eq_true rfl, Nat.le_of_ble_eq_true rfl⟩ (Nat.le_of_ble_eq_true rfl) (Nat.le_of_ble_eq_true rfl) rfl (Nat.zero_le _) (Nat.zero_le _) rfl (s2_weigh F l1 l2 S) (fun v7 S => ?_)
          refine sd_lstore (lf2 := [some (.ref 3), some (.int l1), some (.int l2), some (.int l3), some (.int v4), some (.long v5), none, some (.long v6), none, some (.long v7), none, none, none]) (pc := 75) d7_falls_75 (Nat.le_of_ble_eq_true rfl) rfl ?_
          refine sd_aload_n (pc := 77) d7_falls_77 rfl ?_
          refine sd_getR (pc := 78) 18 (show sm_sq 3 = some (.inr 6) from rfl) rfl fl7_29 rfl d7_falls_78 ?_
          refine sd_getR (pc := 81) 40 (show sm_sq 18 = some (.inr 1) from rfl) rfl fl7_220 rfl d7_falls_81 ?_
          refine sd_iload_n (pc := 84) d7_falls_84 rfl ?_
          refine sd_lald (pc := 85) (show sm_sq 40 = some (.inl (.long, 120)) from rfl) d7_falls_85 (fun v8 => ?_)
          refine sd_lstore (lf2 := [some (.ref 3), some (.int l1), some (.int l2), some (.int l3), some (.int v4), some (.long v5), none, some (.long v6), none, some (.long v7), none, some (.long v8), none]) (pc := 86) d7_falls_86 (Nat.le_of_ble_eq_true rfl) rfl ?_
          refine sd_lload (pc := 88) d7_falls_88 rfl ?_
          refine sd_lconst (pc := 90) 0 d7_falls_90 rfl ?_
          refine sd_lc_le (pc := 91) 102 d7_falls_91 d7_falls_92 (by decide) (fun _ => ?_) (fun _ => ?_)
          · refine sd_aload_n (pc := 102) d7_falls_102 rfl ?_
            refine sd_iconst (pc := 103) 4 d7_falls_103 ci_4 ?_
            refine sd_cVI (k2 := k7_found) (As := [.int 4]) (rest := []) (b := 3) (ci := 6) (pc := 104) 92 (show sm_sq 3 = some (.inr 6) from rfl) (by decide) rfl d7_falls_104 ml7_92 (ms7_found).1 (ms7_found).2 (me7_found) ⟨rfl, rfl⟩ ⟨Nat.le_of_ble_eq_true rfl, Nat.le_of_ble_eq_true rfl⟩ (Nat.le_of_ble_eq_true rfl) (Nat.le_of_ble_eq_true rfl) (Or.inl rfl) (Nat.zero_le _) (Nat.zero_le _) rfl (s7_found F 4 S) (fun v9 S => ?_)
            exact sd_iret (pc := 107) d7_falls_107 rfl (Nat.zero_le _) (Nat.zero_le _)
          · refine sd_lload (pc := 95) d7_falls_95 rfl ?_
            refine sd_lconst (pc := 97) 0 d7_falls_97 rfl ?_
            refine sd_lc_gt (pc := 98) 108 d7_falls_98 d7_falls_99 (by decide) (fun _ => ?_) (fun _ => ?_)
            · refine sd_aload_n (pc := 108) d7_falls_108 rfl ?_
              refine sd_lload (pc := 109) d7_falls_109 rfl ?_
              refine sd_lload (pc := 111) d7_falls_111 rfl ?_
              refine sd_lmul (pc := 113) d7_falls_113 ?_
              refine sd_lload (pc := 114) d7_falls_114 rfl ?_
              refine sd_lload (pc := 116) d7_falls_116 rfl ?_
              refine sd_lmul (pc := 118) d7_falls_118 ?_
              refine sd_lsub (pc := 119) d7_falls_119 ?_
              refine sd_lload (pc := 120) d7_falls_120 rfl ?_
              refine sd_lload (pc := 122) d7_falls_122 rfl ?_
              refine sd_lmul (pc := 124) d7_falls_124 ?_
              refine sd_cVV (k2 := k7_fraction) (As := [.long ((v6 * v7) - (v8 * v5)), .long (v5 * v7)]) (rest := []) (b := 3) (ci := 6) (pc := 125) 226 (show sm_sq 3 = some (.inr 6) from rfl) (by decide) rfl d7_falls_125 ml7_226 (ms7_fraction).1 (ms7_fraction).2 (me7_fraction) ⟨rfl, rfl⟩ ⟨Nat.le_of_ble_eq_true rfl, Nat.le_of_ble_eq_true rfl⟩ (Nat.le_of_ble_eq_true rfl) (Nat.le_of_ble_eq_true rfl) rfl (Nat.zero_le _) (Nat.zero_le _) rfl (s7_fraction F ((v6 * v7) - (v8 * v5)) (v5 * v7) S) (fun S => ?_)
              refine sd_iconst (pc := 128) 1 d7_falls_128 ci_1 ?_
              exact sd_iret (pc := 129) d7_falls_129 rfl (Nat.zero_le _) (Nat.zero_le _)
            · refine sd_aload_n (pc := 102) d7_falls_102 rfl ?_
              refine sd_iconst (pc := 103) 4 d7_falls_103 ci_4 ?_
              refine sd_cVI (k2 := k7_found) (As := [.int 4]) (rest := []) (b := 3) (ci := 6) (pc := 104) 92 (show sm_sq 3 = some (.inr 6) from rfl) (by decide) rfl d7_falls_104 ml7_92 (ms7_found).1 (ms7_found).2 (me7_found) ⟨rfl, rfl⟩ ⟨Nat.le_of_ble_eq_true rfl, Nat.le_of_ble_eq_true rfl⟩ (Nat.le_of_ble_eq_true rfl) (Nat.le_of_ble_eq_true rfl) (Or.inl rfl) (Nat.zero_le _) (Nat.zero_le _) rfl (s7_found F 4 S) (fun v11 S => ?_)
              exact sd_iret (pc := 107) d7_falls_107 rfl (Nat.zero_le _) (Nat.zero_le _)
        · refine sd_iload (pc := 40) d7_falls_40 rfl ?_
          exact sd_iret (pc := 42) d7_falls_42 rfl (Nat.zero_le _) (Nat.zero_le _)
set_option maxHeartbeats 4000000 in
set_option maxRecDepth 20000 in
theorem s8_falls {N : Nat} (F : Nat) (l1 : Int32) (l2 : Int32) (l3 : Int32) (S : sm_t) : sm_P (sm_jI N) k8_falls [.ref 52, .int l1, .int l2, .int l3] (sm_m N S) (x8_falls F l1 l2 l3 S) := by
  show sm_S (sm_jI N) k8_falls 0 0 0 [some (.ref 52), some (.int l1), some (.int l2), some (.int l3), none, none, none, none, none] [] (sm_m N S) (x8_falls F l1 l2 l3 S)
  unfold x8_falls
  refine sd_aload_n (pc := 0) d8_falls_0 rfl ?_
  refine sd_iload_n (pc := 1) d8_falls_1 rfl ?_
  refine sd_cVI (k2 := k8_isSign) (As := [.int l2]) (rest := []) (b := 52) (ci := 7) (pc := 2) 172 (show sm_sq 52 = some (.inr 7) from rfl) (by decide) rfl d8_falls_2 ml8_172 (ms8_isSign).1 (ms8_isSign).2 (me8_isSign) ⟨rfl, rfl⟩ ⟨Nat.le_of_ble_eq_true rfl, Nat.le_of_ble_eq_true rfl⟩ (Nat.le_of_ble_eq_true rfl) (Nat.le_of_ble_eq_true rfl) (Or.inr rfl) (Nat.zero_le _) (Nat.zero_le _) rfl (s8_isSign F l2 S) (fun v1 S => ?_)
  refine sd_if_eq (pc := 5) 24 d8_falls_5 (by decide) (fun _ => ?_) (fun _ => ?_)
  · refine sd_iconst (pc := 24) (-1) d8_falls_24 ci_m1 ?_
    exact sd_iret (pc := 25) d8_falls_25 rfl (Nat.zero_le _) (Nat.zero_le _)
  · refine sd_iload_n (pc := 8) d8_falls_8 rfl ?_
    refine sd_cSI (k2 := k8_isCell) (As := [.int l3]) (rest := []) (pc := 9) 117 d8_falls_9 ml8_117 (ms8_isCell) (me8_isCell) ⟨rfl, rfl⟩ ⟨Nat.le_of_ble_eq_true rfl, Nat.le_of_ble_eq_true rfl⟩ (Nat.le_of_ble_eq_true rfl) (Nat.le_of_ble_eq_true rfl) (Or.inr rfl) (Nat.zero_le _) (Nat.zero_le _) rfl (s8_isCell F l3 S) (fun v2 S => ?_)
    refine sd_if_eq (pc := 12) 24 d8_falls_12 (by decide) (fun _ => ?_) (fun _ => ?_)
    · refine sd_iconst (pc := 24) (-1) d8_falls_24 ci_m1 ?_
      exact sd_iret (pc := 25) d8_falls_25 rfl (Nat.zero_le _) (Nat.zero_le _)
    · refine sd_iload_n (pc := 15) d8_falls_15 rfl ?_
      refine sd_iconst (pc := 16) 0 d8_falls_16 ci_0 ?_
      refine sd_iconst (pc := 17) 3 d8_falls_17 ci_3 ?_
      refine sd_cSI (k2 := k8_in) (As := [.int l1, .int 0, .int 3]) (rest := []) (pc := 18) 80 d8_falls_18 ml8_80 (ms8_in) (me8_in) ⟨rfl, rfl⟩ ⟨Nat.le_of_ble_eq_true rfl, Nat.le_of_ble_eq_true rfl⟩ (Nat.le_of_ble_eq_true rfl) (Nat.le_of_ble_eq_true rfl) (Or.inr rfl) (Nat.zero_le _) (Nat.zero_le _) rfl (s8_in F l1 0 3 S) (fun v3 S => ?_)
      refine sd_if_ne (pc := 21) 26 d8_falls_21 (by decide) (fun _ => ?_) (fun _ => ?_)
      · refine sd_iconst (pc := 24) (-1) d8_falls_24 ci_m1 ?_
        exact sd_iret (pc := 25) d8_falls_25 rfl (Nat.zero_le _) (Nat.zero_le _)
      · refine sd_aload_n (pc := 26) d8_falls_26 rfl ?_
        refine sd_iload_n (pc := 27) d8_falls_27 rfl ?_
        refine sd_cVI (k2 := k8_askedStory) (As := [.int l1]) (rest := []) (b := 52) (ci := 7) (pc := 28) 234 (show sm_sq 52 = some (.inr 7) from rfl) (by decide) rfl d8_falls_28 ml8_234 (ms8_askedStory).1 (ms8_askedStory).2 (me8_askedStory) ⟨rfl, rfl⟩ ⟨Nat.le_of_ble_eq_true rfl, Nat.le_of_ble_eq_true rfl⟩ (Nat.le_of_ble_eq_true rfl) (Nat.le_of_ble_eq_true rfl) (Or.inl rfl) (Nat.zero_le _) (Nat.zero_le _) rfl (s8_askedStory F l1 S) (fun v4 S => ?_)
        refine sd_istore (lf2 := [some (.ref 52), some (.int l1), some (.int l2), some (.int l3), some (.int v4), none, none, none, none]) (pc := 31) d8_falls_31 (Nat.le_of_ble_eq_true rfl) rfl ?_
        refine sd_iload (pc := 33) d8_falls_33 rfl ?_
        refine sd_if_ge (pc := 35) 41 d8_falls_35 (by decide) (fun _ => ?_) (fun _ => ?_)
        · refine sd_aload_n (pc := 41) d8_falls_41 rfl ?_
          refine sd_cVI (k2 := k8_counted) (As := []) (rest := []) (b := 52) (ci := 7) (pc := 42) 237 (show sm_sq 52 = some (.inr 7) from rfl) (by decide) rfl d8_falls_42 ml8_237 (ms8_counted).1 (ms8_counted).2 (me8_counted) ⟨rfl, rfl⟩ ⟨Nat.le_of_ble_eq_true rfl, Nat.le_of_ble_eq_true rfl⟩ (Nat.le_of_ble_eq_true rfl) (Nat.le_of_ble_eq_true rfl) (Or.inl rfl) (Nat.zero_le _) (Nat.zero_le _) rfl (s8_counted F S) (fun v5 S => ?_)
          refine sd_iconst (pc := 45) 3 d8_falls_45 ci_3 ?_
          refine sd_ic_le (pc := 46) 52 d8_falls_46 (by decide) (fun _ => ?_) (fun _ => ?_)
          · refine sd_aload_n (pc := 52) d8_falls_52 rfl ?_
            refine sd_iload_n (pc := 53) d8_falls_53 rfl ?_
            refine sd_cVV (k2 := k8_setEnding) (As := [.int l1]) (rest := []) (b := 52) (ci := 7) (pc := 54) 240 (show sm_sq 52 = some (.inr 7) from rfl) (by decide) rfl d8_falls_54 ml8_240 (ms8_setEnding).1 (ms8_setEnding).2 (me8_setEnding) ⟨rfl, rfl⟩ ⟨Nat.le_of_ble_eq_true rfl, Nat.le_of_ble_eq_true rfl⟩ (Nat.le_of_ble_eq_true rfl) (Nat.le_of_ble_eq_true rfl) rfl (Nat.zero_le _) (Nat.zero_le _) rfl (s8_setEnding F l1 S) (fun S => ?_)
            refine sd_aload_n (pc := 57) d8_falls_57 rfl ?_
            refine sd_getR (pc := 58) 66 (show sm_sq 52 = some (.inr 7) from rfl) rfl fl8_59 rfl d8_falls_58 ?_
            refine sd_iload_n (pc := 61) d8_falls_61 rfl ?_
            refine sd_lald (pc := 62) (show sm_sq 66 = some (.inl (.long, 120)) from rfl) d8_falls_62 (fun v7 => ?_)
            refine sd_lstore (lf2 := [some (.ref 52), some (.int l1), some (.int l2), some (.int l3), some (.int v4), some (.long v7), none, none, none]) (pc := 63) d8_falls_63 (Nat.le_of_ble_eq_true rfl) rfl ?_
            refine sd_aload_n (pc := 65) d8_falls_65 rfl ?_
            refine sd_getL (pc := 66) (show sm_sq 52 = some (.inr 7) from rfl) rfl fl8_222 d8_falls_66 (fun v8 => ?_)
            refine sd_lstore (lf2 := [some (.ref 52), some (.int l1), some (.int l2), some (.int l3), some (.int v4), some (.long v7), none, some (.long v8), none]) (pc := 69) d8_falls_69 (Nat.le_of_ble_eq_true rfl) rfl ?_
            refine sd_aload_n (pc := 71) d8_falls_71 rfl ?_
            refine sd_iload_n (pc := 72) d8_falls_72 rfl ?_
            refine sd_putI (pc := 73) (show sm_sq 52 = some (.inr 7) from rfl) rfl fl8_48 rfl d8_falls_73 (fun S => ?_)
            refine sd_aload_n (pc := 76) d8_falls_76 rfl ?_
            refine sd_iload_n (pc := 77) d8_falls_77 rfl ?_
            refine sd_cVV (k2 := k8_setEnding) (As := [.int l1]) (rest := []) (b := 52) (ci := 7) (pc := 78) 240 (show sm_sq 52 = some (.inr 7) from rfl) (by decide) rfl d8_falls_78 ml8_240 (ms8_setEnding).1 (ms8_setEnding).2 (me8_setEnding) ⟨rfl, rfl⟩ ⟨Nat.le_of_ble_eq_true rfl, Nat.le_of_ble_eq_true rfl⟩ (Nat.le_of_ble_eq_true rfl) (Nat.le_of_ble_eq_true rfl) rfl (Nat.zero_le _) (Nat.zero_le _) rfl (s8_setEnding F l1 S) (fun S => ?_)
            refine sd_aload_n (pc := 81) d8_falls_81 rfl ?_
            refine sd_bipush (pc := 82) (-9) d8_falls_82 cb_m9 ?_
            refine sd_putI (pc := 84) (show sm_sq 52 = some (.inr 7) from rfl) rfl fl8_48 rfl d8_falls_84 (fun S => ?_)
            refine sd_aload_n (pc := 87) d8_falls_87 rfl ?_
            refine sd_getL (pc := 88) (show sm_sq 52 = some (.inr 7) from rfl) rfl fl8_222 d8_falls_88 (fun v10 => ?_)
            refine sd_lconst (pc := 91) 0 d8_falls_91 rfl ?_
            refine sd_lc_eq (pc := 92) 103 d8_falls_92 d8_falls_93 (by decide) (fun _ => ?_) (fun _ => ?_)
            · refine sd_aload_n (pc := 103) d8_falls_103 rfl ?_
              refine sd_iconst (pc := 104) 4 d8_falls_104 ci_4 ?_
              refine sd_cVI (k2 := k8_meets) (As := [.int 4]) (rest := []) (b := 52) (ci := 7) (pc := 105) 88 (show sm_sq 52 = some (.inr 7) from rfl) (by decide) rfl d8_falls_105 ml8_88 (ms8_meets).1 (ms8_meets).2 (me8_meets) ⟨rfl, rfl⟩ ⟨Nat.le_of_ble_eq_true rfl, Nat.le_of_ble_eq_true rfl⟩ (Nat.le_of_ble_eq_true rfl) (Nat.le_of_ble_eq_true rfl) (Or.inl rfl) (Nat.zero_le _) (Nat.zero_le _) rfl (s8_meets F 4 S) (fun v11 S => ?_)
              refine sd_goto (pc := 108) 140 d8_falls_108 (by decide) ?_
              exact sd_iret (pc := 140) d8_falls_140 rfl (Nat.zero_le _) (Nat.zero_le _)
            · refine sd_lload (pc := 96) d8_falls_96 rfl ?_
              refine sd_lconst (pc := 98) 0 d8_falls_98 rfl ?_
              refine sd_lc_ne (pc := 99) 111 d8_falls_99 d8_falls_100 (by decide) (fun _ => ?_) (fun _ => ?_)
              · refine sd_aload_n (pc := 103) d8_falls_103 rfl ?_
                refine sd_iconst (pc := 104) 4 d8_falls_104 ci_4 ?_
                refine sd_cVI (k2 := k8_meets) (As := [.int 4]) (rest := []) (b := 52) (ci := 7) (pc := 105) 88 (show sm_sq 52 = some (.inr 7) from rfl) (by decide) rfl d8_falls_105 ml8_88 (ms8_meets).1 (ms8_meets).2 (me8_meets) ⟨rfl, rfl⟩ ⟨Nat.le_of_ble_eq_true rfl, Nat.le_of_ble_eq_true rfl⟩ (Nat.le_of_ble_eq_true rfl) (Nat.le_of_ble_eq_true rfl) (Or.inl rfl) (Nat.zero_le _) (Nat.zero_le _) rfl (s8_meets F 4 S) (fun v12 S => ?_)
                refine sd_goto (pc := 108) 140 d8_falls_108 (by decide) ?_
                exact sd_iret (pc := 140) d8_falls_140 rfl (Nat.zero_le _) (Nat.zero_le _)
              · refine sd_aload_n (pc := 111) d8_falls_111 rfl ?_
                refine sd_lload (pc := 112) d8_falls_112 rfl ?_
                refine sd_aload_n (pc := 114) d8_falls_114 rfl ?_
                refine sd_getL (pc := 115) (show sm_sq 52 = some (.inr 7) from rfl) rfl fl8_222 d8_falls_115 (fun v13 => ?_)
                refine sd_lmul (pc := 118) d8_falls_118 ?_
                refine sd_aload_n (pc := 119) d8_falls_119 rfl ?_
                refine sd_getR (pc := 120) 66 (show sm_sq 52 = some (.inr 7) from rfl) rfl fl8_59 rfl d8_falls_120 ?_
                refine sd_iload_n (pc := 123) d8_falls_123 rfl ?_
                refine sd_lald (pc := 124) (show sm_sq 66 = some (.inl (.long, 120)) from rfl) d8_falls_124 (fun v14 => ?_)
                refine sd_lload (pc := 125) d8_falls_125 rfl ?_
                refine sd_lmul (pc := 127) d8_falls_127 ?_
                refine sd_lsub (pc := 128) d8_falls_128 ?_
                refine sd_aload_n (pc := 129) d8_falls_129 rfl ?_
                refine sd_getL (pc := 130) (show sm_sq 52 = some (.inr 7) from rfl) rfl fl8_222 d8_falls_130 (fun v15 => ?_)
                refine sd_lload (pc := 133) d8_falls_133 rfl ?_
                refine sd_lmul (pc := 135) d8_falls_135 ?_
                refine sd_iconst (pc := 136) 1 d8_falls_136 ci_1 ?_
                refine sd_cVI (k2 := k8_part) (As := [.long ((v7 * v13) - (v14 * v8)), .long (v15 * v8), .int 1]) (rest := []) (b := 52) (ci := 7) (pc := 137) 247 (show sm_sq 52 = some (.inr 7) from rfl) (by decide) rfl d8_falls_137 ml8_247 (ms8_part).1 (ms8_part).2 (me8_part) ⟨rfl, rfl⟩ ⟨Nat.le_of_ble_eq_true rfl, Nat.le_of_ble_eq_true rfl⟩ (Nat.le_of_ble_eq_true rfl) (Nat.le_of_ble_eq_true rfl) (Or.inl rfl) (Nat.zero_le _) (Nat.zero_le _) rfl (s8_part F ((v7 * v13) - (v14 * v8)) (v15 * v8) 1 S) (fun v16 S => ?_)
                exact sd_iret (pc := 140) d8_falls_140 rfl (Nat.zero_le _) (Nat.zero_le _)
          · refine sd_bipush (pc := 49) (-6) d8_falls_49 cb_m6 ?_
            exact sd_iret (pc := 51) d8_falls_51 rfl (Nat.zero_le _) (Nat.zero_le _)
        · refine sd_iload (pc := 38) d8_falls_38 rfl ?_
          exact sd_iret (pc := 40) d8_falls_40 rfl (Nat.zero_le _) (Nat.zero_le _)
set_option maxHeartbeats 4000000 in
set_option maxRecDepth 20000 in
theorem s7_turns_112 {N : Nat} (F : Nat) (c57 : Int32 → Int32 → Int32 → Int32 → sm_t → Option (Int32 × sm_t)) (hc57 : ∀ (l1 : Int32) (l3 : Int32) (l4 : Int32) (l5 : Int32) (S : sm_t), sm_S (sm_jI N) k7_turns 0 0 57 [some (.ref 3), some (.int l1), none, some (.int l3), some (.int l4), some (.int l5), none] [] (sm_m N S) (c57 l1 l3 l4 l5 S)) (l1 : Int32) (l3 : Int32) (l4 : Int32) (l5 : Int32) (t0 : Int32) (S : sm_t) : sm_S (sm_jI N) k7_turns 0 0 112 [some (.ref 3), some (.int l1), none, some (.int l3), some (.int l4), some (.int l5), none] [.int t0] (sm_m N S) (x7_turns_112 F c57 l1 l3 l4 l5 t0 S) := by
  unfold x7_turns_112
  refine sd_istore (lf2 := [some (.ref 3), some (.int l1), none, some (.int l3), some (.int l4), some (.int l5), some (.int t0)]) (pc := 112) d7_turns_112 (Nat.le_of_ble_eq_true rfl) rfl ?_
  refine sd_iload (pc := 114) d7_turns_114 rfl ?_
  refine sd_iload (pc := 116) d7_turns_116 rfl ?_
  refine sd_iload_n (pc := 118) d7_turns_118 rfl ?_
  refine sd_ic_eq (pc := 119) 129 d7_turns_119 (by decide) (fun _ => ?_) (fun _ => ?_)
  · refine sd_iconst (pc := 129) 0 d7_turns_129 ci_0 ?_
    refine sd_ior (pc := 130) d7_turns_130 ?_
    refine sd_ni (fun v1 => ?_)
    refine sd_istore (lf2 := [some (.ref 3), some (.int l1), none, some (.int l3), some (.int v1), some (.int l5), some (.int t0)]) (pc := 131) d7_turns_131 (Nat.le_of_ble_eq_true rfl) rfl ?_
    refine sd_iinc (lf2 := [some (.ref 3), some (.int l1), none, some (.int l3), some (.int v1), some (.int (l5 + 1)), some (.int t0)]) (pc := 133) d7_turns_133 (Nat.le_of_ble_eq_true rfl) rfl ci_1 rfl ?_
    refine sd_goto (pc := 136) 57 d7_turns_136 (by decide) ?_
    exact sd_fg [true, true, true, true, true, true, false] rfl (hc57 l1 l3 v1 (l5 + 1) S)
  · refine sd_iconst (pc := 122) 1 d7_turns_122 ci_1 ?_
    refine sd_iload (pc := 123) d7_turns_123 rfl ?_
    refine sd_ishl (pc := 125) d7_turns_125 ?_
    refine sd_goto (pc := 126) 130 d7_turns_126 (by decide) ?_
    refine sd_ior (pc := 130) d7_turns_130 ?_
    refine sd_ni (fun v2 => ?_)
    refine sd_istore (lf2 := [some (.ref 3), some (.int l1), none, some (.int l3), some (.int v2), some (.int l5), some (.int t0)]) (pc := 131) d7_turns_131 (Nat.le_of_ble_eq_true rfl) rfl ?_
    refine sd_iinc (lf2 := [some (.ref 3), some (.int l1), none, some (.int l3), some (.int v2), some (.int (l5 + 1)), some (.int t0)]) (pc := 133) d7_turns_133 (Nat.le_of_ble_eq_true rfl) rfl ci_1 rfl ?_
    refine sd_goto (pc := 136) 57 d7_turns_136 (by decide) ?_
    exact sd_fg [true, true, true, true, true, true, false] rfl (hc57 l1 l3 v2 (l5 + 1) S)
set_option maxHeartbeats 4000000 in
set_option maxRecDepth 20000 in
theorem s7_turns_57 {N : Nat} (F : Nat) : ∀ (f : Nat) (l1 : Int32) (l3 : Int32) (l4 : Int32) (l5 : Int32) (S : sm_t), sm_S (sm_jI N) k7_turns 0 0 57 [some (.ref 3), some (.int l1), none, some (.int l3), some (.int l4), some (.int l5), none] [] (sm_m N S) (x7_turns_57 F f l1 l3 l4 l5 S) := by
  intro f
  induction f with
  | zero =>
    intro l1 l3 l4 l5 S
    exact sd_none
  | succ f ih =>
    intro l1 l3 l4 l5 S
    rw [x7_turns_57]
    refine sd_iload (pc := 57) d7_turns_57 rfl ?_
    refine sd_aload_n (pc := 59) d7_turns_59 rfl ?_
    refine sd_getR (pc := 60) 22 (show sm_sq 3 = some (.inr 6) from rfl) rfl fl7_42 rfl d7_turns_60 ?_
    refine sd_getI (pc := 63) (show sm_sq 22 = some (.inr 0) from rfl) rfl fl7_175 d7_turns_63 (fun v1 => ?_)
    refine sd_ic_ge (pc := 66) 139 d7_turns_66 (by decide) (fun _ => ?_) (fun _ => ?_)
    · refine sd_iload (pc := 139) d7_turns_139 rfl ?_
      exact sd_iret (pc := 141) d7_turns_141 rfl (Nat.zero_le _) (Nat.zero_le _)
    · refine sd_aload_n (pc := 69) d7_turns_69 rfl ?_
      refine sd_getR (pc := 70) 22 (show sm_sq 3 = some (.inr 6) from rfl) rfl fl7_42 rfl d7_turns_70 ?_
      refine sd_getR (pc := 73) 23 (show sm_sq 22 = some (.inr 0) from rfl) rfl fl7_187 rfl d7_turns_73 ?_
      refine sd_iload (pc := 76) d7_turns_76 rfl ?_
      refine sd_aald (pc := 78) 6 (show sm_sq 23 = some (.inl (.object "TwoFliers$Sign", 12)) from rfl) rfl rfl (fun _ => rfl) (fun _ _ _ _ h => if_pos h) d7_turns_78 (fun a2 => ?_)
      refine sd_on (fun h4 => ?_)
      refine sd_cVI (k2 := k6_counts) (As := []) (rest := []) (b := a2) (ci := 5) (pc := 79) 247 h4 (by decide) rfl d7_turns_79 ml7_247 (ms6_counts).1 (ms6_counts).2 (me6_counts) ⟨rfl, rfl⟩ ⟨Nat.le_of_ble_eq_true rfl, Nat.le_of_ble_eq_true rfl⟩ (Nat.le_of_ble_eq_true rfl) (Nat.le_of_ble_eq_true rfl) (Or.inr rfl) (Nat.zero_le _) (Nat.zero_le _) rfl (s6_counts F a2 S) (fun v3 S => ?_)
      refine sd_if_eq (pc := 82) 133 d7_turns_82 (by decide) (fun _ => ?_) (fun _ => ?_)
      · refine sd_iinc (lf2 := [some (.ref 3), some (.int l1), none, some (.int l3), some (.int l4), some (.int (l5 + 1)), none]) (pc := 133) d7_turns_133 (Nat.le_of_ble_eq_true rfl) rfl ci_1 rfl ?_
        refine sd_goto (pc := 136) 57 d7_turns_136 (by decide) ?_
        exact ih l1 l3 l4 (l5 + 1) S
      · refine sd_aload_n (pc := 85) d7_turns_85 rfl ?_
        refine sd_getR (pc := 86) 18 (show sm_sq 3 = some (.inr 6) from rfl) rfl fl7_29 rfl d7_turns_86 ?_
        refine sd_iload_n (pc := 89) d7_turns_89 rfl ?_
        refine sd_iload (pc := 90) d7_turns_90 rfl ?_
        refine sd_cVL (k2 := k2_weigh) (As := [.int l1, .int l5]) (rest := []) (b := 18) (ci := 1) (pc := 92) 244 (show sm_sq 18 = some (.inr 1) from rfl) (by decide) rfl d7_turns_92 ml7_244 (ms2_weigh).1 (ms2_weigh).2 (me2_weigh) ⟨rfl, rfl⟩ ⟨Nat.le_of_ble_eq_true rfl, Nat.le_of_ble_eq_true rfl⟩ (Nat.le_of_ble_eq_true rfl) (Nat.le_of_ble_eq_true rfl) rfl (Nat.zero_le _) (Nat.zero_le _) rfl (s2_weigh F l1 l5 S) (fun v5 S => ?_)
        refine sd_lconst (pc := 95) 0 d7_turns_95 rfl ?_
        refine sd_lc_le (pc := 96) 110 d7_turns_96 d7_turns_97 (by decide) (fun _ => ?_) (fun _ => ?_)
        · refine sd_bipush (pc := 110) (-9) d7_turns_110 cb_m9 ?_
          exact s7_turns_112 F _ ih l1 l3 l4 l5 (-9) S
        · refine sd_aload_n (pc := 100) d7_turns_100 rfl ?_
          refine sd_getR (pc := 101) 18 (show sm_sq 3 = some (.inr 6) from rfl) rfl fl7_29 rfl d7_turns_101 ?_
          refine sd_cVI (k2 := k2_greatest) (As := []) (rest := []) (b := 18) (ci := 1) (pc := 104) 230 (show sm_sq 18 = some (.inr 1) from rfl) (by decide) rfl d7_turns_104 ml7_230 (ms2_greatest).1 (ms2_greatest).2 (me2_greatest) ⟨rfl, rfl⟩ ⟨Nat.le_of_ble_eq_true rfl, Nat.le_of_ble_eq_true rfl⟩ (Nat.le_of_ble_eq_true rfl) (Nat.le_of_ble_eq_true rfl) (Or.inl rfl) (Nat.zero_le _) (Nat.zero_le _) rfl (s2_greatest F S) (fun v6 S => ?_)
          refine sd_goto (pc := 107) 112 d7_turns_107 (by decide) ?_
          exact s7_turns_112 F _ ih l1 l3 l4 l5 v6 S
set_option maxHeartbeats 4000000 in
set_option maxRecDepth 20000 in
theorem s7_turns {N : Nat} (F : Nat) (l1 : Int32) (S : sm_t) : sm_P (sm_jI N) k7_turns [.ref 3, .int l1] (sm_m N S) (x7_turns F l1 S) := by
  show sm_S (sm_jI N) k7_turns 0 0 0 [some (.ref 3), some (.int l1), none, none, none, none, none] [] (sm_m N S) (x7_turns F l1 S)
  unfold x7_turns
  refine sd_iload_n (pc := 0) d7_turns_0 rfl ?_
  refine sd_cSI (k2 := k7_isStory) (As := [.int l1]) (rest := []) (pc := 1) 214 d7_turns_1 ml7_214 (ms7_isStory) (me7_isStory) ⟨rfl, rfl⟩ ⟨Nat.le_of_ble_eq_true rfl, Nat.le_of_ble_eq_true rfl⟩ (Nat.le_of_ble_eq_true rfl) (Nat.le_of_ble_eq_true rfl) (Or.inr rfl) (Nat.zero_le _) (Nat.zero_le _) rfl (s7_isStory F l1 S) (fun v1 S => ?_)
  refine sd_if_ne (pc := 4) 9 d7_turns_4 (by decide) (fun _ => ?_) (fun _ => ?_)
  · refine sd_iconst (pc := 7) (-1) d7_turns_7 ci_m1 ?_
    exact sd_iret (pc := 8) d7_turns_8 rfl (Nat.zero_le _) (Nat.zero_le _)
  · refine sd_aload_n (pc := 9) d7_turns_9 rfl ?_
    refine sd_iload_n (pc := 10) d7_turns_10 rfl ?_
    refine sd_bipush (pc := 11) 6 d7_turns_11 cb_6 ?_
    refine sd_cVI (k2 := k7_barred) (As := [.int l1, .int 6]) (rest := []) (b := 3) (ci := 6) (pc := 13) 241 (show sm_sq 3 = some (.inr 6) from rfl) (by decide) rfl d7_turns_13 ml7_241 (ms7_barred).1 (ms7_barred).2 (me7_barred) ⟨rfl, rfl⟩ ⟨Nat.le_of_ble_eq_true rfl, Nat.le_of_ble_eq_true rfl⟩ (Nat.le_of_ble_eq_true rfl) (Nat.le_of_ble_eq_true rfl) (Or.inl rfl) (Nat.zero_le _) (Nat.zero_le _) rfl (s7_barred F l1 6 S) (fun v2 S => ?_)
    refine sd_istore_n (lf2 := [some (.ref 3), some (.int l1), some (.int v2), none, none, none, none]) (pc := 16) d7_turns_16 (Nat.le_of_ble_eq_true rfl) rfl ?_
    refine sd_iload_n (pc := 17) d7_turns_17 rfl ?_
    refine sd_if_eq (pc := 18) 23 d7_turns_18 (by decide) (fun _ => ?_) (fun _ => ?_)
    · refine sd_aload_n (pc := 23) d7_turns_23 rfl ?_
      refine sd_getR (pc := 24) 18 (show sm_sq 3 = some (.inr 6) from rfl) rfl fl7_29 rfl d7_turns_24 ?_
      refine sd_iload_n (pc := 27) d7_turns_27 rfl ?_
      refine sd_bipush (pc := 28) (-9) d7_turns_28 cb_m9 ?_
      refine sd_cVL (k2 := k2_weigh) (As := [.int l1, .int (-9)]) (rest := []) (b := 18) (ci := 1) (pc := 30) 244 (show sm_sq 18 = some (.inr 1) from rfl) (by decide) rfl d7_turns_30 ml7_244 (ms2_weigh).1 (ms2_weigh).2 (me2_weigh) ⟨rfl, rfl⟩ ⟨Nat.le_of_ble_eq_true rfl, Nat.le_of_ble_eq_true rfl⟩ (Nat.le_of_ble_eq_true rfl) (Nat.le_of_ble_eq_true rfl) rfl (Nat.zero_le _) (Nat.zero_le _) rfl (s2_weigh F l1 (-9) S) (fun v3 S => ?_)
      refine sd_lconst (pc := 33) 0 d7_turns_33 rfl ?_
      refine sd_lc_le (pc := 34) 48 d7_turns_34 d7_turns_35 (by decide) (fun _ => ?_) (fun _ => ?_)
      · refine sd_bipush (pc := 48) (-9) d7_turns_48 cb_m9 ?_
        refine sd_istore_n (lf2 := [some (.ref 3), some (.int l1), some (.int v2), some (.int (-9)), none, none, none]) (pc := 50) d7_turns_50 (Nat.le_of_ble_eq_true rfl) rfl ?_
        refine sd_iconst (pc := 51) 0 d7_turns_51 ci_0 ?_
        refine sd_istore (lf2 := [some (.ref 3), some (.int l1), some (.int v2), some (.int (-9)), some (.int 0), none, none]) (pc := 52) d7_turns_52 (Nat.le_of_ble_eq_true rfl) rfl ?_
        refine sd_iconst (pc := 54) 0 d7_turns_54 ci_0 ?_
        refine sd_istore (lf2 := [some (.ref 3), some (.int l1), some (.int v2), some (.int (-9)), some (.int 0), some (.int 0), none]) (pc := 55) d7_turns_55 (Nat.le_of_ble_eq_true rfl) rfl ?_
        exact sd_fg [true, true, false, true, true, true, true] rfl (s7_turns_57 F F l1 (-9) 0 0 S)
      · refine sd_aload_n (pc := 38) d7_turns_38 rfl ?_
        refine sd_getR (pc := 39) 18 (show sm_sq 3 = some (.inr 6) from rfl) rfl fl7_29 rfl d7_turns_39 ?_
        refine sd_cVI (k2 := k2_greatest) (As := []) (rest := []) (b := 18) (ci := 1) (pc := 42) 230 (show sm_sq 18 = some (.inr 1) from rfl) (by decide) rfl d7_turns_42 ml7_230 (ms2_greatest).1 (ms2_greatest).2 (me2_greatest) ⟨rfl, rfl⟩ ⟨Nat.le_of_ble_eq_true rfl, Nat.le_of_ble_eq_true rfl⟩ (Nat.le_of_ble_eq_true rfl) (Nat.le_of_ble_eq_true rfl) (Or.inl rfl) (Nat.zero_le _) (Nat.zero_le _) rfl (s2_greatest F S) (fun v4 S => ?_)
        refine sd_goto (pc := 45) 50 d7_turns_45 (by decide) ?_
        refine sd_istore_n (lf2 := [some (.ref 3), some (.int l1), some (.int v2), some (.int v4), none, none, none]) (pc := 50) d7_turns_50 (Nat.le_of_ble_eq_true rfl) rfl ?_
        refine sd_iconst (pc := 51) 0 d7_turns_51 ci_0 ?_
        refine sd_istore (lf2 := [some (.ref 3), some (.int l1), some (.int v2), some (.int v4), some (.int 0), none, none]) (pc := 52) d7_turns_52 (Nat.le_of_ble_eq_true rfl) rfl ?_
        refine sd_iconst (pc := 54) 0 d7_turns_54 ci_0 ?_
        refine sd_istore (lf2 := [some (.ref 3), some (.int l1), some (.int v2), some (.int v4), some (.int 0), some (.int 0), none]) (pc := 55) d7_turns_55 (Nat.le_of_ble_eq_true rfl) rfl ?_
        exact sd_fg [true, true, false, true, true, true, true] rfl (s7_turns_57 F F l1 v4 0 0 S)
    · refine sd_iload_n (pc := 21) d7_turns_21 rfl ?_
      exact sd_iret (pc := 22) d7_turns_22 rfl (Nat.zero_le _) (Nat.zero_le _)
set_option maxHeartbeats 4000000 in
set_option maxRecDepth 20000 in
theorem s8_turns_54 {N : Nat} (F : Nat) : ∀ (f : Nat) (l1 : Int32) (l3 : Int32) (l4 : Int32) (l5 : Int32) (S : sm_t), sm_S (sm_jI N) k8_turns 0 0 54 [some (.ref 52), some (.int l1), none, some (.int l3), some (.int l4), some (.int l5)] [] (sm_m N S) (x8_turns_54 F f l1 l3 l4 l5 S) := by
  intro f
  induction f with
  | zero =>
    intro l1 l3 l4 l5 S
    exact sd_none
  | succ f ih =>
    intro l1 l3 l4 l5 S
    rw [x8_turns_54]
    refine sd_iload (pc := 54) d8_turns_54 rfl ?_
    refine sd_aload_n (pc := 56) d8_turns_56 rfl ?_
    refine sd_getI (pc := 57) (show sm_sq 52 = some (.inr 7) from rfl) rfl fl8_161 d8_turns_57 (fun v1 => ?_)
    refine sd_ic_ge (pc := 60) 125 d8_turns_60 (by decide) (fun _ => ?_) (fun _ => ?_)
    · refine sd_iload (pc := 125) d8_turns_125 rfl ?_
      exact sd_iret (pc := 127) d8_turns_127 rfl (Nat.zero_le _) (Nat.zero_le _)
    · refine sd_aload_n (pc := 63) d8_turns_63 rfl ?_
      refine sd_iload (pc := 64) d8_turns_64 rfl ?_
      refine sd_cVI (k2 := k8_counts) (As := [.int l5]) (rest := []) (b := 52) (ci := 7) (pc := 66) 196 (show sm_sq 52 = some (.inr 7) from rfl) (by decide) rfl d8_turns_66 ml8_196 (ms8_counts).1 (ms8_counts).2 (me8_counts) ⟨rfl, rfl⟩ ⟨Nat.le_of_ble_eq_true rfl, Nat.le_of_ble_eq_true rfl⟩ (Nat.le_of_ble_eq_true rfl) (Nat.le_of_ble_eq_true rfl) (Or.inr rfl) (Nat.zero_le _) (Nat.zero_le _) rfl (s8_counts F l5 S) (fun v2 S => ?_)
      refine sd_if_eq (pc := 69) 119 d8_turns_69 (by decide) (fun _ => ?_) (fun _ => ?_)
      · refine sd_iinc (lf2 := [some (.ref 52), some (.int l1), none, some (.int l3), some (.int l4), some (.int (l5 + 1))]) (pc := 119) d8_turns_119 (Nat.le_of_ble_eq_true rfl) rfl ci_1 rfl ?_
        refine sd_goto (pc := 122) 54 d8_turns_122 (by decide) ?_
        exact ih l1 l3 l4 (l5 + 1) S
      · refine sd_aload_n (pc := 72) d8_turns_72 rfl ?_
        refine sd_iload (pc := 73) d8_turns_73 rfl ?_
        refine sd_putI (pc := 75) (show sm_sq 52 = some (.inr 7) from rfl) rfl fl8_48 rfl d8_turns_75 (fun S => ?_)
        refine sd_aload_n (pc := 78) d8_turns_78 rfl ?_
        refine sd_iload_n (pc := 79) d8_turns_79 rfl ?_
        refine sd_cVV (k2 := k8_setEnding) (As := [.int l1]) (rest := []) (b := 52) (ci := 7) (pc := 80) 240 (show sm_sq 52 = some (.inr 7) from rfl) (by decide) rfl d8_turns_80 ml8_240 (ms8_setEnding).1 (ms8_setEnding).2 (me8_setEnding) ⟨rfl, rfl⟩ ⟨Nat.le_of_ble_eq_true rfl, Nat.le_of_ble_eq_true rfl⟩ (Nat.le_of_ble_eq_true rfl) (Nat.le_of_ble_eq_true rfl) rfl (Nat.zero_le _) (Nat.zero_le _) rfl (s8_setEnding F l1 S) (fun S => ?_)
        refine sd_aload_n (pc := 83) d8_turns_83 rfl ?_
        refine sd_bipush (pc := 84) (-9) d8_turns_84 cb_m9 ?_
        refine sd_putI (pc := 86) (show sm_sq 52 = some (.inr 7) from rfl) rfl fl8_48 rfl d8_turns_86 (fun S => ?_)
        refine sd_iload (pc := 89) d8_turns_89 rfl ?_
        refine sd_aload_n (pc := 91) d8_turns_91 rfl ?_
        refine sd_getL (pc := 92) (show sm_sq 52 = some (.inr 7) from rfl) rfl fl8_222 d8_turns_92 (fun v4 => ?_)
        refine sd_lconst (pc := 95) 0 d8_turns_95 rfl ?_
        refine sd_lc_le (pc := 96) 115 d8_turns_96 d8_turns_97 (by decide) (fun _ => ?_) (fun _ => ?_)
        · refine sd_iconst (pc := 115) 0 d8_turns_115 ci_0 ?_
          refine sd_ior (pc := 116) d8_turns_116 ?_
          refine sd_ni (fun v5 => ?_)
          refine sd_istore (lf2 := [some (.ref 52), some (.int l1), none, some (.int l3), some (.int v5), some (.int l5)]) (pc := 117) d8_turns_117 (Nat.le_of_ble_eq_true rfl) rfl ?_
          refine sd_iinc (lf2 := [some (.ref 52), some (.int l1), none, some (.int l3), some (.int v5), some (.int (l5 + 1))]) (pc := 119) d8_turns_119 (Nat.le_of_ble_eq_true rfl) rfl ci_1 rfl ?_
          refine sd_goto (pc := 122) 54 d8_turns_122 (by decide) ?_
          exact ih l1 l3 v5 (l5 + 1) S
        · refine sd_aload_n (pc := 100) d8_turns_100 rfl ?_
          refine sd_cVI (k2 := k8_mostOf) (As := []) (rest := [.int l4]) (b := 52) (ci := 7) (pc := 101) 251 (show sm_sq 52 = some (.inr 7) from rfl) (by decide) rfl d8_turns_101 ml8_251 (ms8_mostOf).1 (ms8_mostOf).2 (me8_mostOf) ⟨rfl, rfl⟩ ⟨Nat.le_of_ble_eq_true rfl, Nat.le_of_ble_eq_true rfl⟩ (Nat.le_of_ble_eq_true rfl) (Nat.le_of_ble_eq_true rfl) (Or.inl rfl) (Nat.zero_le _) (Nat.zero_le _) rfl (s8_mostOf F S) (fun v6 S => ?_)
          refine sd_iload_n (pc := 104) d8_turns_104 rfl ?_
          refine sd_ic_eq (pc := 105) 115 d8_turns_105 (by decide) (fun _ => ?_) (fun _ => ?_)
          · refine sd_iconst (pc := 115) 0 d8_turns_115 ci_0 ?_
            refine sd_ior (pc := 116) d8_turns_116 ?_
            refine sd_ni (fun v7 => ?_)
            refine sd_istore (lf2 := [some (.ref 52), some (.int l1), none, some (.int l3), some (.int v7), some (.int l5)]) (pc := 117) d8_turns_117 (Nat.le_of_ble_eq_true rfl) rfl ?_
            refine sd_iinc (lf2 := [some (.ref 52), some (.int l1), none, some (.int l3), some (.int v7), some (.int (l5 + 1))]) (pc := 119) d8_turns_119 (Nat.le_of_ble_eq_true rfl) rfl ci_1 rfl ?_
            refine sd_goto (pc := 122) 54 d8_turns_122 (by decide) ?_
            exact ih l1 l3 v7 (l5 + 1) S
          · refine sd_iconst (pc := 108) 1 d8_turns_108 ci_1 ?_
            refine sd_iload (pc := 109) d8_turns_109 rfl ?_
            refine sd_ishl (pc := 111) d8_turns_111 ?_
            refine sd_goto (pc := 112) 116 d8_turns_112 (by decide) ?_
            refine sd_ior (pc := 116) d8_turns_116 ?_
            refine sd_ni (fun v8 => ?_)
            refine sd_istore (lf2 := [some (.ref 52), some (.int l1), none, some (.int l3), some (.int v8), some (.int l5)]) (pc := 117) d8_turns_117 (Nat.le_of_ble_eq_true rfl) rfl ?_
            refine sd_iinc (lf2 := [some (.ref 52), some (.int l1), none, some (.int l3), some (.int v8), some (.int (l5 + 1))]) (pc := 119) d8_turns_119 (Nat.le_of_ble_eq_true rfl) rfl ci_1 rfl ?_
            refine sd_goto (pc := 122) 54 d8_turns_122 (by decide) ?_
            exact ih l1 l3 v8 (l5 + 1) S
set_option maxHeartbeats 4000000 in
set_option maxRecDepth 20000 in
theorem s8_turns {N : Nat} (F : Nat) (l1 : Int32) (S : sm_t) : sm_P (sm_jI N) k8_turns [.ref 52, .int l1] (sm_m N S) (x8_turns F l1 S) := by
  show sm_S (sm_jI N) k8_turns 0 0 0 [some (.ref 52), some (.int l1), none, none, none, none] [] (sm_m N S) (x8_turns F l1 S)
  unfold x8_turns
  refine sd_aload_n (pc := 0) d8_turns_0 rfl ?_
  refine sd_iload_n (pc := 1) d8_turns_1 rfl ?_
  refine sd_cVI (k2 := k8_askedStory) (As := [.int l1]) (rest := []) (b := 52) (ci := 7) (pc := 2) 234 (show sm_sq 52 = some (.inr 7) from rfl) (by decide) rfl d8_turns_2 ml8_234 (ms8_askedStory).1 (ms8_askedStory).2 (me8_askedStory) ⟨rfl, rfl⟩ ⟨Nat.le_of_ble_eq_true rfl, Nat.le_of_ble_eq_true rfl⟩ (Nat.le_of_ble_eq_true rfl) (Nat.le_of_ble_eq_true rfl) (Or.inl rfl) (Nat.zero_le _) (Nat.zero_le _) rfl (s8_askedStory F l1 S) (fun v1 S => ?_)
  refine sd_istore_n (lf2 := [some (.ref 52), some (.int l1), some (.int v1), none, none, none]) (pc := 5) d8_turns_5 (Nat.le_of_ble_eq_true rfl) rfl ?_
  refine sd_iload_n (pc := 6) d8_turns_6 rfl ?_
  refine sd_if_ge (pc := 7) 12 d8_turns_7 (by decide) (fun _ => ?_) (fun _ => ?_)
  · refine sd_aload_n (pc := 12) d8_turns_12 rfl ?_
    refine sd_cVI (k2 := k8_counted) (As := []) (rest := []) (b := 52) (ci := 7) (pc := 13) 237 (show sm_sq 52 = some (.inr 7) from rfl) (by decide) rfl d8_turns_13 ml8_237 (ms8_counted).1 (ms8_counted).2 (me8_counted) ⟨rfl, rfl⟩ ⟨Nat.le_of_ble_eq_true rfl, Nat.le_of_ble_eq_true rfl⟩ (Nat.le_of_ble_eq_true rfl) (Nat.le_of_ble_eq_true rfl) (Or.inl rfl) (Nat.zero_le _) (Nat.zero_le _) rfl (s8_counted F S) (fun v2 S => ?_)
    refine sd_bipush (pc := 16) 6 d8_turns_16 cb_6 ?_
    refine sd_ic_le (pc := 18) 24 d8_turns_18 (by decide) (fun _ => ?_) (fun _ => ?_)
    · refine sd_aload_n (pc := 24) d8_turns_24 rfl ?_
      refine sd_iload_n (pc := 25) d8_turns_25 rfl ?_
      refine sd_cVV (k2 := k8_setEnding) (As := [.int l1]) (rest := []) (b := 52) (ci := 7) (pc := 26) 240 (show sm_sq 52 = some (.inr 7) from rfl) (by decide) rfl d8_turns_26 ml8_240 (ms8_setEnding).1 (ms8_setEnding).2 (me8_setEnding) ⟨rfl, rfl⟩ ⟨Nat.le_of_ble_eq_true rfl, Nat.le_of_ble_eq_true rfl⟩ (Nat.le_of_ble_eq_true rfl) (Nat.le_of_ble_eq_true rfl) rfl (Nat.zero_le _) (Nat.zero_le _) rfl (s8_setEnding F l1 S) (fun S => ?_)
      refine sd_aload_n (pc := 29) d8_turns_29 rfl ?_
      refine sd_getL (pc := 30) (show sm_sq 52 = some (.inr 7) from rfl) rfl fl8_222 d8_turns_30 (fun v4 => ?_)
      refine sd_lconst (pc := 33) 0 d8_turns_33 rfl ?_
      refine sd_lc_ne (pc := 34) 43 d8_turns_34 d8_turns_35 (by decide) (fun _ => ?_) (fun _ => ?_)
      · refine sd_bipush (pc := 38) (-9) d8_turns_38 cb_m9 ?_
        refine sd_goto (pc := 40) 47 d8_turns_40 (by decide) ?_
        refine sd_istore_n (lf2 := [some (.ref 52), some (.int l1), some (.int v1), some (.int (-9)), none, none]) (pc := 47) d8_turns_47 (Nat.le_of_ble_eq_true rfl) rfl ?_
        refine sd_iconst (pc := 48) 0 d8_turns_48 ci_0 ?_
        refine sd_istore (lf2 := [some (.ref 52), some (.int l1), some (.int v1), some (.int (-9)), some (.int 0), none]) (pc := 49) d8_turns_49 (Nat.le_of_ble_eq_true rfl) rfl ?_
        refine sd_iconst (pc := 51) 0 d8_turns_51 ci_0 ?_
        refine sd_istore (lf2 := [some (.ref 52), some (.int l1), some (.int v1), some (.int (-9)), some (.int 0), some (.int 0)]) (pc := 52) d8_turns_52 (Nat.le_of_ble_eq_true rfl) rfl ?_
        exact sd_fg [true, true, false, true, true, true] rfl (s8_turns_54 F F l1 (-9) 0 0 S)
      · refine sd_aload_n (pc := 43) d8_turns_43 rfl ?_
        refine sd_cVI (k2 := k8_mostOf) (As := []) (rest := []) (b := 52) (ci := 7) (pc := 44) 251 (show sm_sq 52 = some (.inr 7) from rfl) (by decide) rfl d8_turns_44 ml8_251 (ms8_mostOf).1 (ms8_mostOf).2 (me8_mostOf) ⟨rfl, rfl⟩ ⟨Nat.le_of_ble_eq_true rfl, Nat.le_of_ble_eq_true rfl⟩ (Nat.le_of_ble_eq_true rfl) (Nat.le_of_ble_eq_true rfl) (Or.inl rfl) (Nat.zero_le _) (Nat.zero_le _) rfl (s8_mostOf F S) (fun v5 S => ?_)
        refine sd_istore_n (lf2 := [some (.ref 52), some (.int l1), some (.int v1), some (.int v5), none, none]) (pc := 47) d8_turns_47 (Nat.le_of_ble_eq_true rfl) rfl ?_
        refine sd_iconst (pc := 48) 0 d8_turns_48 ci_0 ?_
        refine sd_istore (lf2 := [some (.ref 52), some (.int l1), some (.int v1), some (.int v5), some (.int 0), none]) (pc := 49) d8_turns_49 (Nat.le_of_ble_eq_true rfl) rfl ?_
        refine sd_iconst (pc := 51) 0 d8_turns_51 ci_0 ?_
        refine sd_istore (lf2 := [some (.ref 52), some (.int l1), some (.int v1), some (.int v5), some (.int 0), some (.int 0)]) (pc := 52) d8_turns_52 (Nat.le_of_ble_eq_true rfl) rfl ?_
        exact sd_fg [true, true, false, true, true, true] rfl (s8_turns_54 F F l1 v5 0 0 S)
    · refine sd_bipush (pc := 21) (-6) d8_turns_21 cb_m6 ?_
      exact sd_iret (pc := 23) d8_turns_23 rfl (Nat.zero_le _) (Nat.zero_le _)
  · refine sd_iload_n (pc := 10) d8_turns_10 rfl ?_
    exact sd_iret (pc := 11) d8_turns_11 rfl (Nat.zero_le _) (Nat.zero_le _)
set_option maxHeartbeats 4000000 in
set_option maxRecDepth 20000 in
theorem s7_truly_119 {N : Nat} (F : Nat) (l4 : Int64) (S : sm_t) : sm_S (sm_jI N) k7_truly 0 0 119 [some (.ref 3), none, none, none, some (.long l4), none, none] [] (sm_m N S) (x7_truly_119 F l4 S) := by
  unfold x7_truly_119
  refine sd_aload_n (pc := 119) d7_truly_119 rfl ?_
  refine sd_lload (pc := 120) d7_truly_120 rfl ?_
  refine sd_aload_n (pc := 122) d7_truly_122 rfl ?_
  refine sd_getR (pc := 123) 18 (show sm_sq 3 = some (.inr 6) from rfl) rfl fl7_29 rfl d7_truly_123 ?_
  refine sd_getL (pc := 126) (show sm_sq 18 = some (.inr 1) from rfl) rfl fl7_223 d7_truly_126 (fun v1 => ?_)
  refine sd_cVV (k2 := k7_fraction) (As := [.long l4, .long v1]) (rest := []) (b := 3) (ci := 6) (pc := 129) 226 (show sm_sq 3 = some (.inr 6) from rfl) (by decide) rfl d7_truly_129 ml7_226 (ms7_fraction).1 (ms7_fraction).2 (me7_fraction) ⟨rfl, rfl⟩ ⟨Nat.le_of_ble_eq_true rfl, Nat.le_of_ble_eq_true rfl⟩ (Nat.le_of_ble_eq_true rfl) (Nat.le_of_ble_eq_true rfl) rfl (Nat.zero_le _) (Nat.zero_le _) rfl (s7_fraction F l4 v1 S) (fun S => ?_)
  refine sd_iconst (pc := 132) 1 d7_truly_132 ci_1 ?_
  exact sd_iret (pc := 133) d7_truly_133 rfl (Nat.zero_le _) (Nat.zero_le _)
set_option maxHeartbeats 4000000 in
set_option maxRecDepth 20000 in
theorem s7_truly_74 {N : Nat} (F : Nat) : ∀ (f : Nat) (l2 : Int32) (l4 : Int64) (l6 : Int32) (S : sm_t), sm_S (sm_jI N) k7_truly 0 0 74 [some (.ref 3), none, some (.int l2), none, some (.long l4), none, some (.int l6)] [] (sm_m N S) (x7_truly_74 F f l2 l4 l6 S) := by
  intro f
  induction f with
  | zero =>
    intro l2 l4 l6 S
    exact sd_none
  | succ f ih =>
    intro l2 l4 l6 S
    rw [x7_truly_74]
    refine sd_iload (pc := 74) d7_truly_74 rfl ?_
    refine sd_bipush (pc := 76) 120 d7_truly_76 cb_120 ?_
    refine sd_ic_ge (pc := 78) 119 d7_truly_78 (by decide) (fun _ => ?_) (fun _ => ?_)
    · exact sd_fg [true, true, false, true, true, true, false] rfl (s7_truly_119 F l4 S)
    · refine sd_aload_n (pc := 81) d7_truly_81 rfl ?_
      refine sd_getR (pc := 82) 22 (show sm_sq 3 = some (.inr 6) from rfl) rfl fl7_42 rfl d7_truly_82 ?_
      refine sd_getR (pc := 85) 23 (show sm_sq 22 = some (.inr 0) from rfl) rfl fl7_187 rfl d7_truly_85 ?_
      refine sd_iload_n (pc := 88) d7_truly_88 rfl ?_
      refine sd_aald (pc := 89) 6 (show sm_sq 23 = some (.inl (.object "TwoFliers$Sign", 12)) from rfl) rfl rfl (fun _ => rfl) (fun _ _ _ _ h => if_pos h) d7_truly_89 (fun a1 => ?_)
      refine sd_iload (pc := 90) d7_truly_90 rfl ?_
      refine sd_on (fun h3 => ?_)
      refine sd_cVI (k2 := k6_isFrom) (As := [.int l6]) (rest := []) (b := a1) (ci := 5) (pc := 92) 251 h3 (by decide) rfl d7_truly_92 ml7_251 (ms6_isFrom).1 (ms6_isFrom).2 (me6_isFrom) ⟨rfl, rfl⟩ ⟨Nat.le_of_ble_eq_true rfl, Nat.le_of_ble_eq_true rfl⟩ (Nat.le_of_ble_eq_true rfl) (Nat.le_of_ble_eq_true rfl) (Or.inr rfl) (Nat.zero_le _) (Nat.zero_le _) rfl (s6_isFrom F a1 l6 S) (fun v2 S => ?_)
      refine sd_if_eq (pc := 95) 113 d7_truly_95 (by decide) (fun _ => ?_) (fun _ => ?_)
      · refine sd_iinc (lf2 := [some (.ref 3), none, some (.int l2), none, some (.long l4), none, some (.int (l6 + 1))]) (pc := 113) d7_truly_113 (Nat.le_of_ble_eq_true rfl) rfl ci_1 rfl ?_
        refine sd_goto (pc := 116) 74 d7_truly_116 (by decide) ?_
        exact ih l2 l4 (l6 + 1) S
      · refine sd_lload (pc := 98) d7_truly_98 rfl ?_
        refine sd_aload_n (pc := 100) d7_truly_100 rfl ?_
        refine sd_getR (pc := 101) 18 (show sm_sq 3 = some (.inr 6) from rfl) rfl fl7_29 rfl d7_truly_101 ?_
        refine sd_getR (pc := 104) 40 (show sm_sq 18 = some (.inr 1) from rfl) rfl fl7_220 rfl d7_truly_104 ?_
        refine sd_iload (pc := 107) d7_truly_107 rfl ?_
        refine sd_lald (pc := 109) (show sm_sq 40 = some (.inl (.long, 120)) from rfl) d7_truly_109 (fun v4 => ?_)
        refine sd_ladd (pc := 110) d7_truly_110 ?_
        refine sd_nl (fun v5 => ?_)
        refine sd_lstore (lf2 := [some (.ref 3), none, some (.int l2), none, some (.long v5), none, some (.int l6)]) (pc := 111) d7_truly_111 (Nat.le_of_ble_eq_true rfl) rfl ?_
        refine sd_iinc (lf2 := [some (.ref 3), none, some (.int l2), none, some (.long v5), none, some (.int (l6 + 1))]) (pc := 113) d7_truly_113 (Nat.le_of_ble_eq_true rfl) rfl ci_1 rfl ?_
        refine sd_goto (pc := 116) 74 d7_truly_116 (by decide) ?_
        exact ih l2 v5 (l6 + 1) S
set_option maxHeartbeats 4000000 in
set_option maxRecDepth 20000 in
theorem s7_truly {N : Nat} (F : Nat) (l1 : Int32) (l2 : Int32) (S : sm_t) : sm_P (sm_jI N) k7_truly [.ref 3, .int l1, .int l2] (sm_m N S) (x7_truly F l1 l2 S) := by
  show sm_S (sm_jI N) k7_truly 0 0 0 [some (.ref 3), some (.int l1), some (.int l2), none, none, none, none] [] (sm_m N S) (x7_truly F l1 l2 S)
  unfold x7_truly
  refine sd_iload_n (pc := 0) d7_truly_0 rfl ?_
  refine sd_cSI (k2 := k7_isStory) (As := [.int l1]) (rest := []) (pc := 1) 214 d7_truly_1 ml7_214 (ms7_isStory) (me7_isStory) ⟨rfl, rfl⟩ ⟨Nat.le_of_ble_eq_true rfl, Nat.le_of_ble_eq_true rfl⟩ (Nat.le_of_ble_eq_true rfl) (Nat.le_of_ble_eq_true rfl) (Or.inr rfl) (Nat.zero_le _) (Nat.zero_le _) rfl (s7_isStory F l1 S) (fun v1 S => ?_)
  refine sd_if_eq (pc := 4) 18 d7_truly_4 (by decide) (fun _ => ?_) (fun _ => ?_)
  · refine sd_iconst (pc := 18) (-1) d7_truly_18 ci_m1 ?_
    exact sd_iret (pc := 19) d7_truly_19 rfl (Nat.zero_le _) (Nat.zero_le _)
  · refine sd_aload_n (pc := 7) d7_truly_7 rfl ?_
    refine sd_getR (pc := 8) 22 (show sm_sq 3 = some (.inr 6) from rfl) rfl fl7_42 rfl d7_truly_8 ?_
    refine sd_iload_n (pc := 11) d7_truly_11 rfl ?_
    refine sd_cVI (k2 := k0_has) (As := [.int l2]) (rest := []) (b := 22) (ci := 0) (pc := 12) 184 (show sm_sq 22 = some (.inr 0) from rfl) (by decide) rfl d7_truly_12 ml7_184 (ms0_has).1 (ms0_has).2 (me0_has) ⟨rfl, rfl⟩ ⟨Nat.le_of_ble_eq_true rfl, Nat.le_of_ble_eq_true rfl⟩ (Nat.le_of_ble_eq_true rfl) (Nat.le_of_ble_eq_true rfl) (Or.inr rfl) (Nat.zero_le _) (Nat.zero_le _) rfl (s0_has F l2 S) (fun v2 S => ?_)
    refine sd_if_ne (pc := 15) 20 d7_truly_15 (by decide) (fun _ => ?_) (fun _ => ?_)
    · refine sd_iconst (pc := 18) (-1) d7_truly_18 ci_m1 ?_
      exact sd_iret (pc := 19) d7_truly_19 rfl (Nat.zero_le _) (Nat.zero_le _)
    · refine sd_aload_n (pc := 20) d7_truly_20 rfl ?_
      refine sd_iload_n (pc := 21) d7_truly_21 rfl ?_
      refine sd_cVI (k2 := k7_isMissing) (As := [.int l1]) (rest := []) (b := 3) (ci := 6) (pc := 22) 160 (show sm_sq 3 = some (.inr 6) from rfl) (by decide) rfl d7_truly_22 ml7_160 (ms7_isMissing).1 (ms7_isMissing).2 (me7_isMissing) ⟨rfl, rfl⟩ ⟨Nat.le_of_ble_eq_true rfl, Nat.le_of_ble_eq_true rfl⟩ (Nat.le_of_ble_eq_true rfl) (Nat.le_of_ble_eq_true rfl) (Or.inr rfl) (Nat.zero_le _) (Nat.zero_le _) rfl (s7_isMissing F l1 S) (fun v3 S => ?_)
      refine sd_if_eq (pc := 25) 34 d7_truly_25 (by decide) (fun _ => ?_) (fun _ => ?_)
      · refine sd_aload_n (pc := 34) d7_truly_34 rfl ?_
        refine sd_getR (pc := 35) 22 (show sm_sq 3 = some (.inr 6) from rfl) rfl fl7_42 rfl d7_truly_35 ?_
        refine sd_getR (pc := 38) 23 (show sm_sq 22 = some (.inr 0) from rfl) rfl fl7_187 rfl d7_truly_38 ?_
        refine sd_iload_n (pc := 41) d7_truly_41 rfl ?_
        refine sd_aald (pc := 42) 6 (show sm_sq 23 = some (.inl (.object "TwoFliers$Sign", 12)) from rfl) rfl rfl (fun _ => rfl) (fun _ _ _ _ h => if_pos h) d7_truly_42 (fun a4 => ?_)
        refine sd_iconst (pc := 43) 5 d7_truly_43 ci_5 ?_
        refine sd_on (fun h6 => ?_)
        refine sd_cVI (k2 := k6_is) (As := [.int 5]) (rest := []) (b := a4) (ci := 5) (pc := 44) 196 h6 (by decide) rfl d7_truly_44 ml7_196 (ms6_is).1 (ms6_is).2 (me6_is) ⟨rfl, rfl⟩ ⟨Nat.le_of_ble_eq_true rfl, Nat.le_of_ble_eq_true rfl⟩ (Nat.le_of_ble_eq_true rfl) (Nat.le_of_ble_eq_true rfl) (Or.inr rfl) (Nat.zero_le _) (Nat.zero_le _) rfl (s6_is F a4 5 S) (fun v5 S => ?_)
        refine sd_if_ne (pc := 47) 56 d7_truly_47 (by decide) (fun _ => ?_) (fun _ => ?_)
        · refine sd_aload_n (pc := 50) d7_truly_50 rfl ?_
          refine sd_iconst (pc := 51) 3 d7_truly_51 ci_3 ?_
          refine sd_cVI (k2 := k7_found) (As := [.int 3]) (rest := []) (b := 3) (ci := 6) (pc := 52) 92 (show sm_sq 3 = some (.inr 6) from rfl) (by decide) rfl d7_truly_52 ml7_92 (ms7_found).1 (ms7_found).2 (me7_found) ⟨rfl, rfl⟩ ⟨Nat.le_of_ble_eq_true rfl, Nat.le_of_ble_eq_true rfl⟩ (Nat.le_of_ble_eq_true rfl) (Nat.le_of_ble_eq_true rfl) (Or.inl rfl) (Nat.zero_le _) (Nat.zero_le _) rfl (s7_found F 3 S) (fun v7 S => ?_)
          exact sd_iret (pc := 55) d7_truly_55 rfl (Nat.zero_le _) (Nat.zero_le _)
        · refine sd_aload_n (pc := 56) d7_truly_56 rfl ?_
          refine sd_iload_n (pc := 57) d7_truly_57 rfl ?_
          refine sd_cVI (k2 := k7_weighed) (As := [.int l1]) (rest := []) (b := 3) (ci := 6) (pc := 58) 217 (show sm_sq 3 = some (.inr 6) from rfl) (by decide) rfl d7_truly_58 ml7_217 (ms7_weighed).1 (ms7_weighed).2 (me7_weighed) ⟨rfl, rfl⟩ ⟨Nat.le_of_ble_eq_true rfl, Nat.le_of_ble_eq_true rfl⟩ (Nat.le_of_ble_eq_true rfl) (Nat.le_of_ble_eq_true rfl) (Or.inl rfl) (Nat.zero_le _) (Nat.zero_le _) rfl (s7_weighed F l1 S) (fun v8 S => ?_)
          refine sd_istore_n (lf2 := [some (.ref 3), some (.int l1), some (.int l2), some (.int v8), none, none, none]) (pc := 61) d7_truly_61 (Nat.le_of_ble_eq_true rfl) rfl ?_
          refine sd_iload_n (pc := 62) d7_truly_62 rfl ?_
          refine sd_if_eq (pc := 63) 68 d7_truly_63 (by decide) (fun _ => ?_) (fun _ => ?_)
          · refine sd_lconst (pc := 68) 0 d7_truly_68 rfl ?_
            refine sd_lstore (lf2 := [some (.ref 3), some (.int l1), some (.int l2), some (.int v8), some (.long 0), none, none]) (pc := 69) d7_truly_69 (Nat.le_of_ble_eq_true rfl) rfl ?_
            refine sd_iconst (pc := 71) 0 d7_truly_71 ci_0 ?_
            refine sd_istore (lf2 := [some (.ref 3), some (.int l1), some (.int l2), some (.int v8), some (.long 0), none, some (.int 0)]) (pc := 72) d7_truly_72 (Nat.le_of_ble_eq_true rfl) rfl ?_
            exact sd_fg [true, false, true, false, true, true, true] rfl (s7_truly_74 F F l2 0 0 S)
          · refine sd_iload_n (pc := 66) d7_truly_66 rfl ?_
            exact sd_iret (pc := 67) d7_truly_67 rfl (Nat.zero_le _) (Nat.zero_le _)
      · refine sd_aload_n (pc := 28) d7_truly_28 rfl ?_
        refine sd_iconst (pc := 29) 1 d7_truly_29 ci_1 ?_
        refine sd_cVI (k2 := k7_found) (As := [.int 1]) (rest := []) (b := 3) (ci := 6) (pc := 30) 92 (show sm_sq 3 = some (.inr 6) from rfl) (by decide) rfl d7_truly_30 ml7_92 (ms7_found).1 (ms7_found).2 (me7_found) ⟨rfl, rfl⟩ ⟨Nat.le_of_ble_eq_true rfl, Nat.le_of_ble_eq_true rfl⟩ (Nat.le_of_ble_eq_true rfl) (Nat.le_of_ble_eq_true rfl) (Or.inl rfl) (Nat.zero_le _) (Nat.zero_le _) rfl (s7_found F 1 S) (fun v9 S => ?_)
        exact sd_iret (pc := 33) d7_truly_33 rfl (Nat.zero_le _) (Nat.zero_le _)
set_option maxHeartbeats 4000000 in
set_option maxRecDepth 20000 in
theorem s8_isVoice {N : Nat} (F : Nat) (l0 : Int32) (S : sm_t) : sm_P (sm_jI N) k8_isVoice [.int l0] (sm_m N S) (x8_isVoice F l0 S) := by
  show sm_S (sm_jI N) k8_isVoice 0 0 0 [some (.int l0)] [] (sm_m N S) (x8_isVoice F l0 S)
  unfold x8_isVoice
  refine sd_iload_n (pc := 0) d8_isVoice_0 rfl ?_
  refine sd_iconst (pc := 1) 5 d8_isVoice_1 ci_5 ?_
  refine sd_ic_eq (pc := 2) 11 d8_isVoice_2 (by decide) (fun _ => ?_) (fun _ => ?_)
  · refine sd_iconst (pc := 11) 1 d8_isVoice_11 ci_1 ?_
    refine sd_goto (pc := 12) 16 d8_isVoice_12 (by decide) ?_
    exact sd_zret (pc := 16) d8_isVoice_16 (by decide) (Nat.zero_le _) (Nat.zero_le _)
  · refine sd_iload_n (pc := 5) d8_isVoice_5 rfl ?_
    refine sd_bipush (pc := 6) 6 d8_isVoice_6 cb_6 ?_
    refine sd_ic_ne (pc := 8) 15 d8_isVoice_8 (by decide) (fun _ => ?_) (fun _ => ?_)
    · refine sd_iconst (pc := 11) 1 d8_isVoice_11 ci_1 ?_
      refine sd_goto (pc := 12) 16 d8_isVoice_12 (by decide) ?_
      exact sd_zret (pc := 16) d8_isVoice_16 (by decide) (Nat.zero_le _) (Nat.zero_le _)
    · refine sd_iconst (pc := 15) 0 d8_isVoice_15 ci_0 ?_
      exact sd_zret (pc := 16) d8_isVoice_16 (by decide) (Nat.zero_le _) (Nat.zero_le _)
set_option maxHeartbeats 4000000 in
set_option maxRecDepth 20000 in
theorem s8_truly_116 {N : Nat} (F : Nat) (l4 : Int64) (S : sm_t) : sm_S (sm_jI N) k8_truly 0 0 116 [some (.ref 52), none, none, none, some (.long l4), none, none] [] (sm_m N S) (x8_truly_116 F l4 S) := by
  unfold x8_truly_116
  refine sd_aload_n (pc := 116) d8_truly_116 rfl ?_
  refine sd_lload (pc := 117) d8_truly_117 rfl ?_
  refine sd_aload_n (pc := 119) d8_truly_119 rfl ?_
  refine sd_getL (pc := 120) (show sm_sq 52 = some (.inr 7) from rfl) rfl fl8_222 d8_truly_120 (fun v1 => ?_)
  refine sd_iconst (pc := 123) 1 d8_truly_123 ci_1 ?_
  refine sd_cVI (k2 := k8_part) (As := [.long l4, .long v1, .int 1]) (rest := []) (b := 52) (ci := 7) (pc := 124) 247 (show sm_sq 52 = some (.inr 7) from rfl) (by decide) rfl d8_truly_124 ml8_247 (ms8_part).1 (ms8_part).2 (me8_part) ⟨rfl, rfl⟩ ⟨Nat.le_of_ble_eq_true rfl, Nat.le_of_ble_eq_true rfl⟩ (Nat.le_of_ble_eq_true rfl) (Nat.le_of_ble_eq_true rfl) (Or.inl rfl) (Nat.zero_le _) (Nat.zero_le _) rfl (s8_part F l4 v1 1 S) (fun v2 S => ?_)
  exact sd_iret (pc := 127) d8_truly_127 rfl (Nat.zero_le _) (Nat.zero_le _)
set_option maxHeartbeats 4000000 in
set_option maxRecDepth 20000 in
theorem s8_truly_67 {N : Nat} (F : Nat) : ∀ (f : Nat) (l2 : Int32) (l4 : Int64) (l6 : Int32) (S : sm_t), sm_S (sm_jI N) k8_truly 0 0 67 [some (.ref 52), none, some (.int l2), none, some (.long l4), none, some (.int l6)] [] (sm_m N S) (x8_truly_67 F f l2 l4 l6 S) := by
  intro f
  induction f with
  | zero =>
    intro l2 l4 l6 S
    exact sd_none
  | succ f ih =>
    intro l2 l4 l6 S
    rw [x8_truly_67]
    refine sd_iload (pc := 67) d8_truly_67 rfl ?_
    refine sd_bipush (pc := 69) 120 d8_truly_69 cb_120 ?_
    refine sd_ic_ge (pc := 71) 116 d8_truly_71 (by decide) (fun _ => ?_) (fun _ => ?_)
    · exact sd_fg [true, true, false, true, true, true, false] rfl (s8_truly_116 F l4 S)
    · refine sd_lload (pc := 74) d8_truly_74 rfl ?_
      refine sd_aload_n (pc := 76) d8_truly_76 rfl ?_
      refine sd_iload_n (pc := 77) d8_truly_77 rfl ?_
      refine sd_iconst (pc := 78) 1 d8_truly_78 ci_1 ?_
      refine sd_cVI (k2 := k8_tell) (As := [.int l2, .int 1]) (rest := [.long l4]) (b := 52) (ci := 7) (pc := 79) 175 (show sm_sq 52 = some (.inr 7) from rfl) (by decide) rfl d8_truly_79 ml8_175 (ms8_tell).1 (ms8_tell).2 (me8_tell) ⟨rfl, rfl⟩ ⟨Nat.le_of_ble_eq_true rfl, Nat.le_of_ble_eq_true rfl⟩ (Nat.le_of_ble_eq_true rfl) (Nat.le_of_ble_eq_true rfl) (Or.inl rfl) (Nat.zero_le _) (Nat.zero_le _) rfl (s8_tell F l2 1 S) (fun v1 S => ?_)
      refine sd_iload (pc := 82) d8_truly_82 rfl ?_
      refine sd_cSI (k2 := k8_sideOf) (As := [.int v1, .int l6]) (rest := [.long l4]) (pc := 84) 120 d8_truly_84 ml8_120 (ms8_sideOf) (me8_sideOf) ⟨rfl, rfl⟩ ⟨Nat.le_of_ble_eq_true rfl, Nat.le_of_ble_eq_true rfl⟩ (Nat.le_of_ble_eq_true rfl) (Nat.le_of_ble_eq_true rfl) (Or.inl rfl) (Nat.zero_le _) (Nat.zero_le _) rfl (s8_sideOf F v1 l6 S) (fun v2 S => ?_)
      refine sd_aload_n (pc := 87) d8_truly_87 rfl ?_
      refine sd_iload_n (pc := 88) d8_truly_88 rfl ?_
      refine sd_iconst (pc := 89) 2 d8_truly_89 ci_2 ?_
      refine sd_cVI (k2 := k8_tell) (As := [.int l2, .int 2]) (rest := [.int v2, .long l4]) (b := 52) (ci := 7) (pc := 90) 175 (show sm_sq 52 = some (.inr 7) from rfl) (by decide) rfl d8_truly_90 ml8_175 (ms8_tell).1 (ms8_tell).2 (me8_tell) ⟨rfl, rfl⟩ ⟨Nat.le_of_ble_eq_true rfl, Nat.le_of_ble_eq_true rfl⟩ (Nat.le_of_ble_eq_true rfl) (Nat.le_of_ble_eq_true rfl) (Or.inl rfl) (Nat.zero_le _) (Nat.zero_le _) rfl (s8_tell F l2 2 S) (fun v3 S => ?_)
      refine sd_ic_ne (pc := 93) 106 d8_truly_93 (by decide) (fun _ => ?_) (fun _ => ?_)
      · refine sd_aload_n (pc := 96) d8_truly_96 rfl ?_
        refine sd_getR (pc := 97) 66 (show sm_sq 52 = some (.inr 7) from rfl) rfl fl8_59 rfl d8_truly_97 ?_
        refine sd_iload (pc := 100) d8_truly_100 rfl ?_
        refine sd_lald (pc := 102) (show sm_sq 66 = some (.inl (.long, 120)) from rfl) d8_truly_102 (fun v4 => ?_)
        refine sd_goto (pc := 103) 107 d8_truly_103 (by decide) ?_
        refine sd_ladd (pc := 107) d8_truly_107 ?_
        refine sd_nl (fun v5 => ?_)
        refine sd_lstore (lf2 := [some (.ref 52), none, some (.int l2), none, some (.long v5), none, some (.int l6)]) (pc := 108) d8_truly_108 (Nat.le_of_ble_eq_true rfl) rfl ?_
        refine sd_iinc (lf2 := [some (.ref 52), none, some (.int l2), none, some (.long v5), none, some (.int (l6 + 1))]) (pc := 110) d8_truly_110 (Nat.le_of_ble_eq_true rfl) rfl ci_1 rfl ?_
        refine sd_goto (pc := 113) 67 d8_truly_113 (by decide) ?_
        exact ih l2 v5 (l6 + 1) S
      · refine sd_lconst (pc := 106) 0 d8_truly_106 rfl ?_
        refine sd_ladd (pc := 107) d8_truly_107 ?_
        refine sd_nl (fun v6 => ?_)
        refine sd_lstore (lf2 := [some (.ref 52), none, some (.int l2), none, some (.long v6), none, some (.int l6)]) (pc := 108) d8_truly_108 (Nat.le_of_ble_eq_true rfl) rfl ?_
        refine sd_iinc (lf2 := [some (.ref 52), none, some (.int l2), none, some (.long v6), none, some (.int (l6 + 1))]) (pc := 110) d8_truly_110 (Nat.le_of_ble_eq_true rfl) rfl ci_1 rfl ?_
        refine sd_goto (pc := 113) 67 d8_truly_113 (by decide) ?_
        exact ih l2 v6 (l6 + 1) S
set_option maxHeartbeats 4000000 in
set_option maxRecDepth 20000 in
theorem s8_truly {N : Nat} (F : Nat) (l1 : Int32) (l2 : Int32) (S : sm_t) : sm_P (sm_jI N) k8_truly [.ref 52, .int l1, .int l2] (sm_m N S) (x8_truly F l1 l2 S) := by
  show sm_S (sm_jI N) k8_truly 0 0 0 [some (.ref 52), some (.int l1), some (.int l2), none, none, none, none] [] (sm_m N S) (x8_truly F l1 l2 S)
  unfold x8_truly
  refine sd_aload_n (pc := 0) d8_truly_0 rfl ?_
  refine sd_iload_n (pc := 1) d8_truly_1 rfl ?_
  refine sd_cVI (k2 := k8_isSign) (As := [.int l2]) (rest := []) (b := 52) (ci := 7) (pc := 2) 172 (show sm_sq 52 = some (.inr 7) from rfl) (by decide) rfl d8_truly_2 ml8_172 (ms8_isSign).1 (ms8_isSign).2 (me8_isSign) ⟨rfl, rfl⟩ ⟨Nat.le_of_ble_eq_true rfl, Nat.le_of_ble_eq_true rfl⟩ (Nat.le_of_ble_eq_true rfl) (Nat.le_of_ble_eq_true rfl) (Or.inr rfl) (Nat.zero_le _) (Nat.zero_le _) rfl (s8_isSign F l2 S) (fun v1 S => ?_)
  refine sd_if_eq (pc := 5) 17 d8_truly_5 (by decide) (fun _ => ?_) (fun _ => ?_)
  · refine sd_iconst (pc := 17) (-1) d8_truly_17 ci_m1 ?_
    exact sd_iret (pc := 18) d8_truly_18 rfl (Nat.zero_le _) (Nat.zero_le _)
  · refine sd_iload_n (pc := 8) d8_truly_8 rfl ?_
    refine sd_iconst (pc := 9) 0 d8_truly_9 ci_0 ?_
    refine sd_iconst (pc := 10) 3 d8_truly_10 ci_3 ?_
    refine sd_cSI (k2 := k8_in) (As := [.int l1, .int 0, .int 3]) (rest := []) (pc := 11) 80 d8_truly_11 ml8_80 (ms8_in) (me8_in) ⟨rfl, rfl⟩ ⟨Nat.le_of_ble_eq_true rfl, Nat.le_of_ble_eq_true rfl⟩ (Nat.le_of_ble_eq_true rfl) (Nat.le_of_ble_eq_true rfl) (Or.inr rfl) (Nat.zero_le _) (Nat.zero_le _) rfl (s8_in F l1 0 3 S) (fun v2 S => ?_)
    refine sd_if_ne (pc := 14) 19 d8_truly_14 (by decide) (fun _ => ?_) (fun _ => ?_)
    · refine sd_iconst (pc := 17) (-1) d8_truly_17 ci_m1 ?_
      exact sd_iret (pc := 18) d8_truly_18 rfl (Nat.zero_le _) (Nat.zero_le _)
    · refine sd_aload_n (pc := 19) d8_truly_19 rfl ?_
      refine sd_iload_n (pc := 20) d8_truly_20 rfl ?_
      refine sd_cVI (k2 := k8_askedStory) (As := [.int l1]) (rest := []) (b := 52) (ci := 7) (pc := 21) 234 (show sm_sq 52 = some (.inr 7) from rfl) (by decide) rfl d8_truly_21 ml8_234 (ms8_askedStory).1 (ms8_askedStory).2 (me8_askedStory) ⟨rfl, rfl⟩ ⟨Nat.le_of_ble_eq_true rfl, Nat.le_of_ble_eq_true rfl⟩ (Nat.le_of_ble_eq_true rfl) (Nat.le_of_ble_eq_true rfl) (Or.inl rfl) (Nat.zero_le _) (Nat.zero_le _) rfl (s8_askedStory F l1 S) (fun v3 S => ?_)
      refine sd_istore_n (lf2 := [some (.ref 52), some (.int l1), some (.int l2), some (.int v3), none, none, none]) (pc := 24) d8_truly_24 (Nat.le_of_ble_eq_true rfl) rfl ?_
      refine sd_iload_n (pc := 25) d8_truly_25 rfl ?_
      refine sd_if_ge (pc := 26) 31 d8_truly_26 (by decide) (fun _ => ?_) (fun _ => ?_)
      · refine sd_aload_n (pc := 31) d8_truly_31 rfl ?_
        refine sd_iload_n (pc := 32) d8_truly_32 rfl ?_
        refine sd_iconst (pc := 33) 0 d8_truly_33 ci_0 ?_
        refine sd_cVI (k2 := k8_tell) (As := [.int l2, .int 0]) (rest := []) (b := 52) (ci := 7) (pc := 34) 175 (show sm_sq 52 = some (.inr 7) from rfl) (by decide) rfl d8_truly_34 ml8_175 (ms8_tell).1 (ms8_tell).2 (me8_tell) ⟨rfl, rfl⟩ ⟨Nat.le_of_ble_eq_true rfl, Nat.le_of_ble_eq_true rfl⟩ (Nat.le_of_ble_eq_true rfl) (Nat.le_of_ble_eq_true rfl) (Or.inl rfl) (Nat.zero_le _) (Nat.zero_le _) rfl (s8_tell F l2 0 S) (fun v4 S => ?_)
        refine sd_cSI (k2 := k8_isVoice) (As := [.int v4]) (rest := []) (pc := 37) 257 d8_truly_37 ml8_257 (ms8_isVoice) (me8_isVoice) ⟨rfl, rfl⟩ ⟨Nat.le_of_ble_eq_true rfl, Nat.le_of_ble_eq_true rfl⟩ (Nat.le_of_ble_eq_true rfl) (Nat.le_of_ble_eq_true rfl) (Or.inr rfl) (Nat.zero_le _) (Nat.zero_le _) rfl (s8_isVoice F v4 S) (fun v5 S => ?_)
        refine sd_if_ne (pc := 40) 49 d8_truly_40 (by decide) (fun _ => ?_) (fun _ => ?_)
        · refine sd_aload_n (pc := 43) d8_truly_43 rfl ?_
          refine sd_iconst (pc := 44) 3 d8_truly_44 ci_3 ?_
          refine sd_cVI (k2 := k8_meets) (As := [.int 3]) (rest := []) (b := 52) (ci := 7) (pc := 45) 88 (show sm_sq 52 = some (.inr 7) from rfl) (by decide) rfl d8_truly_45 ml8_88 (ms8_meets).1 (ms8_meets).2 (me8_meets) ⟨rfl, rfl⟩ ⟨Nat.le_of_ble_eq_true rfl, Nat.le_of_ble_eq_true rfl⟩ (Nat.le_of_ble_eq_true rfl) (Nat.le_of_ble_eq_true rfl) (Or.inl rfl) (Nat.zero_le _) (Nat.zero_le _) rfl (s8_meets F 3 S) (fun v6 S => ?_)
          exact sd_iret (pc := 48) d8_truly_48 rfl (Nat.zero_le _) (Nat.zero_le _)
        · refine sd_aload_n (pc := 49) d8_truly_49 rfl ?_
          refine sd_iload_n (pc := 50) d8_truly_50 rfl ?_
          refine sd_cVI (k2 := k8_weigh) (As := [.int l1]) (rest := []) (b := 52) (ci := 7) (pc := 51) 244 (show sm_sq 52 = some (.inr 7) from rfl) (by decide) rfl d8_truly_51 ml8_244 (ms8_weigh).1 (ms8_weigh).2 (me8_weigh) ⟨rfl, rfl⟩ ⟨Nat.le_of_ble_eq_true rfl, Nat.le_of_ble_eq_true rfl⟩ (Nat.le_of_ble_eq_true rfl) (Nat.le_of_ble_eq_true rfl) (Or.inl rfl) (Nat.zero_le _) (Nat.zero_le _) rfl (s8_weigh F l1 S) (fun v7 S => ?_)
          refine sd_istore_n (lf2 := [some (.ref 52), some (.int l1), some (.int l2), some (.int v7), none, none, none]) (pc := 54) d8_truly_54 (Nat.le_of_ble_eq_true rfl) rfl ?_
          refine sd_iload_n (pc := 55) d8_truly_55 rfl ?_
          refine sd_if_ge (pc := 56) 61 d8_truly_56 (by decide) (fun _ => ?_) (fun _ => ?_)
          · refine sd_lconst (pc := 61) 0 d8_truly_61 rfl ?_
            refine sd_lstore (lf2 := [some (.ref 52), some (.int l1), some (.int l2), some (.int v7), some (.long 0), none, none]) (pc := 62) d8_truly_62 (Nat.le_of_ble_eq_true rfl) rfl ?_
            refine sd_iconst (pc := 64) 0 d8_truly_64 ci_0 ?_
            refine sd_istore (lf2 := [some (.ref 52), some (.int l1), some (.int l2), some (.int v7), some (.long 0), none, some (.int 0)]) (pc := 65) d8_truly_65 (Nat.le_of_ble_eq_true rfl) rfl ?_
            exact sd_fg [true, false, true, false, true, true, true] rfl (s8_truly_67 F F l2 0 0 S)
          · refine sd_iload_n (pc := 59) d8_truly_59 rfl ?_
            exact sd_iret (pc := 60) d8_truly_60 rfl (Nat.zero_le _) (Nat.zero_le _)
      · refine sd_iload_n (pc := 29) d8_truly_29 rfl ?_
        exact sd_iret (pc := 30) d8_truly_30 rfl (Nat.zero_le _) (Nat.zero_le _)
set_option maxHeartbeats 4000000 in
set_option maxRecDepth 20000 in
theorem s6_isTrueVoice {N : Nat} (F : Nat) (l0 : Nat) (S : sm_t) : sm_P (sm_jI N) k6_isTrueVoice [.ref l0] (sm_m N S) (x6_isTrueVoice F l0 S) := by
  show sm_S (sm_jI N) k6_isTrueVoice 0 0 0 [some (.ref l0)] [] (sm_m N S) (x6_isTrueVoice F l0 S)
  unfold x6_isTrueVoice
  refine sd_aload_n (pc := 0) d6_isTrueVoice_0 rfl ?_
  refine sd_on (fun h1 => ?_)
  refine sd_getI (pc := 1) h1 rfl fl6_11 d6_isTrueVoice_1 (fun v2 => ?_)
  refine sd_iconst (pc := 4) 5 d6_isTrueVoice_4 ci_5 ?_
  refine sd_ic_ne (pc := 5) 19 d6_isTrueVoice_5 (by decide) (fun _ => ?_) (fun _ => ?_)
  · refine sd_aload_n (pc := 8) d6_isTrueVoice_8 rfl ?_
    refine sd_getI (pc := 9) h1 rfl fl6_24 d6_isTrueVoice_9 (fun v3 => ?_)
    refine sd_if_ne (pc := 12) 19 d6_isTrueVoice_12 (by decide) (fun _ => ?_) (fun _ => ?_)
    · refine sd_iconst (pc := 15) 1 d6_isTrueVoice_15 ci_1 ?_
      refine sd_goto (pc := 16) 20 d6_isTrueVoice_16 (by decide) ?_
      exact sd_zret (pc := 20) d6_isTrueVoice_20 (by decide) (Nat.zero_le _) (Nat.zero_le _)
    · refine sd_iconst (pc := 19) 0 d6_isTrueVoice_19 ci_0 ?_
      exact sd_zret (pc := 20) d6_isTrueVoice_20 (by decide) (Nat.zero_le _) (Nat.zero_le _)
  · refine sd_iconst (pc := 19) 0 d6_isTrueVoice_19 ci_0 ?_
    exact sd_zret (pc := 20) d6_isTrueVoice_20 (by decide) (Nat.zero_le _) (Nat.zero_le _)
set_option maxHeartbeats 4000000 in
set_option maxRecDepth 20000 in
theorem s0_anyTrueVoice_2 {N : Nat} (F : Nat) : ∀ (f : Nat) (l1 : Int32) (S : sm_t), sm_S (sm_jI N) k0_anyTrueVoice 0 0 2 [some (.ref 22), some (.int l1)] [] (sm_m N S) (x0_anyTrueVoice_2 F f l1 S) := by
  intro f
  induction f with
  | zero =>
    intro l1 S
    exact sd_none
  | succ f ih =>
    intro l1 S
    rw [x0_anyTrueVoice_2]
    refine sd_iload_n (pc := 2) d0_anyTrueVoice_2 rfl ?_
    refine sd_aload_n (pc := 3) d0_anyTrueVoice_3 rfl ?_
    refine sd_getI (pc := 4) (show sm_sq 22 = some (.inr 0) from rfl) rfl fl0_17 d0_anyTrueVoice_4 (fun v1 => ?_)
    refine sd_ic_ge (pc := 7) 30 d0_anyTrueVoice_7 (by decide) (fun _ => ?_) (fun _ => ?_)
    · refine sd_iconst (pc := 30) 0 d0_anyTrueVoice_30 ci_0 ?_
      exact sd_zret (pc := 31) d0_anyTrueVoice_31 (by decide) (Nat.zero_le _) (Nat.zero_le _)
    · refine sd_aload_n (pc := 10) d0_anyTrueVoice_10 rfl ?_
      refine sd_getR (pc := 11) 23 (show sm_sq 22 = some (.inr 0) from rfl) rfl fl0_13 rfl d0_anyTrueVoice_11 ?_
      refine sd_iload_n (pc := 14) d0_anyTrueVoice_14 rfl ?_
      refine sd_aald (pc := 15) 6 (show sm_sq 23 = some (.inl (.object "TwoFliers$Sign", 12)) from rfl) rfl rfl (fun _ => rfl) (fun _ _ _ _ h => if_pos h) d0_anyTrueVoice_15 (fun a2 => ?_)
      refine sd_on (fun h4 => ?_)
      refine sd_cVI (k2 := k6_isTrueVoice) (As := []) (rest := []) (b := a2) (ci := 5) (pc := 16) 34 h4 (by decide) rfl d0_anyTrueVoice_16 ml0_34 (ms6_isTrueVoice).1 (ms6_isTrueVoice).2 (me6_isTrueVoice) ⟨rfl, rfl⟩ ⟨Nat.le_of_ble_eq_true rfl, Nat.le_of_ble_eq_true rfl⟩ (Nat.le_of_ble_eq_true rfl) (Nat.le_of_ble_eq_true rfl) (Or.inr rfl) (Nat.zero_le _) (Nat.zero_le _) rfl (s6_isTrueVoice F a2 S) (fun v3 S => ?_)
      refine sd_if_eq (pc := 19) 24 d0_anyTrueVoice_19 (by decide) (fun _ => ?_) (fun _ => ?_)
      · refine sd_iinc (lf2 := [some (.ref 22), some (.int (l1 + 1))]) (pc := 24) d0_anyTrueVoice_24 (Nat.le_of_ble_eq_true rfl) rfl ci_1 rfl ?_
        refine sd_goto (pc := 27) 2 d0_anyTrueVoice_27 (by decide) ?_
        exact ih (l1 + 1) S
      · refine sd_iconst (pc := 22) 1 d0_anyTrueVoice_22 ci_1 ?_
        exact sd_zret (pc := 23) d0_anyTrueVoice_23 (by decide) (Nat.zero_le _) (Nat.zero_le _)
set_option maxHeartbeats 4000000 in
set_option maxRecDepth 20000 in
theorem s0_anyTrueVoice {N : Nat} (F : Nat) (S : sm_t) : sm_P (sm_jI N) k0_anyTrueVoice [.ref 22] (sm_m N S) (x0_anyTrueVoice F S) := by
  show sm_S (sm_jI N) k0_anyTrueVoice 0 0 0 [some (.ref 22), none] [] (sm_m N S) (x0_anyTrueVoice F S)
  unfold x0_anyTrueVoice
  refine sd_iconst (pc := 0) 0 d0_anyTrueVoice_0 ci_0 ?_
  refine sd_istore_n (lf2 := [some (.ref 22), some (.int 0)]) (pc := 1) d0_anyTrueVoice_1 (Nat.le_of_ble_eq_true rfl) rfl ?_
  exact s0_anyTrueVoice_2 F F 0 S
set_option maxHeartbeats 4000000 in
set_option maxRecDepth 20000 in
theorem s0_trueVoicesFrom_4 {N : Nat} (F : Nat) : ∀ (f : Nat) (l1 : Int32) (l2 : Int32) (l3 : Int32) (S : sm_t), sm_S (sm_jI N) k0_trueVoicesFrom 0 0 4 [some (.ref 22), some (.int l1), some (.int l2), some (.int l3)] [] (sm_m N S) (x0_trueVoicesFrom_4 F f l1 l2 l3 S) := by
  intro f
  induction f with
  | zero =>
    intro l1 l2 l3 S
    exact sd_none
  | succ f ih =>
    intro l1 l2 l3 S
    rw [x0_trueVoicesFrom_4]
    refine sd_iload_n (pc := 4) d0_trueVoicesFrom_4 rfl ?_
    refine sd_aload_n (pc := 5) d0_trueVoicesFrom_5 rfl ?_
    refine sd_getI (pc := 6) (show sm_sq 22 = some (.inr 0) from rfl) rfl fl0_17 d0_trueVoicesFrom_6 (fun v1 => ?_)
    refine sd_ic_ge (pc := 9) 51 d0_trueVoicesFrom_9 (by decide) (fun _ => ?_) (fun _ => ?_)
    · refine sd_iload_n (pc := 51) d0_trueVoicesFrom_51 rfl ?_
      exact sd_iret (pc := 52) d0_trueVoicesFrom_52 rfl (Nat.zero_le _) (Nat.zero_le _)
    · refine sd_iload_n (pc := 12) d0_trueVoicesFrom_12 rfl ?_
      refine sd_aload_n (pc := 13) d0_trueVoicesFrom_13 rfl ?_
      refine sd_getR (pc := 14) 23 (show sm_sq 22 = some (.inr 0) from rfl) rfl fl0_13 rfl d0_trueVoicesFrom_14 ?_
      refine sd_iload_n (pc := 17) d0_trueVoicesFrom_17 rfl ?_
      refine sd_aald (pc := 18) 6 (show sm_sq 23 = some (.inl (.object "TwoFliers$Sign", 12)) from rfl) rfl rfl (fun _ => rfl) (fun _ _ _ _ h => if_pos h) d0_trueVoicesFrom_18 (fun a2 => ?_)
      refine sd_on (fun h4 => ?_)
      refine sd_cVI (k2 := k6_isTrueVoice) (As := []) (rest := [.int l2]) (b := a2) (ci := 5) (pc := 19) 34 h4 (by decide) rfl d0_trueVoicesFrom_19 ml0_34 (ms6_isTrueVoice).1 (ms6_isTrueVoice).2 (me6_isTrueVoice) ⟨rfl, rfl⟩ ⟨Nat.le_of_ble_eq_true rfl, Nat.le_of_ble_eq_true rfl⟩ (Nat.le_of_ble_eq_true rfl) (Nat.le_of_ble_eq_true rfl) (Or.inr rfl) (Nat.zero_le _) (Nat.zero_le _) rfl (s6_isTrueVoice F a2 S) (fun v3 S => ?_)
      refine sd_if_eq (pc := 22) 42 d0_trueVoicesFrom_22 (by decide) (fun _ => ?_) (fun _ => ?_)
      · refine sd_iconst (pc := 42) 0 d0_trueVoicesFrom_42 ci_0 ?_
        refine sd_iadd (pc := 43) d0_trueVoicesFrom_43 ?_
        refine sd_ni (fun v5 => ?_)
        refine sd_istore_n (lf2 := [some (.ref 22), some (.int l1), some (.int v5), some (.int l3)]) (pc := 44) d0_trueVoicesFrom_44 (Nat.le_of_ble_eq_true rfl) rfl ?_
        refine sd_iinc (lf2 := [some (.ref 22), some (.int l1), some (.int v5), some (.int (l3 + 1))]) (pc := 45) d0_trueVoicesFrom_45 (Nat.le_of_ble_eq_true rfl) rfl ci_1 rfl ?_
        refine sd_goto (pc := 48) 4 d0_trueVoicesFrom_48 (by decide) ?_
        exact ih l1 v5 (l3 + 1) S
      · refine sd_aload_n (pc := 25) d0_trueVoicesFrom_25 rfl ?_
        refine sd_getR (pc := 26) 23 (show sm_sq 22 = some (.inr 0) from rfl) rfl fl0_13 rfl d0_trueVoicesFrom_26 ?_
        refine sd_iload_n (pc := 29) d0_trueVoicesFrom_29 rfl ?_
        refine sd_aald (pc := 30) 6 (show sm_sq 23 = some (.inl (.object "TwoFliers$Sign", 12)) from rfl) rfl rfl (fun _ => rfl) (fun _ _ _ _ h => if_pos h) d0_trueVoicesFrom_30 (fun a6 => ?_)
        refine sd_iload_n (pc := 31) d0_trueVoicesFrom_31 rfl ?_
        refine sd_on (fun h8 => ?_)
        refine sd_cVI (k2 := k6_isFrom) (As := [.int l1]) (rest := [.int l2]) (b := a6) (ci := 5) (pc := 32) 37 h8 (by decide) rfl d0_trueVoicesFrom_32 ml0_37 (ms6_isFrom).1 (ms6_isFrom).2 (me6_isFrom) ⟨rfl, rfl⟩ ⟨Nat.le_of_ble_eq_true rfl, Nat.le_of_ble_eq_true rfl⟩ (Nat.le_of_ble_eq_true rfl) (Nat.le_of_ble_eq_true rfl) (Or.inr rfl) (Nat.zero_le _) (Nat.zero_le _) rfl (s6_isFrom F a6 l1 S) (fun v7 S => ?_)
        refine sd_if_eq (pc := 35) 42 d0_trueVoicesFrom_35 (by decide) (fun _ => ?_) (fun _ => ?_)
        · refine sd_iconst (pc := 42) 0 d0_trueVoicesFrom_42 ci_0 ?_
          refine sd_iadd (pc := 43) d0_trueVoicesFrom_43 ?_
          refine sd_ni (fun v9 => ?_)
          refine sd_istore_n (lf2 := [some (.ref 22), some (.int l1), some (.int v9), some (.int l3)]) (pc := 44) d0_trueVoicesFrom_44 (Nat.le_of_ble_eq_true rfl) rfl ?_
          refine sd_iinc (lf2 := [some (.ref 22), some (.int l1), some (.int v9), some (.int (l3 + 1))]) (pc := 45) d0_trueVoicesFrom_45 (Nat.le_of_ble_eq_true rfl) rfl ci_1 rfl ?_
          refine sd_goto (pc := 48) 4 d0_trueVoicesFrom_48 (by decide) ?_
          exact ih l1 v9 (l3 + 1) S
        · refine sd_iconst (pc := 38) 1 d0_trueVoicesFrom_38 ci_1 ?_
          refine sd_goto (pc := 39) 43 d0_trueVoicesFrom_39 (by decide) ?_
          refine sd_iadd (pc := 43) d0_trueVoicesFrom_43 ?_
          refine sd_ni (fun v10 => ?_)
          refine sd_istore_n (lf2 := [some (.ref 22), some (.int l1), some (.int v10), some (.int l3)]) (pc := 44) d0_trueVoicesFrom_44 (Nat.le_of_ble_eq_true rfl) rfl ?_
          refine sd_iinc (lf2 := [some (.ref 22), some (.int l1), some (.int v10), some (.int (l3 + 1))]) (pc := 45) d0_trueVoicesFrom_45 (Nat.le_of_ble_eq_true rfl) rfl ci_1 rfl ?_
          refine sd_goto (pc := 48) 4 d0_trueVoicesFrom_48 (by decide) ?_
          exact ih l1 v10 (l3 + 1) S
set_option maxHeartbeats 4000000 in
set_option maxRecDepth 20000 in
theorem s0_trueVoicesFrom {N : Nat} (F : Nat) (l1 : Int32) (S : sm_t) : sm_P (sm_jI N) k0_trueVoicesFrom [.ref 22, .int l1] (sm_m N S) (x0_trueVoicesFrom F l1 S) := by
  show sm_S (sm_jI N) k0_trueVoicesFrom 0 0 0 [some (.ref 22), some (.int l1), none, none] [] (sm_m N S) (x0_trueVoicesFrom F l1 S)
  unfold x0_trueVoicesFrom
  refine sd_iconst (pc := 0) 0 d0_trueVoicesFrom_0 ci_0 ?_
  refine sd_istore_n (lf2 := [some (.ref 22), some (.int l1), some (.int 0), none]) (pc := 1) d0_trueVoicesFrom_1 (Nat.le_of_ble_eq_true rfl) rfl ?_
  refine sd_iconst (pc := 2) 0 d0_trueVoicesFrom_2 ci_0 ?_
  refine sd_istore_n (lf2 := [some (.ref 22), some (.int l1), some (.int 0), some (.int 0)]) (pc := 3) d0_trueVoicesFrom_3 (Nat.le_of_ble_eq_true rfl) rfl ?_
  exact s0_trueVoicesFrom_4 F F l1 0 0 S
set_option maxHeartbeats 4000000 in
set_option maxRecDepth 20000 in
theorem s7_cross_38 {N : Nat} (F : Nat) : ∀ (f : Nat) (l1 : Int32) (l2 : Int32) (l3 : Int32) (l4 : Int32) (l5 : Int32) (S : sm_t), sm_S (sm_jI N) k7_cross 0 0 38 [some (.ref 3), some (.int l1), some (.int l2), some (.int l3), some (.int l4), some (.int l5), none] [] (sm_m N S) (x7_cross_38 F f l1 l2 l3 l4 l5 S) := by
  intro f
  induction f with
  | zero =>
    intro l1 l2 l3 l4 l5 S
    exact sd_none
  | succ f ih =>
    intro l1 l2 l3 l4 l5 S
    rw [x7_cross_38]
    refine sd_iload (pc := 38) d7_cross_38 rfl ?_
    refine sd_bipush (pc := 40) 120 d7_cross_40 cb_120 ?_
    refine sd_ic_ge (pc := 42) 84 d7_cross_42 (by decide) (fun _ => ?_) (fun _ => ?_)
    · refine sd_aload_n (pc := 84) d7_cross_84 rfl ?_
      refine sd_iload (pc := 85) d7_cross_85 rfl ?_
      refine sd_putI (pc := 87) (show sm_sq 3 = some (.inr 6) from rfl) rfl fl7_65 rfl d7_cross_87 (fun S => ?_)
      refine sd_iload_n (pc := 90) d7_cross_90 rfl ?_
      exact sd_iret (pc := 91) d7_cross_91 rfl (Nat.zero_le _) (Nat.zero_le _)
    · refine sd_aload_n (pc := 45) d7_cross_45 rfl ?_
      refine sd_getR (pc := 46) 22 (show sm_sq 3 = some (.inr 6) from rfl) rfl fl7_42 rfl d7_cross_46 ?_
      refine sd_iload (pc := 49) d7_cross_49 rfl ?_
      refine sd_cVI (k2 := k0_trueVoicesFrom) (As := [.int l5]) (rest := []) (b := 22) (ci := 0) (pc := 51) 257 (show sm_sq 22 = some (.inr 0) from rfl) (by decide) rfl d7_cross_51 ml7_257 (ms0_trueVoicesFrom).1 (ms0_trueVoicesFrom).2 (me0_trueVoicesFrom) ⟨rfl, rfl⟩ ⟨Nat.le_of_ble_eq_true rfl, Nat.le_of_ble_eq_true rfl⟩ (Nat.le_of_ble_eq_true rfl) (Nat.le_of_ble_eq_true rfl) (Or.inl rfl) (Nat.zero_le _) (Nat.zero_le _) rfl (s0_trueVoicesFrom F l5 S) (fun v1 S => ?_)
      refine sd_istore (lf2 := [some (.ref 3), some (.int l1), some (.int l2), some (.int l3), some (.int l4), some (.int l5), some (.int v1)]) (pc := 54) d7_cross_54 (Nat.le_of_ble_eq_true rfl) rfl ?_
      refine sd_iload (pc := 56) d7_cross_56 rfl ?_
      refine sd_iload_n (pc := 58) d7_cross_58 rfl ?_
      refine sd_ic_lt (pc := 59) 65 d7_cross_59 (by decide) (fun _ => ?_) (fun _ => ?_)
      · refine sd_iload (pc := 65) d7_cross_65 rfl ?_
        refine sd_iload_n (pc := 67) d7_cross_67 rfl ?_
        refine sd_ic_le (pc := 68) 78 d7_cross_68 (by decide) (fun _ => ?_) (fun _ => ?_)
        · refine sd_iinc (lf2 := [some (.ref 3), some (.int l1), some (.int l2), some (.int l3), some (.int l4), some (.int (l5 + 1)), some (.int v1)]) (pc := 78) d7_cross_78 (Nat.le_of_ble_eq_true rfl) rfl ci_1 rfl ?_
          refine sd_goto (pc := 81) 38 d7_cross_81 (by decide) ?_
          exact sd_fg [true, true, true, true, true, true, false] rfl (ih l1 l2 l3 l4 (l5 + 1) S)
        · refine sd_iload (pc := 71) d7_cross_71 rfl ?_
          refine sd_istore_n (lf2 := [some (.ref 3), some (.int l1), some (.int l2), some (.int v1), some (.int l4), some (.int l5), some (.int v1)]) (pc := 73) d7_cross_73 (Nat.le_of_ble_eq_true rfl) rfl ?_
          refine sd_iload (pc := 74) d7_cross_74 rfl ?_
          refine sd_istore (lf2 := [some (.ref 3), some (.int l1), some (.int l2), some (.int v1), some (.int l5), some (.int l5), some (.int v1)]) (pc := 76) d7_cross_76 (Nat.le_of_ble_eq_true rfl) rfl ?_
          refine sd_iinc (lf2 := [some (.ref 3), some (.int l1), some (.int l2), some (.int v1), some (.int l5), some (.int (l5 + 1)), some (.int v1)]) (pc := 78) d7_cross_78 (Nat.le_of_ble_eq_true rfl) rfl ci_1 rfl ?_
          refine sd_goto (pc := 81) 38 d7_cross_81 (by decide) ?_
          exact sd_fg [true, true, true, true, true, true, false] rfl (ih l1 l2 v1 l5 (l5 + 1) S)
      · refine sd_iinc (lf2 := [some (.ref 3), some (.int l1), some (.int (l2 + 1)), some (.int l3), some (.int l4), some (.int l5), some (.int v1)]) (pc := 62) d7_cross_62 (Nat.le_of_ble_eq_true rfl) rfl ci_1 rfl ?_
        refine sd_iload (pc := 65) d7_cross_65 rfl ?_
        refine sd_iload_n (pc := 67) d7_cross_67 rfl ?_
        refine sd_ic_le (pc := 68) 78 d7_cross_68 (by decide) (fun _ => ?_) (fun _ => ?_)
        · refine sd_iinc (lf2 := [some (.ref 3), some (.int l1), some (.int (l2 + 1)), some (.int l3), some (.int l4), some (.int (l5 + 1)), some (.int v1)]) (pc := 78) d7_cross_78 (Nat.le_of_ble_eq_true rfl) rfl ci_1 rfl ?_
          refine sd_goto (pc := 81) 38 d7_cross_81 (by decide) ?_
          exact sd_fg [true, true, true, true, true, true, false] rfl (ih l1 (l2 + 1) l3 l4 (l5 + 1) S)
        · refine sd_iload (pc := 71) d7_cross_71 rfl ?_
          refine sd_istore_n (lf2 := [some (.ref 3), some (.int l1), some (.int (l2 + 1)), some (.int v1), some (.int l4), some (.int l5), some (.int v1)]) (pc := 73) d7_cross_73 (Nat.le_of_ble_eq_true rfl) rfl ?_
          refine sd_iload (pc := 74) d7_cross_74 rfl ?_
          refine sd_istore (lf2 := [some (.ref 3), some (.int l1), some (.int (l2 + 1)), some (.int v1), some (.int l5), some (.int l5), some (.int v1)]) (pc := 76) d7_cross_76 (Nat.le_of_ble_eq_true rfl) rfl ?_
          refine sd_iinc (lf2 := [some (.ref 3), some (.int l1), some (.int (l2 + 1)), some (.int v1), some (.int l5), some (.int (l5 + 1)), some (.int v1)]) (pc := 78) d7_cross_78 (Nat.le_of_ble_eq_true rfl) rfl ci_1 rfl ?_
          refine sd_goto (pc := 81) 38 d7_cross_81 (by decide) ?_
          exact sd_fg [true, true, true, true, true, true, false] rfl (ih l1 (l2 + 1) v1 l5 (l5 + 1) S)
set_option maxHeartbeats 4000000 in
set_option maxRecDepth 20000 in
theorem s7_cross {N : Nat} (F : Nat) (l1 : Int32) (S : sm_t) : sm_P (sm_jI N) k7_cross [.ref 3, .int l1] (sm_m N S) (x7_cross F l1 S) := by
  show sm_S (sm_jI N) k7_cross 0 0 0 [some (.ref 3), some (.int l1), none, none, none, none, none] [] (sm_m N S) (x7_cross F l1 S)
  unfold x7_cross
  refine sd_iload_n (pc := 0) d7_cross_0 rfl ?_
  refine sd_iconst (pc := 1) 1 d7_cross_1 ci_1 ?_
  refine sd_ic_lt (pc := 2) 11 d7_cross_2 (by decide) (fun _ => ?_) (fun _ => ?_)
  · refine sd_iconst (pc := 11) (-1) d7_cross_11 ci_m1 ?_
    exact sd_iret (pc := 12) d7_cross_12 rfl (Nat.zero_le _) (Nat.zero_le _)
  · refine sd_iload_n (pc := 5) d7_cross_5 rfl ?_
    refine sd_bipush (pc := 6) 12 d7_cross_6 cb_12 ?_
    refine sd_ic_le (pc := 8) 13 d7_cross_8 (by decide) (fun _ => ?_) (fun _ => ?_)
    · refine sd_iconst (pc := 13) 0 d7_cross_13 ci_0 ?_
      refine sd_istore_n (lf2 := [some (.ref 3), some (.int l1), some (.int 0), none, none, none, none]) (pc := 14) d7_cross_14 (Nat.le_of_ble_eq_true rfl) rfl ?_
      refine sd_iconst (pc := 15) 0 d7_cross_15 ci_0 ?_
      refine sd_istore_n (lf2 := [some (.ref 3), some (.int l1), some (.int 0), some (.int 0), none, none, none]) (pc := 16) d7_cross_16 (Nat.le_of_ble_eq_true rfl) rfl ?_
      refine sd_aload_n (pc := 17) d7_cross_17 rfl ?_
      refine sd_getR (pc := 18) 22 (show sm_sq 3 = some (.inr 6) from rfl) rfl fl7_42 rfl d7_cross_18 ?_
      refine sd_cVI (k2 := k0_anyTrueVoice) (As := []) (rest := []) (b := 22) (ci := 0) (pc := 21) 254 (show sm_sq 22 = some (.inr 0) from rfl) (by decide) rfl d7_cross_21 ml7_254 (ms0_anyTrueVoice).1 (ms0_anyTrueVoice).2 (me0_anyTrueVoice) ⟨rfl, rfl⟩ ⟨Nat.le_of_ble_eq_true rfl, Nat.le_of_ble_eq_true rfl⟩ (Nat.le_of_ble_eq_true rfl) (Nat.le_of_ble_eq_true rfl) (Or.inr rfl) (Nat.zero_le _) (Nat.zero_le _) rfl (s0_anyTrueVoice F S) (fun v1 S => ?_)
      refine sd_if_eq (pc := 24) 31 d7_cross_24 (by decide) (fun _ => ?_) (fun _ => ?_)
      · refine sd_bipush (pc := 31) (-9) d7_cross_31 cb_m9 ?_
        refine sd_istore (lf2 := [some (.ref 3), some (.int l1), some (.int 0), some (.int 0), some (.int (-9)), none, none]) (pc := 33) d7_cross_33 (Nat.le_of_ble_eq_true rfl) rfl ?_
        refine sd_iconst (pc := 35) 0 d7_cross_35 ci_0 ?_
        refine sd_istore (lf2 := [some (.ref 3), some (.int l1), some (.int 0), some (.int 0), some (.int (-9)), some (.int 0), none]) (pc := 36) d7_cross_36 (Nat.le_of_ble_eq_true rfl) rfl ?_
        exact s7_cross_38 F F l1 0 0 (-9) 0 S
      · refine sd_iconst (pc := 27) 0 d7_cross_27 ci_0 ?_
        refine sd_goto (pc := 28) 33 d7_cross_28 (by decide) ?_
        refine sd_istore (lf2 := [some (.ref 3), some (.int l1), some (.int 0), some (.int 0), some (.int 0), none, none]) (pc := 33) d7_cross_33 (Nat.le_of_ble_eq_true rfl) rfl ?_
        refine sd_iconst (pc := 35) 0 d7_cross_35 ci_0 ?_
        refine sd_istore (lf2 := [some (.ref 3), some (.int l1), some (.int 0), some (.int 0), some (.int 0), some (.int 0), none]) (pc := 36) d7_cross_36 (Nat.le_of_ble_eq_true rfl) rfl ?_
        exact s7_cross_38 F F l1 0 0 0 0 S
    · refine sd_iconst (pc := 11) (-1) d7_cross_11 ci_m1 ?_
      exact sd_iret (pc := 12) d7_cross_12 rfl (Nat.zero_le _) (Nat.zero_le _)
set_option maxHeartbeats 4000000 in
set_option maxRecDepth 20000 in
theorem s8_cross_161 {N : Nat} (F : Nat) (c69 : Int32 → Int32 → Int32 → Int32 → Int32 → Int32 → sm_t → Option (Int32 × sm_t)) (hc69 : ∀ (l1 : Int32) (l2 : Int32) (l3 : Int32) (l4 : Int32) (l5 : Int32) (l6 : Int32) (S : sm_t), sm_S (sm_jI N) k8_cross 0 0 69 [some (.ref 52), some (.int l1), some (.int l2), some (.int l3), some (.int l4), some (.int l5), some (.int l6), none, none] [] (sm_m N S) (c69 l1 l2 l3 l4 l5 l6 S)) (l1 : Int32) (l2 : Int32) (l4 : Int32) (l5 : Int32) (l6 : Int32) (l7 : Int32) (t0 : Int32) (t1 : Int32) (S : sm_t) : sm_S (sm_jI N) k8_cross 0 0 161 [some (.ref 52), some (.int l1), some (.int l2), none, some (.int l4), some (.int l5), some (.int l6), some (.int l7), none] [.int t1, .int t0] (sm_m N S) (x8_cross_161 F c69 l1 l2 l4 l5 l6 l7 t0 t1 S) := by
  unfold x8_cross_161
  refine sd_iadd (pc := 161) d8_cross_161 ?_
  refine sd_ni (fun v1 => ?_)
  refine sd_istore_n (lf2 := [some (.ref 52), some (.int l1), some (.int l2), some (.int v1), some (.int l4), some (.int l5), some (.int l6), some (.int l7), none]) (pc := 162) d8_cross_162 (Nat.le_of_ble_eq_true rfl) rfl ?_
  refine sd_iload (pc := 163) d8_cross_163 rfl ?_
  refine sd_iload (pc := 165) d8_cross_165 rfl ?_
  refine sd_ic_le (pc := 167) 175 d8_cross_167 (by decide) (fun _ => ?_) (fun _ => ?_)
  · refine sd_iload (pc := 175) d8_cross_175 rfl ?_
    refine sd_istore (lf2 := [some (.ref 52), some (.int l1), some (.int l2), some (.int v1), some (.int l4), some (.int l5), some (.int l6), some (.int l7), none]) (pc := 177) d8_cross_177 (Nat.le_of_ble_eq_true rfl) rfl ?_
    refine sd_iload (pc := 179) d8_cross_179 rfl ?_
    refine sd_iload (pc := 181) d8_cross_181 rfl ?_
    refine sd_ic_le (pc := 183) 191 d8_cross_183 (by decide) (fun _ => ?_) (fun _ => ?_)
    · refine sd_iload (pc := 191) d8_cross_191 rfl ?_
      refine sd_istore (lf2 := [some (.ref 52), some (.int l1), some (.int l2), some (.int v1), some (.int l4), some (.int l5), some (.int l6), some (.int l7), none]) (pc := 193) d8_cross_193 (Nat.le_of_ble_eq_true rfl) rfl ?_
      refine sd_iinc (lf2 := [some (.ref 52), some (.int l1), some (.int l2), some (.int v1), some (.int l4), some (.int l5), some (.int (l6 + 1)), some (.int l7), none]) (pc := 195) d8_cross_195 (Nat.le_of_ble_eq_true rfl) rfl ci_1 rfl ?_
      refine sd_goto (pc := 198) 69 d8_cross_198 (by decide) ?_
      exact sd_fg [true, true, true, true, true, true, true, false, true] rfl (hc69 l1 l2 v1 l4 l5 (l6 + 1) S)
    · refine sd_iload (pc := 186) d8_cross_186 rfl ?_
      refine sd_goto (pc := 188) 193 d8_cross_188 (by decide) ?_
      refine sd_istore (lf2 := [some (.ref 52), some (.int l1), some (.int l2), some (.int v1), some (.int l4), some (.int l7), some (.int l6), some (.int l7), none]) (pc := 193) d8_cross_193 (Nat.le_of_ble_eq_true rfl) rfl ?_
      refine sd_iinc (lf2 := [some (.ref 52), some (.int l1), some (.int l2), some (.int v1), some (.int l4), some (.int l7), some (.int (l6 + 1)), some (.int l7), none]) (pc := 195) d8_cross_195 (Nat.le_of_ble_eq_true rfl) rfl ci_1 rfl ?_
      refine sd_goto (pc := 198) 69 d8_cross_198 (by decide) ?_
      exact sd_fg [true, true, true, true, true, true, true, false, true] rfl (hc69 l1 l2 v1 l4 l7 (l6 + 1) S)
  · refine sd_iload (pc := 170) d8_cross_170 rfl ?_
    refine sd_goto (pc := 172) 177 d8_cross_172 (by decide) ?_
    refine sd_istore (lf2 := [some (.ref 52), some (.int l1), some (.int l2), some (.int v1), some (.int l6), some (.int l5), some (.int l6), some (.int l7), none]) (pc := 177) d8_cross_177 (Nat.le_of_ble_eq_true rfl) rfl ?_
    refine sd_iload (pc := 179) d8_cross_179 rfl ?_
    refine sd_iload (pc := 181) d8_cross_181 rfl ?_
    refine sd_ic_le (pc := 183) 191 d8_cross_183 (by decide) (fun _ => ?_) (fun _ => ?_)
    · refine sd_iload (pc := 191) d8_cross_191 rfl ?_
      refine sd_istore (lf2 := [some (.ref 52), some (.int l1), some (.int l2), some (.int v1), some (.int l6), some (.int l5), some (.int l6), some (.int l7), none]) (pc := 193) d8_cross_193 (Nat.le_of_ble_eq_true rfl) rfl ?_
      refine sd_iinc (lf2 := [some (.ref 52), some (.int l1), some (.int l2), some (.int v1), some (.int l6), some (.int l5), some (.int (l6 + 1)), some (.int l7), none]) (pc := 195) d8_cross_195 (Nat.le_of_ble_eq_true rfl) rfl ci_1 rfl ?_
      refine sd_goto (pc := 198) 69 d8_cross_198 (by decide) ?_
      exact sd_fg [true, true, true, true, true, true, true, false, true] rfl (hc69 l1 l2 v1 l6 l5 (l6 + 1) S)
    · refine sd_iload (pc := 186) d8_cross_186 rfl ?_
      refine sd_goto (pc := 188) 193 d8_cross_188 (by decide) ?_
      refine sd_istore (lf2 := [some (.ref 52), some (.int l1), some (.int l2), some (.int v1), some (.int l6), some (.int l7), some (.int l6), some (.int l7), none]) (pc := 193) d8_cross_193 (Nat.le_of_ble_eq_true rfl) rfl ?_
      refine sd_iinc (lf2 := [some (.ref 52), some (.int l1), some (.int l2), some (.int v1), some (.int l6), some (.int l7), some (.int (l6 + 1)), some (.int l7), none]) (pc := 195) d8_cross_195 (Nat.le_of_ble_eq_true rfl) rfl ci_1 rfl ?_
      refine sd_goto (pc := 198) 69 d8_cross_198 (by decide) ?_
      exact sd_fg [true, true, true, true, true, true, true, false, true] rfl (hc69 l1 l2 v1 l6 l7 (l6 + 1) S)
set_option maxHeartbeats 4000000 in
set_option maxRecDepth 20000 in
theorem s8_cross_149 {N : Nat} (F : Nat) (c69 : Int32 → Int32 → Int32 → Int32 → Int32 → Int32 → sm_t → Option (Int32 × sm_t)) (hc69 : ∀ (l1 : Int32) (l2 : Int32) (l3 : Int32) (l4 : Int32) (l5 : Int32) (l6 : Int32) (S : sm_t), sm_S (sm_jI N) k8_cross 0 0 69 [some (.ref 52), some (.int l1), some (.int l2), some (.int l3), some (.int l4), some (.int l5), some (.int l6), none, none] [] (sm_m N S) (c69 l1 l2 l3 l4 l5 l6 S)) (l1 : Int32) (l2 : Int32) (l3 : Int32) (l4 : Int32) (l5 : Int32) (l6 : Int32) (l7 : Int32) (S : sm_t) : sm_S (sm_jI N) k8_cross 0 0 149 [some (.ref 52), some (.int l1), some (.int l2), some (.int l3), some (.int l4), some (.int l5), some (.int l6), some (.int l7), none] [] (sm_m N S) (x8_cross_149 F c69 l1 l2 l3 l4 l5 l6 l7 S) := by
  unfold x8_cross_149
  refine sd_iload_n (pc := 149) d8_cross_149 rfl ?_
  refine sd_iload (pc := 150) d8_cross_150 rfl ?_
  refine sd_iload_n (pc := 152) d8_cross_152 rfl ?_
  refine sd_ic_lt (pc := 153) 160 d8_cross_153 (by decide) (fun _ => ?_) (fun _ => ?_)
  · refine sd_iconst (pc := 160) 0 d8_cross_160 ci_0 ?_
    exact sd_fg [true, true, true, false, true, true, true, true, true] rfl (s8_cross_161 F _ hc69 l1 l2 l4 l5 l6 l7 l3 0 S)
  · refine sd_iconst (pc := 156) 1 d8_cross_156 ci_1 ?_
    refine sd_goto (pc := 157) 161 d8_cross_157 (by decide) ?_
    exact sd_fg [true, true, true, false, true, true, true, true, true] rfl (s8_cross_161 F _ hc69 l1 l2 l4 l5 l6 l7 l3 1 S)
set_option maxHeartbeats 4000000 in
set_option maxRecDepth 20000 in
theorem s8_cross_82 {N : Nat} (F : Nat) (c69 : Int32 → Int32 → Int32 → Int32 → Int32 → Int32 → sm_t → Option (Int32 × sm_t)) (hc69 : ∀ (l1 : Int32) (l2 : Int32) (l3 : Int32) (l4 : Int32) (l5 : Int32) (l6 : Int32) (S : sm_t), sm_S (sm_jI N) k8_cross 0 0 69 [some (.ref 52), some (.int l1), some (.int l2), some (.int l3), some (.int l4), some (.int l5), some (.int l6), none, none] [] (sm_m N S) (c69 l1 l2 l3 l4 l5 l6 S)) : ∀ (f : Nat) (l1 : Int32) (l2 : Int32) (l3 : Int32) (l4 : Int32) (l5 : Int32) (l6 : Int32) (l7 : Int32) (l8 : Int32) (S : sm_t), sm_S (sm_jI N) k8_cross 0 0 82 [some (.ref 52), some (.int l1), some (.int l2), some (.int l3), some (.int l4), some (.int l5), some (.int l6), some (.int l7), some (.int l8)] [] (sm_m N S) (x8_cross_82 F c69 f l1 l2 l3 l4 l5 l6 l7 l8 S) := by
  intro f
  induction f with
  | zero =>
    intro l1 l2 l3 l4 l5 l6 l7 l8 S
    exact sd_none
  | succ f ih =>
    intro l1 l2 l3 l4 l5 l6 l7 l8 S
    rw [x8_cross_82]
    refine sd_iload (pc := 82) d8_cross_82 rfl ?_
    refine sd_aload_n (pc := 84) d8_cross_84 rfl ?_
    refine sd_getI (pc := 85) (show sm_sq 52 = some (.inr 7) from rfl) rfl fl8_161 d8_cross_85 (fun v1 => ?_)
    refine sd_ic_ge (pc := 88) 149 d8_cross_88 (by decide) (fun _ => ?_) (fun _ => ?_)
    · exact sd_fg [true, true, true, true, true, true, true, true, false] rfl (s8_cross_149 F _ hc69 l1 l2 l3 l4 l5 l6 l7 S)
    · refine sd_iload (pc := 91) d8_cross_91 rfl ?_
      refine sd_aload_n (pc := 93) d8_cross_93 rfl ?_
      refine sd_iload (pc := 94) d8_cross_94 rfl ?_
      refine sd_cVI (k2 := k8_counts) (As := [.int l8]) (rest := [.int l7]) (b := 52) (ci := 7) (pc := 96) 196 (show sm_sq 52 = some (.inr 7) from rfl) (by decide) rfl d8_cross_96 ml8_196 (ms8_counts).1 (ms8_counts).2 (me8_counts) ⟨rfl, rfl⟩ ⟨Nat.le_of_ble_eq_true rfl, Nat.le_of_ble_eq_true rfl⟩ (Nat.le_of_ble_eq_true rfl) (Nat.le_of_ble_eq_true rfl) (Or.inr rfl) (Nat.zero_le _) (Nat.zero_le _) rfl (s8_counts F l8 S) (fun v2 S => ?_)
      refine sd_if_eq (pc := 99) 139 d8_cross_99 (by decide) (fun _ => ?_) (fun _ => ?_)
      · refine sd_iconst (pc := 139) 0 d8_cross_139 ci_0 ?_
        refine sd_iadd (pc := 140) d8_cross_140 ?_
        refine sd_ni (fun v3 => ?_)
        refine sd_istore (lf2 := [some (.ref 52), some (.int l1), some (.int l2), some (.int l3), some (.int l4), some (.int l5), some (.int l6), some (.int v3), some (.int l8)]) (pc := 141) d8_cross_141 (Nat.le_of_ble_eq_true rfl) rfl ?_
        refine sd_iinc (lf2 := [some (.ref 52), some (.int l1), some (.int l2), some (.int l3), some (.int l4), some (.int l5), some (.int l6), some (.int v3), some (.int (l8 + 1))]) (pc := 143) d8_cross_143 (Nat.le_of_ble_eq_true rfl) rfl ci_1 rfl ?_
        refine sd_goto (pc := 146) 82 d8_cross_146 (by decide) ?_
        exact ih l1 l2 l3 l4 l5 l6 v3 (l8 + 1) S
      · refine sd_aload_n (pc := 102) d8_cross_102 rfl ?_
        refine sd_iload (pc := 103) d8_cross_103 rfl ?_
        refine sd_iconst (pc := 105) 0 d8_cross_105 ci_0 ?_
        refine sd_cVI (k2 := k8_tell) (As := [.int l8, .int 0]) (rest := [.int l7]) (b := 52) (ci := 7) (pc := 106) 175 (show sm_sq 52 = some (.inr 7) from rfl) (by decide) rfl d8_cross_106 ml8_175 (ms8_tell).1 (ms8_tell).2 (me8_tell) ⟨rfl, rfl⟩ ⟨Nat.le_of_ble_eq_true rfl, Nat.le_of_ble_eq_true rfl⟩ (Nat.le_of_ble_eq_true rfl) (Nat.le_of_ble_eq_true rfl) (Or.inl rfl) (Nat.zero_le _) (Nat.zero_le _) rfl (s8_tell F l8 0 S) (fun v4 S => ?_)
        refine sd_iconst (pc := 109) 5 d8_cross_109 ci_5 ?_
        refine sd_ic_ne (pc := 110) 139 d8_cross_110 (by decide) (fun _ => ?_) (fun _ => ?_)
        · refine sd_aload_n (pc := 113) d8_cross_113 rfl ?_
          refine sd_iload (pc := 114) d8_cross_114 rfl ?_
          refine sd_iconst (pc := 116) 1 d8_cross_116 ci_1 ?_
          refine sd_cVI (k2 := k8_tell) (As := [.int l8, .int 1]) (rest := [.int l7]) (b := 52) (ci := 7) (pc := 117) 175 (show sm_sq 52 = some (.inr 7) from rfl) (by decide) rfl d8_cross_117 ml8_175 (ms8_tell).1 (ms8_tell).2 (me8_tell) ⟨rfl, rfl⟩ ⟨Nat.le_of_ble_eq_true rfl, Nat.le_of_ble_eq_true rfl⟩ (Nat.le_of_ble_eq_true rfl) (Nat.le_of_ble_eq_true rfl) (Or.inl rfl) (Nat.zero_le _) (Nat.zero_le _) rfl (s8_tell F l8 1 S) (fun v5 S => ?_)
          refine sd_iload (pc := 120) d8_cross_120 rfl ?_
          refine sd_cSI (k2 := k8_sideOf) (As := [.int v5, .int l6]) (rest := [.int l7]) (pc := 122) 120 d8_cross_122 ml8_120 (ms8_sideOf) (me8_sideOf) ⟨rfl, rfl⟩ ⟨Nat.le_of_ble_eq_true rfl, Nat.le_of_ble_eq_true rfl⟩ (Nat.le_of_ble_eq_true rfl) (Nat.le_of_ble_eq_true rfl) (Or.inl rfl) (Nat.zero_le _) (Nat.zero_le _) rfl (s8_sideOf F v5 l6 S) (fun v6 S => ?_)
          refine sd_aload_n (pc := 125) d8_cross_125 rfl ?_
          refine sd_iload (pc := 126) d8_cross_126 rfl ?_
          refine sd_iconst (pc := 128) 2 d8_cross_128 ci_2 ?_
          refine sd_cVI (k2 := k8_tell) (As := [.int l8, .int 2]) (rest := [.int v6, .int l7]) (b := 52) (ci := 7) (pc := 129) 175 (show sm_sq 52 = some (.inr 7) from rfl) (by decide) rfl d8_cross_129 ml8_175 (ms8_tell).1 (ms8_tell).2 (me8_tell) ⟨rfl, rfl⟩ ⟨Nat.le_of_ble_eq_true rfl, Nat.le_of_ble_eq_true rfl⟩ (Nat.le_of_ble_eq_true rfl) (Nat.le_of_ble_eq_true rfl) (Or.inl rfl) (Nat.zero_le _) (Nat.zero_le _) rfl (s8_tell F l8 2 S) (fun v7 S => ?_)
          refine sd_ic_ne (pc := 132) 139 d8_cross_132 (by decide) (fun _ => ?_) (fun _ => ?_)
          · refine sd_iconst (pc := 135) 1 d8_cross_135 ci_1 ?_
            refine sd_goto (pc := 136) 140 d8_cross_136 (by decide) ?_
            refine sd_iadd (pc := 140) d8_cross_140 ?_
            refine sd_ni (fun v8 => ?_)
            refine sd_istore (lf2 := [some (.ref 52), some (.int l1), some (.int l2), some (.int l3), some (.int l4), some (.int l5), some (.int l6), some (.int v8), some (.int l8)]) (pc := 141) d8_cross_141 (Nat.le_of_ble_eq_true rfl) rfl ?_
            refine sd_iinc (lf2 := [some (.ref 52), some (.int l1), some (.int l2), some (.int l3), some (.int l4), some (.int l5), some (.int l6), some (.int v8), some (.int (l8 + 1))]) (pc := 143) d8_cross_143 (Nat.le_of_ble_eq_true rfl) rfl ci_1 rfl ?_
            refine sd_goto (pc := 146) 82 d8_cross_146 (by decide) ?_
            exact ih l1 l2 l3 l4 l5 l6 v8 (l8 + 1) S
          · refine sd_iconst (pc := 139) 0 d8_cross_139 ci_0 ?_
            refine sd_iadd (pc := 140) d8_cross_140 ?_
            refine sd_ni (fun v9 => ?_)
            refine sd_istore (lf2 := [some (.ref 52), some (.int l1), some (.int l2), some (.int l3), some (.int l4), some (.int l5), some (.int l6), some (.int v9), some (.int l8)]) (pc := 141) d8_cross_141 (Nat.le_of_ble_eq_true rfl) rfl ?_
            refine sd_iinc (lf2 := [some (.ref 52), some (.int l1), some (.int l2), some (.int l3), some (.int l4), some (.int l5), some (.int l6), some (.int v9), some (.int (l8 + 1))]) (pc := 143) d8_cross_143 (Nat.le_of_ble_eq_true rfl) rfl ci_1 rfl ?_
            refine sd_goto (pc := 146) 82 d8_cross_146 (by decide) ?_
            exact ih l1 l2 l3 l4 l5 l6 v9 (l8 + 1) S
        · refine sd_iconst (pc := 139) 0 d8_cross_139 ci_0 ?_
          refine sd_iadd (pc := 140) d8_cross_140 ?_
          refine sd_ni (fun v10 => ?_)
          refine sd_istore (lf2 := [some (.ref 52), some (.int l1), some (.int l2), some (.int l3), some (.int l4), some (.int l5), some (.int l6), some (.int v10), some (.int l8)]) (pc := 141) d8_cross_141 (Nat.le_of_ble_eq_true rfl) rfl ?_
          refine sd_iinc (lf2 := [some (.ref 52), some (.int l1), some (.int l2), some (.int l3), some (.int l4), some (.int l5), some (.int l6), some (.int v10), some (.int (l8 + 1))]) (pc := 143) d8_cross_143 (Nat.le_of_ble_eq_true rfl) rfl ci_1 rfl ?_
          refine sd_goto (pc := 146) 82 d8_cross_146 (by decide) ?_
          exact ih l1 l2 l3 l4 l5 l6 v10 (l8 + 1) S
set_option maxHeartbeats 4000000 in
set_option maxRecDepth 20000 in
theorem s8_cross_201 {N : Nat} (F : Nat) (l2 : Int32) (l3 : Int32) (l4 : Int32) (S : sm_t) : sm_S (sm_jI N) k8_cross 0 0 201 [some (.ref 52), none, some (.int l2), some (.int l3), some (.int l4), none, none, none, none] [] (sm_m N S) (x8_cross_201 F l2 l3 l4 S) := by
  unfold x8_cross_201
  refine sd_aload_n (pc := 201) d8_cross_201 rfl ?_
  refine sd_iload_n (pc := 202) d8_cross_202 rfl ?_
  refine sd_if_ne (pc := 203) 211 d8_cross_203 (by decide) (fun _ => ?_) (fun _ => ?_)
  · refine sd_bipush (pc := 206) (-9) d8_cross_206 cb_m9 ?_
    refine sd_goto (pc := 208) 213 d8_cross_208 (by decide) ?_
    refine sd_iload_n (pc := 213) d8_cross_213 rfl ?_
    refine sd_cVI (k2 := k8_ask) (As := [.int (-9), .int l3]) (rest := []) (b := 52) (ci := 7) (pc := 214) 102 (show sm_sq 52 = some (.inr 7) from rfl) (by decide) rfl d8_cross_214 ml8_102 (ms8_ask).1 (ms8_ask).2 (me8_ask) ⟨rfl, rfl⟩ ⟨Nat.le_of_ble_eq_true rfl, Nat.le_of_ble_eq_true rfl⟩ (Nat.le_of_ble_eq_true rfl) (Nat.le_of_ble_eq_true rfl) (Or.inl rfl) (Nat.zero_le _) (Nat.zero_le _) rfl (s8_ask F (-9) l3 S) (fun v1 S => ?_)
    exact sd_iret (pc := 217) d8_cross_217 rfl (Nat.zero_le _) (Nat.zero_le _)
  · refine sd_iload (pc := 211) d8_cross_211 rfl ?_
    refine sd_iload_n (pc := 213) d8_cross_213 rfl ?_
    refine sd_cVI (k2 := k8_ask) (As := [.int l4, .int l3]) (rest := []) (b := 52) (ci := 7) (pc := 214) 102 (show sm_sq 52 = some (.inr 7) from rfl) (by decide) rfl d8_cross_214 ml8_102 (ms8_ask).1 (ms8_ask).2 (me8_ask) ⟨rfl, rfl⟩ ⟨Nat.le_of_ble_eq_true rfl, Nat.le_of_ble_eq_true rfl⟩ (Nat.le_of_ble_eq_true rfl) (Nat.le_of_ble_eq_true rfl) (Or.inl rfl) (Nat.zero_le _) (Nat.zero_le _) rfl (s8_ask F l4 l3 S) (fun v2 S => ?_)
    exact sd_iret (pc := 217) d8_cross_217 rfl (Nat.zero_le _) (Nat.zero_le _)
set_option maxHeartbeats 4000000 in
set_option maxRecDepth 20000 in
theorem s8_cross_69 {N : Nat} (F : Nat) : ∀ (f : Nat) (l1 : Int32) (l2 : Int32) (l3 : Int32) (l4 : Int32) (l5 : Int32) (l6 : Int32) (S : sm_t), sm_S (sm_jI N) k8_cross 0 0 69 [some (.ref 52), some (.int l1), some (.int l2), some (.int l3), some (.int l4), some (.int l5), some (.int l6), none, none] [] (sm_m N S) (x8_cross_69 F f l1 l2 l3 l4 l5 l6 S) := by
  intro f
  induction f with
  | zero =>
    intro l1 l2 l3 l4 l5 l6 S
    exact sd_none
  | succ f ih =>
    intro l1 l2 l3 l4 l5 l6 S
    rw [x8_cross_69]
    refine sd_iload (pc := 69) d8_cross_69 rfl ?_
    refine sd_bipush (pc := 71) 120 d8_cross_71 cb_120 ?_
    refine sd_ic_ge (pc := 73) 201 d8_cross_73 (by decide) (fun _ => ?_) (fun _ => ?_)
    · exact sd_fg [true, false, true, true, true, false, false, true, true] rfl (s8_cross_201 F l2 l3 l4 S)
    · refine sd_iconst (pc := 76) 0 d8_cross_76 ci_0 ?_
      refine sd_istore (lf2 := [some (.ref 52), some (.int l1), some (.int l2), some (.int l3), some (.int l4), some (.int l5), some (.int l6), some (.int 0), none]) (pc := 77) d8_cross_77 (Nat.le_of_ble_eq_true rfl) rfl ?_
      refine sd_iconst (pc := 79) 0 d8_cross_79 ci_0 ?_
      refine sd_istore (lf2 := [some (.ref 52), some (.int l1), some (.int l2), some (.int l3), some (.int l4), some (.int l5), some (.int l6), some (.int 0), some (.int 0)]) (pc := 80) d8_cross_80 (Nat.le_of_ble_eq_true rfl) rfl ?_
      exact s8_cross_82 F _ ih F l1 l2 l3 l4 l5 l6 0 0 S
set_option maxHeartbeats 4000000 in
set_option maxRecDepth 20000 in
theorem s8_cross_56 {N : Nat} (F : Nat) (l1 : Int32) (l2 : Int32) (S : sm_t) : sm_S (sm_jI N) k8_cross 0 0 56 [some (.ref 52), some (.int l1), some (.int l2), none, none, none, none, none, none] [] (sm_m N S) (x8_cross_56 F l1 l2 S) := by
  unfold x8_cross_56
  refine sd_iconst (pc := 56) 0 d8_cross_56 ci_0 ?_
  refine sd_istore_n (lf2 := [some (.ref 52), some (.int l1), some (.int l2), some (.int 0), none, none, none, none, none]) (pc := 57) d8_cross_57 (Nat.le_of_ble_eq_true rfl) rfl ?_
  refine sd_bipush (pc := 58) (-9) d8_cross_58 cb_m9 ?_
  refine sd_istore (lf2 := [some (.ref 52), some (.int l1), some (.int l2), some (.int 0), some (.int (-9)), none, none, none, none]) (pc := 60) d8_cross_60 (Nat.le_of_ble_eq_true rfl) rfl ?_
  refine sd_bipush (pc := 62) (-9) d8_cross_62 cb_m9 ?_
  refine sd_istore (lf2 := [some (.ref 52), some (.int l1), some (.int l2), some (.int 0), some (.int (-9)), some (.int (-9)), none, none, none]) (pc := 64) d8_cross_64 (Nat.le_of_ble_eq_true rfl) rfl ?_
  refine sd_iconst (pc := 66) 0 d8_cross_66 ci_0 ?_
  refine sd_istore (lf2 := [some (.ref 52), some (.int l1), some (.int l2), some (.int 0), some (.int (-9)), some (.int (-9)), some (.int 0), none, none]) (pc := 67) d8_cross_67 (Nat.le_of_ble_eq_true rfl) rfl ?_
  exact s8_cross_69 F F l1 l2 0 (-9) (-9) 0 S
set_option maxHeartbeats 4000000 in
set_option maxRecDepth 20000 in
theorem s8_cross_16 {N : Nat} (F : Nat) : ∀ (f : Nat) (l1 : Int32) (l2 : Int32) (l3 : Int32) (S : sm_t), sm_S (sm_jI N) k8_cross 0 0 16 [some (.ref 52), some (.int l1), some (.int l2), some (.int l3), none, none, none, none, none] [] (sm_m N S) (x8_cross_16 F f l1 l2 l3 S) := by
  intro f
  induction f with
  | zero =>
    intro l1 l2 l3 S
    exact sd_none
  | succ f ih =>
    intro l1 l2 l3 S
    rw [x8_cross_16]
    refine sd_iload_n (pc := 16) d8_cross_16 rfl ?_
    refine sd_aload_n (pc := 17) d8_cross_17 rfl ?_
    refine sd_getI (pc := 18) (show sm_sq 52 = some (.inr 7) from rfl) rfl fl8_161 d8_cross_18 (fun v1 => ?_)
    refine sd_ic_ge (pc := 21) 56 d8_cross_21 (by decide) (fun _ => ?_) (fun _ => ?_)
    · exact sd_fg [true, true, true, false, true, true, true, true, true] rfl (s8_cross_56 F l1 l2 S)
    · refine sd_iload_n (pc := 24) d8_cross_24 rfl ?_
      refine sd_aload_n (pc := 25) d8_cross_25 rfl ?_
      refine sd_iload_n (pc := 26) d8_cross_26 rfl ?_
      refine sd_cVI (k2 := k8_counts) (As := [.int l3]) (rest := [.int l2]) (b := 52) (ci := 7) (pc := 27) 196 (show sm_sq 52 = some (.inr 7) from rfl) (by decide) rfl d8_cross_27 ml8_196 (ms8_counts).1 (ms8_counts).2 (me8_counts) ⟨rfl, rfl⟩ ⟨Nat.le_of_ble_eq_true rfl, Nat.le_of_ble_eq_true rfl⟩ (Nat.le_of_ble_eq_true rfl) (Nat.le_of_ble_eq_true rfl) (Or.inr rfl) (Nat.zero_le _) (Nat.zero_le _) rfl (s8_counts F l3 S) (fun v2 S => ?_)
      refine sd_if_eq (pc := 30) 47 d8_cross_30 (by decide) (fun _ => ?_) (fun _ => ?_)
      · refine sd_iconst (pc := 47) 0 d8_cross_47 ci_0 ?_
        refine sd_iadd (pc := 48) d8_cross_48 ?_
        refine sd_ni (fun v3 => ?_)
        refine sd_istore_n (lf2 := [some (.ref 52), some (.int l1), some (.int v3), some (.int l3), none, none, none, none, none]) (pc := 49) d8_cross_49 (Nat.le_of_ble_eq_true rfl) rfl ?_
        refine sd_iinc (lf2 := [some (.ref 52), some (.int l1), some (.int v3), some (.int (l3 + 1)), none, none, none, none, none]) (pc := 50) d8_cross_50 (Nat.le_of_ble_eq_true rfl) rfl ci_1 rfl ?_
        refine sd_goto (pc := 53) 16 d8_cross_53 (by decide) ?_
        exact ih l1 v3 (l3 + 1) S
      · refine sd_aload_n (pc := 33) d8_cross_33 rfl ?_
        refine sd_iload_n (pc := 34) d8_cross_34 rfl ?_
        refine sd_iconst (pc := 35) 0 d8_cross_35 ci_0 ?_
        refine sd_cVI (k2 := k8_tell) (As := [.int l3, .int 0]) (rest := [.int l2]) (b := 52) (ci := 7) (pc := 36) 175 (show sm_sq 52 = some (.inr 7) from rfl) (by decide) rfl d8_cross_36 ml8_175 (ms8_tell).1 (ms8_tell).2 (me8_tell) ⟨rfl, rfl⟩ ⟨Nat.le_of_ble_eq_true rfl, Nat.le_of_ble_eq_true rfl⟩ (Nat.le_of_ble_eq_true rfl) (Nat.le_of_ble_eq_true rfl) (Or.inl rfl) (Nat.zero_le _) (Nat.zero_le _) rfl (s8_tell F l3 0 S) (fun v4 S => ?_)
        refine sd_iconst (pc := 39) 5 d8_cross_39 ci_5 ?_
        refine sd_ic_ne (pc := 40) 47 d8_cross_40 (by decide) (fun _ => ?_) (fun _ => ?_)
        · refine sd_iconst (pc := 43) 1 d8_cross_43 ci_1 ?_
          refine sd_goto (pc := 44) 48 d8_cross_44 (by decide) ?_
          refine sd_iadd (pc := 48) d8_cross_48 ?_
          refine sd_ni (fun v5 => ?_)
          refine sd_istore_n (lf2 := [some (.ref 52), some (.int l1), some (.int v5), some (.int l3), none, none, none, none, none]) (pc := 49) d8_cross_49 (Nat.le_of_ble_eq_true rfl) rfl ?_
          refine sd_iinc (lf2 := [some (.ref 52), some (.int l1), some (.int v5), some (.int (l3 + 1)), none, none, none, none, none]) (pc := 50) d8_cross_50 (Nat.le_of_ble_eq_true rfl) rfl ci_1 rfl ?_
          refine sd_goto (pc := 53) 16 d8_cross_53 (by decide) ?_
          exact ih l1 v5 (l3 + 1) S
        · refine sd_iconst (pc := 47) 0 d8_cross_47 ci_0 ?_
          refine sd_iadd (pc := 48) d8_cross_48 ?_
          refine sd_ni (fun v6 => ?_)
          refine sd_istore_n (lf2 := [some (.ref 52), some (.int l1), some (.int v6), some (.int l3), none, none, none, none, none]) (pc := 49) d8_cross_49 (Nat.le_of_ble_eq_true rfl) rfl ?_
          refine sd_iinc (lf2 := [some (.ref 52), some (.int l1), some (.int v6), some (.int (l3 + 1)), none, none, none, none, none]) (pc := 50) d8_cross_50 (Nat.le_of_ble_eq_true rfl) rfl ci_1 rfl ?_
          refine sd_goto (pc := 53) 16 d8_cross_53 (by decide) ?_
          exact ih l1 v6 (l3 + 1) S
set_option maxHeartbeats 4000000 in
set_option maxRecDepth 20000 in
theorem s8_cross {N : Nat} (F : Nat) (l1 : Int32) (S : sm_t) : sm_P (sm_jI N) k8_cross [.ref 52, .int l1] (sm_m N S) (x8_cross F l1 S) := by
  show sm_S (sm_jI N) k8_cross 0 0 0 [some (.ref 52), some (.int l1), none, none, none, none, none, none, none] [] (sm_m N S) (x8_cross F l1 S)
  unfold x8_cross
  refine sd_iload_n (pc := 0) d8_cross_0 rfl ?_
  refine sd_iconst (pc := 1) 1 d8_cross_1 ci_1 ?_
  refine sd_bipush (pc := 2) 12 d8_cross_2 cb_12 ?_
  refine sd_cSI (k2 := k8_in) (As := [.int l1, .int 1, .int 12]) (rest := []) (pc := 4) 80 d8_cross_4 ml8_80 (ms8_in) (me8_in) ⟨rfl, rfl⟩ ⟨Nat.le_of_ble_eq_true rfl, Nat.le_of_ble_eq_true rfl⟩ (Nat.le_of_ble_eq_true rfl) (Nat.le_of_ble_eq_true rfl) (Or.inr rfl) (Nat.zero_le _) (Nat.zero_le _) rfl (s8_in F l1 1 12 S) (fun v1 S => ?_)
  refine sd_if_ne (pc := 7) 12 d8_cross_7 (by decide) (fun _ => ?_) (fun _ => ?_)
  · refine sd_iconst (pc := 10) (-1) d8_cross_10 ci_m1 ?_
    exact sd_iret (pc := 11) d8_cross_11 rfl (Nat.zero_le _) (Nat.zero_le _)
  · refine sd_iconst (pc := 12) 0 d8_cross_12 ci_0 ?_
    refine sd_istore_n (lf2 := [some (.ref 52), some (.int l1), some (.int 0), none, none, none, none, none, none]) (pc := 13) d8_cross_13 (Nat.le_of_ble_eq_true rfl) rfl ?_
    refine sd_iconst (pc := 14) 0 d8_cross_14 ci_0 ?_
    refine sd_istore_n (lf2 := [some (.ref 52), some (.int l1), some (.int 0), some (.int 0), none, none, none, none, none]) (pc := 15) d8_cross_15 (Nat.le_of_ble_eq_true rfl) rfl ?_
    exact s8_cross_16 F F l1 0 0 S
set_option maxHeartbeats 4000000 in
set_option maxRecDepth 20000 in
theorem s2_bare_41 {N : Nat} (F : Nat) (l2 : Int64) (S : sm_t) : sm_S (sm_jL N) k2_bare 0 0 41 [some (.ref 18), none, some (.long l2), none, none] [] (sm_m N S) (x2_bare_41 F l2 S) := by
  unfold x2_bare_41
  refine sd_lload_n (pc := 41) d2_bare_41 rfl ?_
  refine sd_iconst (pc := 42) 2 d2_bare_42 ci_2 ?_
  refine sd_aload_n (pc := 43) d2_bare_43 rfl ?_
  refine sd_getR (pc := 44) 19 (show sm_sq 18 = some (.inr 1) from rfl) rfl fl2_12 rfl d2_bare_44 ?_
  refine sd_getI (pc := 47) (show sm_sq 19 = some (.inr 2) from rfl) rfl fl2_60 d2_bare_47 (fun v1 => ?_)
  refine sd_imul (pc := 50) d2_bare_50 ?_
  refine sd_lshl (pc := 51) d2_bare_51 ?_
  exact sd_lret (pc := 52) d2_bare_52 (Nat.zero_le _) (Nat.zero_le _)
set_option maxHeartbeats 4000000 in
set_option maxRecDepth 20000 in
theorem s2_bare_9 {N : Nat} (F : Nat) : ∀ (f : Nat) (l2 : Int64) (l4 : Int32) (S : sm_t), sm_S (sm_jL N) k2_bare 0 0 9 [some (.ref 18), none, some (.long l2), none, some (.int l4)] [] (sm_m N S) (x2_bare_9 F f l2 l4 S) := by
  intro f
  induction f with
  | zero =>
    intro l2 l4 S
    exact sd_none
  | succ f ih =>
    intro l2 l4 S
    rw [x2_bare_9]
    refine sd_iload (pc := 9) d2_bare_9 rfl ?_
    refine sd_aload_n (pc := 11) d2_bare_11 rfl ?_
    refine sd_getR (pc := 12) 19 (show sm_sq 18 = some (.inr 1) from rfl) rfl fl2_12 rfl d2_bare_12 ?_
    refine sd_getI (pc := 15) (show sm_sq 19 = some (.inr 2) from rfl) rfl fl2_60 d2_bare_15 (fun v1 => ?_)
    refine sd_ic_gt (pc := 18) 41 d2_bare_18 (by decide) (fun _ => ?_) (fun _ => ?_)
    · exact sd_fg [true, true, true, true, false] rfl (s2_bare_41 F l2 S)
    · refine sd_lload_n (pc := 21) d2_bare_21 rfl ?_
      refine sd_aload_n (pc := 22) d2_bare_22 rfl ?_
      refine sd_getR (pc := 23) 19 (show sm_sq 18 = some (.inr 1) from rfl) rfl fl2_12 rfl d2_bare_23 ?_
      refine sd_getR (pc := 26) 21 (show sm_sq 19 = some (.inr 2) from rfl) rfl fl2_64 rfl d2_bare_26 ?_
      refine sd_iload (pc := 29) d2_bare_29 rfl ?_
      refine sd_iald (pc := 31) (show sm_sq 21 = some (.inl (.int, 7)) from rfl) d2_bare_31 (fun v2 => ?_)
      refine sd_i2l (pc := 32) d2_bare_32 ?_
      refine sd_ladd (pc := 33) d2_bare_33 ?_
      refine sd_nl (fun v3 => ?_)
      refine sd_lstore_n (lf2 := [some (.ref 18), none, some (.long v3), none, some (.int l4)]) (pc := 34) d2_bare_34 (Nat.le_of_ble_eq_true rfl) rfl ?_
      refine sd_iinc (lf2 := [some (.ref 18), none, some (.long v3), none, some (.int (l4 + 1))]) (pc := 35) d2_bare_35 (Nat.le_of_ble_eq_true rfl) rfl ci_1 rfl ?_
      refine sd_goto (pc := 38) 9 d2_bare_38 (by decide) ?_
      exact ih v3 (l4 + 1) S
set_option maxHeartbeats 4000000 in
set_option maxRecDepth 20000 in
theorem s2_bare_56 {N : Nat} (F : Nat) : ∀ (f : Nat) (l1 : Int32) (l2 : Int64) (l4 : Int32) (S : sm_t), sm_S (sm_jL N) k2_bare 0 0 56 [some (.ref 18), some (.int l1), some (.long l2), none, some (.int l4)] [] (sm_m N S) (x2_bare_56 F f l1 l2 l4 S) := by
  intro f
  induction f with
  | zero =>
    intro l1 l2 l4 S
    exact sd_none
  | succ f ih =>
    intro l1 l2 l4 S
    rw [x2_bare_56]
    refine sd_iload (pc := 56) d2_bare_56 rfl ?_
    refine sd_bipush (pc := 58) 120 d2_bare_58 cb_120 ?_
    refine sd_ic_ge (pc := 60) 84 d2_bare_60 (by decide) (fun _ => ?_) (fun _ => ?_)
    · refine sd_lload_n (pc := 84) d2_bare_84 rfl ?_
      exact sd_lret (pc := 85) d2_bare_85 (Nat.zero_le _) (Nat.zero_le _)
    · refine sd_lload_n (pc := 63) d2_bare_63 rfl ?_
      refine sd_aload_n (pc := 64) d2_bare_64 rfl ?_
      refine sd_getR (pc := 65) 36 (show sm_sq 18 = some (.inr 1) from rfl) rfl fl2_29 rfl d2_bare_65 ?_
      refine sd_iload_n (pc := 68) d2_bare_68 rfl ?_
      refine sd_iconst (pc := 69) 1 d2_bare_69 ci_1 ?_
      refine sd_isub (pc := 70) d2_bare_70 ?_
      refine sd_aald (pc := 71) 4 (show sm_sq 36 = some (.inl (.array .int, 3)) from rfl) rfl rfl (fun _ => rfl) (fun _ _ _ _ h => if_pos h) d2_bare_71 (fun a1 => ?_)
      refine sd_iload (pc := 72) d2_bare_72 rfl ?_
      refine sd_an (fun n3 h2 => ?_)
      refine sd_iald (pc := 74) h2 d2_bare_74 (fun v4 => ?_)
      refine sd_i2l (pc := 75) d2_bare_75 ?_
      refine sd_ladd (pc := 76) d2_bare_76 ?_
      refine sd_nl (fun v5 => ?_)
      refine sd_lstore_n (lf2 := [some (.ref 18), some (.int l1), some (.long v5), none, some (.int l4)]) (pc := 77) d2_bare_77 (Nat.le_of_ble_eq_true rfl) rfl ?_
      refine sd_iinc (lf2 := [some (.ref 18), some (.int l1), some (.long v5), none, some (.int (l4 + 1))]) (pc := 78) d2_bare_78 (Nat.le_of_ble_eq_true rfl) rfl ci_1 rfl ?_
      refine sd_goto (pc := 81) 56 d2_bare_81 (by decide) ?_
      exact ih l1 v5 (l4 + 1) S
set_option maxHeartbeats 4000000 in
set_option maxRecDepth 20000 in
theorem s2_bare {N : Nat} (F : Nat) (l1 : Int32) (S : sm_t) : sm_P (sm_jL N) k2_bare [.ref 18, .int l1] (sm_m N S) (x2_bare F l1 S) := by
  show sm_S (sm_jL N) k2_bare 0 0 0 [some (.ref 18), some (.int l1), none, none, none] [] (sm_m N S) (x2_bare F l1 S)
  unfold x2_bare
  refine sd_lconst (pc := 0) 0 d2_bare_0 rfl ?_
  refine sd_lstore_n (lf2 := [some (.ref 18), some (.int l1), some (.long 0), none, none]) (pc := 1) d2_bare_1 (Nat.le_of_ble_eq_true rfl) rfl ?_
  refine sd_iload_n (pc := 2) d2_bare_2 rfl ?_
  refine sd_if_ne (pc := 3) 53 d2_bare_3 (by decide) (fun _ => ?_) (fun _ => ?_)
  · refine sd_iconst (pc := 6) 0 d2_bare_6 ci_0 ?_
    refine sd_istore (lf2 := [some (.ref 18), some (.int l1), some (.long 0), none, some (.int 0)]) (pc := 7) d2_bare_7 (Nat.le_of_ble_eq_true rfl) rfl ?_
    exact sd_fg [true, false, true, true, true] rfl (s2_bare_9 F F 0 0 S)
  · refine sd_iconst (pc := 53) 0 d2_bare_53 ci_0 ?_
    refine sd_istore (lf2 := [some (.ref 18), some (.int l1), some (.long 0), none, some (.int 0)]) (pc := 54) d2_bare_54 (Nat.le_of_ble_eq_true rfl) rfl ?_
    exact s2_bare_56 F F l1 0 0 S
set_option maxHeartbeats 4000000 in
set_option maxRecDepth 20000 in
theorem s7_likelier {N : Nat} (F : Nat) (l1 : Int32) (l2 : Int32) (S : sm_t) : sm_P (sm_jI N) k7_likelier [.ref 3, .int l1, .int l2] (sm_m N S) (x7_likelier F l1 l2 S) := by
  show sm_S (sm_jI N) k7_likelier 0 0 0 [some (.ref 3), some (.int l1), some (.int l2), none, none, none, none, none, none, none, none, none, none, none, none] [] (sm_m N S) (x7_likelier F l1 l2 S)
  unfold x7_likelier
  refine sd_iload_n (pc := 0) d7_likelier_0 rfl ?_
  refine sd_cSI (k2 := k7_isStory) (As := [.int l1]) (rest := []) (pc := 1) 214 d7_likelier_1 ml7_214 (ms7_isStory) (me7_isStory) ⟨rfl, rfl⟩ ⟨Nat.le_of_ble_eq_true rfl, Nat.le_of_ble_eq_true rfl⟩ (Nat.le_of_ble_eq_true rfl) (Nat.le_of_ble_eq_true rfl) (Or.inr rfl) (Nat.zero_le _) (Nat.zero_le _) rfl (s7_isStory F l1 S) (fun v1 S => ?_)
  refine sd_if_eq (pc := 4) 14 d7_likelier_4 (by decide) (fun _ => ?_) (fun _ => ?_)
  · refine sd_iconst (pc := 14) (-1) d7_likelier_14 ci_m1 ?_
    exact sd_iret (pc := 15) d7_likelier_15 rfl (Nat.zero_le _) (Nat.zero_le _)
  · refine sd_iload_n (pc := 7) d7_likelier_7 rfl ?_
    refine sd_cSI (k2 := k7_isStory) (As := [.int l2]) (rest := []) (pc := 8) 214 d7_likelier_8 ml7_214 (ms7_isStory) (me7_isStory) ⟨rfl, rfl⟩ ⟨Nat.le_of_ble_eq_true rfl, Nat.le_of_ble_eq_true rfl⟩ (Nat.le_of_ble_eq_true rfl) (Nat.le_of_ble_eq_true rfl) (Or.inr rfl) (Nat.zero_le _) (Nat.zero_le _) rfl (s7_isStory F l2 S) (fun v2 S => ?_)
    refine sd_if_ne (pc := 11) 16 d7_likelier_11 (by decide) (fun _ => ?_) (fun _ => ?_)
    · refine sd_iconst (pc := 14) (-1) d7_likelier_14 ci_m1 ?_
      exact sd_iret (pc := 15) d7_likelier_15 rfl (Nat.zero_le _) (Nat.zero_le _)
    · refine sd_aload_n (pc := 16) d7_likelier_16 rfl ?_
      refine sd_iload_n (pc := 17) d7_likelier_17 rfl ?_
      refine sd_cVI (k2 := k7_isMissing) (As := [.int l1]) (rest := []) (b := 3) (ci := 6) (pc := 18) 160 (show sm_sq 3 = some (.inr 6) from rfl) (by decide) rfl d7_likelier_18 ml7_160 (ms7_isMissing).1 (ms7_isMissing).2 (me7_isMissing) ⟨rfl, rfl⟩ ⟨Nat.le_of_ble_eq_true rfl, Nat.le_of_ble_eq_true rfl⟩ (Nat.le_of_ble_eq_true rfl) (Nat.le_of_ble_eq_true rfl) (Or.inr rfl) (Nat.zero_le _) (Nat.zero_le _) rfl (s7_isMissing F l1 S) (fun v3 S => ?_)
      refine sd_if_ne (pc := 21) 32 d7_likelier_21 (by decide) (fun _ => ?_) (fun _ => ?_)
      · refine sd_aload_n (pc := 24) d7_likelier_24 rfl ?_
        refine sd_iload_n (pc := 25) d7_likelier_25 rfl ?_
        refine sd_cVI (k2 := k7_isMissing) (As := [.int l2]) (rest := []) (b := 3) (ci := 6) (pc := 26) 160 (show sm_sq 3 = some (.inr 6) from rfl) (by decide) rfl d7_likelier_26 ml7_160 (ms7_isMissing).1 (ms7_isMissing).2 (me7_isMissing) ⟨rfl, rfl⟩ ⟨Nat.le_of_ble_eq_true rfl, Nat.le_of_ble_eq_true rfl⟩ (Nat.le_of_ble_eq_true rfl) (Nat.le_of_ble_eq_true rfl) (Or.inr rfl) (Nat.zero_le _) (Nat.zero_le _) rfl (s7_isMissing F l2 S) (fun v4 S => ?_)
        refine sd_if_eq (pc := 29) 38 d7_likelier_29 (by decide) (fun _ => ?_) (fun _ => ?_)
        · refine sd_aload_n (pc := 38) d7_likelier_38 rfl ?_
          refine sd_getR (pc := 39) 22 (show sm_sq 3 = some (.inr 6) from rfl) rfl fl7_42 rfl d7_likelier_39 ?_
          refine sd_cVI (k2 := k0_busy) (As := []) (rest := []) (b := 22) (ci := 0) (pc := 42) 260 (show sm_sq 22 = some (.inr 0) from rfl) (by decide) rfl d7_likelier_42 ml7_260 (ms0_busy).1 (ms0_busy).2 (me0_busy) ⟨rfl, rfl⟩ ⟨Nat.le_of_ble_eq_true rfl, Nat.le_of_ble_eq_true rfl⟩ (Nat.le_of_ble_eq_true rfl) (Nat.le_of_ble_eq_true rfl) (Or.inl rfl) (Nat.zero_le _) (Nat.zero_le _) rfl (s0_busy F S) (fun v5 S => ?_)
          refine sd_bipush (pc := 45) 6 d7_likelier_45 cb_6 ?_
          refine sd_ic_le (pc := 47) 53 d7_likelier_47 (by decide) (fun _ => ?_) (fun _ => ?_)
          · refine sd_aload_n (pc := 53) d7_likelier_53 rfl ?_
            refine sd_getR (pc := 54) 18 (show sm_sq 3 = some (.inr 6) from rfl) rfl fl7_29 rfl d7_likelier_54 ?_
            refine sd_iload_n (pc := 57) d7_likelier_57 rfl ?_
            refine sd_cVL (k2 := k2_bare) (As := [.int l1]) (rest := []) (b := 18) (ci := 1) (pc := 58) 263 (show sm_sq 18 = some (.inr 1) from rfl) (by decide) rfl d7_likelier_58 ml7_263 (ms2_bare).1 (ms2_bare).2 (me2_bare) ⟨rfl, rfl⟩ ⟨Nat.le_of_ble_eq_true rfl, Nat.le_of_ble_eq_true rfl⟩ (Nat.le_of_ble_eq_true rfl) (Nat.le_of_ble_eq_true rfl) rfl (Nat.zero_le _) (Nat.zero_le _) rfl (s2_bare F l1 S) (fun v6 S => ?_)
            refine sd_lstore_n (lf2 := [some (.ref 3), some (.int l1), some (.int l2), some (.long v6), none, none, none, none, none, none, none, none, none, none, none]) (pc := 61) d7_likelier_61 (Nat.le_of_ble_eq_true rfl) rfl ?_
            refine sd_aload_n (pc := 62) d7_likelier_62 rfl ?_
            refine sd_getR (pc := 63) 18 (show sm_sq 3 = some (.inr 6) from rfl) rfl fl7_29 rfl d7_likelier_63 ?_
            refine sd_iload_n (pc := 66) d7_likelier_66 rfl ?_
            refine sd_cVL (k2 := k2_bare) (As := [.int l2]) (rest := []) (b := 18) (ci := 1) (pc := 67) 263 (show sm_sq 18 = some (.inr 1) from rfl) (by decide) rfl d7_likelier_67 ml7_263 (ms2_bare).1 (ms2_bare).2 (me2_bare) ⟨rfl, rfl⟩ ⟨Nat.le_of_ble_eq_true rfl, Nat.le_of_ble_eq_true rfl⟩ (Nat.le_of_ble_eq_true rfl) (Nat.le_of_ble_eq_true rfl) rfl (Nat.zero_le _) (Nat.zero_le _) rfl (s2_bare F l2 S) (fun v7 S => ?_)
            refine sd_lstore (lf2 := [some (.ref 3), some (.int l1), some (.int l2), some (.long v6), none, some (.long v7), none, none, none, none, none, none, none, none, none]) (pc := 70) d7_likelier_70 (Nat.le_of_ble_eq_true rfl) rfl ?_
            refine sd_aload_n (pc := 72) d7_likelier_72 rfl ?_
            refine sd_getR (pc := 73) 18 (show sm_sq 3 = some (.inr 6) from rfl) rfl fl7_29 rfl d7_likelier_73 ?_
            refine sd_iload_n (pc := 76) d7_likelier_76 rfl ?_
            refine sd_bipush (pc := 77) (-9) d7_likelier_77 cb_m9 ?_
            refine sd_cVL (k2 := k2_weigh) (As := [.int l1, .int (-9)]) (rest := []) (b := 18) (ci := 1) (pc := 79) 244 (show sm_sq 18 = some (.inr 1) from rfl) (by decide) rfl d7_likelier_79 ml7_244 (ms2_weigh).1 (ms2_weigh).2 (me2_weigh) ⟨rfl, rfl⟩ ⟨Nat.le_of_ble_eq_true rfl, Nat.le_of_ble_eq_true rfl⟩ (Nat.le_of_ble_eq_true rfl) (Nat.le_of_ble_eq_true rfl) rfl (Nat.zero_le _) (Nat.zero_le _) rfl (s2_weigh F l1 (-9) S) (fun v8 S => ?_)
            refine sd_lstore (lf2 := [some (.ref 3), some (.int l1), some (.int l2), some (.long v6), none, some (.long v7), none, some (.long v8), none, none, none, none, none, none, none]) (pc := 82) d7_likelier_82 (Nat.le_of_ble_eq_true rfl) rfl ?_
            refine sd_aload_n (pc := 84) d7_likelier_84 rfl ?_
            refine sd_getR (pc := 85) 18 (show sm_sq 3 = some (.inr 6) from rfl) rfl fl7_29 rfl d7_likelier_85 ?_
            refine sd_iload_n (pc := 88) d7_likelier_88 rfl ?_
            refine sd_bipush (pc := 89) (-9) d7_likelier_89 cb_m9 ?_
            refine sd_cVL (k2 := k2_weigh) (As := [.int l2, .int (-9)]) (rest := []) (b := 18) (ci := 1) (pc := 91) 244 (show sm_sq 18 = some (.inr 1) from rfl) (by decide) rfl d7_likelier_91 ml7_244 (ms2_weigh).1 (ms2_weigh).2 (me2_weigh) ⟨rfl, rfl⟩ ⟨Nat.le_of_ble_eq_true rfl, Nat.le_of_ble_eq_true rfl⟩ (Nat.le_of_ble_eq_true rfl) (Nat.le_of_ble_eq_true rfl) rfl (Nat.zero_le _) (Nat.zero_le _) rfl (s2_weigh F l2 (-9) S) (fun v9 S => ?_)
            refine sd_lstore (lf2 := [some (.ref 3), some (.int l1), some (.int l2), some (.long v6), none, some (.long v7), none, some (.long v8), none, some (.long v9), none, none, none, none, none]) (pc := 94) d7_likelier_94 (Nat.le_of_ble_eq_true rfl) rfl ?_
            refine sd_lload (pc := 96) d7_likelier_96 rfl ?_
            refine sd_lconst (pc := 98) 0 d7_likelier_98 rfl ?_
            refine sd_lc_le (pc := 99) 116 d7_likelier_99 d7_likelier_100 (by decide) (fun _ => ?_) (fun _ => ?_)
            · refine sd_aload_n (pc := 116) d7_likelier_116 rfl ?_
              refine sd_iconst (pc := 117) 4 d7_likelier_117 ci_4 ?_
              refine sd_cVI (k2 := k7_found) (As := [.int 4]) (rest := []) (b := 3) (ci := 6) (pc := 118) 92 (show sm_sq 3 = some (.inr 6) from rfl) (by decide) rfl d7_likelier_118 ml7_92 (ms7_found).1 (ms7_found).2 (me7_found) ⟨rfl, rfl⟩ ⟨Nat.le_of_ble_eq_true rfl, Nat.le_of_ble_eq_true rfl⟩ (Nat.le_of_ble_eq_true rfl) (Nat.le_of_ble_eq_true rfl) (Or.inl rfl) (Nat.zero_le _) (Nat.zero_le _) rfl (s7_found F 4 S) (fun v10 S => ?_)
              exact sd_iret (pc := 121) d7_likelier_121 rfl (Nat.zero_le _) (Nat.zero_le _)
            · refine sd_lload_n (pc := 103) d7_likelier_103 rfl ?_
              refine sd_lconst (pc := 104) 0 d7_likelier_104 rfl ?_
              refine sd_lc_le (pc := 105) 116 d7_likelier_105 d7_likelier_106 (by decide) (fun _ => ?_) (fun _ => ?_)
              · refine sd_aload_n (pc := 116) d7_likelier_116 rfl ?_
                refine sd_iconst (pc := 117) 4 d7_likelier_117 ci_4 ?_
                refine sd_cVI (k2 := k7_found) (As := [.int 4]) (rest := []) (b := 3) (ci := 6) (pc := 118) 92 (show sm_sq 3 = some (.inr 6) from rfl) (by decide) rfl d7_likelier_118 ml7_92 (ms7_found).1 (ms7_found).2 (me7_found) ⟨rfl, rfl⟩ ⟨Nat.le_of_ble_eq_true rfl, Nat.le_of_ble_eq_true rfl⟩ (Nat.le_of_ble_eq_true rfl) (Nat.le_of_ble_eq_true rfl) (Or.inl rfl) (Nat.zero_le _) (Nat.zero_le _) rfl (s7_found F 4 S) (fun v11 S => ?_)
                exact sd_iret (pc := 121) d7_likelier_121 rfl (Nat.zero_le _) (Nat.zero_le _)
              · refine sd_lload (pc := 109) d7_likelier_109 rfl ?_
                refine sd_lconst (pc := 111) 0 d7_likelier_111 rfl ?_
                refine sd_lc_gt (pc := 112) 122 d7_likelier_112 d7_likelier_113 (by decide) (fun _ => ?_) (fun _ => ?_)
                · refine sd_lload (pc := 122) d7_likelier_122 rfl ?_
                  refine sd_lload (pc := 124) d7_likelier_124 rfl ?_
                  refine sd_lmul (pc := 126) d7_likelier_126 ?_
                  refine sd_nl (fun v12 => ?_)
                  refine sd_lstore (lf2 := [some (.ref 3), some (.int l1), some (.int l2), some (.long v6), none, some (.long v7), none, some (.long v8), none, some (.long v9), none, some (.long v12), none, none, none]) (pc := 127) d7_likelier_127 (Nat.le_of_ble_eq_true rfl) rfl ?_
                  refine sd_lload (pc := 129) d7_likelier_129 rfl ?_
                  refine sd_lload_n (pc := 131) d7_likelier_131 rfl ?_
                  refine sd_lmul (pc := 132) d7_likelier_132 ?_
                  refine sd_nl (fun v13 => ?_)
                  refine sd_lstore (lf2 := [some (.ref 3), some (.int l1), some (.int l2), some (.long v6), none, some (.long v7), none, some (.long v8), none, some (.long v9), none, some (.long v12), none, some (.long v13), none]) (pc := 133) d7_likelier_133 (Nat.le_of_ble_eq_true rfl) rfl ?_
                  refine sd_aload_n (pc := 135) d7_likelier_135 rfl ?_
                  refine sd_lload (pc := 136) d7_likelier_136 rfl ?_
                  refine sd_lload (pc := 138) d7_likelier_138 rfl ?_
                  refine sd_cVV (k2 := k7_fraction) (As := [.long v12, .long v13]) (rest := []) (b := 3) (ci := 6) (pc := 140) 226 (show sm_sq 3 = some (.inr 6) from rfl) (by decide) rfl d7_likelier_140 ml7_226 (ms7_fraction).1 (ms7_fraction).2 (me7_fraction) ⟨rfl, rfl⟩ ⟨Nat.le_of_ble_eq_true rfl, Nat.le_of_ble_eq_true rfl⟩ (Nat.le_of_ble_eq_true rfl) (Nat.le_of_ble_eq_true rfl) rfl (Nat.zero_le _) (Nat.zero_le _) rfl (s7_fraction F v12 v13 S) (fun S => ?_)
                  refine sd_lload (pc := 143) d7_likelier_143 rfl ?_
                  refine sd_lload (pc := 145) d7_likelier_145 rfl ?_
                  refine sd_lc_le (pc := 147) 155 d7_likelier_147 d7_likelier_148 (by decide) (fun _ => ?_) (fun _ => ?_)
                  · refine sd_lload (pc := 155) d7_likelier_155 rfl ?_
                    refine sd_lload (pc := 157) d7_likelier_157 rfl ?_
                    refine sd_lc_ne (pc := 159) 167 d7_likelier_159 d7_likelier_160 (by decide) (fun _ => ?_) (fun _ => ?_)
                    · refine sd_iconst (pc := 163) 1 d7_likelier_163 ci_1 ?_
                      refine sd_goto (pc := 164) 168 d7_likelier_164 (by decide) ?_
                      exact sd_iret (pc := 168) d7_likelier_168 rfl (Nat.zero_le _) (Nat.zero_le _)
                    · refine sd_iconst (pc := 167) 0 d7_likelier_167 ci_0 ?_
                      exact sd_iret (pc := 168) d7_likelier_168 rfl (Nat.zero_le _) (Nat.zero_le _)
                  · refine sd_iconst (pc := 151) 2 d7_likelier_151 ci_2 ?_
                    refine sd_goto (pc := 152) 168 d7_likelier_152 (by decide) ?_
                    exact sd_iret (pc := 168) d7_likelier_168 rfl (Nat.zero_le _) (Nat.zero_le _)
                · refine sd_aload_n (pc := 116) d7_likelier_116 rfl ?_
                  refine sd_iconst (pc := 117) 4 d7_likelier_117 ci_4 ?_
                  refine sd_cVI (k2 := k7_found) (As := [.int 4]) (rest := []) (b := 3) (ci := 6) (pc := 118) 92 (show sm_sq 3 = some (.inr 6) from rfl) (by decide) rfl d7_likelier_118 ml7_92 (ms7_found).1 (ms7_found).2 (me7_found) ⟨rfl, rfl⟩ ⟨Nat.le_of_ble_eq_true rfl, Nat.le_of_ble_eq_true rfl⟩ (Nat.le_of_ble_eq_true rfl) (Nat.le_of_ble_eq_true rfl) (Or.inl rfl) (Nat.zero_le _) (Nat.zero_le _) rfl (s7_found F 4 S) (fun v15 S => ?_)
                  exact sd_iret (pc := 121) d7_likelier_121 rfl (Nat.zero_le _) (Nat.zero_le _)
          · refine sd_bipush (pc := 50) (-6) d7_likelier_50 cb_m6 ?_
            exact sd_iret (pc := 52) d7_likelier_52 rfl (Nat.zero_le _) (Nat.zero_le _)
        · refine sd_aload_n (pc := 32) d7_likelier_32 rfl ?_
          refine sd_iconst (pc := 33) 1 d7_likelier_33 ci_1 ?_
          refine sd_cVI (k2 := k7_found) (As := [.int 1]) (rest := []) (b := 3) (ci := 6) (pc := 34) 92 (show sm_sq 3 = some (.inr 6) from rfl) (by decide) rfl d7_likelier_34 ml7_92 (ms7_found).1 (ms7_found).2 (me7_found) ⟨rfl, rfl⟩ ⟨Nat.le_of_ble_eq_true rfl, Nat.le_of_ble_eq_true rfl⟩ (Nat.le_of_ble_eq_true rfl) (Nat.le_of_ble_eq_true rfl) (Or.inl rfl) (Nat.zero_le _) (Nat.zero_le _) rfl (s7_found F 1 S) (fun v16 S => ?_)
          exact sd_iret (pc := 37) d7_likelier_37 rfl (Nat.zero_le _) (Nat.zero_le _)
      · refine sd_aload_n (pc := 32) d7_likelier_32 rfl ?_
        refine sd_iconst (pc := 33) 1 d7_likelier_33 ci_1 ?_
        refine sd_cVI (k2 := k7_found) (As := [.int 1]) (rest := []) (b := 3) (ci := 6) (pc := 34) 92 (show sm_sq 3 = some (.inr 6) from rfl) (by decide) rfl d7_likelier_34 ml7_92 (ms7_found).1 (ms7_found).2 (me7_found) ⟨rfl, rfl⟩ ⟨Nat.le_of_ble_eq_true rfl, Nat.le_of_ble_eq_true rfl⟩ (Nat.le_of_ble_eq_true rfl) (Nat.le_of_ble_eq_true rfl) (Or.inl rfl) (Nat.zero_le _) (Nat.zero_le _) rfl (s7_found F 1 S) (fun v17 S => ?_)
        exact sd_iret (pc := 37) d7_likelier_37 rfl (Nat.zero_le _) (Nat.zero_le _)
set_option maxHeartbeats 4000000 in
set_option maxRecDepth 20000 in
theorem s8_bare_73 {N : Nat} (F : Nat) : ∀ (f : Nat) (l1 : Int32) (l2 : Int64) (l4 : Int32) (S : sm_t), sm_S (sm_jL N) k8_bare 0 0 73 [some (.ref 52), some (.int l1), some (.long l2), none, some (.int l4)] [] (sm_m N S) (x8_bare_73 F f l1 l2 l4 S) := by
  intro f
  induction f with
  | zero =>
    intro l1 l2 l4 S
    exact sd_none
  | succ f ih =>
    intro l1 l2 l4 S
    rw [x8_bare_73]
    refine sd_iload (pc := 73) d8_bare_73 rfl ?_
    refine sd_aload_n (pc := 75) d8_bare_75 rfl ?_
    refine sd_cVI (k2 := k8_hours) (As := []) (rest := [.int l4]) (b := 52) (ci := 7) (pc := 76) 129 (show sm_sq 52 = some (.inr 7) from rfl) (by decide) rfl d8_bare_76 ml8_129 (ms8_hours).1 (ms8_hours).2 (me8_hours) ⟨rfl, rfl⟩ ⟨Nat.le_of_ble_eq_true rfl, Nat.le_of_ble_eq_true rfl⟩ (Nat.le_of_ble_eq_true rfl) (Nat.le_of_ble_eq_true rfl) (Or.inl rfl) (Nat.zero_le _) (Nat.zero_le _) rfl (s8_hours F S) (fun v1 S => ?_)
    refine sd_ic_ge (pc := 79) 98 d8_bare_79 (by decide) (fun _ => ?_) (fun _ => ?_)
    · refine sd_lload_n (pc := 98) d8_bare_98 rfl ?_
      exact sd_lret (pc := 99) d8_bare_99 (Nat.zero_le _) (Nat.zero_le _)
    · refine sd_iload_n (pc := 82) d8_bare_82 rfl ?_
      refine sd_if_ne (pc := 83) 98 d8_bare_83 (by decide) (fun _ => ?_) (fun _ => ?_)
      · refine sd_lload_n (pc := 86) d8_bare_86 rfl ?_
        refine sd_ldc2 (pc := 87) cl8_202 d8_bare_87 ?_
        refine sd_lmul (pc := 90) d8_bare_90 ?_
        refine sd_nl (fun v2 => ?_)
        refine sd_lstore_n (lf2 := [some (.ref 52), some (.int l1), some (.long v2), none, some (.int l4)]) (pc := 91) d8_bare_91 (Nat.le_of_ble_eq_true rfl) rfl ?_
        refine sd_iinc (lf2 := [some (.ref 52), some (.int l1), some (.long v2), none, some (.int (l4 + 1))]) (pc := 92) d8_bare_92 (Nat.le_of_ble_eq_true rfl) rfl ci_1 rfl ?_
        refine sd_goto (pc := 95) 73 d8_bare_95 (by decide) ?_
        exact ih l1 v2 (l4 + 1) S
      · refine sd_lload_n (pc := 98) d8_bare_98 rfl ?_
        exact sd_lret (pc := 99) d8_bare_99 (Nat.zero_le _) (Nat.zero_le _)
set_option maxHeartbeats 4000000 in
set_option maxRecDepth 20000 in
theorem s8_bare_41 {N : Nat} (F : Nat) : ∀ (f : Nat) (l1 : Int32) (l2 : Int64) (l4 : Int32) (S : sm_t), sm_S (sm_jL N) k8_bare 0 0 41 [some (.ref 52), some (.int l1), some (.long l2), none, some (.int l4)] [] (sm_m N S) (x8_bare_41 F f l1 l2 l4 S) := by
  intro f
  induction f with
  | zero =>
    intro l1 l2 l4 S
    exact sd_none
  | succ f ih =>
    intro l1 l2 l4 S
    rw [x8_bare_41]
    refine sd_iload (pc := 41) d8_bare_41 rfl ?_
    refine sd_aload_n (pc := 43) d8_bare_43 rfl ?_
    refine sd_cVI (k2 := k8_hours) (As := []) (rest := [.int l4]) (b := 52) (ci := 7) (pc := 44) 129 (show sm_sq 52 = some (.inr 7) from rfl) (by decide) rfl d8_bare_44 ml8_129 (ms8_hours).1 (ms8_hours).2 (me8_hours) ⟨rfl, rfl⟩ ⟨Nat.le_of_ble_eq_true rfl, Nat.le_of_ble_eq_true rfl⟩ (Nat.le_of_ble_eq_true rfl) (Nat.le_of_ble_eq_true rfl) (Or.inl rfl) (Nat.zero_le _) (Nat.zero_le _) rfl (s8_hours F S) (fun v1 S => ?_)
    refine sd_ic_gt (pc := 47) 70 d8_bare_47 (by decide) (fun _ => ?_) (fun _ => ?_)
    · refine sd_iconst (pc := 70) 0 d8_bare_70 ci_0 ?_
      refine sd_istore (lf2 := [some (.ref 52), some (.int l1), some (.long l2), none, some (.int 0)]) (pc := 71) d8_bare_71 (Nat.le_of_ble_eq_true rfl) rfl ?_
      exact s8_bare_73 F F l1 l2 0 S
    · refine sd_iload_n (pc := 50) d8_bare_50 rfl ?_
      refine sd_if_ne (pc := 51) 70 d8_bare_51 (by decide) (fun _ => ?_) (fun _ => ?_)
      · refine sd_lload_n (pc := 54) d8_bare_54 rfl ?_
        refine sd_aload_n (pc := 55) d8_bare_55 rfl ?_
        refine sd_iload (pc := 56) d8_bare_56 rfl ?_
        refine sd_cVI (k2 := k8_endOf) (As := [.int l4]) (rest := [.long l2]) (b := 52) (ci := 7) (pc := 58) 204 (show sm_sq 52 = some (.inr 7) from rfl) (by decide) rfl d8_bare_58 ml8_204 (ms8_endOf).1 (ms8_endOf).2 (me8_endOf) ⟨rfl, rfl⟩ ⟨Nat.le_of_ble_eq_true rfl, Nat.le_of_ble_eq_true rfl⟩ (Nat.le_of_ble_eq_true rfl) (Nat.le_of_ble_eq_true rfl) (Or.inl rfl) (Nat.zero_le _) (Nat.zero_le _) rfl (s8_endOf F l4 S) (fun v2 S => ?_)
        refine sd_i2l (pc := 61) d8_bare_61 ?_
        refine sd_ladd (pc := 62) d8_bare_62 ?_
        refine sd_nl (fun v3 => ?_)
        refine sd_lstore_n (lf2 := [some (.ref 52), some (.int l1), some (.long v3), none, some (.int l4)]) (pc := 63) d8_bare_63 (Nat.le_of_ble_eq_true rfl) rfl ?_
        refine sd_iinc (lf2 := [some (.ref 52), some (.int l1), some (.long v3), none, some (.int (l4 + 1))]) (pc := 64) d8_bare_64 (Nat.le_of_ble_eq_true rfl) rfl ci_1 rfl ?_
        refine sd_goto (pc := 67) 41 d8_bare_67 (by decide) ?_
        exact ih l1 v3 (l4 + 1) S
      · refine sd_iconst (pc := 70) 0 d8_bare_70 ci_0 ?_
        refine sd_istore (lf2 := [some (.ref 52), some (.int l1), some (.long l2), none, some (.int 0)]) (pc := 71) d8_bare_71 (Nat.le_of_ble_eq_true rfl) rfl ?_
        exact s8_bare_73 F F l1 l2 0 S
set_option maxHeartbeats 4000000 in
set_option maxRecDepth 20000 in
theorem s8_bare_5 {N : Nat} (F : Nat) : ∀ (f : Nat) (l1 : Int32) (l2 : Int64) (l4 : Int32) (S : sm_t), sm_S (sm_jL N) k8_bare 0 0 5 [some (.ref 52), some (.int l1), some (.long l2), none, some (.int l4)] [] (sm_m N S) (x8_bare_5 F f l1 l2 l4 S) := by
  intro f
  induction f with
  | zero =>
    intro l1 l2 l4 S
    exact sd_none
  | succ f ih =>
    intro l1 l2 l4 S
    rw [x8_bare_5]
    refine sd_iload (pc := 5) d8_bare_5 rfl ?_
    refine sd_bipush (pc := 7) 120 d8_bare_7 cb_120 ?_
    refine sd_ic_ge (pc := 9) 38 d8_bare_9 (by decide) (fun _ => ?_) (fun _ => ?_)
    · refine sd_iconst (pc := 38) 0 d8_bare_38 ci_0 ?_
      refine sd_istore (lf2 := [some (.ref 52), some (.int l1), some (.long l2), none, some (.int 0)]) (pc := 39) d8_bare_39 (Nat.le_of_ble_eq_true rfl) rfl ?_
      exact s8_bare_41 F F l1 l2 0 S
    · refine sd_iload_n (pc := 12) d8_bare_12 rfl ?_
      refine sd_if_le (pc := 13) 38 d8_bare_13 (by decide) (fun _ => ?_) (fun _ => ?_)
      · refine sd_iconst (pc := 38) 0 d8_bare_38 ci_0 ?_
        refine sd_istore (lf2 := [some (.ref 52), some (.int l1), some (.long l2), none, some (.int 0)]) (pc := 39) d8_bare_39 (Nat.le_of_ble_eq_true rfl) rfl ?_
        exact s8_bare_41 F F l1 l2 0 S
      · refine sd_lload_n (pc := 16) d8_bare_16 rfl ?_
        refine sd_aload_n (pc := 17) d8_bare_17 rfl ?_
        refine sd_getR (pc := 18) 61 (show sm_sq 52 = some (.inr 7) from rfl) rfl fl8_39 rfl d8_bare_18 ?_
        refine sd_bipush (pc := 21) 120 d8_bare_21 cb_120 ?_
        refine sd_iload_n (pc := 23) d8_bare_23 rfl ?_
        refine sd_imul (pc := 24) d8_bare_24 ?_
        refine sd_iload (pc := 25) d8_bare_25 rfl ?_
        refine sd_iadd (pc := 27) d8_bare_27 ?_
        refine sd_iald (pc := 28) (show sm_sq 61 = some (.inl (.int, 480)) from rfl) d8_bare_28 (fun v1 => ?_)
        refine sd_i2l (pc := 29) d8_bare_29 ?_
        refine sd_ladd (pc := 30) d8_bare_30 ?_
        refine sd_nl (fun v2 => ?_)
        refine sd_lstore_n (lf2 := [some (.ref 52), some (.int l1), some (.long v2), none, some (.int l4)]) (pc := 31) d8_bare_31 (Nat.le_of_ble_eq_true rfl) rfl ?_
        refine sd_iinc (lf2 := [some (.ref 52), some (.int l1), some (.long v2), none, some (.int (l4 + 1))]) (pc := 32) d8_bare_32 (Nat.le_of_ble_eq_true rfl) rfl ci_1 rfl ?_
        refine sd_goto (pc := 35) 5 d8_bare_35 (by decide) ?_
        exact ih l1 v2 (l4 + 1) S
set_option maxHeartbeats 4000000 in
set_option maxRecDepth 20000 in
theorem s8_bare {N : Nat} (F : Nat) (l1 : Int32) (S : sm_t) : sm_P (sm_jL N) k8_bare [.ref 52, .int l1] (sm_m N S) (x8_bare F l1 S) := by
  show sm_S (sm_jL N) k8_bare 0 0 0 [some (.ref 52), some (.int l1), none, none, none] [] (sm_m N S) (x8_bare F l1 S)
  unfold x8_bare
  refine sd_lconst (pc := 0) 0 d8_bare_0 rfl ?_
  refine sd_lstore_n (lf2 := [some (.ref 52), some (.int l1), some (.long 0), none, none]) (pc := 1) d8_bare_1 (Nat.le_of_ble_eq_true rfl) rfl ?_
  refine sd_iconst (pc := 2) 0 d8_bare_2 ci_0 ?_
  refine sd_istore (lf2 := [some (.ref 52), some (.int l1), some (.long 0), none, some (.int 0)]) (pc := 3) d8_bare_3 (Nat.le_of_ble_eq_true rfl) rfl ?_
  exact s8_bare_5 F F l1 0 0 S
set_option maxHeartbeats 4000000 in
set_option maxRecDepth 20000 in
theorem s8_likelier_52 {N : Nat} (F : Nat) (l1 : Int32) (l2 : Int32) (S : sm_t) : sm_S (sm_jI N) k8_likelier 0 0 52 [some (.ref 52), some (.int l1), some (.int l2), none, none, none, none] [] (sm_m N S) (x8_likelier_52 F l1 l2 S) := by
  unfold x8_likelier_52
  refine sd_aload_n (pc := 52) d8_likelier_52 rfl ?_
  refine sd_cVI (k2 := k8_counted) (As := []) (rest := []) (b := 52) (ci := 7) (pc := 53) 237 (show sm_sq 52 = some (.inr 7) from rfl) (by decide) rfl d8_likelier_53 ml8_237 (ms8_counted).1 (ms8_counted).2 (me8_counted) ⟨rfl, rfl⟩ ⟨Nat.le_of_ble_eq_true rfl, Nat.le_of_ble_eq_true rfl⟩ (Nat.le_of_ble_eq_true rfl) (Nat.le_of_ble_eq_true rfl) (Or.inl rfl) (Nat.zero_le _) (Nat.zero_le _) rfl (s8_counted F S) (fun v1 S => ?_)
  refine sd_bipush (pc := 56) 6 d8_likelier_56 cb_6 ?_
  refine sd_ic_le (pc := 58) 64 d8_likelier_58 (by decide) (fun _ => ?_) (fun _ => ?_)
  · refine sd_aload_n (pc := 64) d8_likelier_64 rfl ?_
    refine sd_iload_n (pc := 65) d8_likelier_65 rfl ?_
    refine sd_cVV (k2 := k8_setEnding) (As := [.int l1]) (rest := []) (b := 52) (ci := 7) (pc := 66) 240 (show sm_sq 52 = some (.inr 7) from rfl) (by decide) rfl d8_likelier_66 ml8_240 (ms8_setEnding).1 (ms8_setEnding).2 (me8_setEnding) ⟨rfl, rfl⟩ ⟨Nat.le_of_ble_eq_true rfl, Nat.le_of_ble_eq_true rfl⟩ (Nat.le_of_ble_eq_true rfl) (Nat.le_of_ble_eq_true rfl) rfl (Nat.zero_le _) (Nat.zero_le _) rfl (s8_setEnding F l1 S) (fun S => ?_)
    refine sd_aload_n (pc := 69) d8_likelier_69 rfl ?_
    refine sd_getL (pc := 70) (show sm_sq 52 = some (.inr 7) from rfl) rfl fl8_222 d8_likelier_70 (fun v3 => ?_)
    refine sd_aload_n (pc := 73) d8_likelier_73 rfl ?_
    refine sd_iload_n (pc := 74) d8_likelier_74 rfl ?_
    refine sd_cVL (k2 := k8_bare) (As := [.int l2]) (rest := [.long v3]) (b := 52) (ci := 7) (pc := 75) 260 (show sm_sq 52 = some (.inr 7) from rfl) (by decide) rfl d8_likelier_75 ml8_260 (ms8_bare).1 (ms8_bare).2 (me8_bare) ⟨rfl, rfl⟩ ⟨Nat.le_of_ble_eq_true rfl, Nat.le_of_ble_eq_true rfl⟩ (Nat.le_of_ble_eq_true rfl) (Nat.le_of_ble_eq_true rfl) rfl (Nat.zero_le _) (Nat.zero_le _) rfl (s8_bare F l2 S) (fun v4 S => ?_)
    refine sd_lmul (pc := 78) d8_likelier_78 ?_
    refine sd_nl (fun v5 => ?_)
    refine sd_lstore_n (lf2 := [some (.ref 52), some (.int l1), some (.int l2), some (.long v5), none, none, none]) (pc := 79) d8_likelier_79 (Nat.le_of_ble_eq_true rfl) rfl ?_
    refine sd_aload_n (pc := 80) d8_likelier_80 rfl ?_
    refine sd_iload_n (pc := 81) d8_likelier_81 rfl ?_
    refine sd_cVV (k2 := k8_setEnding) (As := [.int l2]) (rest := []) (b := 52) (ci := 7) (pc := 82) 240 (show sm_sq 52 = some (.inr 7) from rfl) (by decide) rfl d8_likelier_82 ml8_240 (ms8_setEnding).1 (ms8_setEnding).2 (me8_setEnding) ⟨rfl, rfl⟩ ⟨Nat.le_of_ble_eq_true rfl, Nat.le_of_ble_eq_true rfl⟩ (Nat.le_of_ble_eq_true rfl) (Nat.le_of_ble_eq_true rfl) rfl (Nat.zero_le _) (Nat.zero_le _) rfl (s8_setEnding F l2 S) (fun S => ?_)
    refine sd_aload_n (pc := 85) d8_likelier_85 rfl ?_
    refine sd_getL (pc := 86) (show sm_sq 52 = some (.inr 7) from rfl) rfl fl8_222 d8_likelier_86 (fun v7 => ?_)
    refine sd_aload_n (pc := 89) d8_likelier_89 rfl ?_
    refine sd_iload_n (pc := 90) d8_likelier_90 rfl ?_
    refine sd_cVL (k2 := k8_bare) (As := [.int l1]) (rest := [.long v7]) (b := 52) (ci := 7) (pc := 91) 260 (show sm_sq 52 = some (.inr 7) from rfl) (by decide) rfl d8_likelier_91 ml8_260 (ms8_bare).1 (ms8_bare).2 (me8_bare) ⟨rfl, rfl⟩ ⟨Nat.le_of_ble_eq_true rfl, Nat.le_of_ble_eq_true rfl⟩ (Nat.le_of_ble_eq_true rfl) (Nat.le_of_ble_eq_true rfl) rfl (Nat.zero_le _) (Nat.zero_le _) rfl (s8_bare F l1 S) (fun v8 S => ?_)
    refine sd_lmul (pc := 94) d8_likelier_94 ?_
    refine sd_nl (fun v9 => ?_)
    refine sd_lstore (lf2 := [some (.ref 52), some (.int l1), some (.int l2), some (.long v5), none, some (.long v9), none]) (pc := 95) d8_likelier_95 (Nat.le_of_ble_eq_true rfl) rfl ?_
    refine sd_lload (pc := 97) d8_likelier_97 rfl ?_
    refine sd_lconst (pc := 99) 0 d8_likelier_99 rfl ?_
    refine sd_lc_eq (pc := 100) 114 d8_likelier_100 d8_likelier_101 (by decide) (fun _ => ?_) (fun _ => ?_)
    · refine sd_aload_n (pc := 114) d8_likelier_114 rfl ?_
      refine sd_iconst (pc := 115) 4 d8_likelier_115 ci_4 ?_
      refine sd_cVI (k2 := k8_meets) (As := [.int 4]) (rest := []) (b := 52) (ci := 7) (pc := 116) 88 (show sm_sq 52 = some (.inr 7) from rfl) (by decide) rfl d8_likelier_116 ml8_88 (ms8_meets).1 (ms8_meets).2 (me8_meets) ⟨rfl, rfl⟩ ⟨Nat.le_of_ble_eq_true rfl, Nat.le_of_ble_eq_true rfl⟩ (Nat.le_of_ble_eq_true rfl) (Nat.le_of_ble_eq_true rfl) (Or.inl rfl) (Nat.zero_le _) (Nat.zero_le _) rfl (s8_meets F 4 S) (fun v10 S => ?_)
      exact sd_iret (pc := 119) d8_likelier_119 rfl (Nat.zero_le _) (Nat.zero_le _)
    · refine sd_aload_n (pc := 104) d8_likelier_104 rfl ?_
      refine sd_iload_n (pc := 105) d8_likelier_105 rfl ?_
      refine sd_cVL (k2 := k8_bare) (As := [.int l2]) (rest := []) (b := 52) (ci := 7) (pc := 106) 260 (show sm_sq 52 = some (.inr 7) from rfl) (by decide) rfl d8_likelier_106 ml8_260 (ms8_bare).1 (ms8_bare).2 (me8_bare) ⟨rfl, rfl⟩ ⟨Nat.le_of_ble_eq_true rfl, Nat.le_of_ble_eq_true rfl⟩ (Nat.le_of_ble_eq_true rfl) (Nat.le_of_ble_eq_true rfl) rfl (Nat.zero_le _) (Nat.zero_le _) rfl (s8_bare F l2 S) (fun v11 S => ?_)
      refine sd_lconst (pc := 109) 0 d8_likelier_109 rfl ?_
      refine sd_lc_ne (pc := 110) 120 d8_likelier_110 d8_likelier_111 (by decide) (fun _ => ?_) (fun _ => ?_)
      · refine sd_aload_n (pc := 114) d8_likelier_114 rfl ?_
        refine sd_iconst (pc := 115) 4 d8_likelier_115 ci_4 ?_
        refine sd_cVI (k2 := k8_meets) (As := [.int 4]) (rest := []) (b := 52) (ci := 7) (pc := 116) 88 (show sm_sq 52 = some (.inr 7) from rfl) (by decide) rfl d8_likelier_116 ml8_88 (ms8_meets).1 (ms8_meets).2 (me8_meets) ⟨rfl, rfl⟩ ⟨Nat.le_of_ble_eq_true rfl, Nat.le_of_ble_eq_true rfl⟩ (Nat.le_of_ble_eq_true rfl) (Nat.le_of_ble_eq_true rfl) (Or.inl rfl) (Nat.zero_le _) (Nat.zero_le _) rfl (s8_meets F 4 S) (fun v12 S => ?_)
        exact sd_iret (pc := 119) d8_likelier_119 rfl (Nat.zero_le _) (Nat.zero_le _)
      · refine sd_aload_n (pc := 120) d8_likelier_120 rfl ?_
        refine sd_lload_n (pc := 121) d8_likelier_121 rfl ?_
        refine sd_lload (pc := 122) d8_likelier_122 rfl ?_
        refine sd_lload_n (pc := 124) d8_likelier_124 rfl ?_
        refine sd_lload (pc := 125) d8_likelier_125 rfl ?_
        refine sd_lc_le (pc := 127) 135 d8_likelier_127 d8_likelier_128 (by decide) (fun _ => ?_) (fun _ => ?_)
        · refine sd_lload_n (pc := 135) d8_likelier_135 rfl ?_
          refine sd_lload (pc := 136) d8_likelier_136 rfl ?_
          refine sd_lc_ne (pc := 138) 146 d8_likelier_138 d8_likelier_139 (by decide) (fun _ => ?_) (fun _ => ?_)
          · refine sd_iconst (pc := 142) 1 d8_likelier_142 ci_1 ?_
            refine sd_goto (pc := 143) 147 d8_likelier_143 (by decide) ?_
            refine sd_cVI (k2 := k8_part) (As := [.long v5, .long v9, .int 1]) (rest := []) (b := 52) (ci := 7) (pc := 147) 247 (show sm_sq 52 = some (.inr 7) from rfl) (by decide) rfl d8_likelier_147 ml8_247 (ms8_part).1 (ms8_part).2 (me8_part) ⟨rfl, rfl⟩ ⟨Nat.le_of_ble_eq_true rfl, Nat.le_of_ble_eq_true rfl⟩ (Nat.le_of_ble_eq_true rfl) (Nat.le_of_ble_eq_true rfl) (Or.inl rfl) (Nat.zero_le _) (Nat.zero_le _) rfl (s8_part F v5 v9 1 S) (fun v13 S => ?_)
            exact sd_iret (pc := 150) d8_likelier_150 rfl (Nat.zero_le _) (Nat.zero_le _)
          · refine sd_iconst (pc := 146) 0 d8_likelier_146 ci_0 ?_
            refine sd_cVI (k2 := k8_part) (As := [.long v5, .long v9, .int 0]) (rest := []) (b := 52) (ci := 7) (pc := 147) 247 (show sm_sq 52 = some (.inr 7) from rfl) (by decide) rfl d8_likelier_147 ml8_247 (ms8_part).1 (ms8_part).2 (me8_part) ⟨rfl, rfl⟩ ⟨Nat.le_of_ble_eq_true rfl, Nat.le_of_ble_eq_true rfl⟩ (Nat.le_of_ble_eq_true rfl) (Nat.le_of_ble_eq_true rfl) (Or.inl rfl) (Nat.zero_le _) (Nat.zero_le _) rfl (s8_part F v5 v9 0 S) (fun v14 S => ?_)
            exact sd_iret (pc := 150) d8_likelier_150 rfl (Nat.zero_le _) (Nat.zero_le _)
        · refine sd_iconst (pc := 131) 2 d8_likelier_131 ci_2 ?_
          refine sd_goto (pc := 132) 147 d8_likelier_132 (by decide) ?_
          refine sd_cVI (k2 := k8_part) (As := [.long v5, .long v9, .int 2]) (rest := []) (b := 52) (ci := 7) (pc := 147) 247 (show sm_sq 52 = some (.inr 7) from rfl) (by decide) rfl d8_likelier_147 ml8_247 (ms8_part).1 (ms8_part).2 (me8_part) ⟨rfl, rfl⟩ ⟨Nat.le_of_ble_eq_true rfl, Nat.le_of_ble_eq_true rfl⟩ (Nat.le_of_ble_eq_true rfl) (Nat.le_of_ble_eq_true rfl) (Or.inl rfl) (Nat.zero_le _) (Nat.zero_le _) rfl (s8_part F v5 v9 2 S) (fun v15 S => ?_)
          exact sd_iret (pc := 150) d8_likelier_150 rfl (Nat.zero_le _) (Nat.zero_le _)
  · refine sd_bipush (pc := 61) (-6) d8_likelier_61 cb_m6 ?_
    exact sd_iret (pc := 63) d8_likelier_63 rfl (Nat.zero_le _) (Nat.zero_le _)
set_option maxHeartbeats 4000000 in
set_option maxRecDepth 20000 in
theorem s8_likelier_33 {N : Nat} (F : Nat) (l1 : Int32) (l2 : Int32) (S : sm_t) : sm_S (sm_jI N) k8_likelier 0 0 33 [some (.ref 52), some (.int l1), some (.int l2), none, none, none, none] [] (sm_m N S) (x8_likelier_33 F l1 l2 S) := by
  unfold x8_likelier_33
  refine sd_iload_n (pc := 33) d8_likelier_33 rfl ?_
  refine sd_if_le (pc := 34) 52 d8_likelier_34 (by decide) (fun _ => ?_) (fun _ => ?_)
  · exact s8_likelier_52 F l1 l2 S
  · refine sd_aload_n (pc := 37) d8_likelier_37 rfl ?_
    refine sd_getR (pc := 38) 60 (show sm_sq 52 = some (.inr 7) from rfl) rfl fl8_35 rfl d8_likelier_38 ?_
    refine sd_iload_n (pc := 41) d8_likelier_41 rfl ?_
    refine sd_zald (pc := 42) (show sm_sq 60 = some (.inl (.boolean, 4)) from rfl) d8_likelier_42 (fun v1 => ?_)
    refine sd_if_ne (pc := 43) 52 d8_likelier_43 (by decide) (fun _ => ?_) (fun _ => ?_)
    · refine sd_aload_n (pc := 46) d8_likelier_46 rfl ?_
      refine sd_iconst (pc := 47) 1 d8_likelier_47 ci_1 ?_
      refine sd_cVI (k2 := k8_meets) (As := [.int 1]) (rest := []) (b := 52) (ci := 7) (pc := 48) 88 (show sm_sq 52 = some (.inr 7) from rfl) (by decide) rfl d8_likelier_48 ml8_88 (ms8_meets).1 (ms8_meets).2 (me8_meets) ⟨rfl, rfl⟩ ⟨Nat.le_of_ble_eq_true rfl, Nat.le_of_ble_eq_true rfl⟩ (Nat.le_of_ble_eq_true rfl) (Nat.le_of_ble_eq_true rfl) (Or.inl rfl) (Nat.zero_le _) (Nat.zero_le _) rfl (s8_meets F 1 S) (fun v2 S => ?_)
      exact sd_iret (pc := 51) d8_likelier_51 rfl (Nat.zero_le _) (Nat.zero_le _)
    · exact s8_likelier_52 F l1 l2 S
set_option maxHeartbeats 4000000 in
set_option maxRecDepth 20000 in
theorem s8_likelier {N : Nat} (F : Nat) (l1 : Int32) (l2 : Int32) (S : sm_t) : sm_P (sm_jI N) k8_likelier [.ref 52, .int l1, .int l2] (sm_m N S) (x8_likelier F l1 l2 S) := by
  show sm_S (sm_jI N) k8_likelier 0 0 0 [some (.ref 52), some (.int l1), some (.int l2), none, none, none, none] [] (sm_m N S) (x8_likelier F l1 l2 S)
  unfold x8_likelier
  refine sd_iload_n (pc := 0) d8_likelier_0 rfl ?_
  refine sd_iconst (pc := 1) 0 d8_likelier_1 ci_0 ?_
  refine sd_iconst (pc := 2) 3 d8_likelier_2 ci_3 ?_
  refine sd_cSI (k2 := k8_in) (As := [.int l1, .int 0, .int 3]) (rest := []) (pc := 3) 80 d8_likelier_3 ml8_80 (ms8_in) (me8_in) ⟨rfl, rfl⟩ ⟨Nat.le_of_ble_eq_true rfl, Nat.le_of_ble_eq_true rfl⟩ (Nat.le_of_ble_eq_true rfl) (Nat.le_of_ble_eq_true rfl) (Or.inr rfl) (Nat.zero_le _) (Nat.zero_le _) rfl (s8_in F l1 0 3 S) (fun v1 S => ?_)
  refine sd_if_eq (pc := 6) 18 d8_likelier_6 (by decide) (fun _ => ?_) (fun _ => ?_)
  · refine sd_iconst (pc := 18) (-1) d8_likelier_18 ci_m1 ?_
    exact sd_iret (pc := 19) d8_likelier_19 rfl (Nat.zero_le _) (Nat.zero_le _)
  · refine sd_iload_n (pc := 9) d8_likelier_9 rfl ?_
    refine sd_iconst (pc := 10) 0 d8_likelier_10 ci_0 ?_
    refine sd_iconst (pc := 11) 3 d8_likelier_11 ci_3 ?_
    refine sd_cSI (k2 := k8_in) (As := [.int l2, .int 0, .int 3]) (rest := []) (pc := 12) 80 d8_likelier_12 ml8_80 (ms8_in) (me8_in) ⟨rfl, rfl⟩ ⟨Nat.le_of_ble_eq_true rfl, Nat.le_of_ble_eq_true rfl⟩ (Nat.le_of_ble_eq_true rfl) (Nat.le_of_ble_eq_true rfl) (Or.inr rfl) (Nat.zero_le _) (Nat.zero_le _) rfl (s8_in F l2 0 3 S) (fun v2 S => ?_)
    refine sd_if_ne (pc := 15) 20 d8_likelier_15 (by decide) (fun _ => ?_) (fun _ => ?_)
    · refine sd_iconst (pc := 18) (-1) d8_likelier_18 ci_m1 ?_
      exact sd_iret (pc := 19) d8_likelier_19 rfl (Nat.zero_le _) (Nat.zero_le _)
    · refine sd_iload_n (pc := 20) d8_likelier_20 rfl ?_
      refine sd_if_le (pc := 21) 33 d8_likelier_21 (by decide) (fun _ => ?_) (fun _ => ?_)
      · exact s8_likelier_33 F l1 l2 S
      · refine sd_aload_n (pc := 24) d8_likelier_24 rfl ?_
        refine sd_getR (pc := 25) 60 (show sm_sq 52 = some (.inr 7) from rfl) rfl fl8_35 rfl d8_likelier_25 ?_
        refine sd_iload_n (pc := 28) d8_likelier_28 rfl ?_
        refine sd_zald (pc := 29) (show sm_sq 60 = some (.inl (.boolean, 4)) from rfl) d8_likelier_29 (fun v3 => ?_)
        refine sd_if_eq (pc := 30) 46 d8_likelier_30 (by decide) (fun _ => ?_) (fun _ => ?_)
        · refine sd_aload_n (pc := 46) d8_likelier_46 rfl ?_
          refine sd_iconst (pc := 47) 1 d8_likelier_47 ci_1 ?_
          refine sd_cVI (k2 := k8_meets) (As := [.int 1]) (rest := []) (b := 52) (ci := 7) (pc := 48) 88 (show sm_sq 52 = some (.inr 7) from rfl) (by decide) rfl d8_likelier_48 ml8_88 (ms8_meets).1 (ms8_meets).2 (me8_meets) ⟨rfl, rfl⟩ ⟨Nat.le_of_ble_eq_true rfl, Nat.le_of_ble_eq_true rfl⟩ (Nat.le_of_ble_eq_true rfl) (Nat.le_of_ble_eq_true rfl) (Or.inl rfl) (Nat.zero_le _) (Nat.zero_le _) rfl (s8_meets F 1 S) (fun v4 S => ?_)
          exact sd_iret (pc := 51) d8_likelier_51 rfl (Nat.zero_le _) (Nat.zero_le _)
        · exact s8_likelier_33 F l1 l2 S
set_option maxHeartbeats 4000000 in
set_option maxRecDepth 20000 in
theorem s2_weightBehind_12 {N : Nat} (F : Nat) : ∀ (f : Nat) (l2 : Int32) (l3 : Int64) (l5 : Int32) (l6 : Int32) (S : sm_t), sm_S (sm_jL N) k2_weightBehind 0 0 12 [some (.ref 18), none, some (.int l2), some (.long l3), none, some (.int l5), some (.int l6)] [] (sm_m N S) (x2_weightBehind_12 F f l2 l3 l5 l6 S) := by
  intro f
  induction f with
  | zero =>
    intro l2 l3 l5 l6 S
    exact sd_none
  | succ f ih =>
    intro l2 l3 l5 l6 S
    rw [x2_weightBehind_12]
    refine sd_iload (pc := 12) d2_weightBehind_12 rfl ?_
    refine sd_bipush (pc := 14) 12 d2_weightBehind_14 cb_12 ?_
    refine sd_ic_ge (pc := 16) 50 d2_weightBehind_16 (by decide) (fun _ => ?_) (fun _ => ?_)
    · refine sd_lload_n (pc := 50) d2_weightBehind_50 rfl ?_
      exact sd_lret (pc := 51) d2_weightBehind_51 (Nat.zero_le _) (Nat.zero_le _)
    · refine sd_iload (pc := 19) d2_weightBehind_19 rfl ?_
      refine sd_bipush (pc := 21) (-9) d2_weightBehind_21 cb_m9 ?_
      refine sd_ic_eq (pc := 23) 50 d2_weightBehind_23 (by decide) (fun _ => ?_) (fun _ => ?_)
      · refine sd_lload_n (pc := 50) d2_weightBehind_50 rfl ?_
        exact sd_lret (pc := 51) d2_weightBehind_51 (Nat.zero_le _) (Nat.zero_le _)
      · refine sd_lload_n (pc := 26) d2_weightBehind_26 rfl ?_
        refine sd_aload_n (pc := 27) d2_weightBehind_27 rfl ?_
        refine sd_getR (pc := 28) 40 (show sm_sq 18 = some (.inr 1) from rfl) rfl fl2_32 rfl d2_weightBehind_28 ?_
        refine sd_iload (pc := 31) d2_weightBehind_31 rfl ?_
        refine sd_lald (pc := 33) (show sm_sq 40 = some (.inl (.long, 120)) from rfl) d2_weightBehind_33 (fun v1 => ?_)
        refine sd_ladd (pc := 34) d2_weightBehind_34 ?_
        refine sd_nl (fun v2 => ?_)
        refine sd_lstore_n (lf2 := [some (.ref 18), none, some (.int l2), some (.long v2), none, some (.int l5), some (.int l6)]) (pc := 35) d2_weightBehind_35 (Nat.le_of_ble_eq_true rfl) rfl ?_
        refine sd_iload (pc := 36) d2_weightBehind_36 rfl ?_
        refine sd_iload_n (pc := 38) d2_weightBehind_38 rfl ?_
        refine sd_cSI (k2 := k1_beside) (As := [.int l5, .int l2]) (rest := []) (pc := 39) 68 d2_weightBehind_39 ml2_68 (ms1_beside) (me1_beside) ⟨rfl, rfl⟩ ⟨Nat.le_of_ble_eq_true rfl, Nat.le_of_ble_eq_true rfl⟩ (Nat.le_of_ble_eq_true rfl) (Nat.le_of_ble_eq_true rfl) (Or.inl rfl) (Nat.zero_le _) (Nat.zero_le _) rfl (s1_beside F l5 l2 S) (fun v3 S => ?_)
        refine sd_istore (lf2 := [some (.ref 18), none, some (.int l2), some (.long v2), none, some (.int v3), some (.int l6)]) (pc := 42) d2_weightBehind_42 (Nat.le_of_ble_eq_true rfl) rfl ?_
        refine sd_iinc (lf2 := [some (.ref 18), none, some (.int l2), some (.long v2), none, some (.int v3), some (.int (l6 + 1))]) (pc := 44) d2_weightBehind_44 (Nat.le_of_ble_eq_true rfl) rfl ci_1 rfl ?_
        refine sd_goto (pc := 47) 12 d2_weightBehind_47 (by decide) ?_
        exact ih l2 v2 v3 (l6 + 1) S
set_option maxHeartbeats 4000000 in
set_option maxRecDepth 20000 in
theorem s2_weightBehind {N : Nat} (F : Nat) (l1 : Int32) (l2 : Int32) (S : sm_t) : sm_P (sm_jL N) k2_weightBehind [.ref 18, .int l1, .int l2] (sm_m N S) (x2_weightBehind F l1 l2 S) := by
  show sm_S (sm_jL N) k2_weightBehind 0 0 0 [some (.ref 18), some (.int l1), some (.int l2), none, none, none, none] [] (sm_m N S) (x2_weightBehind F l1 l2 S)
  unfold x2_weightBehind
  refine sd_lconst (pc := 0) 0 d2_weightBehind_0 rfl ?_
  refine sd_lstore_n (lf2 := [some (.ref 18), some (.int l1), some (.int l2), some (.long 0), none, none, none]) (pc := 1) d2_weightBehind_1 (Nat.le_of_ble_eq_true rfl) rfl ?_
  refine sd_iload_n (pc := 2) d2_weightBehind_2 rfl ?_
  refine sd_iload_n (pc := 3) d2_weightBehind_3 rfl ?_
  refine sd_cSI (k2 := k1_beside) (As := [.int l1, .int l2]) (rest := []) (pc := 4) 68 d2_weightBehind_4 ml2_68 (ms1_beside) (me1_beside) ⟨rfl, rfl⟩ ⟨Nat.le_of_ble_eq_true rfl, Nat.le_of_ble_eq_true rfl⟩ (Nat.le_of_ble_eq_true rfl) (Nat.le_of_ble_eq_true rfl) (Or.inl rfl) (Nat.zero_le _) (Nat.zero_le _) rfl (s1_beside F l1 l2 S) (fun v1 S => ?_)
  refine sd_istore (lf2 := [some (.ref 18), some (.int l1), some (.int l2), some (.long 0), none, some (.int v1), none]) (pc := 7) d2_weightBehind_7 (Nat.le_of_ble_eq_true rfl) rfl ?_
  refine sd_iconst (pc := 9) 0 d2_weightBehind_9 ci_0 ?_
  refine sd_istore (lf2 := [some (.ref 18), some (.int l1), some (.int l2), some (.long 0), none, some (.int v1), some (.int 0)]) (pc := 10) d2_weightBehind_10 (Nat.le_of_ble_eq_true rfl) rfl ?_
  exact sd_fg [true, false, true, true, true, true, true] rfl (s2_weightBehind_12 F F l2 0 v1 0 S)
set_option maxHeartbeats 4000000 in
set_option maxRecDepth 20000 in
theorem s1_manyBehind_11 {N : Nat} (F : Nat) : ∀ (f : Nat) (l1 : Int32) (l2 : Int32) (l3 : Int32) (l4 : Int32) (S : sm_t), sm_S (sm_jI N) k1_manyBehind 0 0 11 [none, some (.int l1), some (.int l2), some (.int l3), some (.int l4)] [] (sm_m N S) (x1_manyBehind_11 F f l1 l2 l3 l4 S) := by
  intro f
  induction f with
  | zero =>
    intro l1 l2 l3 l4 S
    exact sd_none
  | succ f ih =>
    intro l1 l2 l3 l4 S
    rw [x1_manyBehind_11]
    refine sd_iload (pc := 11) d1_manyBehind_11 rfl ?_
    refine sd_bipush (pc := 13) 12 d1_manyBehind_13 cb_12 ?_
    refine sd_ic_ge (pc := 15) 39 d1_manyBehind_15 (by decide) (fun _ => ?_) (fun _ => ?_)
    · refine sd_iload_n (pc := 39) d1_manyBehind_39 rfl ?_
      exact sd_iret (pc := 40) d1_manyBehind_40 rfl (Nat.zero_le _) (Nat.zero_le _)
    · refine sd_iload_n (pc := 18) d1_manyBehind_18 rfl ?_
      refine sd_bipush (pc := 19) (-9) d1_manyBehind_19 cb_m9 ?_
      refine sd_ic_eq (pc := 21) 39 d1_manyBehind_21 (by decide) (fun _ => ?_) (fun _ => ?_)
      · refine sd_iload_n (pc := 39) d1_manyBehind_39 rfl ?_
        exact sd_iret (pc := 40) d1_manyBehind_40 rfl (Nat.zero_le _) (Nat.zero_le _)
      · refine sd_iinc (lf2 := [none, some (.int l1), some (.int (l2 + 1)), some (.int l3), some (.int l4)]) (pc := 24) d1_manyBehind_24 (Nat.le_of_ble_eq_true rfl) rfl ci_1 rfl ?_
        refine sd_iload_n (pc := 27) d1_manyBehind_27 rfl ?_
        refine sd_iload_n (pc := 28) d1_manyBehind_28 rfl ?_
        refine sd_cSI (k2 := k1_beside) (As := [.int l3, .int l1]) (rest := []) (pc := 29) 28 d1_manyBehind_29 ml1_28 (ms1_beside) (me1_beside) ⟨rfl, rfl⟩ ⟨Nat.le_of_ble_eq_true rfl, Nat.le_of_ble_eq_true rfl⟩ (Nat.le_of_ble_eq_true rfl) (Nat.le_of_ble_eq_true rfl) (Or.inl rfl) (Nat.zero_le _) (Nat.zero_le _) rfl (s1_beside F l3 l1 S) (fun v1 S => ?_)
        refine sd_istore_n (lf2 := [none, some (.int l1), some (.int (l2 + 1)), some (.int v1), some (.int l4)]) (pc := 32) d1_manyBehind_32 (Nat.le_of_ble_eq_true rfl) rfl ?_
        refine sd_iinc (lf2 := [none, some (.int l1), some (.int (l2 + 1)), some (.int v1), some (.int (l4 + 1))]) (pc := 33) d1_manyBehind_33 (Nat.le_of_ble_eq_true rfl) rfl ci_1 rfl ?_
        refine sd_goto (pc := 36) 11 d1_manyBehind_36 (by decide) ?_
        exact ih l1 (l2 + 1) v1 (l4 + 1) S
set_option maxHeartbeats 4000000 in
set_option maxRecDepth 20000 in
theorem s1_manyBehind {N : Nat} (F : Nat) (l0 : Int32) (l1 : Int32) (S : sm_t) : sm_P (sm_jI N) k1_manyBehind [.int l0, .int l1] (sm_m N S) (x1_manyBehind F l0 l1 S) := by
  show sm_S (sm_jI N) k1_manyBehind 0 0 0 [some (.int l0), some (.int l1), none, none, none] [] (sm_m N S) (x1_manyBehind F l0 l1 S)
  unfold x1_manyBehind
  refine sd_iconst (pc := 0) 0 d1_manyBehind_0 ci_0 ?_
  refine sd_istore_n (lf2 := [some (.int l0), some (.int l1), some (.int 0), none, none]) (pc := 1) d1_manyBehind_1 (Nat.le_of_ble_eq_true rfl) rfl ?_
  refine sd_iload_n (pc := 2) d1_manyBehind_2 rfl ?_
  refine sd_iload_n (pc := 3) d1_manyBehind_3 rfl ?_
  refine sd_cSI (k2 := k1_beside) (As := [.int l0, .int l1]) (rest := []) (pc := 4) 28 d1_manyBehind_4 ml1_28 (ms1_beside) (me1_beside) ⟨rfl, rfl⟩ ⟨Nat.le_of_ble_eq_true rfl, Nat.le_of_ble_eq_true rfl⟩ (Nat.le_of_ble_eq_true rfl) (Nat.le_of_ble_eq_true rfl) (Or.inl rfl) (Nat.zero_le _) (Nat.zero_le _) rfl (s1_beside F l0 l1 S) (fun v1 S => ?_)
  refine sd_istore_n (lf2 := [some (.int l0), some (.int l1), some (.int 0), some (.int v1), none]) (pc := 7) d1_manyBehind_7 (Nat.le_of_ble_eq_true rfl) rfl ?_
  refine sd_iconst (pc := 8) 0 d1_manyBehind_8 ci_0 ?_
  refine sd_istore (lf2 := [some (.int l0), some (.int l1), some (.int 0), some (.int v1), some (.int 0)]) (pc := 9) d1_manyBehind_9 (Nat.le_of_ble_eq_true rfl) rfl ?_
  exact sd_fg [false, true, true, true, true] rfl (s1_manyBehind_11 F F l1 0 v1 0 S)
set_option maxHeartbeats 4000000 in
set_option maxRecDepth 20000 in
theorem s7_line {N : Nat} (F : Nat) (l1 : Int32) (l2 : Int32) (l3 : Int32) (S : sm_t) : sm_P (sm_jI N) k7_line [.ref 3, .int l1, .int l2, .int l3] (sm_m N S) (x7_line F l1 l2 l3 S) := by
  show sm_S (sm_jI N) k7_line 0 0 0 [some (.ref 3), some (.int l1), some (.int l2), some (.int l3), none, none, none, none] [] (sm_m N S) (x7_line F l1 l2 l3 S)
  unfold x7_line
  refine sd_iload_n (pc := 0) d7_line_0 rfl ?_
  refine sd_cSI (k2 := k7_isStory) (As := [.int l1]) (rest := []) (pc := 1) 214 d7_line_1 ml7_214 (ms7_isStory) (me7_isStory) ⟨rfl, rfl⟩ ⟨Nat.le_of_ble_eq_true rfl, Nat.le_of_ble_eq_true rfl⟩ (Nat.le_of_ble_eq_true rfl) (Nat.le_of_ble_eq_true rfl) (Or.inr rfl) (Nat.zero_le _) (Nat.zero_le _) rfl (s7_isStory F l1 S) (fun v1 S => ?_)
  refine sd_if_eq (pc := 4) 21 d7_line_4 (by decide) (fun _ => ?_) (fun _ => ?_)
  · refine sd_iconst (pc := 21) (-1) d7_line_21 ci_m1 ?_
    exact sd_iret (pc := 22) d7_line_22 rfl (Nat.zero_le _) (Nat.zero_le _)
  · refine sd_iload_n (pc := 7) d7_line_7 rfl ?_
    refine sd_cSI (k2 := k1_isCell) (As := [.int l2]) (rest := []) (pc := 8) 120 d7_line_8 ml7_120 (ms1_isCell) (me1_isCell) ⟨rfl, rfl⟩ ⟨Nat.le_of_ble_eq_true rfl, Nat.le_of_ble_eq_true rfl⟩ (Nat.le_of_ble_eq_true rfl) (Nat.le_of_ble_eq_true rfl) (Or.inr rfl) (Nat.zero_le _) (Nat.zero_le _) rfl (s1_isCell F l2 S) (fun v2 S => ?_)
    refine sd_if_eq (pc := 11) 21 d7_line_11 (by decide) (fun _ => ?_) (fun _ => ?_)
    · refine sd_iconst (pc := 21) (-1) d7_line_21 ci_m1 ?_
      exact sd_iret (pc := 22) d7_line_22 rfl (Nat.zero_le _) (Nat.zero_le _)
    · refine sd_iload_n (pc := 14) d7_line_14 rfl ?_
      refine sd_cSI (k2 := k1_isSide) (As := [.int l3]) (rest := []) (pc := 15) 127 d7_line_15 ml7_127 (ms1_isSide) (me1_isSide) ⟨rfl, rfl⟩ ⟨Nat.le_of_ble_eq_true rfl, Nat.le_of_ble_eq_true rfl⟩ (Nat.le_of_ble_eq_true rfl) (Nat.le_of_ble_eq_true rfl) (Or.inr rfl) (Nat.zero_le _) (Nat.zero_le _) rfl (s1_isSide F l3 S) (fun v3 S => ?_)
      refine sd_if_ne (pc := 18) 23 d7_line_18 (by decide) (fun _ => ?_) (fun _ => ?_)
      · refine sd_iconst (pc := 21) (-1) d7_line_21 ci_m1 ?_
        exact sd_iret (pc := 22) d7_line_22 rfl (Nat.zero_le _) (Nat.zero_le _)
      · refine sd_aload_n (pc := 23) d7_line_23 rfl ?_
        refine sd_iload_n (pc := 24) d7_line_24 rfl ?_
        refine sd_cVI (k2 := k7_weighed) (As := [.int l1]) (rest := []) (b := 3) (ci := 6) (pc := 25) 217 (show sm_sq 3 = some (.inr 6) from rfl) (by decide) rfl d7_line_25 ml7_217 (ms7_weighed).1 (ms7_weighed).2 (me7_weighed) ⟨rfl, rfl⟩ ⟨Nat.le_of_ble_eq_true rfl, Nat.le_of_ble_eq_true rfl⟩ (Nat.le_of_ble_eq_true rfl) (Nat.le_of_ble_eq_true rfl) (Or.inl rfl) (Nat.zero_le _) (Nat.zero_le _) rfl (s7_weighed F l1 S) (fun v4 S => ?_)
        refine sd_istore (lf2 := [some (.ref 3), some (.int l1), some (.int l2), some (.int l3), some (.int v4), none, none, none]) (pc := 28) d7_line_28 (Nat.le_of_ble_eq_true rfl) rfl ?_
        refine sd_iload (pc := 30) d7_line_30 rfl ?_
        refine sd_if_eq (pc := 32) 38 d7_line_32 (by decide) (fun _ => ?_) (fun _ => ?_)
        · refine sd_iload_n (pc := 38) d7_line_38 rfl ?_
          refine sd_iconst (pc := 39) 4 d7_line_39 ci_4 ?_
          refine sd_cSI (k2 := k1_turned) (As := [.int l3, .int 4]) (rest := []) (pc := 40) 267 d7_line_40 ml7_267 (ms1_turned) (me1_turned) ⟨rfl, rfl⟩ ⟨Nat.le_of_ble_eq_true rfl, Nat.le_of_ble_eq_true rfl⟩ (Nat.le_of_ble_eq_true rfl) (Nat.le_of_ble_eq_true rfl) (Or.inl rfl) (Nat.zero_le _) (Nat.zero_le _) rfl (s1_turned F l3 4 S) (fun v5 S => ?_)
          refine sd_istore (lf2 := [some (.ref 3), some (.int l1), some (.int l2), some (.int l3), some (.int v4), some (.int v5), none, none]) (pc := 43) d7_line_43 (Nat.le_of_ble_eq_true rfl) rfl ?_
          refine sd_aload_n (pc := 45) d7_line_45 rfl ?_
          refine sd_getR (pc := 46) 18 (show sm_sq 3 = some (.inr 6) from rfl) rfl fl7_29 rfl d7_line_46 ?_
          refine sd_getR (pc := 49) 40 (show sm_sq 18 = some (.inr 1) from rfl) rfl fl7_220 rfl d7_line_49 ?_
          refine sd_iload_n (pc := 52) d7_line_52 rfl ?_
          refine sd_lald (pc := 53) (show sm_sq 40 = some (.inl (.long, 120)) from rfl) d7_line_53 (fun v6 => ?_)
          refine sd_aload_n (pc := 54) d7_line_54 rfl ?_
          refine sd_getR (pc := 55) 18 (show sm_sq 3 = some (.inr 6) from rfl) rfl fl7_29 rfl d7_line_55 ?_
          refine sd_iload_n (pc := 58) d7_line_58 rfl ?_
          refine sd_iload_n (pc := 59) d7_line_59 rfl ?_
          refine sd_cVL (k2 := k2_weightBehind) (As := [.int l2, .int l3]) (rest := [.long v6]) (b := 18) (ci := 1) (pc := 60) 270 (show sm_sq 18 = some (.inr 1) from rfl) (by decide) rfl d7_line_60 ml7_270 (ms2_weightBehind).1 (ms2_weightBehind).2 (me2_weightBehind) ⟨rfl, rfl⟩ ⟨Nat.le_of_ble_eq_true rfl, Nat.le_of_ble_eq_true rfl⟩ (Nat.le_of_ble_eq_true rfl) (Nat.le_of_ble_eq_true rfl) rfl (Nat.zero_le _) (Nat.zero_le _) rfl (s2_weightBehind F l2 l3 S) (fun v7 S => ?_)
          refine sd_ladd (pc := 63) d7_line_63 ?_
          refine sd_aload_n (pc := 64) d7_line_64 rfl ?_
          refine sd_getR (pc := 65) 18 (show sm_sq 3 = some (.inr 6) from rfl) rfl fl7_29 rfl d7_line_65 ?_
          refine sd_iload_n (pc := 68) d7_line_68 rfl ?_
          refine sd_iload (pc := 69) d7_line_69 rfl ?_
          refine sd_cVL (k2 := k2_weightBehind) (As := [.int l2, .int v5]) (rest := [.long (v6 + v7)]) (b := 18) (ci := 1) (pc := 71) 270 (show sm_sq 18 = some (.inr 1) from rfl) (by decide) rfl d7_line_71 ml7_270 (ms2_weightBehind).1 (ms2_weightBehind).2 (me2_weightBehind) ⟨rfl, rfl⟩ ⟨Nat.le_of_ble_eq_true rfl, Nat.le_of_ble_eq_true rfl⟩ (Nat.le_of_ble_eq_true rfl) (Nat.le_of_ble_eq_true rfl) rfl (Nat.zero_le _) (Nat.zero_le _) rfl (s2_weightBehind F l2 v5 S) (fun v8 S => ?_)
          refine sd_ladd (pc := 74) d7_line_74 ?_
          refine sd_nl (fun v9 => ?_)
          refine sd_lstore (lf2 := [some (.ref 3), some (.int l1), some (.int l2), some (.int l3), some (.int v4), some (.int v5), some (.long v9), none]) (pc := 75) d7_line_75 (Nat.le_of_ble_eq_true rfl) rfl ?_
          refine sd_aload_n (pc := 77) d7_line_77 rfl ?_
          refine sd_lload (pc := 78) d7_line_78 rfl ?_
          refine sd_aload_n (pc := 80) d7_line_80 rfl ?_
          refine sd_getR (pc := 81) 18 (show sm_sq 3 = some (.inr 6) from rfl) rfl fl7_29 rfl d7_line_81 ?_
          refine sd_getL (pc := 84) (show sm_sq 18 = some (.inr 1) from rfl) rfl fl7_223 d7_line_84 (fun v10 => ?_)
          refine sd_cVV (k2 := k7_fraction) (As := [.long v9, .long v10]) (rest := []) (b := 3) (ci := 6) (pc := 87) 226 (show sm_sq 3 = some (.inr 6) from rfl) (by decide) rfl d7_line_87 ml7_226 (ms7_fraction).1 (ms7_fraction).2 (me7_fraction) ⟨rfl, rfl⟩ ⟨Nat.le_of_ble_eq_true rfl, Nat.le_of_ble_eq_true rfl⟩ (Nat.le_of_ble_eq_true rfl) (Nat.le_of_ble_eq_true rfl) rfl (Nat.zero_le _) (Nat.zero_le _) rfl (s7_fraction F v9 v10 S) (fun S => ?_)
          refine sd_iconst (pc := 90) 1 d7_line_90 ci_1 ?_
          refine sd_iload_n (pc := 91) d7_line_91 rfl ?_
          refine sd_iload_n (pc := 92) d7_line_92 rfl ?_
          refine sd_cSI (k2 := k1_manyBehind) (As := [.int l2, .int l3]) (rest := [.int 1]) (pc := 93) 273 d7_line_93 ml7_273 (ms1_manyBehind) (me1_manyBehind) ⟨rfl, rfl⟩ ⟨Nat.le_of_ble_eq_true rfl, Nat.le_of_ble_eq_true rfl⟩ (Nat.le_of_ble_eq_true rfl) (Nat.le_of_ble_eq_true rfl) (Or.inl rfl) (Nat.zero_le _) (Nat.zero_le _) rfl (s1_manyBehind F l2 l3 S) (fun v12 S => ?_)
          refine sd_iadd (pc := 96) d7_line_96 ?_
          refine sd_iload_n (pc := 97) d7_line_97 rfl ?_
          refine sd_iload (pc := 98) d7_line_98 rfl ?_
          refine sd_cSI (k2 := k1_manyBehind) (As := [.int l2, .int v5]) (rest := [.int (1 + v12)]) (pc := 100) 273 d7_line_100 ml7_273 (ms1_manyBehind) (me1_manyBehind) ⟨rfl, rfl⟩ ⟨Nat.le_of_ble_eq_true rfl, Nat.le_of_ble_eq_true rfl⟩ (Nat.le_of_ble_eq_true rfl) (Nat.le_of_ble_eq_true rfl) (Or.inl rfl) (Nat.zero_le _) (Nat.zero_le _) rfl (s1_manyBehind F l2 v5 S) (fun v13 S => ?_)
          refine sd_iadd (pc := 103) d7_line_103 ?_
          exact sd_iret (pc := 104) d7_line_104 rfl (Nat.zero_le _) (Nat.zero_le _)
        · refine sd_iload (pc := 35) d7_line_35 rfl ?_
          exact sd_iret (pc := 37) d7_line_37 rfl (Nat.zero_le _) (Nat.zero_le _)
