set_option maxHeartbeats 4000000 in
set_option maxRecDepth 20000 in
theorem s8_line_65 {N : Nat} (F : Nat) (c45 : Int32 → Int32 → Int64 → Int32 → Int32 → sm_t → Option (Int32 × sm_t)) (hc45 : ∀ (l2 : Int32) (l3 : Int32) (l5 : Int64) (l7 : Int32) (l8 : Int32) (S : sm_t), sm_S (sm_jI N) k8_line 0 0 45 [some (.ref 52), none, some (.int l2), some (.int l3), none, some (.long l5), none, some (.int l7), some (.int l8), none] [] (sm_m N S) (c45 l2 l3 l5 l7 l8 S)) : ∀ (f : Nat) (l2 : Int32) (l3 : Int32) (l5 : Int64) (l7 : Int32) (l8 : Int32) (l9 : Int32) (S : sm_t), sm_S (sm_jI N) k8_line 0 0 65 [some (.ref 52), none, some (.int l2), some (.int l3), none, some (.long l5), none, some (.int l7), some (.int l8), some (.int l9)] [] (sm_m N S) (x8_line_65 F c45 f l2 l3 l5 l7 l8 l9 S) := by
  intro f
  induction f with
  | zero =>
    intro l2 l3 l5 l7 l8 l9 S
    exact sd_none
  | succ f ih =>
    intro l2 l3 l5 l7 l8 l9 S
    rw [x8_line_65]
    refine sd_iload (pc := 65) d8_line_65 rfl ?_
    refine sd_if_lt (pc := 67) 103 d8_line_67 (by decide) (fun _ => ?_) (fun _ => ?_)
    · refine sd_iinc (lf2 := [some (.ref 52), none, some (.int l2), some (.int l3), none, some (.long l5), none, some (.int l7), some (.int (l8 + 1)), some (.int l9)]) (pc := 103) d8_line_103 (Nat.le_of_ble_eq_true rfl) rfl ci_1 rfl ?_
      refine sd_goto (pc := 106) 45 d8_line_106 (by decide) ?_
      exact sd_fg [true, true, true, true, true, true, true, true, true, false] rfl (hc45 l2 l3 l5 l7 (l8 + 1) S)
    · refine sd_lload (pc := 70) d8_line_70 rfl ?_
      refine sd_aload_n (pc := 72) d8_line_72 rfl ?_
      refine sd_getR (pc := 73) 66 (show sm_sq 52 = some (.inr 7) from rfl) rfl fl8_59 rfl d8_line_73 ?_
      refine sd_iload (pc := 76) d8_line_76 rfl ?_
      refine sd_lald (pc := 78) (show sm_sq 66 = some (.inl (.long, 120)) from rfl) d8_line_78 (fun v1 => ?_)
      refine sd_ladd (pc := 79) d8_line_79 ?_
      refine sd_nl (fun v2 => ?_)
      refine sd_lstore (lf2 := [some (.ref 52), none, some (.int l2), some (.int l3), none, some (.long v2), none, some (.int l7), some (.int l8), some (.int l9)]) (pc := 80) d8_line_80 (Nat.le_of_ble_eq_true rfl) rfl ?_
      refine sd_iinc (lf2 := [some (.ref 52), none, some (.int l2), some (.int l3), none, some (.long v2), none, some (.int (l7 + 1)), some (.int l8), some (.int l9)]) (pc := 82) d8_line_82 (Nat.le_of_ble_eq_true rfl) rfl ci_1 rfl ?_
      refine sd_iload (pc := 85) d8_line_85 rfl ?_
      refine sd_iload_n (pc := 87) d8_line_87 rfl ?_
      refine sd_iconst (pc := 88) 4 d8_line_88 ci_4 ?_
      refine sd_iload (pc := 89) d8_line_89 rfl ?_
      refine sd_imul (pc := 91) d8_line_91 ?_
      refine sd_cSI (k2 := k8_turned) (As := [.int l3, .int (4 * l8)]) (rest := [.int l9]) (pc := 92) 211 d8_line_92 ml8_211 (ms8_turned) (me8_turned) ⟨rfl, rfl⟩ ⟨Nat.le_of_ble_eq_true rfl, Nat.le_of_ble_eq_true rfl⟩ (Nat.le_of_ble_eq_true rfl) (Nat.le_of_ble_eq_true rfl) (Or.inl rfl) (Nat.zero_le _) (Nat.zero_le _) rfl (s8_turned F l3 (4 * l8) S) (fun v3 S => ?_)
      refine sd_cSI (k2 := k8_nextOf) (As := [.int l9, .int v3]) (rest := []) (pc := 95) 114 d8_line_95 ml8_114 (ms8_nextOf) (me8_nextOf) ⟨rfl, rfl⟩ ⟨Nat.le_of_ble_eq_true rfl, Nat.le_of_ble_eq_true rfl⟩ (Nat.le_of_ble_eq_true rfl) (Nat.le_of_ble_eq_true rfl) (Or.inl rfl) (Nat.zero_le _) (Nat.zero_le _) rfl (s8_nextOf F l9 v3 S) (fun v4 S => ?_)
      refine sd_istore (lf2 := [some (.ref 52), none, some (.int l2), some (.int l3), none, some (.long v2), none, some (.int (l7 + 1)), some (.int l8), some (.int v4)]) (pc := 98) d8_line_98 (Nat.le_of_ble_eq_true rfl) rfl ?_
      refine sd_goto (pc := 100) 65 d8_line_100 (by decide) ?_
      exact ih l2 l3 v2 (l7 + 1) l8 v4 S
set_option maxHeartbeats 4000000 in
set_option maxRecDepth 20000 in
theorem s8_line_109 {N : Nat} (F : Nat) (l5 : Int64) (l7 : Int32) (S : sm_t) : sm_S (sm_jI N) k8_line 0 0 109 [some (.ref 52), none, none, none, none, some (.long l5), none, some (.int l7), none, none] [] (sm_m N S) (x8_line_109 F l5 l7 S) := by
  unfold x8_line_109
  refine sd_aload_n (pc := 109) d8_line_109 rfl ?_
  refine sd_lload (pc := 110) d8_line_110 rfl ?_
  refine sd_aload_n (pc := 112) d8_line_112 rfl ?_
  refine sd_getL (pc := 113) (show sm_sq 52 = some (.inr 7) from rfl) rfl fl8_222 d8_line_113 (fun v1 => ?_)
  refine sd_iload (pc := 116) d8_line_116 rfl ?_
  refine sd_cVI (k2 := k8_part) (As := [.long l5, .long v1, .int l7]) (rest := []) (b := 52) (ci := 7) (pc := 118) 247 (show sm_sq 52 = some (.inr 7) from rfl) (by decide) rfl d8_line_118 ml8_247 (ms8_part).1 (ms8_part).2 (me8_part) ⟨rfl, rfl⟩ ⟨Nat.le_of_ble_eq_true rfl, Nat.le_of_ble_eq_true rfl⟩ (Nat.le_of_ble_eq_true rfl) (Nat.le_of_ble_eq_true rfl) (Or.inl rfl) (Nat.zero_le _) (Nat.zero_le _) rfl (s8_part F l5 v1 l7 S) (fun v2 S => ?_)
  exact sd_iret (pc := 121) d8_line_121 rfl (Nat.zero_le _) (Nat.zero_le _)
set_option maxHeartbeats 4000000 in
set_option maxRecDepth 20000 in
theorem s8_line_45 {N : Nat} (F : Nat) : ∀ (f : Nat) (l2 : Int32) (l3 : Int32) (l5 : Int64) (l7 : Int32) (l8 : Int32) (S : sm_t), sm_S (sm_jI N) k8_line 0 0 45 [some (.ref 52), none, some (.int l2), some (.int l3), none, some (.long l5), none, some (.int l7), some (.int l8), none] [] (sm_m N S) (x8_line_45 F f l2 l3 l5 l7 l8 S) := by
  intro f
  induction f with
  | zero =>
    intro l2 l3 l5 l7 l8 S
    exact sd_none
  | succ f ih =>
    intro l2 l3 l5 l7 l8 S
    rw [x8_line_45]
    refine sd_iload (pc := 45) d8_line_45 rfl ?_
    refine sd_iconst (pc := 47) 2 d8_line_47 ci_2 ?_
    refine sd_ic_ge (pc := 48) 109 d8_line_48 (by decide) (fun _ => ?_) (fun _ => ?_)
    · exact sd_fg [true, true, false, false, true, true, true, true, false, true] rfl (s8_line_109 F l5 l7 S)
    · refine sd_iload_n (pc := 51) d8_line_51 rfl ?_
      refine sd_iload_n (pc := 52) d8_line_52 rfl ?_
      refine sd_iconst (pc := 53) 4 d8_line_53 ci_4 ?_
      refine sd_iload (pc := 54) d8_line_54 rfl ?_
      refine sd_imul (pc := 56) d8_line_56 ?_
      refine sd_cSI (k2 := k8_turned) (As := [.int l3, .int (4 * l8)]) (rest := [.int l2]) (pc := 57) 211 d8_line_57 ml8_211 (ms8_turned) (me8_turned) ⟨rfl, rfl⟩ ⟨Nat.le_of_ble_eq_true rfl, Nat.le_of_ble_eq_true rfl⟩ (Nat.le_of_ble_eq_true rfl) (Nat.le_of_ble_eq_true rfl) (Or.inl rfl) (Nat.zero_le _) (Nat.zero_le _) rfl (s8_turned F l3 (4 * l8) S) (fun v1 S => ?_)
      refine sd_cSI (k2 := k8_nextOf) (As := [.int l2, .int v1]) (rest := []) (pc := 60) 114 d8_line_60 ml8_114 (ms8_nextOf) (me8_nextOf) ⟨rfl, rfl⟩ ⟨Nat.le_of_ble_eq_true rfl, Nat.le_of_ble_eq_true rfl⟩ (Nat.le_of_ble_eq_true rfl) (Nat.le_of_ble_eq_true rfl) (Or.inl rfl) (Nat.zero_le _) (Nat.zero_le _) rfl (s8_nextOf F l2 v1 S) (fun v2 S => ?_)
      refine sd_istore (lf2 := [some (.ref 52), none, some (.int l2), some (.int l3), none, some (.long l5), none, some (.int l7), some (.int l8), some (.int v2)]) (pc := 63) d8_line_63 (Nat.le_of_ble_eq_true rfl) rfl ?_
      exact s8_line_65 F _ ih F l2 l3 l5 l7 l8 v2 S
set_option maxHeartbeats 4000000 in
set_option maxRecDepth 20000 in
theorem s8_line {N : Nat} (F : Nat) (l1 : Int32) (l2 : Int32) (l3 : Int32) (S : sm_t) : sm_P (sm_jI N) k8_line [.ref 52, .int l1, .int l2, .int l3] (sm_m N S) (x8_line F l1 l2 l3 S) := by
  show sm_S (sm_jI N) k8_line 0 0 0 [some (.ref 52), some (.int l1), some (.int l2), some (.int l3), none, none, none, none, none, none] [] (sm_m N S) (x8_line F l1 l2 l3 S)
  unfold x8_line
  refine sd_iload_n (pc := 0) d8_line_0 rfl ?_
  refine sd_cSI (k2 := k8_isCell) (As := [.int l2]) (rest := []) (pc := 1) 117 d8_line_1 ml8_117 (ms8_isCell) (me8_isCell) ⟨rfl, rfl⟩ ⟨Nat.le_of_ble_eq_true rfl, Nat.le_of_ble_eq_true rfl⟩ (Nat.le_of_ble_eq_true rfl) (Nat.le_of_ble_eq_true rfl) (Or.inr rfl) (Nat.zero_le _) (Nat.zero_le _) rfl (s8_isCell F l2 S) (fun v1 S => ?_)
  refine sd_if_eq (pc := 4) 14 d8_line_4 (by decide) (fun _ => ?_) (fun _ => ?_)
  · refine sd_iconst (pc := 14) (-1) d8_line_14 ci_m1 ?_
    exact sd_iret (pc := 15) d8_line_15 rfl (Nat.zero_le _) (Nat.zero_le _)
  · refine sd_iload_n (pc := 7) d8_line_7 rfl ?_
    refine sd_cSI (k2 := k8_isSide) (As := [.int l3]) (rest := []) (pc := 8) 126 d8_line_8 ml8_126 (ms8_isSide) (me8_isSide) ⟨rfl, rfl⟩ ⟨Nat.le_of_ble_eq_true rfl, Nat.le_of_ble_eq_true rfl⟩ (Nat.le_of_ble_eq_true rfl) (Nat.le_of_ble_eq_true rfl) (Or.inr rfl) (Nat.zero_le _) (Nat.zero_le _) rfl (s8_isSide F l3 S) (fun v2 S => ?_)
    refine sd_if_ne (pc := 11) 16 d8_line_11 (by decide) (fun _ => ?_) (fun _ => ?_)
    · refine sd_iconst (pc := 14) (-1) d8_line_14 ci_m1 ?_
      exact sd_iret (pc := 15) d8_line_15 rfl (Nat.zero_le _) (Nat.zero_le _)
    · refine sd_aload_n (pc := 16) d8_line_16 rfl ?_
      refine sd_iload_n (pc := 17) d8_line_17 rfl ?_
      refine sd_cVI (k2 := k8_weigh) (As := [.int l1]) (rest := []) (b := 52) (ci := 7) (pc := 18) 244 (show sm_sq 52 = some (.inr 7) from rfl) (by decide) rfl d8_line_18 ml8_244 (ms8_weigh).1 (ms8_weigh).2 (me8_weigh) ⟨rfl, rfl⟩ ⟨Nat.le_of_ble_eq_true rfl, Nat.le_of_ble_eq_true rfl⟩ (Nat.le_of_ble_eq_true rfl) (Nat.le_of_ble_eq_true rfl) (Or.inl rfl) (Nat.zero_le _) (Nat.zero_le _) rfl (s8_weigh F l1 S) (fun v3 S => ?_)
      refine sd_istore (lf2 := [some (.ref 52), some (.int l1), some (.int l2), some (.int l3), some (.int v3), none, none, none, none, none]) (pc := 21) d8_line_21 (Nat.le_of_ble_eq_true rfl) rfl ?_
      refine sd_iload (pc := 23) d8_line_23 rfl ?_
      refine sd_if_ge (pc := 25) 31 d8_line_25 (by decide) (fun _ => ?_) (fun _ => ?_)
      · refine sd_aload_n (pc := 31) d8_line_31 rfl ?_
        refine sd_getR (pc := 32) 66 (show sm_sq 52 = some (.inr 7) from rfl) rfl fl8_59 rfl d8_line_32 ?_
        refine sd_iload_n (pc := 35) d8_line_35 rfl ?_
        refine sd_lald (pc := 36) (show sm_sq 66 = some (.inl (.long, 120)) from rfl) d8_line_36 (fun v4 => ?_)
        refine sd_lstore (lf2 := [some (.ref 52), some (.int l1), some (.int l2), some (.int l3), some (.int v3), some (.long v4), none, none, none, none]) (pc := 37) d8_line_37 (Nat.le_of_ble_eq_true rfl) rfl ?_
        refine sd_iconst (pc := 39) 1 d8_line_39 ci_1 ?_
        refine sd_istore (lf2 := [some (.ref 52), some (.int l1), some (.int l2), some (.int l3), some (.int v3), some (.long v4), none, some (.int 1), none, none]) (pc := 40) d8_line_40 (Nat.le_of_ble_eq_true rfl) rfl ?_
        refine sd_iconst (pc := 42) 0 d8_line_42 ci_0 ?_
        refine sd_istore (lf2 := [some (.ref 52), some (.int l1), some (.int l2), some (.int l3), some (.int v3), some (.long v4), none, some (.int 1), some (.int 0), none]) (pc := 43) d8_line_43 (Nat.le_of_ble_eq_true rfl) rfl ?_
        exact sd_fg [true, false, true, true, false, true, true, true, true, true] rfl (s8_line_45 F F l2 l3 v4 1 0 S)
      · refine sd_iload (pc := 28) d8_line_28 rfl ?_
        exact sd_iret (pc := 30) d8_line_30 rfl (Nat.zero_le _) (Nat.zero_le _)
set_option maxHeartbeats 4000000 in
set_option maxRecDepth 20000 in
theorem s5_wasIn_2 {N : Nat} (F : Nat) : ∀ (f : Nat) (l0 : Nat) (l1 : Int32) (l2 : Int32) (l3 : Int32) (S : sm_t), sm_S (sm_jI N) k5_wasIn 0 0 2 [some (.ref l0), some (.int l1), some (.int l2), some (.int l3)] [] (sm_m N S) (x5_wasIn_2 F f l0 l1 l2 l3 S) := by
  intro f
  induction f with
  | zero =>
    intro l0 l1 l2 l3 S
    exact sd_none
  | succ f ih =>
    intro l0 l1 l2 l3 S
    rw [x5_wasIn_2]
    refine sd_iload_n (pc := 2) d5_wasIn_2 rfl ?_
    refine sd_iload_n (pc := 3) d5_wasIn_3 rfl ?_
    refine sd_ic_gt (pc := 4) 22 d5_wasIn_4 (by decide) (fun _ => ?_) (fun _ => ?_)
    · refine sd_iconst (pc := 22) 0 d5_wasIn_22 ci_0 ?_
      exact sd_zret (pc := 23) d5_wasIn_23 (by decide) (Nat.zero_le _) (Nat.zero_le _)
    · refine sd_aload_n (pc := 7) d5_wasIn_7 rfl ?_
      refine sd_iload_n (pc := 8) d5_wasIn_8 rfl ?_
      refine sd_an (fun n2 h1 => ?_)
      refine sd_iald (pc := 9) h1 d5_wasIn_9 (fun v3 => ?_)
      refine sd_iload_n (pc := 10) d5_wasIn_10 rfl ?_
      refine sd_ic_ne (pc := 11) 16 d5_wasIn_11 (by decide) (fun _ => ?_) (fun _ => ?_)
      · refine sd_iconst (pc := 14) 1 d5_wasIn_14 ci_1 ?_
        exact sd_zret (pc := 15) d5_wasIn_15 (by decide) (Nat.zero_le _) (Nat.zero_le _)
      · refine sd_iinc (lf2 := [some (.ref l0), some (.int l1), some (.int l2), some (.int (l3 + 1))]) (pc := 16) d5_wasIn_16 (Nat.le_of_ble_eq_true rfl) rfl ci_1 rfl ?_
        refine sd_goto (pc := 19) 2 d5_wasIn_19 (by decide) ?_
        exact ih l0 l1 l2 (l3 + 1) S
set_option maxHeartbeats 4000000 in
set_option maxRecDepth 20000 in
theorem s5_wasIn {N : Nat} (F : Nat) (l0 : Nat) (l1 : Int32) (l2 : Int32) (S : sm_t) : sm_P (sm_jI N) k5_wasIn [.ref l0, .int l1, .int l2] (sm_m N S) (x5_wasIn F l0 l1 l2 S) := by
  show sm_S (sm_jI N) k5_wasIn 0 0 0 [some (.ref l0), some (.int l1), some (.int l2), none] [] (sm_m N S) (x5_wasIn F l0 l1 l2 S)
  unfold x5_wasIn
  refine sd_iconst (pc := 0) 0 d5_wasIn_0 ci_0 ?_
  refine sd_istore_n (lf2 := [some (.ref l0), some (.int l1), some (.int l2), some (.int 0)]) (pc := 1) d5_wasIn_1 (Nat.le_of_ble_eq_true rfl) rfl ?_
  exact s5_wasIn_2 F F l0 l1 l2 0 S
set_option maxHeartbeats 4000000 in
set_option maxRecDepth 20000 in
theorem s5_sail_121 {N : Nat} (F : Nat) {d : Nat} (rc : Int64 → Int32 → Int64 → sm_t → Option (sm_t)) (hrc : ∀ (q2 : Int64) (q3 : Int32) (q4 : Int64) (S : sm_t), sm_P (sm_jV N) (k5_sail d) [.ref 48, .ref 40, .long q2, .int q3, .long q4] (sm_m N S) (rc q2 q3 q4 S)) (c95 : Int64 → Int32 → Int64 → Int32 → Int32 → Int32 → sm_t → Option (sm_t)) (hc95 : ∀ (l2 : Int64) (l4 : Int32) (l5 : Int64) (l8 : Int32) (l9 : Int32) (l10 : Int32) (S : sm_t), sm_S (sm_jV N) (k5_sail (d + 1)) 0 0 95 [some (.ref 48), some (.ref 40), some (.long l2), none, some (.int l4), some (.long l5), none, none, some (.int l8), some (.int l9), some (.int l10), none, none] [] (sm_m N S) (c95 l2 l4 l5 l8 l9 l10 S)) : ∀ (f : Nat) (l2 : Int64) (l4 : Int32) (l5 : Int64) (l8 : Int32) (l9 : Int32) (l10 : Int32) (l11 : Int32) (S : sm_t), sm_S (sm_jV N) (k5_sail (d + 1)) 0 0 121 [some (.ref 48), some (.ref 40), some (.long l2), none, some (.int l4), some (.long l5), none, none, some (.int l8), some (.int l9), some (.int l10), some (.int l11), none] [] (sm_m N S) (x5_sail_121 F rc c95 f l2 l4 l5 l8 l9 l10 l11 S) := by
  intro f
  induction f with
  | zero =>
    intro l2 l4 l5 l8 l9 l10 l11 S
    exact sd_none
  | succ f ih =>
    intro l2 l4 l5 l8 l9 l10 l11 S
    rw [x5_sail_121]
    refine sd_iload (pc := 121) d5_sail_121 rfl ?_
    refine sd_iload (pc := 123) d5_sail_123 rfl ?_
    refine sd_iconst (pc := 125) 1 d5_sail_125 ci_1 ?_
    refine sd_iadd (pc := 126) d5_sail_126 ?_
    refine sd_ic_gt (pc := 127) 200 d5_sail_127 (by decide) (fun _ => ?_) (fun _ => ?_)
    · refine sd_iinc (lf2 := [some (.ref 48), some (.ref 40), some (.long l2), none, some (.int l4), some (.long l5), none, none, some (.int l8), some (.int l9), some (.int (l10 + 1)), some (.int l11), none]) (pc := 200) d5_sail_200 (Nat.le_of_ble_eq_true rfl) rfl ci_1 rfl ?_
      refine sd_goto (pc := 203) 95 d5_sail_203 (by decide) ?_
      exact sd_fg [true, true, true, true, true, true, true, true, true, true, true, false, true] rfl (hc95 l2 l4 l5 l8 l9 (l10 + 1) S)
    · refine sd_iload (pc := 130) d5_sail_130 rfl ?_
      refine sd_bipush (pc := 132) 12 d5_sail_132 cb_12 ?_
      refine sd_ic_ge (pc := 134) 200 d5_sail_134 (by decide) (fun _ => ?_) (fun _ => ?_)
      · refine sd_iinc (lf2 := [some (.ref 48), some (.ref 40), some (.long l2), none, some (.int l4), some (.long l5), none, none, some (.int l8), some (.int l9), some (.int (l10 + 1)), some (.int l11), none]) (pc := 200) d5_sail_200 (Nat.le_of_ble_eq_true rfl) rfl ci_1 rfl ?_
        refine sd_goto (pc := 203) 95 d5_sail_203 (by decide) ?_
        exact sd_fg [true, true, true, true, true, true, true, true, true, true, true, false, true] rfl (hc95 l2 l4 l5 l8 l9 (l10 + 1) S)
      · refine sd_iload (pc := 137) d5_sail_137 rfl ?_
        refine sd_bipush (pc := 139) 12 d5_sail_139 cb_12 ?_
        refine sd_imul (pc := 141) d5_sail_141 ?_
        refine sd_iload (pc := 142) d5_sail_142 rfl ?_
        refine sd_iadd (pc := 144) d5_sail_144 ?_
        refine sd_ni (fun v1 => ?_)
        refine sd_istore (lf2 := [some (.ref 48), some (.ref 40), some (.long l2), none, some (.int l4), some (.long l5), none, none, some (.int l8), some (.int l9), some (.int l10), some (.int l11), some (.int v1)]) (pc := 145) d5_sail_145 (Nat.le_of_ble_eq_true rfl) rfl ?_
        refine sd_aload_n (pc := 147) d5_sail_147 rfl ?_
        refine sd_getR (pc := 148) 50 (show sm_sq 48 = some (.inr 4) from rfl) rfl fl5_13 rfl d5_sail_148 ?_
        refine sd_iload (pc := 151) d5_sail_151 rfl ?_
        refine sd_iconst (pc := 153) 1 d5_sail_153 ci_1 ?_
        refine sd_iadd (pc := 154) d5_sail_154 ?_
        refine sd_iload (pc := 155) d5_sail_155 rfl ?_
        refine sd_iast (pc := 157) (show sm_sq 50 = some (.inl (.int, 5)) from rfl) d5_sail_157 (fun S => ?_)
        refine sd_aload_n (pc := 158) d5_sail_158 rfl ?_
        refine sd_aload_n (pc := 159) d5_sail_159 rfl ?_
        refine sd_lload_n (pc := 160) d5_sail_160 rfl ?_
        refine sd_iload (pc := 161) d5_sail_161 rfl ?_
        refine sd_iconst (pc := 163) 1 d5_sail_163 ci_1 ?_
        refine sd_iadd (pc := 164) d5_sail_164 ?_
        refine sd_aload_n (pc := 165) d5_sail_165 rfl ?_
        refine sd_getR (pc := 166) 50 (show sm_sq 48 = some (.inr 4) from rfl) rfl fl5_13 rfl d5_sail_166 ?_
        refine sd_iload (pc := 169) d5_sail_169 rfl ?_
        refine sd_iload (pc := 171) d5_sail_171 rfl ?_
        refine sd_cSI (k2 := k5_wasIn) (As := [.ref 50, .int v1, .int l4]) (rest := [.int (l4 + 1), .long l2, .ref 40, .ref 48]) (pc := 173) 44 d5_sail_173 ml5_44 (ms5_wasIn) (me5_wasIn) ⟨rfl, rfl⟩ ⟨by show _ ≤ _; simp only [k5_wasIn, k5_sail]; omega, Nat.le_of_ble_eq_true rfl⟩ (Nat.le_of_ble_eq_true rfl) (Nat.le_of_ble_eq_true rfl) (Or.inr rfl) (Nat.zero_le _) (Nat.zero_le _) rfl (s5_wasIn F 50 v1 l4 S) (fun v2 S => ?_)
        refine sd_if_eq (pc := 176) 184 d5_sail_176 (by decide) (fun _ => ?_) (fun _ => ?_)
        · refine sd_lload (pc := 184) d5_sail_184 rfl ?_
          refine sd_aload_n (pc := 186) d5_sail_186 rfl ?_
          refine sd_iload (pc := 187) d5_sail_187 rfl ?_
          refine sd_lald (pc := 189) (show sm_sq 40 = some (.inl (.long, 120)) from rfl) d5_sail_189 (fun v3 => ?_)
          refine sd_ladd (pc := 190) d5_sail_190 ?_
          refine sd_cSV (k2 := (k5_sail d)) (As := [.ref 48, .ref 40, .long l2, .int (l4 + 1), .long (l5 + v3)]) (rest := []) (pc := 191) 26 d5_sail_191 ml5_26 (ms5_sail d) (me5_sail d) ⟨rfl, rfl⟩ ⟨Nat.le_refl _, Nat.le_of_ble_eq_true rfl⟩ (Nat.le_of_ble_eq_true rfl) (Nat.le_of_ble_eq_true rfl) rfl (Nat.zero_le _) (Nat.zero_le _) rfl (hrc l2 (l4 + 1) (l5 + v3) S) (fun S => ?_)
          refine sd_iinc (lf2 := [some (.ref 48), some (.ref 40), some (.long l2), none, some (.int l4), some (.long l5), none, none, some (.int l8), some (.int l9), some (.int l10), some (.int (l11 + 1)), some (.int v1)]) (pc := 194) d5_sail_194 (Nat.le_of_ble_eq_true rfl) rfl ci_1 rfl ?_
          refine sd_goto (pc := 197) 121 d5_sail_197 (by decide) ?_
          exact sd_fg [true, true, true, true, true, true, true, true, true, true, true, true, false] rfl (ih l2 l4 l5 l8 l9 l10 (l11 + 1) S)
        · refine sd_lload (pc := 179) d5_sail_179 rfl ?_
          refine sd_goto (pc := 181) 191 d5_sail_181 (by decide) ?_
          refine sd_cSV (k2 := (k5_sail d)) (As := [.ref 48, .ref 40, .long l2, .int (l4 + 1), .long l5]) (rest := []) (pc := 191) 26 d5_sail_191 ml5_26 (ms5_sail d) (me5_sail d) ⟨rfl, rfl⟩ ⟨Nat.le_refl _, Nat.le_of_ble_eq_true rfl⟩ (Nat.le_of_ble_eq_true rfl) (Nat.le_of_ble_eq_true rfl) rfl (Nat.zero_le _) (Nat.zero_le _) rfl (hrc l2 (l4 + 1) l5 S) (fun S => ?_)
          refine sd_iinc (lf2 := [some (.ref 48), some (.ref 40), some (.long l2), none, some (.int l4), some (.long l5), none, none, some (.int l8), some (.int l9), some (.int l10), some (.int (l11 + 1)), some (.int v1)]) (pc := 194) d5_sail_194 (Nat.le_of_ble_eq_true rfl) rfl ci_1 rfl ?_
          refine sd_goto (pc := 197) 121 d5_sail_197 (by decide) ?_
          exact sd_fg [true, true, true, true, true, true, true, true, true, true, true, true, false] rfl (ih l2 l4 l5 l8 l9 l10 (l11 + 1) S)
set_option maxHeartbeats 4000000 in
set_option maxRecDepth 20000 in
theorem s5_sail_95 {N : Nat} (F : Nat) {d : Nat} (rc : Int64 → Int32 → Int64 → sm_t → Option (sm_t)) (hrc : ∀ (q2 : Int64) (q3 : Int32) (q4 : Int64) (S : sm_t), sm_P (sm_jV N) (k5_sail d) [.ref 48, .ref 40, .long q2, .int q3, .long q4] (sm_m N S) (rc q2 q3 q4 S)) : ∀ (f : Nat) (l2 : Int64) (l4 : Int32) (l5 : Int64) (l8 : Int32) (l9 : Int32) (l10 : Int32) (S : sm_t), sm_S (sm_jV N) (k5_sail (d + 1)) 0 0 95 [some (.ref 48), some (.ref 40), some (.long l2), none, some (.int l4), some (.long l5), none, none, some (.int l8), some (.int l9), some (.int l10), none, none] [] (sm_m N S) (x5_sail_95 F rc f l2 l4 l5 l8 l9 l10 S) := by
  intro f
  induction f with
  | zero =>
    intro l2 l4 l5 l8 l9 l10 S
    exact sd_none
  | succ f ih =>
    intro l2 l4 l5 l8 l9 l10 S
    rw [x5_sail_95]
    refine sd_iload (pc := 95) d5_sail_95 rfl ?_
    refine sd_iload (pc := 97) d5_sail_97 rfl ?_
    refine sd_iconst (pc := 99) 1 d5_sail_99 ci_1 ?_
    refine sd_iadd (pc := 100) d5_sail_100 ?_
    refine sd_ic_gt (pc := 101) 206 d5_sail_101 (by decide) (fun _ => ?_) (fun _ => ?_)
    · exact sd_vret (pc := 206) d5_sail_206 (Nat.zero_le _) (Nat.zero_le _)
    · refine sd_iload (pc := 104) d5_sail_104 rfl ?_
      refine sd_bipush (pc := 106) 10 d5_sail_106 cb_10 ?_
      refine sd_ic_ge (pc := 108) 206 d5_sail_108 (by decide) (fun _ => ?_) (fun _ => ?_)
      · exact sd_vret (pc := 206) d5_sail_206 (Nat.zero_le _) (Nat.zero_le _)
      · refine sd_iload (pc := 111) d5_sail_111 rfl ?_
        refine sd_iconst (pc := 113) 1 d5_sail_113 ci_1 ?_
        refine sd_isub (pc := 114) d5_sail_114 ?_
        refine sd_iconst (pc := 115) 0 d5_sail_115 ci_0 ?_
        refine sd_mmax (pc := 116) 38 sl5_38 (Nat.le_of_ble_eq_true rfl) (Nat.le_of_ble_eq_true rfl) (Nat.zero_le _) (Nat.zero_le _) d5_sail_116 ?_
        refine sd_ni (fun v1 => ?_)
        refine sd_istore (lf2 := [some (.ref 48), some (.ref 40), some (.long l2), none, some (.int l4), some (.long l5), none, none, some (.int l8), some (.int l9), some (.int l10), some (.int v1), none]) (pc := 119) d5_sail_119 (Nat.le_of_ble_eq_true rfl) rfl ?_
        exact s5_sail_121 F _ hrc _ ih F l2 l4 l5 l8 l9 l10 v1 S
set_option maxHeartbeats 4000000 in
set_option maxRecDepth 20000 in
theorem s5_sail {N : Nat} (F : Nat) : ∀ (d : Nat) (l2 : Int64) (l4 : Int32) (l5 : Int64) (S : sm_t), sm_P (sm_jV N) (k5_sail d) [.ref 48, .ref 40, .long l2, .int l4, .long l5] (sm_m N S) (x5_sail F d l2 l4 l5 S) := by
  intro d
  induction d with
  | zero =>
    intro l2 l4 l5 S
    exact sd_none
  | succ d ih =>
    intro l2 l4 l5 S
    show sm_S (sm_jV N) (k5_sail (d + 1)) 0 0 0 [some (.ref 48), some (.ref 40), some (.long l2), none, some (.int l4), some (.long l5), none, none, none, none, none, none, none] [] (sm_m N S) (x5_sail F (d + 1) l2 l4 l5 S)
    rw [x5_sail]
    refine sd_aload_n (pc := 0) d5_sail_0 rfl ?_
    refine sd_getI (pc := 1) (show sm_sq 48 = some (.inr 4) from rfl) rfl fl5_22 d5_sail_1 (fun v1 => ?_)
    refine sd_iload (pc := 4) d5_sail_4 rfl ?_
    refine sd_isub (pc := 6) d5_sail_6 ?_
    refine sd_ni (fun v2 => ?_)
    refine sd_istore (lf2 := [some (.ref 48), some (.ref 40), some (.long l2), none, some (.int l4), some (.long l5), none, some (.int v2), none, none, none, none, none]) (pc := 7) d5_sail_7 (Nat.le_of_ble_eq_true rfl) rfl ?_
    refine sd_lload (pc := 9) d5_sail_9 rfl ?_
    refine sd_iload (pc := 11) d5_sail_11 rfl ?_
    refine sd_i2l (pc := 13) d5_sail_13 ?_
    refine sd_lload_n (pc := 14) d5_sail_14 rfl ?_
    refine sd_lmul (pc := 15) d5_sail_15 ?_
    refine sd_ladd (pc := 16) d5_sail_16 ?_
    refine sd_aload_n (pc := 17) d5_sail_17 rfl ?_
    refine sd_getL (pc := 18) (show sm_sq 48 = some (.inr 4) from rfl) rfl fl5_18 d5_sail_18 (fun v3 => ?_)
    refine sd_lc_gt (pc := 21) 26 d5_sail_21 d5_sail_22 (by decide) (fun _ => ?_) (fun _ => ?_)
    · refine sd_iload (pc := 26) d5_sail_26 rfl ?_
      refine sd_if_le (pc := 28) 37 d5_sail_28 (by decide) (fun _ => ?_) (fun _ => ?_)
      · refine sd_aload_n (pc := 37) d5_sail_37 rfl ?_
        refine sd_lload (pc := 38) d5_sail_38 rfl ?_
        refine sd_putL (pc := 40) (show sm_sq 48 = some (.inr 4) from rfl) rfl fl5_18 rfl d5_sail_40 (fun S => ?_)
        refine sd_aload_n (pc := 43) d5_sail_43 rfl ?_
        refine sd_getR (pc := 44) 50 (show sm_sq 48 = some (.inr 4) from rfl) rfl fl5_13 rfl d5_sail_44 ?_
        refine sd_iconst (pc := 47) 0 d5_sail_47 ci_0 ?_
        refine sd_aload_n (pc := 48) d5_sail_48 rfl ?_
        refine sd_getR (pc := 49) 49 (show sm_sq 48 = some (.inr 4) from rfl) rfl fl5_9 rfl d5_sail_49 ?_
        refine sd_iconst (pc := 52) 0 d5_sail_52 ci_0 ?_
        refine sd_iload (pc := 53) d5_sail_53 rfl ?_
        refine sd_iconst (pc := 55) 1 d5_sail_55 ci_1 ?_
        refine sd_iadd (pc := 56) d5_sail_56 ?_
        refine sd_copy (pc := 57) 30 sl5_30 (show sm_sq 50 = some (.inl (.int, 5)) from rfl) (show sm_sq 49 = some (.inl (.int, 5)) from rfl) (Nat.le_of_ble_eq_true rfl) (Nat.le_of_ble_eq_true rfl) d5_sail_57 (fun S => ?_)
        exact sd_vret (pc := 60) d5_sail_60 (Nat.zero_le _) (Nat.zero_le _)
      · refine sd_iload (pc := 31) d5_sail_31 rfl ?_
        refine sd_iconst (pc := 33) 4 d5_sail_33 ci_4 ?_
        refine sd_ic_lt (pc := 34) 61 d5_sail_34 (by decide) (fun _ => ?_) (fun _ => ?_)
        · refine sd_aload_n (pc := 61) d5_sail_61 rfl ?_
          refine sd_getR (pc := 62) 50 (show sm_sq 48 = some (.inr 4) from rfl) rfl fl5_13 rfl d5_sail_62 ?_
          refine sd_iload (pc := 65) d5_sail_65 rfl ?_
          refine sd_iald (pc := 67) (show sm_sq 50 = some (.inl (.int, 5)) from rfl) d5_sail_67 (fun v4 => ?_)
          refine sd_bipush (pc := 68) 12 d5_sail_68 cb_12 ?_
          refine sd_irem (pc := 70) d5_sail_70 (by decide) ?_
          refine sd_ni (fun v5 => ?_)
          refine sd_istore (lf2 := [some (.ref 48), some (.ref 40), some (.long l2), none, some (.int l4), some (.long l5), none, some (.int v2), some (.int v5), none, none, none, none]) (pc := 71) d5_sail_71 (Nat.le_of_ble_eq_true rfl) rfl ?_
          refine sd_aload_n (pc := 73) d5_sail_73 rfl ?_
          refine sd_getR (pc := 74) 50 (show sm_sq 48 = some (.inr 4) from rfl) rfl fl5_13 rfl d5_sail_74 ?_
          refine sd_iload (pc := 77) d5_sail_77 rfl ?_
          refine sd_iald (pc := 79) (show sm_sq 50 = some (.inl (.int, 5)) from rfl) d5_sail_79 (fun v6 => ?_)
          refine sd_bipush (pc := 80) 12 d5_sail_80 cb_12 ?_
          refine sd_idiv (pc := 82) d5_sail_82 (by decide) ?_
          refine sd_ni (fun v7 => ?_)
          refine sd_istore (lf2 := [some (.ref 48), some (.ref 40), some (.long l2), none, some (.int l4), some (.long l5), none, some (.int v2), some (.int v5), some (.int v7), none, none, none]) (pc := 83) d5_sail_83 (Nat.le_of_ble_eq_true rfl) rfl ?_
          refine sd_iload (pc := 85) d5_sail_85 rfl ?_
          refine sd_iconst (pc := 87) 1 d5_sail_87 ci_1 ?_
          refine sd_isub (pc := 88) d5_sail_88 ?_
          refine sd_iconst (pc := 89) 0 d5_sail_89 ci_0 ?_
          refine sd_mmax (pc := 90) 38 sl5_38 (Nat.le_of_ble_eq_true rfl) (Nat.le_of_ble_eq_true rfl) (Nat.zero_le _) (Nat.zero_le _) d5_sail_90 ?_
          refine sd_ni (fun v8 => ?_)
          refine sd_istore (lf2 := [some (.ref 48), some (.ref 40), some (.long l2), none, some (.int l4), some (.long l5), none, some (.int v2), some (.int v5), some (.int v7), some (.int v8), none, none]) (pc := 93) d5_sail_93 (Nat.le_of_ble_eq_true rfl) rfl ?_
          exact sd_fg [true, true, true, true, true, true, true, false, true, true, true, true, true] rfl (s5_sail_95 F _ ih F l2 l4 l5 v5 v7 v8 S)
        · refine sd_aload_n (pc := 37) d5_sail_37 rfl ?_
          refine sd_lload (pc := 38) d5_sail_38 rfl ?_
          refine sd_putL (pc := 40) (show sm_sq 48 = some (.inr 4) from rfl) rfl fl5_18 rfl d5_sail_40 (fun S => ?_)
          refine sd_aload_n (pc := 43) d5_sail_43 rfl ?_
          refine sd_getR (pc := 44) 50 (show sm_sq 48 = some (.inr 4) from rfl) rfl fl5_13 rfl d5_sail_44 ?_
          refine sd_iconst (pc := 47) 0 d5_sail_47 ci_0 ?_
          refine sd_aload_n (pc := 48) d5_sail_48 rfl ?_
          refine sd_getR (pc := 49) 49 (show sm_sq 48 = some (.inr 4) from rfl) rfl fl5_9 rfl d5_sail_49 ?_
          refine sd_iconst (pc := 52) 0 d5_sail_52 ci_0 ?_
          refine sd_iload (pc := 53) d5_sail_53 rfl ?_
          refine sd_iconst (pc := 55) 1 d5_sail_55 ci_1 ?_
          refine sd_iadd (pc := 56) d5_sail_56 ?_
          refine sd_copy (pc := 57) 30 sl5_30 (show sm_sq 50 = some (.inl (.int, 5)) from rfl) (show sm_sq 49 = some (.inl (.int, 5)) from rfl) (Nat.le_of_ble_eq_true rfl) (Nat.le_of_ble_eq_true rfl) d5_sail_57 (fun S => ?_)
          exact sd_vret (pc := 60) d5_sail_60 (Nat.zero_le _) (Nat.zero_le _)
    · exact sd_vret (pc := 25) d5_sail_25 (Nat.zero_le _) (Nat.zero_le _)
set_option maxHeartbeats 4000000 in
set_option maxRecDepth 20000 in
theorem s5_search {N : Nat} (F : Nat) (l2 : Int64) (l4 : Int32) (l5 : Int32) (S : sm_t) : sm_P (sm_jL N) k5_search [.ref 48, .ref 40, .long l2, .int l4, .int l5] (sm_m N S) (x5_search F l2 l4 l5 S) := by
  show sm_S (sm_jL N) k5_search 0 0 0 [some (.ref 48), some (.ref 40), some (.long l2), none, some (.int l4), some (.int l5)] [] (sm_m N S) (x5_search F l2 l4 l5 S)
  unfold x5_search
  refine sd_aload_n (pc := 0) d5_search_0 rfl ?_
  refine sd_ldc2 (pc := 1) cl5_16 d5_search_1 ?_
  refine sd_putL (pc := 4) (show sm_sq 48 = some (.inr 4) from rfl) rfl fl5_18 rfl d5_search_4 (fun S => ?_)
  refine sd_aload_n (pc := 7) d5_search_7 rfl ?_
  refine sd_iload (pc := 8) d5_search_8 rfl ?_
  refine sd_putI (pc := 10) (show sm_sq 48 = some (.inr 4) from rfl) rfl fl5_22 rfl d5_search_10 (fun S => ?_)
  refine sd_aload_n (pc := 13) d5_search_13 rfl ?_
  refine sd_getR (pc := 14) 50 (show sm_sq 48 = some (.inr 4) from rfl) rfl fl5_13 rfl d5_search_14 ?_
  refine sd_iconst (pc := 17) 0 d5_search_17 ci_0 ?_
  refine sd_iload (pc := 18) d5_search_18 rfl ?_
  refine sd_iast (pc := 20) (show sm_sq 50 = some (.inl (.int, 5)) from rfl) d5_search_20 (fun S => ?_)
  refine sd_aload_n (pc := 21) d5_search_21 rfl ?_
  refine sd_aload_n (pc := 22) d5_search_22 rfl ?_
  refine sd_lload_n (pc := 23) d5_search_23 rfl ?_
  refine sd_iconst (pc := 24) 0 d5_search_24 ci_0 ?_
  refine sd_aload_n (pc := 25) d5_search_25 rfl ?_
  refine sd_iload (pc := 26) d5_search_26 rfl ?_
  refine sd_lald (pc := 28) (show sm_sq 40 = some (.inl (.long, 120)) from rfl) d5_search_28 (fun v1 => ?_)
  refine sd_cSV (k2 := (k5_sail 8)) (As := [.ref 48, .ref 40, .long l2, .int 0, .long v1]) (rest := []) (pc := 29) 26 d5_search_29 ml5_26 (ms5_sail 8) (me5_sail 8) ⟨rfl, rfl⟩ ⟨Nat.le_of_ble_eq_true rfl, Nat.le_of_ble_eq_true rfl⟩ (Nat.le_of_ble_eq_true rfl) (Nat.le_of_ble_eq_true rfl) rfl (Nat.zero_le _) (Nat.zero_le _) rfl (s5_sail F 8 l2 0 v1 S) (fun S => ?_)
  refine sd_aload_n (pc := 32) d5_search_32 rfl ?_
  refine sd_getL (pc := 33) (show sm_sq 48 = some (.inr 4) from rfl) rfl fl5_18 d5_search_33 (fun v3 => ?_)
  exact sd_lret (pc := 36) d5_search_36 (Nat.zero_le _) (Nat.zero_le _)
set_option maxHeartbeats 4000000 in
set_option maxRecDepth 20000 in
theorem s5_unlikeCells_4 {N : Nat} (F : Nat) : ∀ (f : Nat) (l1 : Int32) (l2 : Int32) (l3 : Int32) (S : sm_t), sm_S (sm_jI N) k5_unlikeCells 0 0 4 [some (.ref 48), some (.int l1), some (.int l2), some (.int l3)] [] (sm_m N S) (x5_unlikeCells_4 F f l1 l2 l3 S) := by
  intro f
  induction f with
  | zero =>
    intro l1 l2 l3 S
    exact sd_none
  | succ f ih =>
    intro l1 l2 l3 S
    rw [x5_unlikeCells_4]
    refine sd_iload_n (pc := 4) d5_unlikeCells_4 rfl ?_
    refine sd_iload_n (pc := 5) d5_unlikeCells_5 rfl ?_
    refine sd_ic_gt (pc := 6) 42 d5_unlikeCells_6 (by decide) (fun _ => ?_) (fun _ => ?_)
    · refine sd_iload_n (pc := 42) d5_unlikeCells_42 rfl ?_
      exact sd_iret (pc := 43) d5_unlikeCells_43 rfl (Nat.zero_le _) (Nat.zero_le _)
    · refine sd_iload_n (pc := 9) d5_unlikeCells_9 rfl ?_
      refine sd_aload_n (pc := 10) d5_unlikeCells_10 rfl ?_
      refine sd_getR (pc := 11) 49 (show sm_sq 48 = some (.inr 4) from rfl) rfl fl5_9 rfl d5_unlikeCells_11 ?_
      refine sd_aload_n (pc := 14) d5_unlikeCells_14 rfl ?_
      refine sd_getR (pc := 15) 49 (show sm_sq 48 = some (.inr 4) from rfl) rfl fl5_9 rfl d5_unlikeCells_15 ?_
      refine sd_iload_n (pc := 18) d5_unlikeCells_18 rfl ?_
      refine sd_iald (pc := 19) (show sm_sq 49 = some (.inl (.int, 5)) from rfl) d5_unlikeCells_19 (fun v1 => ?_)
      refine sd_iload_n (pc := 20) d5_unlikeCells_20 rfl ?_
      refine sd_iconst (pc := 21) 1 d5_unlikeCells_21 ci_1 ?_
      refine sd_isub (pc := 22) d5_unlikeCells_22 ?_
      refine sd_cSI (k2 := k5_wasIn) (As := [.ref 49, .int v1, .int (l3 - 1)]) (rest := [.int l2]) (pc := 23) 44 d5_unlikeCells_23 ml5_44 (ms5_wasIn) (me5_wasIn) ⟨rfl, rfl⟩ ⟨Nat.le_of_ble_eq_true rfl, Nat.le_of_ble_eq_true rfl⟩ (Nat.le_of_ble_eq_true rfl) (Nat.le_of_ble_eq_true rfl) (Or.inr rfl) (Nat.zero_le _) (Nat.zero_le _) rfl (s5_wasIn F 49 v1 (l3 - 1) S) (fun v2 S => ?_)
      refine sd_if_eq (pc := 26) 33 d5_unlikeCells_26 (by decide) (fun _ => ?_) (fun _ => ?_)
      · refine sd_iconst (pc := 33) 1 d5_unlikeCells_33 ci_1 ?_
        refine sd_iadd (pc := 34) d5_unlikeCells_34 ?_
        refine sd_ni (fun v3 => ?_)
        refine sd_istore_n (lf2 := [some (.ref 48), some (.int l1), some (.int v3), some (.int l3)]) (pc := 35) d5_unlikeCells_35 (Nat.le_of_ble_eq_true rfl) rfl ?_
        refine sd_iinc (lf2 := [some (.ref 48), some (.int l1), some (.int v3), some (.int (l3 + 1))]) (pc := 36) d5_unlikeCells_36 (Nat.le_of_ble_eq_true rfl) rfl ci_1 rfl ?_
        refine sd_goto (pc := 39) 4 d5_unlikeCells_39 (by decide) ?_
        exact ih l1 v3 (l3 + 1) S
      · refine sd_iconst (pc := 29) 0 d5_unlikeCells_29 ci_0 ?_
        refine sd_goto (pc := 30) 34 d5_unlikeCells_30 (by decide) ?_
        refine sd_iadd (pc := 34) d5_unlikeCells_34 ?_
        refine sd_ni (fun v4 => ?_)
        refine sd_istore_n (lf2 := [some (.ref 48), some (.int l1), some (.int v4), some (.int l3)]) (pc := 35) d5_unlikeCells_35 (Nat.le_of_ble_eq_true rfl) rfl ?_
        refine sd_iinc (lf2 := [some (.ref 48), some (.int l1), some (.int v4), some (.int (l3 + 1))]) (pc := 36) d5_unlikeCells_36 (Nat.le_of_ble_eq_true rfl) rfl ci_1 rfl ?_
        refine sd_goto (pc := 39) 4 d5_unlikeCells_39 (by decide) ?_
        exact ih l1 v4 (l3 + 1) S
set_option maxHeartbeats 4000000 in
set_option maxRecDepth 20000 in
theorem s5_unlikeCells {N : Nat} (F : Nat) (l1 : Int32) (S : sm_t) : sm_P (sm_jI N) k5_unlikeCells [.ref 48, .int l1] (sm_m N S) (x5_unlikeCells F l1 S) := by
  show sm_S (sm_jI N) k5_unlikeCells 0 0 0 [some (.ref 48), some (.int l1), none, none] [] (sm_m N S) (x5_unlikeCells F l1 S)
  unfold x5_unlikeCells
  refine sd_iconst (pc := 0) 0 d5_unlikeCells_0 ci_0 ?_
  refine sd_istore_n (lf2 := [some (.ref 48), some (.int l1), some (.int 0), none]) (pc := 1) d5_unlikeCells_1 (Nat.le_of_ble_eq_true rfl) rfl ?_
  refine sd_iconst (pc := 2) 0 d5_unlikeCells_2 ci_0 ?_
  refine sd_istore_n (lf2 := [some (.ref 48), some (.int l1), some (.int 0), some (.int 0)]) (pc := 3) d5_unlikeCells_3 (Nat.le_of_ble_eq_true rfl) rfl ?_
  exact s5_unlikeCells_4 F F l1 0 0 S
set_option maxHeartbeats 4000000 in
set_option maxRecDepth 20000 in
theorem s7_drag {N : Nat} (F : Nat) (l1 : Int32) (l2 : Int32) (l3 : Int32) (l4 : Int32) (S : sm_t) : sm_P (sm_jI N) k7_drag [.ref 3, .int l1, .int l2, .int l3, .int l4] (sm_m N S) (x7_drag F l1 l2 l3 l4 S) := by
  show sm_S (sm_jI N) k7_drag 0 0 0 [some (.ref 3), some (.int l1), some (.int l2), some (.int l3), some (.int l4), none] [] (sm_m N S) (x7_drag F l1 l2 l3 l4 S)
  unfold x7_drag
  refine sd_iload_n (pc := 0) d7_drag_0 rfl ?_
  refine sd_cSI (k2 := k7_isStory) (As := [.int l1]) (rest := []) (pc := 1) 214 d7_drag_1 ml7_214 (ms7_isStory) (me7_isStory) ⟨rfl, rfl⟩ ⟨Nat.le_of_ble_eq_true rfl, Nat.le_of_ble_eq_true rfl⟩ (Nat.le_of_ble_eq_true rfl) (Nat.le_of_ble_eq_true rfl) (Or.inr rfl) (Nat.zero_le _) (Nat.zero_le _) rfl (s7_isStory F l1 S) (fun v1 S => ?_)
  refine sd_if_eq (pc := 4) 30 d7_drag_4 (by decide) (fun _ => ?_) (fun _ => ?_)
  · refine sd_iconst (pc := 30) (-1) d7_drag_30 ci_m1 ?_
    exact sd_iret (pc := 31) d7_drag_31 rfl (Nat.zero_le _) (Nat.zero_le _)
  · refine sd_iload_n (pc := 7) d7_drag_7 rfl ?_
    refine sd_cSI (k2 := k1_isCell) (As := [.int l2]) (rest := []) (pc := 8) 120 d7_drag_8 ml7_120 (ms1_isCell) (me1_isCell) ⟨rfl, rfl⟩ ⟨Nat.le_of_ble_eq_true rfl, Nat.le_of_ble_eq_true rfl⟩ (Nat.le_of_ble_eq_true rfl) (Nat.le_of_ble_eq_true rfl) (Or.inr rfl) (Nat.zero_le _) (Nat.zero_le _) rfl (s1_isCell F l2 S) (fun v2 S => ?_)
    refine sd_if_eq (pc := 11) 30 d7_drag_11 (by decide) (fun _ => ?_) (fun _ => ?_)
    · refine sd_iconst (pc := 30) (-1) d7_drag_30 ci_m1 ?_
      exact sd_iret (pc := 31) d7_drag_31 rfl (Nat.zero_le _) (Nat.zero_le _)
    · refine sd_iload_n (pc := 14) d7_drag_14 rfl ?_
      refine sd_iconst (pc := 15) 4 d7_drag_15 ci_4 ?_
      refine sd_cSI (k2 := k7_isWithin) (As := [.int l3, .int 4]) (rest := []) (pc := 16) 137 d7_drag_16 ml7_137 (ms7_isWithin) (me7_isWithin) ⟨rfl, rfl⟩ ⟨Nat.le_of_ble_eq_true rfl, Nat.le_of_ble_eq_true rfl⟩ (Nat.le_of_ble_eq_true rfl) (Nat.le_of_ble_eq_true rfl) (Or.inr rfl) (Nat.zero_le _) (Nat.zero_le _) rfl (s7_isWithin F l3 4 S) (fun v3 S => ?_)
      refine sd_if_eq (pc := 19) 30 d7_drag_19 (by decide) (fun _ => ?_) (fun _ => ?_)
      · refine sd_iconst (pc := 30) (-1) d7_drag_30 ci_m1 ?_
        exact sd_iret (pc := 31) d7_drag_31 rfl (Nat.zero_le _) (Nat.zero_le _)
      · refine sd_iload (pc := 22) d7_drag_22 rfl ?_
        refine sd_cSI (k2 := k7_isRow) (As := [.int l4]) (rest := []) (pc := 24) 88 d7_drag_24 ml7_88 (ms7_isRow) (me7_isRow) ⟨rfl, rfl⟩ ⟨Nat.le_of_ble_eq_true rfl, Nat.le_of_ble_eq_true rfl⟩ (Nat.le_of_ble_eq_true rfl) (Nat.le_of_ble_eq_true rfl) (Or.inr rfl) (Nat.zero_le _) (Nat.zero_le _) rfl (s7_isRow F l4 S) (fun v4 S => ?_)
        refine sd_if_ne (pc := 27) 32 d7_drag_27 (by decide) (fun _ => ?_) (fun _ => ?_)
        · refine sd_iconst (pc := 30) (-1) d7_drag_30 ci_m1 ?_
          exact sd_iret (pc := 31) d7_drag_31 rfl (Nat.zero_le _) (Nat.zero_le _)
        · refine sd_aload_n (pc := 32) d7_drag_32 rfl ?_
          refine sd_iload_n (pc := 33) d7_drag_33 rfl ?_
          refine sd_cVI (k2 := k7_weighed) (As := [.int l1]) (rest := []) (b := 3) (ci := 6) (pc := 34) 217 (show sm_sq 3 = some (.inr 6) from rfl) (by decide) rfl d7_drag_34 ml7_217 (ms7_weighed).1 (ms7_weighed).2 (me7_weighed) ⟨rfl, rfl⟩ ⟨Nat.le_of_ble_eq_true rfl, Nat.le_of_ble_eq_true rfl⟩ (Nat.le_of_ble_eq_true rfl) (Nat.le_of_ble_eq_true rfl) (Or.inl rfl) (Nat.zero_le _) (Nat.zero_le _) rfl (s7_weighed F l1 S) (fun v5 S => ?_)
          refine sd_istore (lf2 := [some (.ref 3), some (.int l1), some (.int l2), some (.int l3), some (.int l4), some (.int v5)]) (pc := 37) d7_drag_37 (Nat.le_of_ble_eq_true rfl) rfl ?_
          refine sd_iload (pc := 39) d7_drag_39 rfl ?_
          refine sd_if_eq (pc := 41) 47 d7_drag_41 (by decide) (fun _ => ?_) (fun _ => ?_)
          · refine sd_aload_n (pc := 47) d7_drag_47 rfl ?_
            refine sd_aload_n (pc := 48) d7_drag_48 rfl ?_
            refine sd_getR (pc := 49) 48 (show sm_sq 3 = some (.inr 6) from rfl) rfl fl7_61 rfl d7_drag_49 ?_
            refine sd_aload_n (pc := 52) d7_drag_52 rfl ?_
            refine sd_getR (pc := 53) 18 (show sm_sq 3 = some (.inr 6) from rfl) rfl fl7_29 rfl d7_drag_53 ?_
            refine sd_getR (pc := 56) 40 (show sm_sq 18 = some (.inr 1) from rfl) rfl fl7_220 rfl d7_drag_56 ?_
            refine sd_aload_n (pc := 59) d7_drag_59 rfl ?_
            refine sd_getR (pc := 60) 18 (show sm_sq 3 = some (.inr 6) from rfl) rfl fl7_29 rfl d7_drag_60 ?_
            refine sd_getR (pc := 63) 40 (show sm_sq 18 = some (.inr 1) from rfl) rfl fl7_220 rfl d7_drag_63 ?_
            refine sd_aload_n (pc := 66) d7_drag_66 rfl ?_
            refine sd_getR (pc := 67) 18 (show sm_sq 3 = some (.inr 6) from rfl) rfl fl7_29 rfl d7_drag_67 ?_
            refine sd_cVI (k2 := k2_greatest) (As := []) (rest := [.ref 40, .ref 40, .ref 48, .ref 3]) (b := 18) (ci := 1) (pc := 70) 230 (show sm_sq 18 = some (.inr 1) from rfl) (by decide) rfl d7_drag_70 ml7_230 (ms2_greatest).1 (ms2_greatest).2 (me2_greatest) ⟨rfl, rfl⟩ ⟨Nat.le_of_ble_eq_true rfl, Nat.le_of_ble_eq_true rfl⟩ (Nat.le_of_ble_eq_true rfl) (Nat.le_of_ble_eq_true rfl) (Or.inl rfl) (Nat.zero_le _) (Nat.zero_le _) rfl (s2_greatest F S) (fun v6 S => ?_)
            refine sd_lald (pc := 73) (show sm_sq 40 = some (.inl (.long, 120)) from rfl) d7_drag_73 (fun v7 => ?_)
            refine sd_iload_n (pc := 74) d7_drag_74 rfl ?_
            refine sd_iload_n (pc := 75) d7_drag_75 rfl ?_
            refine sd_cVL (k2 := k5_search) (As := [.ref 40, .long v7, .int l2, .int l3]) (rest := [.ref 3]) (b := 48) (ci := 4) (pc := 76) 276 (show sm_sq 48 = some (.inr 4) from rfl) (by decide) rfl d7_drag_76 ml7_276 (ms5_search).1 (ms5_search).2 (me5_search) ⟨rfl, rfl⟩ ⟨Nat.le_of_ble_eq_true rfl, Nat.le_of_ble_eq_true rfl⟩ (Nat.le_of_ble_eq_true rfl) (Nat.le_of_ble_eq_true rfl) rfl (Nat.zero_le _) (Nat.zero_le _) rfl (s5_search F v7 l2 l3 S) (fun v8 S => ?_)
            refine sd_aload_n (pc := 79) d7_drag_79 rfl ?_
            refine sd_getR (pc := 80) 18 (show sm_sq 3 = some (.inr 6) from rfl) rfl fl7_29 rfl d7_drag_80 ?_
            refine sd_getL (pc := 83) (show sm_sq 18 = some (.inr 1) from rfl) rfl fl7_223 d7_drag_83 (fun v9 => ?_)
            refine sd_cVV (k2 := k7_fraction) (As := [.long v8, .long v9]) (rest := []) (b := 3) (ci := 6) (pc := 86) 226 (show sm_sq 3 = some (.inr 6) from rfl) (by decide) rfl d7_drag_86 ml7_226 (ms7_fraction).1 (ms7_fraction).2 (me7_fraction) ⟨rfl, rfl⟩ ⟨Nat.le_of_ble_eq_true rfl, Nat.le_of_ble_eq_true rfl⟩ (Nat.le_of_ble_eq_true rfl) (Nat.le_of_ble_eq_true rfl) rfl (Nat.zero_le _) (Nat.zero_le _) rfl (s7_fraction F v8 v9 S) (fun S => ?_)
            refine sd_aload_n (pc := 89) d7_drag_89 rfl ?_
            refine sd_iload (pc := 90) d7_drag_90 rfl ?_
            refine sd_iload_n (pc := 92) d7_drag_92 rfl ?_
            refine sd_iconst (pc := 93) 1 d7_drag_93 ci_1 ?_
            refine sd_iadd (pc := 94) d7_drag_94 ?_
            refine sd_cVV (k2 := k7_renew) (As := [.int l4, .int (l3 + 1)]) (rest := []) (b := 3) (ci := 6) (pc := 95) 96 (show sm_sq 3 = some (.inr 6) from rfl) (by decide) rfl d7_drag_95 ml7_96 (ms7_renew).1 (ms7_renew).2 (me7_renew) ⟨rfl, rfl⟩ ⟨Nat.le_of_ble_eq_true rfl, Nat.le_of_ble_eq_true rfl⟩ (Nat.le_of_ble_eq_true rfl) (Nat.le_of_ble_eq_true rfl) rfl (Nat.zero_le _) (Nat.zero_le _) rfl (s7_renew F l4 (l3 + 1) S) (fun S => ?_)
            refine sd_aload_n (pc := 98) d7_drag_98 rfl ?_
            refine sd_getR (pc := 99) 48 (show sm_sq 3 = some (.inr 6) from rfl) rfl fl7_61 rfl d7_drag_99 ?_
            refine sd_getR (pc := 102) 49 (show sm_sq 48 = some (.inr 4) from rfl) rfl fl7_280 rfl d7_drag_102 ?_
            refine sd_iconst (pc := 105) 0 d7_drag_105 ci_0 ?_
            refine sd_aload_n (pc := 106) d7_drag_106 rfl ?_
            refine sd_getR (pc := 107) 4 (show sm_sq 3 = some (.inr 6) from rfl) rfl fl7_11 rfl d7_drag_107 ?_
            refine sd_iload (pc := 110) d7_drag_110 rfl ?_
            refine sd_aald (pc := 112) 4 (show sm_sq 4 = some (.inl (.array .int, 6)) from rfl) rfl rfl (fun _ => rfl) (fun _ _ _ _ h => if_pos h) d7_drag_112 (fun a12 => ?_)
            refine sd_iconst (pc := 113) 0 d7_drag_113 ci_0 ?_
            refine sd_iload_n (pc := 114) d7_drag_114 rfl ?_
            refine sd_iconst (pc := 115) 1 d7_drag_115 ci_1 ?_
            refine sd_iadd (pc := 116) d7_drag_116 ?_
            refine sd_an (fun n14 h13 => ?_)
            refine sd_copy (pc := 117) 108 sl7_108 (show sm_sq 49 = some (.inl (.int, 5)) from rfl) h13 (Nat.le_of_ble_eq_true rfl) (Nat.le_of_ble_eq_true rfl) d7_drag_117 (fun S => ?_)
            refine sd_aload_n (pc := 120) d7_drag_120 rfl ?_
            refine sd_getR (pc := 121) 48 (show sm_sq 3 = some (.inr 6) from rfl) rfl fl7_61 rfl d7_drag_121 ?_
            refine sd_iload_n (pc := 124) d7_drag_124 rfl ?_
            refine sd_cVI (k2 := k5_unlikeCells) (As := [.int l3]) (rest := []) (b := 48) (ci := 4) (pc := 125) 283 (show sm_sq 48 = some (.inr 4) from rfl) (by decide) rfl d7_drag_125 ml7_283 (ms5_unlikeCells).1 (ms5_unlikeCells).2 (me5_unlikeCells) ⟨rfl, rfl⟩ ⟨Nat.le_of_ble_eq_true rfl, Nat.le_of_ble_eq_true rfl⟩ (Nat.le_of_ble_eq_true rfl) (Nat.le_of_ble_eq_true rfl) (Or.inl rfl) (Nat.zero_le _) (Nat.zero_le _) rfl (s5_unlikeCells F l3 S) (fun v15 S => ?_)
            exact sd_iret (pc := 128) d7_drag_128 rfl (Nat.zero_le _) (Nat.zero_le _)
          · refine sd_iload (pc := 44) d7_drag_44 rfl ?_
            exact sd_iret (pc := 46) d7_drag_46 rfl (Nat.zero_le _) (Nat.zero_le _)
set_option maxHeartbeats 4000000 in
set_option maxRecDepth 20000 in
theorem s8_wasThere_5 {N : Nat} (F : Nat) : ∀ (f : Nat) (l1 : Int32) (l2 : Int32) (l3 : Int32) (l4 : Int32) (S : sm_t), sm_S (sm_jI N) k8_wasThere 0 0 5 [some (.ref 52), some (.int l1), some (.int l2), some (.int l3), some (.int l4)] [] (sm_m N S) (x8_wasThere_5 F f l1 l2 l3 l4 S) := by
  intro f
  induction f with
  | zero =>
    intro l1 l2 l3 l4 S
    exact sd_none
  | succ f ih =>
    intro l1 l2 l3 l4 S
    rw [x8_wasThere_5]
    refine sd_iload (pc := 5) d8_wasThere_5 rfl ?_
    refine sd_iload_n (pc := 7) d8_wasThere_7 rfl ?_
    refine sd_ic_ge (pc := 8) 38 d8_wasThere_8 (by decide) (fun _ => ?_) (fun _ => ?_)
    · refine sd_iload_n (pc := 38) d8_wasThere_38 rfl ?_
      exact sd_zrv (pc := 39) d8_wasThere_39 (Nat.zero_le _) (Nat.zero_le _)
    · refine sd_iload_n (pc := 11) d8_wasThere_11 rfl ?_
      refine sd_if_ne (pc := 12) 26 d8_wasThere_12 (by decide) (fun _ => ?_) (fun _ => ?_)
      · refine sd_aload_n (pc := 15) d8_wasThere_15 rfl ?_
        refine sd_getR (pc := 16) 67 (show sm_sq 52 = some (.inr 7) from rfl) rfl fl8_62 rfl d8_wasThere_16 ?_
        refine sd_iload (pc := 19) d8_wasThere_19 rfl ?_
        refine sd_iald (pc := 21) (show sm_sq 67 = some (.inl (.int, 5)) from rfl) d8_wasThere_21 (fun v1 => ?_)
        refine sd_iload_n (pc := 22) d8_wasThere_22 rfl ?_
        refine sd_ic_ne (pc := 23) 30 d8_wasThere_23 (by decide) (fun _ => ?_) (fun _ => ?_)
        · refine sd_iconst (pc := 26) 1 d8_wasThere_26 ci_1 ?_
          refine sd_goto (pc := 27) 31 d8_wasThere_27 (by decide) ?_
          refine sd_istore_n (lf2 := [some (.ref 52), some (.int l1), some (.int l2), some (.int 1), some (.int l4)]) (pc := 31) d8_wasThere_31 (Nat.le_of_ble_eq_true rfl) rfl ?_
          refine sd_iinc (lf2 := [some (.ref 52), some (.int l1), some (.int l2), some (.int 1), some (.int (l4 + 1))]) (pc := 32) d8_wasThere_32 (Nat.le_of_ble_eq_true rfl) rfl ci_1 rfl ?_
          refine sd_goto (pc := 35) 5 d8_wasThere_35 (by decide) ?_
          exact ih l1 l2 1 (l4 + 1) S
        · refine sd_iconst (pc := 30) 0 d8_wasThere_30 ci_0 ?_
          refine sd_istore_n (lf2 := [some (.ref 52), some (.int l1), some (.int l2), some (.int 0), some (.int l4)]) (pc := 31) d8_wasThere_31 (Nat.le_of_ble_eq_true rfl) rfl ?_
          refine sd_iinc (lf2 := [some (.ref 52), some (.int l1), some (.int l2), some (.int 0), some (.int (l4 + 1))]) (pc := 32) d8_wasThere_32 (Nat.le_of_ble_eq_true rfl) rfl ci_1 rfl ?_
          refine sd_goto (pc := 35) 5 d8_wasThere_35 (by decide) ?_
          exact ih l1 l2 0 (l4 + 1) S
      · refine sd_iconst (pc := 26) 1 d8_wasThere_26 ci_1 ?_
        refine sd_goto (pc := 27) 31 d8_wasThere_27 (by decide) ?_
        refine sd_istore_n (lf2 := [some (.ref 52), some (.int l1), some (.int l2), some (.int 1), some (.int l4)]) (pc := 31) d8_wasThere_31 (Nat.le_of_ble_eq_true rfl) rfl ?_
        refine sd_iinc (lf2 := [some (.ref 52), some (.int l1), some (.int l2), some (.int 1), some (.int (l4 + 1))]) (pc := 32) d8_wasThere_32 (Nat.le_of_ble_eq_true rfl) rfl ci_1 rfl ?_
        refine sd_goto (pc := 35) 5 d8_wasThere_35 (by decide) ?_
        exact ih l1 l2 1 (l4 + 1) S
set_option maxHeartbeats 4000000 in
set_option maxRecDepth 20000 in
theorem s8_wasThere {N : Nat} (F : Nat) (l1 : Int32) (l2 : Int32) (S : sm_t) : sm_P (sm_jI N) k8_wasThere [.ref 52, .int l1, .int l2] (sm_m N S) (x8_wasThere F l1 l2 S) := by
  show sm_S (sm_jI N) k8_wasThere 0 0 0 [some (.ref 52), some (.int l1), some (.int l2), none, none] [] (sm_m N S) (x8_wasThere F l1 l2 S)
  unfold x8_wasThere
  refine sd_iconst (pc := 0) 0 d8_wasThere_0 ci_0 ?_
  refine sd_istore_n (lf2 := [some (.ref 52), some (.int l1), some (.int l2), some (.int 0), none]) (pc := 1) d8_wasThere_1 (Nat.le_of_ble_eq_true rfl) rfl ?_
  refine sd_iconst (pc := 2) 0 d8_wasThere_2 ci_0 ?_
  refine sd_istore (lf2 := [some (.ref 52), some (.int l1), some (.int l2), some (.int 0), some (.int 0)]) (pc := 3) d8_wasThere_3 (Nat.le_of_ble_eq_true rfl) rfl ?_
  exact s8_wasThere_5 F F l1 l2 0 0 S
set_option maxHeartbeats 4000000 in
set_option maxRecDepth 20000 in
theorem s8_dragOn_80 {N : Nat} (F : Nat) {d : Nat} (rc : Int32 → Int32 → Int32 → Int64 → Int32 → sm_t → Option (sm_t)) (hrc : ∀ (q1 : Int32) (q2 : Int32) (q3 : Int32) (q4 : Int64) (q5 : Int32) (S : sm_t), sm_P (sm_jV N) (k8_dragOn d) [.ref 52, .int q1, .int q2, .int q3, .long q4, .int q5] (sm_m N S) (rc q1 q2 q3 q4 q5 S)) : ∀ (f : Nat) (l2 : Int32) (l11 : Int32) (S : sm_t), sm_S (sm_jV N) (k8_dragOn (d + 1)) 0 0 80 [some (.ref 52), none, some (.int l2), none, none, none, none, none, none, none, none, some (.int l11)] [] (sm_m N S) (x8_dragOn_80 F rc f l2 l11 S) := by
  intro f
  induction f with
  | zero =>
    intro l2 l11 S
    exact sd_none
  | succ f ih =>
    intro l2 l11 S
    rw [x8_dragOn_80]
    refine sd_iload (pc := 80) d8_dragOn_80 rfl ?_
    refine sd_iload_n (pc := 82) d8_dragOn_82 rfl ?_
    refine sd_ic_gt (pc := 83) 106 d8_dragOn_83 (by decide) (fun _ => ?_) (fun _ => ?_)
    · exact sd_vret (pc := 106) d8_dragOn_106 (Nat.zero_le _) (Nat.zero_le _)
    · refine sd_aload_n (pc := 86) d8_dragOn_86 rfl ?_
      refine sd_getR (pc := 87) 68 (show sm_sq 52 = some (.inr 7) from rfl) rfl fl8_65 rfl d8_dragOn_87 ?_
      refine sd_iload (pc := 90) d8_dragOn_90 rfl ?_
      refine sd_aload_n (pc := 92) d8_dragOn_92 rfl ?_
      refine sd_getR (pc := 93) 67 (show sm_sq 52 = some (.inr 7) from rfl) rfl fl8_62 rfl d8_dragOn_93 ?_
      refine sd_iload (pc := 96) d8_dragOn_96 rfl ?_
      refine sd_iald (pc := 98) (show sm_sq 67 = some (.inl (.int, 5)) from rfl) d8_dragOn_98 (fun v1 => ?_)
      refine sd_iast (pc := 99) (show sm_sq 68 = some (.inl (.int, 5)) from rfl) d8_dragOn_99 (fun S => ?_)
      refine sd_iinc (lf2 := [some (.ref 52), none, some (.int l2), none, none, none, none, none, none, none, none, some (.int (l11 + 1))]) (pc := 100) d8_dragOn_100 (Nat.le_of_ble_eq_true rfl) rfl ci_1 rfl ?_
      refine sd_goto (pc := 103) 80 d8_dragOn_103 (by decide) ?_
      exact ih l2 (l11 + 1) S
set_option maxHeartbeats 4000000 in
set_option maxRecDepth 20000 in
theorem s8_dragOn_115 {N : Nat} (F : Nat) {d : Nat} (rc : Int32 → Int32 → Int32 → Int64 → Int32 → sm_t → Option (sm_t)) (hrc : ∀ (q1 : Int32) (q2 : Int32) (q3 : Int32) (q4 : Int64) (q5 : Int32) (S : sm_t), sm_P (sm_jV N) (k8_dragOn d) [.ref 52, .int q1, .int q2, .int q3, .long q4, .int q5] (sm_m N S) (rc q1 q2 q3 q4 q5 S)) : ∀ (f : Nat) (l1 : Int32) (l2 : Int32) (l3 : Int32) (l8 : Int64) (l10 : Int32) (l11 : Int32) (S : sm_t), sm_S (sm_jV N) (k8_dragOn (d + 1)) 0 0 115 [some (.ref 52), some (.int l1), some (.int l2), some (.int l3), none, none, none, none, some (.long l8), none, some (.int l10), some (.int l11)] [] (sm_m N S) (x8_dragOn_115 F rc f l1 l2 l3 l8 l10 l11 S) := by
  intro f
  induction f with
  | zero =>
    intro l1 l2 l3 l8 l10 l11 S
    exact sd_none
  | succ f ih =>
    intro l1 l2 l3 l8 l10 l11 S
    rw [x8_dragOn_115]
    refine sd_iload (pc := 115) d8_dragOn_115 rfl ?_
    refine sd_iload_n (pc := 117) d8_dragOn_117 rfl ?_
    refine sd_bipush (pc := 118) 12 d8_dragOn_118 cb_12 ?_
    refine sd_iadd (pc := 120) d8_dragOn_120 ?_
    refine sd_iconst (pc := 121) 1 d8_dragOn_121 ci_1 ?_
    refine sd_iadd (pc := 122) d8_dragOn_122 ?_
    refine sd_ic_gt (pc := 123) 164 d8_dragOn_123 (by decide) (fun _ => ?_) (fun _ => ?_)
    · exact sd_vret (pc := 164) d8_dragOn_164 (Nat.zero_le _) (Nat.zero_le _)
    · refine sd_iload (pc := 126) d8_dragOn_126 rfl ?_
      refine sd_cSI (k2 := k8_isCell) (As := [.int l11]) (rest := []) (pc := 128) 117 d8_dragOn_128 ml8_117 (ms8_isCell) (me8_isCell) ⟨rfl, rfl⟩ ⟨by show _ ≤ _; simp only [k8_isCell, k8_dragOn]; omega, Nat.le_of_ble_eq_true rfl⟩ (Nat.le_of_ble_eq_true rfl) (Nat.le_of_ble_eq_true rfl) (Or.inr rfl) (Nat.zero_le _) (Nat.zero_le _) rfl (s8_isCell F l11 S) (fun v1 S => ?_)
      refine sd_if_eq (pc := 131) 158 d8_dragOn_131 (by decide) (fun _ => ?_) (fun _ => ?_)
      · refine sd_iinc (lf2 := [some (.ref 52), some (.int l1), some (.int l2), some (.int l3), none, none, none, none, some (.long l8), none, some (.int l10), some (.int (l11 + 1))]) (pc := 158) d8_dragOn_158 (Nat.le_of_ble_eq_true rfl) rfl ci_1 rfl ?_
        refine sd_goto (pc := 161) 115 d8_dragOn_161 (by decide) ?_
        exact ih l1 l2 l3 l8 l10 (l11 + 1) S
      · refine sd_iload_n (pc := 134) d8_dragOn_134 rfl ?_
        refine sd_iload (pc := 135) d8_dragOn_135 rfl ?_
        refine sd_cSI (k2 := k8_farOf) (As := [.int l3, .int l11]) (rest := []) (pc := 137) 123 d8_dragOn_137 ml8_123 (ms8_farOf) (me8_farOf) ⟨rfl, rfl⟩ ⟨by show _ ≤ _; simp only [k8_farOf, k8_dragOn]; omega, Nat.le_of_ble_eq_true rfl⟩ (Nat.le_of_ble_eq_true rfl) (Nat.le_of_ble_eq_true rfl) (Or.inl rfl) (Nat.zero_le _) (Nat.zero_le _) rfl (s8_farOf F l3 l11 S) (fun v2 S => ?_)
        refine sd_iconst (pc := 140) 1 d8_dragOn_140 ci_1 ?_
        refine sd_ic_gt (pc := 141) 158 d8_dragOn_141 (by decide) (fun _ => ?_) (fun _ => ?_)
        · refine sd_iinc (lf2 := [some (.ref 52), some (.int l1), some (.int l2), some (.int l3), none, none, none, none, some (.long l8), none, some (.int l10), some (.int (l11 + 1))]) (pc := 158) d8_dragOn_158 (Nat.le_of_ble_eq_true rfl) rfl ci_1 rfl ?_
          refine sd_goto (pc := 161) 115 d8_dragOn_161 (by decide) ?_
          exact ih l1 l2 l3 l8 l10 (l11 + 1) S
        · refine sd_aload_n (pc := 144) d8_dragOn_144 rfl ?_
          refine sd_iload_n (pc := 145) d8_dragOn_145 rfl ?_
          refine sd_iconst (pc := 146) 1 d8_dragOn_146 ci_1 ?_
          refine sd_iadd (pc := 147) d8_dragOn_147 ?_
          refine sd_iload_n (pc := 148) d8_dragOn_148 rfl ?_
          refine sd_iload (pc := 149) d8_dragOn_149 rfl ?_
          refine sd_lload (pc := 151) d8_dragOn_151 rfl ?_
          refine sd_iload (pc := 153) d8_dragOn_153 rfl ?_
          refine sd_cVV (k2 := (k8_dragOn d)) (As := [.int (l1 + 1), .int l2, .int l11, .long l8, .int l10]) (rest := []) (b := 52) (ci := 7) (pc := 155) 272 (show sm_sq 52 = some (.inr 7) from rfl) (by decide) rfl d8_dragOn_155 ml8_272 (ms8_dragOn d).1 (ms8_dragOn d).2 (me8_dragOn d) ⟨rfl, rfl⟩ ⟨Nat.le_refl _, Nat.le_of_ble_eq_true rfl⟩ (Nat.le_of_ble_eq_true rfl) (Nat.le_of_ble_eq_true rfl) rfl (Nat.zero_le _) (Nat.zero_le _) rfl (hrc (l1 + 1) l2 l11 l8 l10 S) (fun S => ?_)
          refine sd_iinc (lf2 := [some (.ref 52), some (.int l1), some (.int l2), some (.int l3), none, none, none, none, some (.long l8), none, some (.int l10), some (.int (l11 + 1))]) (pc := 158) d8_dragOn_158 (Nat.le_of_ble_eq_true rfl) rfl ci_1 rfl ?_
          refine sd_goto (pc := 161) 115 d8_dragOn_161 (by decide) ?_
          exact ih l1 l2 l3 l8 l10 (l11 + 1) S
set_option maxHeartbeats 4000000 in
set_option maxRecDepth 20000 in
theorem s8_dragOn_40 {N : Nat} (F : Nat) {d : Nat} (rc : Int32 → Int32 → Int32 → Int64 → Int32 → sm_t → Option (sm_t)) (hrc : ∀ (q1 : Int32) (q2 : Int32) (q3 : Int32) (q4 : Int64) (q5 : Int32) (S : sm_t), sm_P (sm_jV N) (k8_dragOn d) [.ref 52, .int q1, .int q2, .int q3, .long q4, .int q5] (sm_m N S) (rc q1 q2 q3 q4 q5 S)) (l1 : Int32) (l2 : Int32) (l3 : Int32) (l8 : Int64) (t0 : Int32) (t1 : Int32) (S : sm_t) : sm_S (sm_jV N) (k8_dragOn (d + 1)) 0 0 40 [some (.ref 52), some (.int l1), some (.int l2), some (.int l3), none, none, none, none, some (.long l8), none, none, none] [.int t1, .int t0] (sm_m N S) (x8_dragOn_40 F rc l1 l2 l3 l8 t0 t1 S) := by
  unfold x8_dragOn_40
  refine sd_iadd (pc := 40) d8_dragOn_40 ?_
  refine sd_ni (fun v1 => ?_)
  refine sd_istore (lf2 := [some (.ref 52), some (.int l1), some (.int l2), some (.int l3), none, none, none, none, some (.long l8), none, some (.int v1), none]) (pc := 41) d8_dragOn_41 (Nat.le_of_ble_eq_true rfl) rfl ?_
  refine sd_aload_n (pc := 43) d8_dragOn_43 rfl ?_
  refine sd_getR (pc := 44) 67 (show sm_sq 52 = some (.inr 7) from rfl) rfl fl8_62 rfl d8_dragOn_44 ?_
  refine sd_iload_n (pc := 47) d8_dragOn_47 rfl ?_
  refine sd_iload_n (pc := 48) d8_dragOn_48 rfl ?_
  refine sd_iast (pc := 49) (show sm_sq 67 = some (.inl (.int, 5)) from rfl) d8_dragOn_49 (fun S => ?_)
  refine sd_iload_n (pc := 50) d8_dragOn_50 rfl ?_
  refine sd_iload_n (pc := 51) d8_dragOn_51 rfl ?_
  refine sd_ic_ne (pc := 52) 107 d8_dragOn_52 (by decide) (fun _ => ?_) (fun _ => ?_)
  · refine sd_lload (pc := 55) d8_dragOn_55 rfl ?_
    refine sd_aload_n (pc := 57) d8_dragOn_57 rfl ?_
    refine sd_getL (pc := 58) (show sm_sq 52 = some (.inr 7) from rfl) rfl fl8_266 d8_dragOn_58 (fun v2 => ?_)
    refine sd_lc_le (pc := 61) 106 d8_dragOn_61 d8_dragOn_62 (by decide) (fun _ => ?_) (fun _ => ?_)
    · exact sd_vret (pc := 106) d8_dragOn_106 (Nat.zero_le _) (Nat.zero_le _)
    · refine sd_aload_n (pc := 65) d8_dragOn_65 rfl ?_
      refine sd_lload (pc := 66) d8_dragOn_66 rfl ?_
      refine sd_putL (pc := 68) (show sm_sq 52 = some (.inr 7) from rfl) rfl fl8_266 rfl d8_dragOn_68 (fun S => ?_)
      refine sd_aload_n (pc := 71) d8_dragOn_71 rfl ?_
      refine sd_iload (pc := 72) d8_dragOn_72 rfl ?_
      refine sd_putI (pc := 74) (show sm_sq 52 = some (.inr 7) from rfl) rfl fl8_269 rfl d8_dragOn_74 (fun S => ?_)
      refine sd_iconst (pc := 77) 0 d8_dragOn_77 ci_0 ?_
      refine sd_istore (lf2 := [some (.ref 52), some (.int l1), some (.int l2), some (.int l3), none, none, none, none, some (.long l8), none, some (.int v1), some (.int 0)]) (pc := 78) d8_dragOn_78 (Nat.le_of_ble_eq_true rfl) rfl ?_
      exact sd_fg [true, false, true, false, true, true, true, true, false, true, false, true] rfl (s8_dragOn_80 F _ hrc F l2 0 S)
  · refine sd_iload_n (pc := 107) d8_dragOn_107 rfl ?_
    refine sd_bipush (pc := 108) 12 d8_dragOn_108 cb_12 ?_
    refine sd_isub (pc := 110) d8_dragOn_110 ?_
    refine sd_iconst (pc := 111) 1 d8_dragOn_111 ci_1 ?_
    refine sd_isub (pc := 112) d8_dragOn_112 ?_
    refine sd_ni (fun v3 => ?_)
    refine sd_istore (lf2 := [some (.ref 52), some (.int l1), some (.int l2), some (.int l3), none, none, none, none, some (.long l8), none, some (.int v1), some (.int v3)]) (pc := 113) d8_dragOn_113 (Nat.le_of_ble_eq_true rfl) rfl ?_
    exact s8_dragOn_115 F _ hrc F l1 l2 l3 l8 v1 v3 S
set_option maxHeartbeats 4000000 in
set_option maxRecDepth 20000 in
theorem s8_dragOn_25 {N : Nat} (F : Nat) {d : Nat} (rc : Int32 → Int32 → Int32 → Int64 → Int32 → sm_t → Option (sm_t)) (hrc : ∀ (q1 : Int32) (q2 : Int32) (q3 : Int32) (q4 : Int64) (q5 : Int32) (S : sm_t), sm_P (sm_jV N) (k8_dragOn d) [.ref 52, .int q1, .int q2, .int q3, .long q4, .int q5] (sm_m N S) (rc q1 q2 q3 q4 q5 S)) (l1 : Int32) (l2 : Int32) (l3 : Int32) (l6 : Int32) (l7 : Int32) (t0 : Int64) (t1 : Int64) (S : sm_t) : sm_S (sm_jV N) (k8_dragOn (d + 1)) 0 0 25 [some (.ref 52), some (.int l1), some (.int l2), some (.int l3), none, none, some (.int l6), some (.int l7), none, none, none, none] [.long t1, .long t0] (sm_m N S) (x8_dragOn_25 F rc l1 l2 l3 l6 l7 t0 t1 S) := by
  unfold x8_dragOn_25
  refine sd_ladd (pc := 25) d8_dragOn_25 ?_
  refine sd_nl (fun v1 => ?_)
  refine sd_lstore (lf2 := [some (.ref 52), some (.int l1), some (.int l2), some (.int l3), none, none, some (.int l6), some (.int l7), some (.long v1), none, none, none]) (pc := 26) d8_dragOn_26 (Nat.le_of_ble_eq_true rfl) rfl ?_
  refine sd_iload (pc := 28) d8_dragOn_28 rfl ?_
  refine sd_iload (pc := 30) d8_dragOn_30 rfl ?_
  refine sd_if_eq (pc := 32) 39 d8_dragOn_32 (by decide) (fun _ => ?_) (fun _ => ?_)
  · refine sd_iconst (pc := 39) 1 d8_dragOn_39 ci_1 ?_
    exact sd_fg [true, true, true, true, true, true, false, false, true, true, true, true] rfl (s8_dragOn_40 F _ hrc l1 l2 l3 v1 l6 1 S)
  · refine sd_iconst (pc := 35) 0 d8_dragOn_35 ci_0 ?_
    refine sd_goto (pc := 36) 40 d8_dragOn_36 (by decide) ?_
    exact sd_fg [true, true, true, true, true, true, false, false, true, true, true, true] rfl (s8_dragOn_40 F _ hrc l1 l2 l3 v1 l6 0 S)
set_option maxHeartbeats 4000000 in
set_option maxRecDepth 20000 in
theorem s8_dragOn {N : Nat} (F : Nat) : ∀ (d : Nat) (l1 : Int32) (l2 : Int32) (l3 : Int32) (l4 : Int64) (l6 : Int32) (S : sm_t), sm_P (sm_jV N) (k8_dragOn d) [.ref 52, .int l1, .int l2, .int l3, .long l4, .int l6] (sm_m N S) (x8_dragOn F d l1 l2 l3 l4 l6 S) := by
  intro d
  induction d with
  | zero =>
    intro l1 l2 l3 l4 l6 S
    exact sd_none
  | succ d ih =>
    intro l1 l2 l3 l4 l6 S
    show sm_S (sm_jV N) (k8_dragOn (d + 1)) 0 0 0 [some (.ref 52), some (.int l1), some (.int l2), some (.int l3), some (.long l4), none, some (.int l6), none, none, none, none, none] [] (sm_m N S) (x8_dragOn F (d + 1) l1 l2 l3 l4 l6 S)
    rw [x8_dragOn]
    refine sd_aload_n (pc := 0) d8_dragOn_0 rfl ?_
    refine sd_iload_n (pc := 1) d8_dragOn_1 rfl ?_
    refine sd_iload_n (pc := 2) d8_dragOn_2 rfl ?_
    refine sd_cVI (k2 := k8_wasThere) (As := [.int l1, .int l3]) (rest := []) (b := 52) (ci := 7) (pc := 3) 263 (show sm_sq 52 = some (.inr 7) from rfl) (by decide) rfl d8_dragOn_3 ml8_263 (ms8_wasThere).1 (ms8_wasThere).2 (me8_wasThere) ⟨rfl, rfl⟩ ⟨by show _ ≤ _; simp only [k8_wasThere, k8_dragOn]; omega, Nat.le_of_ble_eq_true rfl⟩ (Nat.le_of_ble_eq_true rfl) (Nat.le_of_ble_eq_true rfl) (Or.inr rfl) (Nat.zero_le _) (Nat.zero_le _) rfl (s8_wasThere F l1 l3 S) (fun v1 S => ?_)
    refine sd_istore (lf2 := [some (.ref 52), some (.int l1), some (.int l2), some (.int l3), some (.long l4), none, some (.int l6), some (.int v1), none, none, none, none]) (pc := 6) d8_dragOn_6 (Nat.le_of_ble_eq_true rfl) rfl ?_
    refine sd_lload (pc := 8) d8_dragOn_8 rfl ?_
    refine sd_iload (pc := 10) d8_dragOn_10 rfl ?_
    refine sd_if_eq (pc := 12) 19 d8_dragOn_12 (by decide) (fun _ => ?_) (fun _ => ?_)
    · refine sd_aload_n (pc := 19) d8_dragOn_19 rfl ?_
      refine sd_getR (pc := 20) 66 (show sm_sq 52 = some (.inr 7) from rfl) rfl fl8_59 rfl d8_dragOn_20 ?_
      refine sd_iload_n (pc := 23) d8_dragOn_23 rfl ?_
      refine sd_lald (pc := 24) (show sm_sq 66 = some (.inl (.long, 120)) from rfl) d8_dragOn_24 (fun v2 => ?_)
      exact sd_fg [true, true, true, true, false, true, true, true, true, true, true, true] rfl (s8_dragOn_25 F _ ih l1 l2 l3 l6 v1 l4 v2 S)
    · refine sd_lconst (pc := 15) 0 d8_dragOn_15 rfl ?_
      refine sd_goto (pc := 16) 25 d8_dragOn_16 (by decide) ?_
      exact sd_fg [true, true, true, true, false, true, true, true, true, true, true, true] rfl (s8_dragOn_25 F _ ih l1 l2 l3 l6 v1 l4 0 S)
set_option maxHeartbeats 4000000 in
set_option maxRecDepth 20000 in
theorem s8_drag_102 {N : Nat} (F : Nat) (S : sm_t) : sm_S (sm_jI N) k8_drag 0 0 102 [some (.ref 52), none, none, none, none, none, none] [] (sm_m N S) (x8_drag_102 F S) := by
  unfold x8_drag_102
  refine sd_aload_n (pc := 102) d8_drag_102 rfl ?_
  refine sd_aload_n (pc := 103) d8_drag_103 rfl ?_
  refine sd_getL (pc := 104) (show sm_sq 52 = some (.inr 7) from rfl) rfl fl8_266 d8_drag_104 (fun v1 => ?_)
  refine sd_aload_n (pc := 107) d8_drag_107 rfl ?_
  refine sd_getL (pc := 108) (show sm_sq 52 = some (.inr 7) from rfl) rfl fl8_222 d8_drag_108 (fun v2 => ?_)
  refine sd_aload_n (pc := 111) d8_drag_111 rfl ?_
  refine sd_getI (pc := 112) (show sm_sq 52 = some (.inr 7) from rfl) rfl fl8_269 d8_drag_112 (fun v3 => ?_)
  refine sd_cVI (k2 := k8_part) (As := [.long v1, .long v2, .int v3]) (rest := []) (b := 52) (ci := 7) (pc := 115) 247 (show sm_sq 52 = some (.inr 7) from rfl) (by decide) rfl d8_drag_115 ml8_247 (ms8_part).1 (ms8_part).2 (me8_part) ⟨rfl, rfl⟩ ⟨Nat.le_of_ble_eq_true rfl, Nat.le_of_ble_eq_true rfl⟩ (Nat.le_of_ble_eq_true rfl) (Nat.le_of_ble_eq_true rfl) (Or.inl rfl) (Nat.zero_le _) (Nat.zero_le _) rfl (s8_part F v1 v2 v3 S) (fun v4 S => ?_)
  exact sd_iret (pc := 118) d8_drag_118 rfl (Nat.zero_le _) (Nat.zero_le _)
set_option maxHeartbeats 4000000 in
set_option maxRecDepth 20000 in
theorem s8_drag_70 {N : Nat} (F : Nat) : ∀ (f : Nat) (l3 : Int32) (l4 : Int32) (l6 : Int32) (S : sm_t), sm_S (sm_jI N) k8_drag 0 0 70 [some (.ref 52), none, none, some (.int l3), some (.int l4), none, some (.int l6)] [] (sm_m N S) (x8_drag_70 F f l3 l4 l6 S) := by
  intro f
  induction f with
  | zero =>
    intro l3 l4 l6 S
    exact sd_none
  | succ f ih =>
    intro l3 l4 l6 S
    rw [x8_drag_70]
    refine sd_iload (pc := 70) d8_drag_70 rfl ?_
    refine sd_iload_n (pc := 72) d8_drag_72 rfl ?_
    refine sd_ic_gt (pc := 73) 102 d8_drag_73 (by decide) (fun _ => ?_) (fun _ => ?_)
    · exact sd_fg [true, true, true, false, false, true, false] rfl (s8_drag_102 F S)
    · refine sd_aload_n (pc := 76) d8_drag_76 rfl ?_
      refine sd_getR (pc := 77) 55 (show sm_sq 52 = some (.inr 7) from rfl) rfl fl8_20 rfl d8_drag_77 ?_
      refine sd_bipush (pc := 80) 40 d8_drag_80 cb_40 ?_
      refine sd_iload (pc := 82) d8_drag_82 rfl ?_
      refine sd_imul (pc := 84) d8_drag_84 ?_
      refine sd_iload (pc := 85) d8_drag_85 rfl ?_
      refine sd_iadd (pc := 87) d8_drag_87 ?_
      refine sd_aload_n (pc := 88) d8_drag_88 rfl ?_
      refine sd_getR (pc := 89) 68 (show sm_sq 52 = some (.inr 7) from rfl) rfl fl8_65 rfl d8_drag_89 ?_
      refine sd_iload (pc := 92) d8_drag_92 rfl ?_
      refine sd_iald (pc := 94) (show sm_sq 68 = some (.inl (.int, 5)) from rfl) d8_drag_94 (fun v1 => ?_)
      refine sd_iast (pc := 95) (show sm_sq 55 = some (.inl (.int, 240)) from rfl) d8_drag_95 (fun S => ?_)
      refine sd_iinc (lf2 := [some (.ref 52), none, none, some (.int l3), some (.int l4), none, some (.int (l6 + 1))]) (pc := 96) d8_drag_96 (Nat.le_of_ble_eq_true rfl) rfl ci_1 rfl ?_
      refine sd_goto (pc := 99) 70 d8_drag_99 (by decide) ?_
      exact ih l3 l4 (l6 + 1) S
set_option maxHeartbeats 4000000 in
set_option maxRecDepth 20000 in
theorem s8_drag {N : Nat} (F : Nat) (l1 : Int32) (l2 : Int32) (l3 : Int32) (l4 : Int32) (S : sm_t) : sm_P (sm_jI N) k8_drag [.ref 52, .int l1, .int l2, .int l3, .int l4] (sm_m N S) (x8_drag F l1 l2 l3 l4 S) := by
  show sm_S (sm_jI N) k8_drag 0 0 0 [some (.ref 52), some (.int l1), some (.int l2), some (.int l3), some (.int l4), none, none] [] (sm_m N S) (x8_drag F l1 l2 l3 l4 S)
  unfold x8_drag
  refine sd_iload_n (pc := 0) d8_drag_0 rfl ?_
  refine sd_cSI (k2 := k8_isCell) (As := [.int l2]) (rest := []) (pc := 1) 117 d8_drag_1 ml8_117 (ms8_isCell) (me8_isCell) ⟨rfl, rfl⟩ ⟨Nat.le_of_ble_eq_true rfl, Nat.le_of_ble_eq_true rfl⟩ (Nat.le_of_ble_eq_true rfl) (Nat.le_of_ble_eq_true rfl) (Or.inr rfl) (Nat.zero_le _) (Nat.zero_le _) rfl (s8_isCell F l2 S) (fun v1 S => ?_)
  refine sd_if_eq (pc := 4) 24 d8_drag_4 (by decide) (fun _ => ?_) (fun _ => ?_)
  · refine sd_iconst (pc := 24) (-1) d8_drag_24 ci_m1 ?_
    exact sd_iret (pc := 25) d8_drag_25 rfl (Nat.zero_le _) (Nat.zero_le _)
  · refine sd_iload_n (pc := 7) d8_drag_7 rfl ?_
    refine sd_iconst (pc := 8) 0 d8_drag_8 ci_0 ?_
    refine sd_iconst (pc := 9) 4 d8_drag_9 ci_4 ?_
    refine sd_cSI (k2 := k8_in) (As := [.int l3, .int 0, .int 4]) (rest := []) (pc := 10) 80 d8_drag_10 ml8_80 (ms8_in) (me8_in) ⟨rfl, rfl⟩ ⟨Nat.le_of_ble_eq_true rfl, Nat.le_of_ble_eq_true rfl⟩ (Nat.le_of_ble_eq_true rfl) (Nat.le_of_ble_eq_true rfl) (Or.inr rfl) (Nat.zero_le _) (Nat.zero_le _) rfl (s8_in F l3 0 4 S) (fun v2 S => ?_)
    refine sd_if_eq (pc := 13) 24 d8_drag_13 (by decide) (fun _ => ?_) (fun _ => ?_)
    · refine sd_iconst (pc := 24) (-1) d8_drag_24 ci_m1 ?_
      exact sd_iret (pc := 25) d8_drag_25 rfl (Nat.zero_le _) (Nat.zero_le _)
    · refine sd_iload (pc := 16) d8_drag_16 rfl ?_
      refine sd_cSI (k2 := k8_isRow) (As := [.int l4]) (rest := []) (pc := 18) 84 d8_drag_18 ml8_84 (ms8_isRow) (me8_isRow) ⟨rfl, rfl⟩ ⟨Nat.le_of_ble_eq_true rfl, Nat.le_of_ble_eq_true rfl⟩ (Nat.le_of_ble_eq_true rfl) (Nat.le_of_ble_eq_true rfl) (Or.inr rfl) (Nat.zero_le _) (Nat.zero_le _) rfl (s8_isRow F l4 S) (fun v3 S => ?_)
      refine sd_if_ne (pc := 21) 26 d8_drag_21 (by decide) (fun _ => ?_) (fun _ => ?_)
      · refine sd_iconst (pc := 24) (-1) d8_drag_24 ci_m1 ?_
        exact sd_iret (pc := 25) d8_drag_25 rfl (Nat.zero_le _) (Nat.zero_le _)
      · refine sd_aload_n (pc := 26) d8_drag_26 rfl ?_
        refine sd_iload_n (pc := 27) d8_drag_27 rfl ?_
        refine sd_cVI (k2 := k8_weigh) (As := [.int l1]) (rest := []) (b := 52) (ci := 7) (pc := 28) 244 (show sm_sq 52 = some (.inr 7) from rfl) (by decide) rfl d8_drag_28 ml8_244 (ms8_weigh).1 (ms8_weigh).2 (me8_weigh) ⟨rfl, rfl⟩ ⟨Nat.le_of_ble_eq_true rfl, Nat.le_of_ble_eq_true rfl⟩ (Nat.le_of_ble_eq_true rfl) (Nat.le_of_ble_eq_true rfl) (Or.inl rfl) (Nat.zero_le _) (Nat.zero_le _) rfl (s8_weigh F l1 S) (fun v4 S => ?_)
        refine sd_istore (lf2 := [some (.ref 52), some (.int l1), some (.int l2), some (.int l3), some (.int l4), some (.int v4), none]) (pc := 31) d8_drag_31 (Nat.le_of_ble_eq_true rfl) rfl ?_
        refine sd_iload (pc := 33) d8_drag_33 rfl ?_
        refine sd_if_ge (pc := 35) 41 d8_drag_35 (by decide) (fun _ => ?_) (fun _ => ?_)
        · refine sd_aload_n (pc := 41) d8_drag_41 rfl ?_
          refine sd_ldc2 (pc := 42) cl8_276 d8_drag_42 ?_
          refine sd_putL (pc := 45) (show sm_sq 52 = some (.inr 7) from rfl) rfl fl8_266 rfl d8_drag_45 (fun S => ?_)
          refine sd_aload_n (pc := 48) d8_drag_48 rfl ?_
          refine sd_iconst (pc := 49) 0 d8_drag_49 ci_0 ?_
          refine sd_iload_n (pc := 50) d8_drag_50 rfl ?_
          refine sd_iload_n (pc := 51) d8_drag_51 rfl ?_
          refine sd_lconst (pc := 52) 0 d8_drag_52 rfl ?_
          refine sd_iconst (pc := 53) 0 d8_drag_53 ci_0 ?_
          refine sd_cVV (k2 := (k8_dragOn 8)) (As := [.int 0, .int l3, .int l2, .long 0, .int 0]) (rest := []) (b := 52) (ci := 7) (pc := 54) 272 (show sm_sq 52 = some (.inr 7) from rfl) (by decide) rfl d8_drag_54 ml8_272 (ms8_dragOn 8).1 (ms8_dragOn 8).2 (me8_dragOn 8) ⟨rfl, rfl⟩ ⟨Nat.le_of_ble_eq_true rfl, Nat.le_of_ble_eq_true rfl⟩ (Nat.le_of_ble_eq_true rfl) (Nat.le_of_ble_eq_true rfl) rfl (Nat.zero_le _) (Nat.zero_le _) rfl (s8_dragOn F 8 0 l3 l2 0 0 S) (fun S => ?_)
          refine sd_aload_n (pc := 57) d8_drag_57 rfl ?_
          refine sd_iload (pc := 58) d8_drag_58 rfl ?_
          refine sd_iload_n (pc := 60) d8_drag_60 rfl ?_
          refine sd_iconst (pc := 61) 1 d8_drag_61 ci_1 ?_
          refine sd_iadd (pc := 62) d8_drag_62 ?_
          refine sd_cVI (k2 := k8_row) (As := [.int l4, .int (l3 + 1)]) (rest := []) (b := 52) (ci := 7) (pc := 63) 278 (show sm_sq 52 = some (.inr 7) from rfl) (by decide) rfl d8_drag_63 ml8_278 (ms8_row).1 (ms8_row).2 (me8_row) ⟨rfl, rfl⟩ ⟨Nat.le_of_ble_eq_true rfl, Nat.le_of_ble_eq_true rfl⟩ (Nat.le_of_ble_eq_true rfl) (Nat.le_of_ble_eq_true rfl) (Or.inl rfl) (Nat.zero_le _) (Nat.zero_le _) rfl (s8_row F l4 (l3 + 1) S) (fun v6 S => ?_)
          refine sd_pop (pc := 66) d8_drag_66 rfl ?_
          refine sd_iconst (pc := 67) 0 d8_drag_67 ci_0 ?_
          refine sd_istore (lf2 := [some (.ref 52), some (.int l1), some (.int l2), some (.int l3), some (.int l4), some (.int v4), some (.int 0)]) (pc := 68) d8_drag_68 (Nat.le_of_ble_eq_true rfl) rfl ?_
          exact sd_fg [true, false, false, true, true, false, true] rfl (s8_drag_70 F F l3 l4 0 S)
        · refine sd_iload (pc := 38) d8_drag_38 rfl ?_
          exact sd_iret (pc := 40) d8_drag_40 rfl (Nat.zero_le _) (Nat.zero_le _)
set_option maxHeartbeats 4000000 in
set_option maxRecDepth 20000 in
theorem s3_comesIn_61 {N : Nat} (F : Nat) (c9 : Int32 → Int32 → Int32 → Int32 → Int32 → Int32 → sm_t → Option (Int32 × sm_t)) (hc9 : ∀ (l1 : Int32) (l2 : Int32) (l3 : Int32) (l4 : Int32) (l5 : Int32) (l6 : Int32) (S : sm_t), sm_S (sm_jI N) k3_comesIn 0 0 9 [some (.ref 19), some (.int l1), some (.int l2), some (.int l3), some (.int l4), some (.int l5), some (.int l6), none] [] (sm_m N S) (c9 l1 l2 l3 l4 l5 l6 S)) (l1 : Int32) (l2 : Int32) (l3 : Int32) (l4 : Int32) (l5 : Int32) (l6 : Int32) (l7 : Int32) (S : sm_t) : sm_S (sm_jI N) k3_comesIn 0 0 61 [some (.ref 19), some (.int l1), some (.int l2), some (.int l3), some (.int l4), some (.int l5), some (.int l6), some (.int l7)] [] (sm_m N S) (x3_comesIn_61 F c9 l1 l2 l3 l4 l5 l6 l7 S) := by
  unfold x3_comesIn_61
  refine sd_iload (pc := 61) d3_comesIn_61 rfl ?_
  refine sd_if_lt (pc := 63) 83 d3_comesIn_63 (by decide) (fun _ => ?_) (fun _ => ?_)
  · refine sd_iload (pc := 83) d3_comesIn_83 rfl ?_
    refine sd_iload (pc := 85) d3_comesIn_85 rfl ?_
    refine sd_cSI (k2 := k1_gone) (As := [.int l5, .int l7]) (rest := []) (pc := 87) 54 d3_comesIn_87 ml3_54 (ms1_gone) (me1_gone) ⟨rfl, rfl⟩ ⟨Nat.le_of_ble_eq_true rfl, Nat.le_of_ble_eq_true rfl⟩ (Nat.le_of_ble_eq_true rfl) (Nat.le_of_ble_eq_true rfl) (Or.inl rfl) (Nat.zero_le _) (Nat.zero_le _) rfl (s1_gone F l5 l7 S) (fun v1 S => ?_)
    refine sd_istore (lf2 := [some (.ref 19), some (.int l1), some (.int l2), some (.int l3), some (.int l4), some (.int v1), some (.int l6), some (.int l7)]) (pc := 90) d3_comesIn_90 (Nat.le_of_ble_eq_true rfl) rfl ?_
    refine sd_iinc (lf2 := [some (.ref 19), some (.int l1), some (.int l2), some (.int l3), some (.int l4), some (.int v1), some (.int (l6 + 1)), some (.int l7)]) (pc := 92) d3_comesIn_92 (Nat.le_of_ble_eq_true rfl) rfl ci_1 rfl ?_
    refine sd_goto (pc := 95) 9 d3_comesIn_95 (by decide) ?_
    exact sd_fg [true, true, true, true, true, true, true, false] rfl (hc9 l1 l2 l3 l4 v1 (l6 + 1) S)
  · refine sd_iload (pc := 66) d3_comesIn_66 rfl ?_
    refine sd_bipush (pc := 68) 8 d3_comesIn_68 cb_8 ?_
    refine sd_idiv (pc := 70) d3_comesIn_70 (by decide) ?_
    refine sd_iload (pc := 71) d3_comesIn_71 rfl ?_
    refine sd_ic_ne (pc := 73) 83 d3_comesIn_73 (by decide) (fun _ => ?_) (fun _ => ?_)
    · refine sd_iload (pc := 76) d3_comesIn_76 rfl ?_
      refine sd_bipush (pc := 78) 8 d3_comesIn_78 cb_8 ?_
      refine sd_irem (pc := 80) d3_comesIn_80 (by decide) ?_
      refine sd_ni (fun v2 => ?_)
      refine sd_istore (lf2 := [some (.ref 19), some (.int l1), some (.int l2), some (.int l3), some (.int l4), some (.int l5), some (.int l6), some (.int v2)]) (pc := 81) d3_comesIn_81 (Nat.le_of_ble_eq_true rfl) rfl ?_
      refine sd_iload (pc := 83) d3_comesIn_83 rfl ?_
      refine sd_iload (pc := 85) d3_comesIn_85 rfl ?_
      refine sd_cSI (k2 := k1_gone) (As := [.int l5, .int v2]) (rest := []) (pc := 87) 54 d3_comesIn_87 ml3_54 (ms1_gone) (me1_gone) ⟨rfl, rfl⟩ ⟨Nat.le_of_ble_eq_true rfl, Nat.le_of_ble_eq_true rfl⟩ (Nat.le_of_ble_eq_true rfl) (Nat.le_of_ble_eq_true rfl) (Or.inl rfl) (Nat.zero_le _) (Nat.zero_le _) rfl (s1_gone F l5 v2 S) (fun v3 S => ?_)
      refine sd_istore (lf2 := [some (.ref 19), some (.int l1), some (.int l2), some (.int l3), some (.int l4), some (.int v3), some (.int l6), some (.int v2)]) (pc := 90) d3_comesIn_90 (Nat.le_of_ble_eq_true rfl) rfl ?_
      refine sd_iinc (lf2 := [some (.ref 19), some (.int l1), some (.int l2), some (.int l3), some (.int l4), some (.int v3), some (.int (l6 + 1)), some (.int v2)]) (pc := 92) d3_comesIn_92 (Nat.le_of_ble_eq_true rfl) rfl ci_1 rfl ?_
      refine sd_goto (pc := 95) 9 d3_comesIn_95 (by decide) ?_
      exact sd_fg [true, true, true, true, true, true, true, false] rfl (hc9 l1 l2 l3 l4 v3 (l6 + 1) S)
    · refine sd_iload (pc := 83) d3_comesIn_83 rfl ?_
      refine sd_iload (pc := 85) d3_comesIn_85 rfl ?_
      refine sd_cSI (k2 := k1_gone) (As := [.int l5, .int l7]) (rest := []) (pc := 87) 54 d3_comesIn_87 ml3_54 (ms1_gone) (me1_gone) ⟨rfl, rfl⟩ ⟨Nat.le_of_ble_eq_true rfl, Nat.le_of_ble_eq_true rfl⟩ (Nat.le_of_ble_eq_true rfl) (Nat.le_of_ble_eq_true rfl) (Or.inl rfl) (Nat.zero_le _) (Nat.zero_le _) rfl (s1_gone F l5 l7 S) (fun v4 S => ?_)
      refine sd_istore (lf2 := [some (.ref 19), some (.int l1), some (.int l2), some (.int l3), some (.int l4), some (.int v4), some (.int l6), some (.int l7)]) (pc := 90) d3_comesIn_90 (Nat.le_of_ble_eq_true rfl) rfl ?_
      refine sd_iinc (lf2 := [some (.ref 19), some (.int l1), some (.int l2), some (.int l3), some (.int l4), some (.int v4), some (.int (l6 + 1)), some (.int l7)]) (pc := 92) d3_comesIn_92 (Nat.le_of_ble_eq_true rfl) rfl ci_1 rfl ?_
      refine sd_goto (pc := 95) 9 d3_comesIn_95 (by decide) ?_
      exact sd_fg [true, true, true, true, true, true, true, false] rfl (hc9 l1 l2 l3 l4 v4 (l6 + 1) S)
set_option maxHeartbeats 4000000 in
set_option maxRecDepth 20000 in
theorem s3_comesIn_98 {N : Nat} (F : Nat) (l1 : Int32) (l2 : Int32) (l5 : Int32) (S : sm_t) : sm_S (sm_jI N) k3_comesIn 0 0 98 [none, some (.int l1), some (.int l2), none, none, some (.int l5), none, none] [] (sm_m N S) (x3_comesIn_98 F l1 l2 l5 S) := by
  unfold x3_comesIn_98
  refine sd_iload (pc := 98) d3_comesIn_98 rfl ?_
  refine sd_iload_n (pc := 100) d3_comesIn_100 rfl ?_
  refine sd_cSI (k2 := k1_apart) (As := [.int l5, .int l1]) (rest := []) (pc := 101) 50 d3_comesIn_101 ml3_50 (ms1_apart) (me1_apart) ⟨rfl, rfl⟩ ⟨Nat.le_of_ble_eq_true rfl, Nat.le_of_ble_eq_true rfl⟩ (Nat.le_of_ble_eq_true rfl) (Nat.le_of_ble_eq_true rfl) (Or.inl rfl) (Nat.zero_le _) (Nat.zero_le _) rfl (s1_apart F l5 l1 S) (fun v1 S => ?_)
  refine sd_iload_n (pc := 104) d3_comesIn_104 rfl ?_
  refine sd_ic_gt (pc := 105) 112 d3_comesIn_105 (by decide) (fun _ => ?_) (fun _ => ?_)
  · refine sd_iconst (pc := 112) 0 d3_comesIn_112 ci_0 ?_
    exact sd_zret (pc := 113) d3_comesIn_113 (by decide) (Nat.zero_le _) (Nat.zero_le _)
  · refine sd_iconst (pc := 108) 1 d3_comesIn_108 ci_1 ?_
    refine sd_goto (pc := 109) 113 d3_comesIn_109 (by decide) ?_
    exact sd_zret (pc := 113) d3_comesIn_113 (by decide) (Nat.zero_le _) (Nat.zero_le _)
set_option maxHeartbeats 4000000 in
set_option maxRecDepth 20000 in
theorem s3_comesIn_9 {N : Nat} (F : Nat) : ∀ (f : Nat) (l1 : Int32) (l2 : Int32) (l3 : Int32) (l4 : Int32) (l5 : Int32) (l6 : Int32) (S : sm_t), sm_S (sm_jI N) k3_comesIn 0 0 9 [some (.ref 19), some (.int l1), some (.int l2), some (.int l3), some (.int l4), some (.int l5), some (.int l6), none] [] (sm_m N S) (x3_comesIn_9 F f l1 l2 l3 l4 l5 l6 S) := by
  intro f
  induction f with
  | zero =>
    intro l1 l2 l3 l4 l5 l6 S
    exact sd_none
  | succ f ih =>
    intro l1 l2 l3 l4 l5 l6 S
    rw [x3_comesIn_9]
    refine sd_iload (pc := 9) d3_comesIn_9 rfl ?_
    refine sd_aload_n (pc := 11) d3_comesIn_11 rfl ?_
    refine sd_getI (pc := 12) (show sm_sq 19 = some (.inr 2) from rfl) rfl fl3_15 d3_comesIn_12 (fun v1 => ?_)
    refine sd_ic_ge (pc := 15) 98 d3_comesIn_15 (by decide) (fun _ => ?_) (fun _ => ?_)
    · exact sd_fg [false, true, true, false, false, true, false, true] rfl (s3_comesIn_98 F l1 l2 l5 S)
    · refine sd_iload (pc := 18) d3_comesIn_18 rfl ?_
      refine sd_iload_n (pc := 20) d3_comesIn_20 rfl ?_
      refine sd_cSI (k2 := k1_apart) (As := [.int l5, .int l1]) (rest := []) (pc := 21) 50 d3_comesIn_21 ml3_50 (ms1_apart) (me1_apart) ⟨rfl, rfl⟩ ⟨Nat.le_of_ble_eq_true rfl, Nat.le_of_ble_eq_true rfl⟩ (Nat.le_of_ble_eq_true rfl) (Nat.le_of_ble_eq_true rfl) (Or.inl rfl) (Nat.zero_le _) (Nat.zero_le _) rfl (s1_apart F l5 l1 S) (fun v2 S => ?_)
      refine sd_iload_n (pc := 24) d3_comesIn_24 rfl ?_
      refine sd_ic_gt (pc := 25) 30 d3_comesIn_25 (by decide) (fun _ => ?_) (fun _ => ?_)
      · refine sd_aload_n (pc := 30) d3_comesIn_30 rfl ?_
        refine sd_getR (pc := 31) 20 (show sm_sq 19 = some (.inr 2) from rfl) rfl fl3_18 rfl d3_comesIn_31 ?_
        refine sd_iload (pc := 34) d3_comesIn_34 rfl ?_
        refine sd_iald (pc := 36) (show sm_sq 20 = some (.inl (.int, 6)) from rfl) d3_comesIn_36 (fun v3 => ?_)
        refine sd_istore (lf2 := [some (.ref 19), some (.int l1), some (.int l2), some (.int l3), some (.int l4), some (.int l5), some (.int l6), some (.int v3)]) (pc := 37) d3_comesIn_37 (Nat.le_of_ble_eq_true rfl) rfl ?_
        refine sd_iload_n (pc := 39) d3_comesIn_39 rfl ?_
        refine sd_if_lt (pc := 40) 61 d3_comesIn_40 (by decide) (fun _ => ?_) (fun _ => ?_)
        · exact s3_comesIn_61 F _ ih l1 l2 l3 l4 l5 l6 v3 S
        · refine sd_iload_n (pc := 43) d3_comesIn_43 rfl ?_
          refine sd_bipush (pc := 44) 8 d3_comesIn_44 cb_8 ?_
          refine sd_idiv (pc := 46) d3_comesIn_46 (by decide) ?_
          refine sd_iload (pc := 47) d3_comesIn_47 rfl ?_
          refine sd_ic_ne (pc := 49) 61 d3_comesIn_49 (by decide) (fun _ => ?_) (fun _ => ?_)
          · refine sd_iload_n (pc := 52) d3_comesIn_52 rfl ?_
            refine sd_bipush (pc := 53) 8 d3_comesIn_53 cb_8 ?_
            refine sd_irem (pc := 55) d3_comesIn_55 (by decide) ?_
            refine sd_ni (fun v4 => ?_)
            refine sd_istore (lf2 := [some (.ref 19), some (.int l1), some (.int l2), some (.int l3), some (.int l4), some (.int l5), some (.int l6), some (.int v4)]) (pc := 56) d3_comesIn_56 (Nat.le_of_ble_eq_true rfl) rfl ?_
            refine sd_goto (pc := 58) 83 d3_comesIn_58 (by decide) ?_
            refine sd_iload (pc := 83) d3_comesIn_83 rfl ?_
            refine sd_iload (pc := 85) d3_comesIn_85 rfl ?_
            refine sd_cSI (k2 := k1_gone) (As := [.int l5, .int v4]) (rest := []) (pc := 87) 54 d3_comesIn_87 ml3_54 (ms1_gone) (me1_gone) ⟨rfl, rfl⟩ ⟨Nat.le_of_ble_eq_true rfl, Nat.le_of_ble_eq_true rfl⟩ (Nat.le_of_ble_eq_true rfl) (Nat.le_of_ble_eq_true rfl) (Or.inl rfl) (Nat.zero_le _) (Nat.zero_le _) rfl (s1_gone F l5 v4 S) (fun v5 S => ?_)
            refine sd_istore (lf2 := [some (.ref 19), some (.int l1), some (.int l2), some (.int l3), some (.int l4), some (.int v5), some (.int l6), some (.int v4)]) (pc := 90) d3_comesIn_90 (Nat.le_of_ble_eq_true rfl) rfl ?_
            refine sd_iinc (lf2 := [some (.ref 19), some (.int l1), some (.int l2), some (.int l3), some (.int l4), some (.int v5), some (.int (l6 + 1)), some (.int v4)]) (pc := 92) d3_comesIn_92 (Nat.le_of_ble_eq_true rfl) rfl ci_1 rfl ?_
            refine sd_goto (pc := 95) 9 d3_comesIn_95 (by decide) ?_
            exact sd_fg [true, true, true, true, true, true, true, false] rfl (ih l1 l2 l3 l4 v5 (l6 + 1) S)
          · exact s3_comesIn_61 F _ ih l1 l2 l3 l4 l5 l6 v3 S
      · refine sd_iconst (pc := 28) 1 d3_comesIn_28 ci_1 ?_
        exact sd_zret (pc := 29) d3_comesIn_29 (by decide) (Nat.zero_le _) (Nat.zero_le _)
set_option maxHeartbeats 4000000 in
set_option maxRecDepth 20000 in
theorem s3_comesIn {N : Nat} (F : Nat) (l1 : Int32) (l2 : Int32) (l3 : Int32) (l4 : Int32) (S : sm_t) : sm_P (sm_jI N) k3_comesIn [.ref 19, .int l1, .int l2, .int l3, .int l4] (sm_m N S) (x3_comesIn F l1 l2 l3 l4 S) := by
  show sm_S (sm_jI N) k3_comesIn 0 0 0 [some (.ref 19), some (.int l1), some (.int l2), some (.int l3), some (.int l4), none, none, none] [] (sm_m N S) (x3_comesIn F l1 l2 l3 l4 S)
  unfold x3_comesIn
  refine sd_aload_n (pc := 0) d3_comesIn_0 rfl ?_
  refine sd_getI (pc := 1) (show sm_sq 19 = some (.inr 2) from rfl) rfl fl3_9 d3_comesIn_1 (fun v1 => ?_)
  refine sd_istore (lf2 := [some (.ref 19), some (.int l1), some (.int l2), some (.int l3), some (.int l4), some (.int v1), none, none]) (pc := 4) d3_comesIn_4 (Nat.le_of_ble_eq_true rfl) rfl ?_
  refine sd_iconst (pc := 6) 0 d3_comesIn_6 ci_0 ?_
  refine sd_istore (lf2 := [some (.ref 19), some (.int l1), some (.int l2), some (.int l3), some (.int l4), some (.int v1), some (.int 0), none]) (pc := 7) d3_comesIn_7 (Nat.le_of_ble_eq_true rfl) rfl ?_
  exact s3_comesIn_9 F F l1 l2 l3 l4 v1 0 S
set_option maxHeartbeats 4000000 in
set_option maxRecDepth 20000 in
theorem s3_toldAs {N : Nat} (F : Nat) (l0 : Int32) (S : sm_t) : sm_P (sm_jI N) k3_toldAs [.int l0] (sm_m N S) (x3_toldAs F l0 S) := by
  show sm_S (sm_jI N) k3_toldAs 0 0 0 [some (.int l0)] [] (sm_m N S) (x3_toldAs F l0 S)
  unfold x3_toldAs
  refine sd_iload_n (pc := 0) d3_toldAs_0 rfl ?_
  refine sd_bipush (pc := 1) 8 d3_toldAs_1 cb_8 ?_
  refine sd_idiv (pc := 3) d3_toldAs_3 (by decide) ?_
  refine sd_bipush (pc := 4) 10 d3_toldAs_4 cb_10 ?_
  refine sd_imul (pc := 6) d3_toldAs_6 ?_
  refine sd_iload_n (pc := 7) d3_toldAs_7 rfl ?_
  refine sd_bipush (pc := 8) 8 d3_toldAs_8 cb_8 ?_
  refine sd_irem (pc := 10) d3_toldAs_10 (by decide) ?_
  refine sd_iadd (pc := 11) d3_toldAs_11 ?_
  exact sd_iret (pc := 12) d3_toldAs_12 rfl (Nat.zero_le _) (Nat.zero_le _)
set_option maxHeartbeats 4000000 in
set_option maxRecDepth 20000 in
theorem s3_firstChange_2 {N : Nat} (F : Nat) : ∀ (f : Nat) (l1 : Int32) (l2 : Int32) (l3 : Int32) (S : sm_t), sm_S (sm_jI N) k3_firstChange 0 0 2 [some (.ref 19), some (.int l1), some (.int l2), some (.int l3)] [] (sm_m N S) (x3_firstChange_2 F f l1 l2 l3 S) := by
  intro f
  induction f with
  | zero =>
    intro l1 l2 l3 S
    exact sd_none
  | succ f ih =>
    intro l1 l2 l3 S
    rw [x3_firstChange_2]
    refine sd_iload_n (pc := 2) d3_firstChange_2 rfl ?_
    refine sd_aload_n (pc := 3) d3_firstChange_3 rfl ?_
    refine sd_getI (pc := 4) (show sm_sq 19 = some (.inr 2) from rfl) rfl fl3_15 d3_firstChange_4 (fun v1 => ?_)
    refine sd_bipush (pc := 7) 8 d3_firstChange_7 cb_8 ?_
    refine sd_imul (pc := 9) d3_firstChange_9 ?_
    refine sd_ic_ge (pc := 10) 36 d3_firstChange_10 (by decide) (fun _ => ?_) (fun _ => ?_)
    · refine sd_bipush (pc := 36) (-9) d3_firstChange_36 cb_m9 ?_
      exact sd_iret (pc := 38) d3_firstChange_38 rfl (Nat.zero_le _) (Nat.zero_le _)
    · refine sd_aload_n (pc := 13) d3_firstChange_13 rfl ?_
      refine sd_iload_n (pc := 14) d3_firstChange_14 rfl ?_
      refine sd_iload_n (pc := 15) d3_firstChange_15 rfl ?_
      refine sd_iload_n (pc := 16) d3_firstChange_16 rfl ?_
      refine sd_bipush (pc := 17) (-9) d3_firstChange_17 cb_m9 ?_
      refine sd_cVI (k2 := k3_comesIn) (As := [.int l1, .int l2, .int l3, .int (-9)]) (rest := []) (b := 19) (ci := 2) (pc := 19) 57 (show sm_sq 19 = some (.inr 2) from rfl) (by decide) rfl d3_firstChange_19 ml3_57 (ms3_comesIn).1 (ms3_comesIn).2 (me3_comesIn) ⟨rfl, rfl⟩ ⟨Nat.le_of_ble_eq_true rfl, Nat.le_of_ble_eq_true rfl⟩ (Nat.le_of_ble_eq_true rfl) (Nat.le_of_ble_eq_true rfl) (Or.inr rfl) (Nat.zero_le _) (Nat.zero_le _) rfl (s3_comesIn F l1 l2 l3 (-9) S) (fun v2 S => ?_)
      refine sd_if_eq (pc := 22) 30 d3_firstChange_22 (by decide) (fun _ => ?_) (fun _ => ?_)
      · refine sd_iinc (lf2 := [some (.ref 19), some (.int l1), some (.int l2), some (.int (l3 + 1))]) (pc := 30) d3_firstChange_30 (Nat.le_of_ble_eq_true rfl) rfl ci_1 rfl ?_
        refine sd_goto (pc := 33) 2 d3_firstChange_33 (by decide) ?_
        exact ih l1 l2 (l3 + 1) S
      · refine sd_iload_n (pc := 25) d3_firstChange_25 rfl ?_
        refine sd_cSI (k2 := k3_toldAs) (As := [.int l3]) (rest := []) (pc := 26) 61 d3_firstChange_26 ml3_61 (ms3_toldAs) (me3_toldAs) ⟨rfl, rfl⟩ ⟨Nat.le_of_ble_eq_true rfl, Nat.le_of_ble_eq_true rfl⟩ (Nat.le_of_ble_eq_true rfl) (Nat.le_of_ble_eq_true rfl) (Or.inl rfl) (Nat.zero_le _) (Nat.zero_le _) rfl (s3_toldAs F l3 S) (fun v3 S => ?_)
        exact sd_iret (pc := 29) d3_firstChange_29 rfl (Nat.zero_le _) (Nat.zero_le _)
set_option maxHeartbeats 4000000 in
set_option maxRecDepth 20000 in
theorem s3_firstChange {N : Nat} (F : Nat) (l1 : Int32) (l2 : Int32) (S : sm_t) : sm_P (sm_jI N) k3_firstChange [.ref 19, .int l1, .int l2] (sm_m N S) (x3_firstChange F l1 l2 S) := by
  show sm_S (sm_jI N) k3_firstChange 0 0 0 [some (.ref 19), some (.int l1), some (.int l2), none] [] (sm_m N S) (x3_firstChange F l1 l2 S)
  unfold x3_firstChange
  refine sd_iconst (pc := 0) 0 d3_firstChange_0 ci_0 ?_
  refine sd_istore_n (lf2 := [some (.ref 19), some (.int l1), some (.int l2), some (.int 0)]) (pc := 1) d3_firstChange_1 (Nat.le_of_ble_eq_true rfl) rfl ?_
  exact s3_firstChange_2 F F l1 l2 0 S
set_option maxHeartbeats 4000000 in
set_option maxRecDepth 20000 in
theorem s3_firstTwoChanges_52 {N : Nat} (F : Nat) (l4 : Int32) (l6 : Int32) (S : sm_t) : sm_S (sm_jI N) k3_firstTwoChanges 0 0 52 [none, none, none, none, some (.int l4), none, some (.int l6)] [] (sm_m N S) (x3_firstTwoChanges_52 F l4 l6 S) := by
  unfold x3_firstTwoChanges_52
  refine sd_iload (pc := 52) d3_firstTwoChanges_52 rfl ?_
  refine sd_cSI (k2 := k3_toldAs) (As := [.int l4]) (rest := []) (pc := 54) 61 d3_firstTwoChanges_54 ml3_61 (ms3_toldAs) (me3_toldAs) ⟨rfl, rfl⟩ ⟨Nat.le_of_ble_eq_true rfl, Nat.le_of_ble_eq_true rfl⟩ (Nat.le_of_ble_eq_true rfl) (Nat.le_of_ble_eq_true rfl) (Or.inl rfl) (Nat.zero_le _) (Nat.zero_le _) rfl (s3_toldAs F l4 S) (fun v1 S => ?_)
  refine sd_bipush (pc := 57) 100 d3_firstTwoChanges_57 cb_100 ?_
  refine sd_iadd (pc := 59) d3_firstTwoChanges_59 ?_
  refine sd_bipush (pc := 60) 100 d3_firstTwoChanges_60 cb_100 ?_
  refine sd_iload (pc := 62) d3_firstTwoChanges_62 rfl ?_
  refine sd_cSI (k2 := k3_toldAs) (As := [.int l6]) (rest := [.int 100, .int (v1 + 100)]) (pc := 64) 61 d3_firstTwoChanges_64 ml3_61 (ms3_toldAs) (me3_toldAs) ⟨rfl, rfl⟩ ⟨Nat.le_of_ble_eq_true rfl, Nat.le_of_ble_eq_true rfl⟩ (Nat.le_of_ble_eq_true rfl) (Nat.le_of_ble_eq_true rfl) (Or.inl rfl) (Nat.zero_le _) (Nat.zero_le _) rfl (s3_toldAs F l6 S) (fun v2 S => ?_)
  refine sd_imul (pc := 67) d3_firstTwoChanges_67 ?_
  refine sd_iadd (pc := 68) d3_firstTwoChanges_68 ?_
  exact sd_iret (pc := 69) d3_firstTwoChanges_69 rfl (Nat.zero_le _) (Nat.zero_le _)
set_option maxHeartbeats 4000000 in
set_option maxRecDepth 20000 in
theorem s3_firstTwoChanges_33 {N : Nat} (F : Nat) (c11 : Int32 → Int32 → Int32 → Int32 → sm_t → Option (Int32 × sm_t)) (hc11 : ∀ (l1 : Int32) (l2 : Int32) (l3 : Int32) (l4 : Int32) (S : sm_t), sm_S (sm_jI N) k3_firstTwoChanges 0 0 11 [some (.ref 19), some (.int l1), some (.int l2), some (.int l3), some (.int l4), none, none] [] (sm_m N S) (c11 l1 l2 l3 l4 S)) : ∀ (f : Nat) (l1 : Int32) (l2 : Int32) (l3 : Int32) (l4 : Int32) (l6 : Int32) (S : sm_t), sm_S (sm_jI N) k3_firstTwoChanges 0 0 33 [some (.ref 19), some (.int l1), some (.int l2), some (.int l3), some (.int l4), none, some (.int l6)] [] (sm_m N S) (x3_firstTwoChanges_33 F c11 f l1 l2 l3 l4 l6 S) := by
  intro f
  induction f with
  | zero =>
    intro l1 l2 l3 l4 l6 S
    exact sd_none
  | succ f ih =>
    intro l1 l2 l3 l4 l6 S
    rw [x3_firstTwoChanges_33]
    refine sd_iload (pc := 33) d3_firstTwoChanges_33 rfl ?_
    refine sd_iload_n (pc := 35) d3_firstTwoChanges_35 rfl ?_
    refine sd_ic_ge (pc := 36) 76 d3_firstTwoChanges_36 (by decide) (fun _ => ?_) (fun _ => ?_)
    · refine sd_iinc (lf2 := [some (.ref 19), some (.int l1), some (.int l2), some (.int l3), some (.int (l4 + 1)), none, some (.int l6)]) (pc := 76) d3_firstTwoChanges_76 (Nat.le_of_ble_eq_true rfl) rfl ci_1 rfl ?_
      refine sd_goto (pc := 79) 11 d3_firstTwoChanges_79 (by decide) ?_
      exact sd_fg [true, true, true, true, true, true, false] rfl (hc11 l1 l2 l3 (l4 + 1) S)
    · refine sd_aload_n (pc := 39) d3_firstTwoChanges_39 rfl ?_
      refine sd_iload_n (pc := 40) d3_firstTwoChanges_40 rfl ?_
      refine sd_iload_n (pc := 41) d3_firstTwoChanges_41 rfl ?_
      refine sd_iload (pc := 42) d3_firstTwoChanges_42 rfl ?_
      refine sd_iload (pc := 44) d3_firstTwoChanges_44 rfl ?_
      refine sd_cVI (k2 := k3_comesIn) (As := [.int l1, .int l2, .int l4, .int l6]) (rest := []) (b := 19) (ci := 2) (pc := 46) 57 (show sm_sq 19 = some (.inr 2) from rfl) (by decide) rfl d3_firstTwoChanges_46 ml3_57 (ms3_comesIn).1 (ms3_comesIn).2 (me3_comesIn) ⟨rfl, rfl⟩ ⟨Nat.le_of_ble_eq_true rfl, Nat.le_of_ble_eq_true rfl⟩ (Nat.le_of_ble_eq_true rfl) (Nat.le_of_ble_eq_true rfl) (Or.inr rfl) (Nat.zero_le _) (Nat.zero_le _) rfl (s3_comesIn F l1 l2 l4 l6 S) (fun v1 S => ?_)
      refine sd_if_eq (pc := 49) 70 d3_firstTwoChanges_49 (by decide) (fun _ => ?_) (fun _ => ?_)
      · refine sd_iinc (lf2 := [some (.ref 19), some (.int l1), some (.int l2), some (.int l3), some (.int l4), none, some (.int (l6 + 1))]) (pc := 70) d3_firstTwoChanges_70 (Nat.le_of_ble_eq_true rfl) rfl ci_1 rfl ?_
        refine sd_goto (pc := 73) 33 d3_firstTwoChanges_73 (by decide) ?_
        exact ih l1 l2 l3 l4 (l6 + 1) S
      · exact sd_fg [false, false, false, false, true, true, true] rfl (s3_firstTwoChanges_52 F l4 l6 S)
set_option maxHeartbeats 4000000 in
set_option maxRecDepth 20000 in
theorem s3_firstTwoChanges_11 {N : Nat} (F : Nat) : ∀ (f : Nat) (l1 : Int32) (l2 : Int32) (l3 : Int32) (l4 : Int32) (S : sm_t), sm_S (sm_jI N) k3_firstTwoChanges 0 0 11 [some (.ref 19), some (.int l1), some (.int l2), some (.int l3), some (.int l4), none, none] [] (sm_m N S) (x3_firstTwoChanges_11 F f l1 l2 l3 l4 S) := by
  intro f
  induction f with
  | zero =>
    intro l1 l2 l3 l4 S
    exact sd_none
  | succ f ih =>
    intro l1 l2 l3 l4 S
    rw [x3_firstTwoChanges_11]
    refine sd_iload (pc := 11) d3_firstTwoChanges_11 rfl ?_
    refine sd_iload_n (pc := 13) d3_firstTwoChanges_13 rfl ?_
    refine sd_ic_ge (pc := 14) 82 d3_firstTwoChanges_14 (by decide) (fun _ => ?_) (fun _ => ?_)
    · refine sd_bipush (pc := 82) (-9) d3_firstTwoChanges_82 cb_m9 ?_
      exact sd_iret (pc := 84) d3_firstTwoChanges_84 rfl (Nat.zero_le _) (Nat.zero_le _)
    · refine sd_iload (pc := 17) d3_firstTwoChanges_17 rfl ?_
      refine sd_bipush (pc := 19) 8 d3_firstTwoChanges_19 cb_8 ?_
      refine sd_idiv (pc := 21) d3_firstTwoChanges_21 (by decide) ?_
      refine sd_iconst (pc := 22) 1 d3_firstTwoChanges_22 ci_1 ?_
      refine sd_iadd (pc := 23) d3_firstTwoChanges_23 ?_
      refine sd_bipush (pc := 24) 8 d3_firstTwoChanges_24 cb_8 ?_
      refine sd_imul (pc := 26) d3_firstTwoChanges_26 ?_
      refine sd_ni (fun v1 => ?_)
      refine sd_istore (lf2 := [some (.ref 19), some (.int l1), some (.int l2), some (.int l3), some (.int l4), some (.int v1), none]) (pc := 27) d3_firstTwoChanges_27 (Nat.le_of_ble_eq_true rfl) rfl ?_
      refine sd_iload (pc := 29) d3_firstTwoChanges_29 rfl ?_
      refine sd_istore (lf2 := [some (.ref 19), some (.int l1), some (.int l2), some (.int l3), some (.int l4), some (.int v1), some (.int v1)]) (pc := 31) d3_firstTwoChanges_31 (Nat.le_of_ble_eq_true rfl) rfl ?_
      exact sd_fg [true, true, true, true, true, false, true] rfl (s3_firstTwoChanges_33 F _ ih F l1 l2 l3 l4 v1 S)
set_option maxHeartbeats 4000000 in
set_option maxRecDepth 20000 in
theorem s3_firstTwoChanges {N : Nat} (F : Nat) (l1 : Int32) (l2 : Int32) (S : sm_t) : sm_P (sm_jI N) k3_firstTwoChanges [.ref 19, .int l1, .int l2] (sm_m N S) (x3_firstTwoChanges F l1 l2 S) := by
  show sm_S (sm_jI N) k3_firstTwoChanges 0 0 0 [some (.ref 19), some (.int l1), some (.int l2), none, none, none, none] [] (sm_m N S) (x3_firstTwoChanges F l1 l2 S)
  unfold x3_firstTwoChanges
  refine sd_aload_n (pc := 0) d3_firstTwoChanges_0 rfl ?_
  refine sd_getI (pc := 1) (show sm_sq 19 = some (.inr 2) from rfl) rfl fl3_15 d3_firstTwoChanges_1 (fun v1 => ?_)
  refine sd_bipush (pc := 4) 8 d3_firstTwoChanges_4 cb_8 ?_
  refine sd_imul (pc := 6) d3_firstTwoChanges_6 ?_
  refine sd_ni (fun v2 => ?_)
  refine sd_istore_n (lf2 := [some (.ref 19), some (.int l1), some (.int l2), some (.int v2), none, none, none]) (pc := 7) d3_firstTwoChanges_7 (Nat.le_of_ble_eq_true rfl) rfl ?_
  refine sd_iconst (pc := 8) 0 d3_firstTwoChanges_8 ci_0 ?_
  refine sd_istore (lf2 := [some (.ref 19), some (.int l1), some (.int l2), some (.int v2), some (.int 0), none, none]) (pc := 9) d3_firstTwoChanges_9 (Nat.le_of_ble_eq_true rfl) rfl ?_
  exact s3_firstTwoChanges_11 F F l1 l2 v2 0 S
set_option maxHeartbeats 4000000 in
set_option maxRecDepth 20000 in
theorem s7_brought {N : Nat} (F : Nat) (l1 : Int32) (l2 : Int32) (S : sm_t) : sm_P (sm_jI N) k7_brought [.ref 3, .int l1, .int l2] (sm_m N S) (x7_brought F l1 l2 S) := by
  show sm_S (sm_jI N) k7_brought 0 0 0 [some (.ref 3), some (.int l1), some (.int l2), none, none] [] (sm_m N S) (x7_brought F l1 l2 S)
  unfold x7_brought
  refine sd_iload_n (pc := 0) d7_brought_0 rfl ?_
  refine sd_cSI (k2 := k1_isCell) (As := [.int l1]) (rest := []) (pc := 1) 120 d7_brought_1 ml7_120 (ms1_isCell) (me1_isCell) ⟨rfl, rfl⟩ ⟨Nat.le_of_ble_eq_true rfl, Nat.le_of_ble_eq_true rfl⟩ (Nat.le_of_ble_eq_true rfl) (Nat.le_of_ble_eq_true rfl) (Or.inr rfl) (Nat.zero_le _) (Nat.zero_le _) rfl (s1_isCell F l1 S) (fun v1 S => ?_)
  refine sd_if_eq (pc := 4) 15 d7_brought_4 (by decide) (fun _ => ?_) (fun _ => ?_)
  · refine sd_iconst (pc := 15) (-1) d7_brought_15 ci_m1 ?_
    exact sd_iret (pc := 16) d7_brought_16 rfl (Nat.zero_le _) (Nat.zero_le _)
  · refine sd_iload_n (pc := 7) d7_brought_7 rfl ?_
    refine sd_iconst (pc := 8) 5 d7_brought_8 ci_5 ?_
    refine sd_cSI (k2 := k7_isWithin) (As := [.int l2, .int 5]) (rest := []) (pc := 9) 137 d7_brought_9 ml7_137 (ms7_isWithin) (me7_isWithin) ⟨rfl, rfl⟩ ⟨Nat.le_of_ble_eq_true rfl, Nat.le_of_ble_eq_true rfl⟩ (Nat.le_of_ble_eq_true rfl) (Nat.le_of_ble_eq_true rfl) (Or.inr rfl) (Nat.zero_le _) (Nat.zero_le _) rfl (s7_isWithin F l2 5 S) (fun v2 S => ?_)
    refine sd_if_ne (pc := 12) 17 d7_brought_12 (by decide) (fun _ => ?_) (fun _ => ?_)
    · refine sd_iconst (pc := 15) (-1) d7_brought_15 ci_m1 ?_
      exact sd_iret (pc := 16) d7_brought_16 rfl (Nat.zero_le _) (Nat.zero_le _)
    · refine sd_aload_n (pc := 17) d7_brought_17 rfl ?_
      refine sd_getR (pc := 18) 19 (show sm_sq 3 = some (.inr 6) from rfl) rfl fl7_37 rfl d7_brought_18 ?_
      refine sd_iload_n (pc := 21) d7_brought_21 rfl ?_
      refine sd_iload_n (pc := 22) d7_brought_22 rfl ?_
      refine sd_bipush (pc := 23) (-9) d7_brought_23 cb_m9 ?_
      refine sd_bipush (pc := 25) (-9) d7_brought_25 cb_m9 ?_
      refine sd_cVI (k2 := k3_comesIn) (As := [.int l1, .int l2, .int (-9), .int (-9)]) (rest := []) (b := 19) (ci := 2) (pc := 27) 286 (show sm_sq 19 = some (.inr 2) from rfl) (by decide) rfl d7_brought_27 ml7_286 (ms3_comesIn).1 (ms3_comesIn).2 (me3_comesIn) ⟨rfl, rfl⟩ ⟨Nat.le_of_ble_eq_true rfl, Nat.le_of_ble_eq_true rfl⟩ (Nat.le_of_ble_eq_true rfl) (Nat.le_of_ble_eq_true rfl) (Or.inr rfl) (Nat.zero_le _) (Nat.zero_le _) rfl (s3_comesIn F l1 l2 (-9) (-9) S) (fun v3 S => ?_)
      refine sd_if_eq (pc := 30) 40 d7_brought_30 (by decide) (fun _ => ?_) (fun _ => ?_)
      · refine sd_aload_n (pc := 40) d7_brought_40 rfl ?_
        refine sd_getR (pc := 41) 19 (show sm_sq 3 = some (.inr 6) from rfl) rfl fl7_37 rfl d7_brought_41 ?_
        refine sd_iload_n (pc := 44) d7_brought_44 rfl ?_
        refine sd_iload_n (pc := 45) d7_brought_45 rfl ?_
        refine sd_cVI (k2 := k3_firstChange) (As := [.int l1, .int l2]) (rest := []) (b := 19) (ci := 2) (pc := 46) 289 (show sm_sq 19 = some (.inr 2) from rfl) (by decide) rfl d7_brought_46 ml7_289 (ms3_firstChange).1 (ms3_firstChange).2 (me3_firstChange) ⟨rfl, rfl⟩ ⟨Nat.le_of_ble_eq_true rfl, Nat.le_of_ble_eq_true rfl⟩ (Nat.le_of_ble_eq_true rfl) (Nat.le_of_ble_eq_true rfl) (Or.inl rfl) (Nat.zero_le _) (Nat.zero_le _) rfl (s3_firstChange F l1 l2 S) (fun v4 S => ?_)
        refine sd_istore_n (lf2 := [some (.ref 3), some (.int l1), some (.int l2), some (.int v4), none]) (pc := 49) d7_brought_49 (Nat.le_of_ble_eq_true rfl) rfl ?_
        refine sd_iload_n (pc := 50) d7_brought_50 rfl ?_
        refine sd_bipush (pc := 51) (-9) d7_brought_51 cb_m9 ?_
        refine sd_ic_eq (pc := 53) 63 d7_brought_53 (by decide) (fun _ => ?_) (fun _ => ?_)
        · refine sd_aload_n (pc := 63) d7_brought_63 rfl ?_
          refine sd_getR (pc := 64) 19 (show sm_sq 3 = some (.inr 6) from rfl) rfl fl7_37 rfl d7_brought_64 ?_
          refine sd_iload_n (pc := 67) d7_brought_67 rfl ?_
          refine sd_iload_n (pc := 68) d7_brought_68 rfl ?_
          refine sd_cVI (k2 := k3_firstTwoChanges) (As := [.int l1, .int l2]) (rest := []) (b := 19) (ci := 2) (pc := 69) 292 (show sm_sq 19 = some (.inr 2) from rfl) (by decide) rfl d7_brought_69 ml7_292 (ms3_firstTwoChanges).1 (ms3_firstTwoChanges).2 (me3_firstTwoChanges) ⟨rfl, rfl⟩ ⟨Nat.le_of_ble_eq_true rfl, Nat.le_of_ble_eq_true rfl⟩ (Nat.le_of_ble_eq_true rfl) (Nat.le_of_ble_eq_true rfl) (Or.inl rfl) (Nat.zero_le _) (Nat.zero_le _) rfl (s3_firstTwoChanges F l1 l2 S) (fun v5 S => ?_)
          refine sd_istore (lf2 := [some (.ref 3), some (.int l1), some (.int l2), some (.int v4), some (.int v5)]) (pc := 72) d7_brought_72 (Nat.le_of_ble_eq_true rfl) rfl ?_
          refine sd_iload (pc := 74) d7_brought_74 rfl ?_
          refine sd_bipush (pc := 76) (-9) d7_brought_76 cb_m9 ?_
          refine sd_ic_eq (pc := 78) 89 d7_brought_78 (by decide) (fun _ => ?_) (fun _ => ?_)
          · refine sd_bipush (pc := 89) (-9) d7_brought_89 cb_m9 ?_
            exact sd_iret (pc := 91) d7_brought_91 rfl (Nat.zero_le _) (Nat.zero_le _)
          · refine sd_aload_n (pc := 81) d7_brought_81 rfl ?_
            refine sd_iload (pc := 82) d7_brought_82 rfl ?_
            refine sd_putI (pc := 84) (show sm_sq 3 = some (.inr 6) from rfl) rfl fl7_65 rfl d7_brought_84 (fun S => ?_)
            refine sd_iconst (pc := 87) 2 d7_brought_87 ci_2 ?_
            exact sd_iret (pc := 88) d7_brought_88 rfl (Nat.zero_le _) (Nat.zero_le _)
        · refine sd_aload_n (pc := 56) d7_brought_56 rfl ?_
          refine sd_iload_n (pc := 57) d7_brought_57 rfl ?_
          refine sd_putI (pc := 58) (show sm_sq 3 = some (.inr 6) from rfl) rfl fl7_65 rfl d7_brought_58 (fun S => ?_)
          refine sd_iconst (pc := 61) 1 d7_brought_61 ci_1 ?_
          exact sd_iret (pc := 62) d7_brought_62 rfl (Nat.zero_le _) (Nat.zero_le _)
      · refine sd_aload_n (pc := 33) d7_brought_33 rfl ?_
        refine sd_iconst (pc := 34) 0 d7_brought_34 ci_0 ?_
        refine sd_putI (pc := 35) (show sm_sq 3 = some (.inr 6) from rfl) rfl fl7_65 rfl d7_brought_35 (fun S => ?_)
        refine sd_iconst (pc := 38) 0 d7_brought_38 ci_0 ?_
        exact sd_iret (pc := 39) d7_brought_39 rfl (Nat.zero_le _) (Nat.zero_le _)
set_option maxHeartbeats 4000000 in
set_option maxRecDepth 20000 in
theorem s8_comesIn_26 {N : Nat} (F : Nat) : ∀ (f : Nat) (l1 : Int32) (l2 : Int32) (l3 : Int32) (l4 : Int32) (l5 : Int32) (S : sm_t), sm_S (sm_jI N) k8_comesIn 0 0 26 [some (.ref 52), some (.int l1), some (.int l2), some (.int l3), some (.int l4), some (.int l5)] [] (sm_m N S) (x8_comesIn_26 F f l1 l2 l3 l4 l5 S) := by
  intro f
  induction f with
  | zero =>
    intro l1 l2 l3 l4 l5 S
    exact sd_none
  | succ f ih =>
    intro l1 l2 l3 l4 l5 S
    rw [x8_comesIn_26]
    refine sd_iload (pc := 26) d8_comesIn_26 rfl ?_
    refine sd_aload_n (pc := 28) d8_comesIn_28 rfl ?_
    refine sd_cVI (k2 := k8_hours) (As := []) (rest := [.int l5]) (b := 52) (ci := 7) (pc := 29) 129 (show sm_sq 52 = some (.inr 7) from rfl) (by decide) rfl d8_comesIn_29 ml8_129 (ms8_hours).1 (ms8_hours).2 (me8_hours) ⟨rfl, rfl⟩ ⟨Nat.le_of_ble_eq_true rfl, Nat.le_of_ble_eq_true rfl⟩ (Nat.le_of_ble_eq_true rfl) (Nat.le_of_ble_eq_true rfl) (Or.inl rfl) (Nat.zero_le _) (Nat.zero_le _) rfl (s8_hours F S) (fun v1 S => ?_)
    refine sd_ic_ge (pc := 32) 74 d8_comesIn_32 (by decide) (fun _ => ?_) (fun _ => ?_)
    · refine sd_iload (pc := 74) d8_comesIn_74 rfl ?_
      exact sd_zrv (pc := 76) d8_comesIn_76 (Nat.zero_le _) (Nat.zero_le _)
    · refine sd_iload_n (pc := 35) d8_comesIn_35 rfl ?_
      refine sd_aload_n (pc := 36) d8_comesIn_36 rfl ?_
      refine sd_getR (pc := 37) 69 (show sm_sq 52 = some (.inr 7) from rfl) rfl fl8_68 rfl d8_comesIn_37 ?_
      refine sd_iload (pc := 40) d8_comesIn_40 rfl ?_
      refine sd_iald (pc := 42) (show sm_sq 69 = some (.inl (.int, 6)) from rfl) d8_comesIn_42 (fun v2 => ?_)
      refine sd_cSI (k2 := k8_goesTo) (As := [.int l3, .int v2]) (rest := []) (pc := 43) 214 d8_comesIn_43 ml8_214 (ms8_goesTo) (me8_goesTo) ⟨rfl, rfl⟩ ⟨Nat.le_of_ble_eq_true rfl, Nat.le_of_ble_eq_true rfl⟩ (Nat.le_of_ble_eq_true rfl) (Nat.le_of_ble_eq_true rfl) (Or.inl rfl) (Nat.zero_le _) (Nat.zero_le _) rfl (s8_goesTo F l3 v2 S) (fun v3 S => ?_)
      refine sd_istore_n (lf2 := [some (.ref 52), some (.int l1), some (.int l2), some (.int v3), some (.int l4), some (.int l5)]) (pc := 46) d8_comesIn_46 (Nat.le_of_ble_eq_true rfl) rfl ?_
      refine sd_iload (pc := 47) d8_comesIn_47 rfl ?_
      refine sd_if_ne (pc := 49) 61 d8_comesIn_49 (by decide) (fun _ => ?_) (fun _ => ?_)
      · refine sd_iload_n (pc := 52) d8_comesIn_52 rfl ?_
        refine sd_iload_n (pc := 53) d8_comesIn_53 rfl ?_
        refine sd_cSI (k2 := k8_farOf) (As := [.int v3, .int l1]) (rest := []) (pc := 54) 123 d8_comesIn_54 ml8_123 (ms8_farOf) (me8_farOf) ⟨rfl, rfl⟩ ⟨Nat.le_of_ble_eq_true rfl, Nat.le_of_ble_eq_true rfl⟩ (Nat.le_of_ble_eq_true rfl) (Nat.le_of_ble_eq_true rfl) (Or.inl rfl) (Nat.zero_le _) (Nat.zero_le _) rfl (s8_farOf F v3 l1 S) (fun v4 S => ?_)
        refine sd_iload_n (pc := 57) d8_comesIn_57 rfl ?_
        refine sd_ic_gt (pc := 58) 65 d8_comesIn_58 (by decide) (fun _ => ?_) (fun _ => ?_)
        · refine sd_iconst (pc := 65) 0 d8_comesIn_65 ci_0 ?_
          refine sd_istore (lf2 := [some (.ref 52), some (.int l1), some (.int l2), some (.int v3), some (.int 0), some (.int l5)]) (pc := 66) d8_comesIn_66 (Nat.le_of_ble_eq_true rfl) rfl ?_
          refine sd_iinc (lf2 := [some (.ref 52), some (.int l1), some (.int l2), some (.int v3), some (.int 0), some (.int (l5 + 1))]) (pc := 68) d8_comesIn_68 (Nat.le_of_ble_eq_true rfl) rfl ci_1 rfl ?_
          refine sd_goto (pc := 71) 26 d8_comesIn_71 (by decide) ?_
          exact ih l1 l2 v3 0 (l5 + 1) S
        · refine sd_iconst (pc := 61) 1 d8_comesIn_61 ci_1 ?_
          refine sd_goto (pc := 62) 66 d8_comesIn_62 (by decide) ?_
          refine sd_istore (lf2 := [some (.ref 52), some (.int l1), some (.int l2), some (.int v3), some (.int 1), some (.int l5)]) (pc := 66) d8_comesIn_66 (Nat.le_of_ble_eq_true rfl) rfl ?_
          refine sd_iinc (lf2 := [some (.ref 52), some (.int l1), some (.int l2), some (.int v3), some (.int 1), some (.int (l5 + 1))]) (pc := 68) d8_comesIn_68 (Nat.le_of_ble_eq_true rfl) rfl ci_1 rfl ?_
          refine sd_goto (pc := 71) 26 d8_comesIn_71 (by decide) ?_
          exact ih l1 l2 v3 1 (l5 + 1) S
      · refine sd_iconst (pc := 61) 1 d8_comesIn_61 ci_1 ?_
        refine sd_goto (pc := 62) 66 d8_comesIn_62 (by decide) ?_
        refine sd_istore (lf2 := [some (.ref 52), some (.int l1), some (.int l2), some (.int v3), some (.int 1), some (.int l5)]) (pc := 66) d8_comesIn_66 (Nat.le_of_ble_eq_true rfl) rfl ?_
        refine sd_iinc (lf2 := [some (.ref 52), some (.int l1), some (.int l2), some (.int v3), some (.int 1), some (.int (l5 + 1))]) (pc := 68) d8_comesIn_68 (Nat.le_of_ble_eq_true rfl) rfl ci_1 rfl ?_
        refine sd_goto (pc := 71) 26 d8_comesIn_71 (by decide) ?_
        exact ih l1 l2 v3 1 (l5 + 1) S
set_option maxHeartbeats 4000000 in
set_option maxRecDepth 20000 in
theorem s8_comesIn {N : Nat} (F : Nat) (l1 : Int32) (l2 : Int32) (S : sm_t) : sm_P (sm_jI N) k8_comesIn [.ref 52, .int l1, .int l2] (sm_m N S) (x8_comesIn F l1 l2 S) := by
  show sm_S (sm_jI N) k8_comesIn 0 0 0 [some (.ref 52), some (.int l1), some (.int l2), none, none, none] [] (sm_m N S) (x8_comesIn F l1 l2 S)
  unfold x8_comesIn
  refine sd_aload_n (pc := 0) d8_comesIn_0 rfl ?_
  refine sd_getR (pc := 1) 59 (show sm_sq 52 = some (.inr 7) from rfl) rfl fl8_32 rfl d8_comesIn_1 ?_
  refine sd_iconst (pc := 4) 0 d8_comesIn_4 ci_0 ?_
  refine sd_iald (pc := 5) (show sm_sq 59 = some (.inl (.int, 15)) from rfl) d8_comesIn_5 (fun v1 => ?_)
  refine sd_istore_n (lf2 := [some (.ref 52), some (.int l1), some (.int l2), some (.int v1), none, none]) (pc := 6) d8_comesIn_6 (Nat.le_of_ble_eq_true rfl) rfl ?_
  refine sd_iload_n (pc := 7) d8_comesIn_7 rfl ?_
  refine sd_iload_n (pc := 8) d8_comesIn_8 rfl ?_
  refine sd_cSI (k2 := k8_farOf) (As := [.int v1, .int l1]) (rest := []) (pc := 9) 123 d8_comesIn_9 ml8_123 (ms8_farOf) (me8_farOf) ⟨rfl, rfl⟩ ⟨Nat.le_of_ble_eq_true rfl, Nat.le_of_ble_eq_true rfl⟩ (Nat.le_of_ble_eq_true rfl) (Nat.le_of_ble_eq_true rfl) (Or.inl rfl) (Nat.zero_le _) (Nat.zero_le _) rfl (s8_farOf F v1 l1 S) (fun v2 S => ?_)
  refine sd_iload_n (pc := 12) d8_comesIn_12 rfl ?_
  refine sd_ic_gt (pc := 13) 20 d8_comesIn_13 (by decide) (fun _ => ?_) (fun _ => ?_)
  · refine sd_iconst (pc := 20) 0 d8_comesIn_20 ci_0 ?_
    refine sd_istore (lf2 := [some (.ref 52), some (.int l1), some (.int l2), some (.int v1), some (.int 0), none]) (pc := 21) d8_comesIn_21 (Nat.le_of_ble_eq_true rfl) rfl ?_
    refine sd_iconst (pc := 23) 0 d8_comesIn_23 ci_0 ?_
    refine sd_istore (lf2 := [some (.ref 52), some (.int l1), some (.int l2), some (.int v1), some (.int 0), some (.int 0)]) (pc := 24) d8_comesIn_24 (Nat.le_of_ble_eq_true rfl) rfl ?_
    exact s8_comesIn_26 F F l1 l2 v1 0 0 S
  · refine sd_iconst (pc := 16) 1 d8_comesIn_16 ci_1 ?_
    refine sd_goto (pc := 17) 21 d8_comesIn_17 (by decide) ?_
    refine sd_istore (lf2 := [some (.ref 52), some (.int l1), some (.int l2), some (.int v1), some (.int 1), none]) (pc := 21) d8_comesIn_21 (Nat.le_of_ble_eq_true rfl) rfl ?_
    refine sd_iconst (pc := 23) 0 d8_comesIn_23 ci_0 ?_
    refine sd_istore (lf2 := [some (.ref 52), some (.int l1), some (.int l2), some (.int v1), some (.int 1), some (.int 0)]) (pc := 24) d8_comesIn_24 (Nat.le_of_ble_eq_true rfl) rfl ?_
    exact s8_comesIn_26 F F l1 l2 v1 1 0 S
set_option maxHeartbeats 4000000 in
set_option maxRecDepth 20000 in
theorem s8_brought_114 {N : Nat} (F : Nat) (l4 : Int32) (l5 : Int32) (S : sm_t) : sm_S (sm_jI N) k8_brought 0 0 114 [some (.ref 52), none, none, none, some (.int l4), some (.int l5), none, none, none, none] [] (sm_m N S) (x8_brought_114 F l4 l5 S) := by
  unfold x8_brought_114
  refine sd_aload_n (pc := 114) d8_brought_114 rfl ?_
  refine sd_bipush (pc := 115) 10 d8_brought_115 cb_10 ?_
  refine sd_iload (pc := 117) d8_brought_117 rfl ?_
  refine sd_imul (pc := 119) d8_brought_119 ?_
  refine sd_iload (pc := 120) d8_brought_120 rfl ?_
  refine sd_iadd (pc := 122) d8_brought_122 ?_
  refine sd_iconst (pc := 123) 1 d8_brought_123 ci_1 ?_
  refine sd_cVI (k2 := k8_ask) (As := [.int ((10 * l4) + l5), .int 1]) (rest := []) (b := 52) (ci := 7) (pc := 124) 102 (show sm_sq 52 = some (.inr 7) from rfl) (by decide) rfl d8_brought_124 ml8_102 (ms8_ask).1 (ms8_ask).2 (me8_ask) ⟨rfl, rfl⟩ ⟨Nat.le_of_ble_eq_true rfl, Nat.le_of_ble_eq_true rfl⟩ (Nat.le_of_ble_eq_true rfl) (Nat.le_of_ble_eq_true rfl) (Or.inl rfl) (Nat.zero_le _) (Nat.zero_le _) rfl (s8_ask F ((10 * l4) + l5) 1 S) (fun v1 S => ?_)
  exact sd_iret (pc := 127) d8_brought_127 rfl (Nat.zero_le _) (Nat.zero_le _)
set_option maxHeartbeats 4000000 in
set_option maxRecDepth 20000 in
theorem s8_brought_134 {N : Nat} (F : Nat) (c69 : Int32 → Int32 → Int32 → Int32 → sm_t → Option (Int32 × sm_t)) (hc69 : ∀ (l1 : Int32) (l2 : Int32) (l3 : Int32) (l4 : Int32) (S : sm_t), sm_S (sm_jI N) k8_brought 0 0 69 [some (.ref 52), some (.int l1), some (.int l2), some (.int l3), some (.int l4), none, none, none, none, none] [] (sm_m N S) (c69 l1 l2 l3 l4 S)) (l1 : Int32) (l2 : Int32) (l3 : Int32) (l4 : Int32) (S : sm_t) : sm_S (sm_jI N) k8_brought 0 0 134 [some (.ref 52), some (.int l1), some (.int l2), some (.int l3), some (.int l4), none, none, none, none, none] [] (sm_m N S) (x8_brought_134 F c69 l1 l2 l3 l4 S) := by
  unfold x8_brought_134
  refine sd_aload_n (pc := 134) d8_brought_134 rfl ?_
  refine sd_getR (pc := 135) 69 (show sm_sq 52 = some (.inr 7) from rfl) rfl fl8_68 rfl d8_brought_135 ?_
  refine sd_iload (pc := 138) d8_brought_138 rfl ?_
  refine sd_aload_n (pc := 140) d8_brought_140 rfl ?_
  refine sd_iload (pc := 141) d8_brought_141 rfl ?_
  refine sd_cVI (k2 := k8_courseOf) (As := [.int l4]) (rest := [.int l4, .ref 69]) (b := 52) (ci := 7) (pc := 143) 133 (show sm_sq 52 = some (.inr 7) from rfl) (by decide) rfl d8_brought_143 ml8_133 (ms8_courseOf).1 (ms8_courseOf).2 (me8_courseOf) ⟨rfl, rfl⟩ ⟨Nat.le_of_ble_eq_true rfl, Nat.le_of_ble_eq_true rfl⟩ (Nat.le_of_ble_eq_true rfl) (Nat.le_of_ble_eq_true rfl) (Or.inl rfl) (Nat.zero_le _) (Nat.zero_le _) rfl (s8_courseOf F l4 S) (fun v1 S => ?_)
  refine sd_iast (pc := 146) (show sm_sq 69 = some (.inl (.int, 6)) from rfl) d8_brought_146 (fun S => ?_)
  refine sd_iinc (lf2 := [some (.ref 52), some (.int l1), some (.int l2), some (.int l3), some (.int (l4 + 1)), none, none, none, none, none]) (pc := 147) d8_brought_147 (Nat.le_of_ble_eq_true rfl) rfl ci_1 rfl ?_
  refine sd_goto (pc := 150) 69 d8_brought_150 (by decide) ?_
  exact hc69 l1 l2 l3 (l4 + 1) S
set_option maxHeartbeats 4000000 in
set_option maxRecDepth 20000 in
theorem s8_brought_78 {N : Nat} (F : Nat) (c69 : Int32 → Int32 → Int32 → Int32 → sm_t → Option (Int32 × sm_t)) (hc69 : ∀ (l1 : Int32) (l2 : Int32) (l3 : Int32) (l4 : Int32) (S : sm_t), sm_S (sm_jI N) k8_brought 0 0 69 [some (.ref 52), some (.int l1), some (.int l2), some (.int l3), some (.int l4), none, none, none, none, none] [] (sm_m N S) (c69 l1 l2 l3 l4 S)) : ∀ (f : Nat) (l1 : Int32) (l2 : Int32) (l3 : Int32) (l4 : Int32) (l5 : Int32) (S : sm_t), sm_S (sm_jI N) k8_brought 0 0 78 [some (.ref 52), some (.int l1), some (.int l2), some (.int l3), some (.int l4), some (.int l5), none, none, none, none] [] (sm_m N S) (x8_brought_78 F c69 f l1 l2 l3 l4 l5 S) := by
  intro f
  induction f with
  | zero =>
    intro l1 l2 l3 l4 l5 S
    exact sd_none
  | succ f ih =>
    intro l1 l2 l3 l4 l5 S
    rw [x8_brought_78]
    refine sd_iload (pc := 78) d8_brought_78 rfl ?_
    refine sd_bipush (pc := 80) 8 d8_brought_80 cb_8 ?_
    refine sd_ic_ge (pc := 82) 134 d8_brought_82 (by decide) (fun _ => ?_) (fun _ => ?_)
    · exact sd_fg [true, true, true, true, true, false, true, true, true, true] rfl (s8_brought_134 F _ hc69 l1 l2 l3 l4 S)
    · refine sd_aload_n (pc := 85) d8_brought_85 rfl ?_
      refine sd_getR (pc := 86) 69 (show sm_sq 52 = some (.inr 7) from rfl) rfl fl8_68 rfl d8_brought_86 ?_
      refine sd_iload (pc := 89) d8_brought_89 rfl ?_
      refine sd_iload (pc := 91) d8_brought_91 rfl ?_
      refine sd_iast (pc := 93) (show sm_sq 69 = some (.inl (.int, 6)) from rfl) d8_brought_93 (fun S => ?_)
      refine sd_iload (pc := 94) d8_brought_94 rfl ?_
      refine sd_aload_n (pc := 96) d8_brought_96 rfl ?_
      refine sd_iload (pc := 97) d8_brought_97 rfl ?_
      refine sd_cVI (k2 := k8_courseOf) (As := [.int l4]) (rest := [.int l5]) (b := 52) (ci := 7) (pc := 99) 133 (show sm_sq 52 = some (.inr 7) from rfl) (by decide) rfl d8_brought_99 ml8_133 (ms8_courseOf).1 (ms8_courseOf).2 (me8_courseOf) ⟨rfl, rfl⟩ ⟨Nat.le_of_ble_eq_true rfl, Nat.le_of_ble_eq_true rfl⟩ (Nat.le_of_ble_eq_true rfl) (Nat.le_of_ble_eq_true rfl) (Or.inl rfl) (Nat.zero_le _) (Nat.zero_le _) rfl (s8_courseOf F l4 S) (fun v1 S => ?_)
      refine sd_ic_eq (pc := 102) 128 d8_brought_102 (by decide) (fun _ => ?_) (fun _ => ?_)
      · refine sd_iinc (lf2 := [some (.ref 52), some (.int l1), some (.int l2), some (.int l3), some (.int l4), some (.int (l5 + 1)), none, none, none, none]) (pc := 128) d8_brought_128 (Nat.le_of_ble_eq_true rfl) rfl ci_1 rfl ?_
        refine sd_goto (pc := 131) 78 d8_brought_131 (by decide) ?_
        exact ih l1 l2 l3 l4 (l5 + 1) S
      · refine sd_aload_n (pc := 105) d8_brought_105 rfl ?_
        refine sd_iload_n (pc := 106) d8_brought_106 rfl ?_
        refine sd_iload_n (pc := 107) d8_brought_107 rfl ?_
        refine sd_cVI (k2 := k8_comesIn) (As := [.int l1, .int l2]) (rest := []) (b := 52) (ci := 7) (pc := 108) 281 (show sm_sq 52 = some (.inr 7) from rfl) (by decide) rfl d8_brought_108 ml8_281 (ms8_comesIn).1 (ms8_comesIn).2 (me8_comesIn) ⟨rfl, rfl⟩ ⟨Nat.le_of_ble_eq_true rfl, Nat.le_of_ble_eq_true rfl⟩ (Nat.le_of_ble_eq_true rfl) (Nat.le_of_ble_eq_true rfl) (Or.inr rfl) (Nat.zero_le _) (Nat.zero_le _) rfl (s8_comesIn F l1 l2 S) (fun v2 S => ?_)
        refine sd_if_eq (pc := 111) 128 d8_brought_111 (by decide) (fun _ => ?_) (fun _ => ?_)
        · refine sd_iinc (lf2 := [some (.ref 52), some (.int l1), some (.int l2), some (.int l3), some (.int l4), some (.int (l5 + 1)), none, none, none, none]) (pc := 128) d8_brought_128 (Nat.le_of_ble_eq_true rfl) rfl ci_1 rfl ?_
          refine sd_goto (pc := 131) 78 d8_brought_131 (by decide) ?_
          exact ih l1 l2 l3 l4 (l5 + 1) S
        · exact sd_fg [true, false, false, false, true, true, true, true, true, true] rfl (s8_brought_114 F l4 l5 S)
set_option maxHeartbeats 4000000 in
set_option maxRecDepth 20000 in
theorem s8_brought_293 {N : Nat} (F : Nat) (l5 : Int32) (l6 : Int32) (l7 : Int32) (l8 : Int32) (S : sm_t) : sm_S (sm_jI N) k8_brought 0 0 293 [some (.ref 52), none, none, none, none, some (.int l5), some (.int l6), some (.int l7), some (.int l8), none] [] (sm_m N S) (x8_brought_293 F l5 l6 l7 l8 S) := by
  unfold x8_brought_293
  refine sd_aload_n (pc := 293) d8_brought_293 rfl ?_
  refine sd_bipush (pc := 294) 10 d8_brought_294 cb_10 ?_
  refine sd_iload (pc := 296) d8_brought_296 rfl ?_
  refine sd_imul (pc := 298) d8_brought_298 ?_
  refine sd_iload (pc := 299) d8_brought_299 rfl ?_
  refine sd_iadd (pc := 301) d8_brought_301 ?_
  refine sd_bipush (pc := 302) 100 d8_brought_302 cb_100 ?_
  refine sd_iconst (pc := 304) 1 d8_brought_304 ci_1 ?_
  refine sd_bipush (pc := 305) 10 d8_brought_305 cb_10 ?_
  refine sd_iload (pc := 307) d8_brought_307 rfl ?_
  refine sd_imul (pc := 309) d8_brought_309 ?_
  refine sd_iadd (pc := 310) d8_brought_310 ?_
  refine sd_iload (pc := 311) d8_brought_311 rfl ?_
  refine sd_iadd (pc := 313) d8_brought_313 ?_
  refine sd_imul (pc := 314) d8_brought_314 ?_
  refine sd_iadd (pc := 315) d8_brought_315 ?_
  refine sd_iconst (pc := 316) 2 d8_brought_316 ci_2 ?_
  refine sd_cVI (k2 := k8_ask) (As := [.int (((10 * l5) + l6) + (100 * ((1 + (10 * l7)) + l8))), .int 2]) (rest := []) (b := 52) (ci := 7) (pc := 317) 102 (show sm_sq 52 = some (.inr 7) from rfl) (by decide) rfl d8_brought_317 ml8_102 (ms8_ask).1 (ms8_ask).2 (me8_ask) ⟨rfl, rfl⟩ ⟨Nat.le_of_ble_eq_true rfl, Nat.le_of_ble_eq_true rfl⟩ (Nat.le_of_ble_eq_true rfl) (Nat.le_of_ble_eq_true rfl) (Or.inl rfl) (Nat.zero_le _) (Nat.zero_le _) rfl (s8_ask F (((10 * l5) + l6) + (100 * ((1 + (10 * l7)) + l8))) 2 S) (fun v1 S => ?_)
  exact sd_iret (pc := 320) d8_brought_320 rfl (Nat.zero_le _) (Nat.zero_le _)
set_option maxHeartbeats 4000000 in
set_option maxRecDepth 20000 in
theorem s8_brought_156 {N : Nat} (F : Nat) : ∀ (f : Nat) (l1 : Int32) (l2 : Int32) (l3 : Int32) (l4 : Int32) (S : sm_t), sm_S (sm_jI N) k8_brought 0 0 156 [some (.ref 52), some (.int l1), some (.int l2), some (.int l3), some (.int l4), none, none, none, none, none] [] (sm_m N S) (x8_brought_156 F f l1 l2 l3 l4 S) := by
  intro f
  induction f with
  | zero =>
    intro l1 l2 l3 l4 S
    exact sd_none
  | succ f ih =>
    intro l1 l2 l3 l4 S
    rw [x8_brought_156]
    refine sd_iload (pc := 156) d8_brought_156 rfl ?_
    refine sd_bipush (pc := 158) 8 d8_brought_158 cb_8 ?_
    refine sd_iload_n (pc := 160) d8_brought_160 rfl ?_
    refine sd_imul (pc := 161) d8_brought_161 ?_
    refine sd_bipush (pc := 162) 8 d8_brought_162 cb_8 ?_
    refine sd_imul (pc := 164) d8_brought_164 ?_
    refine sd_iload_n (pc := 165) d8_brought_165 rfl ?_
    refine sd_imul (pc := 166) d8_brought_166 ?_
    refine sd_ic_ge (pc := 167) 327 d8_brought_167 (by decide) (fun _ => ?_) (fun _ => ?_)
    · refine sd_bipush (pc := 327) (-9) d8_brought_327 cb_m9 ?_
      exact sd_iret (pc := 329) d8_brought_329 rfl (Nat.zero_le _) (Nat.zero_le _)
    · refine sd_iload (pc := 170) d8_brought_170 rfl ?_
      refine sd_bipush (pc := 172) 64 d8_brought_172 cb_64 ?_
      refine sd_iload_n (pc := 174) d8_brought_174 rfl ?_
      refine sd_imul (pc := 175) d8_brought_175 ?_
      refine sd_ite (fun _ => sd_none) (fun h1 => ?_)
      refine sd_idiv (pc := 176) d8_brought_176 h1 ?_
      refine sd_ni (fun v2 => ?_)
      refine sd_istore (lf2 := [some (.ref 52), some (.int l1), some (.int l2), some (.int l3), some (.int l4), some (.int v2), none, none, none, none]) (pc := 177) d8_brought_177 (Nat.le_of_ble_eq_true rfl) rfl ?_
      refine sd_iload (pc := 179) d8_brought_179 rfl ?_
      refine sd_bipush (pc := 181) 8 d8_brought_181 cb_8 ?_
      refine sd_iload_n (pc := 183) d8_brought_183 rfl ?_
      refine sd_imul (pc := 184) d8_brought_184 ?_
      refine sd_ite (fun _ => sd_none) (fun h3 => ?_)
      refine sd_idiv (pc := 185) d8_brought_185 h3 ?_
      refine sd_bipush (pc := 186) 8 d8_brought_186 cb_8 ?_
      refine sd_irem (pc := 188) d8_brought_188 (by decide) ?_
      refine sd_ni (fun v4 => ?_)
      refine sd_istore (lf2 := [some (.ref 52), some (.int l1), some (.int l2), some (.int l3), some (.int l4), some (.int v2), some (.int v4), none, none, none]) (pc := 189) d8_brought_189 (Nat.le_of_ble_eq_true rfl) rfl ?_
      refine sd_iload (pc := 191) d8_brought_191 rfl ?_
      refine sd_bipush (pc := 193) 8 d8_brought_193 cb_8 ?_
      refine sd_idiv (pc := 195) d8_brought_195 (by decide) ?_
      refine sd_iload_n (pc := 196) d8_brought_196 rfl ?_
      refine sd_ite (fun _ => sd_none) (fun h5 => ?_)
      refine sd_irem (pc := 197) d8_brought_197 h5 ?_
      refine sd_ni (fun v6 => ?_)
      refine sd_istore (lf2 := [some (.ref 52), some (.int l1), some (.int l2), some (.int l3), some (.int l4), some (.int v2), some (.int v4), some (.int v6), none, none]) (pc := 198) d8_brought_198 (Nat.le_of_ble_eq_true rfl) rfl ?_
      refine sd_iload (pc := 200) d8_brought_200 rfl ?_
      refine sd_bipush (pc := 202) 8 d8_brought_202 cb_8 ?_
      refine sd_irem (pc := 204) d8_brought_204 (by decide) ?_
      refine sd_ni (fun v7 => ?_)
      refine sd_istore (lf2 := [some (.ref 52), some (.int l1), some (.int l2), some (.int l3), some (.int l4), some (.int v2), some (.int v4), some (.int v6), some (.int v7), none]) (pc := 205) d8_brought_205 (Nat.le_of_ble_eq_true rfl) rfl ?_
      refine sd_iload (pc := 207) d8_brought_207 rfl ?_
      refine sd_iload (pc := 209) d8_brought_209 rfl ?_
      refine sd_ic_le (pc := 211) 321 d8_brought_211 (by decide) (fun _ => ?_) (fun _ => ?_)
      · refine sd_iinc (lf2 := [some (.ref 52), some (.int l1), some (.int l2), some (.int l3), some (.int (l4 + 1)), some (.int v2), some (.int v4), some (.int v6), some (.int v7), none]) (pc := 321) d8_brought_321 (Nat.le_of_ble_eq_true rfl) rfl ci_1 rfl ?_
        refine sd_goto (pc := 324) 156 d8_brought_324 (by decide) ?_
        exact sd_fg [true, true, true, true, true, false, false, false, false, true] rfl (ih l1 l2 l3 (l4 + 1) S)
      · refine sd_iload (pc := 214) d8_brought_214 rfl ?_
        refine sd_aload_n (pc := 216) d8_brought_216 rfl ?_
        refine sd_iload (pc := 217) d8_brought_217 rfl ?_
        refine sd_cVI (k2 := k8_courseOf) (As := [.int v2]) (rest := [.int v4]) (b := 52) (ci := 7) (pc := 219) 133 (show sm_sq 52 = some (.inr 7) from rfl) (by decide) rfl d8_brought_219 ml8_133 (ms8_courseOf).1 (ms8_courseOf).2 (me8_courseOf) ⟨rfl, rfl⟩ ⟨Nat.le_of_ble_eq_true rfl, Nat.le_of_ble_eq_true rfl⟩ (Nat.le_of_ble_eq_true rfl) (Nat.le_of_ble_eq_true rfl) (Or.inl rfl) (Nat.zero_le _) (Nat.zero_le _) rfl (s8_courseOf F v2 S) (fun v8 S => ?_)
        refine sd_ic_eq (pc := 222) 321 d8_brought_222 (by decide) (fun _ => ?_) (fun _ => ?_)
        · refine sd_iinc (lf2 := [some (.ref 52), some (.int l1), some (.int l2), some (.int l3), some (.int (l4 + 1)), some (.int v2), some (.int v4), some (.int v6), some (.int v7), none]) (pc := 321) d8_brought_321 (Nat.le_of_ble_eq_true rfl) rfl ci_1 rfl ?_
          refine sd_goto (pc := 324) 156 d8_brought_324 (by decide) ?_
          exact sd_fg [true, true, true, true, true, false, false, false, false, true] rfl (ih l1 l2 l3 (l4 + 1) S)
        · refine sd_iload (pc := 225) d8_brought_225 rfl ?_
          refine sd_aload_n (pc := 227) d8_brought_227 rfl ?_
          refine sd_iload (pc := 228) d8_brought_228 rfl ?_
          refine sd_cVI (k2 := k8_courseOf) (As := [.int v6]) (rest := [.int v7]) (b := 52) (ci := 7) (pc := 230) 133 (show sm_sq 52 = some (.inr 7) from rfl) (by decide) rfl d8_brought_230 ml8_133 (ms8_courseOf).1 (ms8_courseOf).2 (me8_courseOf) ⟨rfl, rfl⟩ ⟨Nat.le_of_ble_eq_true rfl, Nat.le_of_ble_eq_true rfl⟩ (Nat.le_of_ble_eq_true rfl) (Nat.le_of_ble_eq_true rfl) (Or.inl rfl) (Nat.zero_le _) (Nat.zero_le _) rfl (s8_courseOf F v6 S) (fun v9 S => ?_)
          refine sd_ic_eq (pc := 233) 321 d8_brought_233 (by decide) (fun _ => ?_) (fun _ => ?_)
          · refine sd_iinc (lf2 := [some (.ref 52), some (.int l1), some (.int l2), some (.int l3), some (.int (l4 + 1)), some (.int v2), some (.int v4), some (.int v6), some (.int v7), none]) (pc := 321) d8_brought_321 (Nat.le_of_ble_eq_true rfl) rfl ci_1 rfl ?_
            refine sd_goto (pc := 324) 156 d8_brought_324 (by decide) ?_
            exact sd_fg [true, true, true, true, true, false, false, false, false, true] rfl (ih l1 l2 l3 (l4 + 1) S)
          · refine sd_aload_n (pc := 236) d8_brought_236 rfl ?_
            refine sd_getR (pc := 237) 69 (show sm_sq 52 = some (.inr 7) from rfl) rfl fl8_68 rfl d8_brought_237 ?_
            refine sd_iload (pc := 240) d8_brought_240 rfl ?_
            refine sd_iload (pc := 242) d8_brought_242 rfl ?_
            refine sd_iast (pc := 244) (show sm_sq 69 = some (.inl (.int, 6)) from rfl) d8_brought_244 (fun S => ?_)
            refine sd_aload_n (pc := 245) d8_brought_245 rfl ?_
            refine sd_getR (pc := 246) 69 (show sm_sq 52 = some (.inr 7) from rfl) rfl fl8_68 rfl d8_brought_246 ?_
            refine sd_iload (pc := 249) d8_brought_249 rfl ?_
            refine sd_iload (pc := 251) d8_brought_251 rfl ?_
            refine sd_iast (pc := 253) (show sm_sq 69 = some (.inl (.int, 6)) from rfl) d8_brought_253 (fun S => ?_)
            refine sd_aload_n (pc := 254) d8_brought_254 rfl ?_
            refine sd_iload_n (pc := 255) d8_brought_255 rfl ?_
            refine sd_iload_n (pc := 256) d8_brought_256 rfl ?_
            refine sd_cVI (k2 := k8_comesIn) (As := [.int l1, .int l2]) (rest := []) (b := 52) (ci := 7) (pc := 257) 281 (show sm_sq 52 = some (.inr 7) from rfl) (by decide) rfl d8_brought_257 ml8_281 (ms8_comesIn).1 (ms8_comesIn).2 (me8_comesIn) ⟨rfl, rfl⟩ ⟨Nat.le_of_ble_eq_true rfl, Nat.le_of_ble_eq_true rfl⟩ (Nat.le_of_ble_eq_true rfl) (Nat.le_of_ble_eq_true rfl) (Or.inr rfl) (Nat.zero_le _) (Nat.zero_le _) rfl (s8_comesIn F l1 l2 S) (fun v10 S => ?_)
            refine sd_istore (lf2 := [some (.ref 52), some (.int l1), some (.int l2), some (.int l3), some (.int l4), some (.int v2), some (.int v4), some (.int v6), some (.int v7), some (.int v10)]) (pc := 260) d8_brought_260 (Nat.le_of_ble_eq_true rfl) rfl ?_
            refine sd_aload_n (pc := 262) d8_brought_262 rfl ?_
            refine sd_getR (pc := 263) 69 (show sm_sq 52 = some (.inr 7) from rfl) rfl fl8_68 rfl d8_brought_263 ?_
            refine sd_iload (pc := 266) d8_brought_266 rfl ?_
            refine sd_aload_n (pc := 268) d8_brought_268 rfl ?_
            refine sd_iload (pc := 269) d8_brought_269 rfl ?_
            refine sd_cVI (k2 := k8_courseOf) (As := [.int v2]) (rest := [.int v2, .ref 69]) (b := 52) (ci := 7) (pc := 271) 133 (show sm_sq 52 = some (.inr 7) from rfl) (by decide) rfl d8_brought_271 ml8_133 (ms8_courseOf).1 (ms8_courseOf).2 (me8_courseOf) ⟨rfl, rfl⟩ ⟨Nat.le_of_ble_eq_true rfl, Nat.le_of_ble_eq_true rfl⟩ (Nat.le_of_ble_eq_true rfl) (Nat.le_of_ble_eq_true rfl) (Or.inl rfl) (Nat.zero_le _) (Nat.zero_le _) rfl (s8_courseOf F v2 S) (fun v11 S => ?_)
            refine sd_iast (pc := 274) (show sm_sq 69 = some (.inl (.int, 6)) from rfl) d8_brought_274 (fun S => ?_)
            refine sd_aload_n (pc := 275) d8_brought_275 rfl ?_
            refine sd_getR (pc := 276) 69 (show sm_sq 52 = some (.inr 7) from rfl) rfl fl8_68 rfl d8_brought_276 ?_
            refine sd_iload (pc := 279) d8_brought_279 rfl ?_
            refine sd_aload_n (pc := 281) d8_brought_281 rfl ?_
            refine sd_iload (pc := 282) d8_brought_282 rfl ?_
            refine sd_cVI (k2 := k8_courseOf) (As := [.int v6]) (rest := [.int v6, .ref 69]) (b := 52) (ci := 7) (pc := 284) 133 (show sm_sq 52 = some (.inr 7) from rfl) (by decide) rfl d8_brought_284 ml8_133 (ms8_courseOf).1 (ms8_courseOf).2 (me8_courseOf) ⟨rfl, rfl⟩ ⟨Nat.le_of_ble_eq_true rfl, Nat.le_of_ble_eq_true rfl⟩ (Nat.le_of_ble_eq_true rfl) (Nat.le_of_ble_eq_true rfl) (Or.inl rfl) (Nat.zero_le _) (Nat.zero_le _) rfl (s8_courseOf F v6 S) (fun v12 S => ?_)
            refine sd_iast (pc := 287) (show sm_sq 69 = some (.inl (.int, 6)) from rfl) d8_brought_287 (fun S => ?_)
            refine sd_iload (pc := 288) d8_brought_288 rfl ?_
            refine sd_if_eq (pc := 290) 321 d8_brought_290 (by decide) (fun _ => ?_) (fun _ => ?_)
            · refine sd_iinc (lf2 := [some (.ref 52), some (.int l1), some (.int l2), some (.int l3), some (.int (l4 + 1)), some (.int v2), some (.int v4), some (.int v6), some (.int v7), some (.int v10)]) (pc := 321) d8_brought_321 (Nat.le_of_ble_eq_true rfl) rfl ci_1 rfl ?_
              refine sd_goto (pc := 324) 156 d8_brought_324 (by decide) ?_
              exact sd_fg [true, true, true, true, true, false, false, false, false, false] rfl (ih l1 l2 l3 (l4 + 1) S)
            · exact sd_fg [true, false, false, false, false, true, true, true, true, false] rfl (s8_brought_293 F v2 v4 v6 v7 S)
set_option maxHeartbeats 4000000 in
set_option maxRecDepth 20000 in
theorem s8_brought_69 {N : Nat} (F : Nat) : ∀ (f : Nat) (l1 : Int32) (l2 : Int32) (l3 : Int32) (l4 : Int32) (S : sm_t), sm_S (sm_jI N) k8_brought 0 0 69 [some (.ref 52), some (.int l1), some (.int l2), some (.int l3), some (.int l4), none, none, none, none, none] [] (sm_m N S) (x8_brought_69 F f l1 l2 l3 l4 S) := by
  intro f
  induction f with
  | zero =>
    intro l1 l2 l3 l4 S
    exact sd_none
  | succ f ih =>
    intro l1 l2 l3 l4 S
    rw [x8_brought_69]
    refine sd_iload (pc := 69) d8_brought_69 rfl ?_
    refine sd_iload_n (pc := 71) d8_brought_71 rfl ?_
    refine sd_ic_ge (pc := 72) 153 d8_brought_72 (by decide) (fun _ => ?_) (fun _ => ?_)
    · refine sd_iconst (pc := 153) 0 d8_brought_153 ci_0 ?_
      refine sd_istore (lf2 := [some (.ref 52), some (.int l1), some (.int l2), some (.int l3), some (.int 0), none, none, none, none, none]) (pc := 154) d8_brought_154 (Nat.le_of_ble_eq_true rfl) rfl ?_
      exact s8_brought_156 F F l1 l2 l3 0 S
    · refine sd_iconst (pc := 75) 0 d8_brought_75 ci_0 ?_
      refine sd_istore (lf2 := [some (.ref 52), some (.int l1), some (.int l2), some (.int l3), some (.int l4), some (.int 0), none, none, none, none]) (pc := 76) d8_brought_76 (Nat.le_of_ble_eq_true rfl) rfl ?_
      exact s8_brought_78 F _ ih F l1 l2 l3 l4 0 S
set_option maxHeartbeats 4000000 in
set_option maxRecDepth 20000 in
theorem s8_brought_45 {N : Nat} (F : Nat) (l1 : Int32) (l2 : Int32) (S : sm_t) : sm_S (sm_jI N) k8_brought 0 0 45 [some (.ref 52), some (.int l1), some (.int l2), none, none, none, none, none, none, none] [] (sm_m N S) (x8_brought_45 F l1 l2 S) := by
  unfold x8_brought_45
  refine sd_aload_n (pc := 45) d8_brought_45 rfl ?_
  refine sd_iload_n (pc := 46) d8_brought_46 rfl ?_
  refine sd_iload_n (pc := 47) d8_brought_47 rfl ?_
  refine sd_cVI (k2 := k8_comesIn) (As := [.int l1, .int l2]) (rest := []) (b := 52) (ci := 7) (pc := 48) 281 (show sm_sq 52 = some (.inr 7) from rfl) (by decide) rfl d8_brought_48 ml8_281 (ms8_comesIn).1 (ms8_comesIn).2 (me8_comesIn) ⟨rfl, rfl⟩ ⟨Nat.le_of_ble_eq_true rfl, Nat.le_of_ble_eq_true rfl⟩ (Nat.le_of_ble_eq_true rfl) (Nat.le_of_ble_eq_true rfl) (Or.inr rfl) (Nat.zero_le _) (Nat.zero_le _) rfl (s8_comesIn F l1 l2 S) (fun v1 S => ?_)
  refine sd_if_eq (pc := 51) 61 d8_brought_51 (by decide) (fun _ => ?_) (fun _ => ?_)
  · refine sd_aload_n (pc := 61) d8_brought_61 rfl ?_
    refine sd_cVI (k2 := k8_hours) (As := []) (rest := []) (b := 52) (ci := 7) (pc := 62) 129 (show sm_sq 52 = some (.inr 7) from rfl) (by decide) rfl d8_brought_62 ml8_129 (ms8_hours).1 (ms8_hours).2 (me8_hours) ⟨rfl, rfl⟩ ⟨Nat.le_of_ble_eq_true rfl, Nat.le_of_ble_eq_true rfl⟩ (Nat.le_of_ble_eq_true rfl) (Nat.le_of_ble_eq_true rfl) (Or.inl rfl) (Nat.zero_le _) (Nat.zero_le _) rfl (s8_hours F S) (fun v2 S => ?_)
    refine sd_istore_n (lf2 := [some (.ref 52), some (.int l1), some (.int l2), some (.int v2), none, none, none, none, none, none]) (pc := 65) d8_brought_65 (Nat.le_of_ble_eq_true rfl) rfl ?_
    refine sd_iconst (pc := 66) 0 d8_brought_66 ci_0 ?_
    refine sd_istore (lf2 := [some (.ref 52), some (.int l1), some (.int l2), some (.int v2), some (.int 0), none, none, none, none, none]) (pc := 67) d8_brought_67 (Nat.le_of_ble_eq_true rfl) rfl ?_
    exact s8_brought_69 F F l1 l2 v2 0 S
  · refine sd_aload_n (pc := 54) d8_brought_54 rfl ?_
    refine sd_iconst (pc := 55) 0 d8_brought_55 ci_0 ?_
    refine sd_iconst (pc := 56) 0 d8_brought_56 ci_0 ?_
    refine sd_cVI (k2 := k8_ask) (As := [.int 0, .int 0]) (rest := []) (b := 52) (ci := 7) (pc := 57) 102 (show sm_sq 52 = some (.inr 7) from rfl) (by decide) rfl d8_brought_57 ml8_102 (ms8_ask).1 (ms8_ask).2 (me8_ask) ⟨rfl, rfl⟩ ⟨Nat.le_of_ble_eq_true rfl, Nat.le_of_ble_eq_true rfl⟩ (Nat.le_of_ble_eq_true rfl) (Nat.le_of_ble_eq_true rfl) (Or.inl rfl) (Nat.zero_le _) (Nat.zero_le _) rfl (s8_ask F 0 0 S) (fun v3 S => ?_)
    exact sd_iret (pc := 60) d8_brought_60 rfl (Nat.zero_le _) (Nat.zero_le _)
set_option maxHeartbeats 4000000 in
set_option maxRecDepth 20000 in
theorem s8_brought_20 {N : Nat} (F : Nat) : ∀ (f : Nat) (l1 : Int32) (l2 : Int32) (l3 : Int32) (S : sm_t), sm_S (sm_jI N) k8_brought 0 0 20 [some (.ref 52), some (.int l1), some (.int l2), some (.int l3), none, none, none, none, none, none] [] (sm_m N S) (x8_brought_20 F f l1 l2 l3 S) := by
  intro f
  induction f with
  | zero =>
    intro l1 l2 l3 S
    exact sd_none
  | succ f ih =>
    intro l1 l2 l3 S
    rw [x8_brought_20]
    refine sd_iload_n (pc := 20) d8_brought_20 rfl ?_
    refine sd_aload_n (pc := 21) d8_brought_21 rfl ?_
    refine sd_cVI (k2 := k8_hours) (As := []) (rest := [.int l3]) (b := 52) (ci := 7) (pc := 22) 129 (show sm_sq 52 = some (.inr 7) from rfl) (by decide) rfl d8_brought_22 ml8_129 (ms8_hours).1 (ms8_hours).2 (me8_hours) ⟨rfl, rfl⟩ ⟨Nat.le_of_ble_eq_true rfl, Nat.le_of_ble_eq_true rfl⟩ (Nat.le_of_ble_eq_true rfl) (Nat.le_of_ble_eq_true rfl) (Or.inl rfl) (Nat.zero_le _) (Nat.zero_le _) rfl (s8_hours F S) (fun v1 S => ?_)
    refine sd_ic_ge (pc := 25) 45 d8_brought_25 (by decide) (fun _ => ?_) (fun _ => ?_)
    · exact sd_fg [true, true, true, false, true, true, true, true, true, true] rfl (s8_brought_45 F l1 l2 S)
    · refine sd_aload_n (pc := 28) d8_brought_28 rfl ?_
      refine sd_getR (pc := 29) 69 (show sm_sq 52 = some (.inr 7) from rfl) rfl fl8_68 rfl d8_brought_29 ?_
      refine sd_iload_n (pc := 32) d8_brought_32 rfl ?_
      refine sd_aload_n (pc := 33) d8_brought_33 rfl ?_
      refine sd_iload_n (pc := 34) d8_brought_34 rfl ?_
      refine sd_cVI (k2 := k8_courseOf) (As := [.int l3]) (rest := [.int l3, .ref 69]) (b := 52) (ci := 7) (pc := 35) 133 (show sm_sq 52 = some (.inr 7) from rfl) (by decide) rfl d8_brought_35 ml8_133 (ms8_courseOf).1 (ms8_courseOf).2 (me8_courseOf) ⟨rfl, rfl⟩ ⟨Nat.le_of_ble_eq_true rfl, Nat.le_of_ble_eq_true rfl⟩ (Nat.le_of_ble_eq_true rfl) (Nat.le_of_ble_eq_true rfl) (Or.inl rfl) (Nat.zero_le _) (Nat.zero_le _) rfl (s8_courseOf F l3 S) (fun v2 S => ?_)
      refine sd_iast (pc := 38) (show sm_sq 69 = some (.inl (.int, 6)) from rfl) d8_brought_38 (fun S => ?_)
      refine sd_iinc (lf2 := [some (.ref 52), some (.int l1), some (.int l2), some (.int (l3 + 1)), none, none, none, none, none, none]) (pc := 39) d8_brought_39 (Nat.le_of_ble_eq_true rfl) rfl ci_1 rfl ?_
      refine sd_goto (pc := 42) 20 d8_brought_42 (by decide) ?_
      exact ih l1 l2 (l3 + 1) S
set_option maxHeartbeats 4000000 in
set_option maxRecDepth 20000 in
theorem s8_brought {N : Nat} (F : Nat) (l1 : Int32) (l2 : Int32) (S : sm_t) : sm_P (sm_jI N) k8_brought [.ref 52, .int l1, .int l2] (sm_m N S) (x8_brought F l1 l2 S) := by
  show sm_S (sm_jI N) k8_brought 0 0 0 [some (.ref 52), some (.int l1), some (.int l2), none, none, none, none, none, none, none] [] (sm_m N S) (x8_brought F l1 l2 S)
  unfold x8_brought
  refine sd_iload_n (pc := 0) d8_brought_0 rfl ?_
  refine sd_cSI (k2 := k8_isCell) (As := [.int l1]) (rest := []) (pc := 1) 117 d8_brought_1 ml8_117 (ms8_isCell) (me8_isCell) ⟨rfl, rfl⟩ ⟨Nat.le_of_ble_eq_true rfl, Nat.le_of_ble_eq_true rfl⟩ (Nat.le_of_ble_eq_true rfl) (Nat.le_of_ble_eq_true rfl) (Or.inr rfl) (Nat.zero_le _) (Nat.zero_le _) rfl (s8_isCell F l1 S) (fun v1 S => ?_)
  refine sd_if_eq (pc := 4) 16 d8_brought_4 (by decide) (fun _ => ?_) (fun _ => ?_)
  · refine sd_iconst (pc := 16) (-1) d8_brought_16 ci_m1 ?_
    exact sd_iret (pc := 17) d8_brought_17 rfl (Nat.zero_le _) (Nat.zero_le _)
  · refine sd_iload_n (pc := 7) d8_brought_7 rfl ?_
    refine sd_iconst (pc := 8) 0 d8_brought_8 ci_0 ?_
    refine sd_iconst (pc := 9) 5 d8_brought_9 ci_5 ?_
    refine sd_cSI (k2 := k8_in) (As := [.int l2, .int 0, .int 5]) (rest := []) (pc := 10) 80 d8_brought_10 ml8_80 (ms8_in) (me8_in) ⟨rfl, rfl⟩ ⟨Nat.le_of_ble_eq_true rfl, Nat.le_of_ble_eq_true rfl⟩ (Nat.le_of_ble_eq_true rfl) (Nat.le_of_ble_eq_true rfl) (Or.inr rfl) (Nat.zero_le _) (Nat.zero_le _) rfl (s8_in F l2 0 5 S) (fun v2 S => ?_)
    refine sd_if_ne (pc := 13) 18 d8_brought_13 (by decide) (fun _ => ?_) (fun _ => ?_)
    · refine sd_iconst (pc := 16) (-1) d8_brought_16 ci_m1 ?_
      exact sd_iret (pc := 17) d8_brought_17 rfl (Nat.zero_le _) (Nat.zero_le _)
    · refine sd_iconst (pc := 18) 0 d8_brought_18 ci_0 ?_
      refine sd_istore_n (lf2 := [some (.ref 52), some (.int l1), some (.int l2), some (.int 0), none, none, none, none, none, none]) (pc := 19) d8_brought_19 (Nat.le_of_ble_eq_true rfl) rfl ?_
      exact s8_brought_20 F F l1 l2 0 S
set_option maxHeartbeats 4000000 in
set_option maxRecDepth 20000 in
theorem s7_draw_133 {N : Nat} (F : Nat) (c60 : Int32 → Int64 → Int32 → Int32 → sm_t → Option (Int32 × sm_t)) (hc60 : ∀ (l2 : Int32) (l3 : Int64) (l5 : Int32) (l6 : Int32) (S : sm_t), sm_S (sm_jI N) k7_draw 0 0 60 [some (.ref 3), none, some (.int l2), some (.long l3), none, some (.int l5), some (.int l6), none, none] [] (sm_m N S) (c60 l2 l3 l5 l6 S)) (l2 : Int32) (l3 : Int64) (l5 : Int32) (l6 : Int32) (l7 : Int32) (S : sm_t) : sm_S (sm_jI N) k7_draw 0 0 133 [some (.ref 3), none, some (.int l2), some (.long l3), none, some (.int l5), some (.int l6), some (.int l7), none] [] (sm_m N S) (x7_draw_133 F c60 l2 l3 l5 l6 l7 S) := by
  unfold x7_draw_133
  refine sd_iload (pc := 133) d7_draw_133 rfl ?_
  refine sd_iload (pc := 135) d7_draw_135 rfl ?_
  refine sd_cSI (k2 := k1_gone) (As := [.int l5, .int l7]) (rest := []) (pc := 137) 305 d7_draw_137 ml7_305 (ms1_gone) (me1_gone) ⟨rfl, rfl⟩ ⟨Nat.le_of_ble_eq_true rfl, Nat.le_of_ble_eq_true rfl⟩ (Nat.le_of_ble_eq_true rfl) (Nat.le_of_ble_eq_true rfl) (Or.inl rfl) (Nat.zero_le _) (Nat.zero_le _) rfl (s1_gone F l5 l7 S) (fun v1 S => ?_)
  refine sd_istore (lf2 := [some (.ref 3), none, some (.int l2), some (.long l3), none, some (.int v1), some (.int l6), some (.int l7), none]) (pc := 140) d7_draw_140 (Nat.le_of_ble_eq_true rfl) rfl ?_
  refine sd_aload_n (pc := 142) d7_draw_142 rfl ?_
  refine sd_getR (pc := 143) 4 (show sm_sq 3 = some (.inr 6) from rfl) rfl fl7_11 rfl d7_draw_143 ?_
  refine sd_iload_n (pc := 146) d7_draw_146 rfl ?_
  refine sd_aald (pc := 147) 4 (show sm_sq 4 = some (.inl (.array .int, 6)) from rfl) rfl rfl (fun _ => rfl) (fun _ _ _ _ h => if_pos h) d7_draw_147 (fun a2 => ?_)
  refine sd_iload (pc := 148) d7_draw_148 rfl ?_
  refine sd_iconst (pc := 150) 1 d7_draw_150 ci_1 ?_
  refine sd_iadd (pc := 151) d7_draw_151 ?_
  refine sd_iload (pc := 152) d7_draw_152 rfl ?_
  refine sd_an (fun n4 h3 => ?_)
  refine sd_iast (pc := 154) h3 d7_draw_154 (fun S => ?_)
  refine sd_iinc (lf2 := [some (.ref 3), none, some (.int l2), some (.long l3), none, some (.int v1), some (.int (l6 + 1)), some (.int l7), none]) (pc := 155) d7_draw_155 (Nat.le_of_ble_eq_true rfl) rfl ci_1 rfl ?_
  refine sd_goto (pc := 158) 60 d7_draw_158 (by decide) ?_
  exact sd_fg [true, true, true, true, true, true, true, false, true] rfl (hc60 l2 l3 v1 (l6 + 1) S)
set_option maxHeartbeats 4000000 in
set_option maxRecDepth 20000 in
theorem s7_draw_60 {N : Nat} (F : Nat) : ∀ (f : Nat) (l2 : Int32) (l3 : Int64) (l5 : Int32) (l6 : Int32) (S : sm_t), sm_S (sm_jI N) k7_draw 0 0 60 [some (.ref 3), none, some (.int l2), some (.long l3), none, some (.int l5), some (.int l6), none, none] [] (sm_m N S) (x7_draw_60 F f l2 l3 l5 l6 S) := by
  intro f
  induction f with
  | zero =>
    intro l2 l3 l5 l6 S
    exact sd_none
  | succ f ih =>
    intro l2 l3 l5 l6 S
    rw [x7_draw_60]
    refine sd_iload (pc := 60) d7_draw_60 rfl ?_
    refine sd_aload_n (pc := 62) d7_draw_62 rfl ?_
    refine sd_getR (pc := 63) 19 (show sm_sq 3 = some (.inr 6) from rfl) rfl fl7_37 rfl d7_draw_63 ?_
    refine sd_getI (pc := 66) (show sm_sq 19 = some (.inr 2) from rfl) rfl fl7_134 d7_draw_66 (fun v1 => ?_)
    refine sd_ic_ge (pc := 69) 161 d7_draw_69 (by decide) (fun _ => ?_) (fun _ => ?_)
    · refine sd_lload_n (pc := 161) d7_draw_161 rfl ?_
      refine sd_l2i (pc := 162) d7_draw_162 ?_
      exact sd_iret (pc := 163) d7_draw_163 rfl (Nat.zero_le _) (Nat.zero_le _)
    · refine sd_lload_n (pc := 72) d7_draw_72 rfl ?_
      refine sd_ldc2 (pc := 73) cl7_299 d7_draw_73 ?_
      refine sd_lmul (pc := 76) d7_draw_76 ?_
      refine sd_ldc2 (pc := 77) cl7_301 d7_draw_77 ?_
      refine sd_lrem (pc := 80) d7_draw_80 (by decide) ?_
      refine sd_nl (fun v2 => ?_)
      refine sd_lstore_n (lf2 := [some (.ref 3), none, some (.int l2), some (.long v2), none, some (.int l5), some (.int l6), none, none]) (pc := 81) d7_draw_81 (Nat.le_of_ble_eq_true rfl) rfl ?_
      refine sd_aload_n (pc := 82) d7_draw_82 rfl ?_
      refine sd_getR (pc := 83) 19 (show sm_sq 3 = some (.inr 6) from rfl) rfl fl7_37 rfl d7_draw_83 ?_
      refine sd_getR (pc := 86) 20 (show sm_sq 19 = some (.inr 2) from rfl) rfl fl7_144 rfl d7_draw_86 ?_
      refine sd_iload (pc := 89) d7_draw_89 rfl ?_
      refine sd_iald (pc := 91) (show sm_sq 20 = some (.inl (.int, 6)) from rfl) d7_draw_91 (fun v3 => ?_)
      refine sd_istore (lf2 := [some (.ref 3), none, some (.int l2), some (.long v2), none, some (.int l5), some (.int l6), some (.int v3), none]) (pc := 92) d7_draw_92 (Nat.le_of_ble_eq_true rfl) rfl ?_
      refine sd_lload_n (pc := 94) d7_draw_94 rfl ?_
      refine sd_ldc2 (pc := 95) cl7_303 d7_draw_95 ?_
      refine sd_lrem (pc := 98) d7_draw_98 (by decide) ?_
      refine sd_l2i (pc := 99) d7_draw_99 ?_
      refine sd_ni (fun v4 => ?_)
      refine sd_istore (lf2 := [some (.ref 3), none, some (.int l2), some (.long v2), none, some (.int l5), some (.int l6), some (.int v3), some (.int v4)]) (pc := 100) d7_draw_100 (Nat.le_of_ble_eq_true rfl) rfl ?_
      refine sd_iload (pc := 102) d7_draw_102 rfl ?_
      refine sd_iconst (pc := 104) 2 d7_draw_104 ci_2 ?_
      refine sd_ic_ne (pc := 105) 119 d7_draw_105 (by decide) (fun _ => ?_) (fun _ => ?_)
      · refine sd_iload (pc := 108) d7_draw_108 rfl ?_
        refine sd_iconst (pc := 110) (-1) d7_draw_110 ci_m1 ?_
        refine sd_cSI (k2 := k1_turned) (As := [.int v3, .int (-1)]) (rest := []) (pc := 111) 267 d7_draw_111 ml7_267 (ms1_turned) (me1_turned) ⟨rfl, rfl⟩ ⟨Nat.le_of_ble_eq_true rfl, Nat.le_of_ble_eq_true rfl⟩ (Nat.le_of_ble_eq_true rfl) (Nat.le_of_ble_eq_true rfl) (Or.inl rfl) (Nat.zero_le _) (Nat.zero_le _) rfl (s1_turned F v3 (-1) S) (fun v5 S => ?_)
        refine sd_istore (lf2 := [some (.ref 3), none, some (.int l2), some (.long v2), none, some (.int l5), some (.int l6), some (.int v5), some (.int v4)]) (pc := 114) d7_draw_114 (Nat.le_of_ble_eq_true rfl) rfl ?_
        refine sd_goto (pc := 116) 133 d7_draw_116 (by decide) ?_
        exact sd_fg [true, true, true, true, true, true, true, true, false] rfl (s7_draw_133 F _ ih l2 v2 l5 l6 v5 S)
      · refine sd_iload (pc := 119) d7_draw_119 rfl ?_
        refine sd_iconst (pc := 121) 3 d7_draw_121 ci_3 ?_
        refine sd_ic_ne (pc := 122) 133 d7_draw_122 (by decide) (fun _ => ?_) (fun _ => ?_)
        · refine sd_iload (pc := 125) d7_draw_125 rfl ?_
          refine sd_iconst (pc := 127) 1 d7_draw_127 ci_1 ?_
          refine sd_cSI (k2 := k1_turned) (As := [.int v3, .int 1]) (rest := []) (pc := 128) 267 d7_draw_128 ml7_267 (ms1_turned) (me1_turned) ⟨rfl, rfl⟩ ⟨Nat.le_of_ble_eq_true rfl, Nat.le_of_ble_eq_true rfl⟩ (Nat.le_of_ble_eq_true rfl) (Nat.le_of_ble_eq_true rfl) (Or.inl rfl) (Nat.zero_le _) (Nat.zero_le _) rfl (s1_turned F v3 1 S) (fun v6 S => ?_)
          refine sd_istore (lf2 := [some (.ref 3), none, some (.int l2), some (.long v2), none, some (.int l5), some (.int l6), some (.int v6), some (.int v4)]) (pc := 131) d7_draw_131 (Nat.le_of_ble_eq_true rfl) rfl ?_
          exact sd_fg [true, true, true, true, true, true, true, true, false] rfl (s7_draw_133 F _ ih l2 v2 l5 l6 v6 S)
        · exact sd_fg [true, true, true, true, true, true, true, true, false] rfl (s7_draw_133 F _ ih l2 v2 l5 l6 v3 S)
set_option maxHeartbeats 4000000 in
set_option maxRecDepth 20000 in
theorem s7_draw {N : Nat} (F : Nat) (l1 : Int32) (l2 : Int32) (S : sm_t) : sm_P (sm_jI N) k7_draw [.ref 3, .int l1, .int l2] (sm_m N S) (x7_draw F l1 l2 S) := by
  show sm_S (sm_jI N) k7_draw 0 0 0 [some (.ref 3), some (.int l1), some (.int l2), none, none, none, none, none, none] [] (sm_m N S) (x7_draw F l1 l2 S)
  unfold x7_draw
  refine sd_iload_n (pc := 0) d7_draw_0 rfl ?_
  refine sd_iconst (pc := 1) 1 d7_draw_1 ci_1 ?_
  refine sd_ic_lt (pc := 2) 19 d7_draw_2 (by decide) (fun _ => ?_) (fun _ => ?_)
  · refine sd_iconst (pc := 19) (-1) d7_draw_19 ci_m1 ?_
    exact sd_iret (pc := 20) d7_draw_20 rfl (Nat.zero_le _) (Nat.zero_le _)
  · refine sd_iload_n (pc := 5) d7_draw_5 rfl ?_
    refine sd_ldcw (pc := 6) cl7_295 d7_draw_6 ?_
    refine sd_ic_gt (pc := 9) 19 d7_draw_9 (by decide) (fun _ => ?_) (fun _ => ?_)
    · refine sd_iconst (pc := 19) (-1) d7_draw_19 ci_m1 ?_
      exact sd_iret (pc := 20) d7_draw_20 rfl (Nat.zero_le _) (Nat.zero_le _)
    · refine sd_iload_n (pc := 12) d7_draw_12 rfl ?_
      refine sd_cSI (k2 := k7_isRow) (As := [.int l2]) (rest := []) (pc := 13) 88 d7_draw_13 ml7_88 (ms7_isRow) (me7_isRow) ⟨rfl, rfl⟩ ⟨Nat.le_of_ble_eq_true rfl, Nat.le_of_ble_eq_true rfl⟩ (Nat.le_of_ble_eq_true rfl) (Nat.le_of_ble_eq_true rfl) (Or.inr rfl) (Nat.zero_le _) (Nat.zero_le _) rfl (s7_isRow F l2 S) (fun v1 S => ?_)
      refine sd_if_ne (pc := 16) 21 d7_draw_16 (by decide) (fun _ => ?_) (fun _ => ?_)
      · refine sd_iconst (pc := 19) (-1) d7_draw_19 ci_m1 ?_
        exact sd_iret (pc := 20) d7_draw_20 rfl (Nat.zero_le _) (Nat.zero_le _)
      · refine sd_aload_n (pc := 21) d7_draw_21 rfl ?_
        refine sd_iload_n (pc := 22) d7_draw_22 rfl ?_
        refine sd_aload_n (pc := 23) d7_draw_23 rfl ?_
        refine sd_getR (pc := 24) 19 (show sm_sq 3 = some (.inr 6) from rfl) rfl fl7_37 rfl d7_draw_24 ?_
        refine sd_getI (pc := 27) (show sm_sq 19 = some (.inr 2) from rfl) rfl fl7_134 d7_draw_27 (fun v2 => ?_)
        refine sd_iconst (pc := 30) 1 d7_draw_30 ci_1 ?_
        refine sd_iadd (pc := 31) d7_draw_31 ?_
        refine sd_cVV (k2 := k7_renew) (As := [.int l2, .int (v2 + 1)]) (rest := []) (b := 3) (ci := 6) (pc := 32) 96 (show sm_sq 3 = some (.inr 6) from rfl) (by decide) rfl d7_draw_32 ml7_96 (ms7_renew).1 (ms7_renew).2 (me7_renew) ⟨rfl, rfl⟩ ⟨Nat.le_of_ble_eq_true rfl, Nat.le_of_ble_eq_true rfl⟩ (Nat.le_of_ble_eq_true rfl) (Nat.le_of_ble_eq_true rfl) rfl (Nat.zero_le _) (Nat.zero_le _) rfl (s7_renew F l2 (v2 + 1) S) (fun S => ?_)
        refine sd_iload_n (pc := 35) d7_draw_35 rfl ?_
        refine sd_i2l (pc := 36) d7_draw_36 ?_
        refine sd_nl (fun v4 => ?_)
        refine sd_lstore_n (lf2 := [some (.ref 3), some (.int l1), some (.int l2), some (.long v4), none, none, none, none, none]) (pc := 37) d7_draw_37 (Nat.le_of_ble_eq_true rfl) rfl ?_
        refine sd_aload_n (pc := 38) d7_draw_38 rfl ?_
        refine sd_getR (pc := 39) 19 (show sm_sq 3 = some (.inr 6) from rfl) rfl fl7_37 rfl d7_draw_39 ?_
        refine sd_getI (pc := 42) (show sm_sq 19 = some (.inr 2) from rfl) rfl fl7_296 d7_draw_42 (fun v5 => ?_)
        refine sd_istore (lf2 := [some (.ref 3), some (.int l1), some (.int l2), some (.long v4), none, some (.int v5), none, none, none]) (pc := 45) d7_draw_45 (Nat.le_of_ble_eq_true rfl) rfl ?_
        refine sd_aload_n (pc := 47) d7_draw_47 rfl ?_
        refine sd_getR (pc := 48) 4 (show sm_sq 3 = some (.inr 6) from rfl) rfl fl7_11 rfl d7_draw_48 ?_
        refine sd_iload_n (pc := 51) d7_draw_51 rfl ?_
        refine sd_aald (pc := 52) 4 (show sm_sq 4 = some (.inl (.array .int, 6)) from rfl) rfl rfl (fun _ => rfl) (fun _ _ _ _ h => if_pos h) d7_draw_52 (fun a6 => ?_)
        refine sd_iconst (pc := 53) 0 d7_draw_53 ci_0 ?_
        refine sd_iload (pc := 54) d7_draw_54 rfl ?_
        refine sd_an (fun n8 h7 => ?_)
        refine sd_iast (pc := 56) h7 d7_draw_56 (fun S => ?_)
        refine sd_iconst (pc := 57) 0 d7_draw_57 ci_0 ?_
        refine sd_istore (lf2 := [some (.ref 3), some (.int l1), some (.int l2), some (.long v4), none, some (.int v5), some (.int 0), none, none]) (pc := 58) d7_draw_58 (Nat.le_of_ble_eq_true rfl) rfl ?_
        exact sd_fg [true, false, true, true, true, true, true, true, true] rfl (s7_draw_60 F F l2 v4 v5 0 S)
set_option maxHeartbeats 4000000 in
set_option maxRecDepth 20000 in
theorem s8_draw_109 {N : Nat} (F : Nat) (c57 : Int32 → Int64 → Int32 → Int32 → sm_t → Option (Int32 × sm_t)) (hc57 : ∀ (l2 : Int32) (l3 : Int64) (l5 : Int32) (l6 : Int32) (S : sm_t), sm_S (sm_jI N) k8_draw 0 0 57 [some (.ref 52), none, some (.int l2), some (.long l3), none, some (.int l5), some (.int l6), none] [] (sm_m N S) (c57 l2 l3 l5 l6 S)) (l2 : Int32) (l3 : Int64) (l5 : Int32) (l6 : Int32) (t0 : Int32) (S : sm_t) : sm_S (sm_jI N) k8_draw 0 0 109 [some (.ref 52), none, some (.int l2), some (.long l3), none, some (.int l5), some (.int l6), none] [.int t0] (sm_m N S) (x8_draw_109 F c57 l2 l3 l5 l6 t0 S) := by
  unfold x8_draw_109
  refine sd_istore (lf2 := [some (.ref 52), none, some (.int l2), some (.long l3), none, some (.int l5), some (.int l6), some (.int t0)]) (pc := 109) d8_draw_109 (Nat.le_of_ble_eq_true rfl) rfl ?_
  refine sd_iload (pc := 111) d8_draw_111 rfl ?_
  refine sd_aload_n (pc := 113) d8_draw_113 rfl ?_
  refine sd_iload (pc := 114) d8_draw_114 rfl ?_
  refine sd_cVI (k2 := k8_courseOf) (As := [.int l6]) (rest := [.int l5]) (b := 52) (ci := 7) (pc := 116) 133 (show sm_sq 52 = some (.inr 7) from rfl) (by decide) rfl d8_draw_116 ml8_133 (ms8_courseOf).1 (ms8_courseOf).2 (me8_courseOf) ⟨rfl, rfl⟩ ⟨Nat.le_of_ble_eq_true rfl, Nat.le_of_ble_eq_true rfl⟩ (Nat.le_of_ble_eq_true rfl) (Nat.le_of_ble_eq_true rfl) (Or.inl rfl) (Nat.zero_le _) (Nat.zero_le _) rfl (s8_courseOf F l6 S) (fun v1 S => ?_)
  refine sd_iload (pc := 119) d8_draw_119 rfl ?_
  refine sd_cSI (k2 := k8_turned) (As := [.int v1, .int t0]) (rest := [.int l5]) (pc := 121) 211 d8_draw_121 ml8_211 (ms8_turned) (me8_turned) ⟨rfl, rfl⟩ ⟨Nat.le_of_ble_eq_true rfl, Nat.le_of_ble_eq_true rfl⟩ (Nat.le_of_ble_eq_true rfl) (Nat.le_of_ble_eq_true rfl) (Or.inl rfl) (Nat.zero_le _) (Nat.zero_le _) rfl (s8_turned F v1 t0 S) (fun v2 S => ?_)
  refine sd_cSI (k2 := k8_goesTo) (As := [.int l5, .int v2]) (rest := []) (pc := 124) 214 d8_draw_124 ml8_214 (ms8_goesTo) (me8_goesTo) ⟨rfl, rfl⟩ ⟨Nat.le_of_ble_eq_true rfl, Nat.le_of_ble_eq_true rfl⟩ (Nat.le_of_ble_eq_true rfl) (Nat.le_of_ble_eq_true rfl) (Or.inl rfl) (Nat.zero_le _) (Nat.zero_le _) rfl (s8_goesTo F l5 v2 S) (fun v3 S => ?_)
  refine sd_istore (lf2 := [some (.ref 52), none, some (.int l2), some (.long l3), none, some (.int v3), some (.int l6), some (.int t0)]) (pc := 127) d8_draw_127 (Nat.le_of_ble_eq_true rfl) rfl ?_
  refine sd_aload_n (pc := 129) d8_draw_129 rfl ?_
  refine sd_getR (pc := 130) 55 (show sm_sq 52 = some (.inr 7) from rfl) rfl fl8_20 rfl d8_draw_130 ?_
  refine sd_bipush (pc := 133) 40 d8_draw_133 cb_40 ?_
  refine sd_iload_n (pc := 135) d8_draw_135 rfl ?_
  refine sd_imul (pc := 136) d8_draw_136 ?_
  refine sd_iload (pc := 137) d8_draw_137 rfl ?_
  refine sd_iadd (pc := 139) d8_draw_139 ?_
  refine sd_iconst (pc := 140) 1 d8_draw_140 ci_1 ?_
  refine sd_iadd (pc := 141) d8_draw_141 ?_
  refine sd_iload (pc := 142) d8_draw_142 rfl ?_
  refine sd_iast (pc := 144) (show sm_sq 55 = some (.inl (.int, 240)) from rfl) d8_draw_144 (fun S => ?_)
  refine sd_iinc (lf2 := [some (.ref 52), none, some (.int l2), some (.long l3), none, some (.int v3), some (.int (l6 + 1)), some (.int t0)]) (pc := 145) d8_draw_145 (Nat.le_of_ble_eq_true rfl) rfl ci_1 rfl ?_
  refine sd_goto (pc := 148) 57 d8_draw_148 (by decide) ?_
  exact sd_fg [true, true, true, true, true, true, true, false] rfl (hc57 l2 l3 v3 (l6 + 1) S)
set_option maxHeartbeats 4000000 in
set_option maxRecDepth 20000 in
theorem s8_draw_57 {N : Nat} (F : Nat) : ∀ (f : Nat) (l2 : Int32) (l3 : Int64) (l5 : Int32) (l6 : Int32) (S : sm_t), sm_S (sm_jI N) k8_draw 0 0 57 [some (.ref 52), none, some (.int l2), some (.long l3), none, some (.int l5), some (.int l6), none] [] (sm_m N S) (x8_draw_57 F f l2 l3 l5 l6 S) := by
  intro f
  induction f with
  | zero =>
    intro l2 l3 l5 l6 S
    exact sd_none
  | succ f ih =>
    intro l2 l3 l5 l6 S
    rw [x8_draw_57]
    refine sd_iload (pc := 57) d8_draw_57 rfl ?_
    refine sd_aload_n (pc := 59) d8_draw_59 rfl ?_
    refine sd_cVI (k2 := k8_hours) (As := []) (rest := [.int l6]) (b := 52) (ci := 7) (pc := 60) 129 (show sm_sq 52 = some (.inr 7) from rfl) (by decide) rfl d8_draw_60 ml8_129 (ms8_hours).1 (ms8_hours).2 (me8_hours) ⟨rfl, rfl⟩ ⟨Nat.le_of_ble_eq_true rfl, Nat.le_of_ble_eq_true rfl⟩ (Nat.le_of_ble_eq_true rfl) (Nat.le_of_ble_eq_true rfl) (Or.inl rfl) (Nat.zero_le _) (Nat.zero_le _) rfl (s8_hours F S) (fun v1 S => ?_)
    refine sd_ic_ge (pc := 63) 151 d8_draw_63 (by decide) (fun _ => ?_) (fun _ => ?_)
    · refine sd_lload_n (pc := 151) d8_draw_151 rfl ?_
      refine sd_l2i (pc := 152) d8_draw_152 ?_
      exact sd_iret (pc := 153) d8_draw_153 rfl (Nat.zero_le _) (Nat.zero_le _)
    · refine sd_ldc2 (pc := 66) cl8_285 d8_draw_66 ?_
      refine sd_lload_n (pc := 69) d8_draw_69 rfl ?_
      refine sd_lmul (pc := 70) d8_draw_70 ?_
      refine sd_ldc2 (pc := 71) cl8_287 d8_draw_71 ?_
      refine sd_lrem (pc := 74) d8_draw_74 (by decide) ?_
      refine sd_nl (fun v2 => ?_)
      refine sd_lstore_n (lf2 := [some (.ref 52), none, some (.int l2), some (.long v2), none, some (.int l5), some (.int l6), none]) (pc := 75) d8_draw_75 (Nat.le_of_ble_eq_true rfl) rfl ?_
      refine sd_lload_n (pc := 76) d8_draw_76 rfl ?_
      refine sd_ldc2 (pc := 77) cl8_202 d8_draw_77 ?_
      refine sd_lrem (pc := 80) d8_draw_80 (by decide) ?_
      refine sd_ldc2 (pc := 81) cl8_217 d8_draw_81 ?_
      refine sd_lc_ge (pc := 84) 92 d8_draw_84 d8_draw_85 (by decide) (fun _ => ?_) (fun _ => ?_)
      · refine sd_lload_n (pc := 92) d8_draw_92 rfl ?_
        refine sd_ldc2 (pc := 93) cl8_202 d8_draw_93 ?_
        refine sd_lrem (pc := 96) d8_draw_96 (by decide) ?_
        refine sd_ldc2 (pc := 97) cl8_217 d8_draw_97 ?_
        refine sd_lc_ne (pc := 100) 108 d8_draw_100 d8_draw_101 (by decide) (fun _ => ?_) (fun _ => ?_)
        · refine sd_iconst (pc := 104) (-1) d8_draw_104 ci_m1 ?_
          refine sd_goto (pc := 105) 109 d8_draw_105 (by decide) ?_
          exact s8_draw_109 F _ ih l2 v2 l5 l6 (-1) S
        · refine sd_iconst (pc := 108) 1 d8_draw_108 ci_1 ?_
          exact s8_draw_109 F _ ih l2 v2 l5 l6 1 S
      · refine sd_iconst (pc := 88) 0 d8_draw_88 ci_0 ?_
        refine sd_goto (pc := 89) 109 d8_draw_89 (by decide) ?_
        exact s8_draw_109 F _ ih l2 v2 l5 l6 0 S
set_option maxHeartbeats 4000000 in
set_option maxRecDepth 20000 in
theorem s8_draw {N : Nat} (F : Nat) (l1 : Int32) (l2 : Int32) (S : sm_t) : sm_P (sm_jI N) k8_draw [.ref 52, .int l1, .int l2] (sm_m N S) (x8_draw F l1 l2 S) := by
  show sm_S (sm_jI N) k8_draw 0 0 0 [some (.ref 52), some (.int l1), some (.int l2), none, none, none, none, none] [] (sm_m N S) (x8_draw F l1 l2 S)
  unfold x8_draw
  refine sd_iload_n (pc := 0) d8_draw_0 rfl ?_
  refine sd_iconst (pc := 1) 1 d8_draw_1 ci_1 ?_
  refine sd_ldcw (pc := 2) cl8_284 d8_draw_2 ?_
  refine sd_cSI (k2 := k8_in) (As := [.int l1, .int 1, .int 2147483646]) (rest := []) (pc := 5) 80 d8_draw_5 ml8_80 (ms8_in) (me8_in) ⟨rfl, rfl⟩ ⟨Nat.le_of_ble_eq_true rfl, Nat.le_of_ble_eq_true rfl⟩ (Nat.le_of_ble_eq_true rfl) (Nat.le_of_ble_eq_true rfl) (Or.inr rfl) (Nat.zero_le _) (Nat.zero_le _) rfl (s8_in F l1 1 2147483646 S) (fun v1 S => ?_)
  refine sd_if_eq (pc := 8) 18 d8_draw_8 (by decide) (fun _ => ?_) (fun _ => ?_)
  · refine sd_iconst (pc := 18) (-1) d8_draw_18 ci_m1 ?_
    exact sd_iret (pc := 19) d8_draw_19 rfl (Nat.zero_le _) (Nat.zero_le _)
  · refine sd_iload_n (pc := 11) d8_draw_11 rfl ?_
    refine sd_cSI (k2 := k8_isRow) (As := [.int l2]) (rest := []) (pc := 12) 84 d8_draw_12 ml8_84 (ms8_isRow) (me8_isRow) ⟨rfl, rfl⟩ ⟨Nat.le_of_ble_eq_true rfl, Nat.le_of_ble_eq_true rfl⟩ (Nat.le_of_ble_eq_true rfl) (Nat.le_of_ble_eq_true rfl) (Or.inr rfl) (Nat.zero_le _) (Nat.zero_le _) rfl (s8_isRow F l2 S) (fun v2 S => ?_)
    refine sd_if_ne (pc := 15) 20 d8_draw_15 (by decide) (fun _ => ?_) (fun _ => ?_)
    · refine sd_iconst (pc := 18) (-1) d8_draw_18 ci_m1 ?_
      exact sd_iret (pc := 19) d8_draw_19 rfl (Nat.zero_le _) (Nat.zero_le _)
    · refine sd_aload_n (pc := 20) d8_draw_20 rfl ?_
      refine sd_iload_n (pc := 21) d8_draw_21 rfl ?_
      refine sd_aload_n (pc := 22) d8_draw_22 rfl ?_
      refine sd_cVI (k2 := k8_hours) (As := []) (rest := [.int l2, .ref 52]) (b := 52) (ci := 7) (pc := 23) 129 (show sm_sq 52 = some (.inr 7) from rfl) (by decide) rfl d8_draw_23 ml8_129 (ms8_hours).1 (ms8_hours).2 (me8_hours) ⟨rfl, rfl⟩ ⟨Nat.le_of_ble_eq_true rfl, Nat.le_of_ble_eq_true rfl⟩ (Nat.le_of_ble_eq_true rfl) (Nat.le_of_ble_eq_true rfl) (Or.inl rfl) (Nat.zero_le _) (Nat.zero_le _) rfl (s8_hours F S) (fun v3 S => ?_)
      refine sd_iconst (pc := 26) 1 d8_draw_26 ci_1 ?_
      refine sd_iadd (pc := 27) d8_draw_27 ?_
      refine sd_cVI (k2 := k8_row) (As := [.int l2, .int (v3 + 1)]) (rest := []) (b := 52) (ci := 7) (pc := 28) 278 (show sm_sq 52 = some (.inr 7) from rfl) (by decide) rfl d8_draw_28 ml8_278 (ms8_row).1 (ms8_row).2 (me8_row) ⟨rfl, rfl⟩ ⟨Nat.le_of_ble_eq_true rfl, Nat.le_of_ble_eq_true rfl⟩ (Nat.le_of_ble_eq_true rfl) (Nat.le_of_ble_eq_true rfl) (Or.inl rfl) (Nat.zero_le _) (Nat.zero_le _) rfl (s8_row F l2 (v3 + 1) S) (fun v4 S => ?_)
      refine sd_pop (pc := 31) d8_draw_31 rfl ?_
      refine sd_iload_n (pc := 32) d8_draw_32 rfl ?_
      refine sd_i2l (pc := 33) d8_draw_33 ?_
      refine sd_nl (fun v5 => ?_)
      refine sd_lstore_n (lf2 := [some (.ref 52), some (.int l1), some (.int l2), some (.long v5), none, none, none, none]) (pc := 34) d8_draw_34 (Nat.le_of_ble_eq_true rfl) rfl ?_
      refine sd_aload_n (pc := 35) d8_draw_35 rfl ?_
      refine sd_getR (pc := 36) 59 (show sm_sq 52 = some (.inr 7) from rfl) rfl fl8_32 rfl d8_draw_36 ?_
      refine sd_iconst (pc := 39) 0 d8_draw_39 ci_0 ?_
      refine sd_iald (pc := 40) (show sm_sq 59 = some (.inl (.int, 15)) from rfl) d8_draw_40 (fun v6 => ?_)
      refine sd_istore (lf2 := [some (.ref 52), some (.int l1), some (.int l2), some (.long v5), none, some (.int v6), none, none]) (pc := 41) d8_draw_41 (Nat.le_of_ble_eq_true rfl) rfl ?_
      refine sd_aload_n (pc := 43) d8_draw_43 rfl ?_
      refine sd_getR (pc := 44) 55 (show sm_sq 52 = some (.inr 7) from rfl) rfl fl8_20 rfl d8_draw_44 ?_
      refine sd_bipush (pc := 47) 40 d8_draw_47 cb_40 ?_
      refine sd_iload_n (pc := 49) d8_draw_49 rfl ?_
      refine sd_imul (pc := 50) d8_draw_50 ?_
      refine sd_iload (pc := 51) d8_draw_51 rfl ?_
      refine sd_iast (pc := 53) (show sm_sq 55 = some (.inl (.int, 240)) from rfl) d8_draw_53 (fun S => ?_)
      refine sd_iconst (pc := 54) 0 d8_draw_54 ci_0 ?_
      refine sd_istore (lf2 := [some (.ref 52), some (.int l1), some (.int l2), some (.long v5), none, some (.int v6), some (.int 0), none]) (pc := 55) d8_draw_55 (Nat.le_of_ble_eq_true rfl) rfl ?_
      exact sd_fg [true, false, true, true, true, true, true, true] rfl (s8_draw_57 F F l2 v5 v6 0 S)
set_option maxHeartbeats 4000000 in
set_option maxRecDepth 20000 in
theorem s0_undoneBits_4 {N : Nat} (F : Nat) : ∀ (f : Nat) (l1 : Int32) (l2 : Int32) (S : sm_t), sm_S (sm_jI N) k0_undoneBits 0 0 4 [some (.ref 22), some (.int l1), some (.int l2)] [] (sm_m N S) (x0_undoneBits_4 F f l1 l2 S) := by
  intro f
  induction f with
  | zero =>
    intro l1 l2 S
    exact sd_none
  | succ f ih =>
    intro l1 l2 S
    rw [x0_undoneBits_4]
    refine sd_iload_n (pc := 4) d0_undoneBits_4 rfl ?_
    refine sd_aload_n (pc := 5) d0_undoneBits_5 rfl ?_
    refine sd_getI (pc := 6) (show sm_sq 22 = some (.inr 0) from rfl) rfl fl0_17 d0_undoneBits_6 (fun v1 => ?_)
    refine sd_ic_ge (pc := 9) 40 d0_undoneBits_9 (by decide) (fun _ => ?_) (fun _ => ?_)
    · refine sd_iload_n (pc := 40) d0_undoneBits_40 rfl ?_
      exact sd_iret (pc := 41) d0_undoneBits_41 rfl (Nat.zero_le _) (Nat.zero_le _)
    · refine sd_iload_n (pc := 12) d0_undoneBits_12 rfl ?_
      refine sd_aload_n (pc := 13) d0_undoneBits_13 rfl ?_
      refine sd_getR (pc := 14) 23 (show sm_sq 22 = some (.inr 0) from rfl) rfl fl0_13 rfl d0_undoneBits_14 ?_
      refine sd_iload_n (pc := 17) d0_undoneBits_17 rfl ?_
      refine sd_aald (pc := 18) 6 (show sm_sq 23 = some (.inl (.object "TwoFliers$Sign", 12)) from rfl) rfl rfl (fun _ => rfl) (fun _ _ _ _ h => if_pos h) d0_undoneBits_18 (fun a2 => ?_)
      refine sd_on (fun h3 => ?_)
      refine sd_getI (pc := 19) h3 rfl fl0_40 d0_undoneBits_19 (fun v4 => ?_)
      refine sd_if_eq (pc := 22) 31 d0_undoneBits_22 (by decide) (fun _ => ?_) (fun _ => ?_)
      · refine sd_iconst (pc := 31) 0 d0_undoneBits_31 ci_0 ?_
        refine sd_ior (pc := 32) d0_undoneBits_32 ?_
        refine sd_ni (fun v5 => ?_)
        refine sd_istore_n (lf2 := [some (.ref 22), some (.int v5), some (.int l2)]) (pc := 33) d0_undoneBits_33 (Nat.le_of_ble_eq_true rfl) rfl ?_
        refine sd_iinc (lf2 := [some (.ref 22), some (.int v5), some (.int (l2 + 1))]) (pc := 34) d0_undoneBits_34 (Nat.le_of_ble_eq_true rfl) rfl ci_1 rfl ?_
        refine sd_goto (pc := 37) 4 d0_undoneBits_37 (by decide) ?_
        exact ih v5 (l2 + 1) S
      · refine sd_iconst (pc := 25) 1 d0_undoneBits_25 ci_1 ?_
        refine sd_iload_n (pc := 26) d0_undoneBits_26 rfl ?_
        refine sd_ishl (pc := 27) d0_undoneBits_27 ?_
        refine sd_goto (pc := 28) 32 d0_undoneBits_28 (by decide) ?_
        refine sd_ior (pc := 32) d0_undoneBits_32 ?_
        refine sd_ni (fun v6 => ?_)
        refine sd_istore_n (lf2 := [some (.ref 22), some (.int v6), some (.int l2)]) (pc := 33) d0_undoneBits_33 (Nat.le_of_ble_eq_true rfl) rfl ?_
        refine sd_iinc (lf2 := [some (.ref 22), some (.int v6), some (.int (l2 + 1))]) (pc := 34) d0_undoneBits_34 (Nat.le_of_ble_eq_true rfl) rfl ci_1 rfl ?_
        refine sd_goto (pc := 37) 4 d0_undoneBits_37 (by decide) ?_
        exact ih v6 (l2 + 1) S
set_option maxHeartbeats 4000000 in
set_option maxRecDepth 20000 in
theorem s0_undoneBits {N : Nat} (F : Nat) (S : sm_t) : sm_P (sm_jI N) k0_undoneBits [.ref 22] (sm_m N S) (x0_undoneBits F S) := by
  show sm_S (sm_jI N) k0_undoneBits 0 0 0 [some (.ref 22), none, none] [] (sm_m N S) (x0_undoneBits F S)
  unfold x0_undoneBits
  refine sd_iconst (pc := 0) 0 d0_undoneBits_0 ci_0 ?_
  refine sd_istore_n (lf2 := [some (.ref 22), some (.int 0), none]) (pc := 1) d0_undoneBits_1 (Nat.le_of_ble_eq_true rfl) rfl ?_
  refine sd_iconst (pc := 2) 0 d0_undoneBits_2 ci_0 ?_
  refine sd_istore_n (lf2 := [some (.ref 22), some (.int 0), some (.int 0)]) (pc := 3) d0_undoneBits_3 (Nat.le_of_ble_eq_true rfl) rfl ?_
  exact s0_undoneBits_4 F F 0 0 S
set_option maxHeartbeats 4000000 in
set_option maxRecDepth 20000 in
theorem s7_image_46 {N : Nat} (F : Nat) (l1 : Int32) (S : sm_t) : sm_S (sm_jI N) k7_image 0 0 46 [some (.ref 3), some (.int l1), none] [] (sm_m N S) (x7_image_46 F l1 S) := by
  unfold x7_image_46
  refine sd_aload_n (pc := 46) d7_image_46 rfl ?_
  refine sd_getR (pc := 47) 4 (show sm_sq 3 = some (.inr 6) from rfl) rfl fl7_11 rfl d7_image_47 ?_
  refine sd_iload_n (pc := 50) d7_image_50 rfl ?_
  refine sd_aald (pc := 51) 4 (show sm_sq 4 = some (.inl (.array .int, 6)) from rfl) rfl rfl (fun _ => rfl) (fun _ _ _ _ h => if_pos h) d7_image_51 (fun a1 => ?_)
  refine sd_bipush (pc := 52) 15 d7_image_52 cb_15 ?_
  refine sd_aload_n (pc := 54) d7_image_54 rfl ?_
  refine sd_getR (pc := 55) 22 (show sm_sq 3 = some (.inr 6) from rfl) rfl fl7_42 rfl d7_image_55 ?_
  refine sd_cVI (k2 := k0_undoneBits) (As := []) (rest := [.int 15, .ref a1]) (b := 22) (ci := 0) (pc := 58) 308 (show sm_sq 22 = some (.inr 0) from rfl) (by decide) rfl d7_image_58 ml7_308 (ms0_undoneBits).1 (ms0_undoneBits).2 (me0_undoneBits) ⟨rfl, rfl⟩ ⟨Nat.le_of_ble_eq_true rfl, Nat.le_of_ble_eq_true rfl⟩ (Nat.le_of_ble_eq_true rfl) (Nat.le_of_ble_eq_true rfl) (Or.inl rfl) (Nat.zero_le _) (Nat.zero_le _) rfl (s0_undoneBits F S) (fun v2 S => ?_)
  refine sd_an (fun n4 h3 => ?_)
  refine sd_iast (pc := 61) h3 d7_image_61 (fun S => ?_)
  refine sd_bipush (pc := 62) 16 d7_image_62 cb_16 ?_
  exact sd_iret (pc := 64) d7_image_64 rfl (Nat.zero_le _) (Nat.zero_le _)
set_option maxHeartbeats 4000000 in
set_option maxRecDepth 20000 in
theorem s7_image_18 {N : Nat} (F : Nat) : ∀ (f : Nat) (l1 : Int32) (l2 : Int32) (S : sm_t), sm_S (sm_jI N) k7_image 0 0 18 [some (.ref 3), some (.int l1), some (.int l2)] [] (sm_m N S) (x7_image_18 F f l1 l2 S) := by
  intro f
  induction f with
  | zero =>
    intro l1 l2 S
    exact sd_none
  | succ f ih =>
    intro l1 l2 S
    rw [x7_image_18]
    refine sd_iload_n (pc := 18) d7_image_18 rfl ?_
    refine sd_bipush (pc := 19) 15 d7_image_19 cb_15 ?_
    refine sd_ic_ge (pc := 21) 46 d7_image_21 (by decide) (fun _ => ?_) (fun _ => ?_)
    · exact sd_fg [true, true, false] rfl (s7_image_46 F l1 S)
    · refine sd_aload_n (pc := 24) d7_image_24 rfl ?_
      refine sd_getR (pc := 25) 4 (show sm_sq 3 = some (.inr 6) from rfl) rfl fl7_11 rfl d7_image_25 ?_
      refine sd_iload_n (pc := 28) d7_image_28 rfl ?_
      refine sd_aald (pc := 29) 4 (show sm_sq 4 = some (.inl (.array .int, 6)) from rfl) rfl rfl (fun _ => rfl) (fun _ _ _ _ h => if_pos h) d7_image_29 (fun a1 => ?_)
      refine sd_iload_n (pc := 30) d7_image_30 rfl ?_
      refine sd_aload_n (pc := 31) d7_image_31 rfl ?_
      refine sd_getR (pc := 32) 19 (show sm_sq 3 = some (.inr 6) from rfl) rfl fl7_37 rfl d7_image_32 ?_
      refine sd_iload_n (pc := 35) d7_image_35 rfl ?_
      refine sd_cVI (k2 := k3_number) (As := [.int l2]) (rest := [.int l2, .ref a1]) (b := 19) (ci := 2) (pc := 36) 147 (show sm_sq 19 = some (.inr 2) from rfl) (by decide) rfl d7_image_36 ml7_147 (ms3_number).1 (ms3_number).2 (me3_number) ⟨rfl, rfl⟩ ⟨Nat.le_of_ble_eq_true rfl, Nat.le_of_ble_eq_true rfl⟩ (Nat.le_of_ble_eq_true rfl) (Nat.le_of_ble_eq_true rfl) (Or.inl rfl) (Nat.zero_le _) (Nat.zero_le _) rfl (s3_number F l2 S) (fun v2 S => ?_)
      refine sd_an (fun n4 h3 => ?_)
      refine sd_iast (pc := 39) h3 d7_image_39 (fun S => ?_)
      refine sd_iinc (lf2 := [some (.ref 3), some (.int l1), some (.int (l2 + 1))]) (pc := 40) d7_image_40 (Nat.le_of_ble_eq_true rfl) rfl ci_1 rfl ?_
      refine sd_goto (pc := 43) 18 d7_image_43 (by decide) ?_
      exact ih l1 (l2 + 1) S
set_option maxHeartbeats 4000000 in
set_option maxRecDepth 20000 in
theorem s7_image {N : Nat} (F : Nat) (l1 : Int32) (S : sm_t) : sm_P (sm_jI N) k7_image [.ref 3, .int l1] (sm_m N S) (x7_image F l1 S) := by
  show sm_S (sm_jI N) k7_image 0 0 0 [some (.ref 3), some (.int l1), none] [] (sm_m N S) (x7_image F l1 S)
  unfold x7_image
  refine sd_iload_n (pc := 0) d7_image_0 rfl ?_
  refine sd_cSI (k2 := k7_isRow) (As := [.int l1]) (rest := []) (pc := 1) 88 d7_image_1 ml7_88 (ms7_isRow) (me7_isRow) ⟨rfl, rfl⟩ ⟨Nat.le_of_ble_eq_true rfl, Nat.le_of_ble_eq_true rfl⟩ (Nat.le_of_ble_eq_true rfl) (Nat.le_of_ble_eq_true rfl) (Or.inr rfl) (Nat.zero_le _) (Nat.zero_le _) rfl (s7_isRow F l1 S) (fun v1 S => ?_)
  refine sd_if_ne (pc := 4) 9 d7_image_4 (by decide) (fun _ => ?_) (fun _ => ?_)
  · refine sd_iconst (pc := 7) (-1) d7_image_7 ci_m1 ?_
    exact sd_iret (pc := 8) d7_image_8 rfl (Nat.zero_le _) (Nat.zero_le _)
  · refine sd_aload_n (pc := 9) d7_image_9 rfl ?_
    refine sd_iload_n (pc := 10) d7_image_10 rfl ?_
    refine sd_bipush (pc := 11) 16 d7_image_11 cb_16 ?_
    refine sd_cVV (k2 := k7_renew) (As := [.int l1, .int 16]) (rest := []) (b := 3) (ci := 6) (pc := 13) 96 (show sm_sq 3 = some (.inr 6) from rfl) (by decide) rfl d7_image_13 ml7_96 (ms7_renew).1 (ms7_renew).2 (me7_renew) ⟨rfl, rfl⟩ ⟨Nat.le_of_ble_eq_true rfl, Nat.le_of_ble_eq_true rfl⟩ (Nat.le_of_ble_eq_true rfl) (Nat.le_of_ble_eq_true rfl) rfl (Nat.zero_le _) (Nat.zero_le _) rfl (s7_renew F l1 16 S) (fun S => ?_)
    refine sd_iconst (pc := 16) 0 d7_image_16 ci_0 ?_
    refine sd_istore_n (lf2 := [some (.ref 3), some (.int l1), some (.int 0)]) (pc := 17) d7_image_17 (Nat.le_of_ble_eq_true rfl) rfl ?_
    exact s7_image_18 F F l1 0 S
set_option maxHeartbeats 4000000 in
set_option maxRecDepth 20000 in
theorem s8_undoneSet_4 {N : Nat} (F : Nat) : ∀ (f : Nat) (l1 : Int32) (l2 : Int32) (S : sm_t), sm_S (sm_jI N) k8_undoneSet 0 0 4 [some (.ref 52), some (.int l1), some (.int l2)] [] (sm_m N S) (x8_undoneSet_4 F f l1 l2 S) := by
  intro f
  induction f with
  | zero =>
    intro l1 l2 S
    exact sd_none
  | succ f ih =>
    intro l1 l2 S
    rw [x8_undoneSet_4]
    refine sd_iload_n (pc := 4) d8_undoneSet_4 rfl ?_
    refine sd_aload_n (pc := 5) d8_undoneSet_5 rfl ?_
    refine sd_getI (pc := 6) (show sm_sq 52 = some (.inr 7) from rfl) rfl fl8_161 d8_undoneSet_6 (fun v1 => ?_)
    refine sd_ic_ge (pc := 9) 29 d8_undoneSet_9 (by decide) (fun _ => ?_) (fun _ => ?_)
    · refine sd_iload_n (pc := 29) d8_undoneSet_29 rfl ?_
      exact sd_iret (pc := 30) d8_undoneSet_30 rfl (Nat.zero_le _) (Nat.zero_le _)
    · refine sd_iload_n (pc := 12) d8_undoneSet_12 rfl ?_
      refine sd_aload_n (pc := 13) d8_undoneSet_13 rfl ?_
      refine sd_iload_n (pc := 14) d8_undoneSet_14 rfl ?_
      refine sd_iconst (pc := 15) 4 d8_undoneSet_15 ci_4 ?_
      refine sd_cVI (k2 := k8_tell) (As := [.int l2, .int 4]) (rest := [.int l1]) (b := 52) (ci := 7) (pc := 16) 175 (show sm_sq 52 = some (.inr 7) from rfl) (by decide) rfl d8_undoneSet_16 ml8_175 (ms8_tell).1 (ms8_tell).2 (me8_tell) ⟨rfl, rfl⟩ ⟨Nat.le_of_ble_eq_true rfl, Nat.le_of_ble_eq_true rfl⟩ (Nat.le_of_ble_eq_true rfl) (Nat.le_of_ble_eq_true rfl) (Or.inl rfl) (Nat.zero_le _) (Nat.zero_le _) rfl (s8_tell F l2 4 S) (fun v2 S => ?_)
      refine sd_iload_n (pc := 19) d8_undoneSet_19 rfl ?_
      refine sd_ishl (pc := 20) d8_undoneSet_20 ?_
      refine sd_ior (pc := 21) d8_undoneSet_21 ?_
      refine sd_ni (fun v3 => ?_)
      refine sd_istore_n (lf2 := [some (.ref 52), some (.int v3), some (.int l2)]) (pc := 22) d8_undoneSet_22 (Nat.le_of_ble_eq_true rfl) rfl ?_
      refine sd_iinc (lf2 := [some (.ref 52), some (.int v3), some (.int (l2 + 1))]) (pc := 23) d8_undoneSet_23 (Nat.le_of_ble_eq_true rfl) rfl ci_1 rfl ?_
      refine sd_goto (pc := 26) 4 d8_undoneSet_26 (by decide) ?_
      exact ih v3 (l2 + 1) S
set_option maxHeartbeats 4000000 in
set_option maxRecDepth 20000 in
theorem s8_undoneSet {N : Nat} (F : Nat) (S : sm_t) : sm_P (sm_jI N) k8_undoneSet [.ref 52] (sm_m N S) (x8_undoneSet F S) := by
  show sm_S (sm_jI N) k8_undoneSet 0 0 0 [some (.ref 52), none, none] [] (sm_m N S) (x8_undoneSet F S)
  unfold x8_undoneSet
  refine sd_iconst (pc := 0) 0 d8_undoneSet_0 ci_0 ?_
  refine sd_istore_n (lf2 := [some (.ref 52), some (.int 0), none]) (pc := 1) d8_undoneSet_1 (Nat.le_of_ble_eq_true rfl) rfl ?_
  refine sd_iconst (pc := 2) 0 d8_undoneSet_2 ci_0 ?_
  refine sd_istore_n (lf2 := [some (.ref 52), some (.int 0), some (.int 0)]) (pc := 3) d8_undoneSet_3 (Nat.le_of_ble_eq_true rfl) rfl ?_
  exact s8_undoneSet_4 F F 0 0 S
set_option maxHeartbeats 4000000 in
set_option maxRecDepth 20000 in
theorem s8_image_48 {N : Nat} (F : Nat) (l1 : Int32) (S : sm_t) : sm_S (sm_jI N) k8_image 0 0 48 [some (.ref 52), some (.int l1), none] [] (sm_m N S) (x8_image_48 F l1 S) := by
  unfold x8_image_48
  refine sd_aload_n (pc := 48) d8_image_48 rfl ?_
  refine sd_getR (pc := 49) 55 (show sm_sq 52 = some (.inr 7) from rfl) rfl fl8_20 rfl d8_image_49 ?_
  refine sd_bipush (pc := 52) 40 d8_image_52 cb_40 ?_
  refine sd_iload_n (pc := 54) d8_image_54 rfl ?_
  refine sd_imul (pc := 55) d8_image_55 ?_
  refine sd_bipush (pc := 56) 15 d8_image_56 cb_15 ?_
  refine sd_iadd (pc := 58) d8_image_58 ?_
  refine sd_aload_n (pc := 59) d8_image_59 rfl ?_
  refine sd_cVI (k2 := k8_undoneSet) (As := []) (rest := [.int ((40 * l1) + 15), .ref 55]) (b := 52) (ci := 7) (pc := 60) 289 (show sm_sq 52 = some (.inr 7) from rfl) (by decide) rfl d8_image_60 ml8_289 (ms8_undoneSet).1 (ms8_undoneSet).2 (me8_undoneSet) ⟨rfl, rfl⟩ ⟨Nat.le_of_ble_eq_true rfl, Nat.le_of_ble_eq_true rfl⟩ (Nat.le_of_ble_eq_true rfl) (Nat.le_of_ble_eq_true rfl) (Or.inl rfl) (Nat.zero_le _) (Nat.zero_le _) rfl (s8_undoneSet F S) (fun v1 S => ?_)
  refine sd_iast (pc := 63) (show sm_sq 55 = some (.inl (.int, 240)) from rfl) d8_image_63 (fun S => ?_)
  refine sd_bipush (pc := 64) 16 d8_image_64 cb_16 ?_
  exact sd_iret (pc := 66) d8_image_66 rfl (Nat.zero_le _) (Nat.zero_le _)
set_option maxHeartbeats 4000000 in
set_option maxRecDepth 20000 in
theorem s8_image_19 {N : Nat} (F : Nat) : ∀ (f : Nat) (l1 : Int32) (l2 : Int32) (S : sm_t), sm_S (sm_jI N) k8_image 0 0 19 [some (.ref 52), some (.int l1), some (.int l2)] [] (sm_m N S) (x8_image_19 F f l1 l2 S) := by
  intro f
  induction f with
  | zero =>
    intro l1 l2 S
    exact sd_none
  | succ f ih =>
    intro l1 l2 S
    rw [x8_image_19]
    refine sd_iload_n (pc := 19) d8_image_19 rfl ?_
    refine sd_bipush (pc := 20) 15 d8_image_20 cb_15 ?_
    refine sd_ic_ge (pc := 22) 48 d8_image_22 (by decide) (fun _ => ?_) (fun _ => ?_)
    · exact sd_fg [true, true, false] rfl (s8_image_48 F l1 S)
    · refine sd_aload_n (pc := 25) d8_image_25 rfl ?_
      refine sd_getR (pc := 26) 55 (show sm_sq 52 = some (.inr 7) from rfl) rfl fl8_20 rfl d8_image_26 ?_
      refine sd_bipush (pc := 29) 40 d8_image_29 cb_40 ?_
      refine sd_iload_n (pc := 31) d8_image_31 rfl ?_
      refine sd_imul (pc := 32) d8_image_32 ?_
      refine sd_iload_n (pc := 33) d8_image_33 rfl ?_
      refine sd_iadd (pc := 34) d8_image_34 ?_
      refine sd_aload_n (pc := 35) d8_image_35 rfl ?_
      refine sd_getR (pc := 36) 59 (show sm_sq 52 = some (.inr 7) from rfl) rfl fl8_32 rfl d8_image_36 ?_
      refine sd_iload_n (pc := 39) d8_image_39 rfl ?_
      refine sd_iald (pc := 40) (show sm_sq 59 = some (.inl (.int, 15)) from rfl) d8_image_40 (fun v1 => ?_)
      refine sd_iast (pc := 41) (show sm_sq 55 = some (.inl (.int, 240)) from rfl) d8_image_41 (fun S => ?_)
      refine sd_iinc (lf2 := [some (.ref 52), some (.int l1), some (.int (l2 + 1))]) (pc := 42) d8_image_42 (Nat.le_of_ble_eq_true rfl) rfl ci_1 rfl ?_
      refine sd_goto (pc := 45) 19 d8_image_45 (by decide) ?_
      exact ih l1 (l2 + 1) S
set_option maxHeartbeats 4000000 in
set_option maxRecDepth 20000 in
theorem s8_image {N : Nat} (F : Nat) (l1 : Int32) (S : sm_t) : sm_P (sm_jI N) k8_image [.ref 52, .int l1] (sm_m N S) (x8_image F l1 S) := by
  show sm_S (sm_jI N) k8_image 0 0 0 [some (.ref 52), some (.int l1), none] [] (sm_m N S) (x8_image F l1 S)
  unfold x8_image
  refine sd_iload_n (pc := 0) d8_image_0 rfl ?_
  refine sd_cSI (k2 := k8_isRow) (As := [.int l1]) (rest := []) (pc := 1) 84 d8_image_1 ml8_84 (ms8_isRow) (me8_isRow) ⟨rfl, rfl⟩ ⟨Nat.le_of_ble_eq_true rfl, Nat.le_of_ble_eq_true rfl⟩ (Nat.le_of_ble_eq_true rfl) (Nat.le_of_ble_eq_true rfl) (Or.inr rfl) (Nat.zero_le _) (Nat.zero_le _) rfl (s8_isRow F l1 S) (fun v1 S => ?_)
  refine sd_if_ne (pc := 4) 9 d8_image_4 (by decide) (fun _ => ?_) (fun _ => ?_)
  · refine sd_iconst (pc := 7) (-1) d8_image_7 ci_m1 ?_
    exact sd_iret (pc := 8) d8_image_8 rfl (Nat.zero_le _) (Nat.zero_le _)
  · refine sd_aload_n (pc := 9) d8_image_9 rfl ?_
    refine sd_iload_n (pc := 10) d8_image_10 rfl ?_
    refine sd_bipush (pc := 11) 16 d8_image_11 cb_16 ?_
    refine sd_cVI (k2 := k8_row) (As := [.int l1, .int 16]) (rest := []) (b := 52) (ci := 7) (pc := 13) 278 (show sm_sq 52 = some (.inr 7) from rfl) (by decide) rfl d8_image_13 ml8_278 (ms8_row).1 (ms8_row).2 (me8_row) ⟨rfl, rfl⟩ ⟨Nat.le_of_ble_eq_true rfl, Nat.le_of_ble_eq_true rfl⟩ (Nat.le_of_ble_eq_true rfl) (Nat.le_of_ble_eq_true rfl) (Or.inl rfl) (Nat.zero_le _) (Nat.zero_le _) rfl (s8_row F l1 16 S) (fun v2 S => ?_)
    refine sd_pop (pc := 16) d8_image_16 rfl ?_
    refine sd_iconst (pc := 17) 0 d8_image_17 ci_0 ?_
    refine sd_istore_n (lf2 := [some (.ref 52), some (.int l1), some (.int 0)]) (pc := 18) d8_image_18 (Nat.le_of_ble_eq_true rfl) rfl ?_
    exact s8_image_19 F F l1 0 S
set_option maxHeartbeats 4000000 in
set_option maxRecDepth 20000 in
theorem s3_couldTell_114 {N : Nat} (F : Nat) (c73 : Nat → Int32 → Int32 → Int32 → sm_t → Option (Int32 × sm_t)) (hc73 : ∀ (l0 : Nat) (l1 : Int32) (l2 : Int32) (l3 : Int32) (S : sm_t), sm_S (sm_jI N) k3_couldTell 0 0 73 [some (.ref l0), some (.int l1), some (.int l2), some (.int l3), none] [] (sm_m N S) (c73 l0 l1 l2 l3 S)) (l0 : Nat) (l1 : Int32) (l2 : Int32) (l3 : Int32) (l4 : Int32) (S : sm_t) : sm_S (sm_jI N) k3_couldTell 0 0 114 [some (.ref l0), some (.int l1), some (.int l2), some (.int l3), some (.int l4)] [] (sm_m N S) (x3_couldTell_114 F c73 l0 l1 l2 l3 l4 S) := by
  unfold x3_couldTell_114
  refine sd_iload_n (pc := 114) d3_couldTell_114 rfl ?_
  refine sd_iload_n (pc := 115) d3_couldTell_115 rfl ?_
  refine sd_iload_n (pc := 116) d3_couldTell_116 rfl ?_
  refine sd_ic_gt (pc := 117) 125 d3_couldTell_117 (by decide) (fun _ => ?_) (fun _ => ?_)
  · refine sd_iconst (pc := 125) 0 d3_couldTell_125 ci_0 ?_
    refine sd_iadd (pc := 126) d3_couldTell_126 ?_
    refine sd_ni (fun v1 => ?_)
    refine sd_istore_n (lf2 := [some (.ref l0), some (.int l1), some (.int v1), some (.int l3), some (.int l4)]) (pc := 127) d3_couldTell_127 (Nat.le_of_ble_eq_true rfl) rfl ?_
    refine sd_iinc (lf2 := [some (.ref l0), some (.int l1), some (.int v1), some (.int (l3 + 1)), some (.int l4)]) (pc := 128) d3_couldTell_128 (Nat.le_of_ble_eq_true rfl) rfl ci_1 rfl ?_
    refine sd_goto (pc := 131) 73 d3_couldTell_131 (by decide) ?_
    exact sd_fg [true, true, true, true, false] rfl (hc73 l0 l1 v1 (l3 + 1) S)
  · refine sd_iload (pc := 120) d3_couldTell_120 rfl ?_
    refine sd_goto (pc := 122) 126 d3_couldTell_122 (by decide) ?_
    refine sd_iadd (pc := 126) d3_couldTell_126 ?_
    refine sd_ni (fun v2 => ?_)
    refine sd_istore_n (lf2 := [some (.ref l0), some (.int l1), some (.int v2), some (.int l3), some (.int l4)]) (pc := 127) d3_couldTell_127 (Nat.le_of_ble_eq_true rfl) rfl ?_
    refine sd_iinc (lf2 := [some (.ref l0), some (.int l1), some (.int v2), some (.int (l3 + 1)), some (.int l4)]) (pc := 128) d3_couldTell_128 (Nat.le_of_ble_eq_true rfl) rfl ci_1 rfl ?_
    refine sd_goto (pc := 131) 73 d3_couldTell_131 (by decide) ?_
    exact sd_fg [true, true, true, true, false] rfl (hc73 l0 l1 v2 (l3 + 1) S)
set_option maxHeartbeats 4000000 in
set_option maxRecDepth 20000 in
theorem s3_couldTell_134 {N : Nat} (F : Nat) (l2 : Int32) (S : sm_t) : sm_S (sm_jI N) k3_couldTell 0 0 134 [none, none, some (.int l2), none, none] [] (sm_m N S) (x3_couldTell_134 F l2 S) := by
  unfold x3_couldTell_134
  refine sd_iload_n (pc := 134) d3_couldTell_134 rfl ?_
  refine sd_if_le (pc := 135) 142 d3_couldTell_135 (by decide) (fun _ => ?_) (fun _ => ?_)
  · refine sd_iconst (pc := 142) 0 d3_couldTell_142 ci_0 ?_
    exact sd_zret (pc := 143) d3_couldTell_143 (by decide) (Nat.zero_le _) (Nat.zero_le _)
  · refine sd_iconst (pc := 138) 1 d3_couldTell_138 ci_1 ?_
    refine sd_goto (pc := 139) 143 d3_couldTell_139 (by decide) ?_
    exact sd_zret (pc := 143) d3_couldTell_143 (by decide) (Nat.zero_le _) (Nat.zero_le _)
set_option maxHeartbeats 4000000 in
set_option maxRecDepth 20000 in
theorem s3_couldTell_73 {N : Nat} (F : Nat) : ∀ (f : Nat) (l0 : Nat) (l1 : Int32) (l2 : Int32) (l3 : Int32) (S : sm_t), sm_S (sm_jI N) k3_couldTell 0 0 73 [some (.ref l0), some (.int l1), some (.int l2), some (.int l3), none] [] (sm_m N S) (x3_couldTell_73 F f l0 l1 l2 l3 S) := by
  intro f
  induction f with
  | zero =>
    intro l0 l1 l2 l3 S
    exact sd_none
  | succ f ih =>
    intro l0 l1 l2 l3 S
    rw [x3_couldTell_73]
    refine sd_iload_n (pc := 73) d3_couldTell_73 rfl ?_
    refine sd_bipush (pc := 74) 6 d3_couldTell_74 cb_6 ?_
    refine sd_ic_gt (pc := 76) 134 d3_couldTell_76 (by decide) (fun _ => ?_) (fun _ => ?_)
    · exact sd_fg [false, false, true, false, true] rfl (s3_couldTell_134 F l2 S)
    · refine sd_aload_n (pc := 79) d3_couldTell_79 rfl ?_
      refine sd_bipush (pc := 80) 8 d3_couldTell_80 cb_8 ?_
      refine sd_iload_n (pc := 82) d3_couldTell_82 rfl ?_
      refine sd_iadd (pc := 83) d3_couldTell_83 ?_
      refine sd_an (fun n2 h1 => ?_)
      refine sd_iald (pc := 84) h1 d3_couldTell_84 (fun v3 => ?_)
      refine sd_istore (lf2 := [some (.ref l0), some (.int l1), some (.int l2), some (.int l3), some (.int v3)]) (pc := 85) d3_couldTell_85 (Nat.le_of_ble_eq_true rfl) rfl ?_
      refine sd_iload_n (pc := 87) d3_couldTell_87 rfl ?_
      refine sd_iload_n (pc := 88) d3_couldTell_88 rfl ?_
      refine sd_ic_gt (pc := 89) 105 d3_couldTell_89 (by decide) (fun _ => ?_) (fun _ => ?_)
      · refine sd_iload (pc := 105) d3_couldTell_105 rfl ?_
        refine sd_bipush (pc := 107) (-9) d3_couldTell_107 cb_m9 ?_
        refine sd_ic_eq (pc := 109) 114 d3_couldTell_109 (by decide) (fun _ => ?_) (fun _ => ?_)
        · exact s3_couldTell_114 F _ ih l0 l1 l2 l3 v3 S
        · refine sd_iconst (pc := 112) 0 d3_couldTell_112 ci_0 ?_
          exact sd_zret (pc := 113) d3_couldTell_113 (by decide) (Nat.zero_le _) (Nat.zero_le _)
      · refine sd_iload (pc := 92) d3_couldTell_92 rfl ?_
        refine sd_bipush (pc := 94) 9 d3_couldTell_94 cb_9 ?_
        refine sd_cNI (k2 := k7_isWithin) (As := [.int v3, .int 9]) (rest := []) (pc := 96) 43 "TwoFliers" d3_couldTell_96 ml3_43 (ms7_isWithin) (me7_isWithin) ⟨rfl, rfl⟩ ⟨Nat.le_of_ble_eq_true rfl, Nat.le_of_ble_eq_true rfl⟩ (Nat.le_of_ble_eq_true rfl) (Nat.le_of_ble_eq_true rfl) (Or.inr rfl) (Nat.zero_le _) (Nat.zero_le _) rfl (s7_isWithin F v3 9 S) (fun v4 S => ?_)
        refine sd_if_ne (pc := 99) 114 d3_couldTell_99 (by decide) (fun _ => ?_) (fun _ => ?_)
        · refine sd_goto (pc := 102) 112 d3_couldTell_102 (by decide) ?_
          refine sd_iconst (pc := 112) 0 d3_couldTell_112 ci_0 ?_
          exact sd_zret (pc := 113) d3_couldTell_113 (by decide) (Nat.zero_le _) (Nat.zero_le _)
        · exact s3_couldTell_114 F _ ih l0 l1 l2 l3 v3 S
set_option maxHeartbeats 4000000 in
set_option maxRecDepth 20000 in
theorem s3_couldTell_28 {N : Nat} (F : Nat) : ∀ (f : Nat) (l0 : Nat) (l1 : Int32) (l2 : Int32) (S : sm_t), sm_S (sm_jI N) k3_couldTell 0 0 28 [some (.ref l0), some (.int l1), some (.int l2), none, none] [] (sm_m N S) (x3_couldTell_28 F f l0 l1 l2 S) := by
  intro f
  induction f with
  | zero =>
    intro l0 l1 l2 S
    exact sd_none
  | succ f ih =>
    intro l0 l1 l2 S
    rw [x3_couldTell_28]
    refine sd_iload_n (pc := 28) d3_couldTell_28 rfl ?_
    refine sd_bipush (pc := 29) 6 d3_couldTell_29 cb_6 ?_
    refine sd_ic_ge (pc := 31) 69 d3_couldTell_31 (by decide) (fun _ => ?_) (fun _ => ?_)
    · refine sd_iconst (pc := 69) 0 d3_couldTell_69 ci_0 ?_
      refine sd_istore_n (lf2 := [some (.ref l0), some (.int l1), some (.int 0), none, none]) (pc := 70) d3_couldTell_70 (Nat.le_of_ble_eq_true rfl) rfl ?_
      refine sd_iconst (pc := 71) 0 d3_couldTell_71 ci_0 ?_
      refine sd_istore_n (lf2 := [some (.ref l0), some (.int l1), some (.int 0), some (.int 0), none]) (pc := 72) d3_couldTell_72 (Nat.le_of_ble_eq_true rfl) rfl ?_
      exact s3_couldTell_73 F F l0 l1 0 0 S
    · refine sd_aload_n (pc := 34) d3_couldTell_34 rfl ?_
      refine sd_iconst (pc := 35) 2 d3_couldTell_35 ci_2 ?_
      refine sd_iload_n (pc := 36) d3_couldTell_36 rfl ?_
      refine sd_iadd (pc := 37) d3_couldTell_37 ?_
      refine sd_an (fun n2 h1 => ?_)
      refine sd_iald (pc := 38) h1 d3_couldTell_38 (fun v3 => ?_)
      refine sd_istore_n (lf2 := [some (.ref l0), some (.int l1), some (.int l2), some (.int v3), none]) (pc := 39) d3_couldTell_39 (Nat.le_of_ble_eq_true rfl) rfl ?_
      refine sd_iload_n (pc := 40) d3_couldTell_40 rfl ?_
      refine sd_iload_n (pc := 41) d3_couldTell_41 rfl ?_
      refine sd_ic_ge (pc := 42) 55 d3_couldTell_42 (by decide) (fun _ => ?_) (fun _ => ?_)
      · refine sd_iload_n (pc := 55) d3_couldTell_55 rfl ?_
        refine sd_bipush (pc := 56) (-9) d3_couldTell_56 cb_m9 ?_
        refine sd_ic_eq (pc := 58) 63 d3_couldTell_58 (by decide) (fun _ => ?_) (fun _ => ?_)
        · refine sd_iinc (lf2 := [some (.ref l0), some (.int l1), some (.int (l2 + 1)), some (.int v3), none]) (pc := 63) d3_couldTell_63 (Nat.le_of_ble_eq_true rfl) rfl ci_1 rfl ?_
          refine sd_goto (pc := 66) 28 d3_couldTell_66 (by decide) ?_
          exact sd_fg [true, true, true, false, true] rfl (ih l0 l1 (l2 + 1) S)
        · refine sd_iconst (pc := 61) 0 d3_couldTell_61 ci_0 ?_
          exact sd_zret (pc := 62) d3_couldTell_62 (by decide) (Nat.zero_le _) (Nat.zero_le _)
      · refine sd_iload_n (pc := 45) d3_couldTell_45 rfl ?_
        refine sd_cSI (k2 := k1_isSide) (As := [.int v3]) (rest := []) (pc := 46) 47 d3_couldTell_46 ml3_47 (ms1_isSide) (me1_isSide) ⟨rfl, rfl⟩ ⟨Nat.le_of_ble_eq_true rfl, Nat.le_of_ble_eq_true rfl⟩ (Nat.le_of_ble_eq_true rfl) (Nat.le_of_ble_eq_true rfl) (Or.inr rfl) (Nat.zero_le _) (Nat.zero_le _) rfl (s1_isSide F v3 S) (fun v4 S => ?_)
        refine sd_if_ne (pc := 49) 63 d3_couldTell_49 (by decide) (fun _ => ?_) (fun _ => ?_)
        · refine sd_goto (pc := 52) 61 d3_couldTell_52 (by decide) ?_
          refine sd_iconst (pc := 61) 0 d3_couldTell_61 ci_0 ?_
          exact sd_zret (pc := 62) d3_couldTell_62 (by decide) (Nat.zero_le _) (Nat.zero_le _)
        · refine sd_iinc (lf2 := [some (.ref l0), some (.int l1), some (.int (l2 + 1)), some (.int v3), none]) (pc := 63) d3_couldTell_63 (Nat.le_of_ble_eq_true rfl) rfl ci_1 rfl ?_
          refine sd_goto (pc := 66) 28 d3_couldTell_66 (by decide) ?_
          exact sd_fg [true, true, true, false, true] rfl (ih l0 l1 (l2 + 1) S)
set_option maxHeartbeats 4000000 in
set_option maxRecDepth 20000 in
theorem s3_couldTell {N : Nat} (F : Nat) (l0 : Nat) (S : sm_t) : sm_P (sm_jI N) k3_couldTell [.ref l0] (sm_m N S) (x3_couldTell F l0 S) := by
  show sm_S (sm_jI N) k3_couldTell 0 0 0 [some (.ref l0), none, none, none, none] [] (sm_m N S) (x3_couldTell F l0 S)
  unfold x3_couldTell
  refine sd_aload_n (pc := 0) d3_couldTell_0 rfl ?_
  refine sd_iconst (pc := 1) 0 d3_couldTell_1 ci_0 ?_
  refine sd_an (fun n2 h1 => ?_)
  refine sd_iald (pc := 2) h1 d3_couldTell_2 (fun v3 => ?_)
  refine sd_cSI (k2 := k1_isCell) (As := [.int v3]) (rest := []) (pc := 3) 37 d3_couldTell_3 ml3_37 (ms1_isCell) (me1_isCell) ⟨rfl, rfl⟩ ⟨Nat.le_of_ble_eq_true rfl, Nat.le_of_ble_eq_true rfl⟩ (Nat.le_of_ble_eq_true rfl) (Nat.le_of_ble_eq_true rfl) (Or.inr rfl) (Nat.zero_le _) (Nat.zero_le _) rfl (s1_isCell F v3 S) (fun v4 S => ?_)
  refine sd_if_eq (pc := 6) 20 d3_couldTell_6 (by decide) (fun _ => ?_) (fun _ => ?_)
  · refine sd_iconst (pc := 20) 0 d3_couldTell_20 ci_0 ?_
    exact sd_zret (pc := 21) d3_couldTell_21 (by decide) (Nat.zero_le _) (Nat.zero_le _)
  · refine sd_aload_n (pc := 9) d3_couldTell_9 rfl ?_
    refine sd_iconst (pc := 10) 1 d3_couldTell_10 ci_1 ?_
    refine sd_iald (pc := 11) h1 d3_couldTell_11 (fun v5 => ?_)
    refine sd_bipush (pc := 12) 6 d3_couldTell_12 cb_6 ?_
    refine sd_cNI (k2 := k7_isWithin) (As := [.int v5, .int 6]) (rest := []) (pc := 14) 43 "TwoFliers" d3_couldTell_14 ml3_43 (ms7_isWithin) (me7_isWithin) ⟨rfl, rfl⟩ ⟨Nat.le_of_ble_eq_true rfl, Nat.le_of_ble_eq_true rfl⟩ (Nat.le_of_ble_eq_true rfl) (Nat.le_of_ble_eq_true rfl) (Or.inr rfl) (Nat.zero_le _) (Nat.zero_le _) rfl (s7_isWithin F v5 6 S) (fun v6 S => ?_)
    refine sd_if_ne (pc := 17) 22 d3_couldTell_17 (by decide) (fun _ => ?_) (fun _ => ?_)
    · refine sd_iconst (pc := 20) 0 d3_couldTell_20 ci_0 ?_
      exact sd_zret (pc := 21) d3_couldTell_21 (by decide) (Nat.zero_le _) (Nat.zero_le _)
    · refine sd_aload_n (pc := 22) d3_couldTell_22 rfl ?_
      refine sd_iconst (pc := 23) 1 d3_couldTell_23 ci_1 ?_
      refine sd_iald (pc := 24) h1 d3_couldTell_24 (fun v7 => ?_)
      refine sd_istore_n (lf2 := [some (.ref l0), some (.int v7), none, none, none]) (pc := 25) d3_couldTell_25 (Nat.le_of_ble_eq_true rfl) rfl ?_
      refine sd_iconst (pc := 26) 0 d3_couldTell_26 ci_0 ?_
      refine sd_istore_n (lf2 := [some (.ref l0), some (.int v7), some (.int 0), none, none]) (pc := 27) d3_couldTell_27 (Nat.le_of_ble_eq_true rfl) rfl ?_
      exact s3_couldTell_28 F F l0 v7 0 S
