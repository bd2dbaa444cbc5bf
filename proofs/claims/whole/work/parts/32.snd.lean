set_option maxHeartbeats 4000000 in
set_option maxRecDepth 20000 in
theorem s8_newSign_80 {N : Nat} (F : Nat) (l5 : Int32) (t1 : Int32) (t2 : Int32) (S : sm_t) : sm_S (sm_jI N) k8_newSign 0 0 80 [some (.ref 52), none, none, none, none, some (.int l5)] [.int t2, .int t1, .ref 63] (sm_m N S) (x8_newSign_80 F l5 t1 t2 S) := by
  unfold x8_newSign_80
  refine sd_iast (pc := 80) (show sm_sq 63 = some (.inl (.int, 60)) from rfl) d8_newSign_80 (fun S => ?_)
  refine sd_aload_n (pc := 81) d8_newSign_81 rfl ?_
  refine sd_getR (pc := 82) 63 (show sm_sq 52 = some (.inr 7) from rfl) rfl fl8_45 rfl d8_newSign_82 ?_
  refine sd_iload (pc := 85) d8_newSign_85 rfl ?_
  refine sd_iconst (pc := 87) 4 d8_newSign_87 ci_4 ?_
  refine sd_iadd (pc := 88) d8_newSign_88 ?_
  refine sd_iconst (pc := 89) 0 d8_newSign_89 ci_0 ?_
  refine sd_iast (pc := 90) (show sm_sq 63 = some (.inl (.int, 60)) from rfl) d8_newSign_90 (fun S => ?_)
  refine sd_aload_n (pc := 91) d8_newSign_91 rfl ?_
  refine sd_dup (pc := 92) d8_newSign_92 rfl ?_
  refine sd_getI (pc := 93) (show sm_sq 52 = some (.inr 7) from rfl) rfl fl8_161 d8_newSign_93 (fun v1 => ?_)
  refine sd_iconst (pc := 96) 1 d8_newSign_96 ci_1 ?_
  refine sd_iadd (pc := 97) d8_newSign_97 ?_
  refine sd_putI (pc := 98) (show sm_sq 52 = some (.inr 7) from rfl) rfl fl8_161 rfl d8_newSign_98 (fun S => ?_)
  refine sd_aload_n (pc := 101) d8_newSign_101 rfl ?_
  refine sd_getI (pc := 102) (show sm_sq 52 = some (.inr 7) from rfl) rfl fl8_161 d8_newSign_102 (fun v2 => ?_)
  refine sd_iconst (pc := 105) 1 d8_newSign_105 ci_1 ?_
  refine sd_isub (pc := 106) d8_newSign_106 ?_
  exact sd_iret (pc := 107) d8_newSign_107 rfl (Nat.zero_le _) (Nat.zero_le _)
set_option maxHeartbeats 4000000 in
set_option maxRecDepth 20000 in
theorem s8_newSign_74 {N : Nat} (F : Nat) (l5 : Int32) (t1 : Int32) (S : sm_t) : sm_S (sm_jI N) k8_newSign 0 0 74 [some (.ref 52), none, none, none, none, some (.int l5)] [.int t1, .ref 63] (sm_m N S) (x8_newSign_74 F l5 t1 S) := by
  unfold x8_newSign_74
  refine sd_iconst (pc := 74) 0 d8_newSign_74 ci_0 ?_
  refine sd_goto (pc := 75) 80 d8_newSign_75 (by decide) ?_
  exact s8_newSign_80 F l5 t1 0 S
set_option maxHeartbeats 4000000 in
set_option maxRecDepth 20000 in
theorem s8_newSign_56 {N : Nat} (F : Nat) (l1 : Int32) (l4 : Int32) (l5 : Int32) (t1 : Int32) (t2 : Int32) (S : sm_t) : sm_S (sm_jI N) k8_newSign 0 0 56 [some (.ref 52), some (.int l1), none, none, some (.int l4), some (.int l5)] [.int t2, .int t1, .ref 63] (sm_m N S) (x8_newSign_56 F l1 l4 l5 t1 t2 S) := by
  unfold x8_newSign_56
  refine sd_iast (pc := 56) (show sm_sq 63 = some (.inl (.int, 60)) from rfl) d8_newSign_56 (fun S => ?_)
  refine sd_aload_n (pc := 57) d8_newSign_57 rfl ?_
  refine sd_getR (pc := 58) 63 (show sm_sq 52 = some (.inr 7) from rfl) rfl fl8_45 rfl d8_newSign_58 ?_
  refine sd_iload (pc := 61) d8_newSign_61 rfl ?_
  refine sd_iconst (pc := 63) 3 d8_newSign_63 ci_3 ?_
  refine sd_iadd (pc := 64) d8_newSign_64 ?_
  refine sd_iload_n (pc := 65) d8_newSign_65 rfl ?_
  refine sd_if_eq (pc := 66) 74 d8_newSign_66 (by decide) (fun _ => ?_) (fun _ => ?_)
  · exact sd_fg [true, false, true, true, false, true] rfl (s8_newSign_74 F l5 (l5 + 3) S)
  · refine sd_iload_n (pc := 69) d8_newSign_69 rfl ?_
    refine sd_iconst (pc := 70) 3 d8_newSign_70 ci_3 ?_
    refine sd_ic_ne (pc := 71) 78 d8_newSign_71 (by decide) (fun _ => ?_) (fun _ => ?_)
    · exact sd_fg [true, false, true, true, false, true] rfl (s8_newSign_74 F l5 (l5 + 3) S)
    · refine sd_iload (pc := 78) d8_newSign_78 rfl ?_
      exact sd_fg [true, false, true, true, false, true] rfl (s8_newSign_80 F l5 (l5 + 3) l4 S)
set_option maxHeartbeats 4000000 in
set_option maxRecDepth 20000 in
theorem s8_newSign_51 {N : Nat} (F : Nat) (l1 : Int32) (l4 : Int32) (l5 : Int32) (t1 : Int32) (S : sm_t) : sm_S (sm_jI N) k8_newSign 0 0 51 [some (.ref 52), some (.int l1), none, none, some (.int l4), some (.int l5)] [.int t1, .ref 63] (sm_m N S) (x8_newSign_51 F l1 l4 l5 t1 S) := by
  unfold x8_newSign_51
  refine sd_iconst (pc := 51) 0 d8_newSign_51 ci_0 ?_
  refine sd_goto (pc := 52) 56 d8_newSign_52 (by decide) ?_
  exact s8_newSign_56 F l1 l4 l5 t1 0 S
set_option maxHeartbeats 4000000 in
set_option maxRecDepth 20000 in
theorem s8_newSign_33 {N : Nat} (F : Nat) (l1 : Int32) (l3 : Int32) (l4 : Int32) (l5 : Int32) (t1 : Int32) (t2 : Int32) (S : sm_t) : sm_S (sm_jI N) k8_newSign 0 0 33 [some (.ref 52), some (.int l1), none, some (.int l3), some (.int l4), some (.int l5)] [.int t2, .int t1, .ref 63] (sm_m N S) (x8_newSign_33 F l1 l3 l4 l5 t1 t2 S) := by
  unfold x8_newSign_33
  refine sd_iast (pc := 33) (show sm_sq 63 = some (.inl (.int, 60)) from rfl) d8_newSign_33 (fun S => ?_)
  refine sd_aload_n (pc := 34) d8_newSign_34 rfl ?_
  refine sd_getR (pc := 35) 63 (show sm_sq 52 = some (.inr 7) from rfl) rfl fl8_45 rfl d8_newSign_35 ?_
  refine sd_iload (pc := 38) d8_newSign_38 rfl ?_
  refine sd_iconst (pc := 40) 2 d8_newSign_40 ci_2 ?_
  refine sd_iadd (pc := 41) d8_newSign_41 ?_
  refine sd_iload_n (pc := 42) d8_newSign_42 rfl ?_
  refine sd_if_eq (pc := 43) 51 d8_newSign_43 (by decide) (fun _ => ?_) (fun _ => ?_)
  · exact sd_fg [true, true, true, false, true, true] rfl (s8_newSign_51 F l1 l4 l5 (l5 + 2) S)
  · refine sd_iload_n (pc := 46) d8_newSign_46 rfl ?_
    refine sd_iconst (pc := 47) 3 d8_newSign_47 ci_3 ?_
    refine sd_ic_ne (pc := 48) 55 d8_newSign_48 (by decide) (fun _ => ?_) (fun _ => ?_)
    · exact sd_fg [true, true, true, false, true, true] rfl (s8_newSign_51 F l1 l4 l5 (l5 + 2) S)
    · refine sd_iload_n (pc := 55) d8_newSign_55 rfl ?_
      exact sd_fg [true, true, true, false, true, true] rfl (s8_newSign_56 F l1 l4 l5 (l5 + 2) l3 S)
set_option maxHeartbeats 4000000 in
set_option maxRecDepth 20000 in
theorem s8_newSign {N : Nat} (F : Nat) (l1 : Int32) (l2 : Int32) (l3 : Int32) (l4 : Int32) (S : sm_t) : sm_P (sm_jI N) k8_newSign [.ref 52, .int l1, .int l2, .int l3, .int l4] (sm_m N S) (x8_newSign F l1 l2 l3 l4 S) := by
  show sm_S (sm_jI N) k8_newSign 0 0 0 [some (.ref 52), some (.int l1), some (.int l2), some (.int l3), some (.int l4), none] [] (sm_m N S) (x8_newSign F l1 l2 l3 l4 S)
  unfold x8_newSign
  refine sd_iconst (pc := 0) 5 d8_newSign_0 ci_5 ?_
  refine sd_aload_n (pc := 1) d8_newSign_1 rfl ?_
  refine sd_getI (pc := 2) (show sm_sq 52 = some (.inr 7) from rfl) rfl fl8_161 d8_newSign_2 (fun v1 => ?_)
  refine sd_imul (pc := 5) d8_newSign_5 ?_
  refine sd_ni (fun v2 => ?_)
  refine sd_istore (lf2 := [some (.ref 52), some (.int l1), some (.int l2), some (.int l3), some (.int l4), some (.int v2)]) (pc := 6) d8_newSign_6 (Nat.le_of_ble_eq_true rfl) rfl ?_
  refine sd_aload_n (pc := 8) d8_newSign_8 rfl ?_
  refine sd_getR (pc := 9) 63 (show sm_sq 52 = some (.inr 7) from rfl) rfl fl8_45 rfl d8_newSign_9 ?_
  refine sd_iload (pc := 12) d8_newSign_12 rfl ?_
  refine sd_iload_n (pc := 14) d8_newSign_14 rfl ?_
  refine sd_iast (pc := 15) (show sm_sq 63 = some (.inl (.int, 60)) from rfl) d8_newSign_15 (fun S => ?_)
  refine sd_aload_n (pc := 16) d8_newSign_16 rfl ?_
  refine sd_getR (pc := 17) 63 (show sm_sq 52 = some (.inr 7) from rfl) rfl fl8_45 rfl d8_newSign_17 ?_
  refine sd_iload (pc := 20) d8_newSign_20 rfl ?_
  refine sd_iconst (pc := 22) 1 d8_newSign_22 ci_1 ?_
  refine sd_iadd (pc := 23) d8_newSign_23 ?_
  refine sd_iload_n (pc := 24) d8_newSign_24 rfl ?_
  refine sd_if_ne (pc := 25) 32 d8_newSign_25 (by decide) (fun _ => ?_) (fun _ => ?_)
  · refine sd_iconst (pc := 28) 0 d8_newSign_28 ci_0 ?_
    refine sd_goto (pc := 29) 33 d8_newSign_29 (by decide) ?_
    exact sd_fg [true, true, false, true, true, true] rfl (s8_newSign_33 F l1 l3 l4 v2 (v2 + 1) 0 S)
  · refine sd_iload_n (pc := 32) d8_newSign_32 rfl ?_
    exact sd_fg [true, true, false, true, true, true] rfl (s8_newSign_33 F l1 l3 l4 v2 (v2 + 1) l2 S)
set_option maxHeartbeats 4000000 in
set_option maxRecDepth 20000 in
theorem s8_sign {N : Nat} (F : Nat) (l1 : Int32) (l2 : Int32) (l3 : Int32) (l4 : Int32) (S : sm_t) : sm_P (sm_jI N) k8_sign [.ref 52, .int l1, .int l2, .int l3, .int l4] (sm_m N S) (x8_sign F l1 l2 l3 l4 S) := by
  show sm_S (sm_jI N) k8_sign 0 0 0 [some (.ref 52), some (.int l1), some (.int l2), some (.int l3), some (.int l4)] [] (sm_m N S) (x8_sign F l1 l2 l3 l4 S)
  unfold x8_sign
  refine sd_iload_n (pc := 0) d8_sign_0 rfl ?_
  refine sd_iload_n (pc := 1) d8_sign_1 rfl ?_
  refine sd_iload_n (pc := 2) d8_sign_2 rfl ?_
  refine sd_iload (pc := 3) d8_sign_3 rfl ?_
  refine sd_cSI (k2 := k8_isGood) (As := [.int l1, .int l2, .int l3, .int l4]) (rest := []) (pc := 5) 164 d8_sign_5 ml8_164 (ms8_isGood) (me8_isGood) ⟨rfl, rfl⟩ ⟨Nat.le_of_ble_eq_true rfl, Nat.le_of_ble_eq_true rfl⟩ (Nat.le_of_ble_eq_true rfl) (Nat.le_of_ble_eq_true rfl) (Or.inr rfl) (Nat.zero_le _) (Nat.zero_le _) rfl (s8_isGood F l1 l2 l3 l4 S) (fun v1 S => ?_)
  refine sd_if_ne (pc := 8) 15 d8_sign_8 (by decide) (fun _ => ?_) (fun _ => ?_)
  · refine sd_iconst (pc := 11) (-1) d8_sign_11 ci_m1 ?_
    refine sd_goto (pc := 12) 38 d8_sign_12 (by decide) ?_
    exact sd_iret (pc := 38) d8_sign_38 rfl (Nat.zero_le _) (Nat.zero_le _)
  · refine sd_aload_n (pc := 15) d8_sign_15 rfl ?_
    refine sd_getI (pc := 16) (show sm_sq 52 = some (.inr 7) from rfl) rfl fl8_161 d8_sign_16 (fun v2 => ?_)
    refine sd_bipush (pc := 19) 12 d8_sign_19 cb_12 ?_
    refine sd_ic_ne (pc := 21) 29 d8_sign_21 (by decide) (fun _ => ?_) (fun _ => ?_)
    · refine sd_bipush (pc := 24) (-2) d8_sign_24 cb_m2 ?_
      refine sd_goto (pc := 26) 38 d8_sign_26 (by decide) ?_
      exact sd_iret (pc := 38) d8_sign_38 rfl (Nat.zero_le _) (Nat.zero_le _)
    · refine sd_aload_n (pc := 29) d8_sign_29 rfl ?_
      refine sd_iload_n (pc := 30) d8_sign_30 rfl ?_
      refine sd_iload_n (pc := 31) d8_sign_31 rfl ?_
      refine sd_iload_n (pc := 32) d8_sign_32 rfl ?_
      refine sd_iload (pc := 33) d8_sign_33 rfl ?_
      refine sd_cVI (k2 := k8_newSign) (As := [.int l1, .int l2, .int l3, .int l4]) (rest := []) (b := 52) (ci := 7) (pc := 35) 168 (show sm_sq 52 = some (.inr 7) from rfl) (by decide) rfl d8_sign_35 ml8_168 (ms8_newSign).1 (ms8_newSign).2 (me8_newSign) ⟨rfl, rfl⟩ ⟨Nat.le_of_ble_eq_true rfl, Nat.le_of_ble_eq_true rfl⟩ (Nat.le_of_ble_eq_true rfl) (Nat.le_of_ble_eq_true rfl) (Or.inl rfl) (Nat.zero_le _) (Nat.zero_le _) rfl (s8_newSign F l1 l2 l3 l4 S) (fun v3 S => ?_)
      exact sd_iret (pc := 38) d8_sign_38 rfl (Nat.zero_le _) (Nat.zero_le _)
set_option maxHeartbeats 4000000 in
set_option maxRecDepth 20000 in
theorem s7_signs_119 {N : Nat} (F : Nat) : ∀ (f : Nat) (l2 : Int32) (l3 : Nat) (l4 : Int32) (S : sm_t), sm_S (sm_jI N) k7_signs 0 0 119 [some (.ref 3), none, some (.int l2), some (.ref l3), some (.int l4)] [] (sm_m N S) (x7_signs_119 F f l2 l3 l4 S) := by
  intro f
  induction f with
  | zero =>
    intro l2 l3 l4 S
    exact sd_none
  | succ f ih =>
    intro l2 l3 l4 S
    rw [x7_signs_119]
    refine sd_iload (pc := 119) d7_signs_119 rfl ?_
    refine sd_iconst (pc := 121) 3 d7_signs_121 ci_3 ?_
    refine sd_iadd (pc := 122) d7_signs_122 ?_
    refine sd_iload_n (pc := 123) d7_signs_123 rfl ?_
    refine sd_ic_ge (pc := 124) 163 d7_signs_124 (by decide) (fun _ => ?_) (fun _ => ?_)
    · refine sd_iload_n (pc := 163) d7_signs_163 rfl ?_
      refine sd_iconst (pc := 164) 4 d7_signs_164 ci_4 ?_
      refine sd_idiv (pc := 165) d7_signs_165 (by decide) ?_
      exact sd_iret (pc := 166) d7_signs_166 rfl (Nat.zero_le _) (Nat.zero_le _)
    · refine sd_aload_n (pc := 127) d7_signs_127 rfl ?_
      refine sd_getR (pc := 128) 22 (show sm_sq 3 = some (.inr 6) from rfl) rfl fl7_42 rfl d7_signs_128 ?_
      refine sd_aload_n (pc := 131) d7_signs_131 rfl ?_
      refine sd_iload (pc := 132) d7_signs_132 rfl ?_
      refine sd_an (fun n2 h1 => ?_)
      refine sd_iald (pc := 134) h1 d7_signs_134 (fun v3 => ?_)
      refine sd_aload_n (pc := 135) d7_signs_135 rfl ?_
      refine sd_iload (pc := 136) d7_signs_136 rfl ?_
      refine sd_iconst (pc := 138) 1 d7_signs_138 ci_1 ?_
      refine sd_iadd (pc := 139) d7_signs_139 ?_
      refine sd_iald (pc := 140) h1 d7_signs_140 (fun v4 => ?_)
      refine sd_aload_n (pc := 141) d7_signs_141 rfl ?_
      refine sd_iload (pc := 142) d7_signs_142 rfl ?_
      refine sd_iconst (pc := 144) 2 d7_signs_144 ci_2 ?_
      refine sd_iadd (pc := 145) d7_signs_145 ?_
      refine sd_iald (pc := 146) h1 d7_signs_146 (fun v5 => ?_)
      refine sd_aload_n (pc := 147) d7_signs_147 rfl ?_
      refine sd_iload (pc := 148) d7_signs_148 rfl ?_
      refine sd_iconst (pc := 150) 3 d7_signs_150 ci_3 ?_
      refine sd_iadd (pc := 151) d7_signs_151 ?_
      refine sd_iald (pc := 152) h1 d7_signs_152 (fun v6 => ?_)
      refine sd_cVI (k2 := k0_add) (As := [.int v3, .int v4, .int v5, .int v6]) (rest := []) (b := 22) (ci := 0) (pc := 153) 180 (show sm_sq 22 = some (.inr 0) from rfl) (by decide) rfl d7_signs_153 ml7_180 (ms0_add).1 (ms0_add).2 (me0_add) ⟨rfl, rfl⟩ ⟨Nat.le_of_ble_eq_true rfl, Nat.le_of_ble_eq_true rfl⟩ (Nat.le_of_ble_eq_true rfl) (Nat.le_of_ble_eq_true rfl) (Or.inl rfl) (Nat.zero_le _) (Nat.zero_le _) rfl (s0_add F v3 v4 v5 v6 S) (fun v7 S => ?_)
      refine sd_pop (pc := 156) d7_signs_156 rfl ?_
      refine sd_iinc (lf2 := [some (.ref 3), none, some (.int l2), some (.ref l3), some (.int (l4 + 4))]) (pc := 157) d7_signs_157 (Nat.le_of_ble_eq_true rfl) rfl ci_4 rfl ?_
      refine sd_goto (pc := 160) 119 d7_signs_160 (by decide) ?_
      exact ih l2 l3 (l4 + 4) S
set_option maxHeartbeats 4000000 in
set_option maxRecDepth 20000 in
theorem s7_signs_68 {N : Nat} (F : Nat) : ∀ (f : Nat) (l2 : Int32) (l3 : Nat) (l4 : Int32) (S : sm_t), sm_S (sm_jI N) k7_signs 0 0 68 [some (.ref 3), none, some (.int l2), some (.ref l3), some (.int l4)] [] (sm_m N S) (x7_signs_68 F f l2 l3 l4 S) := by
  intro f
  induction f with
  | zero =>
    intro l2 l3 l4 S
    exact sd_none
  | succ f ih =>
    intro l2 l3 l4 S
    rw [x7_signs_68]
    refine sd_iload (pc := 68) d7_signs_68 rfl ?_
    refine sd_iconst (pc := 70) 3 d7_signs_70 ci_3 ?_
    refine sd_iadd (pc := 71) d7_signs_71 ?_
    refine sd_iload_n (pc := 72) d7_signs_72 rfl ?_
    refine sd_ic_ge (pc := 73) 116 d7_signs_73 (by decide) (fun _ => ?_) (fun _ => ?_)
    · refine sd_iconst (pc := 116) 0 d7_signs_116 ci_0 ?_
      refine sd_istore (lf2 := [some (.ref 3), none, some (.int l2), some (.ref l3), some (.int 0)]) (pc := 117) d7_signs_117 (Nat.le_of_ble_eq_true rfl) rfl ?_
      exact s7_signs_119 F F l2 l3 0 S
    · refine sd_aload_n (pc := 76) d7_signs_76 rfl ?_
      refine sd_iload (pc := 77) d7_signs_77 rfl ?_
      refine sd_an (fun n2 h1 => ?_)
      refine sd_iald (pc := 79) h1 d7_signs_79 (fun v3 => ?_)
      refine sd_aload_n (pc := 80) d7_signs_80 rfl ?_
      refine sd_iload (pc := 81) d7_signs_81 rfl ?_
      refine sd_iconst (pc := 83) 1 d7_signs_83 ci_1 ?_
      refine sd_iadd (pc := 84) d7_signs_84 ?_
      refine sd_iald (pc := 85) h1 d7_signs_85 (fun v4 => ?_)
      refine sd_aload_n (pc := 86) d7_signs_86 rfl ?_
      refine sd_iload (pc := 87) d7_signs_87 rfl ?_
      refine sd_iconst (pc := 89) 2 d7_signs_89 ci_2 ?_
      refine sd_iadd (pc := 90) d7_signs_90 ?_
      refine sd_iald (pc := 91) h1 d7_signs_91 (fun v5 => ?_)
      refine sd_aload_n (pc := 92) d7_signs_92 rfl ?_
      refine sd_iload (pc := 93) d7_signs_93 rfl ?_
      refine sd_iconst (pc := 95) 3 d7_signs_95 ci_3 ?_
      refine sd_iadd (pc := 96) d7_signs_96 ?_
      refine sd_iald (pc := 97) h1 d7_signs_97 (fun v6 => ?_)
      refine sd_cSI (k2 := k6_fits) (As := [.int v3, .int v4, .int v5, .int v6]) (rest := []) (pc := 98) 169 d7_signs_98 ml7_169 (ms6_fits) (me6_fits) ⟨rfl, rfl⟩ ⟨Nat.le_of_ble_eq_true rfl, Nat.le_of_ble_eq_true rfl⟩ (Nat.le_of_ble_eq_true rfl) (Nat.le_of_ble_eq_true rfl) (Or.inr rfl) (Nat.zero_le _) (Nat.zero_le _) rfl (s6_fits F v3 v4 v5 v6 S) (fun v7 S => ?_)
      refine sd_if_ne (pc := 101) 110 d7_signs_101 (by decide) (fun _ => ?_) (fun _ => ?_)
      · refine sd_aload_n (pc := 104) d7_signs_104 rfl ?_
        refine sd_iconst (pc := 105) 3 d7_signs_105 ci_3 ?_
        refine sd_cVI (k2 := k7_found) (As := [.int 3]) (rest := []) (b := 3) (ci := 6) (pc := 106) 92 (show sm_sq 3 = some (.inr 6) from rfl) (by decide) rfl d7_signs_106 ml7_92 (ms7_found).1 (ms7_found).2 (me7_found) ⟨rfl, rfl⟩ ⟨Nat.le_of_ble_eq_true rfl, Nat.le_of_ble_eq_true rfl⟩ (Nat.le_of_ble_eq_true rfl) (Nat.le_of_ble_eq_true rfl) (Or.inl rfl) (Nat.zero_le _) (Nat.zero_le _) rfl (s7_found F 3 S) (fun v8 S => ?_)
        exact sd_iret (pc := 109) d7_signs_109 rfl (Nat.zero_le _) (Nat.zero_le _)
      · refine sd_iinc (lf2 := [some (.ref 3), none, some (.int l2), some (.ref l3), some (.int (l4 + 4))]) (pc := 110) d7_signs_110 (Nat.le_of_ble_eq_true rfl) rfl ci_4 rfl ?_
        refine sd_goto (pc := 113) 68 d7_signs_113 (by decide) ?_
        exact ih l2 l3 (l4 + 4) S
set_option maxHeartbeats 4000000 in
set_option maxRecDepth 20000 in
theorem s7_signs {N : Nat} (F : Nat) (l1 : Int32) (S : sm_t) : sm_P (sm_jI N) k7_signs [.ref 3, .int l1] (sm_m N S) (x7_signs F l1 S) := by
  show sm_S (sm_jI N) k7_signs 0 0 0 [some (.ref 3), some (.int l1), none, none, none] [] (sm_m N S) (x7_signs F l1 S)
  unfold x7_signs
  refine sd_iload_n (pc := 0) d7_signs_0 rfl ?_
  refine sd_cSI (k2 := k7_isRow) (As := [.int l1]) (rest := []) (pc := 1) 88 d7_signs_1 ml7_88 (ms7_isRow) (me7_isRow) ⟨rfl, rfl⟩ ⟨Nat.le_of_ble_eq_true rfl, Nat.le_of_ble_eq_true rfl⟩ (Nat.le_of_ble_eq_true rfl) (Nat.le_of_ble_eq_true rfl) (Or.inr rfl) (Nat.zero_le _) (Nat.zero_le _) rfl (s7_isRow F l1 S) (fun v1 S => ?_)
  refine sd_if_ne (pc := 4) 9 d7_signs_4 (by decide) (fun _ => ?_) (fun _ => ?_)
  · refine sd_iconst (pc := 7) (-1) d7_signs_7 ci_m1 ?_
    exact sd_iret (pc := 8) d7_signs_8 rfl (Nat.zero_le _) (Nat.zero_le _)
  · refine sd_aload_n (pc := 9) d7_signs_9 rfl ?_
    refine sd_getR (pc := 10) 11 (show sm_sq 3 = some (.inr 6) from rfl) rfl fl7_14 rfl d7_signs_10 ?_
    refine sd_iload_n (pc := 13) d7_signs_13 rfl ?_
    refine sd_iald (pc := 14) (show sm_sq 11 = some (.inl (.int, 6)) from rfl) d7_signs_14 (fun v2 => ?_)
    refine sd_istore_n (lf2 := [some (.ref 3), some (.int l1), some (.int v2), none, none]) (pc := 15) d7_signs_15 (Nat.le_of_ble_eq_true rfl) rfl ?_
    refine sd_iload_n (pc := 16) d7_signs_16 rfl ?_
    refine sd_iconst (pc := 17) (-1) d7_signs_17 ci_m1 ?_
    refine sd_ic_ne (pc := 18) 27 d7_signs_18 (by decide) (fun _ => ?_) (fun _ => ?_)
    · refine sd_aload_n (pc := 21) d7_signs_21 rfl ?_
      refine sd_iconst (pc := 22) 1 d7_signs_22 ci_1 ?_
      refine sd_cVI (k2 := k7_found) (As := [.int 1]) (rest := []) (b := 3) (ci := 6) (pc := 23) 92 (show sm_sq 3 = some (.inr 6) from rfl) (by decide) rfl d7_signs_23 ml7_92 (ms7_found).1 (ms7_found).2 (me7_found) ⟨rfl, rfl⟩ ⟨Nat.le_of_ble_eq_true rfl, Nat.le_of_ble_eq_true rfl⟩ (Nat.le_of_ble_eq_true rfl) (Nat.le_of_ble_eq_true rfl) (Or.inl rfl) (Nat.zero_le _) (Nat.zero_le _) rfl (s7_found F 1 S) (fun v3 S => ?_)
      exact sd_iret (pc := 26) d7_signs_26 rfl (Nat.zero_le _) (Nat.zero_le _)
    · refine sd_iload_n (pc := 27) d7_signs_27 rfl ?_
      refine sd_iconst (pc := 28) 4 d7_signs_28 ci_4 ?_
      refine sd_irem (pc := 29) d7_signs_29 (by decide) ?_
      refine sd_if_eq (pc := 30) 39 d7_signs_30 (by decide) (fun _ => ?_) (fun _ => ?_)
      · refine sd_aload_n (pc := 39) d7_signs_39 rfl ?_
        refine sd_getR (pc := 40) 22 (show sm_sq 3 = some (.inr 6) from rfl) rfl fl7_42 rfl d7_signs_40 ?_
        refine sd_getI (pc := 43) (show sm_sq 22 = some (.inr 0) from rfl) rfl fl7_175 d7_signs_43 (fun v4 => ?_)
        refine sd_iload_n (pc := 46) d7_signs_46 rfl ?_
        refine sd_iconst (pc := 47) 4 d7_signs_47 ci_4 ?_
        refine sd_idiv (pc := 48) d7_signs_48 (by decide) ?_
        refine sd_iadd (pc := 49) d7_signs_49 ?_
        refine sd_bipush (pc := 50) 12 d7_signs_50 cb_12 ?_
        refine sd_ic_le (pc := 52) 58 d7_signs_52 (by decide) (fun _ => ?_) (fun _ => ?_)
        · refine sd_aload_n (pc := 58) d7_signs_58 rfl ?_
          refine sd_getR (pc := 59) 4 (show sm_sq 3 = some (.inr 6) from rfl) rfl fl7_11 rfl d7_signs_59 ?_
          refine sd_iload_n (pc := 62) d7_signs_62 rfl ?_
          refine sd_aald (pc := 63) 4 (show sm_sq 4 = some (.inl (.array .int, 6)) from rfl) rfl rfl (fun _ => rfl) (fun _ _ _ _ h => if_pos h) d7_signs_63 (fun a5 => ?_)
          refine sd_astore_n (lf2 := [some (.ref 3), some (.int l1), some (.int v2), some (.ref a5), none]) (pc := 64) d7_signs_64 (Nat.le_of_ble_eq_true rfl) rfl ?_
          refine sd_iconst (pc := 65) 0 d7_signs_65 ci_0 ?_
          refine sd_istore (lf2 := [some (.ref 3), some (.int l1), some (.int v2), some (.ref a5), some (.int 0)]) (pc := 66) d7_signs_66 (Nat.le_of_ble_eq_true rfl) rfl ?_
          exact sd_fg [true, false, true, true, true] rfl (s7_signs_68 F F v2 a5 0 S)
        · refine sd_bipush (pc := 55) (-2) d7_signs_55 cb_m2 ?_
          exact sd_iret (pc := 57) d7_signs_57 rfl (Nat.zero_le _) (Nat.zero_le _)
      · refine sd_aload_n (pc := 33) d7_signs_33 rfl ?_
        refine sd_iconst (pc := 34) 5 d7_signs_34 ci_5 ?_
        refine sd_cVI (k2 := k7_found) (As := [.int 5]) (rest := []) (b := 3) (ci := 6) (pc := 35) 92 (show sm_sq 3 = some (.inr 6) from rfl) (by decide) rfl d7_signs_35 ml7_92 (ms7_found).1 (ms7_found).2 (me7_found) ⟨rfl, rfl⟩ ⟨Nat.le_of_ble_eq_true rfl, Nat.le_of_ble_eq_true rfl⟩ (Nat.le_of_ble_eq_true rfl) (Nat.le_of_ble_eq_true rfl) (Or.inl rfl) (Nat.zero_le _) (Nat.zero_le _) rfl (s7_found F 5 S) (fun v6 S => ?_)
        exact sd_iret (pc := 38) d7_signs_38 rfl (Nat.zero_le _) (Nat.zero_le _)
set_option maxHeartbeats 4000000 in
set_option maxRecDepth 20000 in
theorem s8_signs_125 {N : Nat} (F : Nat) : ∀ (f : Nat) (l1 : Int32) (l3 : Int32) (l4 : Int32) (S : sm_t), sm_S (sm_jI N) k8_signs 0 0 125 [some (.ref 52), some (.int l1), none, some (.int l3), some (.int l4)] [] (sm_m N S) (x8_signs_125 F f l1 l3 l4 S) := by
  intro f
  induction f with
  | zero =>
    intro l1 l3 l4 S
    exact sd_none
  | succ f ih =>
    intro l1 l3 l4 S
    rw [x8_signs_125]
    refine sd_iload (pc := 125) d8_signs_125 rfl ?_
    refine sd_iload_n (pc := 127) d8_signs_127 rfl ?_
    refine sd_ic_ge (pc := 128) 184 d8_signs_128 (by decide) (fun _ => ?_) (fun _ => ?_)
    · refine sd_iload_n (pc := 184) d8_signs_184 rfl ?_
      exact sd_iret (pc := 185) d8_signs_185 rfl (Nat.zero_le _) (Nat.zero_le _)
    · refine sd_aload_n (pc := 131) d8_signs_131 rfl ?_
      refine sd_aload_n (pc := 132) d8_signs_132 rfl ?_
      refine sd_iload_n (pc := 133) d8_signs_133 rfl ?_
      refine sd_iconst (pc := 134) 4 d8_signs_134 ci_4 ?_
      refine sd_iload (pc := 135) d8_signs_135 rfl ?_
      refine sd_imul (pc := 137) d8_signs_137 ?_
      refine sd_cVI (k2 := k8_rowAt) (As := [.int l1, .int (4 * l4)]) (rest := [.ref 52]) (b := 52) (ci := 7) (pc := 138) 98 (show sm_sq 52 = some (.inr 7) from rfl) (by decide) rfl d8_signs_138 ml8_98 (ms8_rowAt).1 (ms8_rowAt).2 (me8_rowAt) ⟨rfl, rfl⟩ ⟨Nat.le_of_ble_eq_true rfl, Nat.le_of_ble_eq_true rfl⟩ (Nat.le_of_ble_eq_true rfl) (Nat.le_of_ble_eq_true rfl) (Or.inl rfl) (Nat.zero_le _) (Nat.zero_le _) rfl (s8_rowAt F l1 (4 * l4) S) (fun v1 S => ?_)
      refine sd_aload_n (pc := 141) d8_signs_141 rfl ?_
      refine sd_iload_n (pc := 142) d8_signs_142 rfl ?_
      refine sd_iconst (pc := 143) 4 d8_signs_143 ci_4 ?_
      refine sd_iload (pc := 144) d8_signs_144 rfl ?_
      refine sd_imul (pc := 146) d8_signs_146 ?_
      refine sd_iconst (pc := 147) 1 d8_signs_147 ci_1 ?_
      refine sd_iadd (pc := 148) d8_signs_148 ?_
      refine sd_cVI (k2 := k8_rowAt) (As := [.int l1, .int ((4 * l4) + 1)]) (rest := [.int v1, .ref 52]) (b := 52) (ci := 7) (pc := 149) 98 (show sm_sq 52 = some (.inr 7) from rfl) (by decide) rfl d8_signs_149 ml8_98 (ms8_rowAt).1 (ms8_rowAt).2 (me8_rowAt) ⟨rfl, rfl⟩ ⟨Nat.le_of_ble_eq_true rfl, Nat.le_of_ble_eq_true rfl⟩ (Nat.le_of_ble_eq_true rfl) (Nat.le_of_ble_eq_true rfl) (Or.inl rfl) (Nat.zero_le _) (Nat.zero_le _) rfl (s8_rowAt F l1 ((4 * l4) + 1) S) (fun v2 S => ?_)
      refine sd_aload_n (pc := 152) d8_signs_152 rfl ?_
      refine sd_iload_n (pc := 153) d8_signs_153 rfl ?_
      refine sd_iconst (pc := 154) 4 d8_signs_154 ci_4 ?_
      refine sd_iload (pc := 155) d8_signs_155 rfl ?_
      refine sd_imul (pc := 157) d8_signs_157 ?_
      refine sd_iconst (pc := 158) 2 d8_signs_158 ci_2 ?_
      refine sd_iadd (pc := 159) d8_signs_159 ?_
      refine sd_cVI (k2 := k8_rowAt) (As := [.int l1, .int ((4 * l4) + 2)]) (rest := [.int v2, .int v1, .ref 52]) (b := 52) (ci := 7) (pc := 160) 98 (show sm_sq 52 = some (.inr 7) from rfl) (by decide) rfl d8_signs_160 ml8_98 (ms8_rowAt).1 (ms8_rowAt).2 (me8_rowAt) ⟨rfl, rfl⟩ ⟨Nat.le_of_ble_eq_true rfl, Nat.le_of_ble_eq_true rfl⟩ (Nat.le_of_ble_eq_true rfl) (Nat.le_of_ble_eq_true rfl) (Or.inl rfl) (Nat.zero_le _) (Nat.zero_le _) rfl (s8_rowAt F l1 ((4 * l4) + 2) S) (fun v3 S => ?_)
      refine sd_aload_n (pc := 163) d8_signs_163 rfl ?_
      refine sd_iload_n (pc := 164) d8_signs_164 rfl ?_
      refine sd_iconst (pc := 165) 4 d8_signs_165 ci_4 ?_
      refine sd_iload (pc := 166) d8_signs_166 rfl ?_
      refine sd_imul (pc := 168) d8_signs_168 ?_
      refine sd_iconst (pc := 169) 3 d8_signs_169 ci_3 ?_
      refine sd_iadd (pc := 170) d8_signs_170 ?_
      refine sd_cVI (k2 := k8_rowAt) (As := [.int l1, .int ((4 * l4) + 3)]) (rest := [.int v3, .int v2, .int v1, .ref 52]) (b := 52) (ci := 7) (pc := 171) 98 (show sm_sq 52 = some (.inr 7) from rfl) (by decide) rfl d8_signs_171 ml8_98 (ms8_rowAt).1 (ms8_rowAt).2 (me8_rowAt) ⟨rfl, rfl⟩ ⟨Nat.le_of_ble_eq_true rfl, Nat.le_of_ble_eq_true rfl⟩ (Nat.le_of_ble_eq_true rfl) (Nat.le_of_ble_eq_true rfl) (Or.inl rfl) (Nat.zero_le _) (Nat.zero_le _) rfl (s8_rowAt F l1 ((4 * l4) + 3) S) (fun v4 S => ?_)
      refine sd_cVI (k2 := k8_newSign) (As := [.int v1, .int v2, .int v3, .int v4]) (rest := []) (b := 52) (ci := 7) (pc := 174) 168 (show sm_sq 52 = some (.inr 7) from rfl) (by decide) rfl d8_signs_174 ml8_168 (ms8_newSign).1 (ms8_newSign).2 (me8_newSign) ⟨rfl, rfl⟩ ⟨Nat.le_of_ble_eq_true rfl, Nat.le_of_ble_eq_true rfl⟩ (Nat.le_of_ble_eq_true rfl) (Nat.le_of_ble_eq_true rfl) (Or.inl rfl) (Nat.zero_le _) (Nat.zero_le _) rfl (s8_newSign F v1 v2 v3 v4 S) (fun v5 S => ?_)
      refine sd_pop (pc := 177) d8_signs_177 rfl ?_
      refine sd_iinc (lf2 := [some (.ref 52), some (.int l1), none, some (.int l3), some (.int (l4 + 1))]) (pc := 178) d8_signs_178 (Nat.le_of_ble_eq_true rfl) rfl ci_1 rfl ?_
      refine sd_goto (pc := 181) 125 d8_signs_181 (by decide) ?_
      exact ih l1 l3 (l4 + 1) S
set_option maxHeartbeats 4000000 in
set_option maxRecDepth 20000 in
theorem s8_signs_56 {N : Nat} (F : Nat) : ∀ (f : Nat) (l1 : Int32) (l3 : Int32) (l4 : Int32) (S : sm_t), sm_S (sm_jI N) k8_signs 0 0 56 [some (.ref 52), some (.int l1), none, some (.int l3), some (.int l4)] [] (sm_m N S) (x8_signs_56 F f l1 l3 l4 S) := by
  intro f
  induction f with
  | zero =>
    intro l1 l3 l4 S
    exact sd_none
  | succ f ih =>
    intro l1 l3 l4 S
    rw [x8_signs_56]
    refine sd_iload (pc := 56) d8_signs_56 rfl ?_
    refine sd_iload_n (pc := 58) d8_signs_58 rfl ?_
    refine sd_ic_ge (pc := 59) 122 d8_signs_59 (by decide) (fun _ => ?_) (fun _ => ?_)
    · refine sd_iconst (pc := 122) 0 d8_signs_122 ci_0 ?_
      refine sd_istore (lf2 := [some (.ref 52), some (.int l1), none, some (.int l3), some (.int 0)]) (pc := 123) d8_signs_123 (Nat.le_of_ble_eq_true rfl) rfl ?_
      exact s8_signs_125 F F l1 l3 0 S
    · refine sd_aload_n (pc := 62) d8_signs_62 rfl ?_
      refine sd_iload_n (pc := 63) d8_signs_63 rfl ?_
      refine sd_iconst (pc := 64) 4 d8_signs_64 ci_4 ?_
      refine sd_iload (pc := 65) d8_signs_65 rfl ?_
      refine sd_imul (pc := 67) d8_signs_67 ?_
      refine sd_cVI (k2 := k8_rowAt) (As := [.int l1, .int (4 * l4)]) (rest := []) (b := 52) (ci := 7) (pc := 68) 98 (show sm_sq 52 = some (.inr 7) from rfl) (by decide) rfl d8_signs_68 ml8_98 (ms8_rowAt).1 (ms8_rowAt).2 (me8_rowAt) ⟨rfl, rfl⟩ ⟨Nat.le_of_ble_eq_true rfl, Nat.le_of_ble_eq_true rfl⟩ (Nat.le_of_ble_eq_true rfl) (Nat.le_of_ble_eq_true rfl) (Or.inl rfl) (Nat.zero_le _) (Nat.zero_le _) rfl (s8_rowAt F l1 (4 * l4) S) (fun v1 S => ?_)
      refine sd_aload_n (pc := 71) d8_signs_71 rfl ?_
      refine sd_iload_n (pc := 72) d8_signs_72 rfl ?_
      refine sd_iconst (pc := 73) 4 d8_signs_73 ci_4 ?_
      refine sd_iload (pc := 74) d8_signs_74 rfl ?_
      refine sd_imul (pc := 76) d8_signs_76 ?_
      refine sd_iconst (pc := 77) 1 d8_signs_77 ci_1 ?_
      refine sd_iadd (pc := 78) d8_signs_78 ?_
      refine sd_cVI (k2 := k8_rowAt) (As := [.int l1, .int ((4 * l4) + 1)]) (rest := [.int v1]) (b := 52) (ci := 7) (pc := 79) 98 (show sm_sq 52 = some (.inr 7) from rfl) (by decide) rfl d8_signs_79 ml8_98 (ms8_rowAt).1 (ms8_rowAt).2 (me8_rowAt) ⟨rfl, rfl⟩ ⟨Nat.le_of_ble_eq_true rfl, Nat.le_of_ble_eq_true rfl⟩ (Nat.le_of_ble_eq_true rfl) (Nat.le_of_ble_eq_true rfl) (Or.inl rfl) (Nat.zero_le _) (Nat.zero_le _) rfl (s8_rowAt F l1 ((4 * l4) + 1) S) (fun v2 S => ?_)
      refine sd_aload_n (pc := 82) d8_signs_82 rfl ?_
      refine sd_iload_n (pc := 83) d8_signs_83 rfl ?_
      refine sd_iconst (pc := 84) 4 d8_signs_84 ci_4 ?_
      refine sd_iload (pc := 85) d8_signs_85 rfl ?_
      refine sd_imul (pc := 87) d8_signs_87 ?_
      refine sd_iconst (pc := 88) 2 d8_signs_88 ci_2 ?_
      refine sd_iadd (pc := 89) d8_signs_89 ?_
      refine sd_cVI (k2 := k8_rowAt) (As := [.int l1, .int ((4 * l4) + 2)]) (rest := [.int v2, .int v1]) (b := 52) (ci := 7) (pc := 90) 98 (show sm_sq 52 = some (.inr 7) from rfl) (by decide) rfl d8_signs_90 ml8_98 (ms8_rowAt).1 (ms8_rowAt).2 (me8_rowAt) ⟨rfl, rfl⟩ ⟨Nat.le_of_ble_eq_true rfl, Nat.le_of_ble_eq_true rfl⟩ (Nat.le_of_ble_eq_true rfl) (Nat.le_of_ble_eq_true rfl) (Or.inl rfl) (Nat.zero_le _) (Nat.zero_le _) rfl (s8_rowAt F l1 ((4 * l4) + 2) S) (fun v3 S => ?_)
      refine sd_aload_n (pc := 93) d8_signs_93 rfl ?_
      refine sd_iload_n (pc := 94) d8_signs_94 rfl ?_
      refine sd_iconst (pc := 95) 4 d8_signs_95 ci_4 ?_
      refine sd_iload (pc := 96) d8_signs_96 rfl ?_
      refine sd_imul (pc := 98) d8_signs_98 ?_
      refine sd_iconst (pc := 99) 3 d8_signs_99 ci_3 ?_
      refine sd_iadd (pc := 100) d8_signs_100 ?_
      refine sd_cVI (k2 := k8_rowAt) (As := [.int l1, .int ((4 * l4) + 3)]) (rest := [.int v3, .int v2, .int v1]) (b := 52) (ci := 7) (pc := 101) 98 (show sm_sq 52 = some (.inr 7) from rfl) (by decide) rfl d8_signs_101 ml8_98 (ms8_rowAt).1 (ms8_rowAt).2 (me8_rowAt) ⟨rfl, rfl⟩ ⟨Nat.le_of_ble_eq_true rfl, Nat.le_of_ble_eq_true rfl⟩ (Nat.le_of_ble_eq_true rfl) (Nat.le_of_ble_eq_true rfl) (Or.inl rfl) (Nat.zero_le _) (Nat.zero_le _) rfl (s8_rowAt F l1 ((4 * l4) + 3) S) (fun v4 S => ?_)
      refine sd_cSI (k2 := k8_isGood) (As := [.int v1, .int v2, .int v3, .int v4]) (rest := []) (pc := 104) 164 d8_signs_104 ml8_164 (ms8_isGood) (me8_isGood) ⟨rfl, rfl⟩ ⟨Nat.le_of_ble_eq_true rfl, Nat.le_of_ble_eq_true rfl⟩ (Nat.le_of_ble_eq_true rfl) (Nat.le_of_ble_eq_true rfl) (Or.inr rfl) (Nat.zero_le _) (Nat.zero_le _) rfl (s8_isGood F v1 v2 v3 v4 S) (fun v5 S => ?_)
      refine sd_if_ne (pc := 107) 116 d8_signs_107 (by decide) (fun _ => ?_) (fun _ => ?_)
      · refine sd_aload_n (pc := 110) d8_signs_110 rfl ?_
        refine sd_iconst (pc := 111) 3 d8_signs_111 ci_3 ?_
        refine sd_cVI (k2 := k8_meets) (As := [.int 3]) (rest := []) (b := 52) (ci := 7) (pc := 112) 88 (show sm_sq 52 = some (.inr 7) from rfl) (by decide) rfl d8_signs_112 ml8_88 (ms8_meets).1 (ms8_meets).2 (me8_meets) ⟨rfl, rfl⟩ ⟨Nat.le_of_ble_eq_true rfl, Nat.le_of_ble_eq_true rfl⟩ (Nat.le_of_ble_eq_true rfl) (Nat.le_of_ble_eq_true rfl) (Or.inl rfl) (Nat.zero_le _) (Nat.zero_le _) rfl (s8_meets F 3 S) (fun v6 S => ?_)
        exact sd_iret (pc := 115) d8_signs_115 rfl (Nat.zero_le _) (Nat.zero_le _)
      · refine sd_iinc (lf2 := [some (.ref 52), some (.int l1), none, some (.int l3), some (.int (l4 + 1))]) (pc := 116) d8_signs_116 (Nat.le_of_ble_eq_true rfl) rfl ci_1 rfl ?_
        refine sd_goto (pc := 119) 56 d8_signs_119 (by decide) ?_
        exact ih l1 l3 (l4 + 1) S
set_option maxHeartbeats 4000000 in
set_option maxRecDepth 20000 in
theorem s8_signs {N : Nat} (F : Nat) (l1 : Int32) (S : sm_t) : sm_P (sm_jI N) k8_signs [.ref 52, .int l1] (sm_m N S) (x8_signs F l1 S) := by
  show sm_S (sm_jI N) k8_signs 0 0 0 [some (.ref 52), some (.int l1), none, none, none] [] (sm_m N S) (x8_signs F l1 S)
  unfold x8_signs
  refine sd_aload_n (pc := 0) d8_signs_0 rfl ?_
  refine sd_iload_n (pc := 1) d8_signs_1 rfl ?_
  refine sd_cVI (k2 := k8_askedRow) (As := [.int l1]) (rest := []) (b := 52) (ci := 7) (pc := 2) 95 (show sm_sq 52 = some (.inr 7) from rfl) (by decide) rfl d8_signs_2 ml8_95 (ms8_askedRow).1 (ms8_askedRow).2 (me8_askedRow) ⟨rfl, rfl⟩ ⟨Nat.le_of_ble_eq_true rfl, Nat.le_of_ble_eq_true rfl⟩ (Nat.le_of_ble_eq_true rfl) (Nat.le_of_ble_eq_true rfl) (Or.inl rfl) (Nat.zero_le _) (Nat.zero_le _) rfl (s8_askedRow F l1 S) (fun v1 S => ?_)
  refine sd_istore_n (lf2 := [some (.ref 52), some (.int l1), some (.int v1), none, none]) (pc := 5) d8_signs_5 (Nat.le_of_ble_eq_true rfl) rfl ?_
  refine sd_iload_n (pc := 6) d8_signs_6 rfl ?_
  refine sd_if_ge (pc := 7) 12 d8_signs_7 (by decide) (fun _ => ?_) (fun _ => ?_)
  · refine sd_aload_n (pc := 12) d8_signs_12 rfl ?_
    refine sd_getR (pc := 13) 54 (show sm_sq 52 = some (.inr 7) from rfl) rfl fl8_17 rfl d8_signs_13 ?_
    refine sd_iload_n (pc := 16) d8_signs_16 rfl ?_
    refine sd_iald (pc := 17) (show sm_sq 54 = some (.inl (.int, 6)) from rfl) d8_signs_17 (fun v2 => ?_)
    refine sd_iconst (pc := 18) 4 d8_signs_18 ci_4 ?_
    refine sd_idiv (pc := 19) d8_signs_19 (by decide) ?_
    refine sd_ni (fun v3 => ?_)
    refine sd_istore_n (lf2 := [some (.ref 52), some (.int l1), some (.int v1), some (.int v3), none]) (pc := 20) d8_signs_20 (Nat.le_of_ble_eq_true rfl) rfl ?_
    refine sd_aload_n (pc := 21) d8_signs_21 rfl ?_
    refine sd_getR (pc := 22) 54 (show sm_sq 52 = some (.inr 7) from rfl) rfl fl8_17 rfl d8_signs_22 ?_
    refine sd_iload_n (pc := 25) d8_signs_25 rfl ?_
    refine sd_iald (pc := 26) (show sm_sq 54 = some (.inl (.int, 6)) from rfl) d8_signs_26 (fun v4 => ?_)
    refine sd_iconst (pc := 27) 4 d8_signs_27 ci_4 ?_
    refine sd_iload_n (pc := 28) d8_signs_28 rfl ?_
    refine sd_imul (pc := 29) d8_signs_29 ?_
    refine sd_ic_eq (pc := 30) 39 d8_signs_30 (by decide) (fun _ => ?_) (fun _ => ?_)
    · refine sd_aload_n (pc := 39) d8_signs_39 rfl ?_
      refine sd_getI (pc := 40) (show sm_sq 52 = some (.inr 7) from rfl) rfl fl8_161 d8_signs_40 (fun v5 => ?_)
      refine sd_iload_n (pc := 43) d8_signs_43 rfl ?_
      refine sd_iadd (pc := 44) d8_signs_44 ?_
      refine sd_bipush (pc := 45) 12 d8_signs_45 cb_12 ?_
      refine sd_ic_le (pc := 47) 53 d8_signs_47 (by decide) (fun _ => ?_) (fun _ => ?_)
      · refine sd_iconst (pc := 53) 0 d8_signs_53 ci_0 ?_
        refine sd_istore (lf2 := [some (.ref 52), some (.int l1), some (.int v1), some (.int v3), some (.int 0)]) (pc := 54) d8_signs_54 (Nat.le_of_ble_eq_true rfl) rfl ?_
        exact sd_fg [true, true, false, true, true] rfl (s8_signs_56 F F l1 v3 0 S)
      · refine sd_bipush (pc := 50) (-2) d8_signs_50 cb_m2 ?_
        exact sd_iret (pc := 52) d8_signs_52 rfl (Nat.zero_le _) (Nat.zero_le _)
    · refine sd_aload_n (pc := 33) d8_signs_33 rfl ?_
      refine sd_iconst (pc := 34) 5 d8_signs_34 ci_5 ?_
      refine sd_cVI (k2 := k8_meets) (As := [.int 5]) (rest := []) (b := 52) (ci := 7) (pc := 35) 88 (show sm_sq 52 = some (.inr 7) from rfl) (by decide) rfl d8_signs_35 ml8_88 (ms8_meets).1 (ms8_meets).2 (me8_meets) ⟨rfl, rfl⟩ ⟨Nat.le_of_ble_eq_true rfl, Nat.le_of_ble_eq_true rfl⟩ (Nat.le_of_ble_eq_true rfl) (Nat.le_of_ble_eq_true rfl) (Or.inl rfl) (Nat.zero_le _) (Nat.zero_le _) rfl (s8_meets F 5 S) (fun v6 S => ?_)
      exact sd_iret (pc := 38) d8_signs_38 rfl (Nat.zero_le _) (Nat.zero_le _)
  · refine sd_iload_n (pc := 10) d8_signs_10 rfl ?_
    exact sd_iret (pc := 11) d8_signs_11 rfl (Nat.zero_le _) (Nat.zero_le _)
set_option maxHeartbeats 4000000 in
set_option maxRecDepth 20000 in
theorem s0_has {N : Nat} (F : Nat) (l1 : Int32) (S : sm_t) : sm_P (sm_jI N) k0_has [.ref 22, .int l1] (sm_m N S) (x0_has F l1 S) := by
  show sm_S (sm_jI N) k0_has 0 0 0 [some (.ref 22), some (.int l1)] [] (sm_m N S) (x0_has F l1 S)
  unfold x0_has
  refine sd_iload_n (pc := 0) d0_has_0 rfl ?_
  refine sd_if_lt (pc := 1) 16 d0_has_1 (by decide) (fun _ => ?_) (fun _ => ?_)
  · refine sd_iconst (pc := 16) 0 d0_has_16 ci_0 ?_
    exact sd_zret (pc := 17) d0_has_17 (by decide) (Nat.zero_le _) (Nat.zero_le _)
  · refine sd_iload_n (pc := 4) d0_has_4 rfl ?_
    refine sd_aload_n (pc := 5) d0_has_5 rfl ?_
    refine sd_getI (pc := 6) (show sm_sq 22 = some (.inr 0) from rfl) rfl fl0_17 d0_has_6 (fun v1 => ?_)
    refine sd_ic_ge (pc := 9) 16 d0_has_9 (by decide) (fun _ => ?_) (fun _ => ?_)
    · refine sd_iconst (pc := 16) 0 d0_has_16 ci_0 ?_
      exact sd_zret (pc := 17) d0_has_17 (by decide) (Nat.zero_le _) (Nat.zero_le _)
    · refine sd_iconst (pc := 12) 1 d0_has_12 ci_1 ?_
      refine sd_goto (pc := 13) 17 d0_has_13 (by decide) ?_
      exact sd_zret (pc := 17) d0_has_17 (by decide) (Nat.zero_le _) (Nat.zero_le _)
set_option maxHeartbeats 4000000 in
set_option maxRecDepth 20000 in
theorem s7_undo_41 {N : Nat} (F : Nat) (l1 : Int32) (l2 : Int32) (t0 : Int32) (S : sm_t) : sm_S (sm_jI N) k7_undo 0 0 41 [some (.ref 3), some (.int l1), some (.int l2), none] [.int t0] (sm_m N S) (x7_undo_41 F l1 l2 t0 S) := by
  unfold x7_undo_41
  refine sd_istore_n (lf2 := [some (.ref 3), some (.int l1), some (.int l2), some (.int t0)]) (pc := 41) d7_undo_41 (Nat.le_of_ble_eq_true rfl) rfl ?_
  refine sd_aload_n (pc := 42) d7_undo_42 rfl ?_
  refine sd_getR (pc := 43) 22 (show sm_sq 3 = some (.inr 6) from rfl) rfl fl7_42 rfl d7_undo_43 ?_
  refine sd_getR (pc := 46) 23 (show sm_sq 22 = some (.inr 0) from rfl) rfl fl7_187 rfl d7_undo_46 ?_
  refine sd_iload_n (pc := 49) d7_undo_49 rfl ?_
  refine sd_aald (pc := 50) 6 (show sm_sq 23 = some (.inl (.object "TwoFliers$Sign", 12)) from rfl) rfl rfl (fun _ => rfl) (fun _ _ _ _ h => if_pos h) d7_undo_50 (fun a1 => ?_)
  refine sd_iload_n (pc := 51) d7_undo_51 rfl ?_
  refine sd_iconst (pc := 52) 1 d7_undo_52 ci_1 ?_
  refine sd_ic_ne (pc := 53) 60 d7_undo_53 (by decide) (fun _ => ?_) (fun _ => ?_)
  · refine sd_iconst (pc := 56) 1 d7_undo_56 ci_1 ?_
    refine sd_goto (pc := 57) 61 d7_undo_57 (by decide) ?_
    refine sd_on (fun h2 => ?_)
    refine sd_putZ (pc := 61) (by decide) h2 rfl fl7_191 rfl d7_undo_61 (fun S => ?_)
    refine sd_iload_n (pc := 64) d7_undo_64 rfl ?_
    exact sd_iret (pc := 65) d7_undo_65 rfl (Nat.zero_le _) (Nat.zero_le _)
  · refine sd_iconst (pc := 60) 0 d7_undo_60 ci_0 ?_
    refine sd_on (fun h3 => ?_)
    refine sd_putZ (pc := 61) (by decide) h3 rfl fl7_191 rfl d7_undo_61 (fun S => ?_)
    refine sd_iload_n (pc := 64) d7_undo_64 rfl ?_
    exact sd_iret (pc := 65) d7_undo_65 rfl (Nat.zero_le _) (Nat.zero_le _)
set_option maxHeartbeats 4000000 in
set_option maxRecDepth 20000 in
theorem s7_undo {N : Nat} (F : Nat) (l1 : Int32) (l2 : Int32) (S : sm_t) : sm_P (sm_jI N) k7_undo [.ref 3, .int l1, .int l2] (sm_m N S) (x7_undo F l1 l2 S) := by
  show sm_S (sm_jI N) k7_undo 0 0 0 [some (.ref 3), some (.int l1), some (.int l2), none] [] (sm_m N S) (x7_undo F l1 l2 S)
  unfold x7_undo
  refine sd_aload_n (pc := 0) d7_undo_0 rfl ?_
  refine sd_getR (pc := 1) 22 (show sm_sq 3 = some (.inr 6) from rfl) rfl fl7_42 rfl d7_undo_1 ?_
  refine sd_iload_n (pc := 4) d7_undo_4 rfl ?_
  refine sd_cVI (k2 := k0_has) (As := [.int l1]) (rest := []) (b := 22) (ci := 0) (pc := 5) 184 (show sm_sq 22 = some (.inr 0) from rfl) (by decide) rfl d7_undo_5 ml7_184 (ms0_has).1 (ms0_has).2 (me0_has) ⟨rfl, rfl⟩ ⟨Nat.le_of_ble_eq_true rfl, Nat.le_of_ble_eq_true rfl⟩ (Nat.le_of_ble_eq_true rfl) (Nat.le_of_ble_eq_true rfl) (Or.inr rfl) (Nat.zero_le _) (Nat.zero_le _) rfl (s0_has F l1 S) (fun v1 S => ?_)
  refine sd_if_eq (pc := 8) 19 d7_undo_8 (by decide) (fun _ => ?_) (fun _ => ?_)
  · refine sd_iconst (pc := 19) (-1) d7_undo_19 ci_m1 ?_
    exact sd_iret (pc := 20) d7_undo_20 rfl (Nat.zero_le _) (Nat.zero_le _)
  · refine sd_iload_n (pc := 11) d7_undo_11 rfl ?_
    refine sd_iconst (pc := 12) 1 d7_undo_12 ci_1 ?_
    refine sd_cSI (k2 := k7_isWithin) (As := [.int l2, .int 1]) (rest := []) (pc := 13) 137 d7_undo_13 ml7_137 (ms7_isWithin) (me7_isWithin) ⟨rfl, rfl⟩ ⟨Nat.le_of_ble_eq_true rfl, Nat.le_of_ble_eq_true rfl⟩ (Nat.le_of_ble_eq_true rfl) (Nat.le_of_ble_eq_true rfl) (Or.inr rfl) (Nat.zero_le _) (Nat.zero_le _) rfl (s7_isWithin F l2 1 S) (fun v2 S => ?_)
    refine sd_if_ne (pc := 16) 21 d7_undo_16 (by decide) (fun _ => ?_) (fun _ => ?_)
    · refine sd_iconst (pc := 19) (-1) d7_undo_19 ci_m1 ?_
      exact sd_iret (pc := 20) d7_undo_20 rfl (Nat.zero_le _) (Nat.zero_le _)
    · refine sd_aload_n (pc := 21) d7_undo_21 rfl ?_
      refine sd_getR (pc := 22) 22 (show sm_sq 3 = some (.inr 6) from rfl) rfl fl7_42 rfl d7_undo_22 ?_
      refine sd_getR (pc := 25) 23 (show sm_sq 22 = some (.inr 0) from rfl) rfl fl7_187 rfl d7_undo_25 ?_
      refine sd_iload_n (pc := 28) d7_undo_28 rfl ?_
      refine sd_aald (pc := 29) 6 (show sm_sq 23 = some (.inl (.object "TwoFliers$Sign", 12)) from rfl) rfl rfl (fun _ => rfl) (fun _ _ _ _ h => if_pos h) d7_undo_29 (fun a3 => ?_)
      refine sd_on (fun h4 => ?_)
      refine sd_getI (pc := 30) h4 rfl fl7_191 d7_undo_30 (fun v5 => ?_)
      refine sd_if_eq (pc := 33) 40 d7_undo_33 (by decide) (fun _ => ?_) (fun _ => ?_)
      · refine sd_iconst (pc := 40) 0 d7_undo_40 ci_0 ?_
        exact s7_undo_41 F l1 l2 0 S
      · refine sd_iconst (pc := 36) 1 d7_undo_36 ci_1 ?_
        refine sd_goto (pc := 37) 41 d7_undo_37 (by decide) ?_
        exact s7_undo_41 F l1 l2 1 S
set_option maxHeartbeats 4000000 in
set_option maxRecDepth 20000 in
theorem s8_isSign {N : Nat} (F : Nat) (l1 : Int32) (S : sm_t) : sm_P (sm_jI N) k8_isSign [.ref 52, .int l1] (sm_m N S) (x8_isSign F l1 S) := by
  show sm_S (sm_jI N) k8_isSign 0 0 0 [some (.ref 52), some (.int l1)] [] (sm_m N S) (x8_isSign F l1 S)
  unfold x8_isSign
  refine sd_iload_n (pc := 0) d8_isSign_0 rfl ?_
  refine sd_iconst (pc := 1) 0 d8_isSign_1 ci_0 ?_
  refine sd_aload_n (pc := 2) d8_isSign_2 rfl ?_
  refine sd_getI (pc := 3) (show sm_sq 52 = some (.inr 7) from rfl) rfl fl8_161 d8_isSign_3 (fun v1 => ?_)
  refine sd_iconst (pc := 6) 1 d8_isSign_6 ci_1 ?_
  refine sd_isub (pc := 7) d8_isSign_7 ?_
  refine sd_cSI (k2 := k8_in) (As := [.int l1, .int 0, .int (v1 - 1)]) (rest := []) (pc := 8) 80 d8_isSign_8 ml8_80 (ms8_in) (me8_in) ⟨rfl, rfl⟩ ⟨Nat.le_of_ble_eq_true rfl, Nat.le_of_ble_eq_true rfl⟩ (Nat.le_of_ble_eq_true rfl) (Nat.le_of_ble_eq_true rfl) (Or.inr rfl) (Nat.zero_le _) (Nat.zero_le _) rfl (s8_in F l1 0 (v1 - 1) S) (fun v2 S => ?_)
  exact sd_zrv (pc := 11) d8_isSign_11 (Nat.zero_le _) (Nat.zero_le _)
set_option maxHeartbeats 4000000 in
set_option maxRecDepth 20000 in
theorem s8_tell {N : Nat} (F : Nat) (l1 : Int32) (l2 : Int32) (S : sm_t) : sm_P (sm_jI N) k8_tell [.ref 52, .int l1, .int l2] (sm_m N S) (x8_tell F l1 l2 S) := by
  show sm_S (sm_jI N) k8_tell 0 0 0 [some (.ref 52), some (.int l1), some (.int l2)] [] (sm_m N S) (x8_tell F l1 l2 S)
  unfold x8_tell
  refine sd_aload_n (pc := 0) d8_tell_0 rfl ?_
  refine sd_getR (pc := 1) 63 (show sm_sq 52 = some (.inr 7) from rfl) rfl fl8_45 rfl d8_tell_1 ?_
  refine sd_iconst (pc := 4) 5 d8_tell_4 ci_5 ?_
  refine sd_iload_n (pc := 5) d8_tell_5 rfl ?_
  refine sd_imul (pc := 6) d8_tell_6 ?_
  refine sd_iload_n (pc := 7) d8_tell_7 rfl ?_
  refine sd_iadd (pc := 8) d8_tell_8 ?_
  refine sd_iald (pc := 9) (show sm_sq 63 = some (.inl (.int, 60)) from rfl) d8_tell_9 (fun v1 => ?_)
  exact sd_iret (pc := 10) d8_tell_10 rfl (Nat.zero_le _) (Nat.zero_le _)
set_option maxHeartbeats 4000000 in
set_option maxRecDepth 20000 in
theorem s8_undo {N : Nat} (F : Nat) (l1 : Int32) (l2 : Int32) (S : sm_t) : sm_P (sm_jI N) k8_undo [.ref 52, .int l1, .int l2] (sm_m N S) (x8_undo F l1 l2 S) := by
  show sm_S (sm_jI N) k8_undo 0 0 0 [some (.ref 52), some (.int l1), some (.int l2), none] [] (sm_m N S) (x8_undo F l1 l2 S)
  unfold x8_undo
  refine sd_aload_n (pc := 0) d8_undo_0 rfl ?_
  refine sd_iload_n (pc := 1) d8_undo_1 rfl ?_
  refine sd_cVI (k2 := k8_isSign) (As := [.int l1]) (rest := []) (b := 52) (ci := 7) (pc := 2) 172 (show sm_sq 52 = some (.inr 7) from rfl) (by decide) rfl d8_undo_2 ml8_172 (ms8_isSign).1 (ms8_isSign).2 (me8_isSign) ⟨rfl, rfl⟩ ⟨Nat.le_of_ble_eq_true rfl, Nat.le_of_ble_eq_true rfl⟩ (Nat.le_of_ble_eq_true rfl) (Nat.le_of_ble_eq_true rfl) (Or.inr rfl) (Nat.zero_le _) (Nat.zero_le _) rfl (s8_isSign F l1 S) (fun v1 S => ?_)
  refine sd_if_eq (pc := 5) 17 d8_undo_5 (by decide) (fun _ => ?_) (fun _ => ?_)
  · refine sd_iconst (pc := 17) (-1) d8_undo_17 ci_m1 ?_
    exact sd_iret (pc := 18) d8_undo_18 rfl (Nat.zero_le _) (Nat.zero_le _)
  · refine sd_iload_n (pc := 8) d8_undo_8 rfl ?_
    refine sd_iconst (pc := 9) 0 d8_undo_9 ci_0 ?_
    refine sd_iconst (pc := 10) 1 d8_undo_10 ci_1 ?_
    refine sd_cSI (k2 := k8_in) (As := [.int l2, .int 0, .int 1]) (rest := []) (pc := 11) 80 d8_undo_11 ml8_80 (ms8_in) (me8_in) ⟨rfl, rfl⟩ ⟨Nat.le_of_ble_eq_true rfl, Nat.le_of_ble_eq_true rfl⟩ (Nat.le_of_ble_eq_true rfl) (Nat.le_of_ble_eq_true rfl) (Or.inr rfl) (Nat.zero_le _) (Nat.zero_le _) rfl (s8_in F l2 0 1 S) (fun v2 S => ?_)
    refine sd_if_ne (pc := 14) 19 d8_undo_14 (by decide) (fun _ => ?_) (fun _ => ?_)
    · refine sd_iconst (pc := 17) (-1) d8_undo_17 ci_m1 ?_
      exact sd_iret (pc := 18) d8_undo_18 rfl (Nat.zero_le _) (Nat.zero_le _)
    · refine sd_aload_n (pc := 19) d8_undo_19 rfl ?_
      refine sd_iload_n (pc := 20) d8_undo_20 rfl ?_
      refine sd_iconst (pc := 21) 4 d8_undo_21 ci_4 ?_
      refine sd_cVI (k2 := k8_tell) (As := [.int l1, .int 4]) (rest := []) (b := 52) (ci := 7) (pc := 22) 175 (show sm_sq 52 = some (.inr 7) from rfl) (by decide) rfl d8_undo_22 ml8_175 (ms8_tell).1 (ms8_tell).2 (me8_tell) ⟨rfl, rfl⟩ ⟨Nat.le_of_ble_eq_true rfl, Nat.le_of_ble_eq_true rfl⟩ (Nat.le_of_ble_eq_true rfl) (Nat.le_of_ble_eq_true rfl) (Or.inl rfl) (Nat.zero_le _) (Nat.zero_le _) rfl (s8_tell F l1 4 S) (fun v3 S => ?_)
      refine sd_istore_n (lf2 := [some (.ref 52), some (.int l1), some (.int l2), some (.int v3)]) (pc := 25) d8_undo_25 (Nat.le_of_ble_eq_true rfl) rfl ?_
      refine sd_aload_n (pc := 26) d8_undo_26 rfl ?_
      refine sd_getR (pc := 27) 63 (show sm_sq 52 = some (.inr 7) from rfl) rfl fl8_45 rfl d8_undo_27 ?_
      refine sd_iconst (pc := 30) 5 d8_undo_30 ci_5 ?_
      refine sd_iload_n (pc := 31) d8_undo_31 rfl ?_
      refine sd_imul (pc := 32) d8_undo_32 ?_
      refine sd_iconst (pc := 33) 4 d8_undo_33 ci_4 ?_
      refine sd_iadd (pc := 34) d8_undo_34 ?_
      refine sd_iload_n (pc := 35) d8_undo_35 rfl ?_
      refine sd_iast (pc := 36) (show sm_sq 63 = some (.inl (.int, 60)) from rfl) d8_undo_36 (fun S => ?_)
      refine sd_iload_n (pc := 37) d8_undo_37 rfl ?_
      exact sd_iret (pc := 38) d8_undo_38 rfl (Nat.zero_le _) (Nat.zero_le _)
set_option maxHeartbeats 4000000 in
set_option maxRecDepth 20000 in
theorem s6_number {N : Nat} (F : Nat) (l0 : Nat) (l1 : Int32) (S : sm_t) : sm_P (sm_jI N) k6_number [.ref l0, .int l1] (sm_m N S) (x6_number F l0 l1 S) := by
  show sm_S (sm_jI N) k6_number 0 0 0 [some (.ref l0), some (.int l1)] [] (sm_m N S) (x6_number F l0 l1 S)
  unfold x6_number
  refine sd_iload_n (pc := 0) d6_number_0 rfl ?_
  refine sd_ite (fun h3 => ?_) (fun _ => ?_)
  · refine sd_swo (pc := 1) 52 d6_number_1 (sm_so (by decide) (by decide) h3) (by decide) ?_
    refine sd_aload_n (pc := 52) d6_number_52 rfl ?_
    refine sd_on (fun h1 => ?_)
    refine sd_getI (pc := 53) h1 rfl fl6_24 d6_number_53 (fun v2 => ?_)
    refine sd_if_eq (pc := 56) 63 d6_number_56 (by decide) (fun _ => ?_) (fun _ => ?_)
    · refine sd_iconst (pc := 63) 0 d6_number_63 ci_0 ?_
      exact sd_iret (pc := 64) d6_number_64 rfl (Nat.zero_le _) (Nat.zero_le _)
    · refine sd_iconst (pc := 59) 1 d6_number_59 ci_1 ?_
      refine sd_goto (pc := 60) 64 d6_number_60 (by decide) ?_
      exact sd_iret (pc := 64) d6_number_64 rfl (Nat.zero_le _) (Nat.zero_le _)
  refine sd_ite (fun h6 => ?_) (fun _ => ?_)
  · refine sd_swi (off := 31) (pc := 1) 32 d6_number_1 (by rw [h6]; decide) (by rw [h6]; decide) (by rw [h6]; decide) (by decide) ?_
    refine sd_aload_n (pc := 32) d6_number_32 rfl ?_
    refine sd_on (fun h4 => ?_)
    refine sd_getI (pc := 33) h4 rfl fl6_11 d6_number_33 (fun v5 => ?_)
    exact sd_iret (pc := 36) d6_number_36 rfl (Nat.zero_le _) (Nat.zero_le _)
  refine sd_ite (fun h9 => ?_) (fun _ => ?_)
  · refine sd_swi (off := 36) (pc := 1) 37 d6_number_1 (by rw [h9]; decide) (by rw [h9]; decide) (by rw [h9]; decide) (by decide) ?_
    refine sd_aload_n (pc := 37) d6_number_37 rfl ?_
    refine sd_on (fun h7 => ?_)
    refine sd_getI (pc := 38) h7 rfl fl6_15 d6_number_38 (fun v8 => ?_)
    exact sd_iret (pc := 41) d6_number_41 rfl (Nat.zero_le _) (Nat.zero_le _)
  refine sd_ite (fun h12 => ?_) (fun _ => ?_)
  · refine sd_swi (off := 41) (pc := 1) 42 d6_number_1 (by rw [h12]; decide) (by rw [h12]; decide) (by rw [h12]; decide) (by decide) ?_
    refine sd_aload_n (pc := 42) d6_number_42 rfl ?_
    refine sd_on (fun h10 => ?_)
    refine sd_getI (pc := 43) h10 rfl fl6_18 d6_number_43 (fun v11 => ?_)
    exact sd_iret (pc := 46) d6_number_46 rfl (Nat.zero_le _) (Nat.zero_le _)
  refine sd_ite (fun h15 => ?_) (fun _ => ?_)
  · refine sd_swi (off := 46) (pc := 1) 47 d6_number_1 (by rw [h15]; decide) (by rw [h15]; decide) (by rw [h15]; decide) (by decide) ?_
    refine sd_aload_n (pc := 47) d6_number_47 rfl ?_
    refine sd_on (fun h13 => ?_)
    refine sd_getI (pc := 48) h13 rfl fl6_21 d6_number_48 (fun v14 => ?_)
    exact sd_iret (pc := 51) d6_number_51 rfl (Nat.zero_le _) (Nat.zero_le _)
  exact sd_none
set_option maxHeartbeats 4000000 in
set_option maxRecDepth 20000 in
theorem s7_told {N : Nat} (F : Nat) (l1 : Int32) (l2 : Int32) (S : sm_t) : sm_P (sm_jI N) k7_told [.ref 3, .int l1, .int l2] (sm_m N S) (x7_told F l1 l2 S) := by
  show sm_S (sm_jI N) k7_told 0 0 0 [some (.ref 3), some (.int l1), some (.int l2)] [] (sm_m N S) (x7_told F l1 l2 S)
  unfold x7_told
  refine sd_aload_n (pc := 0) d7_told_0 rfl ?_
  refine sd_getR (pc := 1) 22 (show sm_sq 3 = some (.inr 6) from rfl) rfl fl7_42 rfl d7_told_1 ?_
  refine sd_iload_n (pc := 4) d7_told_4 rfl ?_
  refine sd_cVI (k2 := k0_has) (As := [.int l1]) (rest := []) (b := 22) (ci := 0) (pc := 5) 184 (show sm_sq 22 = some (.inr 0) from rfl) (by decide) rfl d7_told_5 ml7_184 (ms0_has).1 (ms0_has).2 (me0_has) ⟨rfl, rfl⟩ ⟨Nat.le_of_ble_eq_true rfl, Nat.le_of_ble_eq_true rfl⟩ (Nat.le_of_ble_eq_true rfl) (Nat.le_of_ble_eq_true rfl) (Or.inr rfl) (Nat.zero_le _) (Nat.zero_le _) rfl (s0_has F l1 S) (fun v1 S => ?_)
  refine sd_if_eq (pc := 8) 19 d7_told_8 (by decide) (fun _ => ?_) (fun _ => ?_)
  · refine sd_iconst (pc := 19) (-1) d7_told_19 ci_m1 ?_
    exact sd_iret (pc := 20) d7_told_20 rfl (Nat.zero_le _) (Nat.zero_le _)
  · refine sd_iload_n (pc := 11) d7_told_11 rfl ?_
    refine sd_iconst (pc := 12) 4 d7_told_12 ci_4 ?_
    refine sd_cSI (k2 := k7_isWithin) (As := [.int l2, .int 4]) (rest := []) (pc := 13) 137 d7_told_13 ml7_137 (ms7_isWithin) (me7_isWithin) ⟨rfl, rfl⟩ ⟨Nat.le_of_ble_eq_true rfl, Nat.le_of_ble_eq_true rfl⟩ (Nat.le_of_ble_eq_true rfl) (Nat.le_of_ble_eq_true rfl) (Or.inr rfl) (Nat.zero_le _) (Nat.zero_le _) rfl (s7_isWithin F l2 4 S) (fun v2 S => ?_)
    refine sd_if_ne (pc := 16) 21 d7_told_16 (by decide) (fun _ => ?_) (fun _ => ?_)
    · refine sd_iconst (pc := 19) (-1) d7_told_19 ci_m1 ?_
      exact sd_iret (pc := 20) d7_told_20 rfl (Nat.zero_le _) (Nat.zero_le _)
    · refine sd_aload_n (pc := 21) d7_told_21 rfl ?_
      refine sd_aload_n (pc := 22) d7_told_22 rfl ?_
      refine sd_getR (pc := 23) 22 (show sm_sq 3 = some (.inr 6) from rfl) rfl fl7_42 rfl d7_told_23 ?_
      refine sd_getR (pc := 26) 23 (show sm_sq 22 = some (.inr 0) from rfl) rfl fl7_187 rfl d7_told_26 ?_
      refine sd_iload_n (pc := 29) d7_told_29 rfl ?_
      refine sd_aald (pc := 30) 6 (show sm_sq 23 = some (.inl (.object "TwoFliers$Sign", 12)) from rfl) rfl rfl (fun _ => rfl) (fun _ _ _ _ h => if_pos h) d7_told_30 (fun a3 => ?_)
      refine sd_iload_n (pc := 31) d7_told_31 rfl ?_
      refine sd_on (fun h5 => ?_)
      refine sd_cVI (k2 := k6_number) (As := [.int l2]) (rest := [.ref 3]) (b := a3) (ci := 5) (pc := 32) 195 h5 (by decide) rfl d7_told_32 ml7_195 (ms6_number).1 (ms6_number).2 (me6_number) ⟨rfl, rfl⟩ ⟨Nat.le_of_ble_eq_true rfl, Nat.le_of_ble_eq_true rfl⟩ (Nat.le_of_ble_eq_true rfl) (Nat.le_of_ble_eq_true rfl) (Or.inl rfl) (Nat.zero_le _) (Nat.zero_le _) rfl (s6_number F a3 l2 S) (fun v4 S => ?_)
      refine sd_putI (pc := 35) (show sm_sq 3 = some (.inr 6) from rfl) rfl fl7_65 rfl d7_told_35 (fun S => ?_)
      refine sd_iconst (pc := 38) 1 d7_told_38 ci_1 ?_
      exact sd_iret (pc := 39) d7_told_39 rfl (Nat.zero_le _) (Nat.zero_le _)
set_option maxHeartbeats 4000000 in
set_option maxRecDepth 20000 in
theorem s8_told {N : Nat} (F : Nat) (l1 : Int32) (l2 : Int32) (S : sm_t) : sm_P (sm_jI N) k8_told [.ref 52, .int l1, .int l2] (sm_m N S) (x8_told F l1 l2 S) := by
  show sm_S (sm_jI N) k8_told 0 0 0 [some (.ref 52), some (.int l1), some (.int l2)] [] (sm_m N S) (x8_told F l1 l2 S)
  unfold x8_told
  refine sd_aload_n (pc := 0) d8_told_0 rfl ?_
  refine sd_iload_n (pc := 1) d8_told_1 rfl ?_
  refine sd_cVI (k2 := k8_isSign) (As := [.int l1]) (rest := []) (b := 52) (ci := 7) (pc := 2) 172 (show sm_sq 52 = some (.inr 7) from rfl) (by decide) rfl d8_told_2 ml8_172 (ms8_isSign).1 (ms8_isSign).2 (me8_isSign) ⟨rfl, rfl⟩ ⟨Nat.le_of_ble_eq_true rfl, Nat.le_of_ble_eq_true rfl⟩ (Nat.le_of_ble_eq_true rfl) (Nat.le_of_ble_eq_true rfl) (Or.inr rfl) (Nat.zero_le _) (Nat.zero_le _) rfl (s8_isSign F l1 S) (fun v1 S => ?_)
  refine sd_if_eq (pc := 5) 31 d8_told_5 (by decide) (fun _ => ?_) (fun _ => ?_)
  · refine sd_iconst (pc := 31) (-1) d8_told_31 ci_m1 ?_
    exact sd_iret (pc := 32) d8_told_32 rfl (Nat.zero_le _) (Nat.zero_le _)
  · refine sd_iload_n (pc := 8) d8_told_8 rfl ?_
    refine sd_iconst (pc := 9) 0 d8_told_9 ci_0 ?_
    refine sd_iconst (pc := 10) 4 d8_told_10 ci_4 ?_
    refine sd_cSI (k2 := k8_in) (As := [.int l2, .int 0, .int 4]) (rest := []) (pc := 11) 80 d8_told_11 ml8_80 (ms8_in) (me8_in) ⟨rfl, rfl⟩ ⟨Nat.le_of_ble_eq_true rfl, Nat.le_of_ble_eq_true rfl⟩ (Nat.le_of_ble_eq_true rfl) (Nat.le_of_ble_eq_true rfl) (Or.inr rfl) (Nat.zero_le _) (Nat.zero_le _) rfl (s8_in F l2 0 4 S) (fun v2 S => ?_)
    refine sd_if_eq (pc := 14) 31 d8_told_14 (by decide) (fun _ => ?_) (fun _ => ?_)
    · refine sd_iconst (pc := 31) (-1) d8_told_31 ci_m1 ?_
      exact sd_iret (pc := 32) d8_told_32 rfl (Nat.zero_le _) (Nat.zero_le _)
    · refine sd_aload_n (pc := 17) d8_told_17 rfl ?_
      refine sd_aload_n (pc := 18) d8_told_18 rfl ?_
      refine sd_iload_n (pc := 19) d8_told_19 rfl ?_
      refine sd_iload_n (pc := 20) d8_told_20 rfl ?_
      refine sd_cVI (k2 := k8_tell) (As := [.int l1, .int l2]) (rest := [.ref 52]) (b := 52) (ci := 7) (pc := 21) 175 (show sm_sq 52 = some (.inr 7) from rfl) (by decide) rfl d8_told_21 ml8_175 (ms8_tell).1 (ms8_tell).2 (me8_tell) ⟨rfl, rfl⟩ ⟨Nat.le_of_ble_eq_true rfl, Nat.le_of_ble_eq_true rfl⟩ (Nat.le_of_ble_eq_true rfl) (Nat.le_of_ble_eq_true rfl) (Or.inl rfl) (Nat.zero_le _) (Nat.zero_le _) rfl (s8_tell F l1 l2 S) (fun v3 S => ?_)
      refine sd_iconst (pc := 24) 1 d8_told_24 ci_1 ?_
      refine sd_cVI (k2 := k8_ask) (As := [.int v3, .int 1]) (rest := []) (b := 52) (ci := 7) (pc := 25) 102 (show sm_sq 52 = some (.inr 7) from rfl) (by decide) rfl d8_told_25 ml8_102 (ms8_ask).1 (ms8_ask).2 (me8_ask) ⟨rfl, rfl⟩ ⟨Nat.le_of_ble_eq_true rfl, Nat.le_of_ble_eq_true rfl⟩ (Nat.le_of_ble_eq_true rfl) (Nat.le_of_ble_eq_true rfl) (Or.inl rfl) (Nat.zero_le _) (Nat.zero_le _) rfl (s8_ask F v3 1 S) (fun v4 S => ?_)
      refine sd_goto (pc := 28) 32 d8_told_28 (by decide) ?_
      exact sd_iret (pc := 32) d8_told_32 rfl (Nat.zero_le _) (Nat.zero_le _)
set_option maxHeartbeats 4000000 in
set_option maxRecDepth 20000 in
theorem s6_is {N : Nat} (F : Nat) (l0 : Nat) (l1 : Int32) (S : sm_t) : sm_P (sm_jI N) k6_is [.ref l0, .int l1] (sm_m N S) (x6_is F l0 l1 S) := by
  show sm_S (sm_jI N) k6_is 0 0 0 [some (.ref l0), some (.int l1)] [] (sm_m N S) (x6_is F l0 l1 S)
  unfold x6_is
  refine sd_aload_n (pc := 0) d6_is_0 rfl ?_
  refine sd_on (fun h1 => ?_)
  refine sd_getI (pc := 1) h1 rfl fl6_11 d6_is_1 (fun v2 => ?_)
  refine sd_iload_n (pc := 4) d6_is_4 rfl ?_
  refine sd_ic_eq (pc := 5) 22 d6_is_5 (by decide) (fun _ => ?_) (fun _ => ?_)
  · refine sd_iconst (pc := 22) 1 d6_is_22 ci_1 ?_
    refine sd_goto (pc := 23) 27 d6_is_23 (by decide) ?_
    exact sd_zret (pc := 27) d6_is_27 (by decide) (Nat.zero_le _) (Nat.zero_le _)
  · refine sd_aload_n (pc := 8) d6_is_8 rfl ?_
    refine sd_getI (pc := 9) h1 rfl fl6_11 d6_is_9 (fun v3 => ?_)
    refine sd_bipush (pc := 12) 6 d6_is_12 cb_6 ?_
    refine sd_ic_ne (pc := 14) 26 d6_is_14 (by decide) (fun _ => ?_) (fun _ => ?_)
    · refine sd_iload_n (pc := 17) d6_is_17 rfl ?_
      refine sd_iconst (pc := 18) 5 d6_is_18 ci_5 ?_
      refine sd_ic_ne (pc := 19) 26 d6_is_19 (by decide) (fun _ => ?_) (fun _ => ?_)
      · refine sd_iconst (pc := 22) 1 d6_is_22 ci_1 ?_
        refine sd_goto (pc := 23) 27 d6_is_23 (by decide) ?_
        exact sd_zret (pc := 27) d6_is_27 (by decide) (Nat.zero_le _) (Nat.zero_le _)
      · refine sd_iconst (pc := 26) 0 d6_is_26 ci_0 ?_
        exact sd_zret (pc := 27) d6_is_27 (by decide) (Nat.zero_le _) (Nat.zero_le _)
    · refine sd_iconst (pc := 26) 0 d6_is_26 ci_0 ?_
      exact sd_zret (pc := 27) d6_is_27 (by decide) (Nat.zero_le _) (Nat.zero_le _)
set_option maxHeartbeats 4000000 in
set_option maxRecDepth 20000 in
theorem s6_heardWeight {N : Nat} (F : Nat) (l0 : Int32) (l1 : Int32) (S : sm_t) : sm_P (sm_jI N) k6_heardWeight [.int l0, .int l1] (sm_m N S) (x6_heardWeight F l0 l1 S) := by
  show sm_S (sm_jI N) k6_heardWeight 0 0 0 [some (.int l0), some (.int l1)] [] (sm_m N S) (x6_heardWeight F l0 l1 S)
  unfold x6_heardWeight
  refine sd_iload_n (pc := 0) d6_heardWeight_0 rfl ?_
  refine sd_iconst (pc := 1) 5 d6_heardWeight_1 ci_5 ?_
  refine sd_iload_n (pc := 2) d6_heardWeight_2 rfl ?_
  refine sd_isub (pc := 3) d6_heardWeight_3 ?_
  refine sd_iconst (pc := 4) 0 d6_heardWeight_4 ci_0 ?_
  refine sd_mmax (pc := 5) 71 sl6_71 (Nat.le_of_ble_eq_true rfl) (Nat.le_of_ble_eq_true rfl) (Nat.zero_le _) (Nat.zero_le _) d6_heardWeight_5 ?_
  refine sd_isub (pc := 8) d6_heardWeight_8 ?_
  refine sd_mabs (pc := 9) 56 sl6_56 (Nat.le_of_ble_eq_true rfl) (Nat.le_of_ble_eq_true rfl) (Nat.zero_le _) (Nat.zero_le _) d6_heardWeight_9 ?_
  refine sd_ni (fun v1 => ?_)
  refine sd_ite (fun h2 => ?_) (fun _ => ?_)
  · refine sd_swo (pc := 12) 54 d6_heardWeight_12 (sm_so (by decide) (by decide) h2) (by decide) ?_
    refine sd_iconst (pc := 54) 0 d6_heardWeight_54 ci_0 ?_
    exact sd_iret (pc := 55) d6_heardWeight_55 rfl (Nat.zero_le _) (Nat.zero_le _)
  refine sd_ite (fun h3 => ?_) (fun _ => ?_)
  · refine sd_swi (off := 32) (pc := 12) 44 d6_heardWeight_12 (by rw [h3]; decide) (by rw [h3]; decide) (by rw [h3]; decide) (by decide) ?_
    refine sd_bipush (pc := 44) 12 d6_heardWeight_44 cb_12 ?_
    exact sd_iret (pc := 46) d6_heardWeight_46 rfl (Nat.zero_le _) (Nat.zero_le _)
  refine sd_ite (fun h4 => ?_) (fun _ => ?_)
  · refine sd_swi (off := 35) (pc := 12) 47 d6_heardWeight_12 (by rw [h4]; decide) (by rw [h4]; decide) (by rw [h4]; decide) (by decide) ?_
    refine sd_bipush (pc := 47) 8 d6_heardWeight_47 cb_8 ?_
    exact sd_iret (pc := 49) d6_heardWeight_49 rfl (Nat.zero_le _) (Nat.zero_le _)
  refine sd_ite (fun h5 => ?_) (fun _ => ?_)
  · refine sd_swi (off := 38) (pc := 12) 50 d6_heardWeight_12 (by rw [h5]; decide) (by rw [h5]; decide) (by rw [h5]; decide) (by decide) ?_
    refine sd_iconst (pc := 50) 4 d6_heardWeight_50 ci_4 ?_
    exact sd_iret (pc := 51) d6_heardWeight_51 rfl (Nat.zero_le _) (Nat.zero_le _)
  refine sd_ite (fun h6 => ?_) (fun _ => ?_)
  · refine sd_swi (off := 40) (pc := 12) 52 d6_heardWeight_12 (by rw [h6]; decide) (by rw [h6]; decide) (by rw [h6]; decide) (by decide) ?_
    refine sd_iconst (pc := 52) 1 d6_heardWeight_52 ci_1 ?_
    exact sd_iret (pc := 53) d6_heardWeight_53 rfl (Nat.zero_le _) (Nat.zero_le _)
  exact sd_none
set_option maxHeartbeats 4000000 in
set_option maxRecDepth 20000 in
theorem s6_nearestHeard_2 {N : Nat} (F : Nat) : ∀ (f : Nat) (l0 : Int32) (l1 : Int32) (S : sm_t), sm_S (sm_jI N) k6_nearestHeard 0 0 2 [some (.int l0), some (.int l1)] [] (sm_m N S) (x6_nearestHeard_2 F f l0 l1 S) := by
  intro f
  induction f with
  | zero =>
    intro l0 l1 S
    exact sd_none
  | succ f ih =>
    intro l0 l1 S
    rw [x6_nearestHeard_2]
    refine sd_iload_n (pc := 2) d6_nearestHeard_2 rfl ?_
    refine sd_bipush (pc := 3) 11 d6_nearestHeard_3 cb_11 ?_
    refine sd_ic_gt (pc := 5) 26 d6_nearestHeard_5 (by decide) (fun _ => ?_) (fun _ => ?_)
    · refine sd_bipush (pc := 26) (-9) d6_nearestHeard_26 cb_m9 ?_
      exact sd_iret (pc := 28) d6_nearestHeard_28 rfl (Nat.zero_le _) (Nat.zero_le _)
    · refine sd_iload_n (pc := 8) d6_nearestHeard_8 rfl ?_
      refine sd_iload_n (pc := 9) d6_nearestHeard_9 rfl ?_
      refine sd_cSI (k2 := k6_heardWeight) (As := [.int l0, .int l1]) (rest := []) (pc := 10) 50 d6_nearestHeard_10 ml6_50 (ms6_heardWeight) (me6_heardWeight) ⟨rfl, rfl⟩ ⟨Nat.le_of_ble_eq_true rfl, Nat.le_of_ble_eq_true rfl⟩ (Nat.le_of_ble_eq_true rfl) (Nat.le_of_ble_eq_true rfl) (Or.inl rfl) (Nat.zero_le _) (Nat.zero_le _) rfl (s6_heardWeight F l0 l1 S) (fun v1 S => ?_)
      refine sd_bipush (pc := 13) 8 d6_nearestHeard_13 cb_8 ?_
      refine sd_ic_lt (pc := 15) 20 d6_nearestHeard_15 (by decide) (fun _ => ?_) (fun _ => ?_)
      · refine sd_iinc (lf2 := [some (.int l0), some (.int (l1 + 1))]) (pc := 20) d6_nearestHeard_20 (Nat.le_of_ble_eq_true rfl) rfl ci_1 rfl ?_
        refine sd_goto (pc := 23) 2 d6_nearestHeard_23 (by decide) ?_
        exact ih l0 (l1 + 1) S
      · refine sd_iload_n (pc := 18) d6_nearestHeard_18 rfl ?_
        exact sd_iret (pc := 19) d6_nearestHeard_19 rfl (Nat.zero_le _) (Nat.zero_le _)
set_option maxHeartbeats 4000000 in
set_option maxRecDepth 20000 in
theorem s6_nearestHeard {N : Nat} (F : Nat) (l0 : Int32) (S : sm_t) : sm_P (sm_jI N) k6_nearestHeard [.int l0] (sm_m N S) (x6_nearestHeard F l0 S) := by
  show sm_S (sm_jI N) k6_nearestHeard 0 0 0 [some (.int l0), none] [] (sm_m N S) (x6_nearestHeard F l0 S)
  unfold x6_nearestHeard
  refine sd_iconst (pc := 0) 0 d6_nearestHeard_0 ci_0 ?_
  refine sd_istore_n (lf2 := [some (.int l0), some (.int 0)]) (pc := 1) d6_nearestHeard_1 (Nat.le_of_ble_eq_true rfl) rfl ?_
  exact s6_nearestHeard_2 F F l0 0 S
set_option maxHeartbeats 4000000 in
set_option maxRecDepth 20000 in
theorem s6_isBetween {N : Nat} (F : Nat) (l0 : Int32) (l1 : Int32) (l2 : Int32) (S : sm_t) : sm_P (sm_jI N) k6_isBetween [.int l0, .int l1, .int l2] (sm_m N S) (x6_isBetween F l0 l1 l2 S) := by
  show sm_S (sm_jI N) k6_isBetween 0 0 0 [some (.int l0), some (.int l1), some (.int l2)] [] (sm_m N S) (x6_isBetween F l0 l1 l2 S)
  unfold x6_isBetween
  refine sd_iload_n (pc := 0) d6_isBetween_0 rfl ?_
  refine sd_iload_n (pc := 1) d6_isBetween_1 rfl ?_
  refine sd_ic_gt (pc := 2) 23 d6_isBetween_2 (by decide) (fun _ => ?_) (fun _ => ?_)
  · refine sd_iload_n (pc := 23) d6_isBetween_23 rfl ?_
    refine sd_iload_n (pc := 24) d6_isBetween_24 rfl ?_
    refine sd_ic_lt (pc := 25) 37 d6_isBetween_25 (by decide) (fun _ => ?_) (fun _ => ?_)
    · refine sd_iconst (pc := 37) 0 d6_isBetween_37 ci_0 ?_
      exact sd_zret (pc := 38) d6_isBetween_38 (by decide) (Nat.zero_le _) (Nat.zero_le _)
    · refine sd_iload_n (pc := 28) d6_isBetween_28 rfl ?_
      refine sd_iload_n (pc := 29) d6_isBetween_29 rfl ?_
      refine sd_ic_gt (pc := 30) 37 d6_isBetween_30 (by decide) (fun _ => ?_) (fun _ => ?_)
      · refine sd_iconst (pc := 37) 0 d6_isBetween_37 ci_0 ?_
        exact sd_zret (pc := 38) d6_isBetween_38 (by decide) (Nat.zero_le _) (Nat.zero_le _)
      · refine sd_iconst (pc := 33) 1 d6_isBetween_33 ci_1 ?_
        refine sd_goto (pc := 34) 38 d6_isBetween_34 (by decide) ?_
        exact sd_zret (pc := 38) d6_isBetween_38 (by decide) (Nat.zero_le _) (Nat.zero_le _)
  · refine sd_iload_n (pc := 5) d6_isBetween_5 rfl ?_
    refine sd_iload_n (pc := 6) d6_isBetween_6 rfl ?_
    refine sd_ic_lt (pc := 7) 19 d6_isBetween_7 (by decide) (fun _ => ?_) (fun _ => ?_)
    · refine sd_iconst (pc := 19) 0 d6_isBetween_19 ci_0 ?_
      refine sd_goto (pc := 20) 38 d6_isBetween_20 (by decide) ?_
      exact sd_zret (pc := 38) d6_isBetween_38 (by decide) (Nat.zero_le _) (Nat.zero_le _)
    · refine sd_iload_n (pc := 10) d6_isBetween_10 rfl ?_
      refine sd_iload_n (pc := 11) d6_isBetween_11 rfl ?_
      refine sd_ic_gt (pc := 12) 19 d6_isBetween_12 (by decide) (fun _ => ?_) (fun _ => ?_)
      · refine sd_iconst (pc := 19) 0 d6_isBetween_19 ci_0 ?_
        refine sd_goto (pc := 20) 38 d6_isBetween_20 (by decide) ?_
        exact sd_zret (pc := 38) d6_isBetween_38 (by decide) (Nat.zero_le _) (Nat.zero_le _)
      · refine sd_iconst (pc := 15) 1 d6_isBetween_15 ci_1 ?_
        refine sd_goto (pc := 16) 38 d6_isBetween_16 (by decide) ?_
        exact sd_zret (pc := 38) d6_isBetween_38 (by decide) (Nat.zero_le _) (Nat.zero_le _)
set_option maxHeartbeats 4000000 in
set_option maxRecDepth 20000 in
theorem s6_saw {N : Nat} (F : Nat) (l0 : Nat) (l1 : Int32) (S : sm_t) : sm_P (sm_jI N) k6_saw [.ref l0, .int l1] (sm_m N S) (x6_saw F l0 l1 S) := by
  show sm_S (sm_jI N) k6_saw 0 0 0 [some (.ref l0), some (.int l1)] [] (sm_m N S) (x6_saw F l0 l1 S)
  unfold x6_saw
  refine sd_iload_n (pc := 0) d6_saw_0 rfl ?_
  refine sd_bipush (pc := 1) 12 d6_saw_1 cb_12 ?_
  refine sd_irem (pc := 3) d6_saw_3 (by decide) ?_
  refine sd_aload_n (pc := 4) d6_saw_4 rfl ?_
  refine sd_on (fun h1 => ?_)
  refine sd_getI (pc := 5) h1 rfl fl6_15 d6_saw_5 (fun v2 => ?_)
  refine sd_bipush (pc := 8) 12 d6_saw_8 cb_12 ?_
  refine sd_irem (pc := 10) d6_saw_10 (by decide) ?_
  refine sd_aload_n (pc := 11) d6_saw_11 rfl ?_
  refine sd_getI (pc := 12) h1 rfl fl6_18 d6_saw_12 (fun v3 => ?_)
  refine sd_bipush (pc := 15) 12 d6_saw_15 cb_12 ?_
  refine sd_irem (pc := 17) d6_saw_17 (by decide) ?_
  refine sd_cSI (k2 := k6_isBetween) (As := [.int (sm_ir l1 12), .int (sm_ir v2 12), .int (sm_ir v3 12)]) (rest := []) (pc := 18) 74 d6_saw_18 ml6_74 (ms6_isBetween) (me6_isBetween) ⟨rfl, rfl⟩ ⟨Nat.le_of_ble_eq_true rfl, Nat.le_of_ble_eq_true rfl⟩ (Nat.le_of_ble_eq_true rfl) (Nat.le_of_ble_eq_true rfl) (Or.inr rfl) (Nat.zero_le _) (Nat.zero_le _) rfl (s6_isBetween F (sm_ir l1 12) (sm_ir v2 12) (sm_ir v3 12) S) (fun v4 S => ?_)
  refine sd_if_eq (pc := 21) 52 d6_saw_21 (by decide) (fun _ => ?_) (fun _ => ?_)
  · refine sd_iconst (pc := 52) 0 d6_saw_52 ci_0 ?_
    exact sd_zret (pc := 53) d6_saw_53 (by decide) (Nat.zero_le _) (Nat.zero_le _)
  · refine sd_iload_n (pc := 24) d6_saw_24 rfl ?_
    refine sd_bipush (pc := 25) 12 d6_saw_25 cb_12 ?_
    refine sd_idiv (pc := 27) d6_saw_27 (by decide) ?_
    refine sd_aload_n (pc := 28) d6_saw_28 rfl ?_
    refine sd_getI (pc := 29) h1 rfl fl6_15 d6_saw_29 (fun v5 => ?_)
    refine sd_bipush (pc := 32) 12 d6_saw_32 cb_12 ?_
    refine sd_idiv (pc := 34) d6_saw_34 (by decide) ?_
    refine sd_aload_n (pc := 35) d6_saw_35 rfl ?_
    refine sd_getI (pc := 36) h1 rfl fl6_18 d6_saw_36 (fun v6 => ?_)
    refine sd_bipush (pc := 39) 12 d6_saw_39 cb_12 ?_
    refine sd_idiv (pc := 41) d6_saw_41 (by decide) ?_
    refine sd_cSI (k2 := k6_isBetween) (As := [.int (l1 / 12), .int (v5 / 12), .int (v6 / 12)]) (rest := []) (pc := 42) 74 d6_saw_42 ml6_74 (ms6_isBetween) (me6_isBetween) ⟨rfl, rfl⟩ ⟨Nat.le_of_ble_eq_true rfl, Nat.le_of_ble_eq_true rfl⟩ (Nat.le_of_ble_eq_true rfl) (Nat.le_of_ble_eq_true rfl) (Or.inr rfl) (Nat.zero_le _) (Nat.zero_le _) rfl (s6_isBetween F (l1 / 12) (v5 / 12) (v6 / 12) S) (fun v7 S => ?_)
    refine sd_if_eq (pc := 45) 52 d6_saw_45 (by decide) (fun _ => ?_) (fun _ => ?_)
    · refine sd_iconst (pc := 52) 0 d6_saw_52 ci_0 ?_
      exact sd_zret (pc := 53) d6_saw_53 (by decide) (Nat.zero_le _) (Nat.zero_le _)
    · refine sd_iconst (pc := 48) 1 d6_saw_48 ci_1 ?_
      refine sd_goto (pc := 49) 53 d6_saw_49 (by decide) ?_
      exact sd_zret (pc := 53) d6_saw_53 (by decide) (Nat.zero_le _) (Nat.zero_le _)
set_option maxHeartbeats 4000000 in
set_option maxRecDepth 20000 in
theorem s6_cellsSeen_4 {N : Nat} (F : Nat) : ∀ (f : Nat) (l0 : Nat) (l1 : Int32) (l2 : Int32) (S : sm_t), sm_S (sm_jI N) k6_cellsSeen 0 0 4 [some (.ref l0), some (.int l1), some (.int l2)] [] (sm_m N S) (x6_cellsSeen_4 F f l0 l1 l2 S) := by
  intro f
  induction f with
  | zero =>
    intro l0 l1 l2 S
    exact sd_none
  | succ f ih =>
    intro l0 l1 l2 S
    rw [x6_cellsSeen_4]
    refine sd_iload_n (pc := 4) d6_cellsSeen_4 rfl ?_
    refine sd_bipush (pc := 5) 120 d6_cellsSeen_5 cb_120 ?_
    refine sd_ic_ge (pc := 7) 32 d6_cellsSeen_7 (by decide) (fun _ => ?_) (fun _ => ?_)
    · refine sd_iload_n (pc := 32) d6_cellsSeen_32 rfl ?_
      exact sd_iret (pc := 33) d6_cellsSeen_33 rfl (Nat.zero_le _) (Nat.zero_le _)
    · refine sd_iload_n (pc := 10) d6_cellsSeen_10 rfl ?_
      refine sd_aload_n (pc := 11) d6_cellsSeen_11 rfl ?_
      refine sd_iload_n (pc := 12) d6_cellsSeen_12 rfl ?_
      refine sd_on (fun h2 => ?_)
      refine sd_cVI (k2 := k6_saw) (As := [.int l2]) (rest := [.int l1]) (b := l0) (ci := 5) (pc := 13) 65 h2 (by decide) rfl d6_cellsSeen_13 ml6_65 (ms6_saw).1 (ms6_saw).2 (me6_saw) ⟨rfl, rfl⟩ ⟨Nat.le_of_ble_eq_true rfl, Nat.le_of_ble_eq_true rfl⟩ (Nat.le_of_ble_eq_true rfl) (Nat.le_of_ble_eq_true rfl) (Or.inr rfl) (Nat.zero_le _) (Nat.zero_le _) rfl (s6_saw F l0 l2 S) (fun v1 S => ?_)
      refine sd_if_eq (pc := 16) 23 d6_cellsSeen_16 (by decide) (fun _ => ?_) (fun _ => ?_)
      · refine sd_iconst (pc := 23) 0 d6_cellsSeen_23 ci_0 ?_
        refine sd_iadd (pc := 24) d6_cellsSeen_24 ?_
        refine sd_ni (fun v3 => ?_)
        refine sd_istore_n (lf2 := [some (.ref l0), some (.int v3), some (.int l2)]) (pc := 25) d6_cellsSeen_25 (Nat.le_of_ble_eq_true rfl) rfl ?_
        refine sd_iinc (lf2 := [some (.ref l0), some (.int v3), some (.int (l2 + 1))]) (pc := 26) d6_cellsSeen_26 (Nat.le_of_ble_eq_true rfl) rfl ci_1 rfl ?_
        refine sd_goto (pc := 29) 4 d6_cellsSeen_29 (by decide) ?_
        exact ih l0 v3 (l2 + 1) S
      · refine sd_iconst (pc := 19) 1 d6_cellsSeen_19 ci_1 ?_
        refine sd_goto (pc := 20) 24 d6_cellsSeen_20 (by decide) ?_
        refine sd_iadd (pc := 24) d6_cellsSeen_24 ?_
        refine sd_ni (fun v4 => ?_)
        refine sd_istore_n (lf2 := [some (.ref l0), some (.int v4), some (.int l2)]) (pc := 25) d6_cellsSeen_25 (Nat.le_of_ble_eq_true rfl) rfl ?_
        refine sd_iinc (lf2 := [some (.ref l0), some (.int v4), some (.int (l2 + 1))]) (pc := 26) d6_cellsSeen_26 (Nat.le_of_ble_eq_true rfl) rfl ci_1 rfl ?_
        refine sd_goto (pc := 29) 4 d6_cellsSeen_29 (by decide) ?_
        exact ih l0 v4 (l2 + 1) S
set_option maxHeartbeats 4000000 in
set_option maxRecDepth 20000 in
theorem s6_cellsSeen {N : Nat} (F : Nat) (l0 : Nat) (S : sm_t) : sm_P (sm_jI N) k6_cellsSeen [.ref l0] (sm_m N S) (x6_cellsSeen F l0 S) := by
  show sm_S (sm_jI N) k6_cellsSeen 0 0 0 [some (.ref l0), none, none] [] (sm_m N S) (x6_cellsSeen F l0 S)
  unfold x6_cellsSeen
  refine sd_iconst (pc := 0) 0 d6_cellsSeen_0 ci_0 ?_
  refine sd_istore_n (lf2 := [some (.ref l0), some (.int 0), none]) (pc := 1) d6_cellsSeen_1 (Nat.le_of_ble_eq_true rfl) rfl ?_
  refine sd_iconst (pc := 2) 0 d6_cellsSeen_2 ci_0 ?_
  refine sd_istore_n (lf2 := [some (.ref l0), some (.int 0), some (.int 0)]) (pc := 3) d6_cellsSeen_3 (Nat.le_of_ble_eq_true rfl) rfl ?_
  exact s6_cellsSeen_4 F F l0 0 0 S
set_option maxHeartbeats 4000000 in
set_option maxRecDepth 20000 in
theorem s6_fixedWeight {N : Nat} (F : Nat) (l0 : Int32) (l1 : Int32) (S : sm_t) : sm_P (sm_jI N) k6_fixedWeight [.int l0, .int l1] (sm_m N S) (x6_fixedWeight F l0 l1 S) := by
  show sm_S (sm_jI N) k6_fixedWeight 0 0 0 [some (.int l0), some (.int l1)] [] (sm_m N S) (x6_fixedWeight F l0 l1 S)
  unfold x6_fixedWeight
  refine sd_iload_n (pc := 0) d6_fixedWeight_0 rfl ?_
  refine sd_iload_n (pc := 1) d6_fixedWeight_1 rfl ?_
  refine sd_ic_gt (pc := 2) 8 d6_fixedWeight_2 (by decide) (fun _ => ?_) (fun _ => ?_)
  · refine sd_iload_n (pc := 8) d6_fixedWeight_8 rfl ?_
    refine sd_iconst (pc := 9) 2 d6_fixedWeight_9 ci_2 ?_
    refine sd_iload_n (pc := 10) d6_fixedWeight_10 rfl ?_
    refine sd_imul (pc := 11) d6_fixedWeight_11 ?_
    refine sd_iconst (pc := 12) 1 d6_fixedWeight_12 ci_1 ?_
    refine sd_iadd (pc := 13) d6_fixedWeight_13 ?_
    refine sd_ic_gt (pc := 14) 21 d6_fixedWeight_14 (by decide) (fun _ => ?_) (fun _ => ?_)
    · refine sd_iconst (pc := 21) 1 d6_fixedWeight_21 ci_1 ?_
      exact sd_iret (pc := 22) d6_fixedWeight_22 rfl (Nat.zero_le _) (Nat.zero_le _)
    · refine sd_iconst (pc := 17) 4 d6_fixedWeight_17 ci_4 ?_
      refine sd_goto (pc := 18) 22 d6_fixedWeight_18 (by decide) ?_
      exact sd_iret (pc := 22) d6_fixedWeight_22 rfl (Nat.zero_le _) (Nat.zero_le _)
  · refine sd_bipush (pc := 5) 12 d6_fixedWeight_5 cb_12 ?_
    exact sd_iret (pc := 7) d6_fixedWeight_7 rfl (Nat.zero_le _) (Nat.zero_le _)
set_option maxHeartbeats 4000000 in
set_option maxRecDepth 20000 in
theorem s6_burntWeight {N : Nat} (F : Nat) (l0 : Int32) (S : sm_t) : sm_P (sm_jI N) k6_burntWeight [.int l0] (sm_m N S) (x6_burntWeight F l0 S) := by
  show sm_S (sm_jI N) k6_burntWeight 0 0 0 [some (.int l0)] [] (sm_m N S) (x6_burntWeight F l0 S)
  unfold x6_burntWeight
  refine sd_iload_n (pc := 0) d6_burntWeight_0 rfl ?_
  refine sd_ite (fun h1 => ?_) (fun _ => ?_)
  · refine sd_swo (pc := 1) 36 d6_burntWeight_1 (sm_so (by decide) (by decide) h1) (by decide) ?_
    refine sd_iconst (pc := 36) 0 d6_burntWeight_36 ci_0 ?_
    exact sd_iret (pc := 37) d6_burntWeight_37 rfl (Nat.zero_le _) (Nat.zero_le _)
  refine sd_ite (fun h2 => ?_) (fun _ => ?_)
  · refine sd_swi (off := 27) (pc := 1) 28 d6_burntWeight_1 (by rw [h2]; decide) (by rw [h2]; decide) (by rw [h2]; decide) (by decide) ?_
    refine sd_bipush (pc := 28) 12 d6_burntWeight_28 cb_12 ?_
    exact sd_iret (pc := 30) d6_burntWeight_30 rfl (Nat.zero_le _) (Nat.zero_le _)
  refine sd_ite (fun h3 => ?_) (fun _ => ?_)
  · refine sd_swi (off := 30) (pc := 1) 31 d6_burntWeight_1 (by rw [h3]; decide) (by rw [h3]; decide) (by rw [h3]; decide) (by decide) ?_
    refine sd_bipush (pc := 31) 6 d6_burntWeight_31 cb_6 ?_
    exact sd_iret (pc := 33) d6_burntWeight_33 rfl (Nat.zero_le _) (Nat.zero_le _)
  refine sd_ite (fun h4 => ?_) (fun _ => ?_)
  · refine sd_swi (off := 33) (pc := 1) 34 d6_burntWeight_1 (by rw [h4]; decide) (by rw [h4]; decide) (by rw [h4]; decide) (by decide) ?_
    refine sd_iconst (pc := 34) 2 d6_burntWeight_34 ci_2 ?_
    exact sd_iret (pc := 35) d6_burntWeight_35 rfl (Nat.zero_le _) (Nat.zero_le _)
  exact sd_none
set_option maxHeartbeats 4000000 in
set_option maxRecDepth 20000 in
theorem s6_isFrom {N : Nat} (F : Nat) (l0 : Nat) (l1 : Int32) (S : sm_t) : sm_P (sm_jI N) k6_isFrom [.ref l0, .int l1] (sm_m N S) (x6_isFrom F l0 l1 S) := by
  show sm_S (sm_jI N) k6_isFrom 0 0 0 [some (.ref l0), some (.int l1)] [] (sm_m N S) (x6_isFrom F l0 l1 S)
  unfold x6_isFrom
  refine sd_aload_n (pc := 0) d6_isFrom_0 rfl ?_
  refine sd_on (fun h1 => ?_)
  refine sd_getI (pc := 1) h1 rfl fl6_15 d6_isFrom_1 (fun v2 => ?_)
  refine sd_iload_n (pc := 4) d6_isFrom_4 rfl ?_
  refine sd_cSI (k2 := k1_sideOn) (As := [.int v2, .int l1]) (rest := []) (pc := 5) 43 d6_isFrom_5 ml6_43 (ms1_sideOn) (me1_sideOn) ⟨rfl, rfl⟩ ⟨Nat.le_of_ble_eq_true rfl, Nat.le_of_ble_eq_true rfl⟩ (Nat.le_of_ble_eq_true rfl) (Nat.le_of_ble_eq_true rfl) (Or.inl rfl) (Nat.zero_le _) (Nat.zero_le _) rfl (s1_sideOn F v2 l1 S) (fun v3 S => ?_)
  refine sd_aload_n (pc := 8) d6_isFrom_8 rfl ?_
  refine sd_getI (pc := 9) h1 rfl fl6_18 d6_isFrom_9 (fun v4 => ?_)
  refine sd_ic_ne (pc := 12) 19 d6_isFrom_12 (by decide) (fun _ => ?_) (fun _ => ?_)
  · refine sd_iconst (pc := 15) 1 d6_isFrom_15 ci_1 ?_
    refine sd_goto (pc := 16) 20 d6_isFrom_16 (by decide) ?_
    exact sd_zret (pc := 20) d6_isFrom_20 (by decide) (Nat.zero_le _) (Nat.zero_le _)
  · refine sd_iconst (pc := 19) 0 d6_isFrom_19 ci_0 ?_
    exact sd_zret (pc := 20) d6_isFrom_20 (by decide) (Nat.zero_le _) (Nat.zero_le _)
set_option maxHeartbeats 4000000 in
set_option maxRecDepth 20000 in
theorem s6_weight {N : Nat} (F : Nat) (l0 : Nat) (l1 : Int32) (S : sm_t) : sm_P (sm_jI N) k6_weight [.ref l0, .int l1] (sm_m N S) (x6_weight F l0 l1 S) := by
  show sm_S (sm_jI N) k6_weight 0 0 0 [some (.ref l0), some (.int l1)] [] (sm_m N S) (x6_weight F l0 l1 S)
  unfold x6_weight
  refine sd_aload_n (pc := 0) d6_weight_0 rfl ?_
  refine sd_on (fun h1 => ?_)
  refine sd_getI (pc := 1) h1 rfl fl6_11 d6_weight_1 (fun v2 => ?_)
  refine sd_ite (fun h3 => ?_) (fun _ => ?_)
  · refine sd_swo (pc := 4) 163 d6_weight_4 (sm_so (by decide) (by decide) h3) (by decide) ?_
    refine sd_bipush (pc := 163) 12 d6_weight_163 cb_12 ?_
    exact sd_iret (pc := 165) d6_weight_165 rfl (Nat.zero_le _) (Nat.zero_le _)
  refine sd_ite (fun h8 => ?_) (fun _ => ?_)
  · refine sd_swi (off := 44) (pc := 4) 48 d6_weight_4 (by rw [h8]; decide) (by rw [h8]; decide) (by rw [h8]; decide) (by decide) ?_
    refine sd_aload_n (pc := 48) d6_weight_48 rfl ?_
    refine sd_getI (pc := 49) h1 rfl fl6_21 d6_weight_49 (fun v4 => ?_)
    refine sd_aload_n (pc := 52) d6_weight_52 rfl ?_
    refine sd_getI (pc := 53) h1 rfl fl6_18 d6_weight_53 (fun v5 => ?_)
    refine sd_iload_n (pc := 56) d6_weight_56 rfl ?_
    refine sd_cSI (k2 := k1_apart) (As := [.int v5, .int l1]) (rest := [.int v4]) (pc := 57) 47 d6_weight_57 ml6_47 (ms1_apart) (me1_apart) ⟨rfl, rfl⟩ ⟨Nat.le_of_ble_eq_true rfl, Nat.le_of_ble_eq_true rfl⟩ (Nat.le_of_ble_eq_true rfl) (Nat.le_of_ble_eq_true rfl) (Or.inl rfl) (Nat.zero_le _) (Nat.zero_le _) rfl (s1_apart F v5 l1 S) (fun v6 S => ?_)
    refine sd_cSI (k2 := k6_heardWeight) (As := [.int v4, .int v6]) (rest := []) (pc := 60) 50 d6_weight_60 ml6_50 (ms6_heardWeight) (me6_heardWeight) ⟨rfl, rfl⟩ ⟨Nat.le_of_ble_eq_true rfl, Nat.le_of_ble_eq_true rfl⟩ (Nat.le_of_ble_eq_true rfl) (Nat.le_of_ble_eq_true rfl) (Or.inl rfl) (Nat.zero_le _) (Nat.zero_le _) rfl (s6_heardWeight F v4 v6 S) (fun v7 S => ?_)
    exact sd_iret (pc := 63) d6_weight_63 rfl (Nat.zero_le _) (Nat.zero_le _)
  refine sd_ite (fun h13 => ?_) (fun _ => ?_)
  · refine sd_swi (off := 60) (pc := 4) 64 d6_weight_4 (by rw [h13]; decide) (by rw [h13]; decide) (by rw [h13]; decide) (by decide) ?_
    refine sd_aload_n (pc := 64) d6_weight_64 rfl ?_
    refine sd_getI (pc := 65) h1 rfl fl6_21 d6_weight_65 (fun v9 => ?_)
    refine sd_aload_n (pc := 68) d6_weight_68 rfl ?_
    refine sd_getI (pc := 69) h1 rfl fl6_18 d6_weight_69 (fun v10 => ?_)
    refine sd_iload_n (pc := 72) d6_weight_72 rfl ?_
    refine sd_cSI (k2 := k1_apart) (As := [.int v10, .int l1]) (rest := [.int v9]) (pc := 73) 47 d6_weight_73 ml6_47 (ms1_apart) (me1_apart) ⟨rfl, rfl⟩ ⟨Nat.le_of_ble_eq_true rfl, Nat.le_of_ble_eq_true rfl⟩ (Nat.le_of_ble_eq_true rfl) (Nat.le_of_ble_eq_true rfl) (Or.inl rfl) (Nat.zero_le _) (Nat.zero_le _) rfl (s1_apart F v10 l1 S) (fun v11 S => ?_)
    refine sd_cSI (k2 := k6_fixedWeight) (As := [.int v9, .int v11]) (rest := []) (pc := 76) 53 d6_weight_76 ml6_53 (ms6_fixedWeight) (me6_fixedWeight) ⟨rfl, rfl⟩ ⟨Nat.le_of_ble_eq_true rfl, Nat.le_of_ble_eq_true rfl⟩ (Nat.le_of_ble_eq_true rfl) (Nat.le_of_ble_eq_true rfl) (Or.inl rfl) (Nat.zero_le _) (Nat.zero_le _) rfl (s6_fixedWeight F v9 v11 S) (fun v12 S => ?_)
    exact sd_iret (pc := 79) d6_weight_79 rfl (Nat.zero_le _) (Nat.zero_le _)
  refine sd_ite (fun h16 => ?_) (fun _ => ?_)
  · refine sd_swi (off := 76) (pc := 4) 80 d6_weight_4 (by rw [h16]; decide) (by rw [h16]; decide) (by rw [h16]; decide) (by decide) ?_
    refine sd_aload_n (pc := 80) d6_weight_80 rfl ?_
    refine sd_getI (pc := 81) h1 rfl fl6_15 d6_weight_81 (fun v14 => ?_)
    refine sd_iload_n (pc := 84) d6_weight_84 rfl ?_
    refine sd_isub (pc := 85) d6_weight_85 ?_
    refine sd_mabs (pc := 86) 56 sl6_56 (Nat.le_of_ble_eq_true rfl) (Nat.le_of_ble_eq_true rfl) (Nat.zero_le _) (Nat.zero_le _) d6_weight_86 ?_
    refine sd_cSI (k2 := k6_burntWeight) (As := [.int (sm_ab (v14 - l1))]) (rest := []) (pc := 89) 62 d6_weight_89 ml6_62 (ms6_burntWeight) (me6_burntWeight) ⟨rfl, rfl⟩ ⟨Nat.le_of_ble_eq_true rfl, Nat.le_of_ble_eq_true rfl⟩ (Nat.le_of_ble_eq_true rfl) (Nat.le_of_ble_eq_true rfl) (Or.inl rfl) (Nat.zero_le _) (Nat.zero_le _) rfl (s6_burntWeight F (sm_ab (v14 - l1)) S) (fun v15 S => ?_)
    exact sd_iret (pc := 92) d6_weight_92 rfl (Nat.zero_le _) (Nat.zero_le _)
  refine sd_ite (fun h19 => ?_) (fun _ => ?_)
  · refine sd_swi (off := 89) (pc := 4) 93 d6_weight_4 (by rw [h19]; decide) (by rw [h19]; decide) (by rw [h19]; decide) (by decide) ?_
    refine sd_aload_n (pc := 93) d6_weight_93 rfl ?_
    refine sd_iload_n (pc := 94) d6_weight_94 rfl ?_
    refine sd_cVI (k2 := k6_saw) (As := [.int l1]) (rest := []) (b := l0) (ci := 5) (pc := 95) 65 h1 (by decide) rfl d6_weight_95 ml6_65 (ms6_saw).1 (ms6_saw).2 (me6_saw) ⟨rfl, rfl⟩ ⟨Nat.le_of_ble_eq_true rfl, Nat.le_of_ble_eq_true rfl⟩ (Nat.le_of_ble_eq_true rfl) (Nat.le_of_ble_eq_true rfl) (Or.inr rfl) (Nat.zero_le _) (Nat.zero_le _) rfl (s6_saw F l0 l1 S) (fun v17 S => ?_)
    refine sd_if_eq (pc := 98) 111 d6_weight_98 (by decide) (fun _ => ?_) (fun _ => ?_)
    · refine sd_bipush (pc := 111) 12 d6_weight_111 cb_12 ?_
      exact sd_iret (pc := 113) d6_weight_113 rfl (Nat.zero_le _) (Nat.zero_le _)
    · refine sd_bipush (pc := 101) 12 d6_weight_101 cb_12 ?_
      refine sd_aload_n (pc := 103) d6_weight_103 rfl ?_
      refine sd_getI (pc := 104) h1 rfl fl6_21 d6_weight_104 (fun v18 => ?_)
      refine sd_isub (pc := 107) d6_weight_107 ?_
      refine sd_goto (pc := 108) 113 d6_weight_108 (by decide) ?_
      exact sd_iret (pc := 113) d6_weight_113 rfl (Nat.zero_le _) (Nat.zero_le _)
  refine sd_ite (fun h22 => ?_) (fun _ => ?_)
  · refine sd_swi (off := 110) (pc := 4) 114 d6_weight_4 (by rw [h22]; decide) (by rw [h22]; decide) (by rw [h22]; decide) (by decide) ?_
    refine sd_aload_n (pc := 114) d6_weight_114 rfl ?_
    refine sd_iload_n (pc := 115) d6_weight_115 rfl ?_
    refine sd_cVI (k2 := k6_isFrom) (As := [.int l1]) (rest := []) (b := l0) (ci := 5) (pc := 116) 68 h1 (by decide) rfl d6_weight_116 ml6_68 (ms6_isFrom).1 (ms6_isFrom).2 (me6_isFrom) ⟨rfl, rfl⟩ ⟨Nat.le_of_ble_eq_true rfl, Nat.le_of_ble_eq_true rfl⟩ (Nat.le_of_ble_eq_true rfl) (Nat.le_of_ble_eq_true rfl) (Or.inr rfl) (Nat.zero_le _) (Nat.zero_le _) rfl (s6_isFrom F l0 l1 S) (fun v20 S => ?_)
    refine sd_if_eq (pc := 119) 127 d6_weight_119 (by decide) (fun _ => ?_) (fun _ => ?_)
    · refine sd_bipush (pc := 127) 12 d6_weight_127 cb_12 ?_
      refine sd_aload_n (pc := 129) d6_weight_129 rfl ?_
      refine sd_getI (pc := 130) h1 rfl fl6_21 d6_weight_130 (fun v21 => ?_)
      refine sd_isub (pc := 133) d6_weight_133 ?_
      exact sd_iret (pc := 134) d6_weight_134 rfl (Nat.zero_le _) (Nat.zero_le _)
    · refine sd_bipush (pc := 122) 12 d6_weight_122 cb_12 ?_
      refine sd_goto (pc := 124) 134 d6_weight_124 (by decide) ?_
      exact sd_iret (pc := 134) d6_weight_134 rfl (Nat.zero_le _) (Nat.zero_le _)
  refine sd_ite (fun h23 => ?_) (fun _ => ?_)
  · refine sd_swi (off := 159) (pc := 4) 163 d6_weight_4 (by rw [h23]; decide) (by rw [h23]; decide) (by rw [h23]; decide) (by decide) ?_
    refine sd_bipush (pc := 163) 12 d6_weight_163 cb_12 ?_
    exact sd_iret (pc := 165) d6_weight_165 rfl (Nat.zero_le _) (Nat.zero_le _)
  refine sd_ite (fun h28 => ?_) (fun _ => ?_)
  · refine sd_swi (off := 131) (pc := 4) 135 d6_weight_4 (by rw [h28]; decide) (by rw [h28]; decide) (by rw [h28]; decide) (by decide) ?_
    refine sd_aload_n (pc := 135) d6_weight_135 rfl ?_
    refine sd_getI (pc := 136) h1 rfl fl6_15 d6_weight_136 (fun v24 => ?_)
    refine sd_iload_n (pc := 139) d6_weight_139 rfl ?_
    refine sd_cSI (k2 := k1_apart) (As := [.int v24, .int l1]) (rest := []) (pc := 140) 47 d6_weight_140 ml6_47 (ms1_apart) (me1_apart) ⟨rfl, rfl⟩ ⟨Nat.le_of_ble_eq_true rfl, Nat.le_of_ble_eq_true rfl⟩ (Nat.le_of_ble_eq_true rfl) (Nat.le_of_ble_eq_true rfl) (Or.inl rfl) (Nat.zero_le _) (Nat.zero_le _) rfl (s1_apart F v24 l1 S) (fun v25 S => ?_)
    refine sd_aload_n (pc := 143) d6_weight_143 rfl ?_
    refine sd_getI (pc := 144) h1 rfl fl6_18 d6_weight_144 (fun v26 => ?_)
    refine sd_ic_gt (pc := 147) 155 d6_weight_147 (by decide) (fun _ => ?_) (fun _ => ?_)
    · refine sd_bipush (pc := 155) 12 d6_weight_155 cb_12 ?_
      refine sd_aload_n (pc := 157) d6_weight_157 rfl ?_
      refine sd_getI (pc := 158) h1 rfl fl6_21 d6_weight_158 (fun v27 => ?_)
      refine sd_isub (pc := 161) d6_weight_161 ?_
      exact sd_iret (pc := 162) d6_weight_162 rfl (Nat.zero_le _) (Nat.zero_le _)
    · refine sd_bipush (pc := 150) 12 d6_weight_150 cb_12 ?_
      refine sd_goto (pc := 152) 162 d6_weight_152 (by decide) ?_
      exact sd_iret (pc := 162) d6_weight_162 rfl (Nat.zero_le _) (Nat.zero_le _)
  exact sd_none
set_option maxHeartbeats 4000000 in
set_option maxRecDepth 20000 in
theorem s6_cellsOfFullWeight_4 {N : Nat} (F : Nat) : ∀ (f : Nat) (l0 : Nat) (l1 : Int32) (l2 : Int32) (S : sm_t), sm_S (sm_jI N) k6_cellsOfFullWeight 0 0 4 [some (.ref l0), some (.int l1), some (.int l2)] [] (sm_m N S) (x6_cellsOfFullWeight_4 F f l0 l1 l2 S) := by
  intro f
  induction f with
  | zero =>
    intro l0 l1 l2 S
    exact sd_none
  | succ f ih =>
    intro l0 l1 l2 S
    rw [x6_cellsOfFullWeight_4]
    refine sd_iload_n (pc := 4) d6_cellsOfFullWeight_4 rfl ?_
    refine sd_bipush (pc := 5) 120 d6_cellsOfFullWeight_5 cb_120 ?_
    refine sd_ic_ge (pc := 7) 34 d6_cellsOfFullWeight_7 (by decide) (fun _ => ?_) (fun _ => ?_)
    · refine sd_iload_n (pc := 34) d6_cellsOfFullWeight_34 rfl ?_
      exact sd_iret (pc := 35) d6_cellsOfFullWeight_35 rfl (Nat.zero_le _) (Nat.zero_le _)
    · refine sd_iload_n (pc := 10) d6_cellsOfFullWeight_10 rfl ?_
      refine sd_aload_n (pc := 11) d6_cellsOfFullWeight_11 rfl ?_
      refine sd_iload_n (pc := 12) d6_cellsOfFullWeight_12 rfl ?_
      refine sd_on (fun h2 => ?_)
      refine sd_cVI (k2 := k6_weight) (As := [.int l2]) (rest := [.int l1]) (b := l0) (ci := 5) (pc := 13) 88 h2 (by decide) rfl d6_cellsOfFullWeight_13 ml6_88 (ms6_weight).1 (ms6_weight).2 (me6_weight) ⟨rfl, rfl⟩ ⟨Nat.le_of_ble_eq_true rfl, Nat.le_of_ble_eq_true rfl⟩ (Nat.le_of_ble_eq_true rfl) (Nat.le_of_ble_eq_true rfl) (Or.inl rfl) (Nat.zero_le _) (Nat.zero_le _) rfl (s6_weight F l0 l2 S) (fun v1 S => ?_)
      refine sd_bipush (pc := 16) 12 d6_cellsOfFullWeight_16 cb_12 ?_
      refine sd_ic_ne (pc := 18) 25 d6_cellsOfFullWeight_18 (by decide) (fun _ => ?_) (fun _ => ?_)
      · refine sd_iconst (pc := 21) 1 d6_cellsOfFullWeight_21 ci_1 ?_
        refine sd_goto (pc := 22) 26 d6_cellsOfFullWeight_22 (by decide) ?_
        refine sd_iadd (pc := 26) d6_cellsOfFullWeight_26 ?_
        refine sd_ni (fun v3 => ?_)
        refine sd_istore_n (lf2 := [some (.ref l0), some (.int v3), some (.int l2)]) (pc := 27) d6_cellsOfFullWeight_27 (Nat.le_of_ble_eq_true rfl) rfl ?_
        refine sd_iinc (lf2 := [some (.ref l0), some (.int v3), some (.int (l2 + 1))]) (pc := 28) d6_cellsOfFullWeight_28 (Nat.le_of_ble_eq_true rfl) rfl ci_1 rfl ?_
        refine sd_goto (pc := 31) 4 d6_cellsOfFullWeight_31 (by decide) ?_
        exact ih l0 v3 (l2 + 1) S
      · refine sd_iconst (pc := 25) 0 d6_cellsOfFullWeight_25 ci_0 ?_
        refine sd_iadd (pc := 26) d6_cellsOfFullWeight_26 ?_
        refine sd_ni (fun v4 => ?_)
        refine sd_istore_n (lf2 := [some (.ref l0), some (.int v4), some (.int l2)]) (pc := 27) d6_cellsOfFullWeight_27 (Nat.le_of_ble_eq_true rfl) rfl ?_
        refine sd_iinc (lf2 := [some (.ref l0), some (.int v4), some (.int (l2 + 1))]) (pc := 28) d6_cellsOfFullWeight_28 (Nat.le_of_ble_eq_true rfl) rfl ci_1 rfl ?_
        refine sd_goto (pc := 31) 4 d6_cellsOfFullWeight_31 (by decide) ?_
        exact ih l0 v4 (l2 + 1) S
set_option maxHeartbeats 4000000 in
set_option maxRecDepth 20000 in
theorem s6_cellsOfFullWeight {N : Nat} (F : Nat) (l0 : Nat) (S : sm_t) : sm_P (sm_jI N) k6_cellsOfFullWeight [.ref l0] (sm_m N S) (x6_cellsOfFullWeight F l0 S) := by
  show sm_S (sm_jI N) k6_cellsOfFullWeight 0 0 0 [some (.ref l0), none, none] [] (sm_m N S) (x6_cellsOfFullWeight F l0 S)
  unfold x6_cellsOfFullWeight
  refine sd_iconst (pc := 0) 0 d6_cellsOfFullWeight_0 ci_0 ?_
  refine sd_istore_n (lf2 := [some (.ref l0), some (.int 0), none]) (pc := 1) d6_cellsOfFullWeight_1 (Nat.le_of_ble_eq_true rfl) rfl ?_
  refine sd_iconst (pc := 2) 0 d6_cellsOfFullWeight_2 ci_0 ?_
  refine sd_istore_n (lf2 := [some (.ref l0), some (.int 0), some (.int 0)]) (pc := 3) d6_cellsOfFullWeight_3 (Nat.le_of_ble_eq_true rfl) rfl ?_
  exact s6_cellsOfFullWeight_4 F F l0 0 0 S
set_option maxHeartbeats 4000000 in
set_option maxRecDepth 20000 in
theorem s6_tells {N : Nat} (F : Nat) (l0 : Nat) (l1 : Int32) (S : sm_t) : sm_P (sm_jI N) k6_tells [.ref l0, .int l1] (sm_m N S) (x6_tells F l0 l1 S) := by
  show sm_S (sm_jI N) k6_tells 0 0 0 [some (.ref l0), some (.int l1)] [] (sm_m N S) (x6_tells F l0 l1 S)
  unfold x6_tells
  refine sd_iload_n (pc := 0) d6_tells_0 rfl ?_
  refine sd_ite (fun h3 => ?_) (fun _ => ?_)
  · refine sd_swo (pc := 1) 68 d6_tells_1 (sm_so (by decide) (by decide) h3) (by decide) ?_
    refine sd_aload_n (pc := 68) d6_tells_68 rfl ?_
    refine sd_on (fun h2 => ?_)
    refine sd_cVI (k2 := k6_cellsOfFullWeight) (As := []) (rest := []) (b := l0) (ci := 5) (pc := 69) 85 h2 (by decide) rfl d6_tells_69 ml6_85 (ms6_cellsOfFullWeight).1 (ms6_cellsOfFullWeight).2 (me6_cellsOfFullWeight) ⟨rfl, rfl⟩ ⟨Nat.le_of_ble_eq_true rfl, Nat.le_of_ble_eq_true rfl⟩ (Nat.le_of_ble_eq_true rfl) (Nat.le_of_ble_eq_true rfl) (Or.inl rfl) (Nat.zero_le _) (Nat.zero_le _) rfl (s6_cellsOfFullWeight F l0 S) (fun v1 S => ?_)
    exact sd_iret (pc := 72) d6_tells_72 rfl (Nat.zero_le _) (Nat.zero_le _)
  refine sd_ite (fun h7 => ?_) (fun _ => ?_)
  · refine sd_swi (off := 39) (pc := 1) 40 d6_tells_1 (by rw [h7]; decide) (by rw [h7]; decide) (by rw [h7]; decide) (by decide) ?_
    refine sd_aload_n (pc := 40) d6_tells_40 rfl ?_
    refine sd_on (fun h4 => ?_)
    refine sd_getI (pc := 41) h4 rfl fl6_21 d6_tells_41 (fun v5 => ?_)
    refine sd_cSI (k2 := k6_nearestHeard) (As := [.int v5]) (rest := []) (pc := 44) 78 d6_tells_44 ml6_78 (ms6_nearestHeard) (me6_nearestHeard) ⟨rfl, rfl⟩ ⟨Nat.le_of_ble_eq_true rfl, Nat.le_of_ble_eq_true rfl⟩ (Nat.le_of_ble_eq_true rfl) (Nat.le_of_ble_eq_true rfl) (Or.inl rfl) (Nat.zero_le _) (Nat.zero_le _) rfl (s6_nearestHeard F v5 S) (fun v6 S => ?_)
    exact sd_iret (pc := 47) d6_tells_47 rfl (Nat.zero_le _) (Nat.zero_le _)
  refine sd_ite (fun h10 => ?_) (fun _ => ?_)
  · refine sd_swi (off := 67) (pc := 1) 68 d6_tells_1 (by rw [h10]; decide) (by rw [h10]; decide) (by rw [h10]; decide) (by decide) ?_
    refine sd_aload_n (pc := 68) d6_tells_68 rfl ?_
    refine sd_on (fun h9 => ?_)
    refine sd_cVI (k2 := k6_cellsOfFullWeight) (As := []) (rest := []) (b := l0) (ci := 5) (pc := 69) 85 h9 (by decide) rfl d6_tells_69 ml6_85 (ms6_cellsOfFullWeight).1 (ms6_cellsOfFullWeight).2 (me6_cellsOfFullWeight) ⟨rfl, rfl⟩ ⟨Nat.le_of_ble_eq_true rfl, Nat.le_of_ble_eq_true rfl⟩ (Nat.le_of_ble_eq_true rfl) (Nat.le_of_ble_eq_true rfl) (Or.inl rfl) (Nat.zero_le _) (Nat.zero_le _) rfl (s6_cellsOfFullWeight F l0 S) (fun v8 S => ?_)
    exact sd_iret (pc := 72) d6_tells_72 rfl (Nat.zero_le _) (Nat.zero_le _)
  refine sd_ite (fun h13 => ?_) (fun _ => ?_)
  · refine sd_swi (off := 47) (pc := 1) 48 d6_tells_1 (by rw [h13]; decide) (by rw [h13]; decide) (by rw [h13]; decide) (by decide) ?_
    refine sd_aload_n (pc := 48) d6_tells_48 rfl ?_
    refine sd_on (fun h11 => ?_)
    refine sd_getI (pc := 49) h11 rfl fl6_15 d6_tells_49 (fun v12 => ?_)
    exact sd_iret (pc := 52) d6_tells_52 rfl (Nat.zero_le _) (Nat.zero_le _)
  refine sd_ite (fun h16 => ?_) (fun _ => ?_)
  · refine sd_swi (off := 52) (pc := 1) 53 d6_tells_1 (by rw [h16]; decide) (by rw [h16]; decide) (by rw [h16]; decide) (by decide) ?_
    refine sd_aload_n (pc := 53) d6_tells_53 rfl ?_
    refine sd_on (fun h15 => ?_)
    refine sd_cVI (k2 := k6_cellsSeen) (As := []) (rest := []) (b := l0) (ci := 5) (pc := 54) 81 h15 (by decide) rfl d6_tells_54 ml6_81 (ms6_cellsSeen).1 (ms6_cellsSeen).2 (me6_cellsSeen) ⟨rfl, rfl⟩ ⟨Nat.le_of_ble_eq_true rfl, Nat.le_of_ble_eq_true rfl⟩ (Nat.le_of_ble_eq_true rfl) (Nat.le_of_ble_eq_true rfl) (Or.inl rfl) (Nat.zero_le _) (Nat.zero_le _) rfl (s6_cellsSeen F l0 S) (fun v14 S => ?_)
    exact sd_iret (pc := 57) d6_tells_57 rfl (Nat.zero_le _) (Nat.zero_le _)
  refine sd_ite (fun h19 => ?_) (fun _ => ?_)
  · refine sd_swi (off := 57) (pc := 1) 58 d6_tells_1 (by rw [h19]; decide) (by rw [h19]; decide) (by rw [h19]; decide) (by decide) ?_
    refine sd_aload_n (pc := 58) d6_tells_58 rfl ?_
    refine sd_on (fun h17 => ?_)
    refine sd_getI (pc := 59) h17 rfl fl6_18 d6_tells_59 (fun v18 => ?_)
    exact sd_iret (pc := 62) d6_tells_62 rfl (Nat.zero_le _) (Nat.zero_le _)
  refine sd_ite (fun h22 => ?_) (fun _ => ?_)
  · refine sd_swi (off := 62) (pc := 1) 63 d6_tells_1 (by rw [h22]; decide) (by rw [h22]; decide) (by rw [h22]; decide) (by decide) ?_
    refine sd_aload_n (pc := 63) d6_tells_63 rfl ?_
    refine sd_on (fun h20 => ?_)
    refine sd_getI (pc := 64) h20 rfl fl6_21 d6_tells_64 (fun v21 => ?_)
    exact sd_iret (pc := 67) d6_tells_67 rfl (Nat.zero_le _) (Nat.zero_le _)
  exact sd_none
set_option maxHeartbeats 4000000 in
set_option maxRecDepth 20000 in
theorem s7_mark {N : Nat} (F : Nat) (l1 : Int32) (l2 : Int32) (S : sm_t) : sm_P (sm_jI N) k7_mark [.ref 3, .int l1, .int l2] (sm_m N S) (x7_mark F l1 l2 S) := by
  show sm_S (sm_jI N) k7_mark 0 0 0 [some (.ref 3), some (.int l1), some (.int l2)] [] (sm_m N S) (x7_mark F l1 l2 S)
  unfold x7_mark
  refine sd_aload_n (pc := 0) d7_mark_0 rfl ?_
  refine sd_getR (pc := 1) 22 (show sm_sq 3 = some (.inr 6) from rfl) rfl fl7_42 rfl d7_mark_1 ?_
  refine sd_iload_n (pc := 4) d7_mark_4 rfl ?_
  refine sd_cVI (k2 := k0_has) (As := [.int l1]) (rest := []) (b := 22) (ci := 0) (pc := 5) 184 (show sm_sq 22 = some (.inr 0) from rfl) (by decide) rfl d7_mark_5 ml7_184 (ms0_has).1 (ms0_has).2 (me0_has) ⟨rfl, rfl⟩ ⟨Nat.le_of_ble_eq_true rfl, Nat.le_of_ble_eq_true rfl⟩ (Nat.le_of_ble_eq_true rfl) (Nat.le_of_ble_eq_true rfl) (Or.inr rfl) (Nat.zero_le _) (Nat.zero_le _) rfl (s0_has F l1 S) (fun v1 S => ?_)
  refine sd_if_eq (pc := 8) 22 d7_mark_8 (by decide) (fun _ => ?_) (fun _ => ?_)
  · refine sd_iconst (pc := 22) (-1) d7_mark_22 ci_m1 ?_
    exact sd_iret (pc := 23) d7_mark_23 rfl (Nat.zero_le _) (Nat.zero_le _)
  · refine sd_iload_n (pc := 11) d7_mark_11 rfl ?_
    refine sd_iconst (pc := 12) 1 d7_mark_12 ci_1 ?_
    refine sd_ic_lt (pc := 13) 22 d7_mark_13 (by decide) (fun _ => ?_) (fun _ => ?_)
    · refine sd_iconst (pc := 22) (-1) d7_mark_22 ci_m1 ?_
      exact sd_iret (pc := 23) d7_mark_23 rfl (Nat.zero_le _) (Nat.zero_le _)
    · refine sd_iload_n (pc := 16) d7_mark_16 rfl ?_
      refine sd_bipush (pc := 17) 7 d7_mark_17 cb_7 ?_
      refine sd_ic_le (pc := 19) 24 d7_mark_19 (by decide) (fun _ => ?_) (fun _ => ?_)
      · refine sd_aload_n (pc := 24) d7_mark_24 rfl ?_
        refine sd_getR (pc := 25) 22 (show sm_sq 3 = some (.inr 6) from rfl) rfl fl7_42 rfl d7_mark_25 ?_
        refine sd_getR (pc := 28) 23 (show sm_sq 22 = some (.inr 0) from rfl) rfl fl7_187 rfl d7_mark_28 ?_
        refine sd_iload_n (pc := 31) d7_mark_31 rfl ?_
        refine sd_aald (pc := 32) 6 (show sm_sq 23 = some (.inl (.object "TwoFliers$Sign", 12)) from rfl) rfl rfl (fun _ => rfl) (fun _ _ _ _ h => if_pos h) d7_mark_32 (fun a2 => ?_)
        refine sd_iload_n (pc := 33) d7_mark_33 rfl ?_
        refine sd_on (fun h4 => ?_)
        refine sd_cVI (k2 := k6_is) (As := [.int l2]) (rest := []) (b := a2) (ci := 5) (pc := 34) 196 h4 (by decide) rfl d7_mark_34 ml7_196 (ms6_is).1 (ms6_is).2 (me6_is) ⟨rfl, rfl⟩ ⟨Nat.le_of_ble_eq_true rfl, Nat.le_of_ble_eq_true rfl⟩ (Nat.le_of_ble_eq_true rfl) (Nat.le_of_ble_eq_true rfl) (Or.inr rfl) (Nat.zero_le _) (Nat.zero_le _) rfl (s6_is F a2 l2 S) (fun v3 S => ?_)
        refine sd_if_ne (pc := 37) 46 d7_mark_37 (by decide) (fun _ => ?_) (fun _ => ?_)
        · refine sd_aload_n (pc := 40) d7_mark_40 rfl ?_
          refine sd_iconst (pc := 41) 3 d7_mark_41 ci_3 ?_
          refine sd_cVI (k2 := k7_found) (As := [.int 3]) (rest := []) (b := 3) (ci := 6) (pc := 42) 92 (show sm_sq 3 = some (.inr 6) from rfl) (by decide) rfl d7_mark_42 ml7_92 (ms7_found).1 (ms7_found).2 (me7_found) ⟨rfl, rfl⟩ ⟨Nat.le_of_ble_eq_true rfl, Nat.le_of_ble_eq_true rfl⟩ (Nat.le_of_ble_eq_true rfl) (Nat.le_of_ble_eq_true rfl) (Or.inl rfl) (Nat.zero_le _) (Nat.zero_le _) rfl (s7_found F 3 S) (fun v5 S => ?_)
          exact sd_iret (pc := 45) d7_mark_45 rfl (Nat.zero_le _) (Nat.zero_le _)
        · refine sd_aload_n (pc := 46) d7_mark_46 rfl ?_
          refine sd_getR (pc := 47) 22 (show sm_sq 3 = some (.inr 6) from rfl) rfl fl7_42 rfl d7_mark_47 ?_
          refine sd_getR (pc := 50) 23 (show sm_sq 22 = some (.inr 0) from rfl) rfl fl7_187 rfl d7_mark_50 ?_
          refine sd_iload_n (pc := 53) d7_mark_53 rfl ?_
          refine sd_aald (pc := 54) 6 (show sm_sq 23 = some (.inl (.object "TwoFliers$Sign", 12)) from rfl) rfl rfl (fun _ => rfl) (fun _ _ _ _ h => if_pos h) d7_mark_54 (fun a6 => ?_)
          refine sd_iload_n (pc := 55) d7_mark_55 rfl ?_
          refine sd_on (fun h8 => ?_)
          refine sd_cVI (k2 := k6_tells) (As := [.int l2]) (rest := []) (b := a6) (ci := 5) (pc := 56) 199 h8 (by decide) rfl d7_mark_56 ml7_199 (ms6_tells).1 (ms6_tells).2 (me6_tells) ⟨rfl, rfl⟩ ⟨Nat.le_of_ble_eq_true rfl, Nat.le_of_ble_eq_true rfl⟩ (Nat.le_of_ble_eq_true rfl) (Nat.le_of_ble_eq_true rfl) (Or.inl rfl) (Nat.zero_le _) (Nat.zero_le _) rfl (s6_tells F a6 l2 S) (fun v7 S => ?_)
          exact sd_iret (pc := 59) d7_mark_59 rfl (Nat.zero_le _) (Nat.zero_le _)
      · refine sd_iconst (pc := 22) (-1) d7_mark_22 ci_m1 ?_
        exact sd_iret (pc := 23) d7_mark_23 rfl (Nat.zero_le _) (Nat.zero_le _)
set_option maxHeartbeats 4000000 in
set_option maxRecDepth 20000 in
theorem s8_heardBy_13 {N : Nat} (F : Nat) (t0 : Int32) (t1 : Int32) (S : sm_t) : sm_S (sm_jI N) k8_heardBy 0 0 13 [none, none, none] [.int t1, .int t0] (sm_m N S) (x8_heardBy_13 F t0 t1 S) := by
  unfold x8_heardBy_13
  refine sd_isub (pc := 13) d8_heardBy_13 ?_
  refine sd_cSI (k2 := k8_abs) (As := [.int (t0 - t1)]) (rest := []) (pc := 14) 111 d8_heardBy_14 ml8_111 (ms8_abs) (me8_abs) ⟨rfl, rfl⟩ ⟨Nat.le_of_ble_eq_true rfl, Nat.le_of_ble_eq_true rfl⟩ (Nat.le_of_ble_eq_true rfl) (Nat.le_of_ble_eq_true rfl) (Or.inl rfl) (Nat.zero_le _) (Nat.zero_le _) rfl (s8_abs F (t0 - t1) S) (fun v1 S => ?_)
  refine sd_istore_n (lf2 := [none, none, some (.int v1)]) (pc := 17) d8_heardBy_17 (Nat.le_of_ble_eq_true rfl) rfl ?_
  refine sd_iload_n (pc := 18) d8_heardBy_18 rfl ?_
  refine sd_if_ne (pc := 19) 27 d8_heardBy_19 (by decide) (fun _ => ?_) (fun _ => ?_)
  · refine sd_bipush (pc := 22) 12 d8_heardBy_22 cb_12 ?_
    refine sd_goto (pc := 24) 56 d8_heardBy_24 (by decide) ?_
    exact sd_iret (pc := 56) d8_heardBy_56 rfl (Nat.zero_le _) (Nat.zero_le _)
  · refine sd_iload_n (pc := 27) d8_heardBy_27 rfl ?_
    refine sd_iconst (pc := 28) 1 d8_heardBy_28 ci_1 ?_
    refine sd_ic_ne (pc := 29) 37 d8_heardBy_29 (by decide) (fun _ => ?_) (fun _ => ?_)
    · refine sd_bipush (pc := 32) 8 d8_heardBy_32 cb_8 ?_
      refine sd_goto (pc := 34) 56 d8_heardBy_34 (by decide) ?_
      exact sd_iret (pc := 56) d8_heardBy_56 rfl (Nat.zero_le _) (Nat.zero_le _)
    · refine sd_iload_n (pc := 37) d8_heardBy_37 rfl ?_
      refine sd_iconst (pc := 38) 2 d8_heardBy_38 ci_2 ?_
      refine sd_ic_ne (pc := 39) 46 d8_heardBy_39 (by decide) (fun _ => ?_) (fun _ => ?_)
      · refine sd_iconst (pc := 42) 4 d8_heardBy_42 ci_4 ?_
        refine sd_goto (pc := 43) 56 d8_heardBy_43 (by decide) ?_
        exact sd_iret (pc := 56) d8_heardBy_56 rfl (Nat.zero_le _) (Nat.zero_le _)
      · refine sd_iload_n (pc := 46) d8_heardBy_46 rfl ?_
        refine sd_iconst (pc := 47) 3 d8_heardBy_47 ci_3 ?_
        refine sd_ic_ne (pc := 48) 55 d8_heardBy_48 (by decide) (fun _ => ?_) (fun _ => ?_)
        · refine sd_iconst (pc := 51) 1 d8_heardBy_51 ci_1 ?_
          refine sd_goto (pc := 52) 56 d8_heardBy_52 (by decide) ?_
          exact sd_iret (pc := 56) d8_heardBy_56 rfl (Nat.zero_le _) (Nat.zero_le _)
        · refine sd_iconst (pc := 55) 0 d8_heardBy_55 ci_0 ?_
          exact sd_iret (pc := 56) d8_heardBy_56 rfl (Nat.zero_le _) (Nat.zero_le _)
set_option maxHeartbeats 4000000 in
set_option maxRecDepth 20000 in
theorem s8_heardBy {N : Nat} (F : Nat) (l0 : Int32) (l1 : Int32) (S : sm_t) : sm_P (sm_jI N) k8_heardBy [.int l0, .int l1] (sm_m N S) (x8_heardBy F l0 l1 S) := by
  show sm_S (sm_jI N) k8_heardBy 0 0 0 [some (.int l0), some (.int l1), none] [] (sm_m N S) (x8_heardBy F l0 l1 S)
  unfold x8_heardBy
  refine sd_iload_n (pc := 0) d8_heardBy_0 rfl ?_
  refine sd_iload_n (pc := 1) d8_heardBy_1 rfl ?_
  refine sd_iconst (pc := 2) 5 d8_heardBy_2 ci_5 ?_
  refine sd_ic_le (pc := 3) 10 d8_heardBy_3 (by decide) (fun _ => ?_) (fun _ => ?_)
  · refine sd_iconst (pc := 10) 5 d8_heardBy_10 ci_5 ?_
    refine sd_iload_n (pc := 11) d8_heardBy_11 rfl ?_
    refine sd_isub (pc := 12) d8_heardBy_12 ?_
    exact sd_fg [false, false, true] rfl (s8_heardBy_13 F l0 (5 - l1) S)
  · refine sd_iconst (pc := 6) 0 d8_heardBy_6 ci_0 ?_
    refine sd_goto (pc := 7) 13 d8_heardBy_7 (by decide) ?_
    exact sd_fg [false, false, true] rfl (s8_heardBy_13 F l0 0 S)
set_option maxHeartbeats 4000000 in
set_option maxRecDepth 20000 in
theorem s8_leastFar_2 {N : Nat} (F : Nat) : ∀ (f : Nat) (l0 : Int32) (l1 : Int32) (S : sm_t), sm_S (sm_jI N) k8_leastFar 0 0 2 [some (.int l0), some (.int l1)] [] (sm_m N S) (x8_leastFar_2 F f l0 l1 S) := by
  intro f
  induction f with
  | zero =>
    intro l0 l1 S
    exact sd_none
  | succ f ih =>
    intro l0 l1 S
    rw [x8_leastFar_2]
    refine sd_iload_n (pc := 2) d8_leastFar_2 rfl ?_
    refine sd_iload_n (pc := 3) d8_leastFar_3 rfl ?_
    refine sd_cSI (k2 := k8_heardBy) (As := [.int l0, .int l1]) (rest := []) (pc := 4) 181 d8_leastFar_4 ml8_181 (ms8_heardBy) (me8_heardBy) ⟨rfl, rfl⟩ ⟨Nat.le_of_ble_eq_true rfl, Nat.le_of_ble_eq_true rfl⟩ (Nat.le_of_ble_eq_true rfl) (Nat.le_of_ble_eq_true rfl) (Or.inl rfl) (Nat.zero_le _) (Nat.zero_le _) rfl (s8_heardBy F l0 l1 S) (fun v1 S => ?_)
    refine sd_bipush (pc := 7) 8 d8_leastFar_7 cb_8 ?_
    refine sd_ic_ge (pc := 9) 18 d8_leastFar_9 (by decide) (fun _ => ?_) (fun _ => ?_)
    · refine sd_iload_n (pc := 18) d8_leastFar_18 rfl ?_
      exact sd_iret (pc := 19) d8_leastFar_19 rfl (Nat.zero_le _) (Nat.zero_le _)
    · refine sd_iinc (lf2 := [some (.int l0), some (.int (l1 + 1))]) (pc := 12) d8_leastFar_12 (Nat.le_of_ble_eq_true rfl) rfl ci_1 rfl ?_
      refine sd_goto (pc := 15) 2 d8_leastFar_15 (by decide) ?_
      exact ih l0 (l1 + 1) S
set_option maxHeartbeats 4000000 in
set_option maxRecDepth 20000 in
theorem s8_leastFar {N : Nat} (F : Nat) (l0 : Int32) (S : sm_t) : sm_P (sm_jI N) k8_leastFar [.int l0] (sm_m N S) (x8_leastFar F l0 S) := by
  show sm_S (sm_jI N) k8_leastFar 0 0 0 [some (.int l0), none] [] (sm_m N S) (x8_leastFar F l0 S)
  unfold x8_leastFar
  refine sd_iconst (pc := 0) 0 d8_leastFar_0 ci_0 ?_
  refine sd_istore_n (lf2 := [some (.int l0), some (.int 0)]) (pc := 1) d8_leastFar_1 (Nat.le_of_ble_eq_true rfl) rfl ?_
  exact s8_leastFar_2 F F l0 0 S
set_option maxHeartbeats 4000000 in
set_option maxRecDepth 20000 in
theorem s8_isBetween {N : Nat} (F : Nat) (l0 : Int32) (l1 : Int32) (l2 : Int32) (S : sm_t) : sm_P (sm_jI N) k8_isBetween [.int l0, .int l1, .int l2] (sm_m N S) (x8_isBetween F l0 l1 l2 S) := by
  show sm_S (sm_jI N) k8_isBetween 0 0 0 [some (.int l0), some (.int l1), some (.int l2)] [] (sm_m N S) (x8_isBetween F l0 l1 l2 S)
  unfold x8_isBetween
  refine sd_iload_n (pc := 0) d8_isBetween_0 rfl ?_
  refine sd_iload_n (pc := 1) d8_isBetween_1 rfl ?_
  refine sd_ic_ge (pc := 2) 14 d8_isBetween_2 (by decide) (fun _ => ?_) (fun _ => ?_)
  · refine sd_iload_n (pc := 14) d8_isBetween_14 rfl ?_
    refine sd_iload_n (pc := 15) d8_isBetween_15 rfl ?_
    refine sd_iload_n (pc := 16) d8_isBetween_16 rfl ?_
    refine sd_cSI (k2 := k8_in) (As := [.int l0, .int l2, .int l1]) (rest := []) (pc := 17) 80 d8_isBetween_17 ml8_80 (ms8_in) (me8_in) ⟨rfl, rfl⟩ ⟨Nat.le_of_ble_eq_true rfl, Nat.le_of_ble_eq_true rfl⟩ (Nat.le_of_ble_eq_true rfl) (Nat.le_of_ble_eq_true rfl) (Or.inr rfl) (Nat.zero_le _) (Nat.zero_le _) rfl (s8_in F l0 l2 l1 S) (fun v1 S => ?_)
    exact sd_zrv (pc := 20) d8_isBetween_20 (Nat.zero_le _) (Nat.zero_le _)
  · refine sd_iload_n (pc := 5) d8_isBetween_5 rfl ?_
    refine sd_iload_n (pc := 6) d8_isBetween_6 rfl ?_
    refine sd_iload_n (pc := 7) d8_isBetween_7 rfl ?_
    refine sd_cSI (k2 := k8_in) (As := [.int l0, .int l1, .int l2]) (rest := []) (pc := 8) 80 d8_isBetween_8 ml8_80 (ms8_in) (me8_in) ⟨rfl, rfl⟩ ⟨Nat.le_of_ble_eq_true rfl, Nat.le_of_ble_eq_true rfl⟩ (Nat.le_of_ble_eq_true rfl) (Nat.le_of_ble_eq_true rfl) (Or.inr rfl) (Nat.zero_le _) (Nat.zero_le _) rfl (s8_in F l0 l1 l2 S) (fun v2 S => ?_)
    refine sd_goto (pc := 11) 20 d8_isBetween_11 (by decide) ?_
    exact sd_zrv (pc := 20) d8_isBetween_20 (Nat.zero_le _) (Nat.zero_le _)
set_option maxHeartbeats 4000000 in
set_option maxRecDepth 20000 in
theorem s8_isSeen {N : Nat} (F : Nat) (l0 : Int32) (l1 : Int32) (l2 : Int32) (S : sm_t) : sm_P (sm_jI N) k8_isSeen [.int l0, .int l1, .int l2] (sm_m N S) (x8_isSeen F l0 l1 l2 S) := by
  show sm_S (sm_jI N) k8_isSeen 0 0 0 [some (.int l0), some (.int l1), some (.int l2)] [] (sm_m N S) (x8_isSeen F l0 l1 l2 S)
  unfold x8_isSeen
  refine sd_iload_n (pc := 0) d8_isSeen_0 rfl ?_
  refine sd_bipush (pc := 1) 12 d8_isSeen_1 cb_12 ?_
  refine sd_irem (pc := 3) d8_isSeen_3 (by decide) ?_
  refine sd_iload_n (pc := 4) d8_isSeen_4 rfl ?_
  refine sd_bipush (pc := 5) 12 d8_isSeen_5 cb_12 ?_
  refine sd_irem (pc := 7) d8_isSeen_7 (by decide) ?_
  refine sd_iload_n (pc := 8) d8_isSeen_8 rfl ?_
  refine sd_bipush (pc := 9) 12 d8_isSeen_9 cb_12 ?_
  refine sd_irem (pc := 11) d8_isSeen_11 (by decide) ?_
  refine sd_cSI (k2 := k8_isBetween) (As := [.int (sm_ir l0 12), .int (sm_ir l1 12), .int (sm_ir l2 12)]) (rest := []) (pc := 12) 178 d8_isSeen_12 ml8_178 (ms8_isBetween) (me8_isBetween) ⟨rfl, rfl⟩ ⟨Nat.le_of_ble_eq_true rfl, Nat.le_of_ble_eq_true rfl⟩ (Nat.le_of_ble_eq_true rfl) (Nat.le_of_ble_eq_true rfl) (Or.inr rfl) (Nat.zero_le _) (Nat.zero_le _) rfl (s8_isBetween F (sm_ir l0 12) (sm_ir l1 12) (sm_ir l2 12) S) (fun v1 S => ?_)
  refine sd_if_eq (pc := 15) 40 d8_isSeen_15 (by decide) (fun _ => ?_) (fun _ => ?_)
  · refine sd_iconst (pc := 40) 0 d8_isSeen_40 ci_0 ?_
    exact sd_zret (pc := 41) d8_isSeen_41 (by decide) (Nat.zero_le _) (Nat.zero_le _)
  · refine sd_iload_n (pc := 18) d8_isSeen_18 rfl ?_
    refine sd_bipush (pc := 19) 12 d8_isSeen_19 cb_12 ?_
    refine sd_idiv (pc := 21) d8_isSeen_21 (by decide) ?_
    refine sd_iload_n (pc := 22) d8_isSeen_22 rfl ?_
    refine sd_bipush (pc := 23) 12 d8_isSeen_23 cb_12 ?_
    refine sd_idiv (pc := 25) d8_isSeen_25 (by decide) ?_
    refine sd_iload_n (pc := 26) d8_isSeen_26 rfl ?_
    refine sd_bipush (pc := 27) 12 d8_isSeen_27 cb_12 ?_
    refine sd_idiv (pc := 29) d8_isSeen_29 (by decide) ?_
    refine sd_cSI (k2 := k8_isBetween) (As := [.int (l0 / 12), .int (l1 / 12), .int (l2 / 12)]) (rest := []) (pc := 30) 178 d8_isSeen_30 ml8_178 (ms8_isBetween) (me8_isBetween) ⟨rfl, rfl⟩ ⟨Nat.le_of_ble_eq_true rfl, Nat.le_of_ble_eq_true rfl⟩ (Nat.le_of_ble_eq_true rfl) (Nat.le_of_ble_eq_true rfl) (Or.inr rfl) (Nat.zero_le _) (Nat.zero_le _) rfl (s8_isBetween F (l0 / 12) (l1 / 12) (l2 / 12) S) (fun v2 S => ?_)
    refine sd_if_eq (pc := 33) 40 d8_isSeen_33 (by decide) (fun _ => ?_) (fun _ => ?_)
    · refine sd_iconst (pc := 40) 0 d8_isSeen_40 ci_0 ?_
      exact sd_zret (pc := 41) d8_isSeen_41 (by decide) (Nat.zero_le _) (Nat.zero_le _)
    · refine sd_iconst (pc := 36) 1 d8_isSeen_36 ci_1 ?_
      refine sd_goto (pc := 37) 41 d8_isSeen_37 (by decide) ?_
      exact sd_zret (pc := 41) d8_isSeen_41 (by decide) (Nat.zero_le _) (Nat.zero_le _)
set_option maxHeartbeats 4000000 in
set_option maxRecDepth 20000 in
theorem s8_weight {N : Nat} (F : Nat) (l1 : Int32) (l2 : Int32) (S : sm_t) : sm_P (sm_jI N) k8_weight [.ref 52, .int l1, .int l2] (sm_m N S) (x8_weight F l1 l2 S) := by
  show sm_S (sm_jI N) k8_weight 0 0 0 [some (.ref 52), some (.int l1), some (.int l2), none, none, none] [] (sm_m N S) (x8_weight F l1 l2 S)
  unfold x8_weight
  refine sd_aload_n (pc := 0) d8_weight_0 rfl ?_
  refine sd_iload_n (pc := 1) d8_weight_1 rfl ?_
  refine sd_iconst (pc := 2) 1 d8_weight_2 ci_1 ?_
  refine sd_cVI (k2 := k8_tell) (As := [.int l1, .int 1]) (rest := []) (b := 52) (ci := 7) (pc := 3) 175 (show sm_sq 52 = some (.inr 7) from rfl) (by decide) rfl d8_weight_3 ml8_175 (ms8_tell).1 (ms8_tell).2 (me8_tell) ⟨rfl, rfl⟩ ⟨Nat.le_of_ble_eq_true rfl, Nat.le_of_ble_eq_true rfl⟩ (Nat.le_of_ble_eq_true rfl) (Nat.le_of_ble_eq_true rfl) (Or.inl rfl) (Nat.zero_le _) (Nat.zero_le _) rfl (s8_tell F l1 1 S) (fun v1 S => ?_)
  refine sd_istore_n (lf2 := [some (.ref 52), some (.int l1), some (.int l2), some (.int v1), none, none]) (pc := 6) d8_weight_6 (Nat.le_of_ble_eq_true rfl) rfl ?_
  refine sd_aload_n (pc := 7) d8_weight_7 rfl ?_
  refine sd_iload_n (pc := 8) d8_weight_8 rfl ?_
  refine sd_iconst (pc := 9) 2 d8_weight_9 ci_2 ?_
  refine sd_cVI (k2 := k8_tell) (As := [.int l1, .int 2]) (rest := []) (b := 52) (ci := 7) (pc := 10) 175 (show sm_sq 52 = some (.inr 7) from rfl) (by decide) rfl d8_weight_10 ml8_175 (ms8_tell).1 (ms8_tell).2 (me8_tell) ⟨rfl, rfl⟩ ⟨Nat.le_of_ble_eq_true rfl, Nat.le_of_ble_eq_true rfl⟩ (Nat.le_of_ble_eq_true rfl) (Nat.le_of_ble_eq_true rfl) (Or.inl rfl) (Nat.zero_le _) (Nat.zero_le _) rfl (s8_tell F l1 2 S) (fun v2 S => ?_)
  refine sd_istore (lf2 := [some (.ref 52), some (.int l1), some (.int l2), some (.int v1), some (.int v2), none]) (pc := 13) d8_weight_13 (Nat.le_of_ble_eq_true rfl) rfl ?_
  refine sd_aload_n (pc := 15) d8_weight_15 rfl ?_
  refine sd_iload_n (pc := 16) d8_weight_16 rfl ?_
  refine sd_iconst (pc := 17) 3 d8_weight_17 ci_3 ?_
  refine sd_cVI (k2 := k8_tell) (As := [.int l1, .int 3]) (rest := []) (b := 52) (ci := 7) (pc := 18) 175 (show sm_sq 52 = some (.inr 7) from rfl) (by decide) rfl d8_weight_18 ml8_175 (ms8_tell).1 (ms8_tell).2 (me8_tell) ⟨rfl, rfl⟩ ⟨Nat.le_of_ble_eq_true rfl, Nat.le_of_ble_eq_true rfl⟩ (Nat.le_of_ble_eq_true rfl) (Nat.le_of_ble_eq_true rfl) (Or.inl rfl) (Nat.zero_le _) (Nat.zero_le _) rfl (s8_tell F l1 3 S) (fun v3 S => ?_)
  refine sd_istore (lf2 := [some (.ref 52), some (.int l1), some (.int l2), some (.int v1), some (.int v2), some (.int v3)]) (pc := 21) d8_weight_21 (Nat.le_of_ble_eq_true rfl) rfl ?_
  refine sd_aload_n (pc := 23) d8_weight_23 rfl ?_
  refine sd_iload_n (pc := 24) d8_weight_24 rfl ?_
  refine sd_iconst (pc := 25) 0 d8_weight_25 ci_0 ?_
  refine sd_cVI (k2 := k8_tell) (As := [.int l1, .int 0]) (rest := []) (b := 52) (ci := 7) (pc := 26) 175 (show sm_sq 52 = some (.inr 7) from rfl) (by decide) rfl d8_weight_26 ml8_175 (ms8_tell).1 (ms8_tell).2 (me8_tell) ⟨rfl, rfl⟩ ⟨Nat.le_of_ble_eq_true rfl, Nat.le_of_ble_eq_true rfl⟩ (Nat.le_of_ble_eq_true rfl) (Nat.le_of_ble_eq_true rfl) (Or.inl rfl) (Nat.zero_le _) (Nat.zero_le _) rfl (s8_tell F l1 0 S) (fun v4 S => ?_)
  refine sd_ite (fun h5 => ?_) (fun _ => ?_)
  · refine sd_swo (pc := 29) 225 d8_weight_29 (sm_so (by decide) (by decide) h5) (by decide) ?_
    refine sd_bipush (pc := 225) 12 d8_weight_225 cb_12 ?_
    exact sd_iret (pc := 227) d8_weight_227 rfl (Nat.zero_le _) (Nat.zero_le _)
  refine sd_ite (fun h8 => ?_) (fun _ => ?_)
  · refine sd_swi (off := 43) (pc := 29) 72 d8_weight_29 (by rw [h8]; decide) (by rw [h8]; decide) (by rw [h8]; decide) (by decide) ?_
    refine sd_iload (pc := 72) d8_weight_72 rfl ?_
    refine sd_iload (pc := 74) d8_weight_74 rfl ?_
    refine sd_iload_n (pc := 76) d8_weight_76 rfl ?_
    refine sd_cSI (k2 := k8_farOf) (As := [.int v2, .int l2]) (rest := [.int v3]) (pc := 77) 123 d8_weight_77 ml8_123 (ms8_farOf) (me8_farOf) ⟨rfl, rfl⟩ ⟨Nat.le_of_ble_eq_true rfl, Nat.le_of_ble_eq_true rfl⟩ (Nat.le_of_ble_eq_true rfl) (Nat.le_of_ble_eq_true rfl) (Or.inl rfl) (Nat.zero_le _) (Nat.zero_le _) rfl (s8_farOf F v2 l2 S) (fun v6 S => ?_)
    refine sd_cSI (k2 := k8_heardBy) (As := [.int v3, .int v6]) (rest := []) (pc := 80) 181 d8_weight_80 ml8_181 (ms8_heardBy) (me8_heardBy) ⟨rfl, rfl⟩ ⟨Nat.le_of_ble_eq_true rfl, Nat.le_of_ble_eq_true rfl⟩ (Nat.le_of_ble_eq_true rfl) (Nat.le_of_ble_eq_true rfl) (Or.inl rfl) (Nat.zero_le _) (Nat.zero_le _) rfl (s8_heardBy F v3 v6 S) (fun v7 S => ?_)
    exact sd_iret (pc := 83) d8_weight_83 rfl (Nat.zero_le _) (Nat.zero_le _)
  refine sd_ite (fun h11 => ?_) (fun _ => ?_)
  · refine sd_swi (off := 55) (pc := 29) 84 d8_weight_29 (by rw [h11]; decide) (by rw [h11]; decide) (by rw [h11]; decide) (by decide) ?_
    refine sd_iload (pc := 84) d8_weight_84 rfl ?_
    refine sd_iload_n (pc := 86) d8_weight_86 rfl ?_
    refine sd_cSI (k2 := k8_farOf) (As := [.int v2, .int l2]) (rest := []) (pc := 87) 123 d8_weight_87 ml8_123 (ms8_farOf) (me8_farOf) ⟨rfl, rfl⟩ ⟨Nat.le_of_ble_eq_true rfl, Nat.le_of_ble_eq_true rfl⟩ (Nat.le_of_ble_eq_true rfl) (Nat.le_of_ble_eq_true rfl) (Or.inl rfl) (Nat.zero_le _) (Nat.zero_le _) rfl (s8_farOf F v2 l2 S) (fun v9 S => ?_)
    refine sd_iload (pc := 90) d8_weight_90 rfl ?_
    refine sd_ic_gt (pc := 92) 100 d8_weight_92 (by decide) (fun _ => ?_) (fun _ => ?_)
    · refine sd_iload (pc := 100) d8_weight_100 rfl ?_
      refine sd_iload_n (pc := 102) d8_weight_102 rfl ?_
      refine sd_cSI (k2 := k8_farOf) (As := [.int v2, .int l2]) (rest := []) (pc := 103) 123 d8_weight_103 ml8_123 (ms8_farOf) (me8_farOf) ⟨rfl, rfl⟩ ⟨Nat.le_of_ble_eq_true rfl, Nat.le_of_ble_eq_true rfl⟩ (Nat.le_of_ble_eq_true rfl) (Nat.le_of_ble_eq_true rfl) (Or.inl rfl) (Nat.zero_le _) (Nat.zero_le _) rfl (s8_farOf F v2 l2 S) (fun v10 S => ?_)
      refine sd_iconst (pc := 106) 2 d8_weight_106 ci_2 ?_
      refine sd_iload (pc := 107) d8_weight_107 rfl ?_
      refine sd_imul (pc := 109) d8_weight_109 ?_
      refine sd_iconst (pc := 110) 1 d8_weight_110 ci_1 ?_
      refine sd_iadd (pc := 111) d8_weight_111 ?_
      refine sd_ic_gt (pc := 112) 119 d8_weight_112 (by decide) (fun _ => ?_) (fun _ => ?_)
      · refine sd_iconst (pc := 119) 1 d8_weight_119 ci_1 ?_
        exact sd_iret (pc := 120) d8_weight_120 rfl (Nat.zero_le _) (Nat.zero_le _)
      · refine sd_iconst (pc := 115) 4 d8_weight_115 ci_4 ?_
        refine sd_goto (pc := 116) 120 d8_weight_116 (by decide) ?_
        exact sd_iret (pc := 120) d8_weight_120 rfl (Nat.zero_le _) (Nat.zero_le _)
    · refine sd_bipush (pc := 95) 12 d8_weight_95 cb_12 ?_
      refine sd_goto (pc := 97) 120 d8_weight_97 (by decide) ?_
      exact sd_iret (pc := 120) d8_weight_120 rfl (Nat.zero_le _) (Nat.zero_le _)
  refine sd_ite (fun h14 => ?_) (fun _ => ?_)
  · refine sd_swi (off := 92) (pc := 29) 121 d8_weight_29 (by rw [h14]; decide) (by rw [h14]; decide) (by rw [h14]; decide) (by decide) ?_
    refine sd_iload_n (pc := 121) d8_weight_121 rfl ?_
    refine sd_iload_n (pc := 122) d8_weight_122 rfl ?_
    refine sd_ic_ne (pc := 123) 131 d8_weight_123 (by decide) (fun _ => ?_) (fun _ => ?_)
    · refine sd_bipush (pc := 126) 12 d8_weight_126 cb_12 ?_
      refine sd_goto (pc := 128) 161 d8_weight_128 (by decide) ?_
      exact sd_iret (pc := 161) d8_weight_161 rfl (Nat.zero_le _) (Nat.zero_le _)
    · refine sd_iload_n (pc := 131) d8_weight_131 rfl ?_
      refine sd_iload_n (pc := 132) d8_weight_132 rfl ?_
      refine sd_isub (pc := 133) d8_weight_133 ?_
      refine sd_cSI (k2 := k8_abs) (As := [.int (v1 - l2)]) (rest := []) (pc := 134) 111 d8_weight_134 ml8_111 (ms8_abs) (me8_abs) ⟨rfl, rfl⟩ ⟨Nat.le_of_ble_eq_true rfl, Nat.le_of_ble_eq_true rfl⟩ (Nat.le_of_ble_eq_true rfl) (Nat.le_of_ble_eq_true rfl) (Or.inl rfl) (Nat.zero_le _) (Nat.zero_le _) rfl (s8_abs F (v1 - l2) S) (fun v12 S => ?_)
      refine sd_iconst (pc := 137) 1 d8_weight_137 ci_1 ?_
      refine sd_ic_ne (pc := 138) 146 d8_weight_138 (by decide) (fun _ => ?_) (fun _ => ?_)
      · refine sd_bipush (pc := 141) 6 d8_weight_141 cb_6 ?_
        refine sd_goto (pc := 143) 161 d8_weight_143 (by decide) ?_
        exact sd_iret (pc := 161) d8_weight_161 rfl (Nat.zero_le _) (Nat.zero_le _)
      · refine sd_iload_n (pc := 146) d8_weight_146 rfl ?_
        refine sd_iload_n (pc := 147) d8_weight_147 rfl ?_
        refine sd_isub (pc := 148) d8_weight_148 ?_
        refine sd_cSI (k2 := k8_abs) (As := [.int (v1 - l2)]) (rest := []) (pc := 149) 111 d8_weight_149 ml8_111 (ms8_abs) (me8_abs) ⟨rfl, rfl⟩ ⟨Nat.le_of_ble_eq_true rfl, Nat.le_of_ble_eq_true rfl⟩ (Nat.le_of_ble_eq_true rfl) (Nat.le_of_ble_eq_true rfl) (Or.inl rfl) (Nat.zero_le _) (Nat.zero_le _) rfl (s8_abs F (v1 - l2) S) (fun v13 S => ?_)
        refine sd_iconst (pc := 152) 2 d8_weight_152 ci_2 ?_
        refine sd_ic_ne (pc := 153) 160 d8_weight_153 (by decide) (fun _ => ?_) (fun _ => ?_)
        · refine sd_iconst (pc := 156) 2 d8_weight_156 ci_2 ?_
          refine sd_goto (pc := 157) 161 d8_weight_157 (by decide) ?_
          exact sd_iret (pc := 161) d8_weight_161 rfl (Nat.zero_le _) (Nat.zero_le _)
        · refine sd_iconst (pc := 160) 0 d8_weight_160 ci_0 ?_
          exact sd_iret (pc := 161) d8_weight_161 rfl (Nat.zero_le _) (Nat.zero_le _)
  refine sd_ite (fun h16 => ?_) (fun _ => ?_)
  · refine sd_swi (off := 133) (pc := 29) 162 d8_weight_29 (by rw [h16]; decide) (by rw [h16]; decide) (by rw [h16]; decide) (by decide) ?_
    refine sd_iload_n (pc := 162) d8_weight_162 rfl ?_
    refine sd_iload_n (pc := 163) d8_weight_163 rfl ?_
    refine sd_iload (pc := 164) d8_weight_164 rfl ?_
    refine sd_cSI (k2 := k8_isSeen) (As := [.int l2, .int v1, .int v2]) (rest := []) (pc := 166) 184 d8_weight_166 ml8_184 (ms8_isSeen) (me8_isSeen) ⟨rfl, rfl⟩ ⟨Nat.le_of_ble_eq_true rfl, Nat.le_of_ble_eq_true rfl⟩ (Nat.le_of_ble_eq_true rfl) (Nat.le_of_ble_eq_true rfl) (Or.inr rfl) (Nat.zero_le _) (Nat.zero_le _) rfl (s8_isSeen F l2 v1 v2 S) (fun v15 S => ?_)
    refine sd_if_eq (pc := 169) 180 d8_weight_169 (by decide) (fun _ => ?_) (fun _ => ?_)
    · refine sd_bipush (pc := 180) 12 d8_weight_180 cb_12 ?_
      exact sd_iret (pc := 182) d8_weight_182 rfl (Nat.zero_le _) (Nat.zero_le _)
    · refine sd_bipush (pc := 172) 12 d8_weight_172 cb_12 ?_
      refine sd_iload (pc := 174) d8_weight_174 rfl ?_
      refine sd_isub (pc := 176) d8_weight_176 ?_
      refine sd_goto (pc := 177) 182 d8_weight_177 (by decide) ?_
      exact sd_iret (pc := 182) d8_weight_182 rfl (Nat.zero_le _) (Nat.zero_le _)
  refine sd_ite (fun h18 => ?_) (fun _ => ?_)
  · refine sd_swi (off := 154) (pc := 29) 183 d8_weight_29 (by rw [h18]; decide) (by rw [h18]; decide) (by rw [h18]; decide) (by decide) ?_
    refine sd_iload_n (pc := 183) d8_weight_183 rfl ?_
    refine sd_iload_n (pc := 184) d8_weight_184 rfl ?_
    refine sd_cSI (k2 := k8_sideOf) (As := [.int v1, .int l2]) (rest := []) (pc := 185) 120 d8_weight_185 ml8_120 (ms8_sideOf) (me8_sideOf) ⟨rfl, rfl⟩ ⟨Nat.le_of_ble_eq_true rfl, Nat.le_of_ble_eq_true rfl⟩ (Nat.le_of_ble_eq_true rfl) (Nat.le_of_ble_eq_true rfl) (Or.inl rfl) (Nat.zero_le _) (Nat.zero_le _) rfl (s8_sideOf F v1 l2 S) (fun v17 S => ?_)
    refine sd_iload (pc := 188) d8_weight_188 rfl ?_
    refine sd_ic_ne (pc := 190) 198 d8_weight_190 (by decide) (fun _ => ?_) (fun _ => ?_)
    · refine sd_bipush (pc := 193) 12 d8_weight_193 cb_12 ?_
      refine sd_goto (pc := 195) 203 d8_weight_195 (by decide) ?_
      exact sd_iret (pc := 203) d8_weight_203 rfl (Nat.zero_le _) (Nat.zero_le _)
    · refine sd_bipush (pc := 198) 12 d8_weight_198 cb_12 ?_
      refine sd_iload (pc := 200) d8_weight_200 rfl ?_
      refine sd_isub (pc := 202) d8_weight_202 ?_
      exact sd_iret (pc := 203) d8_weight_203 rfl (Nat.zero_le _) (Nat.zero_le _)
  refine sd_ite (fun h19 => ?_) (fun _ => ?_)
  · refine sd_swi (off := 196) (pc := 29) 225 d8_weight_29 (by rw [h19]; decide) (by rw [h19]; decide) (by rw [h19]; decide) (by decide) ?_
    refine sd_bipush (pc := 225) 12 d8_weight_225 cb_12 ?_
    exact sd_iret (pc := 227) d8_weight_227 rfl (Nat.zero_le _) (Nat.zero_le _)
  refine sd_ite (fun h21 => ?_) (fun _ => ?_)
  · refine sd_swi (off := 175) (pc := 29) 204 d8_weight_29 (by rw [h21]; decide) (by rw [h21]; decide) (by rw [h21]; decide) (by decide) ?_
    refine sd_iload_n (pc := 204) d8_weight_204 rfl ?_
    refine sd_iload_n (pc := 205) d8_weight_205 rfl ?_
    refine sd_cSI (k2 := k8_farOf) (As := [.int v1, .int l2]) (rest := []) (pc := 206) 123 d8_weight_206 ml8_123 (ms8_farOf) (me8_farOf) ⟨rfl, rfl⟩ ⟨Nat.le_of_ble_eq_true rfl, Nat.le_of_ble_eq_true rfl⟩ (Nat.le_of_ble_eq_true rfl) (Nat.le_of_ble_eq_true rfl) (Or.inl rfl) (Nat.zero_le _) (Nat.zero_le _) rfl (s8_farOf F v1 l2 S) (fun v20 S => ?_)
    refine sd_iload (pc := 209) d8_weight_209 rfl ?_
    refine sd_ic_gt (pc := 211) 219 d8_weight_211 (by decide) (fun _ => ?_) (fun _ => ?_)
    · refine sd_bipush (pc := 219) 12 d8_weight_219 cb_12 ?_
      refine sd_iload (pc := 221) d8_weight_221 rfl ?_
      refine sd_isub (pc := 223) d8_weight_223 ?_
      exact sd_iret (pc := 224) d8_weight_224 rfl (Nat.zero_le _) (Nat.zero_le _)
    · refine sd_bipush (pc := 214) 12 d8_weight_214 cb_12 ?_
      refine sd_goto (pc := 216) 224 d8_weight_216 (by decide) ?_
      exact sd_iret (pc := 224) d8_weight_224 rfl (Nat.zero_le _) (Nat.zero_le _)
  exact sd_none
set_option maxHeartbeats 4000000 in
set_option maxRecDepth 20000 in
theorem s8_fullCells_4 {N : Nat} (F : Nat) : ∀ (f : Nat) (l1 : Int32) (l2 : Int32) (l3 : Int32) (S : sm_t), sm_S (sm_jI N) k8_fullCells 0 0 4 [some (.ref 52), some (.int l1), some (.int l2), some (.int l3)] [] (sm_m N S) (x8_fullCells_4 F f l1 l2 l3 S) := by
  intro f
  induction f with
  | zero =>
    intro l1 l2 l3 S
    exact sd_none
  | succ f ih =>
    intro l1 l2 l3 S
    rw [x8_fullCells_4]
    refine sd_iload_n (pc := 4) d8_fullCells_4 rfl ?_
    refine sd_bipush (pc := 5) 120 d8_fullCells_5 cb_120 ?_
    refine sd_ic_ge (pc := 7) 72 d8_fullCells_7 (by decide) (fun _ => ?_) (fun _ => ?_)
    · refine sd_iload_n (pc := 72) d8_fullCells_72 rfl ?_
      exact sd_iret (pc := 73) d8_fullCells_73 rfl (Nat.zero_le _) (Nat.zero_le _)
    · refine sd_iload_n (pc := 10) d8_fullCells_10 rfl ?_
      refine sd_aload_n (pc := 11) d8_fullCells_11 rfl ?_
      refine sd_iload_n (pc := 12) d8_fullCells_12 rfl ?_
      refine sd_iconst (pc := 13) 0 d8_fullCells_13 ci_0 ?_
      refine sd_cVI (k2 := k8_tell) (As := [.int l1, .int 0]) (rest := [.int l2]) (b := 52) (ci := 7) (pc := 14) 175 (show sm_sq 52 = some (.inr 7) from rfl) (by decide) rfl d8_fullCells_14 ml8_175 (ms8_tell).1 (ms8_tell).2 (me8_tell) ⟨rfl, rfl⟩ ⟨Nat.le_of_ble_eq_true rfl, Nat.le_of_ble_eq_true rfl⟩ (Nat.le_of_ble_eq_true rfl) (Nat.le_of_ble_eq_true rfl) (Or.inl rfl) (Nat.zero_le _) (Nat.zero_le _) rfl (s8_tell F l1 0 S) (fun v1 S => ?_)
      refine sd_iconst (pc := 17) 4 d8_fullCells_17 ci_4 ?_
      refine sd_ic_ne (pc := 18) 48 d8_fullCells_18 (by decide) (fun _ => ?_) (fun _ => ?_)
      · refine sd_iload_n (pc := 21) d8_fullCells_21 rfl ?_
        refine sd_aload_n (pc := 22) d8_fullCells_22 rfl ?_
        refine sd_iload_n (pc := 23) d8_fullCells_23 rfl ?_
        refine sd_iconst (pc := 24) 1 d8_fullCells_24 ci_1 ?_
        refine sd_cVI (k2 := k8_tell) (As := [.int l1, .int 1]) (rest := [.int l3, .int l2]) (b := 52) (ci := 7) (pc := 25) 175 (show sm_sq 52 = some (.inr 7) from rfl) (by decide) rfl d8_fullCells_25 ml8_175 (ms8_tell).1 (ms8_tell).2 (me8_tell) ⟨rfl, rfl⟩ ⟨Nat.le_of_ble_eq_true rfl, Nat.le_of_ble_eq_true rfl⟩ (Nat.le_of_ble_eq_true rfl) (Nat.le_of_ble_eq_true rfl) (Or.inl rfl) (Nat.zero_le _) (Nat.zero_le _) rfl (s8_tell F l1 1 S) (fun v2 S => ?_)
        refine sd_aload_n (pc := 28) d8_fullCells_28 rfl ?_
        refine sd_iload_n (pc := 29) d8_fullCells_29 rfl ?_
        refine sd_iconst (pc := 30) 2 d8_fullCells_30 ci_2 ?_
        refine sd_cVI (k2 := k8_tell) (As := [.int l1, .int 2]) (rest := [.int v2, .int l3, .int l2]) (b := 52) (ci := 7) (pc := 31) 175 (show sm_sq 52 = some (.inr 7) from rfl) (by decide) rfl d8_fullCells_31 ml8_175 (ms8_tell).1 (ms8_tell).2 (me8_tell) ⟨rfl, rfl⟩ ⟨Nat.le_of_ble_eq_true rfl, Nat.le_of_ble_eq_true rfl⟩ (Nat.le_of_ble_eq_true rfl) (Nat.le_of_ble_eq_true rfl) (Or.inl rfl) (Nat.zero_le _) (Nat.zero_le _) rfl (s8_tell F l1 2 S) (fun v3 S => ?_)
        refine sd_cSI (k2 := k8_isSeen) (As := [.int l3, .int v2, .int v3]) (rest := [.int l2]) (pc := 34) 184 d8_fullCells_34 ml8_184 (ms8_isSeen) (me8_isSeen) ⟨rfl, rfl⟩ ⟨Nat.le_of_ble_eq_true rfl, Nat.le_of_ble_eq_true rfl⟩ (Nat.le_of_ble_eq_true rfl) (Nat.le_of_ble_eq_true rfl) (Or.inr rfl) (Nat.zero_le _) (Nat.zero_le _) rfl (s8_isSeen F l3 v2 v3 S) (fun v4 S => ?_)
        refine sd_if_eq (pc := 37) 44 d8_fullCells_37 (by decide) (fun _ => ?_) (fun _ => ?_)
        · refine sd_iconst (pc := 44) 0 d8_fullCells_44 ci_0 ?_
          refine sd_goto (pc := 45) 64 d8_fullCells_45 (by decide) ?_
          refine sd_iadd (pc := 64) d8_fullCells_64 ?_
          refine sd_ni (fun v5 => ?_)
          refine sd_istore_n (lf2 := [some (.ref 52), some (.int l1), some (.int v5), some (.int l3)]) (pc := 65) d8_fullCells_65 (Nat.le_of_ble_eq_true rfl) rfl ?_
          refine sd_iinc (lf2 := [some (.ref 52), some (.int l1), some (.int v5), some (.int (l3 + 1))]) (pc := 66) d8_fullCells_66 (Nat.le_of_ble_eq_true rfl) rfl ci_1 rfl ?_
          refine sd_goto (pc := 69) 4 d8_fullCells_69 (by decide) ?_
          exact ih l1 v5 (l3 + 1) S
        · refine sd_iconst (pc := 40) 1 d8_fullCells_40 ci_1 ?_
          refine sd_goto (pc := 41) 64 d8_fullCells_41 (by decide) ?_
          refine sd_iadd (pc := 64) d8_fullCells_64 ?_
          refine sd_ni (fun v6 => ?_)
          refine sd_istore_n (lf2 := [some (.ref 52), some (.int l1), some (.int v6), some (.int l3)]) (pc := 65) d8_fullCells_65 (Nat.le_of_ble_eq_true rfl) rfl ?_
          refine sd_iinc (lf2 := [some (.ref 52), some (.int l1), some (.int v6), some (.int (l3 + 1))]) (pc := 66) d8_fullCells_66 (Nat.le_of_ble_eq_true rfl) rfl ci_1 rfl ?_
          refine sd_goto (pc := 69) 4 d8_fullCells_69 (by decide) ?_
          exact ih l1 v6 (l3 + 1) S
      · refine sd_aload_n (pc := 48) d8_fullCells_48 rfl ?_
        refine sd_iload_n (pc := 49) d8_fullCells_49 rfl ?_
        refine sd_iload_n (pc := 50) d8_fullCells_50 rfl ?_
        refine sd_cVI (k2 := k8_weight) (As := [.int l1, .int l3]) (rest := [.int l2]) (b := 52) (ci := 7) (pc := 51) 187 (show sm_sq 52 = some (.inr 7) from rfl) (by decide) rfl d8_fullCells_51 ml8_187 (ms8_weight).1 (ms8_weight).2 (me8_weight) ⟨rfl, rfl⟩ ⟨Nat.le_of_ble_eq_true rfl, Nat.le_of_ble_eq_true rfl⟩ (Nat.le_of_ble_eq_true rfl) (Nat.le_of_ble_eq_true rfl) (Or.inl rfl) (Nat.zero_le _) (Nat.zero_le _) rfl (s8_weight F l1 l3 S) (fun v7 S => ?_)
        refine sd_bipush (pc := 54) 12 d8_fullCells_54 cb_12 ?_
        refine sd_ic_ne (pc := 56) 63 d8_fullCells_56 (by decide) (fun _ => ?_) (fun _ => ?_)
        · refine sd_iconst (pc := 59) 1 d8_fullCells_59 ci_1 ?_
          refine sd_goto (pc := 60) 64 d8_fullCells_60 (by decide) ?_
          refine sd_iadd (pc := 64) d8_fullCells_64 ?_
          refine sd_ni (fun v8 => ?_)
          refine sd_istore_n (lf2 := [some (.ref 52), some (.int l1), some (.int v8), some (.int l3)]) (pc := 65) d8_fullCells_65 (Nat.le_of_ble_eq_true rfl) rfl ?_
          refine sd_iinc (lf2 := [some (.ref 52), some (.int l1), some (.int v8), some (.int (l3 + 1))]) (pc := 66) d8_fullCells_66 (Nat.le_of_ble_eq_true rfl) rfl ci_1 rfl ?_
          refine sd_goto (pc := 69) 4 d8_fullCells_69 (by decide) ?_
          exact ih l1 v8 (l3 + 1) S
        · refine sd_iconst (pc := 63) 0 d8_fullCells_63 ci_0 ?_
          refine sd_iadd (pc := 64) d8_fullCells_64 ?_
          refine sd_ni (fun v9 => ?_)
          refine sd_istore_n (lf2 := [some (.ref 52), some (.int l1), some (.int v9), some (.int l3)]) (pc := 65) d8_fullCells_65 (Nat.le_of_ble_eq_true rfl) rfl ?_
          refine sd_iinc (lf2 := [some (.ref 52), some (.int l1), some (.int v9), some (.int (l3 + 1))]) (pc := 66) d8_fullCells_66 (Nat.le_of_ble_eq_true rfl) rfl ci_1 rfl ?_
          refine sd_goto (pc := 69) 4 d8_fullCells_69 (by decide) ?_
          exact ih l1 v9 (l3 + 1) S
set_option maxHeartbeats 4000000 in
set_option maxRecDepth 20000 in
theorem s8_fullCells {N : Nat} (F : Nat) (l1 : Int32) (S : sm_t) : sm_P (sm_jI N) k8_fullCells [.ref 52, .int l1] (sm_m N S) (x8_fullCells F l1 S) := by
  show sm_S (sm_jI N) k8_fullCells 0 0 0 [some (.ref 52), some (.int l1), none, none] [] (sm_m N S) (x8_fullCells F l1 S)
  unfold x8_fullCells
  refine sd_iconst (pc := 0) 0 d8_fullCells_0 ci_0 ?_
  refine sd_istore_n (lf2 := [some (.ref 52), some (.int l1), some (.int 0), none]) (pc := 1) d8_fullCells_1 (Nat.le_of_ble_eq_true rfl) rfl ?_
  refine sd_iconst (pc := 2) 0 d8_fullCells_2 ci_0 ?_
  refine sd_istore_n (lf2 := [some (.ref 52), some (.int l1), some (.int 0), some (.int 0)]) (pc := 3) d8_fullCells_3 (Nat.le_of_ble_eq_true rfl) rfl ?_
  exact s8_fullCells_4 F F l1 0 0 S
set_option maxHeartbeats 4000000 in
set_option maxRecDepth 20000 in
theorem s8_mark_49 {N : Nat} (F : Nat) (l1 : Int32) (l2 : Int32) (S : sm_t) : sm_S (sm_jI N) k8_mark 0 0 49 [some (.ref 52), some (.int l1), some (.int l2), none] [] (sm_m N S) (x8_mark_49 F l1 l2 S) := by
  unfold x8_mark_49
  refine sd_iload_n (pc := 49) d8_mark_49 rfl ?_
  refine sd_ite (fun h2 => ?_) (fun _ => ?_)
  · refine sd_swo (pc := 50) 119 d8_mark_50 (sm_so (by decide) (by decide) h2) (by decide) ?_
    refine sd_aload_n (pc := 119) d8_mark_119 rfl ?_
    refine sd_iload_n (pc := 120) d8_mark_120 rfl ?_
    refine sd_cVI (k2 := k8_fullCells) (As := [.int l1]) (rest := []) (b := 52) (ci := 7) (pc := 121) 193 (show sm_sq 52 = some (.inr 7) from rfl) (by decide) rfl d8_mark_121 ml8_193 (ms8_fullCells).1 (ms8_fullCells).2 (me8_fullCells) ⟨rfl, rfl⟩ ⟨Nat.le_of_ble_eq_true rfl, Nat.le_of_ble_eq_true rfl⟩ (Nat.le_of_ble_eq_true rfl) (Nat.le_of_ble_eq_true rfl) (Or.inl rfl) (Nat.zero_le _) (Nat.zero_le _) rfl (s8_fullCells F l1 S) (fun v1 S => ?_)
    exact sd_iret (pc := 124) d8_mark_124 rfl (Nat.zero_le _) (Nat.zero_le _)
  refine sd_ite (fun h5 => ?_) (fun _ => ?_)
  · refine sd_swi (off := 38) (pc := 50) 88 d8_mark_50 (by rw [h5]; decide) (by rw [h5]; decide) (by rw [h5]; decide) (by decide) ?_
    refine sd_aload_n (pc := 88) d8_mark_88 rfl ?_
    refine sd_iload_n (pc := 89) d8_mark_89 rfl ?_
    refine sd_iconst (pc := 90) 3 d8_mark_90 ci_3 ?_
    refine sd_cVI (k2 := k8_tell) (As := [.int l1, .int 3]) (rest := []) (b := 52) (ci := 7) (pc := 91) 175 (show sm_sq 52 = some (.inr 7) from rfl) (by decide) rfl d8_mark_91 ml8_175 (ms8_tell).1 (ms8_tell).2 (me8_tell) ⟨rfl, rfl⟩ ⟨Nat.le_of_ble_eq_true rfl, Nat.le_of_ble_eq_true rfl⟩ (Nat.le_of_ble_eq_true rfl) (Nat.le_of_ble_eq_true rfl) (Or.inl rfl) (Nat.zero_le _) (Nat.zero_le _) rfl (s8_tell F l1 3 S) (fun v3 S => ?_)
    refine sd_cSI (k2 := k8_leastFar) (As := [.int v3]) (rest := []) (pc := 94) 190 d8_mark_94 ml8_190 (ms8_leastFar) (me8_leastFar) ⟨rfl, rfl⟩ ⟨Nat.le_of_ble_eq_true rfl, Nat.le_of_ble_eq_true rfl⟩ (Nat.le_of_ble_eq_true rfl) (Nat.le_of_ble_eq_true rfl) (Or.inl rfl) (Nat.zero_le _) (Nat.zero_le _) rfl (s8_leastFar F v3 S) (fun v4 S => ?_)
    exact sd_iret (pc := 97) d8_mark_97 rfl (Nat.zero_le _) (Nat.zero_le _)
  refine sd_ite (fun h7 => ?_) (fun _ => ?_)
  · refine sd_swi (off := 69) (pc := 50) 119 d8_mark_50 (by rw [h7]; decide) (by rw [h7]; decide) (by rw [h7]; decide) (by decide) ?_
    refine sd_aload_n (pc := 119) d8_mark_119 rfl ?_
    refine sd_iload_n (pc := 120) d8_mark_120 rfl ?_
    refine sd_cVI (k2 := k8_fullCells) (As := [.int l1]) (rest := []) (b := 52) (ci := 7) (pc := 121) 193 (show sm_sq 52 = some (.inr 7) from rfl) (by decide) rfl d8_mark_121 ml8_193 (ms8_fullCells).1 (ms8_fullCells).2 (me8_fullCells) ⟨rfl, rfl⟩ ⟨Nat.le_of_ble_eq_true rfl, Nat.le_of_ble_eq_true rfl⟩ (Nat.le_of_ble_eq_true rfl) (Nat.le_of_ble_eq_true rfl) (Or.inl rfl) (Nat.zero_le _) (Nat.zero_le _) rfl (s8_fullCells F l1 S) (fun v6 S => ?_)
    exact sd_iret (pc := 124) d8_mark_124 rfl (Nat.zero_le _) (Nat.zero_le _)
  refine sd_ite (fun h9 => ?_) (fun _ => ?_)
  · refine sd_swi (off := 48) (pc := 50) 98 d8_mark_50 (by rw [h9]; decide) (by rw [h9]; decide) (by rw [h9]; decide) (by decide) ?_
    refine sd_aload_n (pc := 98) d8_mark_98 rfl ?_
    refine sd_iload_n (pc := 99) d8_mark_99 rfl ?_
    refine sd_iconst (pc := 100) 1 d8_mark_100 ci_1 ?_
    refine sd_cVI (k2 := k8_tell) (As := [.int l1, .int 1]) (rest := []) (b := 52) (ci := 7) (pc := 101) 175 (show sm_sq 52 = some (.inr 7) from rfl) (by decide) rfl d8_mark_101 ml8_175 (ms8_tell).1 (ms8_tell).2 (me8_tell) ⟨rfl, rfl⟩ ⟨Nat.le_of_ble_eq_true rfl, Nat.le_of_ble_eq_true rfl⟩ (Nat.le_of_ble_eq_true rfl) (Nat.le_of_ble_eq_true rfl) (Or.inl rfl) (Nat.zero_le _) (Nat.zero_le _) rfl (s8_tell F l1 1 S) (fun v8 S => ?_)
    exact sd_iret (pc := 104) d8_mark_104 rfl (Nat.zero_le _) (Nat.zero_le _)
  refine sd_ite (fun h11 => ?_) (fun _ => ?_)
  · refine sd_swi (off := 69) (pc := 50) 119 d8_mark_50 (by rw [h11]; decide) (by rw [h11]; decide) (by rw [h11]; decide) (by decide) ?_
    refine sd_aload_n (pc := 119) d8_mark_119 rfl ?_
    refine sd_iload_n (pc := 120) d8_mark_120 rfl ?_
    refine sd_cVI (k2 := k8_fullCells) (As := [.int l1]) (rest := []) (b := 52) (ci := 7) (pc := 121) 193 (show sm_sq 52 = some (.inr 7) from rfl) (by decide) rfl d8_mark_121 ml8_193 (ms8_fullCells).1 (ms8_fullCells).2 (me8_fullCells) ⟨rfl, rfl⟩ ⟨Nat.le_of_ble_eq_true rfl, Nat.le_of_ble_eq_true rfl⟩ (Nat.le_of_ble_eq_true rfl) (Nat.le_of_ble_eq_true rfl) (Or.inl rfl) (Nat.zero_le _) (Nat.zero_le _) rfl (s8_fullCells F l1 S) (fun v10 S => ?_)
    exact sd_iret (pc := 124) d8_mark_124 rfl (Nat.zero_le _) (Nat.zero_le _)
  refine sd_ite (fun h13 => ?_) (fun _ => ?_)
  · refine sd_swi (off := 55) (pc := 50) 105 d8_mark_50 (by rw [h13]; decide) (by rw [h13]; decide) (by rw [h13]; decide) (by decide) ?_
    refine sd_aload_n (pc := 105) d8_mark_105 rfl ?_
    refine sd_iload_n (pc := 106) d8_mark_106 rfl ?_
    refine sd_iconst (pc := 107) 2 d8_mark_107 ci_2 ?_
    refine sd_cVI (k2 := k8_tell) (As := [.int l1, .int 2]) (rest := []) (b := 52) (ci := 7) (pc := 108) 175 (show sm_sq 52 = some (.inr 7) from rfl) (by decide) rfl d8_mark_108 ml8_175 (ms8_tell).1 (ms8_tell).2 (me8_tell) ⟨rfl, rfl⟩ ⟨Nat.le_of_ble_eq_true rfl, Nat.le_of_ble_eq_true rfl⟩ (Nat.le_of_ble_eq_true rfl) (Nat.le_of_ble_eq_true rfl) (Or.inl rfl) (Nat.zero_le _) (Nat.zero_le _) rfl (s8_tell F l1 2 S) (fun v12 S => ?_)
    exact sd_iret (pc := 111) d8_mark_111 rfl (Nat.zero_le _) (Nat.zero_le _)
  refine sd_ite (fun h15 => ?_) (fun _ => ?_)
  · refine sd_swi (off := 62) (pc := 50) 112 d8_mark_50 (by rw [h15]; decide) (by rw [h15]; decide) (by rw [h15]; decide) (by decide) ?_
    refine sd_aload_n (pc := 112) d8_mark_112 rfl ?_
    refine sd_iload_n (pc := 113) d8_mark_113 rfl ?_
    refine sd_iconst (pc := 114) 3 d8_mark_114 ci_3 ?_
    refine sd_cVI (k2 := k8_tell) (As := [.int l1, .int 3]) (rest := []) (b := 52) (ci := 7) (pc := 115) 175 (show sm_sq 52 = some (.inr 7) from rfl) (by decide) rfl d8_mark_115 ml8_175 (ms8_tell).1 (ms8_tell).2 (me8_tell) ⟨rfl, rfl⟩ ⟨Nat.le_of_ble_eq_true rfl, Nat.le_of_ble_eq_true rfl⟩ (Nat.le_of_ble_eq_true rfl) (Nat.le_of_ble_eq_true rfl) (Or.inl rfl) (Nat.zero_le _) (Nat.zero_le _) rfl (s8_tell F l1 3 S) (fun v14 S => ?_)
    exact sd_iret (pc := 118) d8_mark_118 rfl (Nat.zero_le _) (Nat.zero_le _)
  exact sd_none
set_option maxHeartbeats 4000000 in
set_option maxRecDepth 20000 in
theorem s8_mark {N : Nat} (F : Nat) (l1 : Int32) (l2 : Int32) (S : sm_t) : sm_P (sm_jI N) k8_mark [.ref 52, .int l1, .int l2] (sm_m N S) (x8_mark F l1 l2 S) := by
  show sm_S (sm_jI N) k8_mark 0 0 0 [some (.ref 52), some (.int l1), some (.int l2), none] [] (sm_m N S) (x8_mark F l1 l2 S)
  unfold x8_mark
  refine sd_aload_n (pc := 0) d8_mark_0 rfl ?_
  refine sd_iload_n (pc := 1) d8_mark_1 rfl ?_
  refine sd_cVI (k2 := k8_isSign) (As := [.int l1]) (rest := []) (b := 52) (ci := 7) (pc := 2) 172 (show sm_sq 52 = some (.inr 7) from rfl) (by decide) rfl d8_mark_2 ml8_172 (ms8_isSign).1 (ms8_isSign).2 (me8_isSign) ⟨rfl, rfl⟩ ⟨Nat.le_of_ble_eq_true rfl, Nat.le_of_ble_eq_true rfl⟩ (Nat.le_of_ble_eq_true rfl) (Nat.le_of_ble_eq_true rfl) (Or.inr rfl) (Nat.zero_le _) (Nat.zero_le _) rfl (s8_isSign F l1 S) (fun v1 S => ?_)
  refine sd_if_eq (pc := 5) 18 d8_mark_5 (by decide) (fun _ => ?_) (fun _ => ?_)
  · refine sd_iconst (pc := 18) (-1) d8_mark_18 ci_m1 ?_
    exact sd_iret (pc := 19) d8_mark_19 rfl (Nat.zero_le _) (Nat.zero_le _)
  · refine sd_iload_n (pc := 8) d8_mark_8 rfl ?_
    refine sd_iconst (pc := 9) 1 d8_mark_9 ci_1 ?_
    refine sd_bipush (pc := 10) 7 d8_mark_10 cb_7 ?_
    refine sd_cSI (k2 := k8_in) (As := [.int l2, .int 1, .int 7]) (rest := []) (pc := 12) 80 d8_mark_12 ml8_80 (ms8_in) (me8_in) ⟨rfl, rfl⟩ ⟨Nat.le_of_ble_eq_true rfl, Nat.le_of_ble_eq_true rfl⟩ (Nat.le_of_ble_eq_true rfl) (Nat.le_of_ble_eq_true rfl) (Or.inr rfl) (Nat.zero_le _) (Nat.zero_le _) rfl (s8_in F l2 1 7 S) (fun v2 S => ?_)
    refine sd_if_ne (pc := 15) 20 d8_mark_15 (by decide) (fun _ => ?_) (fun _ => ?_)
    · refine sd_iconst (pc := 18) (-1) d8_mark_18 ci_m1 ?_
      exact sd_iret (pc := 19) d8_mark_19 rfl (Nat.zero_le _) (Nat.zero_le _)
    · refine sd_aload_n (pc := 20) d8_mark_20 rfl ?_
      refine sd_iload_n (pc := 21) d8_mark_21 rfl ?_
      refine sd_iconst (pc := 22) 0 d8_mark_22 ci_0 ?_
      refine sd_cVI (k2 := k8_tell) (As := [.int l1, .int 0]) (rest := []) (b := 52) (ci := 7) (pc := 23) 175 (show sm_sq 52 = some (.inr 7) from rfl) (by decide) rfl d8_mark_23 ml8_175 (ms8_tell).1 (ms8_tell).2 (me8_tell) ⟨rfl, rfl⟩ ⟨Nat.le_of_ble_eq_true rfl, Nat.le_of_ble_eq_true rfl⟩ (Nat.le_of_ble_eq_true rfl) (Nat.le_of_ble_eq_true rfl) (Or.inl rfl) (Nat.zero_le _) (Nat.zero_le _) rfl (s8_tell F l1 0 S) (fun v3 S => ?_)
      refine sd_istore_n (lf2 := [some (.ref 52), some (.int l1), some (.int l2), some (.int v3)]) (pc := 26) d8_mark_26 (Nat.le_of_ble_eq_true rfl) rfl ?_
      refine sd_iload_n (pc := 27) d8_mark_27 rfl ?_
      refine sd_iload_n (pc := 28) d8_mark_28 rfl ?_
      refine sd_ic_eq (pc := 29) 49 d8_mark_29 (by decide) (fun _ => ?_) (fun _ => ?_)
      · exact sd_fg [true, true, true, false] rfl (s8_mark_49 F l1 l2 S)
      · refine sd_iload_n (pc := 32) d8_mark_32 rfl ?_
        refine sd_iconst (pc := 33) 5 d8_mark_33 ci_5 ?_
        refine sd_ic_ne (pc := 34) 43 d8_mark_34 (by decide) (fun _ => ?_) (fun _ => ?_)
        · refine sd_iload_n (pc := 37) d8_mark_37 rfl ?_
          refine sd_bipush (pc := 38) 6 d8_mark_38 cb_6 ?_
          refine sd_ic_eq (pc := 40) 49 d8_mark_40 (by decide) (fun _ => ?_) (fun _ => ?_)
          · exact sd_fg [true, true, true, false] rfl (s8_mark_49 F l1 l2 S)
          · refine sd_aload_n (pc := 43) d8_mark_43 rfl ?_
            refine sd_iconst (pc := 44) 3 d8_mark_44 ci_3 ?_
            refine sd_cVI (k2 := k8_meets) (As := [.int 3]) (rest := []) (b := 52) (ci := 7) (pc := 45) 88 (show sm_sq 52 = some (.inr 7) from rfl) (by decide) rfl d8_mark_45 ml8_88 (ms8_meets).1 (ms8_meets).2 (me8_meets) ⟨rfl, rfl⟩ ⟨Nat.le_of_ble_eq_true rfl, Nat.le_of_ble_eq_true rfl⟩ (Nat.le_of_ble_eq_true rfl) (Nat.le_of_ble_eq_true rfl) (Or.inl rfl) (Nat.zero_le _) (Nat.zero_le _) rfl (s8_meets F 3 S) (fun v4 S => ?_)
            exact sd_iret (pc := 48) d8_mark_48 rfl (Nat.zero_le _) (Nat.zero_le _)
        · refine sd_aload_n (pc := 43) d8_mark_43 rfl ?_
          refine sd_iconst (pc := 44) 3 d8_mark_44 ci_3 ?_
          refine sd_cVI (k2 := k8_meets) (As := [.int 3]) (rest := []) (b := 52) (ci := 7) (pc := 45) 88 (show sm_sq 52 = some (.inr 7) from rfl) (by decide) rfl d8_mark_45 ml8_88 (ms8_meets).1 (ms8_meets).2 (me8_meets) ⟨rfl, rfl⟩ ⟨Nat.le_of_ble_eq_true rfl, Nat.le_of_ble_eq_true rfl⟩ (Nat.le_of_ble_eq_true rfl) (Nat.le_of_ble_eq_true rfl) (Or.inl rfl) (Nat.zero_le _) (Nat.zero_le _) rfl (s8_meets F 3 S) (fun v5 S => ?_)
          exact sd_iret (pc := 48) d8_mark_48 rfl (Nat.zero_le _) (Nat.zero_le _)
set_option maxHeartbeats 4000000 in
set_option maxRecDepth 20000 in
theorem s7_weighs {N : Nat} (F : Nat) (l1 : Int32) (l2 : Int32) (S : sm_t) : sm_P (sm_jI N) k7_weighs [.ref 3, .int l1, .int l2] (sm_m N S) (x7_weighs F l1 l2 S) := by
  show sm_S (sm_jI N) k7_weighs 0 0 0 [some (.ref 3), some (.int l1), some (.int l2), none, none] [] (sm_m N S) (x7_weighs F l1 l2 S)
  unfold x7_weighs
  refine sd_aload_n (pc := 0) d7_weighs_0 rfl ?_
  refine sd_getR (pc := 1) 22 (show sm_sq 3 = some (.inr 6) from rfl) rfl fl7_42 rfl d7_weighs_1 ?_
  refine sd_iload_n (pc := 4) d7_weighs_4 rfl ?_
  refine sd_cVI (k2 := k0_has) (As := [.int l1]) (rest := []) (b := 22) (ci := 0) (pc := 5) 184 (show sm_sq 22 = some (.inr 0) from rfl) (by decide) rfl d7_weighs_5 ml7_184 (ms0_has).1 (ms0_has).2 (me0_has) ⟨rfl, rfl⟩ ⟨Nat.le_of_ble_eq_true rfl, Nat.le_of_ble_eq_true rfl⟩ (Nat.le_of_ble_eq_true rfl) (Nat.le_of_ble_eq_true rfl) (Or.inr rfl) (Nat.zero_le _) (Nat.zero_le _) rfl (s0_has F l1 S) (fun v1 S => ?_)
  refine sd_if_ne (pc := 8) 13 d7_weighs_8 (by decide) (fun _ => ?_) (fun _ => ?_)
  · refine sd_iconst (pc := 11) (-1) d7_weighs_11 ci_m1 ?_
    exact sd_iret (pc := 12) d7_weighs_12 rfl (Nat.zero_le _) (Nat.zero_le _)
  · refine sd_aload_n (pc := 13) d7_weighs_13 rfl ?_
    refine sd_getR (pc := 14) 22 (show sm_sq 3 = some (.inr 6) from rfl) rfl fl7_42 rfl d7_weighs_14 ?_
    refine sd_getR (pc := 17) 23 (show sm_sq 22 = some (.inr 0) from rfl) rfl fl7_187 rfl d7_weighs_17 ?_
    refine sd_iload_n (pc := 20) d7_weighs_20 rfl ?_
    refine sd_aald (pc := 21) 6 (show sm_sq 23 = some (.inl (.object "TwoFliers$Sign", 12)) from rfl) rfl rfl (fun _ => rfl) (fun _ _ _ _ h => if_pos h) d7_weighs_21 (fun a2 => ?_)
    refine sd_astore_n (lf2 := [some (.ref 3), some (.int l1), some (.int l2), some (.ref a2), none]) (pc := 22) d7_weighs_22 (Nat.le_of_ble_eq_true rfl) rfl ?_
    refine sd_aload_n (pc := 23) d7_weighs_23 rfl ?_
    refine sd_on (fun h3 => ?_)
    refine sd_getI (pc := 24) h3 rfl fl7_202 d7_weighs_24 (fun v4 => ?_)
    refine sd_iconst (pc := 27) 3 d7_weighs_27 ci_3 ?_
    refine sd_ic_ne (pc := 28) 40 d7_weighs_28 (by decide) (fun _ => ?_) (fun _ => ?_)
    · refine sd_iload_n (pc := 31) d7_weighs_31 rfl ?_
      refine sd_bipush (pc := 32) 6 d7_weighs_32 cb_6 ?_
      refine sd_cSI (k2 := k7_isWithin) (As := [.int l2, .int 6]) (rest := []) (pc := 34) 137 d7_weighs_34 ml7_137 (ms7_isWithin) (me7_isWithin) ⟨rfl, rfl⟩ ⟨Nat.le_of_ble_eq_true rfl, Nat.le_of_ble_eq_true rfl⟩ (Nat.le_of_ble_eq_true rfl) (Nat.le_of_ble_eq_true rfl) (Or.inr rfl) (Nat.zero_le _) (Nat.zero_le _) rfl (s7_isWithin F l2 6 S) (fun v5 S => ?_)
      refine sd_goto (pc := 37) 44 d7_weighs_37 (by decide) ?_
      refine sd_istore (lf2 := [some (.ref 3), some (.int l1), some (.int l2), some (.ref a2), some (.int v5)]) (pc := 44) d7_weighs_44 (Nat.le_of_ble_eq_true rfl) rfl ?_
      refine sd_iload (pc := 46) d7_weighs_46 rfl ?_
      refine sd_if_eq (pc := 48) 59 d7_weighs_48 (by decide) (fun _ => ?_) (fun _ => ?_)
      · refine sd_iconst (pc := 59) (-1) d7_weighs_59 ci_m1 ?_
        exact sd_iret (pc := 60) d7_weighs_60 rfl (Nat.zero_le _) (Nat.zero_le _)
      · refine sd_aload_n (pc := 51) d7_weighs_51 rfl ?_
        refine sd_iload_n (pc := 52) d7_weighs_52 rfl ?_
        refine sd_cVI (k2 := k6_weight) (As := [.int l2]) (rest := []) (b := a2) (ci := 5) (pc := 53) 205 h3 (by decide) rfl d7_weighs_53 ml7_205 (ms6_weight).1 (ms6_weight).2 (me6_weight) ⟨rfl, rfl⟩ ⟨Nat.le_of_ble_eq_true rfl, Nat.le_of_ble_eq_true rfl⟩ (Nat.le_of_ble_eq_true rfl) (Nat.le_of_ble_eq_true rfl) (Or.inl rfl) (Nat.zero_le _) (Nat.zero_le _) rfl (s6_weight F a2 l2 S) (fun v6 S => ?_)
        refine sd_goto (pc := 56) 60 d7_weighs_56 (by decide) ?_
        exact sd_iret (pc := 60) d7_weighs_60 rfl (Nat.zero_le _) (Nat.zero_le _)
    · refine sd_iload_n (pc := 40) d7_weighs_40 rfl ?_
      refine sd_cSI (k2 := k1_isCell) (As := [.int l2]) (rest := []) (pc := 41) 120 d7_weighs_41 ml7_120 (ms1_isCell) (me1_isCell) ⟨rfl, rfl⟩ ⟨Nat.le_of_ble_eq_true rfl, Nat.le_of_ble_eq_true rfl⟩ (Nat.le_of_ble_eq_true rfl) (Nat.le_of_ble_eq_true rfl) (Or.inr rfl) (Nat.zero_le _) (Nat.zero_le _) rfl (s1_isCell F l2 S) (fun v7 S => ?_)
      refine sd_istore (lf2 := [some (.ref 3), some (.int l1), some (.int l2), some (.ref a2), some (.int v7)]) (pc := 44) d7_weighs_44 (Nat.le_of_ble_eq_true rfl) rfl ?_
      refine sd_iload (pc := 46) d7_weighs_46 rfl ?_
      refine sd_if_eq (pc := 48) 59 d7_weighs_48 (by decide) (fun _ => ?_) (fun _ => ?_)
      · refine sd_iconst (pc := 59) (-1) d7_weighs_59 ci_m1 ?_
        exact sd_iret (pc := 60) d7_weighs_60 rfl (Nat.zero_le _) (Nat.zero_le _)
      · refine sd_aload_n (pc := 51) d7_weighs_51 rfl ?_
        refine sd_iload_n (pc := 52) d7_weighs_52 rfl ?_
        refine sd_cVI (k2 := k6_weight) (As := [.int l2]) (rest := []) (b := a2) (ci := 5) (pc := 53) 205 h3 (by decide) rfl d7_weighs_53 ml7_205 (ms6_weight).1 (ms6_weight).2 (me6_weight) ⟨rfl, rfl⟩ ⟨Nat.le_of_ble_eq_true rfl, Nat.le_of_ble_eq_true rfl⟩ (Nat.le_of_ble_eq_true rfl) (Nat.le_of_ble_eq_true rfl) (Or.inl rfl) (Nat.zero_le _) (Nat.zero_le _) rfl (s6_weight F a2 l2 S) (fun v8 S => ?_)
        refine sd_goto (pc := 56) 60 d7_weighs_56 (by decide) ?_
        exact sd_iret (pc := 60) d7_weighs_60 rfl (Nat.zero_le _) (Nat.zero_le _)
set_option maxHeartbeats 4000000 in
set_option maxRecDepth 20000 in
theorem s8_weighs {N : Nat} (F : Nat) (l1 : Int32) (l2 : Int32) (S : sm_t) : sm_P (sm_jI N) k8_weighs [.ref 52, .int l1, .int l2] (sm_m N S) (x8_weighs F l1 l2 S) := by
  show sm_S (sm_jI N) k8_weighs 0 0 0 [some (.ref 52), some (.int l1), some (.int l2)] [] (sm_m N S) (x8_weighs F l1 l2 S)
  unfold x8_weighs
  refine sd_aload_n (pc := 0) d8_weighs_0 rfl ?_
  refine sd_iload_n (pc := 1) d8_weighs_1 rfl ?_
  refine sd_cVI (k2 := k8_isSign) (As := [.int l1]) (rest := []) (b := 52) (ci := 7) (pc := 2) 172 (show sm_sq 52 = some (.inr 7) from rfl) (by decide) rfl d8_weighs_2 ml8_172 (ms8_isSign).1 (ms8_isSign).2 (me8_isSign) ⟨rfl, rfl⟩ ⟨Nat.le_of_ble_eq_true rfl, Nat.le_of_ble_eq_true rfl⟩ (Nat.le_of_ble_eq_true rfl) (Nat.le_of_ble_eq_true rfl) (Or.inr rfl) (Nat.zero_le _) (Nat.zero_le _) rfl (s8_isSign F l1 S) (fun v1 S => ?_)
  refine sd_if_eq (pc := 5) 38 d8_weighs_5 (by decide) (fun _ => ?_) (fun _ => ?_)
  · refine sd_iconst (pc := 38) (-1) d8_weighs_38 ci_m1 ?_
    exact sd_iret (pc := 39) d8_weighs_39 rfl (Nat.zero_le _) (Nat.zero_le _)
  · refine sd_aload_n (pc := 8) d8_weighs_8 rfl ?_
    refine sd_iload_n (pc := 9) d8_weighs_9 rfl ?_
    refine sd_iconst (pc := 10) 0 d8_weighs_10 ci_0 ?_
    refine sd_cVI (k2 := k8_tell) (As := [.int l1, .int 0]) (rest := []) (b := 52) (ci := 7) (pc := 11) 175 (show sm_sq 52 = some (.inr 7) from rfl) (by decide) rfl d8_weighs_11 ml8_175 (ms8_tell).1 (ms8_tell).2 (me8_tell) ⟨rfl, rfl⟩ ⟨Nat.le_of_ble_eq_true rfl, Nat.le_of_ble_eq_true rfl⟩ (Nat.le_of_ble_eq_true rfl) (Nat.le_of_ble_eq_true rfl) (Or.inl rfl) (Nat.zero_le _) (Nat.zero_le _) rfl (s8_tell F l1 0 S) (fun v2 S => ?_)
    refine sd_iconst (pc := 14) 3 d8_weighs_14 ci_3 ?_
    refine sd_ic_ne (pc := 15) 31 d8_weighs_15 (by decide) (fun _ => ?_) (fun _ => ?_)
    · refine sd_iload_n (pc := 18) d8_weighs_18 rfl ?_
      refine sd_iconst (pc := 19) 0 d8_weighs_19 ci_0 ?_
      refine sd_bipush (pc := 20) 6 d8_weighs_20 cb_6 ?_
      refine sd_cSI (k2 := k8_in) (As := [.int l2, .int 0, .int 6]) (rest := []) (pc := 22) 80 d8_weighs_22 ml8_80 (ms8_in) (me8_in) ⟨rfl, rfl⟩ ⟨Nat.le_of_ble_eq_true rfl, Nat.le_of_ble_eq_true rfl⟩ (Nat.le_of_ble_eq_true rfl) (Nat.le_of_ble_eq_true rfl) (Or.inr rfl) (Nat.zero_le _) (Nat.zero_le _) rfl (s8_in F l2 0 6 S) (fun v3 S => ?_)
      refine sd_if_eq (pc := 25) 38 d8_weighs_25 (by decide) (fun _ => ?_) (fun _ => ?_)
      · refine sd_iconst (pc := 38) (-1) d8_weighs_38 ci_m1 ?_
        exact sd_iret (pc := 39) d8_weighs_39 rfl (Nat.zero_le _) (Nat.zero_le _)
      · refine sd_goto (pc := 28) 40 d8_weighs_28 (by decide) ?_
        refine sd_aload_n (pc := 40) d8_weighs_40 rfl ?_
        refine sd_iload_n (pc := 41) d8_weighs_41 rfl ?_
        refine sd_iload_n (pc := 42) d8_weighs_42 rfl ?_
        refine sd_cVI (k2 := k8_weight) (As := [.int l1, .int l2]) (rest := []) (b := 52) (ci := 7) (pc := 43) 187 (show sm_sq 52 = some (.inr 7) from rfl) (by decide) rfl d8_weighs_43 ml8_187 (ms8_weight).1 (ms8_weight).2 (me8_weight) ⟨rfl, rfl⟩ ⟨Nat.le_of_ble_eq_true rfl, Nat.le_of_ble_eq_true rfl⟩ (Nat.le_of_ble_eq_true rfl) (Nat.le_of_ble_eq_true rfl) (Or.inl rfl) (Nat.zero_le _) (Nat.zero_le _) rfl (s8_weight F l1 l2 S) (fun v4 S => ?_)
        exact sd_iret (pc := 46) d8_weighs_46 rfl (Nat.zero_le _) (Nat.zero_le _)
    · refine sd_iload_n (pc := 31) d8_weighs_31 rfl ?_
      refine sd_cSI (k2 := k8_isCell) (As := [.int l2]) (rest := []) (pc := 32) 117 d8_weighs_32 ml8_117 (ms8_isCell) (me8_isCell) ⟨rfl, rfl⟩ ⟨Nat.le_of_ble_eq_true rfl, Nat.le_of_ble_eq_true rfl⟩ (Nat.le_of_ble_eq_true rfl) (Nat.le_of_ble_eq_true rfl) (Or.inr rfl) (Nat.zero_le _) (Nat.zero_le _) rfl (s8_isCell F l2 S) (fun v5 S => ?_)
      refine sd_if_ne (pc := 35) 40 d8_weighs_35 (by decide) (fun _ => ?_) (fun _ => ?_)
      · refine sd_iconst (pc := 38) (-1) d8_weighs_38 ci_m1 ?_
        exact sd_iret (pc := 39) d8_weighs_39 rfl (Nat.zero_le _) (Nat.zero_le _)
      · refine sd_aload_n (pc := 40) d8_weighs_40 rfl ?_
        refine sd_iload_n (pc := 41) d8_weighs_41 rfl ?_
        refine sd_iload_n (pc := 42) d8_weighs_42 rfl ?_
        refine sd_cVI (k2 := k8_weight) (As := [.int l1, .int l2]) (rest := []) (b := 52) (ci := 7) (pc := 43) 187 (show sm_sq 52 = some (.inr 7) from rfl) (by decide) rfl d8_weighs_43 ml8_187 (ms8_weight).1 (ms8_weight).2 (me8_weight) ⟨rfl, rfl⟩ ⟨Nat.le_of_ble_eq_true rfl, Nat.le_of_ble_eq_true rfl⟩ (Nat.le_of_ble_eq_true rfl) (Nat.le_of_ble_eq_true rfl) (Or.inl rfl) (Nat.zero_le _) (Nat.zero_le _) rfl (s8_weight F l1 l2 S) (fun v6 S => ?_)
        exact sd_iret (pc := 46) d8_weighs_46 rfl (Nat.zero_le _) (Nat.zero_le _)
set_option maxHeartbeats 4000000 in
set_option maxRecDepth 20000 in
theorem s6_farthestHeard_3 {N : Nat} (F : Nat) : ∀ (f : Nat) (l0 : Int32) (l1 : Int32) (S : sm_t), sm_S (sm_jI N) k6_farthestHeard 0 0 3 [some (.int l0), some (.int l1)] [] (sm_m N S) (x6_farthestHeard_3 F f l0 l1 S) := by
  intro f
  induction f with
  | zero =>
    intro l0 l1 S
    exact sd_none
  | succ f ih =>
    intro l0 l1 S
    rw [x6_farthestHeard_3]
    refine sd_iload_n (pc := 3) d6_farthestHeard_3 rfl ?_
    refine sd_if_lt (pc := 4) 25 d6_farthestHeard_4 (by decide) (fun _ => ?_) (fun _ => ?_)
    · refine sd_bipush (pc := 25) (-9) d6_farthestHeard_25 cb_m9 ?_
      exact sd_iret (pc := 27) d6_farthestHeard_27 rfl (Nat.zero_le _) (Nat.zero_le _)
    · refine sd_iload_n (pc := 7) d6_farthestHeard_7 rfl ?_
      refine sd_iload_n (pc := 8) d6_farthestHeard_8 rfl ?_
      refine sd_cSI (k2 := k6_heardWeight) (As := [.int l0, .int l1]) (rest := []) (pc := 9) 50 d6_farthestHeard_9 ml6_50 (ms6_heardWeight) (me6_heardWeight) ⟨rfl, rfl⟩ ⟨Nat.le_of_ble_eq_true rfl, Nat.le_of_ble_eq_true rfl⟩ (Nat.le_of_ble_eq_true rfl) (Nat.le_of_ble_eq_true rfl) (Or.inl rfl) (Nat.zero_le _) (Nat.zero_le _) rfl (s6_heardWeight F l0 l1 S) (fun v1 S => ?_)
      refine sd_bipush (pc := 12) 8 d6_farthestHeard_12 cb_8 ?_
      refine sd_ic_lt (pc := 14) 19 d6_farthestHeard_14 (by decide) (fun _ => ?_) (fun _ => ?_)
      · refine sd_iinc (lf2 := [some (.int l0), some (.int (l1 + (-1)))]) (pc := 19) d6_farthestHeard_19 (Nat.le_of_ble_eq_true rfl) rfl ci_m1 rfl ?_
        refine sd_goto (pc := 22) 3 d6_farthestHeard_22 (by decide) ?_
        exact ih l0 (l1 + (-1)) S
      · refine sd_iload_n (pc := 17) d6_farthestHeard_17 rfl ?_
        exact sd_iret (pc := 18) d6_farthestHeard_18 rfl (Nat.zero_le _) (Nat.zero_le _)
set_option maxHeartbeats 4000000 in
set_option maxRecDepth 20000 in
theorem s6_farthestHeard {N : Nat} (F : Nat) (l0 : Int32) (S : sm_t) : sm_P (sm_jI N) k6_farthestHeard [.int l0] (sm_m N S) (x6_farthestHeard F l0 S) := by
  show sm_S (sm_jI N) k6_farthestHeard 0 0 0 [some (.int l0), none] [] (sm_m N S) (x6_farthestHeard F l0 S)
  unfold x6_farthestHeard
  refine sd_bipush (pc := 0) 11 d6_farthestHeard_0 cb_11 ?_
  refine sd_istore_n (lf2 := [some (.int l0), some (.int 11)]) (pc := 2) d6_farthestHeard_2 (Nat.le_of_ble_eq_true rfl) rfl ?_
  exact s6_farthestHeard_3 F F l0 11 S
set_option maxHeartbeats 4000000 in
set_option maxRecDepth 20000 in
theorem s7_near {N : Nat} (F : Nat) (l1 : Int32) (S : sm_t) : sm_P (sm_jI N) k7_near [.ref 3, .int l1] (sm_m N S) (x7_near F l1 S) := by
  show sm_S (sm_jI N) k7_near 0 0 0 [some (.ref 3), some (.int l1)] [] (sm_m N S) (x7_near F l1 S)
  unfold x7_near
  refine sd_iload_n (pc := 0) d7_near_0 rfl ?_
  refine sd_iconst (pc := 1) 5 d7_near_1 ci_5 ?_
  refine sd_cSI (k2 := k7_isWithin) (As := [.int l1, .int 5]) (rest := []) (pc := 2) 137 d7_near_2 ml7_137 (ms7_isWithin) (me7_isWithin) ⟨rfl, rfl⟩ ⟨Nat.le_of_ble_eq_true rfl, Nat.le_of_ble_eq_true rfl⟩ (Nat.le_of_ble_eq_true rfl) (Nat.le_of_ble_eq_true rfl) (Or.inr rfl) (Nat.zero_le _) (Nat.zero_le _) rfl (s7_isWithin F l1 5 S) (fun v1 S => ?_)
  refine sd_if_ne (pc := 5) 10 d7_near_5 (by decide) (fun _ => ?_) (fun _ => ?_)
  · refine sd_iconst (pc := 8) (-1) d7_near_8 ci_m1 ?_
    exact sd_iret (pc := 9) d7_near_9 rfl (Nat.zero_le _) (Nat.zero_le _)
  · refine sd_aload_n (pc := 10) d7_near_10 rfl ?_
    refine sd_iload_n (pc := 11) d7_near_11 rfl ?_
    refine sd_cSI (k2 := k6_farthestHeard) (As := [.int l1]) (rest := [.ref 3]) (pc := 12) 208 d7_near_12 ml7_208 (ms6_farthestHeard) (me6_farthestHeard) ⟨rfl, rfl⟩ ⟨Nat.le_of_ble_eq_true rfl, Nat.le_of_ble_eq_true rfl⟩ (Nat.le_of_ble_eq_true rfl) (Nat.le_of_ble_eq_true rfl) (Or.inl rfl) (Nat.zero_le _) (Nat.zero_le _) rfl (s6_farthestHeard F l1 S) (fun v2 S => ?_)
    refine sd_putI (pc := 15) (show sm_sq 3 = some (.inr 6) from rfl) rfl fl7_65 rfl d7_near_15 (fun S => ?_)
    refine sd_iload_n (pc := 18) d7_near_18 rfl ?_
    refine sd_cSI (k2 := k6_nearestHeard) (As := [.int l1]) (rest := []) (pc := 19) 211 d7_near_19 ml7_211 (ms6_nearestHeard) (me6_nearestHeard) ⟨rfl, rfl⟩ ⟨Nat.le_of_ble_eq_true rfl, Nat.le_of_ble_eq_true rfl⟩ (Nat.le_of_ble_eq_true rfl) (Nat.le_of_ble_eq_true rfl) (Or.inl rfl) (Nat.zero_le _) (Nat.zero_le _) rfl (s6_nearestHeard F l1 S) (fun v3 S => ?_)
    exact sd_iret (pc := 22) d7_near_22 rfl (Nat.zero_le _) (Nat.zero_le _)
set_option maxHeartbeats 4000000 in
set_option maxRecDepth 20000 in
theorem s8_near_14 {N : Nat} (F : Nat) : ∀ (f : Nat) (l1 : Int32) (l2 : Int32) (S : sm_t), sm_S (sm_jI N) k8_near 0 0 14 [some (.ref 52), some (.int l1), some (.int l2)] [] (sm_m N S) (x8_near_14 F f l1 l2 S) := by
  intro f
  induction f with
  | zero =>
    intro l1 l2 S
    exact sd_none
  | succ f ih =>
    intro l1 l2 S
    rw [x8_near_14]
    refine sd_iload_n (pc := 14) d8_near_14 rfl ?_
    refine sd_iload_n (pc := 15) d8_near_15 rfl ?_
    refine sd_cSI (k2 := k8_heardBy) (As := [.int l1, .int l2]) (rest := []) (pc := 16) 181 d8_near_16 ml8_181 (ms8_heardBy) (me8_heardBy) ⟨rfl, rfl⟩ ⟨Nat.le_of_ble_eq_true rfl, Nat.le_of_ble_eq_true rfl⟩ (Nat.le_of_ble_eq_true rfl) (Nat.le_of_ble_eq_true rfl) (Or.inl rfl) (Nat.zero_le _) (Nat.zero_le _) rfl (s8_heardBy F l1 l2 S) (fun v1 S => ?_)
    refine sd_bipush (pc := 19) 8 d8_near_19 cb_8 ?_
    refine sd_ic_ge (pc := 21) 30 d8_near_21 (by decide) (fun _ => ?_) (fun _ => ?_)
    · refine sd_aload_n (pc := 30) d8_near_30 rfl ?_
      refine sd_iload_n (pc := 31) d8_near_31 rfl ?_
      refine sd_iload_n (pc := 32) d8_near_32 rfl ?_
      refine sd_cSI (k2 := k8_leastFar) (As := [.int l1]) (rest := [.int l2, .ref 52]) (pc := 33) 190 d8_near_33 ml8_190 (ms8_leastFar) (me8_leastFar) ⟨rfl, rfl⟩ ⟨Nat.le_of_ble_eq_true rfl, Nat.le_of_ble_eq_true rfl⟩ (Nat.le_of_ble_eq_true rfl) (Nat.le_of_ble_eq_true rfl) (Or.inl rfl) (Nat.zero_le _) (Nat.zero_le _) rfl (s8_leastFar F l1 S) (fun v2 S => ?_)
      refine sd_cVI (k2 := k8_ask) (As := [.int l2, .int v2]) (rest := []) (b := 52) (ci := 7) (pc := 36) 102 (show sm_sq 52 = some (.inr 7) from rfl) (by decide) rfl d8_near_36 ml8_102 (ms8_ask).1 (ms8_ask).2 (me8_ask) ⟨rfl, rfl⟩ ⟨Nat.le_of_ble_eq_true rfl, Nat.le_of_ble_eq_true rfl⟩ (Nat.le_of_ble_eq_true rfl) (Nat.le_of_ble_eq_true rfl) (Or.inl rfl) (Nat.zero_le _) (Nat.zero_le _) rfl (s8_ask F l2 v2 S) (fun v3 S => ?_)
      exact sd_iret (pc := 39) d8_near_39 rfl (Nat.zero_le _) (Nat.zero_le _)
    · refine sd_iinc (lf2 := [some (.ref 52), some (.int l1), some (.int (l2 + (-1)))]) (pc := 24) d8_near_24 (Nat.le_of_ble_eq_true rfl) rfl ci_m1 rfl ?_
      refine sd_goto (pc := 27) 14 d8_near_27 (by decide) ?_
      exact ih l1 (l2 + (-1)) S
set_option maxHeartbeats 4000000 in
set_option maxRecDepth 20000 in
theorem s8_near {N : Nat} (F : Nat) (l1 : Int32) (S : sm_t) : sm_P (sm_jI N) k8_near [.ref 52, .int l1] (sm_m N S) (x8_near F l1 S) := by
  show sm_S (sm_jI N) k8_near 0 0 0 [some (.ref 52), some (.int l1), none] [] (sm_m N S) (x8_near F l1 S)
  unfold x8_near
  refine sd_iload_n (pc := 0) d8_near_0 rfl ?_
  refine sd_iconst (pc := 1) 0 d8_near_1 ci_0 ?_
  refine sd_iconst (pc := 2) 5 d8_near_2 ci_5 ?_
  refine sd_cSI (k2 := k8_in) (As := [.int l1, .int 0, .int 5]) (rest := []) (pc := 3) 80 d8_near_3 ml8_80 (ms8_in) (me8_in) ⟨rfl, rfl⟩ ⟨Nat.le_of_ble_eq_true rfl, Nat.le_of_ble_eq_true rfl⟩ (Nat.le_of_ble_eq_true rfl) (Nat.le_of_ble_eq_true rfl) (Or.inr rfl) (Nat.zero_le _) (Nat.zero_le _) rfl (s8_in F l1 0 5 S) (fun v1 S => ?_)
  refine sd_if_ne (pc := 6) 11 d8_near_6 (by decide) (fun _ => ?_) (fun _ => ?_)
  · refine sd_iconst (pc := 9) (-1) d8_near_9 ci_m1 ?_
    exact sd_iret (pc := 10) d8_near_10 rfl (Nat.zero_le _) (Nat.zero_le _)
  · refine sd_bipush (pc := 11) 11 d8_near_11 cb_11 ?_
    refine sd_istore_n (lf2 := [some (.ref 52), some (.int l1), some (.int 11)]) (pc := 13) d8_near_13 (Nat.le_of_ble_eq_true rfl) rfl ?_
    exact s8_near_14 F F l1 11 S
set_option maxHeartbeats 4000000 in
set_option maxRecDepth 20000 in
theorem s7_isStory {N : Nat} (F : Nat) (l0 : Int32) (S : sm_t) : sm_P (sm_jI N) k7_isStory [.int l0] (sm_m N S) (x7_isStory F l0 S) := by
  show sm_S (sm_jI N) k7_isStory 0 0 0 [some (.int l0)] [] (sm_m N S) (x7_isStory F l0 S)
  unfold x7_isStory
  refine sd_iload_n (pc := 0) d7_isStory_0 rfl ?_
  refine sd_if_lt (pc := 1) 13 d7_isStory_1 (by decide) (fun _ => ?_) (fun _ => ?_)
  · refine sd_iconst (pc := 13) 0 d7_isStory_13 ci_0 ?_
    exact sd_zret (pc := 14) d7_isStory_14 (by decide) (Nat.zero_le _) (Nat.zero_le _)
  · refine sd_iload_n (pc := 4) d7_isStory_4 rfl ?_
    refine sd_iconst (pc := 5) 3 d7_isStory_5 ci_3 ?_
    refine sd_ic_gt (pc := 6) 13 d7_isStory_6 (by decide) (fun _ => ?_) (fun _ => ?_)
    · refine sd_iconst (pc := 13) 0 d7_isStory_13 ci_0 ?_
      exact sd_zret (pc := 14) d7_isStory_14 (by decide) (Nat.zero_le _) (Nat.zero_le _)
    · refine sd_iconst (pc := 9) 1 d7_isStory_9 ci_1 ?_
      refine sd_goto (pc := 10) 14 d7_isStory_10 (by decide) ?_
      exact sd_zret (pc := 14) d7_isStory_14 (by decide) (Nat.zero_le _) (Nat.zero_le _)
set_option maxHeartbeats 4000000 in
set_option maxRecDepth 20000 in
theorem s6_counts {N : Nat} (F : Nat) (l0 : Nat) (S : sm_t) : sm_P (sm_jI N) k6_counts [.ref l0] (sm_m N S) (x6_counts F l0 S) := by
  show sm_S (sm_jI N) k6_counts 0 0 0 [some (.ref l0)] [] (sm_m N S) (x6_counts F l0 S)
  unfold x6_counts
  refine sd_aload_n (pc := 0) d6_counts_0 rfl ?_
  refine sd_on (fun h1 => ?_)
  refine sd_getI (pc := 1) h1 rfl fl6_24 d6_counts_1 (fun v2 => ?_)
  refine sd_if_ne (pc := 4) 18 d6_counts_4 (by decide) (fun _ => ?_) (fun _ => ?_)
  · refine sd_aload_n (pc := 7) d6_counts_7 rfl ?_
    refine sd_getI (pc := 8) h1 rfl fl6_11 d6_counts_8 (fun v3 => ?_)
    refine sd_if_eq (pc := 11) 18 d6_counts_11 (by decide) (fun _ => ?_) (fun _ => ?_)
    · refine sd_iconst (pc := 18) 0 d6_counts_18 ci_0 ?_
      exact sd_zret (pc := 19) d6_counts_19 (by decide) (Nat.zero_le _) (Nat.zero_le _)
    · refine sd_iconst (pc := 14) 1 d6_counts_14 ci_1 ?_
      refine sd_goto (pc := 15) 19 d6_counts_15 (by decide) ?_
      exact sd_zret (pc := 19) d6_counts_19 (by decide) (Nat.zero_le _) (Nat.zero_le _)
  · refine sd_iconst (pc := 18) 0 d6_counts_18 ci_0 ?_
    exact sd_zret (pc := 19) d6_counts_19 (by decide) (Nat.zero_le _) (Nat.zero_le _)
set_option maxHeartbeats 4000000 in
set_option maxRecDepth 20000 in
theorem s0_busy_4 {N : Nat} (F : Nat) : ∀ (f : Nat) (l1 : Int32) (l2 : Int32) (S : sm_t), sm_S (sm_jI N) k0_busy 0 0 4 [some (.ref 22), some (.int l1), some (.int l2)] [] (sm_m N S) (x0_busy_4 F f l1 l2 S) := by
  intro f
  induction f with
  | zero =>
    intro l1 l2 S
    exact sd_none
  | succ f ih =>
    intro l1 l2 S
    rw [x0_busy_4]
    refine sd_iload_n (pc := 4) d0_busy_4 rfl ?_
    refine sd_aload_n (pc := 5) d0_busy_5 rfl ?_
    refine sd_getI (pc := 6) (show sm_sq 22 = some (.inr 0) from rfl) rfl fl0_17 d0_busy_6 (fun v1 => ?_)
    refine sd_ic_ge (pc := 9) 38 d0_busy_9 (by decide) (fun _ => ?_) (fun _ => ?_)
    · refine sd_iload_n (pc := 38) d0_busy_38 rfl ?_
      exact sd_iret (pc := 39) d0_busy_39 rfl (Nat.zero_le _) (Nat.zero_le _)
    · refine sd_iload_n (pc := 12) d0_busy_12 rfl ?_
      refine sd_aload_n (pc := 13) d0_busy_13 rfl ?_
      refine sd_getR (pc := 14) 23 (show sm_sq 22 = some (.inr 0) from rfl) rfl fl0_13 rfl d0_busy_14 ?_
      refine sd_iload_n (pc := 17) d0_busy_17 rfl ?_
      refine sd_aald (pc := 18) 6 (show sm_sq 23 = some (.inl (.object "TwoFliers$Sign", 12)) from rfl) rfl rfl (fun _ => rfl) (fun _ _ _ _ h => if_pos h) d0_busy_18 (fun a2 => ?_)
      refine sd_on (fun h4 => ?_)
      refine sd_cVI (k2 := k6_counts) (As := []) (rest := [.int l1]) (b := a2) (ci := 5) (pc := 19) 26 h4 (by decide) rfl d0_busy_19 ml0_26 (ms6_counts).1 (ms6_counts).2 (me6_counts) ⟨rfl, rfl⟩ ⟨Nat.le_of_ble_eq_true rfl, Nat.le_of_ble_eq_true rfl⟩ (Nat.le_of_ble_eq_true rfl) (Nat.le_of_ble_eq_true rfl) (Or.inr rfl) (Nat.zero_le _) (Nat.zero_le _) rfl (s6_counts F a2 S) (fun v3 S => ?_)
      refine sd_if_eq (pc := 22) 29 d0_busy_22 (by decide) (fun _ => ?_) (fun _ => ?_)
      · refine sd_iconst (pc := 29) 0 d0_busy_29 ci_0 ?_
        refine sd_iadd (pc := 30) d0_busy_30 ?_
        refine sd_ni (fun v5 => ?_)
        refine sd_istore_n (lf2 := [some (.ref 22), some (.int v5), some (.int l2)]) (pc := 31) d0_busy_31 (Nat.le_of_ble_eq_true rfl) rfl ?_
        refine sd_iinc (lf2 := [some (.ref 22), some (.int v5), some (.int (l2 + 1))]) (pc := 32) d0_busy_32 (Nat.le_of_ble_eq_true rfl) rfl ci_1 rfl ?_
        refine sd_goto (pc := 35) 4 d0_busy_35 (by decide) ?_
        exact ih v5 (l2 + 1) S
      · refine sd_iconst (pc := 25) 1 d0_busy_25 ci_1 ?_
        refine sd_goto (pc := 26) 30 d0_busy_26 (by decide) ?_
        refine sd_iadd (pc := 30) d0_busy_30 ?_
        refine sd_ni (fun v6 => ?_)
        refine sd_istore_n (lf2 := [some (.ref 22), some (.int v6), some (.int l2)]) (pc := 31) d0_busy_31 (Nat.le_of_ble_eq_true rfl) rfl ?_
        refine sd_iinc (lf2 := [some (.ref 22), some (.int v6), some (.int (l2 + 1))]) (pc := 32) d0_busy_32 (Nat.le_of_ble_eq_true rfl) rfl ci_1 rfl ?_
        refine sd_goto (pc := 35) 4 d0_busy_35 (by decide) ?_
        exact ih v6 (l2 + 1) S
set_option maxHeartbeats 4000000 in
set_option maxRecDepth 20000 in
theorem s0_busy {N : Nat} (F : Nat) (S : sm_t) : sm_P (sm_jI N) k0_busy [.ref 22] (sm_m N S) (x0_busy F S) := by
  show sm_S (sm_jI N) k0_busy 0 0 0 [some (.ref 22), none, none] [] (sm_m N S) (x0_busy F S)
  unfold x0_busy
  refine sd_iconst (pc := 0) 0 d0_busy_0 ci_0 ?_
  refine sd_istore_n (lf2 := [some (.ref 22), some (.int 0), none]) (pc := 1) d0_busy_1 (Nat.le_of_ble_eq_true rfl) rfl ?_
  refine sd_iconst (pc := 2) 0 d0_busy_2 ci_0 ?_
  refine sd_istore_n (lf2 := [some (.ref 22), some (.int 0), some (.int 0)]) (pc := 3) d0_busy_3 (Nat.le_of_ble_eq_true rfl) rfl ?_
  exact s0_busy_4 F F 0 0 S
set_option maxHeartbeats 4000000 in
set_option maxRecDepth 20000 in
theorem s7_barred {N : Nat} (F : Nat) (l1 : Int32) (l2 : Int32) (S : sm_t) : sm_P (sm_jI N) k7_barred [.ref 3, .int l1, .int l2] (sm_m N S) (x7_barred F l1 l2 S) := by
  show sm_S (sm_jI N) k7_barred 0 0 0 [some (.ref 3), some (.int l1), some (.int l2)] [] (sm_m N S) (x7_barred F l1 l2 S)
  unfold x7_barred
  refine sd_aload_n (pc := 0) d7_barred_0 rfl ?_
  refine sd_iload_n (pc := 1) d7_barred_1 rfl ?_
  refine sd_cVI (k2 := k7_isMissing) (As := [.int l1]) (rest := []) (b := 3) (ci := 6) (pc := 2) 160 (show sm_sq 3 = some (.inr 6) from rfl) (by decide) rfl d7_barred_2 ml7_160 (ms7_isMissing).1 (ms7_isMissing).2 (me7_isMissing) ⟨rfl, rfl⟩ ⟨Nat.le_of_ble_eq_true rfl, Nat.le_of_ble_eq_true rfl⟩ (Nat.le_of_ble_eq_true rfl) (Nat.le_of_ble_eq_true rfl) (Or.inr rfl) (Nat.zero_le _) (Nat.zero_le _) rfl (s7_isMissing F l1 S) (fun v1 S => ?_)
  refine sd_if_eq (pc := 5) 14 d7_barred_5 (by decide) (fun _ => ?_) (fun _ => ?_)
  · refine sd_aload_n (pc := 14) d7_barred_14 rfl ?_
    refine sd_getR (pc := 15) 22 (show sm_sq 3 = some (.inr 6) from rfl) rfl fl7_42 rfl d7_barred_15 ?_
    refine sd_cVI (k2 := k0_busy) (As := []) (rest := []) (b := 22) (ci := 0) (pc := 18) 260 (show sm_sq 22 = some (.inr 0) from rfl) (by decide) rfl d7_barred_18 ml7_260 (ms0_busy).1 (ms0_busy).2 (me0_busy) ⟨rfl, rfl⟩ ⟨Nat.le_of_ble_eq_true rfl, Nat.le_of_ble_eq_true rfl⟩ (Nat.le_of_ble_eq_true rfl) (Nat.le_of_ble_eq_true rfl) (Or.inl rfl) (Nat.zero_le _) (Nat.zero_le _) rfl (s0_busy F S) (fun v2 S => ?_)
    refine sd_iload_n (pc := 21) d7_barred_21 rfl ?_
    refine sd_ic_le (pc := 22) 30 d7_barred_22 (by decide) (fun _ => ?_) (fun _ => ?_)
    · refine sd_iconst (pc := 30) 0 d7_barred_30 ci_0 ?_
      exact sd_iret (pc := 31) d7_barred_31 rfl (Nat.zero_le _) (Nat.zero_le _)
    · refine sd_bipush (pc := 25) (-6) d7_barred_25 cb_m6 ?_
      refine sd_goto (pc := 27) 31 d7_barred_27 (by decide) ?_
      exact sd_iret (pc := 31) d7_barred_31 rfl (Nat.zero_le _) (Nat.zero_le _)
  · refine sd_aload_n (pc := 8) d7_barred_8 rfl ?_
    refine sd_iconst (pc := 9) 1 d7_barred_9 ci_1 ?_
    refine sd_cVI (k2 := k7_found) (As := [.int 1]) (rest := []) (b := 3) (ci := 6) (pc := 10) 92 (show sm_sq 3 = some (.inr 6) from rfl) (by decide) rfl d7_barred_10 ml7_92 (ms7_found).1 (ms7_found).2 (me7_found) ⟨rfl, rfl⟩ ⟨Nat.le_of_ble_eq_true rfl, Nat.le_of_ble_eq_true rfl⟩ (Nat.le_of_ble_eq_true rfl) (Nat.le_of_ble_eq_true rfl) (Or.inl rfl) (Nat.zero_le _) (Nat.zero_le _) rfl (s7_found F 1 S) (fun v3 S => ?_)
    exact sd_iret (pc := 13) d7_barred_13 rfl (Nat.zero_le _) (Nat.zero_le _)
set_option maxHeartbeats 4000000 in
set_option maxRecDepth 20000 in
theorem sA_fillJ_6 {N : Nat} (F : Nat) : ∀ (f : Nat) (l0 : Nat) (l1 : Int64) (l3 : Int32) (l4 : Int32) (S : sm_t), sm_S (sm_jV N) kA_fillJ 0 0 6 [some (.ref l0), some (.long l1), none, some (.int l3), some (.int l4)] [] (sm_m N S) (xA_fillJ_6 F f l0 l1 l3 l4 S) := by
  intro f
  induction f with
  | zero =>
    intro l0 l1 l3 l4 S
    exact sd_none
  | succ f ih =>
    intro l0 l1 l3 l4 S
    rw [xA_fillJ_6]
    refine sd_iload_n (pc := 6) dA_fillJ_6 rfl ?_
    refine sd_iload (pc := 7) dA_fillJ_7 rfl ?_
    refine sd_ic_ge (pc := 9) 22 dA_fillJ_9 (by decide) (fun _ => ?_) (fun _ => ?_)
    · exact sd_vret (pc := 22) dA_fillJ_22 (Nat.zero_le _) (Nat.zero_le _)
    · refine sd_aload_n (pc := 12) dA_fillJ_12 rfl ?_
      refine sd_iload_n (pc := 13) dA_fillJ_13 rfl ?_
      refine sd_lload_n (pc := 14) dA_fillJ_14 rfl ?_
      refine sd_an (fun n2 h1 => ?_)
      refine sd_last (pc := 15) h1 dA_fillJ_15 (fun S => ?_)
      refine sd_iinc (lf2 := [some (.ref l0), some (.long l1), none, some (.int (l3 + 1)), some (.int l4)]) (pc := 16) dA_fillJ_16 (Nat.le_of_ble_eq_true rfl) rfl ci_1 rfl ?_
      refine sd_goto (pc := 19) 6 dA_fillJ_19 (by decide) ?_
      exact ih l0 l1 (l3 + 1) l4 S
set_option maxHeartbeats 4000000 in
set_option maxRecDepth 20000 in
theorem sA_fillJ {N : Nat} (F : Nat) (l0 : Nat) (l1 : Int64) (S : sm_t) : sm_P (sm_jV N) kA_fillJ [.ref l0, .long l1] (sm_m N S) (xA_fillJ F l0 l1 S) := by
  show sm_S (sm_jV N) kA_fillJ 0 0 0 [some (.ref l0), some (.long l1), none, none, none] [] (sm_m N S) (xA_fillJ F l0 l1 S)
  unfold xA_fillJ
  refine sd_iconst (pc := 0) 0 dA_fillJ_0 ci_0 ?_
  refine sd_istore_n (lf2 := [some (.ref l0), some (.long l1), none, some (.int 0), none]) (pc := 1) dA_fillJ_1 (Nat.le_of_ble_eq_true rfl) rfl ?_
  refine sd_aload_n (pc := 2) dA_fillJ_2 rfl ?_
  refine sd_an (fun n2 h1 => ?_)
  refine sd_alen (pc := 3) 1 (Int32.ofNat n2) h1 (fun _ => rfl) rfl dA_fillJ_3 ?_
  refine sd_ni (fun v3 => ?_)
  refine sd_istore (lf2 := [some (.ref l0), some (.long l1), none, some (.int 0), some (.int v3)]) (pc := 4) dA_fillJ_4 (Nat.le_of_ble_eq_true rfl) rfl ?_
  exact sA_fillJ_6 F F l0 l1 0 v3 S
set_option maxHeartbeats 4000000 in
set_option maxRecDepth 20000 in
theorem s2_weighsIn {N : Nat} (F : Nat) (l1 : Int32) (l2 : Int32) (S : sm_t) : sm_P (sm_jI N) k2_weighsIn [.ref 18, .int l1, .int l2] (sm_m N S) (x2_weighsIn F l1 l2 S) := by
  show sm_S (sm_jI N) k2_weighsIn 0 0 0 [some (.ref 18), some (.int l1), some (.int l2)] [] (sm_m N S) (x2_weighsIn F l1 l2 S)
  unfold x2_weighsIn
  refine sd_iload_n (pc := 0) d2_weighsIn_0 rfl ?_
  refine sd_iload_n (pc := 1) d2_weighsIn_1 rfl ?_
  refine sd_ic_eq (pc := 2) 24 d2_weighsIn_2 (by decide) (fun _ => ?_) (fun _ => ?_)
  · refine sd_iconst (pc := 24) 0 d2_weighsIn_24 ci_0 ?_
    exact sd_zret (pc := 25) d2_weighsIn_25 (by decide) (Nat.zero_le _) (Nat.zero_le _)
  · refine sd_aload_n (pc := 5) d2_weighsIn_5 rfl ?_
    refine sd_getR (pc := 6) 22 (show sm_sq 18 = some (.inr 1) from rfl) rfl fl2_21 rfl d2_weighsIn_6 ?_
    refine sd_getR (pc := 9) 23 (show sm_sq 22 = some (.inr 0) from rfl) rfl fl2_72 rfl d2_weighsIn_9 ?_
    refine sd_iload_n (pc := 12) d2_weighsIn_12 rfl ?_
    refine sd_aald (pc := 13) 6 (show sm_sq 23 = some (.inl (.object "TwoFliers$Sign", 12)) from rfl) rfl rfl (fun _ => rfl) (fun _ _ _ _ h => if_pos h) d2_weighsIn_13 (fun a1 => ?_)
    refine sd_on (fun h3 => ?_)
    refine sd_cVI (k2 := k6_counts) (As := []) (rest := []) (b := a1) (ci := 5) (pc := 14) 76 h3 (by decide) rfl d2_weighsIn_14 ml2_76 (ms6_counts).1 (ms6_counts).2 (me6_counts) ⟨rfl, rfl⟩ ⟨Nat.le_of_ble_eq_true rfl, Nat.le_of_ble_eq_true rfl⟩ (Nat.le_of_ble_eq_true rfl) (Nat.le_of_ble_eq_true rfl) (Or.inr rfl) (Nat.zero_le _) (Nat.zero_le _) rfl (s6_counts F a1 S) (fun v2 S => ?_)
    refine sd_if_eq (pc := 17) 24 d2_weighsIn_17 (by decide) (fun _ => ?_) (fun _ => ?_)
    · refine sd_iconst (pc := 24) 0 d2_weighsIn_24 ci_0 ?_
      exact sd_zret (pc := 25) d2_weighsIn_25 (by decide) (Nat.zero_le _) (Nat.zero_le _)
    · refine sd_iconst (pc := 20) 1 d2_weighsIn_20 ci_1 ?_
      refine sd_goto (pc := 21) 25 d2_weighsIn_21 (by decide) ?_
      exact sd_zret (pc := 25) d2_weighsIn_25 (by decide) (Nat.zero_le _) (Nat.zero_le _)
set_option maxHeartbeats 4000000 in
set_option maxRecDepth 20000 in
theorem s6_isByHour {N : Nat} (F : Nat) (l0 : Nat) (S : sm_t) : sm_P (sm_jI N) k6_isByHour [.ref l0] (sm_m N S) (x6_isByHour F l0 S) := by
  show sm_S (sm_jI N) k6_isByHour 0 0 0 [some (.ref l0)] [] (sm_m N S) (x6_isByHour F l0 S)
  unfold x6_isByHour
  refine sd_aload_n (pc := 0) d6_isByHour_0 rfl ?_
  refine sd_on (fun h1 => ?_)
  refine sd_getI (pc := 1) h1 rfl fl6_11 d6_isByHour_1 (fun v2 => ?_)
  refine sd_iconst (pc := 4) 1 d6_isByHour_4 ci_1 ?_
  refine sd_ic_eq (pc := 5) 16 d6_isByHour_5 (by decide) (fun _ => ?_) (fun _ => ?_)
  · refine sd_iconst (pc := 16) 1 d6_isByHour_16 ci_1 ?_
    refine sd_goto (pc := 17) 21 d6_isByHour_17 (by decide) ?_
    exact sd_zret (pc := 21) d6_isByHour_21 (by decide) (Nat.zero_le _) (Nat.zero_le _)
  · refine sd_aload_n (pc := 8) d6_isByHour_8 rfl ?_
    refine sd_getI (pc := 9) h1 rfl fl6_11 d6_isByHour_9 (fun v3 => ?_)
    refine sd_iconst (pc := 12) 2 d6_isByHour_12 ci_2 ?_
    refine sd_ic_ne (pc := 13) 20 d6_isByHour_13 (by decide) (fun _ => ?_) (fun _ => ?_)
    · refine sd_iconst (pc := 16) 1 d6_isByHour_16 ci_1 ?_
      refine sd_goto (pc := 17) 21 d6_isByHour_17 (by decide) ?_
      exact sd_zret (pc := 21) d6_isByHour_21 (by decide) (Nat.zero_le _) (Nat.zero_le _)
    · refine sd_iconst (pc := 20) 0 d6_isByHour_20 ci_0 ?_
      exact sd_zret (pc := 21) d6_isByHour_21 (by decide) (Nat.zero_le _) (Nat.zero_le _)
set_option maxHeartbeats 4000000 in
set_option maxRecDepth 20000 in
theorem s2_weighAtLast_58 {N : Nat} (F : Nat) (c10 : Int32 → Int32 → sm_t → Option (sm_t)) (hc10 : ∀ (l1 : Int32) (l2 : Int32) (S : sm_t), sm_S (sm_jV N) k2_weighAtLast 0 0 10 [some (.ref 18), some (.int l1), some (.int l2), none, none] [] (sm_m N S) (c10 l1 l2 S)) : ∀ (f : Nat) (l1 : Int32) (l2 : Int32) (l3 : Nat) (l4 : Int32) (S : sm_t), sm_S (sm_jV N) k2_weighAtLast 0 0 58 [some (.ref 18), some (.int l1), some (.int l2), some (.ref l3), some (.int l4)] [] (sm_m N S) (x2_weighAtLast_58 F c10 f l1 l2 l3 l4 S) := by
  intro f
  induction f with
  | zero =>
    intro l1 l2 l3 l4 S
    exact sd_none
  | succ f ih =>
    intro l1 l2 l3 l4 S
    rw [x2_weighAtLast_58]
    refine sd_iload (pc := 58) d2_weighAtLast_58 rfl ?_
    refine sd_bipush (pc := 60) 120 d2_weighAtLast_60 cb_120 ?_
    refine sd_ic_ge (pc := 62) 88 d2_weighAtLast_62 (by decide) (fun _ => ?_) (fun _ => ?_)
    · refine sd_iinc (lf2 := [some (.ref 18), some (.int l1), some (.int (l2 + 1)), some (.ref l3), some (.int l4)]) (pc := 88) d2_weighAtLast_88 (Nat.le_of_ble_eq_true rfl) rfl ci_1 rfl ?_
      refine sd_goto (pc := 91) 10 d2_weighAtLast_91 (by decide) ?_
      exact sd_fg [true, true, true, false, false] rfl (hc10 l1 (l2 + 1) S)
    · refine sd_aload_n (pc := 65) d2_weighAtLast_65 rfl ?_
      refine sd_getR (pc := 66) 44 (show sm_sq 18 = some (.inr 1) from rfl) rfl fl2_49 rfl d2_weighAtLast_66 ?_
      refine sd_iload (pc := 69) d2_weighAtLast_69 rfl ?_
      refine sd_dup2 (pc := 71) d2_weighAtLast_71 rfl rfl ?_
      refine sd_lald (pc := 72) (show sm_sq 44 = some (.inl (.long, 120)) from rfl) d2_weighAtLast_72 (fun v1 => ?_)
      refine sd_aload_n (pc := 73) d2_weighAtLast_73 rfl ?_
      refine sd_iload (pc := 74) d2_weighAtLast_74 rfl ?_
      refine sd_on (fun h3 => ?_)
      refine sd_cVI (k2 := k6_weight) (As := [.int l4]) (rest := [.long v1, .int l4, .ref 44]) (b := l3) (ci := 5) (pc := 76) 94 h3 (by decide) rfl d2_weighAtLast_76 ml2_94 (ms6_weight).1 (ms6_weight).2 (me6_weight) ⟨rfl, rfl⟩ ⟨Nat.le_of_ble_eq_true rfl, Nat.le_of_ble_eq_true rfl⟩ (Nat.le_of_ble_eq_true rfl) (Nat.le_of_ble_eq_true rfl) (Or.inl rfl) (Nat.zero_le _) (Nat.zero_le _) rfl (s6_weight F l3 l4 S) (fun v2 S => ?_)
      refine sd_i2l (pc := 79) d2_weighAtLast_79 ?_
      refine sd_lmul (pc := 80) d2_weighAtLast_80 ?_
      refine sd_last (pc := 81) (show sm_sq 44 = some (.inl (.long, 120)) from rfl) d2_weighAtLast_81 (fun S => ?_)
      refine sd_iinc (lf2 := [some (.ref 18), some (.int l1), some (.int l2), some (.ref l3), some (.int (l4 + 1))]) (pc := 82) d2_weighAtLast_82 (Nat.le_of_ble_eq_true rfl) rfl ci_1 rfl ?_
      refine sd_goto (pc := 85) 58 d2_weighAtLast_85 (by decide) ?_
      exact ih l1 l2 l3 (l4 + 1) S
set_option maxHeartbeats 4000000 in
set_option maxRecDepth 20000 in
theorem s2_weighAtLast_10 {N : Nat} (F : Nat) : ∀ (f : Nat) (l1 : Int32) (l2 : Int32) (S : sm_t), sm_S (sm_jV N) k2_weighAtLast 0 0 10 [some (.ref 18), some (.int l1), some (.int l2), none, none] [] (sm_m N S) (x2_weighAtLast_10 F f l1 l2 S) := by
  intro f
  induction f with
  | zero =>
    intro l1 l2 S
    exact sd_none
  | succ f ih =>
    intro l1 l2 S
    rw [x2_weighAtLast_10]
    refine sd_iload_n (pc := 10) d2_weighAtLast_10 rfl ?_
    refine sd_aload_n (pc := 11) d2_weighAtLast_11 rfl ?_
    refine sd_getR (pc := 12) 22 (show sm_sq 18 = some (.inr 1) from rfl) rfl fl2_21 rfl d2_weighAtLast_12 ?_
    refine sd_getI (pc := 15) (show sm_sq 22 = some (.inr 0) from rfl) rfl fl2_82 d2_weighAtLast_15 (fun v1 => ?_)
    refine sd_ic_ge (pc := 18) 94 d2_weighAtLast_18 (by decide) (fun _ => ?_) (fun _ => ?_)
    · exact sd_vret (pc := 94) d2_weighAtLast_94 (Nat.zero_le _) (Nat.zero_le _)
    · refine sd_aload_n (pc := 21) d2_weighAtLast_21 rfl ?_
      refine sd_getR (pc := 22) 22 (show sm_sq 18 = some (.inr 1) from rfl) rfl fl2_21 rfl d2_weighAtLast_22 ?_
      refine sd_getR (pc := 25) 23 (show sm_sq 22 = some (.inr 0) from rfl) rfl fl2_72 rfl d2_weighAtLast_25 ?_
      refine sd_iload_n (pc := 28) d2_weighAtLast_28 rfl ?_
      refine sd_aald (pc := 29) 6 (show sm_sq 23 = some (.inl (.object "TwoFliers$Sign", 12)) from rfl) rfl rfl (fun _ => rfl) (fun _ _ _ _ h => if_pos h) d2_weighAtLast_29 (fun a2 => ?_)
      refine sd_astore_n (lf2 := [some (.ref 18), some (.int l1), some (.int l2), some (.ref a2), none]) (pc := 30) d2_weighAtLast_30 (Nat.le_of_ble_eq_true rfl) rfl ?_
      refine sd_aload_n (pc := 31) d2_weighAtLast_31 rfl ?_
      refine sd_iload_n (pc := 32) d2_weighAtLast_32 rfl ?_
      refine sd_iload_n (pc := 33) d2_weighAtLast_33 rfl ?_
      refine sd_cVI (k2 := k2_weighsIn) (As := [.int l2, .int l1]) (rest := []) (b := 18) (ci := 1) (pc := 34) 85 (show sm_sq 18 = some (.inr 1) from rfl) (by decide) rfl d2_weighAtLast_34 ml2_85 (ms2_weighsIn).1 (ms2_weighsIn).2 (me2_weighsIn) ⟨rfl, rfl⟩ ⟨Nat.le_of_ble_eq_true rfl, Nat.le_of_ble_eq_true rfl⟩ (Nat.le_of_ble_eq_true rfl) (Nat.le_of_ble_eq_true rfl) (Or.inr rfl) (Nat.zero_le _) (Nat.zero_le _) rfl (s2_weighsIn F l2 l1 S) (fun v3 S => ?_)
      refine sd_if_eq (pc := 37) 88 d2_weighAtLast_37 (by decide) (fun _ => ?_) (fun _ => ?_)
      · refine sd_iinc (lf2 := [some (.ref 18), some (.int l1), some (.int (l2 + 1)), some (.ref a2), none]) (pc := 88) d2_weighAtLast_88 (Nat.le_of_ble_eq_true rfl) rfl ci_1 rfl ?_
        refine sd_goto (pc := 91) 10 d2_weighAtLast_91 (by decide) ?_
        exact sd_fg [true, true, true, false, true] rfl (ih l1 (l2 + 1) S)
      · refine sd_aload_n (pc := 40) d2_weighAtLast_40 rfl ?_
        refine sd_on (fun h4 => ?_)
        refine sd_getI (pc := 41) h4 rfl fl2_89 d2_weighAtLast_41 (fun v5 => ?_)
        refine sd_iconst (pc := 44) 3 d2_weighAtLast_44 ci_3 ?_
        refine sd_ic_eq (pc := 45) 88 d2_weighAtLast_45 (by decide) (fun _ => ?_) (fun _ => ?_)
        · refine sd_iinc (lf2 := [some (.ref 18), some (.int l1), some (.int (l2 + 1)), some (.ref a2), none]) (pc := 88) d2_weighAtLast_88 (Nat.le_of_ble_eq_true rfl) rfl ci_1 rfl ?_
          refine sd_goto (pc := 91) 10 d2_weighAtLast_91 (by decide) ?_
          exact sd_fg [true, true, true, false, true] rfl (ih l1 (l2 + 1) S)
        · refine sd_aload_n (pc := 48) d2_weighAtLast_48 rfl ?_
          refine sd_cVI (k2 := k6_isByHour) (As := []) (rest := []) (b := a2) (ci := 5) (pc := 49) 127 h4 (by decide) rfl d2_weighAtLast_49 ml2_127 (ms6_isByHour).1 (ms6_isByHour).2 (me6_isByHour) ⟨rfl, rfl⟩ ⟨Nat.le_of_ble_eq_true rfl, Nat.le_of_ble_eq_true rfl⟩ (Nat.le_of_ble_eq_true rfl) (Nat.le_of_ble_eq_true rfl) (Or.inr rfl) (Nat.zero_le _) (Nat.zero_le _) rfl (s6_isByHour F a2 S) (fun v6 S => ?_)
          refine sd_if_ne (pc := 52) 88 d2_weighAtLast_52 (by decide) (fun _ => ?_) (fun _ => ?_)
          · refine sd_iconst (pc := 55) 0 d2_weighAtLast_55 ci_0 ?_
            refine sd_istore (lf2 := [some (.ref 18), some (.int l1), some (.int l2), some (.ref a2), some (.int 0)]) (pc := 56) d2_weighAtLast_56 (Nat.le_of_ble_eq_true rfl) rfl ?_
            exact s2_weighAtLast_58 F _ ih F l1 l2 a2 0 S
          · refine sd_iinc (lf2 := [some (.ref 18), some (.int l1), some (.int (l2 + 1)), some (.ref a2), none]) (pc := 88) d2_weighAtLast_88 (Nat.le_of_ble_eq_true rfl) rfl ci_1 rfl ?_
            refine sd_goto (pc := 91) 10 d2_weighAtLast_91 (by decide) ?_
            exact sd_fg [true, true, true, false, true] rfl (ih l1 (l2 + 1) S)
set_option maxHeartbeats 4000000 in
set_option maxRecDepth 20000 in
theorem s2_weighAtLast {N : Nat} (F : Nat) (l1 : Int32) (S : sm_t) : sm_P (sm_jV N) k2_weighAtLast [.ref 18, .int l1] (sm_m N S) (x2_weighAtLast F l1 S) := by
  show sm_S (sm_jV N) k2_weighAtLast 0 0 0 [some (.ref 18), some (.int l1), none, none, none] [] (sm_m N S) (x2_weighAtLast F l1 S)
  unfold x2_weighAtLast
  refine sd_aload_n (pc := 0) d2_weighAtLast_0 rfl ?_
  refine sd_getR (pc := 1) 44 (show sm_sq 18 = some (.inr 1) from rfl) rfl fl2_49 rfl d2_weighAtLast_1 ?_
  refine sd_lconst (pc := 4) 1 d2_weighAtLast_4 rfl ?_
  refine sd_cSV (k2 := kA_fillJ) (As := [.ref 44, .long 1]) (rest := []) (pc := 5) 97 d2_weighAtLast_5 ml2_97 (msA_fillJ) (meA_fillJ) ⟨rfl, rfl⟩ ⟨Nat.le_of_ble_eq_true rfl, Nat.le_of_ble_eq_true rfl⟩ (Nat.le_of_ble_eq_true rfl) (Nat.le_of_ble_eq_true rfl) rfl (Nat.zero_le _) (Nat.zero_le _) rfl (sA_fillJ F 44 1 S) (fun S => ?_)
  refine sd_iconst (pc := 8) 0 d2_weighAtLast_8 ci_0 ?_
  refine sd_istore_n (lf2 := [some (.ref 18), some (.int l1), some (.int 0), none, none]) (pc := 9) d2_weighAtLast_9 (Nat.le_of_ble_eq_true rfl) rfl ?_
  exact s2_weighAtLast_10 F F l1 0 S
