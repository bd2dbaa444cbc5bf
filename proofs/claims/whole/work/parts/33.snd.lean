set_option maxHeartbeats 4000000 in
set_option maxRecDepth 20000 in
theorem s2_weighByHour_53 {N : Nat} (F : Nat) (c2 : Int32 → Int32 → Int32 → sm_t → Option (sm_t)) (hc2 : ∀ (l1 : Int32) (l2 : Int32) (l3 : Int32) (S : sm_t), sm_S (sm_jV N) k2_weighByHour 0 0 2 [some (.ref 18), some (.int l1), some (.int l2), some (.int l3), none, none] [] (sm_m N S) (c2 l1 l2 l3 S)) : ∀ (f : Nat) (l1 : Int32) (l2 : Int32) (l3 : Int32) (l4 : Nat) (l5 : Int32) (S : sm_t), sm_S (sm_jV N) k2_weighByHour 0 0 53 [some (.ref 18), some (.int l1), some (.int l2), some (.int l3), some (.ref l4), some (.int l5)] [] (sm_m N S) (x2_weighByHour_53 F c2 f l1 l2 l3 l4 l5 S) := by
  intro f
  induction f with
  | zero =>
    intro l1 l2 l3 l4 l5 S
    exact sd_none
  | succ f ih =>
    intro l1 l2 l3 l4 l5 S
    rw [x2_weighByHour_53]
    refine sd_iload (pc := 53) d2_weighByHour_53 rfl ?_
    refine sd_bipush (pc := 55) 120 d2_weighByHour_55 cb_120 ?_
    refine sd_ic_ge (pc := 57) 96 d2_weighByHour_57 (by decide) (fun _ => ?_) (fun _ => ?_)
    · refine sd_iinc (lf2 := [some (.ref 18), some (.int l1), some (.int l2), some (.int (l3 + 1)), some (.ref l4), some (.int l5)]) (pc := 96) d2_weighByHour_96 (Nat.le_of_ble_eq_true rfl) rfl ci_1 rfl ?_
      refine sd_goto (pc := 99) 2 d2_weighByHour_99 (by decide) ?_
      exact sd_fg [true, true, true, true, false, false] rfl (hc2 l1 l2 (l3 + 1) S)
    · refine sd_aload_n (pc := 60) d2_weighByHour_60 rfl ?_
      refine sd_getR (pc := 61) (S.2.2.1) (show sm_sq 18 = some (.inr 1) from rfl) rfl fl2_43 rfl d2_weighByHour_61 ?_
      refine sd_nr (fun a1 => ?_)
      refine sd_iload (pc := 64) d2_weighByHour_64 rfl ?_
      refine sd_an (fun n3 h2 => ?_)
      refine sd_lald (pc := 66) h2 d2_weighByHour_66 (fun v4 => ?_)
      refine sd_lconst (pc := 67) 0 d2_weighByHour_67 rfl ?_
      refine sd_lc_eq (pc := 68) 90 d2_weighByHour_68 d2_weighByHour_69 (by decide) (fun _ => ?_) (fun _ => ?_)
      · refine sd_iinc (lf2 := [some (.ref 18), some (.int l1), some (.int l2), some (.int l3), some (.ref l4), some (.int (l5 + 1))]) (pc := 90) d2_weighByHour_90 (Nat.le_of_ble_eq_true rfl) rfl ci_1 rfl ?_
        refine sd_goto (pc := 93) 53 d2_weighByHour_93 (by decide) ?_
        exact ih l1 l2 l3 l4 (l5 + 1) S
      · refine sd_aload_n (pc := 72) d2_weighByHour_72 rfl ?_
        refine sd_getR (pc := 73) (S.2.2.1) (show sm_sq 18 = some (.inr 1) from rfl) rfl fl2_43 rfl d2_weighByHour_73 ?_
        refine sd_nr (fun a5 => ?_)
        refine sd_iload (pc := 76) d2_weighByHour_76 rfl ?_
        refine sd_dup2 (pc := 78) d2_weighByHour_78 rfl rfl ?_
        refine sd_an (fun n7 h6 => ?_)
        refine sd_lald (pc := 79) h6 d2_weighByHour_79 (fun v8 => ?_)
        refine sd_aload (pc := 80) d2_weighByHour_80 rfl ?_
        refine sd_iload (pc := 82) d2_weighByHour_82 rfl ?_
        refine sd_on (fun h10 => ?_)
        refine sd_cVI (k2 := k6_weight) (As := [.int l5]) (rest := [.long v8, .int l5, .ref a5]) (b := l4) (ci := 5) (pc := 84) 94 h10 (by decide) rfl d2_weighByHour_84 ml2_94 (ms6_weight).1 (ms6_weight).2 (me6_weight) ⟨rfl, rfl⟩ ⟨Nat.le_of_ble_eq_true rfl, Nat.le_of_ble_eq_true rfl⟩ (Nat.le_of_ble_eq_true rfl) (Nat.le_of_ble_eq_true rfl) (Or.inl rfl) (Nat.zero_le _) (Nat.zero_le _) rfl (s6_weight F l4 l5 S) (fun v9 S => ?_)
        refine sd_i2l (pc := 87) d2_weighByHour_87 ?_
        refine sd_lmul (pc := 88) d2_weighByHour_88 ?_
        refine sd_last (pc := 89) h6 d2_weighByHour_89 (fun S => ?_)
        refine sd_iinc (lf2 := [some (.ref 18), some (.int l1), some (.int l2), some (.int l3), some (.ref l4), some (.int (l5 + 1))]) (pc := 90) d2_weighByHour_90 (Nat.le_of_ble_eq_true rfl) rfl ci_1 rfl ?_
        refine sd_goto (pc := 93) 53 d2_weighByHour_93 (by decide) ?_
        exact ih l1 l2 l3 l4 (l5 + 1) S
set_option maxHeartbeats 4000000 in
set_option maxRecDepth 20000 in
theorem s2_weighByHour_2 {N : Nat} (F : Nat) : ∀ (f : Nat) (l1 : Int32) (l2 : Int32) (l3 : Int32) (S : sm_t), sm_S (sm_jV N) k2_weighByHour 0 0 2 [some (.ref 18), some (.int l1), some (.int l2), some (.int l3), none, none] [] (sm_m N S) (x2_weighByHour_2 F f l1 l2 l3 S) := by
  intro f
  induction f with
  | zero =>
    intro l1 l2 l3 S
    exact sd_none
  | succ f ih =>
    intro l1 l2 l3 S
    rw [x2_weighByHour_2]
    refine sd_iload_n (pc := 2) d2_weighByHour_2 rfl ?_
    refine sd_aload_n (pc := 3) d2_weighByHour_3 rfl ?_
    refine sd_getR (pc := 4) 22 (show sm_sq 18 = some (.inr 1) from rfl) rfl fl2_21 rfl d2_weighByHour_4 ?_
    refine sd_getI (pc := 7) (show sm_sq 22 = some (.inr 0) from rfl) rfl fl2_82 d2_weighByHour_7 (fun v1 => ?_)
    refine sd_ic_ge (pc := 10) 102 d2_weighByHour_10 (by decide) (fun _ => ?_) (fun _ => ?_)
    · exact sd_vret (pc := 102) d2_weighByHour_102 (Nat.zero_le _) (Nat.zero_le _)
    · refine sd_aload_n (pc := 13) d2_weighByHour_13 rfl ?_
      refine sd_getR (pc := 14) 22 (show sm_sq 18 = some (.inr 1) from rfl) rfl fl2_21 rfl d2_weighByHour_14 ?_
      refine sd_getR (pc := 17) 23 (show sm_sq 22 = some (.inr 0) from rfl) rfl fl2_72 rfl d2_weighByHour_17 ?_
      refine sd_iload_n (pc := 20) d2_weighByHour_20 rfl ?_
      refine sd_aald (pc := 21) 6 (show sm_sq 23 = some (.inl (.object "TwoFliers$Sign", 12)) from rfl) rfl rfl (fun _ => rfl) (fun _ _ _ _ h => if_pos h) d2_weighByHour_21 (fun a2 => ?_)
      refine sd_astore (lf2 := [some (.ref 18), some (.int l1), some (.int l2), some (.int l3), some (.ref a2), none]) (pc := 22) d2_weighByHour_22 (Nat.le_of_ble_eq_true rfl) rfl ?_
      refine sd_aload_n (pc := 24) d2_weighByHour_24 rfl ?_
      refine sd_iload_n (pc := 25) d2_weighByHour_25 rfl ?_
      refine sd_iload_n (pc := 26) d2_weighByHour_26 rfl ?_
      refine sd_cVI (k2 := k2_weighsIn) (As := [.int l3, .int l2]) (rest := []) (b := 18) (ci := 1) (pc := 27) 85 (show sm_sq 18 = some (.inr 1) from rfl) (by decide) rfl d2_weighByHour_27 ml2_85 (ms2_weighsIn).1 (ms2_weighsIn).2 (me2_weighsIn) ⟨rfl, rfl⟩ ⟨Nat.le_of_ble_eq_true rfl, Nat.le_of_ble_eq_true rfl⟩ (Nat.le_of_ble_eq_true rfl) (Nat.le_of_ble_eq_true rfl) (Or.inr rfl) (Nat.zero_le _) (Nat.zero_le _) rfl (s2_weighsIn F l3 l2 S) (fun v3 S => ?_)
      refine sd_if_eq (pc := 30) 96 d2_weighByHour_30 (by decide) (fun _ => ?_) (fun _ => ?_)
      · refine sd_iinc (lf2 := [some (.ref 18), some (.int l1), some (.int l2), some (.int (l3 + 1)), some (.ref a2), none]) (pc := 96) d2_weighByHour_96 (Nat.le_of_ble_eq_true rfl) rfl ci_1 rfl ?_
        refine sd_goto (pc := 99) 2 d2_weighByHour_99 (by decide) ?_
        exact sd_fg [true, true, true, true, false, true] rfl (ih l1 l2 (l3 + 1) S)
      · refine sd_aload (pc := 33) d2_weighByHour_33 rfl ?_
        refine sd_on (fun h5 => ?_)
        refine sd_cVI (k2 := k6_isByHour) (As := []) (rest := []) (b := a2) (ci := 5) (pc := 35) 127 h5 (by decide) rfl d2_weighByHour_35 ml2_127 (ms6_isByHour).1 (ms6_isByHour).2 (me6_isByHour) ⟨rfl, rfl⟩ ⟨Nat.le_of_ble_eq_true rfl, Nat.le_of_ble_eq_true rfl⟩ (Nat.le_of_ble_eq_true rfl) (Nat.le_of_ble_eq_true rfl) (Or.inr rfl) (Nat.zero_le _) (Nat.zero_le _) rfl (s6_isByHour F a2 S) (fun v4 S => ?_)
        refine sd_if_eq (pc := 38) 96 d2_weighByHour_38 (by decide) (fun _ => ?_) (fun _ => ?_)
        · refine sd_iinc (lf2 := [some (.ref 18), some (.int l1), some (.int l2), some (.int (l3 + 1)), some (.ref a2), none]) (pc := 96) d2_weighByHour_96 (Nat.le_of_ble_eq_true rfl) rfl ci_1 rfl ?_
          refine sd_goto (pc := 99) 2 d2_weighByHour_99 (by decide) ?_
          exact sd_fg [true, true, true, true, false, true] rfl (ih l1 l2 (l3 + 1) S)
        · refine sd_aload (pc := 41) d2_weighByHour_41 rfl ?_
          refine sd_getI (pc := 43) h5 rfl fl2_130 d2_weighByHour_43 (fun v6 => ?_)
          refine sd_iload_n (pc := 46) d2_weighByHour_46 rfl ?_
          refine sd_ic_ne (pc := 47) 96 d2_weighByHour_47 (by decide) (fun _ => ?_) (fun _ => ?_)
          · refine sd_iconst (pc := 50) 0 d2_weighByHour_50 ci_0 ?_
            refine sd_istore (lf2 := [some (.ref 18), some (.int l1), some (.int l2), some (.int l3), some (.ref a2), some (.int 0)]) (pc := 51) d2_weighByHour_51 (Nat.le_of_ble_eq_true rfl) rfl ?_
            exact s2_weighByHour_53 F _ ih F l1 l2 l3 a2 0 S
          · refine sd_iinc (lf2 := [some (.ref 18), some (.int l1), some (.int l2), some (.int (l3 + 1)), some (.ref a2), none]) (pc := 96) d2_weighByHour_96 (Nat.le_of_ble_eq_true rfl) rfl ci_1 rfl ?_
            refine sd_goto (pc := 99) 2 d2_weighByHour_99 (by decide) ?_
            exact sd_fg [true, true, true, true, false, true] rfl (ih l1 l2 (l3 + 1) S)
set_option maxHeartbeats 4000000 in
set_option maxRecDepth 20000 in
theorem s2_weighByHour {N : Nat} (F : Nat) (l1 : Int32) (l2 : Int32) (S : sm_t) : sm_P (sm_jV N) k2_weighByHour [.ref 18, .int l1, .int l2] (sm_m N S) (x2_weighByHour F l1 l2 S) := by
  show sm_S (sm_jV N) k2_weighByHour 0 0 0 [some (.ref 18), some (.int l1), some (.int l2), none, none, none] [] (sm_m N S) (x2_weighByHour F l1 l2 S)
  unfold x2_weighByHour
  refine sd_iconst (pc := 0) 0 d2_weighByHour_0 ci_0 ?_
  refine sd_istore_n (lf2 := [some (.ref 18), some (.int l1), some (.int l2), some (.int 0), none, none]) (pc := 1) d2_weighByHour_1 (Nat.le_of_ble_eq_true rfl) rfl ?_
  exact s2_weighByHour_2 F F l1 l2 0 S
set_option maxHeartbeats 4000000 in
set_option maxRecDepth 20000 in
theorem s2_keepOnly {N : Nat} (F : Nat) (l1 : Int32) (S : sm_t) : sm_P (sm_jV N) k2_keepOnly [.ref 18, .int l1] (sm_m N S) (x2_keepOnly F l1 S) := by
  show sm_S (sm_jV N) k2_keepOnly 0 0 0 [some (.ref 18), some (.int l1), none, none] [] (sm_m N S) (x2_keepOnly F l1 S)
  unfold x2_keepOnly
  refine sd_aload_n (pc := 0) d2_keepOnly_0 rfl ?_
  refine sd_getR (pc := 1) (S.2.2.1) (show sm_sq 18 = some (.inr 1) from rfl) rfl fl2_43 rfl d2_keepOnly_1 ?_
  refine sd_nr (fun a1 => ?_)
  refine sd_iload_n (pc := 4) d2_keepOnly_4 rfl ?_
  refine sd_an (fun n3 h2 => ?_)
  refine sd_lald (pc := 5) h2 d2_keepOnly_5 (fun v4 => ?_)
  refine sd_lstore_n (lf2 := [some (.ref 18), some (.int l1), some (.long v4), none]) (pc := 6) d2_keepOnly_6 (Nat.le_of_ble_eq_true rfl) rfl ?_
  refine sd_aload_n (pc := 7) d2_keepOnly_7 rfl ?_
  refine sd_getR (pc := 8) (S.2.2.1) (show sm_sq 18 = some (.inr 1) from rfl) rfl fl2_43 rfl d2_keepOnly_8 ?_
  refine sd_nr (fun a5 => ?_)
  refine sd_lconst (pc := 11) 0 d2_keepOnly_11 rfl ?_
  refine sd_cSV (k2 := kA_fillJ) (As := [.ref a5, .long 0]) (rest := []) (pc := 12) 97 d2_keepOnly_12 ml2_97 (msA_fillJ) (meA_fillJ) ⟨rfl, rfl⟩ ⟨Nat.le_of_ble_eq_true rfl, Nat.le_of_ble_eq_true rfl⟩ (Nat.le_of_ble_eq_true rfl) (Nat.le_of_ble_eq_true rfl) rfl (Nat.zero_le _) (Nat.zero_le _) rfl (sA_fillJ F a5 0 S) (fun S => ?_)
  refine sd_aload_n (pc := 15) d2_keepOnly_15 rfl ?_
  refine sd_getR (pc := 16) (S.2.2.1) (show sm_sq 18 = some (.inr 1) from rfl) rfl fl2_43 rfl d2_keepOnly_16 ?_
  refine sd_nr (fun a7 => ?_)
  refine sd_iload_n (pc := 19) d2_keepOnly_19 rfl ?_
  refine sd_lload_n (pc := 20) d2_keepOnly_20 rfl ?_
  refine sd_an (fun n9 h8 => ?_)
  refine sd_last (pc := 21) h8 d2_keepOnly_21 (fun S => ?_)
  exact sd_vret (pc := 22) d2_keepOnly_22 (Nat.zero_le _) (Nat.zero_le _)
set_option maxHeartbeats 4000000 in
set_option maxRecDepth 20000 in
theorem s2_weightByEnd_26 {N : Nat} (F : Nat) : ∀ (f : Nat) (l1 : Int32) (l2 : Int32) (l3 : Int64) (l5 : Int32) (S : sm_t), sm_S (sm_jL N) k2_weightByEnd 0 0 26 [some (.ref 18), some (.int l1), some (.int l2), some (.long l3), none, some (.int l5), none] [] (sm_m N S) (x2_weightByEnd_26 F f l1 l2 l3 l5 S) := by
  intro f
  induction f with
  | zero =>
    intro l1 l2 l3 l5 S
    exact sd_none
  | succ f ih =>
    intro l1 l2 l3 l5 S
    rw [x2_weightByEnd_26]
    refine sd_iload (pc := 26) d2_weightByEnd_26 rfl ?_
    refine sd_aload_n (pc := 28) d2_weightByEnd_28 rfl ?_
    refine sd_getR (pc := 29) 22 (show sm_sq 18 = some (.inr 1) from rfl) rfl fl2_21 rfl d2_weightByEnd_29 ?_
    refine sd_getI (pc := 32) (show sm_sq 22 = some (.inr 0) from rfl) rfl fl2_82 d2_weightByEnd_32 (fun v1 => ?_)
    refine sd_ic_ge (pc := 35) 118 d2_weightByEnd_35 (by decide) (fun _ => ?_) (fun _ => ?_)
    · refine sd_lload_n (pc := 118) d2_weightByEnd_118 rfl ?_
      exact sd_lret (pc := 119) d2_weightByEnd_119 (Nat.zero_le _) (Nat.zero_le _)
    · refine sd_aload_n (pc := 38) d2_weightByEnd_38 rfl ?_
      refine sd_getR (pc := 39) 22 (show sm_sq 18 = some (.inr 1) from rfl) rfl fl2_21 rfl d2_weightByEnd_39 ?_
      refine sd_getR (pc := 42) 23 (show sm_sq 22 = some (.inr 0) from rfl) rfl fl2_72 rfl d2_weightByEnd_42 ?_
      refine sd_iload (pc := 45) d2_weightByEnd_45 rfl ?_
      refine sd_aald (pc := 47) 6 (show sm_sq 23 = some (.inl (.object "TwoFliers$Sign", 12)) from rfl) rfl rfl (fun _ => rfl) (fun _ _ _ _ h => if_pos h) d2_weightByEnd_47 (fun a2 => ?_)
      refine sd_astore (lf2 := [some (.ref 18), some (.int l1), some (.int l2), some (.long l3), none, some (.int l5), some (.ref a2)]) (pc := 48) d2_weightByEnd_48 (Nat.le_of_ble_eq_true rfl) rfl ?_
      refine sd_aload_n (pc := 50) d2_weightByEnd_50 rfl ?_
      refine sd_iload (pc := 51) d2_weightByEnd_51 rfl ?_
      refine sd_iload_n (pc := 53) d2_weightByEnd_53 rfl ?_
      refine sd_cVI (k2 := k2_weighsIn) (As := [.int l5, .int l2]) (rest := []) (b := 18) (ci := 1) (pc := 54) 85 (show sm_sq 18 = some (.inr 1) from rfl) (by decide) rfl d2_weightByEnd_54 ml2_85 (ms2_weighsIn).1 (ms2_weighsIn).2 (me2_weighsIn) ⟨rfl, rfl⟩ ⟨Nat.le_of_ble_eq_true rfl, Nat.le_of_ble_eq_true rfl⟩ (Nat.le_of_ble_eq_true rfl) (Nat.le_of_ble_eq_true rfl) (Or.inr rfl) (Nat.zero_le _) (Nat.zero_le _) rfl (s2_weighsIn F l5 l2 S) (fun v3 S => ?_)
      refine sd_if_eq (pc := 57) 112 d2_weightByEnd_57 (by decide) (fun _ => ?_) (fun _ => ?_)
      · refine sd_iinc (lf2 := [some (.ref 18), some (.int l1), some (.int l2), some (.long l3), none, some (.int (l5 + 1)), some (.ref a2)]) (pc := 112) d2_weightByEnd_112 (Nat.le_of_ble_eq_true rfl) rfl ci_1 rfl ?_
        refine sd_goto (pc := 115) 26 d2_weightByEnd_115 (by decide) ?_
        exact sd_fg [true, true, true, true, true, true, false] rfl (ih l1 l2 l3 (l5 + 1) S)
      · refine sd_aload (pc := 60) d2_weightByEnd_60 rfl ?_
        refine sd_on (fun h4 => ?_)
        refine sd_getI (pc := 62) h4 rfl fl2_89 d2_weightByEnd_62 (fun v5 => ?_)
        refine sd_iconst (pc := 65) 3 d2_weightByEnd_65 ci_3 ?_
        refine sd_ic_ne (pc := 66) 89 d2_weightByEnd_66 (by decide) (fun _ => ?_) (fun _ => ?_)
        · refine sd_lload_n (pc := 69) d2_weightByEnd_69 rfl ?_
          refine sd_aload (pc := 70) d2_weightByEnd_70 rfl ?_
          refine sd_getI (pc := 72) h4 rfl fl2_130 d2_weightByEnd_72 (fun v6 => ?_)
          refine sd_iload_n (pc := 75) d2_weightByEnd_75 rfl ?_
          refine sd_isub (pc := 76) d2_weightByEnd_76 ?_
          refine sd_mabs (pc := 77) 136 sl2_136 (Nat.le_of_ble_eq_true rfl) (Nat.le_of_ble_eq_true rfl) (Nat.zero_le _) (Nat.zero_le _) d2_weightByEnd_77 ?_
          refine sd_cSI (k2 := k6_burntWeight) (As := [.int (sm_ab (v6 - l1))]) (rest := [.long l3]) (pc := 80) 141 d2_weightByEnd_80 ml2_141 (ms6_burntWeight) (me6_burntWeight) ⟨rfl, rfl⟩ ⟨Nat.le_of_ble_eq_true rfl, Nat.le_of_ble_eq_true rfl⟩ (Nat.le_of_ble_eq_true rfl) (Nat.le_of_ble_eq_true rfl) (Or.inl rfl) (Nat.zero_le _) (Nat.zero_le _) rfl (s6_burntWeight F (sm_ab (v6 - l1)) S) (fun v7 S => ?_)
          refine sd_i2l (pc := 83) d2_weightByEnd_83 ?_
          refine sd_lmul (pc := 84) d2_weightByEnd_84 ?_
          refine sd_nl (fun v8 => ?_)
          refine sd_lstore_n (lf2 := [some (.ref 18), some (.int l1), some (.int l2), some (.long v8), none, some (.int l5), some (.ref a2)]) (pc := 85) d2_weightByEnd_85 (Nat.le_of_ble_eq_true rfl) rfl ?_
          refine sd_goto (pc := 86) 112 d2_weightByEnd_86 (by decide) ?_
          refine sd_iinc (lf2 := [some (.ref 18), some (.int l1), some (.int l2), some (.long v8), none, some (.int (l5 + 1)), some (.ref a2)]) (pc := 112) d2_weightByEnd_112 (Nat.le_of_ble_eq_true rfl) rfl ci_1 rfl ?_
          refine sd_goto (pc := 115) 26 d2_weightByEnd_115 (by decide) ?_
          exact sd_fg [true, true, true, true, true, true, false] rfl (ih l1 l2 v8 (l5 + 1) S)
        · refine sd_aload (pc := 89) d2_weightByEnd_89 rfl ?_
          refine sd_cVI (k2 := k6_isByHour) (As := []) (rest := []) (b := a2) (ci := 5) (pc := 91) 127 h4 (by decide) rfl d2_weightByEnd_91 ml2_127 (ms6_isByHour).1 (ms6_isByHour).2 (me6_isByHour) ⟨rfl, rfl⟩ ⟨Nat.le_of_ble_eq_true rfl, Nat.le_of_ble_eq_true rfl⟩ (Nat.le_of_ble_eq_true rfl) (Nat.le_of_ble_eq_true rfl) (Or.inr rfl) (Nat.zero_le _) (Nat.zero_le _) rfl (s6_isByHour F a2 S) (fun v9 S => ?_)
          refine sd_if_eq (pc := 94) 112 d2_weightByEnd_94 (by decide) (fun _ => ?_) (fun _ => ?_)
          · refine sd_iinc (lf2 := [some (.ref 18), some (.int l1), some (.int l2), some (.long l3), none, some (.int (l5 + 1)), some (.ref a2)]) (pc := 112) d2_weightByEnd_112 (Nat.le_of_ble_eq_true rfl) rfl ci_1 rfl ?_
            refine sd_goto (pc := 115) 26 d2_weightByEnd_115 (by decide) ?_
            exact sd_fg [true, true, true, true, true, true, false] rfl (ih l1 l2 l3 (l5 + 1) S)
          · refine sd_aload (pc := 97) d2_weightByEnd_97 rfl ?_
            refine sd_getI (pc := 99) h4 rfl fl2_130 d2_weightByEnd_99 (fun v10 => ?_)
            refine sd_iload_n (pc := 102) d2_weightByEnd_102 rfl ?_
            refine sd_ic_le (pc := 103) 112 d2_weightByEnd_103 (by decide) (fun _ => ?_) (fun _ => ?_)
            · refine sd_iinc (lf2 := [some (.ref 18), some (.int l1), some (.int l2), some (.long l3), none, some (.int (l5 + 1)), some (.ref a2)]) (pc := 112) d2_weightByEnd_112 (Nat.le_of_ble_eq_true rfl) rfl ci_1 rfl ?_
              refine sd_goto (pc := 115) 26 d2_weightByEnd_115 (by decide) ?_
              exact sd_fg [true, true, true, true, true, true, false] rfl (ih l1 l2 l3 (l5 + 1) S)
            · refine sd_lload_n (pc := 106) d2_weightByEnd_106 rfl ?_
              refine sd_ldc2 (pc := 107) cl2_92 d2_weightByEnd_107 ?_
              refine sd_lmul (pc := 110) d2_weightByEnd_110 ?_
              refine sd_nl (fun v11 => ?_)
              refine sd_lstore_n (lf2 := [some (.ref 18), some (.int l1), some (.int l2), some (.long v11), none, some (.int l5), some (.ref a2)]) (pc := 111) d2_weightByEnd_111 (Nat.le_of_ble_eq_true rfl) rfl ?_
              refine sd_iinc (lf2 := [some (.ref 18), some (.int l1), some (.int l2), some (.long v11), none, some (.int (l5 + 1)), some (.ref a2)]) (pc := 112) d2_weightByEnd_112 (Nat.le_of_ble_eq_true rfl) rfl ci_1 rfl ?_
              refine sd_goto (pc := 115) 26 d2_weightByEnd_115 (by decide) ?_
              exact sd_fg [true, true, true, true, true, true, false] rfl (ih l1 l2 v11 (l5 + 1) S)
set_option maxHeartbeats 4000000 in
set_option maxRecDepth 20000 in
theorem s2_weightByEnd {N : Nat} (F : Nat) (l1 : Int32) (l2 : Int32) (S : sm_t) : sm_P (sm_jL N) k2_weightByEnd [.ref 18, .int l1, .int l2] (sm_m N S) (x2_weightByEnd F l1 l2 S) := by
  show sm_S (sm_jL N) k2_weightByEnd 0 0 0 [some (.ref 18), some (.int l1), some (.int l2), none, none, none, none] [] (sm_m N S) (x2_weightByEnd F l1 l2 S)
  unfold x2_weightByEnd
  refine sd_aload_n (pc := 0) d2_weightByEnd_0 rfl ?_
  refine sd_getR (pc := 1) 19 (show sm_sq 18 = some (.inr 1) from rfl) rfl fl2_12 rfl d2_weightByEnd_1 ?_
  refine sd_getR (pc := 4) 21 (show sm_sq 19 = some (.inr 2) from rfl) rfl fl2_64 rfl d2_weightByEnd_4 ?_
  refine sd_iload_n (pc := 7) d2_weightByEnd_7 rfl ?_
  refine sd_iald (pc := 8) (show sm_sq 21 = some (.inl (.int, 7)) from rfl) d2_weightByEnd_8 (fun v1 => ?_)
  refine sd_i2l (pc := 9) d2_weightByEnd_9 ?_
  refine sd_iconst (pc := 10) 2 d2_weightByEnd_10 ci_2 ?_
  refine sd_aload_n (pc := 11) d2_weightByEnd_11 rfl ?_
  refine sd_getR (pc := 12) 19 (show sm_sq 18 = some (.inr 1) from rfl) rfl fl2_12 rfl d2_weightByEnd_12 ?_
  refine sd_getI (pc := 15) (show sm_sq 19 = some (.inr 2) from rfl) rfl fl2_60 d2_weightByEnd_15 (fun v2 => ?_)
  refine sd_iload_n (pc := 18) d2_weightByEnd_18 rfl ?_
  refine sd_isub (pc := 19) d2_weightByEnd_19 ?_
  refine sd_imul (pc := 20) d2_weightByEnd_20 ?_
  refine sd_lshl (pc := 21) d2_weightByEnd_21 ?_
  refine sd_nl (fun v3 => ?_)
  refine sd_lstore_n (lf2 := [some (.ref 18), some (.int l1), some (.int l2), some (.long v3), none, none, none]) (pc := 22) d2_weightByEnd_22 (Nat.le_of_ble_eq_true rfl) rfl ?_
  refine sd_iconst (pc := 23) 0 d2_weightByEnd_23 ci_0 ?_
  refine sd_istore (lf2 := [some (.ref 18), some (.int l1), some (.int l2), some (.long v3), none, some (.int 0), none]) (pc := 24) d2_weightByEnd_24 (Nat.le_of_ble_eq_true rfl) rfl ?_
  exact s2_weightByEnd_26 F F l1 l2 v3 0 S
set_option maxHeartbeats 4000000 in
set_option maxRecDepth 20000 in
theorem s2_land_13 {N : Nat} (F : Nat) : ∀ (f : Nat) (l3 : Int64) (l5 : Int64) (l7 : Int32) (S : sm_t), sm_S (sm_jL N) k2_land 0 0 13 [some (.ref 18), none, none, some (.long l3), none, some (.long l5), none, some (.int l7), none, none] [] (sm_m N S) (x2_land_13 F f l3 l5 l7 S) := by
  intro f
  induction f with
  | zero =>
    intro l3 l5 l7 S
    exact sd_none
  | succ f ih =>
    intro l3 l5 l7 S
    rw [x2_land_13]
    refine sd_iload (pc := 13) d2_land_13 rfl ?_
    refine sd_bipush (pc := 15) 120 d2_land_15 cb_120 ?_
    refine sd_ic_ge (pc := 17) 82 d2_land_17 (by decide) (fun _ => ?_) (fun _ => ?_)
    · refine sd_lload (pc := 82) d2_land_82 rfl ?_
      exact sd_lret (pc := 84) d2_land_84 (Nat.zero_le _) (Nat.zero_le _)
    · refine sd_lload_n (pc := 20) d2_land_20 rfl ?_
      refine sd_lconst (pc := 21) 0 d2_land_21 rfl ?_
      refine sd_lc_eq (pc := 22) 82 d2_land_22 d2_land_23 (by decide) (fun _ => ?_) (fun _ => ?_)
      · refine sd_lload (pc := 82) d2_land_82 rfl ?_
        exact sd_lret (pc := 84) d2_land_84 (Nat.zero_le _) (Nat.zero_le _)
      · refine sd_aload_n (pc := 26) d2_land_26 rfl ?_
        refine sd_getR (pc := 27) (S.2.2.1) (show sm_sq 18 = some (.inr 1) from rfl) rfl fl2_43 rfl d2_land_27 ?_
        refine sd_nr (fun a1 => ?_)
        refine sd_iload (pc := 30) d2_land_30 rfl ?_
        refine sd_an (fun n3 h2 => ?_)
        refine sd_lald (pc := 32) h2 d2_land_32 (fun v4 => ?_)
        refine sd_lconst (pc := 33) 0 d2_land_33 rfl ?_
        refine sd_lc_eq (pc := 34) 76 d2_land_34 d2_land_35 (by decide) (fun _ => ?_) (fun _ => ?_)
        · refine sd_iinc (lf2 := [some (.ref 18), none, none, some (.long l3), none, some (.long l5), none, some (.int (l7 + 1)), none, none]) (pc := 76) d2_land_76 (Nat.le_of_ble_eq_true rfl) rfl ci_1 rfl ?_
          refine sd_goto (pc := 79) 13 d2_land_79 (by decide) ?_
          exact ih l3 l5 (l7 + 1) S
        · refine sd_aload_n (pc := 38) d2_land_38 rfl ?_
          refine sd_getR (pc := 39) (S.2.2.1) (show sm_sq 18 = some (.inr 1) from rfl) rfl fl2_43 rfl d2_land_39 ?_
          refine sd_nr (fun a5 => ?_)
          refine sd_iload (pc := 42) d2_land_42 rfl ?_
          refine sd_an (fun n7 h6 => ?_)
          refine sd_lald (pc := 44) h6 d2_land_44 (fun v8 => ?_)
          refine sd_lload_n (pc := 45) d2_land_45 rfl ?_
          refine sd_lmul (pc := 46) d2_land_46 ?_
          refine sd_aload_n (pc := 47) d2_land_47 rfl ?_
          refine sd_getR (pc := 48) 44 (show sm_sq 18 = some (.inr 1) from rfl) rfl fl2_49 rfl d2_land_48 ?_
          refine sd_iload (pc := 51) d2_land_51 rfl ?_
          refine sd_lald (pc := 53) (show sm_sq 44 = some (.inl (.long, 120)) from rfl) d2_land_53 (fun v9 => ?_)
          refine sd_lmul (pc := 54) d2_land_54 ?_
          refine sd_nl (fun v10 => ?_)
          refine sd_lstore (lf2 := [some (.ref 18), none, none, some (.long l3), none, some (.long l5), none, some (.int l7), some (.long v10), none]) (pc := 55) d2_land_55 (Nat.le_of_ble_eq_true rfl) rfl ?_
          refine sd_aload_n (pc := 57) d2_land_57 rfl ?_
          refine sd_getR (pc := 58) 40 (show sm_sq 18 = some (.inr 1) from rfl) rfl fl2_32 rfl d2_land_58 ?_
          refine sd_iload (pc := 61) d2_land_61 rfl ?_
          refine sd_dup2 (pc := 63) d2_land_63 rfl rfl ?_
          refine sd_lald (pc := 64) (show sm_sq 40 = some (.inl (.long, 120)) from rfl) d2_land_64 (fun v11 => ?_)
          refine sd_lload (pc := 65) d2_land_65 rfl ?_
          refine sd_ladd (pc := 67) d2_land_67 ?_
          refine sd_last (pc := 68) (show sm_sq 40 = some (.inl (.long, 120)) from rfl) d2_land_68 (fun S => ?_)
          refine sd_lload (pc := 69) d2_land_69 rfl ?_
          refine sd_lload (pc := 71) d2_land_71 rfl ?_
          refine sd_ladd (pc := 73) d2_land_73 ?_
          refine sd_nl (fun v12 => ?_)
          refine sd_lstore (lf2 := [some (.ref 18), none, none, some (.long l3), none, some (.long v12), none, some (.int l7), some (.long v10), none]) (pc := 74) d2_land_74 (Nat.le_of_ble_eq_true rfl) rfl ?_
          refine sd_iinc (lf2 := [some (.ref 18), none, none, some (.long l3), none, some (.long v12), none, some (.int (l7 + 1)), some (.long v10), none]) (pc := 76) d2_land_76 (Nat.le_of_ble_eq_true rfl) rfl ci_1 rfl ?_
          refine sd_goto (pc := 79) 13 d2_land_79 (by decide) ?_
          exact sd_fg [true, true, true, true, true, true, true, true, false, true] rfl (ih l3 v12 (l7 + 1) S)
set_option maxHeartbeats 4000000 in
set_option maxRecDepth 20000 in
theorem s2_land {N : Nat} (F : Nat) (l1 : Int32) (l2 : Int32) (S : sm_t) : sm_P (sm_jL N) k2_land [.ref 18, .int l1, .int l2] (sm_m N S) (x2_land F l1 l2 S) := by
  show sm_S (sm_jL N) k2_land 0 0 0 [some (.ref 18), some (.int l1), some (.int l2), none, none, none, none, none, none, none] [] (sm_m N S) (x2_land F l1 l2 S)
  unfold x2_land
  refine sd_aload_n (pc := 0) d2_land_0 rfl ?_
  refine sd_iload_n (pc := 1) d2_land_1 rfl ?_
  refine sd_iload_n (pc := 2) d2_land_2 rfl ?_
  refine sd_cVL (k2 := k2_weightByEnd) (As := [.int l1, .int l2]) (rest := []) (b := 18) (ci := 1) (pc := 3) 133 (show sm_sq 18 = some (.inr 1) from rfl) (by decide) rfl d2_land_3 ml2_133 (ms2_weightByEnd).1 (ms2_weightByEnd).2 (me2_weightByEnd) ⟨rfl, rfl⟩ ⟨Nat.le_of_ble_eq_true rfl, Nat.le_of_ble_eq_true rfl⟩ (Nat.le_of_ble_eq_true rfl) (Nat.le_of_ble_eq_true rfl) rfl (Nat.zero_le _) (Nat.zero_le _) rfl (s2_weightByEnd F l1 l2 S) (fun v1 S => ?_)
  refine sd_lstore_n (lf2 := [some (.ref 18), some (.int l1), some (.int l2), some (.long v1), none, none, none, none, none, none]) (pc := 6) d2_land_6 (Nat.le_of_ble_eq_true rfl) rfl ?_
  refine sd_lconst (pc := 7) 0 d2_land_7 rfl ?_
  refine sd_lstore (lf2 := [some (.ref 18), some (.int l1), some (.int l2), some (.long v1), none, some (.long 0), none, none, none, none]) (pc := 8) d2_land_8 (Nat.le_of_ble_eq_true rfl) rfl ?_
  refine sd_iconst (pc := 10) 0 d2_land_10 ci_0 ?_
  refine sd_istore (lf2 := [some (.ref 18), some (.int l1), some (.int l2), some (.long v1), none, some (.long 0), none, some (.int 0), none, none]) (pc := 11) d2_land_11 (Nat.le_of_ble_eq_true rfl) rfl ?_
  exact sd_fg [true, false, false, true, true, true, true, true, true, true] rfl (s2_land_13 F F v1 0 0 S)
set_option maxHeartbeats 4000000 in
set_option maxRecDepth 20000 in
theorem s1_gone {N : Nat} (F : Nat) (l0 : Int32) (l1 : Int32) (S : sm_t) : sm_P (sm_jI N) k1_gone [.int l0, .int l1] (sm_m N S) (x1_gone F l0 l1 S) := by
  show sm_S (sm_jI N) k1_gone 0 0 0 [some (.int l0), some (.int l1), none] [] (sm_m N S) (x1_gone F l0 l1 S)
  unfold x1_gone
  refine sd_iload_n (pc := 0) d1_gone_0 rfl ?_
  refine sd_iload_n (pc := 1) d1_gone_1 rfl ?_
  refine sd_cSI (k2 := k1_beside) (As := [.int l0, .int l1]) (rest := []) (pc := 2) 28 d1_gone_2 ml1_28 (ms1_beside) (me1_beside) ⟨rfl, rfl⟩ ⟨Nat.le_of_ble_eq_true rfl, Nat.le_of_ble_eq_true rfl⟩ (Nat.le_of_ble_eq_true rfl) (Nat.le_of_ble_eq_true rfl) (Or.inl rfl) (Nat.zero_le _) (Nat.zero_le _) rfl (s1_beside F l0 l1 S) (fun v1 S => ?_)
  refine sd_istore_n (lf2 := [some (.int l0), some (.int l1), some (.int v1)]) (pc := 5) d1_gone_5 (Nat.le_of_ble_eq_true rfl) rfl ?_
  refine sd_iload_n (pc := 6) d1_gone_6 rfl ?_
  refine sd_bipush (pc := 7) (-9) d1_gone_7 cb_m9 ?_
  refine sd_ic_ne (pc := 9) 16 d1_gone_9 (by decide) (fun _ => ?_) (fun _ => ?_)
  · refine sd_iload_n (pc := 12) d1_gone_12 rfl ?_
    refine sd_goto (pc := 13) 17 d1_gone_13 (by decide) ?_
    exact sd_iret (pc := 17) d1_gone_17 rfl (Nat.zero_le _) (Nat.zero_le _)
  · refine sd_iload_n (pc := 16) d1_gone_16 rfl ?_
    exact sd_iret (pc := 17) d1_gone_17 rfl (Nat.zero_le _) (Nat.zero_le _)
set_option maxHeartbeats 4000000 in
set_option maxRecDepth 20000 in
theorem s1_turned {N : Nat} (F : Nat) (l0 : Int32) (l1 : Int32) (S : sm_t) : sm_P (sm_jI N) k1_turned [.int l0, .int l1] (sm_m N S) (x1_turned F l0 l1 S) := by
  show sm_S (sm_jI N) k1_turned 0 0 0 [some (.int l0), some (.int l1)] [] (sm_m N S) (x1_turned F l0 l1 S)
  unfold x1_turned
  refine sd_iload_n (pc := 0) d1_turned_0 rfl ?_
  refine sd_iload_n (pc := 1) d1_turned_1 rfl ?_
  refine sd_iadd (pc := 2) d1_turned_2 ?_
  refine sd_bipush (pc := 3) 7 d1_turned_3 cb_7 ?_
  refine sd_iand (pc := 5) d1_turned_5 ?_
  exact sd_iret (pc := 6) d1_turned_6 rfl (Nat.zero_le _) (Nat.zero_le _)
set_option maxHeartbeats 4000000 in
set_option maxRecDepth 20000 in
theorem s2_spread_102 {N : Nat} (F : Nat) (S : sm_t) : sm_S (sm_jV N) k2_spread 0 0 102 [some (.ref 18), none, none] [] (sm_m N S) (x2_spread_102 F S) := by
  unfold x2_spread_102
  refine sd_aload_n (pc := 102) d2_spread_102 rfl ?_
  refine sd_getR (pc := 103) (S.2.2.1) (show sm_sq 18 = some (.inr 1) from rfl) rfl fl2_43 rfl d2_spread_103 ?_
  refine sd_nr (fun a1 => ?_)
  refine sd_astore_n (lf2 := [some (.ref 18), none, some (.ref a1)]) (pc := 106) d2_spread_106 (Nat.le_of_ble_eq_true rfl) rfl ?_
  refine sd_aload_n (pc := 107) d2_spread_107 rfl ?_
  refine sd_aload_n (pc := 108) d2_spread_108 rfl ?_
  refine sd_getR (pc := 109) (S.2.2.2.1) (show sm_sq 18 = some (.inr 1) from rfl) rfl fl2_46 rfl d2_spread_109 ?_
  refine sd_nr (fun a2 => ?_)
  refine sd_pnw (pc := 112) fl2_43 d2_spread_112 (fun S => ?_)
  refine sd_aload_n (pc := 115) d2_spread_115 rfl ?_
  refine sd_aload_n (pc := 116) d2_spread_116 rfl ?_
  refine sd_pnx (pc := 117) fl2_46 d2_spread_117 (fun S => ?_)
  exact sd_vret (pc := 120) d2_spread_120 (Nat.zero_le _) (Nat.zero_le _)
set_option maxHeartbeats 4000000 in
set_option maxRecDepth 20000 in
theorem s2_spread_10 {N : Nat} (F : Nat) : ∀ (f : Nat) (l1 : Int32) (l2 : Int32) (S : sm_t), sm_S (sm_jV N) k2_spread 0 0 10 [some (.ref 18), some (.int l1), some (.int l2)] [] (sm_m N S) (x2_spread_10 F f l1 l2 S) := by
  intro f
  induction f with
  | zero =>
    intro l1 l2 S
    exact sd_none
  | succ f ih =>
    intro l1 l2 S
    rw [x2_spread_10]
    refine sd_iload_n (pc := 10) d2_spread_10 rfl ?_
    refine sd_bipush (pc := 11) 120 d2_spread_11 cb_120 ?_
    refine sd_ic_ge (pc := 13) 102 d2_spread_13 (by decide) (fun _ => ?_) (fun _ => ?_)
    · exact sd_fg [true, false, false] rfl (s2_spread_102 F S)
    · refine sd_aload_n (pc := 16) d2_spread_16 rfl ?_
      refine sd_getR (pc := 17) (S.2.2.1) (show sm_sq 18 = some (.inr 1) from rfl) rfl fl2_43 rfl d2_spread_17 ?_
      refine sd_nr (fun a1 => ?_)
      refine sd_iload_n (pc := 20) d2_spread_20 rfl ?_
      refine sd_an (fun n3 h2 => ?_)
      refine sd_lald (pc := 21) h2 d2_spread_21 (fun v4 => ?_)
      refine sd_lconst (pc := 22) 0 d2_spread_22 rfl ?_
      refine sd_lc_eq (pc := 23) 96 d2_spread_23 d2_spread_24 (by decide) (fun _ => ?_) (fun _ => ?_)
      · refine sd_iinc (lf2 := [some (.ref 18), some (.int l1), some (.int (l2 + 1))]) (pc := 96) d2_spread_96 (Nat.le_of_ble_eq_true rfl) rfl ci_1 rfl ?_
        refine sd_goto (pc := 99) 10 d2_spread_99 (by decide) ?_
        exact ih l1 (l2 + 1) S
      · refine sd_aload_n (pc := 27) d2_spread_27 rfl ?_
        refine sd_getR (pc := 28) (S.2.2.2.1) (show sm_sq 18 = some (.inr 1) from rfl) rfl fl2_46 rfl d2_spread_28 ?_
        refine sd_nr (fun a5 => ?_)
        refine sd_iload_n (pc := 31) d2_spread_31 rfl ?_
        refine sd_iload_n (pc := 32) d2_spread_32 rfl ?_
        refine sd_cSI (k2 := k1_gone) (As := [.int l2, .int l1]) (rest := [.ref a5]) (pc := 33) 144 d2_spread_33 ml2_144 (ms1_gone) (me1_gone) ⟨rfl, rfl⟩ ⟨Nat.le_of_ble_eq_true rfl, Nat.le_of_ble_eq_true rfl⟩ (Nat.le_of_ble_eq_true rfl) (Nat.le_of_ble_eq_true rfl) (Or.inl rfl) (Nat.zero_le _) (Nat.zero_le _) rfl (s1_gone F l2 l1 S) (fun v6 S => ?_)
        refine sd_dup2 (pc := 36) d2_spread_36 rfl rfl ?_
        refine sd_an (fun n8 h7 => ?_)
        refine sd_lald (pc := 37) h7 d2_spread_37 (fun v9 => ?_)
        refine sd_ldc2 (pc := 38) cl2_147 d2_spread_38 ?_
        refine sd_aload_n (pc := 41) d2_spread_41 rfl ?_
        refine sd_getR (pc := 42) (S.2.2.1) (show sm_sq 18 = some (.inr 1) from rfl) rfl fl2_43 rfl d2_spread_42 ?_
        refine sd_nr (fun a10 => ?_)
        refine sd_iload_n (pc := 45) d2_spread_45 rfl ?_
        refine sd_an (fun n12 h11 => ?_)
        refine sd_lald (pc := 46) h11 d2_spread_46 (fun v13 => ?_)
        refine sd_lmul (pc := 47) d2_spread_47 ?_
        refine sd_ladd (pc := 48) d2_spread_48 ?_
        refine sd_last (pc := 49) h7 d2_spread_49 (fun S => ?_)
        refine sd_aload_n (pc := 50) d2_spread_50 rfl ?_
        refine sd_getR (pc := 51) (S.2.2.2.1) (show sm_sq 18 = some (.inr 1) from rfl) rfl fl2_46 rfl d2_spread_51 ?_
        refine sd_nr (fun a14 => ?_)
        refine sd_iload_n (pc := 54) d2_spread_54 rfl ?_
        refine sd_iload_n (pc := 55) d2_spread_55 rfl ?_
        refine sd_iconst (pc := 56) (-1) d2_spread_56 ci_m1 ?_
        refine sd_cSI (k2 := k1_turned) (As := [.int l1, .int (-1)]) (rest := [.int l2, .ref a14]) (pc := 57) 149 d2_spread_57 ml2_149 (ms1_turned) (me1_turned) ⟨rfl, rfl⟩ ⟨Nat.le_of_ble_eq_true rfl, Nat.le_of_ble_eq_true rfl⟩ (Nat.le_of_ble_eq_true rfl) (Nat.le_of_ble_eq_true rfl) (Or.inl rfl) (Nat.zero_le _) (Nat.zero_le _) rfl (s1_turned F l1 (-1) S) (fun v15 S => ?_)
        refine sd_cSI (k2 := k1_gone) (As := [.int l2, .int v15]) (rest := [.ref a14]) (pc := 60) 144 d2_spread_60 ml2_144 (ms1_gone) (me1_gone) ⟨rfl, rfl⟩ ⟨Nat.le_of_ble_eq_true rfl, Nat.le_of_ble_eq_true rfl⟩ (Nat.le_of_ble_eq_true rfl) (Nat.le_of_ble_eq_true rfl) (Or.inl rfl) (Nat.zero_le _) (Nat.zero_le _) rfl (s1_gone F l2 v15 S) (fun v16 S => ?_)
        refine sd_dup2 (pc := 63) d2_spread_63 rfl rfl ?_
        refine sd_an (fun n18 h17 => ?_)
        refine sd_lald (pc := 64) h17 d2_spread_64 (fun v19 => ?_)
        refine sd_aload_n (pc := 65) d2_spread_65 rfl ?_
        refine sd_getR (pc := 66) (S.2.2.1) (show sm_sq 18 = some (.inr 1) from rfl) rfl fl2_43 rfl d2_spread_66 ?_
        refine sd_nr (fun a20 => ?_)
        refine sd_iload_n (pc := 69) d2_spread_69 rfl ?_
        refine sd_an (fun n22 h21 => ?_)
        refine sd_lald (pc := 70) h21 d2_spread_70 (fun v23 => ?_)
        refine sd_ladd (pc := 71) d2_spread_71 ?_
        refine sd_last (pc := 72) h17 d2_spread_72 (fun S => ?_)
        refine sd_aload_n (pc := 73) d2_spread_73 rfl ?_
        refine sd_getR (pc := 74) (S.2.2.2.1) (show sm_sq 18 = some (.inr 1) from rfl) rfl fl2_46 rfl d2_spread_74 ?_
        refine sd_nr (fun a24 => ?_)
        refine sd_iload_n (pc := 77) d2_spread_77 rfl ?_
        refine sd_iload_n (pc := 78) d2_spread_78 rfl ?_
        refine sd_iconst (pc := 79) 1 d2_spread_79 ci_1 ?_
        refine sd_cSI (k2 := k1_turned) (As := [.int l1, .int 1]) (rest := [.int l2, .ref a24]) (pc := 80) 149 d2_spread_80 ml2_149 (ms1_turned) (me1_turned) ⟨rfl, rfl⟩ ⟨Nat.le_of_ble_eq_true rfl, Nat.le_of_ble_eq_true rfl⟩ (Nat.le_of_ble_eq_true rfl) (Nat.le_of_ble_eq_true rfl) (Or.inl rfl) (Nat.zero_le _) (Nat.zero_le _) rfl (s1_turned F l1 1 S) (fun v25 S => ?_)
        refine sd_cSI (k2 := k1_gone) (As := [.int l2, .int v25]) (rest := [.ref a24]) (pc := 83) 144 d2_spread_83 ml2_144 (ms1_gone) (me1_gone) ⟨rfl, rfl⟩ ⟨Nat.le_of_ble_eq_true rfl, Nat.le_of_ble_eq_true rfl⟩ (Nat.le_of_ble_eq_true rfl) (Nat.le_of_ble_eq_true rfl) (Or.inl rfl) (Nat.zero_le _) (Nat.zero_le _) rfl (s1_gone F l2 v25 S) (fun v26 S => ?_)
        refine sd_dup2 (pc := 86) d2_spread_86 rfl rfl ?_
        refine sd_an (fun n28 h27 => ?_)
        refine sd_lald (pc := 87) h27 d2_spread_87 (fun v29 => ?_)
        refine sd_aload_n (pc := 88) d2_spread_88 rfl ?_
        refine sd_getR (pc := 89) (S.2.2.1) (show sm_sq 18 = some (.inr 1) from rfl) rfl fl2_43 rfl d2_spread_89 ?_
        refine sd_nr (fun a30 => ?_)
        refine sd_iload_n (pc := 92) d2_spread_92 rfl ?_
        refine sd_an (fun n32 h31 => ?_)
        refine sd_lald (pc := 93) h31 d2_spread_93 (fun v33 => ?_)
        refine sd_ladd (pc := 94) d2_spread_94 ?_
        refine sd_last (pc := 95) h27 d2_spread_95 (fun S => ?_)
        refine sd_iinc (lf2 := [some (.ref 18), some (.int l1), some (.int (l2 + 1))]) (pc := 96) d2_spread_96 (Nat.le_of_ble_eq_true rfl) rfl ci_1 rfl ?_
        refine sd_goto (pc := 99) 10 d2_spread_99 (by decide) ?_
        exact ih l1 (l2 + 1) S
set_option maxHeartbeats 4000000 in
set_option maxRecDepth 20000 in
theorem s2_spread {N : Nat} (F : Nat) (l1 : Int32) (S : sm_t) : sm_P (sm_jV N) k2_spread [.ref 18, .int l1] (sm_m N S) (x2_spread F l1 S) := by
  show sm_S (sm_jV N) k2_spread 0 0 0 [some (.ref 18), some (.int l1), none] [] (sm_m N S) (x2_spread F l1 S)
  unfold x2_spread
  refine sd_aload_n (pc := 0) d2_spread_0 rfl ?_
  refine sd_getR (pc := 1) (S.2.2.2.1) (show sm_sq 18 = some (.inr 1) from rfl) rfl fl2_46 rfl d2_spread_1 ?_
  refine sd_nr (fun a1 => ?_)
  refine sd_lconst (pc := 4) 0 d2_spread_4 rfl ?_
  refine sd_cSV (k2 := kA_fillJ) (As := [.ref a1, .long 0]) (rest := []) (pc := 5) 97 d2_spread_5 ml2_97 (msA_fillJ) (meA_fillJ) ⟨rfl, rfl⟩ ⟨Nat.le_of_ble_eq_true rfl, Nat.le_of_ble_eq_true rfl⟩ (Nat.le_of_ble_eq_true rfl) (Nat.le_of_ble_eq_true rfl) rfl (Nat.zero_le _) (Nat.zero_le _) rfl (sA_fillJ F a1 0 S) (fun S => ?_)
  refine sd_iconst (pc := 8) 0 d2_spread_8 ci_0 ?_
  refine sd_istore_n (lf2 := [some (.ref 18), some (.int l1), some (.int 0)]) (pc := 9) d2_spread_9 (Nat.le_of_ble_eq_true rfl) rfl ?_
  exact s2_spread_10 F F l1 0 S
set_option maxHeartbeats 4000000 in
set_option maxRecDepth 20000 in
theorem s2_weighFlight_110 {N : Nat} (F : Nat) (c48 : Int32 → Int32 → Int32 → Int64 → Int32 → sm_t → Option (Int64 × sm_t)) (hc48 : ∀ (l1 : Int32) (l2 : Int32) (l3 : Int32) (l4 : Int64) (l6 : Int32) (S : sm_t), sm_S (sm_jL N) k2_weighFlight 0 0 48 [some (.ref 18), some (.int l1), some (.int l2), some (.int l3), some (.long l4), none, some (.int l6)] [] (sm_m N S) (c48 l1 l2 l3 l4 l6 S)) (l1 : Int32) (l2 : Int32) (l3 : Int32) (l4 : Int64) (l6 : Int32) (S : sm_t) : sm_S (sm_jL N) k2_weighFlight 0 0 110 [some (.ref 18), some (.int l1), some (.int l2), some (.int l3), some (.long l4), none, some (.int l6)] [] (sm_m N S) (x2_weighFlight_110 F c48 l1 l2 l3 l4 l6 S) := by
  unfold x2_weighFlight_110
  refine sd_iload (pc := 110) d2_weighFlight_110 rfl ?_
  refine sd_aload_n (pc := 112) d2_weighFlight_112 rfl ?_
  refine sd_getR (pc := 113) 19 (show sm_sq 18 = some (.inr 1) from rfl) rfl fl2_12 rfl d2_weighFlight_113 ?_
  refine sd_getI (pc := 116) (show sm_sq 19 = some (.inr 2) from rfl) rfl fl2_60 d2_weighFlight_116 (fun v1 => ?_)
  refine sd_ic_ge (pc := 119) 136 d2_weighFlight_119 (by decide) (fun _ => ?_) (fun _ => ?_)
  · refine sd_iinc (lf2 := [some (.ref 18), some (.int l1), some (.int l2), some (.int l3), some (.long l4), none, some (.int (l6 + 1))]) (pc := 136) d2_weighFlight_136 (Nat.le_of_ble_eq_true rfl) rfl ci_1 rfl ?_
    refine sd_goto (pc := 139) 48 d2_weighFlight_139 (by decide) ?_
    exact hc48 l1 l2 l3 l4 (l6 + 1) S
  · refine sd_aload_n (pc := 122) d2_weighFlight_122 rfl ?_
    refine sd_aload_n (pc := 123) d2_weighFlight_123 rfl ?_
    refine sd_getR (pc := 124) 19 (show sm_sq 18 = some (.inr 1) from rfl) rfl fl2_12 rfl d2_weighFlight_124 ?_
    refine sd_getR (pc := 127) 20 (show sm_sq 19 = some (.inr 2) from rfl) rfl fl2_121 rfl d2_weighFlight_127 ?_
    refine sd_iload (pc := 130) d2_weighFlight_130 rfl ?_
    refine sd_iald (pc := 132) (show sm_sq 20 = some (.inl (.int, 6)) from rfl) d2_weighFlight_132 (fun v2 => ?_)
    refine sd_cVV (k2 := k2_spread) (As := [.int v2]) (rest := []) (b := 18) (ci := 1) (pc := 133) 124 (show sm_sq 18 = some (.inr 1) from rfl) (by decide) rfl d2_weighFlight_133 ml2_124 (ms2_spread).1 (ms2_spread).2 (me2_spread) ⟨rfl, rfl⟩ ⟨Nat.le_of_ble_eq_true rfl, Nat.le_of_ble_eq_true rfl⟩ (Nat.le_of_ble_eq_true rfl) (Nat.le_of_ble_eq_true rfl) rfl (Nat.zero_le _) (Nat.zero_le _) rfl (s2_spread F v2 S) (fun S => ?_)
    refine sd_iinc (lf2 := [some (.ref 18), some (.int l1), some (.int l2), some (.int l3), some (.long l4), none, some (.int (l6 + 1))]) (pc := 136) d2_weighFlight_136 (Nat.le_of_ble_eq_true rfl) rfl ci_1 rfl ?_
    refine sd_goto (pc := 139) 48 d2_weighFlight_139 (by decide) ?_
    exact hc48 l1 l2 l3 l4 (l6 + 1) S
set_option maxHeartbeats 4000000 in
set_option maxRecDepth 20000 in
theorem s2_weighFlight_78 {N : Nat} (F : Nat) (c48 : Int32 → Int32 → Int32 → Int64 → Int32 → sm_t → Option (Int64 × sm_t)) (hc48 : ∀ (l1 : Int32) (l2 : Int32) (l3 : Int32) (l4 : Int64) (l6 : Int32) (S : sm_t), sm_S (sm_jL N) k2_weighFlight 0 0 48 [some (.ref 18), some (.int l1), some (.int l2), some (.int l3), some (.long l4), none, some (.int l6)] [] (sm_m N S) (c48 l1 l2 l3 l4 l6 S)) (l1 : Int32) (l2 : Int32) (l3 : Int32) (l4 : Int64) (l6 : Int32) (S : sm_t) : sm_S (sm_jL N) k2_weighFlight 0 0 78 [some (.ref 18), some (.int l1), some (.int l2), some (.int l3), some (.long l4), none, some (.int l6)] [] (sm_m N S) (x2_weighFlight_78 F c48 l1 l2 l3 l4 l6 S) := by
  unfold x2_weighFlight_78
  refine sd_iload (pc := 78) d2_weighFlight_78 rfl ?_
  refine sd_iload_n (pc := 80) d2_weighFlight_80 rfl ?_
  refine sd_ic_lt (pc := 81) 110 d2_weighFlight_81 (by decide) (fun _ => ?_) (fun _ => ?_)
  · exact s2_weighFlight_110 F _ hc48 l1 l2 l3 l4 l6 S
  · refine sd_aload_n (pc := 84) d2_weighFlight_84 rfl ?_
    refine sd_getR (pc := 85) 41 (show sm_sq 18 = some (.inr 1) from rfl) rfl fl2_36 rfl d2_weighFlight_85 ?_
    refine sd_iload (pc := 88) d2_weighFlight_88 rfl ?_
    refine sd_aload_n (pc := 90) d2_weighFlight_90 rfl ?_
    refine sd_iload (pc := 91) d2_weighFlight_91 rfl ?_
    refine sd_iload_n (pc := 93) d2_weighFlight_93 rfl ?_
    refine sd_cVL (k2 := k2_land) (As := [.int l6, .int l1]) (rest := [.int l6, .ref 41]) (b := 18) (ci := 1) (pc := 94) 117 (show sm_sq 18 = some (.inr 1) from rfl) (by decide) rfl d2_weighFlight_94 ml2_117 (ms2_land).1 (ms2_land).2 (me2_land) ⟨rfl, rfl⟩ ⟨Nat.le_of_ble_eq_true rfl, Nat.le_of_ble_eq_true rfl⟩ (Nat.le_of_ble_eq_true rfl) (Nat.le_of_ble_eq_true rfl) rfl (Nat.zero_le _) (Nat.zero_le _) rfl (s2_land F l6 l1 S) (fun v1 S => ?_)
    refine sd_last (pc := 97) (show sm_sq 41 = some (.inl (.long, 7)) from rfl) d2_weighFlight_97 (fun S => ?_)
    refine sd_lload (pc := 98) d2_weighFlight_98 rfl ?_
    refine sd_aload_n (pc := 100) d2_weighFlight_100 rfl ?_
    refine sd_getR (pc := 101) 41 (show sm_sq 18 = some (.inr 1) from rfl) rfl fl2_36 rfl d2_weighFlight_101 ?_
    refine sd_iload (pc := 104) d2_weighFlight_104 rfl ?_
    refine sd_lald (pc := 106) (show sm_sq 41 = some (.inl (.long, 7)) from rfl) d2_weighFlight_106 (fun v2 => ?_)
    refine sd_ladd (pc := 107) d2_weighFlight_107 ?_
    refine sd_nl (fun v3 => ?_)
    refine sd_lstore (lf2 := [some (.ref 18), some (.int l1), some (.int l2), some (.int l3), some (.long v3), none, some (.int l6)]) (pc := 108) d2_weighFlight_108 (Nat.le_of_ble_eq_true rfl) rfl ?_
    exact s2_weighFlight_110 F _ hc48 l1 l2 l3 v3 l6 S
set_option maxHeartbeats 4000000 in
set_option maxRecDepth 20000 in
theorem s2_weighFlight_48 {N : Nat} (F : Nat) : ∀ (f : Nat) (l1 : Int32) (l2 : Int32) (l3 : Int32) (l4 : Int64) (l6 : Int32) (S : sm_t), sm_S (sm_jL N) k2_weighFlight 0 0 48 [some (.ref 18), some (.int l1), some (.int l2), some (.int l3), some (.long l4), none, some (.int l6)] [] (sm_m N S) (x2_weighFlight_48 F f l1 l2 l3 l4 l6 S) := by
  intro f
  induction f with
  | zero =>
    intro l1 l2 l3 l4 l6 S
    exact sd_none
  | succ f ih =>
    intro l1 l2 l3 l4 l6 S
    rw [x2_weighFlight_48]
    refine sd_iload (pc := 48) d2_weighFlight_48 rfl ?_
    refine sd_aload_n (pc := 50) d2_weighFlight_50 rfl ?_
    refine sd_getR (pc := 51) 19 (show sm_sq 18 = some (.inr 1) from rfl) rfl fl2_12 rfl d2_weighFlight_51 ?_
    refine sd_getI (pc := 54) (show sm_sq 19 = some (.inr 2) from rfl) rfl fl2_60 d2_weighFlight_54 (fun v1 => ?_)
    refine sd_ic_gt (pc := 57) 142 d2_weighFlight_57 (by decide) (fun _ => ?_) (fun _ => ?_)
    · refine sd_lload (pc := 142) d2_weighFlight_142 rfl ?_
      exact sd_lret (pc := 144) d2_weighFlight_144 (Nat.zero_le _) (Nat.zero_le _)
    · refine sd_aload_n (pc := 60) d2_weighFlight_60 rfl ?_
      refine sd_iload (pc := 61) d2_weighFlight_61 rfl ?_
      refine sd_iload_n (pc := 63) d2_weighFlight_63 rfl ?_
      refine sd_cVV (k2 := k2_weighByHour) (As := [.int l6, .int l1]) (rest := []) (b := 18) (ci := 1) (pc := 64) 110 (show sm_sq 18 = some (.inr 1) from rfl) (by decide) rfl d2_weighFlight_64 ml2_110 (ms2_weighByHour).1 (ms2_weighByHour).2 (me2_weighByHour) ⟨rfl, rfl⟩ ⟨Nat.le_of_ble_eq_true rfl, Nat.le_of_ble_eq_true rfl⟩ (Nat.le_of_ble_eq_true rfl) (Nat.le_of_ble_eq_true rfl) rfl (Nat.zero_le _) (Nat.zero_le _) rfl (s2_weighByHour F l6 l1 S) (fun S => ?_)
      refine sd_iload (pc := 67) d2_weighFlight_67 rfl ?_
      refine sd_iload_n (pc := 69) d2_weighFlight_69 rfl ?_
      refine sd_ic_ne (pc := 70) 78 d2_weighFlight_70 (by decide) (fun _ => ?_) (fun _ => ?_)
      · refine sd_aload_n (pc := 73) d2_weighFlight_73 rfl ?_
        refine sd_iload_n (pc := 74) d2_weighFlight_74 rfl ?_
        refine sd_cVV (k2 := k2_keepOnly) (As := [.int l3]) (rest := []) (b := 18) (ci := 1) (pc := 75) 114 (show sm_sq 18 = some (.inr 1) from rfl) (by decide) rfl d2_weighFlight_75 ml2_114 (ms2_keepOnly).1 (ms2_keepOnly).2 (me2_keepOnly) ⟨rfl, rfl⟩ ⟨Nat.le_of_ble_eq_true rfl, Nat.le_of_ble_eq_true rfl⟩ (Nat.le_of_ble_eq_true rfl) (Nat.le_of_ble_eq_true rfl) rfl (Nat.zero_le _) (Nat.zero_le _) rfl (s2_keepOnly F l3 S) (fun S => ?_)
        exact s2_weighFlight_78 F _ ih l1 l2 l3 l4 l6 S
      · exact s2_weighFlight_78 F _ ih l1 l2 l3 l4 l6 S
set_option maxHeartbeats 4000000 in
set_option maxRecDepth 20000 in
theorem s2_weighFlight {N : Nat} (F : Nat) (l1 : Int32) (l2 : Int32) (l3 : Int32) (S : sm_t) : sm_P (sm_jL N) k2_weighFlight [.ref 18, .int l1, .int l2, .int l3] (sm_m N S) (x2_weighFlight F l1 l2 l3 S) := by
  show sm_S (sm_jL N) k2_weighFlight 0 0 0 [some (.ref 18), some (.int l1), some (.int l2), some (.int l3), none, none, none] [] (sm_m N S) (x2_weighFlight F l1 l2 l3 S)
  unfold x2_weighFlight
  refine sd_aload_n (pc := 0) d2_weighFlight_0 rfl ?_
  refine sd_getR (pc := 1) 40 (show sm_sq 18 = some (.inr 1) from rfl) rfl fl2_32 rfl d2_weighFlight_1 ?_
  refine sd_lconst (pc := 4) 0 d2_weighFlight_4 rfl ?_
  refine sd_cSV (k2 := kA_fillJ) (As := [.ref 40, .long 0]) (rest := []) (pc := 5) 97 d2_weighFlight_5 ml2_97 (msA_fillJ) (meA_fillJ) ⟨rfl, rfl⟩ ⟨Nat.le_of_ble_eq_true rfl, Nat.le_of_ble_eq_true rfl⟩ (Nat.le_of_ble_eq_true rfl) (Nat.le_of_ble_eq_true rfl) rfl (Nat.zero_le _) (Nat.zero_le _) rfl (sA_fillJ F 40 0 S) (fun S => ?_)
  refine sd_aload_n (pc := 8) d2_weighFlight_8 rfl ?_
  refine sd_getR (pc := 9) 41 (show sm_sq 18 = some (.inr 1) from rfl) rfl fl2_36 rfl d2_weighFlight_9 ?_
  refine sd_lconst (pc := 12) 0 d2_weighFlight_12 rfl ?_
  refine sd_cSV (k2 := kA_fillJ) (As := [.ref 41, .long 0]) (rest := []) (pc := 13) 97 d2_weighFlight_13 ml2_97 (msA_fillJ) (meA_fillJ) ⟨rfl, rfl⟩ ⟨Nat.le_of_ble_eq_true rfl, Nat.le_of_ble_eq_true rfl⟩ (Nat.le_of_ble_eq_true rfl) (Nat.le_of_ble_eq_true rfl) rfl (Nat.zero_le _) (Nat.zero_le _) rfl (sA_fillJ F 41 0 S) (fun S => ?_)
  refine sd_aload_n (pc := 16) d2_weighFlight_16 rfl ?_
  refine sd_getR (pc := 17) (S.2.2.1) (show sm_sq 18 = some (.inr 1) from rfl) rfl fl2_43 rfl d2_weighFlight_17 ?_
  refine sd_nr (fun a3 => ?_)
  refine sd_lconst (pc := 20) 0 d2_weighFlight_20 rfl ?_
  refine sd_cSV (k2 := kA_fillJ) (As := [.ref a3, .long 0]) (rest := []) (pc := 21) 97 d2_weighFlight_21 ml2_97 (msA_fillJ) (meA_fillJ) ⟨rfl, rfl⟩ ⟨Nat.le_of_ble_eq_true rfl, Nat.le_of_ble_eq_true rfl⟩ (Nat.le_of_ble_eq_true rfl) (Nat.le_of_ble_eq_true rfl) rfl (Nat.zero_le _) (Nat.zero_le _) rfl (sA_fillJ F a3 0 S) (fun S => ?_)
  refine sd_aload_n (pc := 24) d2_weighFlight_24 rfl ?_
  refine sd_getR (pc := 25) (S.2.2.1) (show sm_sq 18 = some (.inr 1) from rfl) rfl fl2_43 rfl d2_weighFlight_25 ?_
  refine sd_nr (fun a5 => ?_)
  refine sd_aload_n (pc := 28) d2_weighFlight_28 rfl ?_
  refine sd_getR (pc := 29) 19 (show sm_sq 18 = some (.inr 1) from rfl) rfl fl2_12 rfl d2_weighFlight_29 ?_
  refine sd_getI (pc := 32) (show sm_sq 19 = some (.inr 2) from rfl) rfl fl2_103 d2_weighFlight_32 (fun v6 => ?_)
  refine sd_lconst (pc := 35) 1 d2_weighFlight_35 rfl ?_
  refine sd_an (fun n8 h7 => ?_)
  refine sd_last (pc := 36) h7 d2_weighFlight_36 (fun S => ?_)
  refine sd_aload_n (pc := 37) d2_weighFlight_37 rfl ?_
  refine sd_iload_n (pc := 38) d2_weighFlight_38 rfl ?_
  refine sd_cVV (k2 := k2_weighAtLast) (As := [.int l1]) (rest := []) (b := 18) (ci := 1) (pc := 39) 106 (show sm_sq 18 = some (.inr 1) from rfl) (by decide) rfl d2_weighFlight_39 ml2_106 (ms2_weighAtLast).1 (ms2_weighAtLast).2 (me2_weighAtLast) ⟨rfl, rfl⟩ ⟨Nat.le_of_ble_eq_true rfl, Nat.le_of_ble_eq_true rfl⟩ (Nat.le_of_ble_eq_true rfl) (Nat.le_of_ble_eq_true rfl) rfl (Nat.zero_le _) (Nat.zero_le _) rfl (s2_weighAtLast F l1 S) (fun S => ?_)
  refine sd_lconst (pc := 42) 0 d2_weighFlight_42 rfl ?_
  refine sd_lstore (lf2 := [some (.ref 18), some (.int l1), some (.int l2), some (.int l3), some (.long 0), none, none]) (pc := 43) d2_weighFlight_43 (Nat.le_of_ble_eq_true rfl) rfl ?_
  refine sd_iconst (pc := 45) 0 d2_weighFlight_45 ci_0 ?_
  refine sd_istore (lf2 := [some (.ref 18), some (.int l1), some (.int l2), some (.int l3), some (.long 0), none, some (.int 0)]) (pc := 46) d2_weighFlight_46 (Nat.le_of_ble_eq_true rfl) rfl ?_
  exact s2_weighFlight_48 F F l1 l2 l3 0 0 S
set_option maxHeartbeats 4000000 in
set_option maxRecDepth 20000 in
theorem s2_weighText_97 {N : Nat} (F : Nat) (c5 : Nat → Int32 → Int64 → Int32 → sm_t → Option (Int64 × sm_t)) (hc5 : ∀ (l1 : Nat) (l2 : Int32) (l3 : Int64) (l5 : Int32) (S : sm_t), sm_S (sm_jL N) k2_weighText 0 0 5 [some (.ref 18), some (.ref l1), some (.int l2), some (.long l3), none, some (.int l5), none, none, none, none] [] (sm_m N S) (c5 l1 l2 l3 l5 S)) (l1 : Nat) (l2 : Int32) (l3 : Int64) (l5 : Int32) (l6 : Int64) (S : sm_t) : sm_S (sm_jL N) k2_weighText 0 0 97 [some (.ref 18), some (.ref l1), some (.int l2), some (.long l3), none, some (.int l5), some (.long l6), none, none, none] [] (sm_m N S) (x2_weighText_97 F c5 l1 l2 l3 l5 l6 S) := by
  unfold x2_weighText_97
  refine sd_aload_n (pc := 97) d2_weighText_97 rfl ?_
  refine sd_getR (pc := 98) 40 (show sm_sq 18 = some (.inr 1) from rfl) rfl fl2_32 rfl d2_weighText_98 ?_
  refine sd_iload (pc := 101) d2_weighText_101 rfl ?_
  refine sd_lload (pc := 103) d2_weighText_103 rfl ?_
  refine sd_last (pc := 105) (show sm_sq 40 = some (.inl (.long, 120)) from rfl) d2_weighText_105 (fun S => ?_)
  refine sd_lload_n (pc := 106) d2_weighText_106 rfl ?_
  refine sd_lload (pc := 107) d2_weighText_107 rfl ?_
  refine sd_ladd (pc := 109) d2_weighText_109 ?_
  refine sd_nl (fun v1 => ?_)
  refine sd_lstore_n (lf2 := [some (.ref 18), some (.ref l1), some (.int l2), some (.long v1), none, some (.int l5), some (.long l6), none, none, none]) (pc := 110) d2_weighText_110 (Nat.le_of_ble_eq_true rfl) rfl ?_
  refine sd_iinc (lf2 := [some (.ref 18), some (.ref l1), some (.int l2), some (.long v1), none, some (.int (l5 + 1)), some (.long l6), none, none, none]) (pc := 111) d2_weighText_111 (Nat.le_of_ble_eq_true rfl) rfl ci_1 rfl ?_
  refine sd_goto (pc := 114) 5 d2_weighText_114 (by decide) ?_
  exact sd_fg [true, true, true, true, true, true, false, true, true, true] rfl (hc5 l1 l2 v1 (l5 + 1) S)
set_option maxHeartbeats 4000000 in
set_option maxRecDepth 20000 in
theorem s2_weighText_22 {N : Nat} (F : Nat) (c5 : Nat → Int32 → Int64 → Int32 → sm_t → Option (Int64 × sm_t)) (hc5 : ∀ (l1 : Nat) (l2 : Int32) (l3 : Int64) (l5 : Int32) (S : sm_t), sm_S (sm_jL N) k2_weighText 0 0 5 [some (.ref 18), some (.ref l1), some (.int l2), some (.long l3), none, some (.int l5), none, none, none, none] [] (sm_m N S) (c5 l1 l2 l3 l5 S)) : ∀ (f : Nat) (l1 : Nat) (l2 : Int32) (l3 : Int64) (l5 : Int32) (l6 : Int64) (l8 : Int32) (S : sm_t), sm_S (sm_jL N) k2_weighText 0 0 22 [some (.ref 18), some (.ref l1), some (.int l2), some (.long l3), none, some (.int l5), some (.long l6), none, some (.int l8), none] [] (sm_m N S) (x2_weighText_22 F c5 f l1 l2 l3 l5 l6 l8 S) := by
  intro f
  induction f with
  | zero =>
    intro l1 l2 l3 l5 l6 l8 S
    exact sd_none
  | succ f ih =>
    intro l1 l2 l3 l5 l6 l8 S
    rw [x2_weighText_22]
    refine sd_iload (pc := 22) d2_weighText_22 rfl ?_
    refine sd_aload_n (pc := 24) d2_weighText_24 rfl ?_
    refine sd_getR (pc := 25) 22 (show sm_sq 18 = some (.inr 1) from rfl) rfl fl2_21 rfl d2_weighText_25 ?_
    refine sd_getI (pc := 28) (show sm_sq 22 = some (.inr 0) from rfl) rfl fl2_82 d2_weighText_28 (fun v1 => ?_)
    refine sd_ic_ge (pc := 31) 97 d2_weighText_31 (by decide) (fun _ => ?_) (fun _ => ?_)
    · exact sd_fg [true, true, true, true, true, true, true, true, false, true] rfl (s2_weighText_97 F _ hc5 l1 l2 l3 l5 l6 S)
    · refine sd_lload (pc := 34) d2_weighText_34 rfl ?_
      refine sd_lconst (pc := 36) 0 d2_weighText_36 rfl ?_
      refine sd_lc_eq (pc := 37) 97 d2_weighText_37 d2_weighText_38 (by decide) (fun _ => ?_) (fun _ => ?_)
      · exact sd_fg [true, true, true, true, true, true, true, true, false, true] rfl (s2_weighText_97 F _ hc5 l1 l2 l3 l5 l6 S)
      · refine sd_aload_n (pc := 41) d2_weighText_41 rfl ?_
        refine sd_iload (pc := 42) d2_weighText_42 rfl ?_
        refine sd_iload_n (pc := 44) d2_weighText_44 rfl ?_
        refine sd_cVI (k2 := k2_weighsIn) (As := [.int l8, .int l2]) (rest := []) (b := 18) (ci := 1) (pc := 45) 85 (show sm_sq 18 = some (.inr 1) from rfl) (by decide) rfl d2_weighText_45 ml2_85 (ms2_weighsIn).1 (ms2_weighsIn).2 (me2_weighsIn) ⟨rfl, rfl⟩ ⟨Nat.le_of_ble_eq_true rfl, Nat.le_of_ble_eq_true rfl⟩ (Nat.le_of_ble_eq_true rfl) (Nat.le_of_ble_eq_true rfl) (Or.inr rfl) (Nat.zero_le _) (Nat.zero_le _) rfl (s2_weighsIn F l8 l2 S) (fun v2 S => ?_)
        refine sd_if_eq (pc := 48) 91 d2_weighText_48 (by decide) (fun _ => ?_) (fun _ => ?_)
        · refine sd_iinc (lf2 := [some (.ref 18), some (.ref l1), some (.int l2), some (.long l3), none, some (.int l5), some (.long l6), none, some (.int (l8 + 1)), none]) (pc := 91) d2_weighText_91 (Nat.le_of_ble_eq_true rfl) rfl ci_1 rfl ?_
          refine sd_goto (pc := 94) 22 d2_weighText_94 (by decide) ?_
          exact ih l1 l2 l3 l5 l6 (l8 + 1) S
        · refine sd_aload_n (pc := 51) d2_weighText_51 rfl ?_
          refine sd_getR (pc := 52) 22 (show sm_sq 18 = some (.inr 1) from rfl) rfl fl2_21 rfl d2_weighText_52 ?_
          refine sd_getR (pc := 55) 23 (show sm_sq 22 = some (.inr 0) from rfl) rfl fl2_72 rfl d2_weighText_55 ?_
          refine sd_iload (pc := 58) d2_weighText_58 rfl ?_
          refine sd_aald (pc := 60) 6 (show sm_sq 23 = some (.inl (.object "TwoFliers$Sign", 12)) from rfl) rfl rfl (fun _ => rfl) (fun _ _ _ _ h => if_pos h) d2_weighText_60 (fun a3 => ?_)
          refine sd_astore (lf2 := [some (.ref 18), some (.ref l1), some (.int l2), some (.long l3), none, some (.int l5), some (.long l6), none, some (.int l8), some (.ref a3)]) (pc := 61) d2_weighText_61 (Nat.le_of_ble_eq_true rfl) rfl ?_
          refine sd_lload (pc := 63) d2_weighText_63 rfl ?_
          refine sd_aload (pc := 65) d2_weighText_65 rfl ?_
          refine sd_on (fun h4 => ?_)
          refine sd_getI (pc := 67) h4 rfl fl2_89 d2_weighText_67 (fun v5 => ?_)
          refine sd_iconst (pc := 70) 3 d2_weighText_70 ci_3 ?_
          refine sd_ic_ne (pc := 71) 80 d2_weighText_71 (by decide) (fun _ => ?_) (fun _ => ?_)
          · refine sd_ldc2 (pc := 74) cl2_92 d2_weighText_74 ?_
            refine sd_goto (pc := 77) 88 d2_weighText_77 (by decide) ?_
            refine sd_lmul (pc := 88) d2_weighText_88 ?_
            refine sd_nl (fun v6 => ?_)
            refine sd_lstore (lf2 := [some (.ref 18), some (.ref l1), some (.int l2), some (.long l3), none, some (.int l5), some (.long v6), none, some (.int l8), some (.ref a3)]) (pc := 89) d2_weighText_89 (Nat.le_of_ble_eq_true rfl) rfl ?_
            refine sd_iinc (lf2 := [some (.ref 18), some (.ref l1), some (.int l2), some (.long l3), none, some (.int l5), some (.long v6), none, some (.int (l8 + 1)), some (.ref a3)]) (pc := 91) d2_weighText_91 (Nat.le_of_ble_eq_true rfl) rfl ci_1 rfl ?_
            refine sd_goto (pc := 94) 22 d2_weighText_94 (by decide) ?_
            exact sd_fg [true, true, true, true, true, true, true, true, true, false] rfl (ih l1 l2 l3 l5 v6 (l8 + 1) S)
          · refine sd_aload (pc := 80) d2_weighText_80 rfl ?_
            refine sd_iload (pc := 82) d2_weighText_82 rfl ?_
            refine sd_cVI (k2 := k6_weight) (As := [.int l5]) (rest := [.long l6]) (b := a3) (ci := 5) (pc := 84) 94 h4 (by decide) rfl d2_weighText_84 ml2_94 (ms6_weight).1 (ms6_weight).2 (me6_weight) ⟨rfl, rfl⟩ ⟨Nat.le_of_ble_eq_true rfl, Nat.le_of_ble_eq_true rfl⟩ (Nat.le_of_ble_eq_true rfl) (Nat.le_of_ble_eq_true rfl) (Or.inl rfl) (Nat.zero_le _) (Nat.zero_le _) rfl (s6_weight F a3 l5 S) (fun v7 S => ?_)
            refine sd_i2l (pc := 87) d2_weighText_87 ?_
            refine sd_lmul (pc := 88) d2_weighText_88 ?_
            refine sd_nl (fun v8 => ?_)
            refine sd_lstore (lf2 := [some (.ref 18), some (.ref l1), some (.int l2), some (.long l3), none, some (.int l5), some (.long v8), none, some (.int l8), some (.ref a3)]) (pc := 89) d2_weighText_89 (Nat.le_of_ble_eq_true rfl) rfl ?_
            refine sd_iinc (lf2 := [some (.ref 18), some (.ref l1), some (.int l2), some (.long l3), none, some (.int l5), some (.long v8), none, some (.int (l8 + 1)), some (.ref a3)]) (pc := 91) d2_weighText_91 (Nat.le_of_ble_eq_true rfl) rfl ci_1 rfl ?_
            refine sd_goto (pc := 94) 22 d2_weighText_94 (by decide) ?_
            exact sd_fg [true, true, true, true, true, true, true, true, true, false] rfl (ih l1 l2 l3 l5 v8 (l8 + 1) S)
set_option maxHeartbeats 4000000 in
set_option maxRecDepth 20000 in
theorem s2_weighText_5 {N : Nat} (F : Nat) : ∀ (f : Nat) (l1 : Nat) (l2 : Int32) (l3 : Int64) (l5 : Int32) (S : sm_t), sm_S (sm_jL N) k2_weighText 0 0 5 [some (.ref 18), some (.ref l1), some (.int l2), some (.long l3), none, some (.int l5), none, none, none, none] [] (sm_m N S) (x2_weighText_5 F f l1 l2 l3 l5 S) := by
  intro f
  induction f with
  | zero =>
    intro l1 l2 l3 l5 S
    exact sd_none
  | succ f ih =>
    intro l1 l2 l3 l5 S
    rw [x2_weighText_5]
    refine sd_iload (pc := 5) d2_weighText_5 rfl ?_
    refine sd_bipush (pc := 7) 120 d2_weighText_7 cb_120 ?_
    refine sd_ic_ge (pc := 9) 117 d2_weighText_9 (by decide) (fun _ => ?_) (fun _ => ?_)
    · refine sd_lload_n (pc := 117) d2_weighText_117 rfl ?_
      exact sd_lret (pc := 118) d2_weighText_118 (Nat.zero_le _) (Nat.zero_le _)
    · refine sd_aload_n (pc := 12) d2_weighText_12 rfl ?_
      refine sd_iload (pc := 13) d2_weighText_13 rfl ?_
      refine sd_an (fun n2 h1 => ?_)
      refine sd_iald (pc := 15) h1 d2_weighText_15 (fun v3 => ?_)
      refine sd_i2l (pc := 16) d2_weighText_16 ?_
      refine sd_nl (fun v4 => ?_)
      refine sd_lstore (lf2 := [some (.ref 18), some (.ref l1), some (.int l2), some (.long l3), none, some (.int l5), some (.long v4), none, none, none]) (pc := 17) d2_weighText_17 (Nat.le_of_ble_eq_true rfl) rfl ?_
      refine sd_iconst (pc := 19) 0 d2_weighText_19 ci_0 ?_
      refine sd_istore (lf2 := [some (.ref 18), some (.ref l1), some (.int l2), some (.long l3), none, some (.int l5), some (.long v4), none, some (.int 0), none]) (pc := 20) d2_weighText_20 (Nat.le_of_ble_eq_true rfl) rfl ?_
      exact s2_weighText_22 F _ ih F l1 l2 l3 l5 v4 0 S
set_option maxHeartbeats 4000000 in
set_option maxRecDepth 20000 in
theorem s2_weighText {N : Nat} (F : Nat) (l1 : Nat) (l2 : Int32) (S : sm_t) : sm_P (sm_jL N) k2_weighText [.ref 18, .ref l1, .int l2] (sm_m N S) (x2_weighText F l1 l2 S) := by
  show sm_S (sm_jL N) k2_weighText 0 0 0 [some (.ref 18), some (.ref l1), some (.int l2), none, none, none, none, none, none, none] [] (sm_m N S) (x2_weighText F l1 l2 S)
  unfold x2_weighText
  refine sd_lconst (pc := 0) 0 d2_weighText_0 rfl ?_
  refine sd_lstore_n (lf2 := [some (.ref 18), some (.ref l1), some (.int l2), some (.long 0), none, none, none, none, none, none]) (pc := 1) d2_weighText_1 (Nat.le_of_ble_eq_true rfl) rfl ?_
  refine sd_iconst (pc := 2) 0 d2_weighText_2 ci_0 ?_
  refine sd_istore (lf2 := [some (.ref 18), some (.ref l1), some (.int l2), some (.long 0), none, some (.int 0), none, none, none, none]) (pc := 3) d2_weighText_3 (Nat.le_of_ble_eq_true rfl) rfl ?_
  exact s2_weighText_5 F F l1 l2 0 0 S
set_option maxHeartbeats 4000000 in
set_option maxRecDepth 20000 in
theorem s2_weigh {N : Nat} (F : Nat) (l1 : Int32) (l2 : Int32) (S : sm_t) : sm_P (sm_jL N) k2_weigh [.ref 18, .int l1, .int l2] (sm_m N S) (x2_weigh F l1 l2 S) := by
  show sm_S (sm_jL N) k2_weigh 0 0 0 [some (.ref 18), some (.int l1), some (.int l2)] [] (sm_m N S) (x2_weigh F l1 l2 S)
  unfold x2_weigh
  refine sd_aload_n (pc := 0) d2_weigh_0 rfl ?_
  refine sd_iload_n (pc := 1) d2_weigh_1 rfl ?_
  refine sd_if_ne (pc := 2) 17 d2_weigh_2 (by decide) (fun _ => ?_) (fun _ => ?_)
  · refine sd_aload_n (pc := 5) d2_weigh_5 rfl ?_
    refine sd_iload_n (pc := 6) d2_weigh_6 rfl ?_
    refine sd_bipush (pc := 7) (-9) d2_weigh_7 cb_m9 ?_
    refine sd_bipush (pc := 9) (-9) d2_weigh_9 cb_m9 ?_
    refine sd_cVL (k2 := k2_weighFlight) (As := [.int l2, .int (-9), .int (-9)]) (rest := [.ref 18]) (b := 18) (ci := 1) (pc := 11) 52 (show sm_sq 18 = some (.inr 1) from rfl) (by decide) rfl d2_weigh_11 ml2_52 (ms2_weighFlight).1 (ms2_weighFlight).2 (me2_weighFlight) ⟨rfl, rfl⟩ ⟨Nat.le_of_ble_eq_true rfl, Nat.le_of_ble_eq_true rfl⟩ (Nat.le_of_ble_eq_true rfl) (Nat.le_of_ble_eq_true rfl) rfl (Nat.zero_le _) (Nat.zero_le _) rfl (s2_weighFlight F l2 (-9) (-9) S) (fun v1 S => ?_)
    refine sd_goto (pc := 14) 30 d2_weigh_14 (by decide) ?_
    refine sd_putL (pc := 30) (show sm_sq 18 = some (.inr 1) from rfl) rfl fl2_39 rfl d2_weigh_30 (fun S => ?_)
    refine sd_aload_n (pc := 33) d2_weigh_33 rfl ?_
    refine sd_getL (pc := 34) (show sm_sq 18 = some (.inr 1) from rfl) rfl fl2_39 d2_weigh_34 (fun v2 => ?_)
    exact sd_lret (pc := 37) d2_weigh_37 (Nat.zero_le _) (Nat.zero_le _)
  · refine sd_aload_n (pc := 17) d2_weigh_17 rfl ?_
    refine sd_aload_n (pc := 18) d2_weigh_18 rfl ?_
    refine sd_getR (pc := 19) 36 (show sm_sq 18 = some (.inr 1) from rfl) rfl fl2_29 rfl d2_weigh_19 ?_
    refine sd_iload_n (pc := 22) d2_weigh_22 rfl ?_
    refine sd_iconst (pc := 23) 1 d2_weigh_23 ci_1 ?_
    refine sd_isub (pc := 24) d2_weigh_24 ?_
    refine sd_aald (pc := 25) 4 (show sm_sq 36 = some (.inl (.array .int, 3)) from rfl) rfl rfl (fun _ => rfl) (fun _ _ _ _ h => if_pos h) d2_weigh_25 (fun a3 => ?_)
    refine sd_iload_n (pc := 26) d2_weigh_26 rfl ?_
    refine sd_cVL (k2 := k2_weighText) (As := [.ref a3, .int l2]) (rest := [.ref 18]) (b := 18) (ci := 1) (pc := 27) 56 (show sm_sq 18 = some (.inr 1) from rfl) (by decide) rfl d2_weigh_27 ml2_56 (ms2_weighText).1 (ms2_weighText).2 (me2_weighText) ⟨rfl, rfl⟩ ⟨Nat.le_of_ble_eq_true rfl, Nat.le_of_ble_eq_true rfl⟩ (Nat.le_of_ble_eq_true rfl) (Nat.le_of_ble_eq_true rfl) rfl (Nat.zero_le _) (Nat.zero_le _) rfl (s2_weighText F a3 l2 S) (fun v4 S => ?_)
    refine sd_putL (pc := 30) (show sm_sq 18 = some (.inr 1) from rfl) rfl fl2_39 rfl d2_weigh_30 (fun S => ?_)
    refine sd_aload_n (pc := 33) d2_weigh_33 rfl ?_
    refine sd_getL (pc := 34) (show sm_sq 18 = some (.inr 1) from rfl) rfl fl2_39 d2_weigh_34 (fun v5 => ?_)
    exact sd_lret (pc := 37) d2_weigh_37 (Nat.zero_le _) (Nat.zero_le _)
set_option maxHeartbeats 4000000 in
set_option maxRecDepth 20000 in
theorem s7_weighed {N : Nat} (F : Nat) (l1 : Int32) (S : sm_t) : sm_P (sm_jI N) k7_weighed [.ref 3, .int l1] (sm_m N S) (x7_weighed F l1 S) := by
  show sm_S (sm_jI N) k7_weighed 0 0 0 [some (.ref 3), some (.int l1), none] [] (sm_m N S) (x7_weighed F l1 S)
  unfold x7_weighed
  refine sd_aload_n (pc := 0) d7_weighed_0 rfl ?_
  refine sd_iload_n (pc := 1) d7_weighed_1 rfl ?_
  refine sd_bipush (pc := 2) 6 d7_weighed_2 cb_6 ?_
  refine sd_cVI (k2 := k7_barred) (As := [.int l1, .int 6]) (rest := []) (b := 3) (ci := 6) (pc := 4) 241 (show sm_sq 3 = some (.inr 6) from rfl) (by decide) rfl d7_weighed_4 ml7_241 (ms7_barred).1 (ms7_barred).2 (me7_barred) ⟨rfl, rfl⟩ ⟨Nat.le_of_ble_eq_true rfl, Nat.le_of_ble_eq_true rfl⟩ (Nat.le_of_ble_eq_true rfl) (Nat.le_of_ble_eq_true rfl) (Or.inl rfl) (Nat.zero_le _) (Nat.zero_le _) rfl (s7_barred F l1 6 S) (fun v1 S => ?_)
  refine sd_istore_n (lf2 := [some (.ref 3), some (.int l1), some (.int v1)]) (pc := 7) d7_weighed_7 (Nat.le_of_ble_eq_true rfl) rfl ?_
  refine sd_iload_n (pc := 8) d7_weighed_8 rfl ?_
  refine sd_if_eq (pc := 9) 14 d7_weighed_9 (by decide) (fun _ => ?_) (fun _ => ?_)
  · refine sd_aload_n (pc := 14) d7_weighed_14 rfl ?_
    refine sd_getR (pc := 15) 18 (show sm_sq 3 = some (.inr 6) from rfl) rfl fl7_29 rfl d7_weighed_15 ?_
    refine sd_iload_n (pc := 18) d7_weighed_18 rfl ?_
    refine sd_bipush (pc := 19) (-9) d7_weighed_19 cb_m9 ?_
    refine sd_cVL (k2 := k2_weigh) (As := [.int l1, .int (-9)]) (rest := []) (b := 18) (ci := 1) (pc := 21) 244 (show sm_sq 18 = some (.inr 1) from rfl) (by decide) rfl d7_weighed_21 ml7_244 (ms2_weigh).1 (ms2_weigh).2 (me2_weigh) ⟨rfl, rfl⟩ ⟨Nat.le_of_ble_eq_true rfl, Nat.le_of_ble_eq_true rfl⟩ (Nat.le_of_ble_eq_true rfl) (Nat.le_of_ble_eq_true rfl) rfl (Nat.zero_le _) (Nat.zero_le _) rfl (s2_weigh F l1 (-9) S) (fun v2 S => ?_)
    refine sd_lconst (pc := 24) 0 d7_weighed_24 rfl ?_
    refine sd_lc_le (pc := 25) 33 d7_weighed_25 d7_weighed_26 (by decide) (fun _ => ?_) (fun _ => ?_)
    · refine sd_aload_n (pc := 33) d7_weighed_33 rfl ?_
      refine sd_iconst (pc := 34) 4 d7_weighed_34 ci_4 ?_
      refine sd_cVI (k2 := k7_found) (As := [.int 4]) (rest := []) (b := 3) (ci := 6) (pc := 35) 92 (show sm_sq 3 = some (.inr 6) from rfl) (by decide) rfl d7_weighed_35 ml7_92 (ms7_found).1 (ms7_found).2 (me7_found) ⟨rfl, rfl⟩ ⟨Nat.le_of_ble_eq_true rfl, Nat.le_of_ble_eq_true rfl⟩ (Nat.le_of_ble_eq_true rfl) (Nat.le_of_ble_eq_true rfl) (Or.inl rfl) (Nat.zero_le _) (Nat.zero_le _) rfl (s7_found F 4 S) (fun v3 S => ?_)
      exact sd_iret (pc := 38) d7_weighed_38 rfl (Nat.zero_le _) (Nat.zero_le _)
    · refine sd_iconst (pc := 29) 0 d7_weighed_29 ci_0 ?_
      refine sd_goto (pc := 30) 38 d7_weighed_30 (by decide) ?_
      exact sd_iret (pc := 38) d7_weighed_38 rfl (Nat.zero_le _) (Nat.zero_le _)
  · refine sd_iload_n (pc := 12) d7_weighed_12 rfl ?_
    exact sd_iret (pc := 13) d7_weighed_13 rfl (Nat.zero_le _) (Nat.zero_le _)
set_option maxHeartbeats 4000000 in
set_option maxRecDepth 20000 in
theorem s7_greatestDivisor_9 {N : Nat} (F : Nat) : ∀ (f : Nat) (l4 : Int64) (l6 : Int64) (l8 : Int32) (S : sm_t), sm_S (sm_jL N) k7_greatestDivisor 0 0 9 [none, none, none, none, some (.long l4), none, some (.long l6), none, some (.int l8), none, none] [] (sm_m N S) (x7_greatestDivisor_9 F f l4 l6 l8 S) := by
  intro f
  induction f with
  | zero =>
    intro l4 l6 l8 S
    exact sd_none
  | succ f ih =>
    intro l4 l6 l8 S
    rw [x7_greatestDivisor_9]
    refine sd_iload (pc := 9) d7_greatestDivisor_9 rfl ?_
    refine sd_bipush (pc := 11) 100 d7_greatestDivisor_11 cb_100 ?_
    refine sd_ic_ge (pc := 13) 44 d7_greatestDivisor_13 (by decide) (fun _ => ?_) (fun _ => ?_)
    · refine sd_lload (pc := 44) d7_greatestDivisor_44 rfl ?_
      exact sd_lret (pc := 46) d7_greatestDivisor_46 (Nat.zero_le _) (Nat.zero_le _)
    · refine sd_lload (pc := 16) d7_greatestDivisor_16 rfl ?_
      refine sd_lconst (pc := 18) 0 d7_greatestDivisor_18 rfl ?_
      refine sd_lc_eq (pc := 19) 44 d7_greatestDivisor_19 d7_greatestDivisor_20 (by decide) (fun _ => ?_) (fun _ => ?_)
      · refine sd_lload (pc := 44) d7_greatestDivisor_44 rfl ?_
        exact sd_lret (pc := 46) d7_greatestDivisor_46 (Nat.zero_le _) (Nat.zero_le _)
      · refine sd_lload (pc := 23) d7_greatestDivisor_23 rfl ?_
        refine sd_lload (pc := 25) d7_greatestDivisor_25 rfl ?_
        refine sd_ite (fun _ => sd_none) (fun h1 => ?_)
        refine sd_lrem (pc := 27) d7_greatestDivisor_27 h1 ?_
        refine sd_nl (fun v2 => ?_)
        refine sd_lstore (lf2 := [none, none, none, none, some (.long l4), none, some (.long l6), none, some (.int l8), some (.long v2), none]) (pc := 28) d7_greatestDivisor_28 (Nat.le_of_ble_eq_true rfl) rfl ?_
        refine sd_lload (pc := 30) d7_greatestDivisor_30 rfl ?_
        refine sd_lstore (lf2 := [none, none, none, none, some (.long l6), none, some (.long l6), none, some (.int l8), some (.long v2), none]) (pc := 32) d7_greatestDivisor_32 (Nat.le_of_ble_eq_true rfl) rfl ?_
        refine sd_lload (pc := 34) d7_greatestDivisor_34 rfl ?_
        refine sd_lstore (lf2 := [none, none, none, none, some (.long l6), none, some (.long v2), none, some (.int l8), some (.long v2), none]) (pc := 36) d7_greatestDivisor_36 (Nat.le_of_ble_eq_true rfl) rfl ?_
        refine sd_iinc (lf2 := [none, none, none, none, some (.long l6), none, some (.long v2), none, some (.int (l8 + 1)), some (.long v2), none]) (pc := 38) d7_greatestDivisor_38 (Nat.le_of_ble_eq_true rfl) rfl ci_1 rfl ?_
        refine sd_goto (pc := 41) 9 d7_greatestDivisor_41 (by decide) ?_
        exact sd_fg [true, true, true, true, true, true, true, true, true, false, true] rfl (ih l6 v2 (l8 + 1) S)
set_option maxHeartbeats 4000000 in
set_option maxRecDepth 20000 in
theorem s7_greatestDivisor {N : Nat} (F : Nat) (l0 : Int64) (l2 : Int64) (S : sm_t) : sm_P (sm_jL N) k7_greatestDivisor [.long l0, .long l2] (sm_m N S) (x7_greatestDivisor F l0 l2 S) := by
  show sm_S (sm_jL N) k7_greatestDivisor 0 0 0 [some (.long l0), none, some (.long l2), none, none, none, none, none, none, none, none] [] (sm_m N S) (x7_greatestDivisor F l0 l2 S)
  unfold x7_greatestDivisor
  refine sd_lload_n (pc := 0) d7_greatestDivisor_0 rfl ?_
  refine sd_lstore (lf2 := [some (.long l0), none, some (.long l2), none, some (.long l0), none, none, none, none, none, none]) (pc := 1) d7_greatestDivisor_1 (Nat.le_of_ble_eq_true rfl) rfl ?_
  refine sd_lload_n (pc := 3) d7_greatestDivisor_3 rfl ?_
  refine sd_lstore (lf2 := [some (.long l0), none, some (.long l2), none, some (.long l0), none, some (.long l2), none, none, none, none]) (pc := 4) d7_greatestDivisor_4 (Nat.le_of_ble_eq_true rfl) rfl ?_
  refine sd_iconst (pc := 6) 0 d7_greatestDivisor_6 ci_0 ?_
  refine sd_istore (lf2 := [some (.long l0), none, some (.long l2), none, some (.long l0), none, some (.long l2), none, some (.int 0), none, none]) (pc := 7) d7_greatestDivisor_7 (Nat.le_of_ble_eq_true rfl) rfl ?_
  exact sd_fg [false, true, false, true, true, true, true, true, true, true, true] rfl (s7_greatestDivisor_9 F F l0 l2 0 S)
set_option maxHeartbeats 4000000 in
set_option maxRecDepth 20000 in
theorem s7_fraction {N : Nat} (F : Nat) (l1 : Int64) (l3 : Int64) (S : sm_t) : sm_P (sm_jV N) k7_fraction [.ref 3, .long l1, .long l3] (sm_m N S) (x7_fraction F l1 l3 S) := by
  show sm_S (sm_jV N) k7_fraction 0 0 0 [some (.ref 3), some (.long l1), none, some (.long l3), none, none, none] [] (sm_m N S) (x7_fraction F l1 l3 S)
  unfold x7_fraction
  refine sd_lload_n (pc := 0) d7_fraction_0 rfl ?_
  refine sd_mabs_long (pc := 1) 351 sl7_351 (Nat.le_of_ble_eq_true rfl) (Nat.le_of_ble_eq_true rfl) (Nat.zero_le _) (Nat.zero_le _) d7_fraction_1 ?_
  refine sd_lload_n (pc := 4) d7_fraction_4 rfl ?_
  refine sd_cSL (k2 := k7_greatestDivisor) (As := [.long (sm_al l1), .long l3]) (rest := []) (pc := 5) 357 d7_fraction_5 ml7_357 (ms7_greatestDivisor) (me7_greatestDivisor) ⟨rfl, rfl⟩ ⟨Nat.le_of_ble_eq_true rfl, Nat.le_of_ble_eq_true rfl⟩ (Nat.le_of_ble_eq_true rfl) (Nat.le_of_ble_eq_true rfl) rfl (Nat.zero_le _) (Nat.zero_le _) rfl (s7_greatestDivisor F (sm_al l1) l3 S) (fun v1 S => ?_)
  refine sd_lstore (lf2 := [some (.ref 3), some (.long l1), none, some (.long l3), none, some (.long v1), none]) (pc := 8) d7_fraction_8 (Nat.le_of_ble_eq_true rfl) rfl ?_
  refine sd_lload (pc := 10) d7_fraction_10 rfl ?_
  refine sd_lconst (pc := 12) 0 d7_fraction_12 rfl ?_
  refine sd_lc_le (pc := 13) 33 d7_fraction_13 d7_fraction_14 (by decide) (fun _ => ?_) (fun _ => ?_)
  · exact sd_vret (pc := 33) d7_fraction_33 (Nat.zero_le _) (Nat.zero_le _)
  · refine sd_aload_n (pc := 17) d7_fraction_17 rfl ?_
    refine sd_lload_n (pc := 18) d7_fraction_18 rfl ?_
    refine sd_lload (pc := 19) d7_fraction_19 rfl ?_
    refine sd_ite (fun _ => sd_none) (fun h2 => ?_)
    refine sd_ldiv (pc := 21) d7_fraction_21 h2 ?_
    refine sd_putL (pc := 22) (show sm_sq 3 = some (.inr 6) from rfl) rfl fl7_69 rfl d7_fraction_22 (fun S => ?_)
    refine sd_aload_n (pc := 25) d7_fraction_25 rfl ?_
    refine sd_lload_n (pc := 26) d7_fraction_26 rfl ?_
    refine sd_lload (pc := 27) d7_fraction_27 rfl ?_
    refine sd_ite (fun _ => sd_none) (fun h3 => ?_)
    refine sd_ldiv (pc := 29) d7_fraction_29 h3 ?_
    refine sd_putL (pc := 30) (show sm_sq 3 = some (.inr 6) from rfl) rfl fl7_73 rfl d7_fraction_30 (fun S => ?_)
    exact sd_vret (pc := 33) d7_fraction_33 (Nat.zero_le _) (Nat.zero_le _)
set_option maxHeartbeats 4000000 in
set_option maxRecDepth 20000 in
theorem s7_where {N : Nat} (F : Nat) (l1 : Int32) (l2 : Int32) (S : sm_t) : sm_P (sm_jI N) k7_where [.ref 3, .int l1, .int l2] (sm_m N S) (x7_where F l1 l2 S) := by
  show sm_S (sm_jI N) k7_where 0 0 0 [some (.ref 3), some (.int l1), some (.int l2), none] [] (sm_m N S) (x7_where F l1 l2 S)
  unfold x7_where
  refine sd_iload_n (pc := 0) d7_where_0 rfl ?_
  refine sd_cSI (k2 := k7_isStory) (As := [.int l1]) (rest := []) (pc := 1) 214 d7_where_1 ml7_214 (ms7_isStory) (me7_isStory) ⟨rfl, rfl⟩ ⟨Nat.le_of_ble_eq_true rfl, Nat.le_of_ble_eq_true rfl⟩ (Nat.le_of_ble_eq_true rfl) (Nat.le_of_ble_eq_true rfl) (Or.inr rfl) (Nat.zero_le _) (Nat.zero_le _) rfl (s7_isStory F l1 S) (fun v1 S => ?_)
  refine sd_if_eq (pc := 4) 14 d7_where_4 (by decide) (fun _ => ?_) (fun _ => ?_)
  · refine sd_iconst (pc := 14) (-1) d7_where_14 ci_m1 ?_
    exact sd_iret (pc := 15) d7_where_15 rfl (Nat.zero_le _) (Nat.zero_le _)
  · refine sd_iload_n (pc := 7) d7_where_7 rfl ?_
    refine sd_cSI (k2 := k1_isCell) (As := [.int l2]) (rest := []) (pc := 8) 120 d7_where_8 ml7_120 (ms1_isCell) (me1_isCell) ⟨rfl, rfl⟩ ⟨Nat.le_of_ble_eq_true rfl, Nat.le_of_ble_eq_true rfl⟩ (Nat.le_of_ble_eq_true rfl) (Nat.le_of_ble_eq_true rfl) (Or.inr rfl) (Nat.zero_le _) (Nat.zero_le _) rfl (s1_isCell F l2 S) (fun v2 S => ?_)
    refine sd_if_ne (pc := 11) 16 d7_where_11 (by decide) (fun _ => ?_) (fun _ => ?_)
    · refine sd_iconst (pc := 14) (-1) d7_where_14 ci_m1 ?_
      exact sd_iret (pc := 15) d7_where_15 rfl (Nat.zero_le _) (Nat.zero_le _)
    · refine sd_aload_n (pc := 16) d7_where_16 rfl ?_
      refine sd_iload_n (pc := 17) d7_where_17 rfl ?_
      refine sd_cVI (k2 := k7_weighed) (As := [.int l1]) (rest := []) (b := 3) (ci := 6) (pc := 18) 217 (show sm_sq 3 = some (.inr 6) from rfl) (by decide) rfl d7_where_18 ml7_217 (ms7_weighed).1 (ms7_weighed).2 (me7_weighed) ⟨rfl, rfl⟩ ⟨Nat.le_of_ble_eq_true rfl, Nat.le_of_ble_eq_true rfl⟩ (Nat.le_of_ble_eq_true rfl) (Nat.le_of_ble_eq_true rfl) (Or.inl rfl) (Nat.zero_le _) (Nat.zero_le _) rfl (s7_weighed F l1 S) (fun v3 S => ?_)
      refine sd_istore_n (lf2 := [some (.ref 3), some (.int l1), some (.int l2), some (.int v3)]) (pc := 21) d7_where_21 (Nat.le_of_ble_eq_true rfl) rfl ?_
      refine sd_iload_n (pc := 22) d7_where_22 rfl ?_
      refine sd_if_eq (pc := 23) 28 d7_where_23 (by decide) (fun _ => ?_) (fun _ => ?_)
      · refine sd_aload_n (pc := 28) d7_where_28 rfl ?_
        refine sd_aload_n (pc := 29) d7_where_29 rfl ?_
        refine sd_getR (pc := 30) 18 (show sm_sq 3 = some (.inr 6) from rfl) rfl fl7_29 rfl d7_where_30 ?_
        refine sd_getR (pc := 33) 40 (show sm_sq 18 = some (.inr 1) from rfl) rfl fl7_220 rfl d7_where_33 ?_
        refine sd_iload_n (pc := 36) d7_where_36 rfl ?_
        refine sd_lald (pc := 37) (show sm_sq 40 = some (.inl (.long, 120)) from rfl) d7_where_37 (fun v4 => ?_)
        refine sd_aload_n (pc := 38) d7_where_38 rfl ?_
        refine sd_getR (pc := 39) 18 (show sm_sq 3 = some (.inr 6) from rfl) rfl fl7_29 rfl d7_where_39 ?_
        refine sd_getL (pc := 42) (show sm_sq 18 = some (.inr 1) from rfl) rfl fl7_223 d7_where_42 (fun v5 => ?_)
        refine sd_cVV (k2 := k7_fraction) (As := [.long v4, .long v5]) (rest := []) (b := 3) (ci := 6) (pc := 45) 226 (show sm_sq 3 = some (.inr 6) from rfl) (by decide) rfl d7_where_45 ml7_226 (ms7_fraction).1 (ms7_fraction).2 (me7_fraction) ⟨rfl, rfl⟩ ⟨Nat.le_of_ble_eq_true rfl, Nat.le_of_ble_eq_true rfl⟩ (Nat.le_of_ble_eq_true rfl) (Nat.le_of_ble_eq_true rfl) rfl (Nat.zero_le _) (Nat.zero_le _) rfl (s7_fraction F v4 v5 S) (fun S => ?_)
        refine sd_iconst (pc := 48) 1 d7_where_48 ci_1 ?_
        exact sd_iret (pc := 49) d7_where_49 rfl (Nat.zero_le _) (Nat.zero_le _)
      · refine sd_iload_n (pc := 26) d7_where_26 rfl ?_
        exact sd_iret (pc := 27) d7_where_27 rfl (Nat.zero_le _) (Nat.zero_le _)
set_option maxHeartbeats 4000000 in
set_option maxRecDepth 20000 in
theorem s8_askedStory {N : Nat} (F : Nat) (l1 : Int32) (S : sm_t) : sm_P (sm_jI N) k8_askedStory [.ref 52, .int l1] (sm_m N S) (x8_askedStory F l1 S) := by
  show sm_S (sm_jI N) k8_askedStory 0 0 0 [some (.ref 52), some (.int l1)] [] (sm_m N S) (x8_askedStory F l1 S)
  unfold x8_askedStory
  refine sd_iload_n (pc := 0) d8_askedStory_0 rfl ?_
  refine sd_iconst (pc := 1) 0 d8_askedStory_1 ci_0 ?_
  refine sd_iconst (pc := 2) 3 d8_askedStory_2 ci_3 ?_
  refine sd_cSI (k2 := k8_in) (As := [.int l1, .int 0, .int 3]) (rest := []) (pc := 3) 80 d8_askedStory_3 ml8_80 (ms8_in) (me8_in) ⟨rfl, rfl⟩ ⟨Nat.le_of_ble_eq_true rfl, Nat.le_of_ble_eq_true rfl⟩ (Nat.le_of_ble_eq_true rfl) (Nat.le_of_ble_eq_true rfl) (Or.inr rfl) (Nat.zero_le _) (Nat.zero_le _) rfl (s8_in F l1 0 3 S) (fun v1 S => ?_)
  refine sd_if_ne (pc := 6) 13 d8_askedStory_6 (by decide) (fun _ => ?_) (fun _ => ?_)
  · refine sd_iconst (pc := 9) (-1) d8_askedStory_9 ci_m1 ?_
    refine sd_goto (pc := 10) 35 d8_askedStory_10 (by decide) ?_
    exact sd_iret (pc := 35) d8_askedStory_35 rfl (Nat.zero_le _) (Nat.zero_le _)
  · refine sd_iload_n (pc := 13) d8_askedStory_13 rfl ?_
    refine sd_if_le (pc := 14) 34 d8_askedStory_14 (by decide) (fun _ => ?_) (fun _ => ?_)
    · refine sd_iconst (pc := 34) 0 d8_askedStory_34 ci_0 ?_
      exact sd_iret (pc := 35) d8_askedStory_35 rfl (Nat.zero_le _) (Nat.zero_le _)
    · refine sd_aload_n (pc := 17) d8_askedStory_17 rfl ?_
      refine sd_getR (pc := 18) 60 (show sm_sq 52 = some (.inr 7) from rfl) rfl fl8_35 rfl d8_askedStory_18 ?_
      refine sd_iload_n (pc := 21) d8_askedStory_21 rfl ?_
      refine sd_zald (pc := 22) (show sm_sq 60 = some (.inl (.boolean, 4)) from rfl) d8_askedStory_22 (fun v2 => ?_)
      refine sd_if_ne (pc := 23) 34 d8_askedStory_23 (by decide) (fun _ => ?_) (fun _ => ?_)
      · refine sd_aload_n (pc := 26) d8_askedStory_26 rfl ?_
        refine sd_iconst (pc := 27) 1 d8_askedStory_27 ci_1 ?_
        refine sd_cVI (k2 := k8_meets) (As := [.int 1]) (rest := []) (b := 52) (ci := 7) (pc := 28) 88 (show sm_sq 52 = some (.inr 7) from rfl) (by decide) rfl d8_askedStory_28 ml8_88 (ms8_meets).1 (ms8_meets).2 (me8_meets) ⟨rfl, rfl⟩ ⟨Nat.le_of_ble_eq_true rfl, Nat.le_of_ble_eq_true rfl⟩ (Nat.le_of_ble_eq_true rfl) (Nat.le_of_ble_eq_true rfl) (Or.inl rfl) (Nat.zero_le _) (Nat.zero_le _) rfl (s8_meets F 1 S) (fun v3 S => ?_)
        refine sd_goto (pc := 31) 35 d8_askedStory_31 (by decide) ?_
        exact sd_iret (pc := 35) d8_askedStory_35 rfl (Nat.zero_le _) (Nat.zero_le _)
      · refine sd_iconst (pc := 34) 0 d8_askedStory_34 ci_0 ?_
        exact sd_iret (pc := 35) d8_askedStory_35 rfl (Nat.zero_le _) (Nat.zero_le _)
set_option maxHeartbeats 4000000 in
set_option maxRecDepth 20000 in
theorem s8_counts {N : Nat} (F : Nat) (l1 : Int32) (S : sm_t) : sm_P (sm_jI N) k8_counts [.ref 52, .int l1] (sm_m N S) (x8_counts F l1 S) := by
  show sm_S (sm_jI N) k8_counts 0 0 0 [some (.ref 52), some (.int l1)] [] (sm_m N S) (x8_counts F l1 S)
  unfold x8_counts
  refine sd_iload_n (pc := 0) d8_counts_0 rfl ?_
  refine sd_aload_n (pc := 1) d8_counts_1 rfl ?_
  refine sd_getI (pc := 2) (show sm_sq 52 = some (.inr 7) from rfl) rfl fl8_48 d8_counts_2 (fun v1 => ?_)
  refine sd_ic_eq (pc := 5) 30 d8_counts_5 (by decide) (fun _ => ?_) (fun _ => ?_)
  · refine sd_iconst (pc := 30) 0 d8_counts_30 ci_0 ?_
    exact sd_zret (pc := 31) d8_counts_31 (by decide) (Nat.zero_le _) (Nat.zero_le _)
  · refine sd_aload_n (pc := 8) d8_counts_8 rfl ?_
    refine sd_iload_n (pc := 9) d8_counts_9 rfl ?_
    refine sd_iconst (pc := 10) 4 d8_counts_10 ci_4 ?_
    refine sd_cVI (k2 := k8_tell) (As := [.int l1, .int 4]) (rest := []) (b := 52) (ci := 7) (pc := 11) 175 (show sm_sq 52 = some (.inr 7) from rfl) (by decide) rfl d8_counts_11 ml8_175 (ms8_tell).1 (ms8_tell).2 (me8_tell) ⟨rfl, rfl⟩ ⟨Nat.le_of_ble_eq_true rfl, Nat.le_of_ble_eq_true rfl⟩ (Nat.le_of_ble_eq_true rfl) (Nat.le_of_ble_eq_true rfl) (Or.inl rfl) (Nat.zero_le _) (Nat.zero_le _) rfl (s8_tell F l1 4 S) (fun v2 S => ?_)
    refine sd_if_ne (pc := 14) 30 d8_counts_14 (by decide) (fun _ => ?_) (fun _ => ?_)
    · refine sd_aload_n (pc := 17) d8_counts_17 rfl ?_
      refine sd_iload_n (pc := 18) d8_counts_18 rfl ?_
      refine sd_iconst (pc := 19) 0 d8_counts_19 ci_0 ?_
      refine sd_cVI (k2 := k8_tell) (As := [.int l1, .int 0]) (rest := []) (b := 52) (ci := 7) (pc := 20) 175 (show sm_sq 52 = some (.inr 7) from rfl) (by decide) rfl d8_counts_20 ml8_175 (ms8_tell).1 (ms8_tell).2 (me8_tell) ⟨rfl, rfl⟩ ⟨Nat.le_of_ble_eq_true rfl, Nat.le_of_ble_eq_true rfl⟩ (Nat.le_of_ble_eq_true rfl) (Nat.le_of_ble_eq_true rfl) (Or.inl rfl) (Nat.zero_le _) (Nat.zero_le _) rfl (s8_tell F l1 0 S) (fun v3 S => ?_)
      refine sd_if_eq (pc := 23) 30 d8_counts_23 (by decide) (fun _ => ?_) (fun _ => ?_)
      · refine sd_iconst (pc := 30) 0 d8_counts_30 ci_0 ?_
        exact sd_zret (pc := 31) d8_counts_31 (by decide) (Nat.zero_le _) (Nat.zero_le _)
      · refine sd_iconst (pc := 26) 1 d8_counts_26 ci_1 ?_
        refine sd_goto (pc := 27) 31 d8_counts_27 (by decide) ?_
        exact sd_zret (pc := 31) d8_counts_31 (by decide) (Nat.zero_le _) (Nat.zero_le _)
    · refine sd_iconst (pc := 30) 0 d8_counts_30 ci_0 ?_
      exact sd_zret (pc := 31) d8_counts_31 (by decide) (Nat.zero_le _) (Nat.zero_le _)
set_option maxHeartbeats 4000000 in
set_option maxRecDepth 20000 in
theorem s8_counted_4 {N : Nat} (F : Nat) : ∀ (f : Nat) (l1 : Int32) (l2 : Int32) (S : sm_t), sm_S (sm_jI N) k8_counted 0 0 4 [some (.ref 52), some (.int l1), some (.int l2)] [] (sm_m N S) (x8_counted_4 F f l1 l2 S) := by
  intro f
  induction f with
  | zero =>
    intro l1 l2 S
    exact sd_none
  | succ f ih =>
    intro l1 l2 S
    rw [x8_counted_4]
    refine sd_iload_n (pc := 4) d8_counted_4 rfl ?_
    refine sd_aload_n (pc := 5) d8_counted_5 rfl ?_
    refine sd_getI (pc := 6) (show sm_sq 52 = some (.inr 7) from rfl) rfl fl8_161 d8_counted_6 (fun v1 => ?_)
    refine sd_ic_ge (pc := 9) 34 d8_counted_9 (by decide) (fun _ => ?_) (fun _ => ?_)
    · refine sd_iload_n (pc := 34) d8_counted_34 rfl ?_
      exact sd_iret (pc := 35) d8_counted_35 rfl (Nat.zero_le _) (Nat.zero_le _)
    · refine sd_iload_n (pc := 12) d8_counted_12 rfl ?_
      refine sd_aload_n (pc := 13) d8_counted_13 rfl ?_
      refine sd_iload_n (pc := 14) d8_counted_14 rfl ?_
      refine sd_cVI (k2 := k8_counts) (As := [.int l2]) (rest := [.int l1]) (b := 52) (ci := 7) (pc := 15) 196 (show sm_sq 52 = some (.inr 7) from rfl) (by decide) rfl d8_counted_15 ml8_196 (ms8_counts).1 (ms8_counts).2 (me8_counts) ⟨rfl, rfl⟩ ⟨Nat.le_of_ble_eq_true rfl, Nat.le_of_ble_eq_true rfl⟩ (Nat.le_of_ble_eq_true rfl) (Nat.le_of_ble_eq_true rfl) (Or.inr rfl) (Nat.zero_le _) (Nat.zero_le _) rfl (s8_counts F l2 S) (fun v2 S => ?_)
      refine sd_if_eq (pc := 18) 25 d8_counted_18 (by decide) (fun _ => ?_) (fun _ => ?_)
      · refine sd_iconst (pc := 25) 0 d8_counted_25 ci_0 ?_
        refine sd_iadd (pc := 26) d8_counted_26 ?_
        refine sd_ni (fun v3 => ?_)
        refine sd_istore_n (lf2 := [some (.ref 52), some (.int v3), some (.int l2)]) (pc := 27) d8_counted_27 (Nat.le_of_ble_eq_true rfl) rfl ?_
        refine sd_iinc (lf2 := [some (.ref 52), some (.int v3), some (.int (l2 + 1))]) (pc := 28) d8_counted_28 (Nat.le_of_ble_eq_true rfl) rfl ci_1 rfl ?_
        refine sd_goto (pc := 31) 4 d8_counted_31 (by decide) ?_
        exact ih v3 (l2 + 1) S
      · refine sd_iconst (pc := 21) 1 d8_counted_21 ci_1 ?_
        refine sd_goto (pc := 22) 26 d8_counted_22 (by decide) ?_
        refine sd_iadd (pc := 26) d8_counted_26 ?_
        refine sd_ni (fun v4 => ?_)
        refine sd_istore_n (lf2 := [some (.ref 52), some (.int v4), some (.int l2)]) (pc := 27) d8_counted_27 (Nat.le_of_ble_eq_true rfl) rfl ?_
        refine sd_iinc (lf2 := [some (.ref 52), some (.int v4), some (.int (l2 + 1))]) (pc := 28) d8_counted_28 (Nat.le_of_ble_eq_true rfl) rfl ci_1 rfl ?_
        refine sd_goto (pc := 31) 4 d8_counted_31 (by decide) ?_
        exact ih v4 (l2 + 1) S
set_option maxHeartbeats 4000000 in
set_option maxRecDepth 20000 in
theorem s8_counted {N : Nat} (F : Nat) (S : sm_t) : sm_P (sm_jI N) k8_counted [.ref 52] (sm_m N S) (x8_counted F S) := by
  show sm_S (sm_jI N) k8_counted 0 0 0 [some (.ref 52), none, none] [] (sm_m N S) (x8_counted F S)
  unfold x8_counted
  refine sd_iconst (pc := 0) 0 d8_counted_0 ci_0 ?_
  refine sd_istore_n (lf2 := [some (.ref 52), some (.int 0), none]) (pc := 1) d8_counted_1 (Nat.le_of_ble_eq_true rfl) rfl ?_
  refine sd_iconst (pc := 2) 0 d8_counted_2 ci_0 ?_
  refine sd_istore_n (lf2 := [some (.ref 52), some (.int 0), some (.int 0)]) (pc := 3) d8_counted_3 (Nat.le_of_ble_eq_true rfl) rfl ?_
  exact s8_counted_4 F F 0 0 S
set_option maxHeartbeats 4000000 in
set_option maxRecDepth 20000 in
theorem s8_isByHour {N : Nat} (F : Nat) (l0 : Int32) (S : sm_t) : sm_P (sm_jI N) k8_isByHour [.int l0] (sm_m N S) (x8_isByHour F l0 S) := by
  show sm_S (sm_jI N) k8_isByHour 0 0 0 [some (.int l0)] [] (sm_m N S) (x8_isByHour F l0 S)
  unfold x8_isByHour
  refine sd_iload_n (pc := 0) d8_isByHour_0 rfl ?_
  refine sd_iconst (pc := 1) 1 d8_isByHour_1 ci_1 ?_
  refine sd_ic_eq (pc := 2) 10 d8_isByHour_2 (by decide) (fun _ => ?_) (fun _ => ?_)
  · refine sd_iconst (pc := 10) 1 d8_isByHour_10 ci_1 ?_
    refine sd_goto (pc := 11) 15 d8_isByHour_11 (by decide) ?_
    exact sd_zret (pc := 15) d8_isByHour_15 (by decide) (Nat.zero_le _) (Nat.zero_le _)
  · refine sd_iload_n (pc := 5) d8_isByHour_5 rfl ?_
    refine sd_iconst (pc := 6) 2 d8_isByHour_6 ci_2 ?_
    refine sd_ic_ne (pc := 7) 14 d8_isByHour_7 (by decide) (fun _ => ?_) (fun _ => ?_)
    · refine sd_iconst (pc := 10) 1 d8_isByHour_10 ci_1 ?_
      refine sd_goto (pc := 11) 15 d8_isByHour_11 (by decide) ?_
      exact sd_zret (pc := 15) d8_isByHour_15 (by decide) (Nat.zero_le _) (Nat.zero_le _)
    · refine sd_iconst (pc := 14) 0 d8_isByHour_14 ci_0 ?_
      exact sd_zret (pc := 15) d8_isByHour_15 (by decide) (Nat.zero_le _) (Nat.zero_le _)
set_option maxHeartbeats 4000000 in
set_option maxRecDepth 20000 in
theorem s8_hourWeight_5 {N : Nat} (F : Nat) : ∀ (f : Nat) (l1 : Int32) (l2 : Int32) (l3 : Int64) (l5 : Int32) (S : sm_t), sm_S (sm_jL N) k8_hourWeight 0 0 5 [some (.ref 52), some (.int l1), some (.int l2), some (.long l3), none, some (.int l5)] [] (sm_m N S) (x8_hourWeight_5 F f l1 l2 l3 l5 S) := by
  intro f
  induction f with
  | zero =>
    intro l1 l2 l3 l5 S
    exact sd_none
  | succ f ih =>
    intro l1 l2 l3 l5 S
    rw [x8_hourWeight_5]
    refine sd_iload (pc := 5) d8_hourWeight_5 rfl ?_
    refine sd_aload_n (pc := 7) d8_hourWeight_7 rfl ?_
    refine sd_getI (pc := 8) (show sm_sq 52 = some (.inr 7) from rfl) rfl fl8_161 d8_hourWeight_8 (fun v1 => ?_)
    refine sd_ic_ge (pc := 11) 68 d8_hourWeight_11 (by decide) (fun _ => ?_) (fun _ => ?_)
    · refine sd_lload_n (pc := 68) d8_hourWeight_68 rfl ?_
      exact sd_lret (pc := 69) d8_hourWeight_69 (Nat.zero_le _) (Nat.zero_le _)
    · refine sd_lload_n (pc := 14) d8_hourWeight_14 rfl ?_
      refine sd_aload_n (pc := 15) d8_hourWeight_15 rfl ?_
      refine sd_iload (pc := 16) d8_hourWeight_16 rfl ?_
      refine sd_cVI (k2 := k8_counts) (As := [.int l5]) (rest := [.long l3]) (b := 52) (ci := 7) (pc := 18) 196 (show sm_sq 52 = some (.inr 7) from rfl) (by decide) rfl d8_hourWeight_18 ml8_196 (ms8_counts).1 (ms8_counts).2 (me8_counts) ⟨rfl, rfl⟩ ⟨Nat.le_of_ble_eq_true rfl, Nat.le_of_ble_eq_true rfl⟩ (Nat.le_of_ble_eq_true rfl) (Nat.le_of_ble_eq_true rfl) (Or.inr rfl) (Nat.zero_le _) (Nat.zero_le _) rfl (s8_counts F l5 S) (fun v2 S => ?_)
      refine sd_if_eq (pc := 21) 59 d8_hourWeight_21 (by decide) (fun _ => ?_) (fun _ => ?_)
      · refine sd_lconst (pc := 59) 1 d8_hourWeight_59 rfl ?_
        refine sd_lmul (pc := 60) d8_hourWeight_60 ?_
        refine sd_nl (fun v3 => ?_)
        refine sd_lstore_n (lf2 := [some (.ref 52), some (.int l1), some (.int l2), some (.long v3), none, some (.int l5)]) (pc := 61) d8_hourWeight_61 (Nat.le_of_ble_eq_true rfl) rfl ?_
        refine sd_iinc (lf2 := [some (.ref 52), some (.int l1), some (.int l2), some (.long v3), none, some (.int (l5 + 1))]) (pc := 62) d8_hourWeight_62 (Nat.le_of_ble_eq_true rfl) rfl ci_1 rfl ?_
        refine sd_goto (pc := 65) 5 d8_hourWeight_65 (by decide) ?_
        exact ih l1 l2 v3 (l5 + 1) S
      · refine sd_aload_n (pc := 24) d8_hourWeight_24 rfl ?_
        refine sd_iload (pc := 25) d8_hourWeight_25 rfl ?_
        refine sd_iconst (pc := 27) 0 d8_hourWeight_27 ci_0 ?_
        refine sd_cVI (k2 := k8_tell) (As := [.int l5, .int 0]) (rest := [.long l3]) (b := 52) (ci := 7) (pc := 28) 175 (show sm_sq 52 = some (.inr 7) from rfl) (by decide) rfl d8_hourWeight_28 ml8_175 (ms8_tell).1 (ms8_tell).2 (me8_tell) ⟨rfl, rfl⟩ ⟨Nat.le_of_ble_eq_true rfl, Nat.le_of_ble_eq_true rfl⟩ (Nat.le_of_ble_eq_true rfl) (Nat.le_of_ble_eq_true rfl) (Or.inl rfl) (Nat.zero_le _) (Nat.zero_le _) rfl (s8_tell F l5 0 S) (fun v4 S => ?_)
        refine sd_cSI (k2 := k8_isByHour) (As := [.int v4]) (rest := [.long l3]) (pc := 31) 199 d8_hourWeight_31 ml8_199 (ms8_isByHour) (me8_isByHour) ⟨rfl, rfl⟩ ⟨Nat.le_of_ble_eq_true rfl, Nat.le_of_ble_eq_true rfl⟩ (Nat.le_of_ble_eq_true rfl) (Nat.le_of_ble_eq_true rfl) (Or.inr rfl) (Nat.zero_le _) (Nat.zero_le _) rfl (s8_isByHour F v4 S) (fun v5 S => ?_)
        refine sd_if_eq (pc := 34) 59 d8_hourWeight_34 (by decide) (fun _ => ?_) (fun _ => ?_)
        · refine sd_lconst (pc := 59) 1 d8_hourWeight_59 rfl ?_
          refine sd_lmul (pc := 60) d8_hourWeight_60 ?_
          refine sd_nl (fun v6 => ?_)
          refine sd_lstore_n (lf2 := [some (.ref 52), some (.int l1), some (.int l2), some (.long v6), none, some (.int l5)]) (pc := 61) d8_hourWeight_61 (Nat.le_of_ble_eq_true rfl) rfl ?_
          refine sd_iinc (lf2 := [some (.ref 52), some (.int l1), some (.int l2), some (.long v6), none, some (.int (l5 + 1))]) (pc := 62) d8_hourWeight_62 (Nat.le_of_ble_eq_true rfl) rfl ci_1 rfl ?_
          refine sd_goto (pc := 65) 5 d8_hourWeight_65 (by decide) ?_
          exact ih l1 l2 v6 (l5 + 1) S
        · refine sd_aload_n (pc := 37) d8_hourWeight_37 rfl ?_
          refine sd_iload (pc := 38) d8_hourWeight_38 rfl ?_
          refine sd_iconst (pc := 40) 1 d8_hourWeight_40 ci_1 ?_
          refine sd_cVI (k2 := k8_tell) (As := [.int l5, .int 1]) (rest := [.long l3]) (b := 52) (ci := 7) (pc := 41) 175 (show sm_sq 52 = some (.inr 7) from rfl) (by decide) rfl d8_hourWeight_41 ml8_175 (ms8_tell).1 (ms8_tell).2 (me8_tell) ⟨rfl, rfl⟩ ⟨Nat.le_of_ble_eq_true rfl, Nat.le_of_ble_eq_true rfl⟩ (Nat.le_of_ble_eq_true rfl) (Nat.le_of_ble_eq_true rfl) (Or.inl rfl) (Nat.zero_le _) (Nat.zero_le _) rfl (s8_tell F l5 1 S) (fun v7 S => ?_)
          refine sd_iload_n (pc := 44) d8_hourWeight_44 rfl ?_
          refine sd_ic_ne (pc := 45) 59 d8_hourWeight_45 (by decide) (fun _ => ?_) (fun _ => ?_)
          · refine sd_aload_n (pc := 48) d8_hourWeight_48 rfl ?_
            refine sd_iload (pc := 49) d8_hourWeight_49 rfl ?_
            refine sd_iload_n (pc := 51) d8_hourWeight_51 rfl ?_
            refine sd_cVI (k2 := k8_weight) (As := [.int l5, .int l2]) (rest := [.long l3]) (b := 52) (ci := 7) (pc := 52) 187 (show sm_sq 52 = some (.inr 7) from rfl) (by decide) rfl d8_hourWeight_52 ml8_187 (ms8_weight).1 (ms8_weight).2 (me8_weight) ⟨rfl, rfl⟩ ⟨Nat.le_of_ble_eq_true rfl, Nat.le_of_ble_eq_true rfl⟩ (Nat.le_of_ble_eq_true rfl) (Nat.le_of_ble_eq_true rfl) (Or.inl rfl) (Nat.zero_le _) (Nat.zero_le _) rfl (s8_weight F l5 l2 S) (fun v8 S => ?_)
            refine sd_i2l (pc := 55) d8_hourWeight_55 ?_
            refine sd_goto (pc := 56) 60 d8_hourWeight_56 (by decide) ?_
            refine sd_lmul (pc := 60) d8_hourWeight_60 ?_
            refine sd_nl (fun v9 => ?_)
            refine sd_lstore_n (lf2 := [some (.ref 52), some (.int l1), some (.int l2), some (.long v9), none, some (.int l5)]) (pc := 61) d8_hourWeight_61 (Nat.le_of_ble_eq_true rfl) rfl ?_
            refine sd_iinc (lf2 := [some (.ref 52), some (.int l1), some (.int l2), some (.long v9), none, some (.int (l5 + 1))]) (pc := 62) d8_hourWeight_62 (Nat.le_of_ble_eq_true rfl) rfl ci_1 rfl ?_
            refine sd_goto (pc := 65) 5 d8_hourWeight_65 (by decide) ?_
            exact ih l1 l2 v9 (l5 + 1) S
          · refine sd_lconst (pc := 59) 1 d8_hourWeight_59 rfl ?_
            refine sd_lmul (pc := 60) d8_hourWeight_60 ?_
            refine sd_nl (fun v10 => ?_)
            refine sd_lstore_n (lf2 := [some (.ref 52), some (.int l1), some (.int l2), some (.long v10), none, some (.int l5)]) (pc := 61) d8_hourWeight_61 (Nat.le_of_ble_eq_true rfl) rfl ?_
            refine sd_iinc (lf2 := [some (.ref 52), some (.int l1), some (.int l2), some (.long v10), none, some (.int (l5 + 1))]) (pc := 62) d8_hourWeight_62 (Nat.le_of_ble_eq_true rfl) rfl ci_1 rfl ?_
            refine sd_goto (pc := 65) 5 d8_hourWeight_65 (by decide) ?_
            exact ih l1 l2 v10 (l5 + 1) S
set_option maxHeartbeats 4000000 in
set_option maxRecDepth 20000 in
theorem s8_hourWeight {N : Nat} (F : Nat) (l1 : Int32) (l2 : Int32) (S : sm_t) : sm_P (sm_jL N) k8_hourWeight [.ref 52, .int l1, .int l2] (sm_m N S) (x8_hourWeight F l1 l2 S) := by
  show sm_S (sm_jL N) k8_hourWeight 0 0 0 [some (.ref 52), some (.int l1), some (.int l2), none, none, none] [] (sm_m N S) (x8_hourWeight F l1 l2 S)
  unfold x8_hourWeight
  refine sd_lconst (pc := 0) 1 d8_hourWeight_0 rfl ?_
  refine sd_lstore_n (lf2 := [some (.ref 52), some (.int l1), some (.int l2), some (.long 1), none, none]) (pc := 1) d8_hourWeight_1 (Nat.le_of_ble_eq_true rfl) rfl ?_
  refine sd_iconst (pc := 2) 0 d8_hourWeight_2 ci_0 ?_
  refine sd_istore (lf2 := [some (.ref 52), some (.int l1), some (.int l2), some (.long 1), none, some (.int 0)]) (pc := 3) d8_hourWeight_3 (Nat.le_of_ble_eq_true rfl) rfl ?_
  exact s8_hourWeight_5 F F l1 l2 1 0 S
set_option maxHeartbeats 4000000 in
set_option maxRecDepth 20000 in
theorem s8_turned {N : Nat} (F : Nat) (l0 : Int32) (l1 : Int32) (S : sm_t) : sm_P (sm_jI N) k8_turned [.int l0, .int l1] (sm_m N S) (x8_turned F l0 l1 S) := by
  show sm_S (sm_jI N) k8_turned 0 0 0 [some (.int l0), some (.int l1)] [] (sm_m N S) (x8_turned F l0 l1 S)
  unfold x8_turned
  refine sd_iload_n (pc := 0) d8_turned_0 rfl ?_
  refine sd_iload_n (pc := 1) d8_turned_1 rfl ?_
  refine sd_iadd (pc := 2) d8_turned_2 ?_
  refine sd_bipush (pc := 3) 8 d8_turned_3 cb_8 ?_
  refine sd_iadd (pc := 5) d8_turned_5 ?_
  refine sd_bipush (pc := 6) 8 d8_turned_6 cb_8 ?_
  refine sd_irem (pc := 8) d8_turned_8 (by decide) ?_
  exact sd_iret (pc := 9) d8_turned_9 rfl (Nat.zero_le _) (Nat.zero_le _)
set_option maxHeartbeats 4000000 in
set_option maxRecDepth 20000 in
theorem s8_goesTo {N : Nat} (F : Nat) (l0 : Int32) (l1 : Int32) (S : sm_t) : sm_P (sm_jI N) k8_goesTo [.int l0, .int l1] (sm_m N S) (x8_goesTo F l0 l1 S) := by
  show sm_S (sm_jI N) k8_goesTo 0 0 0 [some (.int l0), some (.int l1), none] [] (sm_m N S) (x8_goesTo F l0 l1 S)
  unfold x8_goesTo
  refine sd_iload_n (pc := 0) d8_goesTo_0 rfl ?_
  refine sd_iload_n (pc := 1) d8_goesTo_1 rfl ?_
  refine sd_cSI (k2 := k8_nextOf) (As := [.int l0, .int l1]) (rest := []) (pc := 2) 114 d8_goesTo_2 ml8_114 (ms8_nextOf) (me8_nextOf) ⟨rfl, rfl⟩ ⟨Nat.le_of_ble_eq_true rfl, Nat.le_of_ble_eq_true rfl⟩ (Nat.le_of_ble_eq_true rfl) (Nat.le_of_ble_eq_true rfl) (Or.inl rfl) (Nat.zero_le _) (Nat.zero_le _) rfl (s8_nextOf F l0 l1 S) (fun v1 S => ?_)
  refine sd_istore_n (lf2 := [some (.int l0), some (.int l1), some (.int v1)]) (pc := 5) d8_goesTo_5 (Nat.le_of_ble_eq_true rfl) rfl ?_
  refine sd_iload_n (pc := 6) d8_goesTo_6 rfl ?_
  refine sd_if_ge (pc := 7) 14 d8_goesTo_7 (by decide) (fun _ => ?_) (fun _ => ?_)
  · refine sd_iload_n (pc := 14) d8_goesTo_14 rfl ?_
    exact sd_iret (pc := 15) d8_goesTo_15 rfl (Nat.zero_le _) (Nat.zero_le _)
  · refine sd_iload_n (pc := 10) d8_goesTo_10 rfl ?_
    refine sd_goto (pc := 11) 15 d8_goesTo_11 (by decide) ?_
    exact sd_iret (pc := 15) d8_goesTo_15 rfl (Nat.zero_le _) (Nat.zero_le _)
set_option maxHeartbeats 4000000 in
set_option maxRecDepth 20000 in
theorem s8_setCome_77 {N : Nat} (F : Nat) (c56 : Int32 → Int32 → sm_t → Option (sm_t)) (hc56 : ∀ (l1 : Int32) (l2 : Int32) (S : sm_t), sm_S (sm_jV N) k8_setCome 0 0 56 [some (.ref 52), some (.int l1), some (.int l2), none, none, none, none] [] (sm_m N S) (c56 l1 l2 S)) : ∀ (f : Nat) (l1 : Int32) (l2 : Int32) (l3 : Int64) (l5 : Int32) (S : sm_t), sm_S (sm_jV N) k8_setCome 0 0 77 [some (.ref 52), some (.int l1), some (.int l2), some (.long l3), none, some (.int l5), none] [] (sm_m N S) (x8_setCome_77 F c56 f l1 l2 l3 l5 S) := by
  intro f
  induction f with
  | zero =>
    intro l1 l2 l3 l5 S
    exact sd_none
  | succ f ih =>
    intro l1 l2 l3 l5 S
    rw [x8_setCome_77]
    refine sd_iload (pc := 77) d8_setCome_77 rfl ?_
    refine sd_iconst (pc := 79) 2 d8_setCome_79 ci_2 ?_
    refine sd_ic_ge (pc := 80) 152 d8_setCome_80 (by decide) (fun _ => ?_) (fun _ => ?_)
    · refine sd_iinc (lf2 := [some (.ref 52), some (.int l1), some (.int (l2 + 1)), some (.long l3), none, some (.int l5), none]) (pc := 152) d8_setCome_152 (Nat.le_of_ble_eq_true rfl) rfl ci_1 rfl ?_
      refine sd_goto (pc := 155) 56 d8_setCome_155 (by decide) ?_
      exact sd_fg [true, true, true, false, true, false, true] rfl (hc56 l1 (l2 + 1) S)
    · refine sd_lload_n (pc := 83) d8_setCome_83 rfl ?_
      refine sd_lconst (pc := 84) 0 d8_setCome_84 rfl ?_
      refine sd_lc_le (pc := 85) 152 d8_setCome_85 d8_setCome_86 (by decide) (fun _ => ?_) (fun _ => ?_)
      · refine sd_iinc (lf2 := [some (.ref 52), some (.int l1), some (.int (l2 + 1)), some (.long l3), none, some (.int l5), none]) (pc := 152) d8_setCome_152 (Nat.le_of_ble_eq_true rfl) rfl ci_1 rfl ?_
        refine sd_goto (pc := 155) 56 d8_setCome_155 (by decide) ?_
        exact sd_fg [true, true, true, false, true, false, true] rfl (hc56 l1 (l2 + 1) S)
      · refine sd_iload_n (pc := 89) d8_setCome_89 rfl ?_
        refine sd_aload_n (pc := 90) d8_setCome_90 rfl ?_
        refine sd_iload_n (pc := 91) d8_setCome_91 rfl ?_
        refine sd_cVI (k2 := k8_courseOf) (As := [.int l1]) (rest := [.int l2]) (b := 52) (ci := 7) (pc := 92) 133 (show sm_sq 52 = some (.inr 7) from rfl) (by decide) rfl d8_setCome_92 ml8_133 (ms8_courseOf).1 (ms8_courseOf).2 (me8_courseOf) ⟨rfl, rfl⟩ ⟨Nat.le_of_ble_eq_true rfl, Nat.le_of_ble_eq_true rfl⟩ (Nat.le_of_ble_eq_true rfl) (Nat.le_of_ble_eq_true rfl) (Or.inl rfl) (Nat.zero_le _) (Nat.zero_le _) rfl (s8_courseOf F l1 S) (fun v1 S => ?_)
        refine sd_iload (pc := 95) d8_setCome_95 rfl ?_
        refine sd_cSI (k2 := k8_turned) (As := [.int v1, .int l5]) (rest := [.int l2]) (pc := 97) 211 d8_setCome_97 ml8_211 (ms8_turned) (me8_turned) ⟨rfl, rfl⟩ ⟨Nat.le_of_ble_eq_true rfl, Nat.le_of_ble_eq_true rfl⟩ (Nat.le_of_ble_eq_true rfl) (Nat.le_of_ble_eq_true rfl) (Or.inl rfl) (Nat.zero_le _) (Nat.zero_le _) rfl (s8_turned F v1 l5 S) (fun v2 S => ?_)
        refine sd_cSI (k2 := k8_goesTo) (As := [.int l2, .int v2]) (rest := []) (pc := 100) 214 d8_setCome_100 ml8_214 (ms8_goesTo) (me8_goesTo) ⟨rfl, rfl⟩ ⟨Nat.le_of_ble_eq_true rfl, Nat.le_of_ble_eq_true rfl⟩ (Nat.le_of_ble_eq_true rfl) (Nat.le_of_ble_eq_true rfl) (Or.inl rfl) (Nat.zero_le _) (Nat.zero_le _) rfl (s8_goesTo F l2 v2 S) (fun v3 S => ?_)
        refine sd_istore (lf2 := [some (.ref 52), some (.int l1), some (.int l2), some (.long l3), none, some (.int l5), some (.int v3)]) (pc := 103) d8_setCome_103 (Nat.le_of_ble_eq_true rfl) rfl ?_
        refine sd_aload_n (pc := 105) d8_setCome_105 rfl ?_
        refine sd_getR (pc := 106) 64 (show sm_sq 52 = some (.inr 7) from rfl) rfl fl8_52 rfl d8_setCome_106 ?_
        refine sd_bipush (pc := 109) 120 d8_setCome_109 cb_120 ?_
        refine sd_iload_n (pc := 111) d8_setCome_111 rfl ?_
        refine sd_iconst (pc := 112) 1 d8_setCome_112 ci_1 ?_
        refine sd_iadd (pc := 113) d8_setCome_113 ?_
        refine sd_imul (pc := 114) d8_setCome_114 ?_
        refine sd_iload (pc := 115) d8_setCome_115 rfl ?_
        refine sd_iadd (pc := 117) d8_setCome_117 ?_
        refine sd_dup2 (pc := 118) d8_setCome_118 rfl rfl ?_
        refine sd_lald (pc := 119) (show sm_sq 64 = some (.inl (.long, 840)) from rfl) d8_setCome_119 (fun v4 => ?_)
        refine sd_lload_n (pc := 120) d8_setCome_120 rfl ?_
        refine sd_iload (pc := 121) d8_setCome_121 rfl ?_
        refine sd_if_ne (pc := 123) 132 d8_setCome_123 (by decide) (fun _ => ?_) (fun _ => ?_)
        · refine sd_ldc2 (pc := 126) cl8_217 d8_setCome_126 ?_
          refine sd_goto (pc := 129) 133 d8_setCome_129 (by decide) ?_
          refine sd_lmul (pc := 133) d8_setCome_133 ?_
          refine sd_aload_n (pc := 134) d8_setCome_134 rfl ?_
          refine sd_iload_n (pc := 135) d8_setCome_135 rfl ?_
          refine sd_iconst (pc := 136) 1 d8_setCome_136 ci_1 ?_
          refine sd_iadd (pc := 137) d8_setCome_137 ?_
          refine sd_iload (pc := 138) d8_setCome_138 rfl ?_
          refine sd_cVL (k2 := k8_hourWeight) (As := [.int (l1 + 1), .int v3]) (rest := [.long (l3 * 2), .long v4, .int ((120 * (l1 + 1)) + v3), .ref 64]) (b := 52) (ci := 7) (pc := 140) 207 (show sm_sq 52 = some (.inr 7) from rfl) (by decide) rfl d8_setCome_140 ml8_207 (ms8_hourWeight).1 (ms8_hourWeight).2 (me8_hourWeight) ⟨rfl, rfl⟩ ⟨Nat.le_of_ble_eq_true rfl, Nat.le_of_ble_eq_true rfl⟩ (Nat.le_of_ble_eq_true rfl) (Nat.le_of_ble_eq_true rfl) rfl (Nat.zero_le _) (Nat.zero_le _) rfl (s8_hourWeight F (l1 + 1) v3 S) (fun v5 S => ?_)
          refine sd_lmul (pc := 143) d8_setCome_143 ?_
          refine sd_ladd (pc := 144) d8_setCome_144 ?_
          refine sd_last (pc := 145) (show sm_sq 64 = some (.inl (.long, 840)) from rfl) d8_setCome_145 (fun S => ?_)
          refine sd_iinc (lf2 := [some (.ref 52), some (.int l1), some (.int l2), some (.long l3), none, some (.int (l5 + 1)), some (.int v3)]) (pc := 146) d8_setCome_146 (Nat.le_of_ble_eq_true rfl) rfl ci_1 rfl ?_
          refine sd_goto (pc := 149) 77 d8_setCome_149 (by decide) ?_
          exact sd_fg [true, true, true, true, true, true, false] rfl (ih l1 l2 l3 (l5 + 1) S)
        · refine sd_lconst (pc := 132) 1 d8_setCome_132 rfl ?_
          refine sd_lmul (pc := 133) d8_setCome_133 ?_
          refine sd_aload_n (pc := 134) d8_setCome_134 rfl ?_
          refine sd_iload_n (pc := 135) d8_setCome_135 rfl ?_
          refine sd_iconst (pc := 136) 1 d8_setCome_136 ci_1 ?_
          refine sd_iadd (pc := 137) d8_setCome_137 ?_
          refine sd_iload (pc := 138) d8_setCome_138 rfl ?_
          refine sd_cVL (k2 := k8_hourWeight) (As := [.int (l1 + 1), .int v3]) (rest := [.long (l3 * 1), .long v4, .int ((120 * (l1 + 1)) + v3), .ref 64]) (b := 52) (ci := 7) (pc := 140) 207 (show sm_sq 52 = some (.inr 7) from rfl) (by decide) rfl d8_setCome_140 ml8_207 (ms8_hourWeight).1 (ms8_hourWeight).2 (me8_hourWeight) ⟨rfl, rfl⟩ ⟨Nat.le_of_ble_eq_true rfl, Nat.le_of_ble_eq_true rfl⟩ (Nat.le_of_ble_eq_true rfl) (Nat.le_of_ble_eq_true rfl) rfl (Nat.zero_le _) (Nat.zero_le _) rfl (s8_hourWeight F (l1 + 1) v3 S) (fun v6 S => ?_)
          refine sd_lmul (pc := 143) d8_setCome_143 ?_
          refine sd_ladd (pc := 144) d8_setCome_144 ?_
          refine sd_last (pc := 145) (show sm_sq 64 = some (.inl (.long, 840)) from rfl) d8_setCome_145 (fun S => ?_)
          refine sd_iinc (lf2 := [some (.ref 52), some (.int l1), some (.int l2), some (.long l3), none, some (.int (l5 + 1)), some (.int v3)]) (pc := 146) d8_setCome_146 (Nat.le_of_ble_eq_true rfl) rfl ci_1 rfl ?_
          refine sd_goto (pc := 149) 77 d8_setCome_149 (by decide) ?_
          exact sd_fg [true, true, true, true, true, true, false] rfl (ih l1 l2 l3 (l5 + 1) S)
set_option maxHeartbeats 4000000 in
set_option maxRecDepth 20000 in
theorem s8_setCome_56 {N : Nat} (F : Nat) (c46 : Int32 → sm_t → Option (sm_t)) (hc46 : ∀ (l1 : Int32) (S : sm_t), sm_S (sm_jV N) k8_setCome 0 0 46 [some (.ref 52), some (.int l1), none, none, none, none, none] [] (sm_m N S) (c46 l1 S)) : ∀ (f : Nat) (l1 : Int32) (l2 : Int32) (S : sm_t), sm_S (sm_jV N) k8_setCome 0 0 56 [some (.ref 52), some (.int l1), some (.int l2), none, none, none, none] [] (sm_m N S) (x8_setCome_56 F c46 f l1 l2 S) := by
  intro f
  induction f with
  | zero =>
    intro l1 l2 S
    exact sd_none
  | succ f ih =>
    intro l1 l2 S
    rw [x8_setCome_56]
    refine sd_iload_n (pc := 56) d8_setCome_56 rfl ?_
    refine sd_bipush (pc := 57) 120 d8_setCome_57 cb_120 ?_
    refine sd_ic_ge (pc := 59) 158 d8_setCome_59 (by decide) (fun _ => ?_) (fun _ => ?_)
    · refine sd_iinc (lf2 := [some (.ref 52), some (.int (l1 + 1)), some (.int l2), none, none, none, none]) (pc := 158) d8_setCome_158 (Nat.le_of_ble_eq_true rfl) rfl ci_1 rfl ?_
      refine sd_goto (pc := 161) 46 d8_setCome_161 (by decide) ?_
      exact sd_fg [true, true, false, true, true, true, true] rfl (hc46 (l1 + 1) S)
    · refine sd_aload_n (pc := 62) d8_setCome_62 rfl ?_
      refine sd_getR (pc := 63) 64 (show sm_sq 52 = some (.inr 7) from rfl) rfl fl8_52 rfl d8_setCome_63 ?_
      refine sd_bipush (pc := 66) 120 d8_setCome_66 cb_120 ?_
      refine sd_iload_n (pc := 68) d8_setCome_68 rfl ?_
      refine sd_imul (pc := 69) d8_setCome_69 ?_
      refine sd_iload_n (pc := 70) d8_setCome_70 rfl ?_
      refine sd_iadd (pc := 71) d8_setCome_71 ?_
      refine sd_lald (pc := 72) (show sm_sq 64 = some (.inl (.long, 840)) from rfl) d8_setCome_72 (fun v1 => ?_)
      refine sd_lstore_n (lf2 := [some (.ref 52), some (.int l1), some (.int l2), some (.long v1), none, none, none]) (pc := 73) d8_setCome_73 (Nat.le_of_ble_eq_true rfl) rfl ?_
      refine sd_iconst (pc := 74) (-1) d8_setCome_74 ci_m1 ?_
      refine sd_istore (lf2 := [some (.ref 52), some (.int l1), some (.int l2), some (.long v1), none, some (.int (-1)), none]) (pc := 75) d8_setCome_75 (Nat.le_of_ble_eq_true rfl) rfl ?_
      exact s8_setCome_77 F _ ih F l1 l2 v1 (-1) S
set_option maxHeartbeats 4000000 in
set_option maxRecDepth 20000 in
theorem s8_setCome_46 {N : Nat} (F : Nat) : ∀ (f : Nat) (l1 : Int32) (S : sm_t), sm_S (sm_jV N) k8_setCome 0 0 46 [some (.ref 52), some (.int l1), none, none, none, none, none] [] (sm_m N S) (x8_setCome_46 F f l1 S) := by
  intro f
  induction f with
  | zero =>
    intro l1 S
    exact sd_none
  | succ f ih =>
    intro l1 S
    rw [x8_setCome_46]
    refine sd_iload_n (pc := 46) d8_setCome_46 rfl ?_
    refine sd_aload_n (pc := 47) d8_setCome_47 rfl ?_
    refine sd_cVI (k2 := k8_hours) (As := []) (rest := [.int l1]) (b := 52) (ci := 7) (pc := 48) 129 (show sm_sq 52 = some (.inr 7) from rfl) (by decide) rfl d8_setCome_48 ml8_129 (ms8_hours).1 (ms8_hours).2 (me8_hours) ⟨rfl, rfl⟩ ⟨Nat.le_of_ble_eq_true rfl, Nat.le_of_ble_eq_true rfl⟩ (Nat.le_of_ble_eq_true rfl) (Nat.le_of_ble_eq_true rfl) (Or.inl rfl) (Nat.zero_le _) (Nat.zero_le _) rfl (s8_hours F S) (fun v1 S => ?_)
    refine sd_ic_ge (pc := 51) 164 d8_setCome_51 (by decide) (fun _ => ?_) (fun _ => ?_)
    · exact sd_vret (pc := 164) d8_setCome_164 (Nat.zero_le _) (Nat.zero_le _)
    · refine sd_iconst (pc := 54) 0 d8_setCome_54 ci_0 ?_
      refine sd_istore_n (lf2 := [some (.ref 52), some (.int l1), some (.int 0), none, none, none, none]) (pc := 55) d8_setCome_55 (Nat.le_of_ble_eq_true rfl) rfl ?_
      exact s8_setCome_56 F _ ih F l1 0 S
set_option maxHeartbeats 4000000 in
set_option maxRecDepth 20000 in
theorem s8_setCome_22 {N : Nat} (F : Nat) (S : sm_t) : sm_S (sm_jV N) k8_setCome 0 0 22 [some (.ref 52), none, none, none, none, none, none] [] (sm_m N S) (x8_setCome_22 F S) := by
  unfold x8_setCome_22
  refine sd_aload_n (pc := 22) d8_setCome_22 rfl ?_
  refine sd_getR (pc := 23) 64 (show sm_sq 52 = some (.inr 7) from rfl) rfl fl8_52 rfl d8_setCome_23 ?_
  refine sd_aload_n (pc := 26) d8_setCome_26 rfl ?_
  refine sd_getR (pc := 27) 59 (show sm_sq 52 = some (.inr 7) from rfl) rfl fl8_32 rfl d8_setCome_27 ?_
  refine sd_iconst (pc := 30) 0 d8_setCome_30 ci_0 ?_
  refine sd_iald (pc := 31) (show sm_sq 59 = some (.inl (.int, 15)) from rfl) d8_setCome_31 (fun v1 => ?_)
  refine sd_aload_n (pc := 32) d8_setCome_32 rfl ?_
  refine sd_iconst (pc := 33) 0 d8_setCome_33 ci_0 ?_
  refine sd_aload_n (pc := 34) d8_setCome_34 rfl ?_
  refine sd_getR (pc := 35) 59 (show sm_sq 52 = some (.inr 7) from rfl) rfl fl8_32 rfl d8_setCome_35 ?_
  refine sd_iconst (pc := 38) 0 d8_setCome_38 ci_0 ?_
  refine sd_iald (pc := 39) (show sm_sq 59 = some (.inl (.int, 15)) from rfl) d8_setCome_39 (fun v2 => ?_)
  refine sd_cVL (k2 := k8_hourWeight) (As := [.int 0, .int v2]) (rest := [.int v1, .ref 64]) (b := 52) (ci := 7) (pc := 40) 207 (show sm_sq 52 = some (.inr 7) from rfl) (by decide) rfl d8_setCome_40 ml8_207 (ms8_hourWeight).1 (ms8_hourWeight).2 (me8_hourWeight) ⟨rfl, rfl⟩ ⟨Nat.le_of_ble_eq_true rfl, Nat.le_of_ble_eq_true rfl⟩ (Nat.le_of_ble_eq_true rfl) (Nat.le_of_ble_eq_true rfl) rfl (Nat.zero_le _) (Nat.zero_le _) rfl (s8_hourWeight F 0 v2 S) (fun v3 S => ?_)
  refine sd_last (pc := 43) (show sm_sq 64 = some (.inl (.long, 840)) from rfl) d8_setCome_43 (fun S => ?_)
  refine sd_iconst (pc := 44) 0 d8_setCome_44 ci_0 ?_
  refine sd_istore_n (lf2 := [some (.ref 52), some (.int 0), none, none, none, none, none]) (pc := 45) d8_setCome_45 (Nat.le_of_ble_eq_true rfl) rfl ?_
  exact s8_setCome_46 F F 0 S
set_option maxHeartbeats 4000000 in
set_option maxRecDepth 20000 in
theorem s8_setCome_2 {N : Nat} (F : Nat) : ∀ (f : Nat) (l1 : Int32) (S : sm_t), sm_S (sm_jV N) k8_setCome 0 0 2 [some (.ref 52), some (.int l1), none, none, none, none, none] [] (sm_m N S) (x8_setCome_2 F f l1 S) := by
  intro f
  induction f with
  | zero =>
    intro l1 S
    exact sd_none
  | succ f ih =>
    intro l1 S
    rw [x8_setCome_2]
    refine sd_iload_n (pc := 2) d8_setCome_2 rfl ?_
    refine sd_sipush (pc := 3) 840 d8_setCome_3 cs_840 ?_
    refine sd_ic_ge (pc := 6) 22 d8_setCome_6 (by decide) (fun _ => ?_) (fun _ => ?_)
    · exact sd_fg [true, false, true, true, true, true, true] rfl (s8_setCome_22 F S)
    · refine sd_aload_n (pc := 9) d8_setCome_9 rfl ?_
      refine sd_getR (pc := 10) 64 (show sm_sq 52 = some (.inr 7) from rfl) rfl fl8_52 rfl d8_setCome_10 ?_
      refine sd_iload_n (pc := 13) d8_setCome_13 rfl ?_
      refine sd_lconst (pc := 14) 0 d8_setCome_14 rfl ?_
      refine sd_last (pc := 15) (show sm_sq 64 = some (.inl (.long, 840)) from rfl) d8_setCome_15 (fun S => ?_)
      refine sd_iinc (lf2 := [some (.ref 52), some (.int (l1 + 1)), none, none, none, none, none]) (pc := 16) d8_setCome_16 (Nat.le_of_ble_eq_true rfl) rfl ci_1 rfl ?_
      refine sd_goto (pc := 19) 2 d8_setCome_19 (by decide) ?_
      exact ih (l1 + 1) S
set_option maxHeartbeats 4000000 in
set_option maxRecDepth 20000 in
theorem s8_setCome {N : Nat} (F : Nat) (S : sm_t) : sm_P (sm_jV N) k8_setCome [.ref 52] (sm_m N S) (x8_setCome F S) := by
  show sm_S (sm_jV N) k8_setCome 0 0 0 [some (.ref 52), none, none, none, none, none, none] [] (sm_m N S) (x8_setCome F S)
  unfold x8_setCome
  refine sd_iconst (pc := 0) 0 d8_setCome_0 ci_0 ?_
  refine sd_istore_n (lf2 := [some (.ref 52), some (.int 0), none, none, none, none, none]) (pc := 1) d8_setCome_1 (Nat.le_of_ble_eq_true rfl) rfl ?_
  exact s8_setCome_2 F F 0 S
set_option maxHeartbeats 4000000 in
set_option maxRecDepth 20000 in
theorem s8_endOf {N : Nat} (F : Nat) (l1 : Int32) (S : sm_t) : sm_P (sm_jI N) k8_endOf [.ref 52, .int l1] (sm_m N S) (x8_endOf F l1 S) := by
  show sm_S (sm_jI N) k8_endOf 0 0 0 [some (.ref 52), some (.int l1)] [] (sm_m N S) (x8_endOf F l1 S)
  unfold x8_endOf
  refine sd_aload_n (pc := 0) d8_endOf_0 rfl ?_
  refine sd_getR (pc := 1) 59 (show sm_sq 52 = some (.inr 7) from rfl) rfl fl8_32 rfl d8_endOf_1 ?_
  refine sd_bipush (pc := 4) 8 d8_endOf_4 cb_8 ?_
  refine sd_iload_n (pc := 6) d8_endOf_6 rfl ?_
  refine sd_iadd (pc := 7) d8_endOf_7 ?_
  refine sd_iald (pc := 8) (show sm_sq 59 = some (.inl (.int, 15)) from rfl) d8_endOf_8 (fun v1 => ?_)
  exact sd_iret (pc := 9) d8_endOf_9 rfl (Nat.zero_le _) (Nat.zero_le _)
set_option maxHeartbeats 4000000 in
set_option maxRecDepth 20000 in
theorem s8_endWeight_74 {N : Nat} (F : Nat) (c5 : Int32 → Int32 → Int64 → Int32 → sm_t → Option (Int64 × sm_t)) (hc5 : ∀ (l1 : Int32) (l2 : Int32) (l3 : Int64) (l5 : Int32) (S : sm_t), sm_S (sm_jL N) k8_endWeight 0 0 5 [some (.ref 52), some (.int l1), some (.int l2), some (.long l3), none, some (.int l5), none, none] [] (sm_m N S) (c5 l1 l2 l3 l5 S)) (l1 : Int32) (l2 : Int32) (l3 : Int64) (l5 : Int32) (t0 : Int32) (S : sm_t) : sm_S (sm_jL N) k8_endWeight 0 0 74 [some (.ref 52), some (.int l1), some (.int l2), some (.long l3), none, some (.int l5), none, none] [.int t0] (sm_m N S) (x8_endWeight_74 F c5 l1 l2 l3 l5 t0 S) := by
  unfold x8_endWeight_74
  refine sd_istore (lf2 := [some (.ref 52), some (.int l1), some (.int l2), some (.long l3), none, some (.int l5), none, some (.int t0)]) (pc := 74) d8_endWeight_74 (Nat.le_of_ble_eq_true rfl) rfl ?_
  refine sd_lload_n (pc := 76) d8_endWeight_76 rfl ?_
  refine sd_aload_n (pc := 77) d8_endWeight_77 rfl ?_
  refine sd_iload (pc := 78) d8_endWeight_78 rfl ?_
  refine sd_cVI (k2 := k8_counts) (As := [.int l5]) (rest := [.long l3]) (b := 52) (ci := 7) (pc := 80) 196 (show sm_sq 52 = some (.inr 7) from rfl) (by decide) rfl d8_endWeight_80 ml8_196 (ms8_counts).1 (ms8_counts).2 (me8_counts) ⟨rfl, rfl⟩ ⟨Nat.le_of_ble_eq_true rfl, Nat.le_of_ble_eq_true rfl⟩ (Nat.le_of_ble_eq_true rfl) (Nat.le_of_ble_eq_true rfl) (Or.inr rfl) (Nat.zero_le _) (Nat.zero_le _) rfl (s8_counts F l5 S) (fun v1 S => ?_)
  refine sd_if_eq (pc := 83) 92 d8_endWeight_83 (by decide) (fun _ => ?_) (fun _ => ?_)
  · refine sd_lconst (pc := 92) 1 d8_endWeight_92 rfl ?_
    refine sd_lmul (pc := 93) d8_endWeight_93 ?_
    refine sd_nl (fun v2 => ?_)
    refine sd_lstore_n (lf2 := [some (.ref 52), some (.int l1), some (.int l2), some (.long v2), none, some (.int l5), none, some (.int t0)]) (pc := 94) d8_endWeight_94 (Nat.le_of_ble_eq_true rfl) rfl ?_
    refine sd_iinc (lf2 := [some (.ref 52), some (.int l1), some (.int l2), some (.long v2), none, some (.int (l5 + 1)), none, some (.int t0)]) (pc := 95) d8_endWeight_95 (Nat.le_of_ble_eq_true rfl) rfl ci_1 rfl ?_
    refine sd_goto (pc := 98) 5 d8_endWeight_98 (by decide) ?_
    exact sd_fg [true, true, true, true, true, true, true, false] rfl (hc5 l1 l2 v2 (l5 + 1) S)
  · refine sd_iload (pc := 86) d8_endWeight_86 rfl ?_
    refine sd_i2l (pc := 88) d8_endWeight_88 ?_
    refine sd_goto (pc := 89) 93 d8_endWeight_89 (by decide) ?_
    refine sd_lmul (pc := 93) d8_endWeight_93 ?_
    refine sd_nl (fun v3 => ?_)
    refine sd_lstore_n (lf2 := [some (.ref 52), some (.int l1), some (.int l2), some (.long v3), none, some (.int l5), none, some (.int t0)]) (pc := 94) d8_endWeight_94 (Nat.le_of_ble_eq_true rfl) rfl ?_
    refine sd_iinc (lf2 := [some (.ref 52), some (.int l1), some (.int l2), some (.long v3), none, some (.int (l5 + 1)), none, some (.int t0)]) (pc := 95) d8_endWeight_95 (Nat.le_of_ble_eq_true rfl) rfl ci_1 rfl ?_
    refine sd_goto (pc := 98) 5 d8_endWeight_98 (by decide) ?_
    exact sd_fg [true, true, true, true, true, true, true, false] rfl (hc5 l1 l2 v3 (l5 + 1) S)
set_option maxHeartbeats 4000000 in
set_option maxRecDepth 20000 in
theorem s8_endWeight_125 {N : Nat} (F : Nat) (l1 : Int32) (l3 : Int64) (S : sm_t) : sm_S (sm_jL N) k8_endWeight 0 0 125 [some (.ref 52), some (.int l1), none, some (.long l3), none, none, none, none] [] (sm_m N S) (x8_endWeight_125 F l1 l3 S) := by
  unfold x8_endWeight_125
  refine sd_lload_n (pc := 125) d8_endWeight_125 rfl ?_
  refine sd_aload_n (pc := 126) d8_endWeight_126 rfl ?_
  refine sd_iload_n (pc := 127) d8_endWeight_127 rfl ?_
  refine sd_cVI (k2 := k8_endOf) (As := [.int l1]) (rest := [.long l3]) (b := 52) (ci := 7) (pc := 128) 204 (show sm_sq 52 = some (.inr 7) from rfl) (by decide) rfl d8_endWeight_128 ml8_204 (ms8_endOf).1 (ms8_endOf).2 (me8_endOf) ⟨rfl, rfl⟩ ⟨Nat.le_of_ble_eq_true rfl, Nat.le_of_ble_eq_true rfl⟩ (Nat.le_of_ble_eq_true rfl) (Nat.le_of_ble_eq_true rfl) (Or.inl rfl) (Nat.zero_le _) (Nat.zero_le _) rfl (s8_endOf F l1 S) (fun v1 S => ?_)
  refine sd_i2l (pc := 131) d8_endWeight_131 ?_
  refine sd_lmul (pc := 132) d8_endWeight_132 ?_
  exact sd_lret (pc := 133) d8_endWeight_133 (Nat.zero_le _) (Nat.zero_le _)
set_option maxHeartbeats 4000000 in
set_option maxRecDepth 20000 in
theorem s8_endWeight_104 {N : Nat} (F : Nat) : ∀ (f : Nat) (l1 : Int32) (l3 : Int64) (l5 : Int32) (S : sm_t), sm_S (sm_jL N) k8_endWeight 0 0 104 [some (.ref 52), some (.int l1), none, some (.long l3), none, some (.int l5), none, none] [] (sm_m N S) (x8_endWeight_104 F f l1 l3 l5 S) := by
  intro f
  induction f with
  | zero =>
    intro l1 l3 l5 S
    exact sd_none
  | succ f ih =>
    intro l1 l3 l5 S
    rw [x8_endWeight_104]
    refine sd_iload (pc := 104) d8_endWeight_104 rfl ?_
    refine sd_aload_n (pc := 106) d8_endWeight_106 rfl ?_
    refine sd_cVI (k2 := k8_hours) (As := []) (rest := [.int l5]) (b := 52) (ci := 7) (pc := 107) 129 (show sm_sq 52 = some (.inr 7) from rfl) (by decide) rfl d8_endWeight_107 ml8_129 (ms8_hours).1 (ms8_hours).2 (me8_hours) ⟨rfl, rfl⟩ ⟨Nat.le_of_ble_eq_true rfl, Nat.le_of_ble_eq_true rfl⟩ (Nat.le_of_ble_eq_true rfl) (Nat.le_of_ble_eq_true rfl) (Or.inl rfl) (Nat.zero_le _) (Nat.zero_le _) rfl (s8_hours F S) (fun v1 S => ?_)
    refine sd_ic_ge (pc := 110) 125 d8_endWeight_110 (by decide) (fun _ => ?_) (fun _ => ?_)
    · exact sd_fg [true, true, true, true, true, false, true, true] rfl (s8_endWeight_125 F l1 l3 S)
    · refine sd_lload_n (pc := 113) d8_endWeight_113 rfl ?_
      refine sd_ldc2 (pc := 114) cl8_202 d8_endWeight_114 ?_
      refine sd_lmul (pc := 117) d8_endWeight_117 ?_
      refine sd_nl (fun v2 => ?_)
      refine sd_lstore_n (lf2 := [some (.ref 52), some (.int l1), none, some (.long v2), none, some (.int l5), none, none]) (pc := 118) d8_endWeight_118 (Nat.le_of_ble_eq_true rfl) rfl ?_
      refine sd_iinc (lf2 := [some (.ref 52), some (.int l1), none, some (.long v2), none, some (.int (l5 + 1)), none, none]) (pc := 119) d8_endWeight_119 (Nat.le_of_ble_eq_true rfl) rfl ci_1 rfl ?_
      refine sd_goto (pc := 122) 104 d8_endWeight_122 (by decide) ?_
      exact ih l1 v2 (l5 + 1) S
set_option maxHeartbeats 4000000 in
set_option maxRecDepth 20000 in
theorem s8_endWeight_5 {N : Nat} (F : Nat) : ∀ (f : Nat) (l1 : Int32) (l2 : Int32) (l3 : Int64) (l5 : Int32) (S : sm_t), sm_S (sm_jL N) k8_endWeight 0 0 5 [some (.ref 52), some (.int l1), some (.int l2), some (.long l3), none, some (.int l5), none, none] [] (sm_m N S) (x8_endWeight_5 F f l1 l2 l3 l5 S) := by
  intro f
  induction f with
  | zero =>
    intro l1 l2 l3 l5 S
    exact sd_none
  | succ f ih =>
    intro l1 l2 l3 l5 S
    rw [x8_endWeight_5]
    refine sd_iload (pc := 5) d8_endWeight_5 rfl ?_
    refine sd_aload_n (pc := 7) d8_endWeight_7 rfl ?_
    refine sd_getI (pc := 8) (show sm_sq 52 = some (.inr 7) from rfl) rfl fl8_161 d8_endWeight_8 (fun v1 => ?_)
    refine sd_ic_ge (pc := 11) 101 d8_endWeight_11 (by decide) (fun _ => ?_) (fun _ => ?_)
    · refine sd_iload_n (pc := 101) d8_endWeight_101 rfl ?_
      refine sd_istore (lf2 := [some (.ref 52), some (.int l1), some (.int l2), some (.long l3), none, some (.int l1), none, none]) (pc := 102) d8_endWeight_102 (Nat.le_of_ble_eq_true rfl) rfl ?_
      exact sd_fg [true, true, false, true, true, true, true, true] rfl (s8_endWeight_104 F F l1 l3 l1 S)
    · refine sd_aload_n (pc := 14) d8_endWeight_14 rfl ?_
      refine sd_iload (pc := 15) d8_endWeight_15 rfl ?_
      refine sd_iconst (pc := 17) 0 d8_endWeight_17 ci_0 ?_
      refine sd_cVI (k2 := k8_tell) (As := [.int l5, .int 0]) (rest := []) (b := 52) (ci := 7) (pc := 18) 175 (show sm_sq 52 = some (.inr 7) from rfl) (by decide) rfl d8_endWeight_18 ml8_175 (ms8_tell).1 (ms8_tell).2 (me8_tell) ⟨rfl, rfl⟩ ⟨Nat.le_of_ble_eq_true rfl, Nat.le_of_ble_eq_true rfl⟩ (Nat.le_of_ble_eq_true rfl) (Nat.le_of_ble_eq_true rfl) (Or.inl rfl) (Nat.zero_le _) (Nat.zero_le _) rfl (s8_tell F l5 0 S) (fun v2 S => ?_)
      refine sd_istore (lf2 := [some (.ref 52), some (.int l1), some (.int l2), some (.long l3), none, some (.int l5), some (.int v2), none]) (pc := 21) d8_endWeight_21 (Nat.le_of_ble_eq_true rfl) rfl ?_
      refine sd_iload (pc := 23) d8_endWeight_23 rfl ?_
      refine sd_iconst (pc := 25) 3 d8_endWeight_25 ci_3 ?_
      refine sd_ic_ne (pc := 26) 39 d8_endWeight_26 (by decide) (fun _ => ?_) (fun _ => ?_)
      · refine sd_aload_n (pc := 29) d8_endWeight_29 rfl ?_
        refine sd_iload (pc := 30) d8_endWeight_30 rfl ?_
        refine sd_iload_n (pc := 32) d8_endWeight_32 rfl ?_
        refine sd_cVI (k2 := k8_weight) (As := [.int l5, .int l1]) (rest := []) (b := 52) (ci := 7) (pc := 33) 187 (show sm_sq 52 = some (.inr 7) from rfl) (by decide) rfl d8_endWeight_33 ml8_187 (ms8_weight).1 (ms8_weight).2 (me8_weight) ⟨rfl, rfl⟩ ⟨Nat.le_of_ble_eq_true rfl, Nat.le_of_ble_eq_true rfl⟩ (Nat.le_of_ble_eq_true rfl) (Nat.le_of_ble_eq_true rfl) (Or.inl rfl) (Nat.zero_le _) (Nat.zero_le _) rfl (s8_weight F l5 l1 S) (fun v3 S => ?_)
        refine sd_goto (pc := 36) 74 d8_endWeight_36 (by decide) ?_
        exact sd_fg [true, true, true, true, true, true, false, true] rfl (s8_endWeight_74 F _ ih l1 l2 l3 l5 v3 S)
      · refine sd_iload (pc := 39) d8_endWeight_39 rfl ?_
        refine sd_cSI (k2 := k8_isByHour) (As := [.int v2]) (rest := []) (pc := 41) 199 d8_endWeight_41 ml8_199 (ms8_isByHour) (me8_isByHour) ⟨rfl, rfl⟩ ⟨Nat.le_of_ble_eq_true rfl, Nat.le_of_ble_eq_true rfl⟩ (Nat.le_of_ble_eq_true rfl) (Nat.le_of_ble_eq_true rfl) (Or.inr rfl) (Nat.zero_le _) (Nat.zero_le _) rfl (s8_isByHour F v2 S) (fun v4 S => ?_)
        refine sd_if_eq (pc := 44) 67 d8_endWeight_44 (by decide) (fun _ => ?_) (fun _ => ?_)
        · refine sd_aload_n (pc := 67) d8_endWeight_67 rfl ?_
          refine sd_iload (pc := 68) d8_endWeight_68 rfl ?_
          refine sd_iload_n (pc := 70) d8_endWeight_70 rfl ?_
          refine sd_cVI (k2 := k8_weight) (As := [.int l5, .int l2]) (rest := []) (b := 52) (ci := 7) (pc := 71) 187 (show sm_sq 52 = some (.inr 7) from rfl) (by decide) rfl d8_endWeight_71 ml8_187 (ms8_weight).1 (ms8_weight).2 (me8_weight) ⟨rfl, rfl⟩ ⟨Nat.le_of_ble_eq_true rfl, Nat.le_of_ble_eq_true rfl⟩ (Nat.le_of_ble_eq_true rfl) (Nat.le_of_ble_eq_true rfl) (Or.inl rfl) (Nat.zero_le _) (Nat.zero_le _) rfl (s8_weight F l5 l2 S) (fun v5 S => ?_)
          exact sd_fg [true, true, true, true, true, true, false, true] rfl (s8_endWeight_74 F _ ih l1 l2 l3 l5 v5 S)
        · refine sd_aload_n (pc := 47) d8_endWeight_47 rfl ?_
          refine sd_iload (pc := 48) d8_endWeight_48 rfl ?_
          refine sd_iconst (pc := 50) 1 d8_endWeight_50 ci_1 ?_
          refine sd_cVI (k2 := k8_tell) (As := [.int l5, .int 1]) (rest := []) (b := 52) (ci := 7) (pc := 51) 175 (show sm_sq 52 = some (.inr 7) from rfl) (by decide) rfl d8_endWeight_51 ml8_175 (ms8_tell).1 (ms8_tell).2 (me8_tell) ⟨rfl, rfl⟩ ⟨Nat.le_of_ble_eq_true rfl, Nat.le_of_ble_eq_true rfl⟩ (Nat.le_of_ble_eq_true rfl) (Nat.le_of_ble_eq_true rfl) (Or.inl rfl) (Nat.zero_le _) (Nat.zero_le _) rfl (s8_tell F l5 1 S) (fun v6 S => ?_)
          refine sd_iload_n (pc := 54) d8_endWeight_54 rfl ?_
          refine sd_ic_le (pc := 55) 63 d8_endWeight_55 (by decide) (fun _ => ?_) (fun _ => ?_)
          · refine sd_iconst (pc := 63) 1 d8_endWeight_63 ci_1 ?_
            refine sd_goto (pc := 64) 74 d8_endWeight_64 (by decide) ?_
            exact sd_fg [true, true, true, true, true, true, false, true] rfl (s8_endWeight_74 F _ ih l1 l2 l3 l5 1 S)
          · refine sd_bipush (pc := 58) 12 d8_endWeight_58 cb_12 ?_
            refine sd_goto (pc := 60) 74 d8_endWeight_60 (by decide) ?_
            exact sd_fg [true, true, true, true, true, true, false, true] rfl (s8_endWeight_74 F _ ih l1 l2 l3 l5 12 S)
set_option maxHeartbeats 4000000 in
set_option maxRecDepth 20000 in
theorem s8_endWeight {N : Nat} (F : Nat) (l1 : Int32) (l2 : Int32) (S : sm_t) : sm_P (sm_jL N) k8_endWeight [.ref 52, .int l1, .int l2] (sm_m N S) (x8_endWeight F l1 l2 S) := by
  show sm_S (sm_jL N) k8_endWeight 0 0 0 [some (.ref 52), some (.int l1), some (.int l2), none, none, none, none, none] [] (sm_m N S) (x8_endWeight F l1 l2 S)
  unfold x8_endWeight
  refine sd_lconst (pc := 0) 1 d8_endWeight_0 rfl ?_
  refine sd_lstore_n (lf2 := [some (.ref 52), some (.int l1), some (.int l2), some (.long 1), none, none, none, none]) (pc := 1) d8_endWeight_1 (Nat.le_of_ble_eq_true rfl) rfl ?_
  refine sd_iconst (pc := 2) 0 d8_endWeight_2 ci_0 ?_
  refine sd_istore (lf2 := [some (.ref 52), some (.int l1), some (.int l2), some (.long 1), none, some (.int 0), none, none]) (pc := 3) d8_endWeight_3 (Nat.le_of_ble_eq_true rfl) rfl ?_
  exact s8_endWeight_5 F F l1 l2 1 0 S
set_option maxHeartbeats 4000000 in
set_option maxRecDepth 20000 in
theorem s8_weightOf_5 {N : Nat} (F : Nat) : ∀ (f : Nat) (l1 : Int32) (l2 : Int64) (l4 : Int32) (S : sm_t), sm_S (sm_jL N) k8_weightOf 0 0 5 [some (.ref 52), some (.int l1), some (.long l2), none, some (.int l4)] [] (sm_m N S) (x8_weightOf_5 F f l1 l2 l4 S) := by
  intro f
  induction f with
  | zero =>
    intro l1 l2 l4 S
    exact sd_none
  | succ f ih =>
    intro l1 l2 l4 S
    rw [x8_weightOf_5]
    refine sd_iload (pc := 5) d8_weightOf_5 rfl ?_
    refine sd_aload_n (pc := 7) d8_weightOf_7 rfl ?_
    refine sd_getI (pc := 8) (show sm_sq 52 = some (.inr 7) from rfl) rfl fl8_161 d8_weightOf_8 (fun v1 => ?_)
    refine sd_ic_ge (pc := 11) 61 d8_weightOf_11 (by decide) (fun _ => ?_) (fun _ => ?_)
    · refine sd_lload_n (pc := 61) d8_weightOf_61 rfl ?_
      exact sd_lret (pc := 62) d8_weightOf_62 (Nat.zero_le _) (Nat.zero_le _)
    · refine sd_lload_n (pc := 14) d8_weightOf_14 rfl ?_
      refine sd_aload_n (pc := 15) d8_weightOf_15 rfl ?_
      refine sd_iload (pc := 16) d8_weightOf_16 rfl ?_
      refine sd_cVI (k2 := k8_counts) (As := [.int l4]) (rest := [.long l2]) (b := 52) (ci := 7) (pc := 18) 196 (show sm_sq 52 = some (.inr 7) from rfl) (by decide) rfl d8_weightOf_18 ml8_196 (ms8_counts).1 (ms8_counts).2 (me8_counts) ⟨rfl, rfl⟩ ⟨Nat.le_of_ble_eq_true rfl, Nat.le_of_ble_eq_true rfl⟩ (Nat.le_of_ble_eq_true rfl) (Nat.le_of_ble_eq_true rfl) (Or.inr rfl) (Nat.zero_le _) (Nat.zero_le _) rfl (s8_counts F l4 S) (fun v2 S => ?_)
      refine sd_if_ne (pc := 21) 28 d8_weightOf_21 (by decide) (fun _ => ?_) (fun _ => ?_)
      · refine sd_lconst (pc := 24) 1 d8_weightOf_24 rfl ?_
        refine sd_goto (pc := 25) 53 d8_weightOf_25 (by decide) ?_
        refine sd_lmul (pc := 53) d8_weightOf_53 ?_
        refine sd_nl (fun v3 => ?_)
        refine sd_lstore_n (lf2 := [some (.ref 52), some (.int l1), some (.long v3), none, some (.int l4)]) (pc := 54) d8_weightOf_54 (Nat.le_of_ble_eq_true rfl) rfl ?_
        refine sd_iinc (lf2 := [some (.ref 52), some (.int l1), some (.long v3), none, some (.int (l4 + 1))]) (pc := 55) d8_weightOf_55 (Nat.le_of_ble_eq_true rfl) rfl ci_1 rfl ?_
        refine sd_goto (pc := 58) 5 d8_weightOf_58 (by decide) ?_
        exact ih l1 v3 (l4 + 1) S
      · refine sd_aload_n (pc := 28) d8_weightOf_28 rfl ?_
        refine sd_iload (pc := 29) d8_weightOf_29 rfl ?_
        refine sd_iconst (pc := 31) 0 d8_weightOf_31 ci_0 ?_
        refine sd_cVI (k2 := k8_tell) (As := [.int l4, .int 0]) (rest := [.long l2]) (b := 52) (ci := 7) (pc := 32) 175 (show sm_sq 52 = some (.inr 7) from rfl) (by decide) rfl d8_weightOf_32 ml8_175 (ms8_tell).1 (ms8_tell).2 (me8_tell) ⟨rfl, rfl⟩ ⟨Nat.le_of_ble_eq_true rfl, Nat.le_of_ble_eq_true rfl⟩ (Nat.le_of_ble_eq_true rfl) (Nat.le_of_ble_eq_true rfl) (Or.inl rfl) (Nat.zero_le _) (Nat.zero_le _) rfl (s8_tell F l4 0 S) (fun v4 S => ?_)
        refine sd_iconst (pc := 35) 3 d8_weightOf_35 ci_3 ?_
        refine sd_ic_ne (pc := 36) 45 d8_weightOf_36 (by decide) (fun _ => ?_) (fun _ => ?_)
        · refine sd_ldc2 (pc := 39) cl8_232 d8_weightOf_39 ?_
          refine sd_goto (pc := 42) 53 d8_weightOf_42 (by decide) ?_
          refine sd_lmul (pc := 53) d8_weightOf_53 ?_
          refine sd_nl (fun v5 => ?_)
          refine sd_lstore_n (lf2 := [some (.ref 52), some (.int l1), some (.long v5), none, some (.int l4)]) (pc := 54) d8_weightOf_54 (Nat.le_of_ble_eq_true rfl) rfl ?_
          refine sd_iinc (lf2 := [some (.ref 52), some (.int l1), some (.long v5), none, some (.int (l4 + 1))]) (pc := 55) d8_weightOf_55 (Nat.le_of_ble_eq_true rfl) rfl ci_1 rfl ?_
          refine sd_goto (pc := 58) 5 d8_weightOf_58 (by decide) ?_
          exact ih l1 v5 (l4 + 1) S
        · refine sd_aload_n (pc := 45) d8_weightOf_45 rfl ?_
          refine sd_iload (pc := 46) d8_weightOf_46 rfl ?_
          refine sd_iload_n (pc := 48) d8_weightOf_48 rfl ?_
          refine sd_cVI (k2 := k8_weight) (As := [.int l4, .int l1]) (rest := [.long l2]) (b := 52) (ci := 7) (pc := 49) 187 (show sm_sq 52 = some (.inr 7) from rfl) (by decide) rfl d8_weightOf_49 ml8_187 (ms8_weight).1 (ms8_weight).2 (me8_weight) ⟨rfl, rfl⟩ ⟨Nat.le_of_ble_eq_true rfl, Nat.le_of_ble_eq_true rfl⟩ (Nat.le_of_ble_eq_true rfl) (Nat.le_of_ble_eq_true rfl) (Or.inl rfl) (Nat.zero_le _) (Nat.zero_le _) rfl (s8_weight F l4 l1 S) (fun v6 S => ?_)
          refine sd_i2l (pc := 52) d8_weightOf_52 ?_
          refine sd_lmul (pc := 53) d8_weightOf_53 ?_
          refine sd_nl (fun v7 => ?_)
          refine sd_lstore_n (lf2 := [some (.ref 52), some (.int l1), some (.long v7), none, some (.int l4)]) (pc := 54) d8_weightOf_54 (Nat.le_of_ble_eq_true rfl) rfl ?_
          refine sd_iinc (lf2 := [some (.ref 52), some (.int l1), some (.long v7), none, some (.int (l4 + 1))]) (pc := 55) d8_weightOf_55 (Nat.le_of_ble_eq_true rfl) rfl ci_1 rfl ?_
          refine sd_goto (pc := 58) 5 d8_weightOf_58 (by decide) ?_
          exact ih l1 v7 (l4 + 1) S
set_option maxHeartbeats 4000000 in
set_option maxRecDepth 20000 in
theorem s8_weightOf {N : Nat} (F : Nat) (l1 : Int32) (S : sm_t) : sm_P (sm_jL N) k8_weightOf [.ref 52, .int l1] (sm_m N S) (x8_weightOf F l1 S) := by
  show sm_S (sm_jL N) k8_weightOf 0 0 0 [some (.ref 52), some (.int l1), none, none, none] [] (sm_m N S) (x8_weightOf F l1 S)
  unfold x8_weightOf
  refine sd_lconst (pc := 0) 1 d8_weightOf_0 rfl ?_
  refine sd_lstore_n (lf2 := [some (.ref 52), some (.int l1), some (.long 1), none, none]) (pc := 1) d8_weightOf_1 (Nat.le_of_ble_eq_true rfl) rfl ?_
  refine sd_iconst (pc := 2) 0 d8_weightOf_2 ci_0 ?_
  refine sd_istore (lf2 := [some (.ref 52), some (.int l1), some (.long 1), none, some (.int 0)]) (pc := 3) d8_weightOf_3 (Nat.le_of_ble_eq_true rfl) rfl ?_
  exact s8_weightOf_5 F F l1 1 0 S
set_option maxHeartbeats 4000000 in
set_option maxRecDepth 20000 in
theorem s8_setEnding_83 {N : Nat} (F : Nat) (c15 : Int32 → Int32 → sm_t → Option (sm_t)) (hc15 : ∀ (l1 : Int32) (l2 : Int32) (S : sm_t), sm_S (sm_jV N) k8_setEnding 0 0 15 [some (.ref 52), some (.int l1), some (.int l2), none, none, none, none, none] [] (sm_m N S) (c15 l1 l2 S)) (l1 : Int32) (l2 : Int32) (l3 : Int64) (S : sm_t) : sm_S (sm_jV N) k8_setEnding 0 0 83 [some (.ref 52), some (.int l1), some (.int l2), some (.long l3), none, none, none, none] [] (sm_m N S) (x8_setEnding_83 F c15 l1 l2 l3 S) := by
  unfold x8_setEnding_83
  refine sd_aload_n (pc := 83) d8_setEnding_83 rfl ?_
  refine sd_getR (pc := 84) 66 (show sm_sq 52 = some (.inr 7) from rfl) rfl fl8_59 rfl d8_setEnding_84 ?_
  refine sd_iload_n (pc := 87) d8_setEnding_87 rfl ?_
  refine sd_iload_n (pc := 88) d8_setEnding_88 rfl ?_
  refine sd_if_ne (pc := 89) 96 d8_setEnding_89 (by decide) (fun _ => ?_) (fun _ => ?_)
  · refine sd_lload_n (pc := 92) d8_setEnding_92 rfl ?_
    refine sd_goto (pc := 93) 114 d8_setEnding_93 (by decide) ?_
    refine sd_last (pc := 114) (show sm_sq 66 = some (.inl (.long, 120)) from rfl) d8_setEnding_114 (fun S => ?_)
    refine sd_aload_n (pc := 115) d8_setEnding_115 rfl ?_
    refine sd_dup (pc := 116) d8_setEnding_116 rfl ?_
    refine sd_getL (pc := 117) (show sm_sq 52 = some (.inr 7) from rfl) rfl fl8_222 d8_setEnding_117 (fun v1 => ?_)
    refine sd_aload_n (pc := 120) d8_setEnding_120 rfl ?_
    refine sd_getR (pc := 121) 66 (show sm_sq 52 = some (.inr 7) from rfl) rfl fl8_59 rfl d8_setEnding_121 ?_
    refine sd_iload_n (pc := 124) d8_setEnding_124 rfl ?_
    refine sd_lald (pc := 125) (show sm_sq 66 = some (.inl (.long, 120)) from rfl) d8_setEnding_125 (fun v2 => ?_)
    refine sd_ladd (pc := 126) d8_setEnding_126 ?_
    refine sd_putL (pc := 127) (show sm_sq 52 = some (.inr 7) from rfl) rfl fl8_222 rfl d8_setEnding_127 (fun S => ?_)
    refine sd_iinc (lf2 := [some (.ref 52), some (.int l1), some (.int (l2 + 1)), some (.long l3), none, none, none, none]) (pc := 130) d8_setEnding_130 (Nat.le_of_ble_eq_true rfl) rfl ci_1 rfl ?_
    refine sd_goto (pc := 133) 15 d8_setEnding_133 (by decide) ?_
    exact sd_fg [true, true, true, false, true, true, true, true] rfl (hc15 l1 (l2 + 1) S)
  · refine sd_aload_n (pc := 96) d8_setEnding_96 rfl ?_
    refine sd_getR (pc := 97) 61 (show sm_sq 52 = some (.inr 7) from rfl) rfl fl8_39 rfl d8_setEnding_97 ?_
    refine sd_bipush (pc := 100) 120 d8_setEnding_100 cb_120 ?_
    refine sd_iload_n (pc := 102) d8_setEnding_102 rfl ?_
    refine sd_imul (pc := 103) d8_setEnding_103 ?_
    refine sd_iload_n (pc := 104) d8_setEnding_104 rfl ?_
    refine sd_iadd (pc := 105) d8_setEnding_105 ?_
    refine sd_iald (pc := 106) (show sm_sq 61 = some (.inl (.int, 480)) from rfl) d8_setEnding_106 (fun v3 => ?_)
    refine sd_i2l (pc := 107) d8_setEnding_107 ?_
    refine sd_aload_n (pc := 108) d8_setEnding_108 rfl ?_
    refine sd_iload_n (pc := 109) d8_setEnding_109 rfl ?_
    refine sd_cVL (k2 := k8_weightOf) (As := [.int l2]) (rest := [.long (v3.toInt64), .int l2, .ref 66]) (b := 52) (ci := 7) (pc := 110) 228 (show sm_sq 52 = some (.inr 7) from rfl) (by decide) rfl d8_setEnding_110 ml8_228 (ms8_weightOf).1 (ms8_weightOf).2 (me8_weightOf) ⟨rfl, rfl⟩ ⟨Nat.le_of_ble_eq_true rfl, Nat.le_of_ble_eq_true rfl⟩ (Nat.le_of_ble_eq_true rfl) (Nat.le_of_ble_eq_true rfl) rfl (Nat.zero_le _) (Nat.zero_le _) rfl (s8_weightOf F l2 S) (fun v4 S => ?_)
    refine sd_lmul (pc := 113) d8_setEnding_113 ?_
    refine sd_last (pc := 114) (show sm_sq 66 = some (.inl (.long, 120)) from rfl) d8_setEnding_114 (fun S => ?_)
    refine sd_aload_n (pc := 115) d8_setEnding_115 rfl ?_
    refine sd_dup (pc := 116) d8_setEnding_116 rfl ?_
    refine sd_getL (pc := 117) (show sm_sq 52 = some (.inr 7) from rfl) rfl fl8_222 d8_setEnding_117 (fun v5 => ?_)
    refine sd_aload_n (pc := 120) d8_setEnding_120 rfl ?_
    refine sd_getR (pc := 121) 66 (show sm_sq 52 = some (.inr 7) from rfl) rfl fl8_59 rfl d8_setEnding_121 ?_
    refine sd_iload_n (pc := 124) d8_setEnding_124 rfl ?_
    refine sd_lald (pc := 125) (show sm_sq 66 = some (.inl (.long, 120)) from rfl) d8_setEnding_125 (fun v6 => ?_)
    refine sd_ladd (pc := 126) d8_setEnding_126 ?_
    refine sd_putL (pc := 127) (show sm_sq 52 = some (.inr 7) from rfl) rfl fl8_222 rfl d8_setEnding_127 (fun S => ?_)
    refine sd_iinc (lf2 := [some (.ref 52), some (.int l1), some (.int (l2 + 1)), some (.long l3), none, none, none, none]) (pc := 130) d8_setEnding_130 (Nat.le_of_ble_eq_true rfl) rfl ci_1 rfl ?_
    refine sd_goto (pc := 133) 15 d8_setEnding_133 (by decide) ?_
    exact sd_fg [true, true, true, false, true, true, true, true] rfl (hc15 l1 (l2 + 1) S)
set_option maxHeartbeats 4000000 in
set_option maxRecDepth 20000 in
theorem s8_setEnding_26 {N : Nat} (F : Nat) (c15 : Int32 → Int32 → sm_t → Option (sm_t)) (hc15 : ∀ (l1 : Int32) (l2 : Int32) (S : sm_t), sm_S (sm_jV N) k8_setEnding 0 0 15 [some (.ref 52), some (.int l1), some (.int l2), none, none, none, none, none] [] (sm_m N S) (c15 l1 l2 S)) : ∀ (f : Nat) (l1 : Int32) (l2 : Int32) (l3 : Int64) (l5 : Int32) (S : sm_t), sm_S (sm_jV N) k8_setEnding 0 0 26 [some (.ref 52), some (.int l1), some (.int l2), some (.long l3), none, some (.int l5), none, none] [] (sm_m N S) (x8_setEnding_26 F c15 f l1 l2 l3 l5 S) := by
  intro f
  induction f with
  | zero =>
    intro l1 l2 l3 l5 S
    exact sd_none
  | succ f ih =>
    intro l1 l2 l3 l5 S
    rw [x8_setEnding_26]
    refine sd_iload (pc := 26) d8_setEnding_26 rfl ?_
    refine sd_aload_n (pc := 28) d8_setEnding_28 rfl ?_
    refine sd_cVI (k2 := k8_hours) (As := []) (rest := [.int l5]) (b := 52) (ci := 7) (pc := 29) 129 (show sm_sq 52 = some (.inr 7) from rfl) (by decide) rfl d8_setEnding_29 ml8_129 (ms8_hours).1 (ms8_hours).2 (me8_hours) ⟨rfl, rfl⟩ ⟨Nat.le_of_ble_eq_true rfl, Nat.le_of_ble_eq_true rfl⟩ (Nat.le_of_ble_eq_true rfl) (Nat.le_of_ble_eq_true rfl) (Or.inl rfl) (Nat.zero_le _) (Nat.zero_le _) rfl (s8_hours F S) (fun v1 S => ?_)
    refine sd_ic_gt (pc := 32) 83 d8_setEnding_32 (by decide) (fun _ => ?_) (fun _ => ?_)
    · exact sd_fg [true, true, true, true, true, false, true, true] rfl (s8_setEnding_83 F _ hc15 l1 l2 l3 S)
    · refine sd_iload_n (pc := 35) d8_setEnding_35 rfl ?_
      refine sd_if_ne (pc := 36) 83 d8_setEnding_36 (by decide) (fun _ => ?_) (fun _ => ?_)
      · refine sd_aload_n (pc := 39) d8_setEnding_39 rfl ?_
        refine sd_getR (pc := 40) 64 (show sm_sq 52 = some (.inr 7) from rfl) rfl fl8_52 rfl d8_setEnding_40 ?_
        refine sd_bipush (pc := 43) 120 d8_setEnding_43 cb_120 ?_
        refine sd_iload (pc := 45) d8_setEnding_45 rfl ?_
        refine sd_imul (pc := 47) d8_setEnding_47 ?_
        refine sd_iload_n (pc := 48) d8_setEnding_48 rfl ?_
        refine sd_iadd (pc := 49) d8_setEnding_49 ?_
        refine sd_lald (pc := 50) (show sm_sq 64 = some (.inl (.long, 840)) from rfl) d8_setEnding_50 (fun v2 => ?_)
        refine sd_lstore (lf2 := [some (.ref 52), some (.int l1), some (.int l2), some (.long l3), none, some (.int l5), some (.long v2), none]) (pc := 51) d8_setEnding_51 (Nat.le_of_ble_eq_true rfl) rfl ?_
        refine sd_lload_n (pc := 53) d8_setEnding_53 rfl ?_
        refine sd_lload (pc := 54) d8_setEnding_54 rfl ?_
        refine sd_lconst (pc := 56) 0 d8_setEnding_56 rfl ?_
        refine sd_lc_ne (pc := 57) 65 d8_setEnding_57 d8_setEnding_58 (by decide) (fun _ => ?_) (fun _ => ?_)
        · refine sd_lconst (pc := 61) 0 d8_setEnding_61 rfl ?_
          refine sd_goto (pc := 62) 75 d8_setEnding_62 (by decide) ?_
          refine sd_ladd (pc := 75) d8_setEnding_75 ?_
          refine sd_nl (fun v3 => ?_)
          refine sd_lstore_n (lf2 := [some (.ref 52), some (.int l1), some (.int l2), some (.long v3), none, some (.int l5), some (.long v2), none]) (pc := 76) d8_setEnding_76 (Nat.le_of_ble_eq_true rfl) rfl ?_
          refine sd_iinc (lf2 := [some (.ref 52), some (.int l1), some (.int l2), some (.long v3), none, some (.int (l5 + 1)), some (.long v2), none]) (pc := 77) d8_setEnding_77 (Nat.le_of_ble_eq_true rfl) rfl ci_1 rfl ?_
          refine sd_goto (pc := 80) 26 d8_setEnding_80 (by decide) ?_
          exact sd_fg [true, true, true, true, true, true, false, true] rfl (ih l1 l2 v3 (l5 + 1) S)
        · refine sd_lload (pc := 65) d8_setEnding_65 rfl ?_
          refine sd_aload_n (pc := 67) d8_setEnding_67 rfl ?_
          refine sd_iload (pc := 68) d8_setEnding_68 rfl ?_
          refine sd_iload_n (pc := 70) d8_setEnding_70 rfl ?_
          refine sd_cVL (k2 := k8_endWeight) (As := [.int l5, .int l2]) (rest := [.long v2, .long l3]) (b := 52) (ci := 7) (pc := 71) 219 (show sm_sq 52 = some (.inr 7) from rfl) (by decide) rfl d8_setEnding_71 ml8_219 (ms8_endWeight).1 (ms8_endWeight).2 (me8_endWeight) ⟨rfl, rfl⟩ ⟨Nat.le_of_ble_eq_true rfl, Nat.le_of_ble_eq_true rfl⟩ (Nat.le_of_ble_eq_true rfl) (Nat.le_of_ble_eq_true rfl) rfl (Nat.zero_le _) (Nat.zero_le _) rfl (s8_endWeight F l5 l2 S) (fun v4 S => ?_)
          refine sd_lmul (pc := 74) d8_setEnding_74 ?_
          refine sd_ladd (pc := 75) d8_setEnding_75 ?_
          refine sd_nl (fun v5 => ?_)
          refine sd_lstore_n (lf2 := [some (.ref 52), some (.int l1), some (.int l2), some (.long v5), none, some (.int l5), some (.long v2), none]) (pc := 76) d8_setEnding_76 (Nat.le_of_ble_eq_true rfl) rfl ?_
          refine sd_iinc (lf2 := [some (.ref 52), some (.int l1), some (.int l2), some (.long v5), none, some (.int (l5 + 1)), some (.long v2), none]) (pc := 77) d8_setEnding_77 (Nat.le_of_ble_eq_true rfl) rfl ci_1 rfl ?_
          refine sd_goto (pc := 80) 26 d8_setEnding_80 (by decide) ?_
          exact sd_fg [true, true, true, true, true, true, false, true] rfl (ih l1 l2 v5 (l5 + 1) S)
      · exact sd_fg [true, true, true, true, true, false, true, true] rfl (s8_setEnding_83 F _ hc15 l1 l2 l3 S)
set_option maxHeartbeats 4000000 in
set_option maxRecDepth 20000 in
theorem s8_setEnding_15 {N : Nat} (F : Nat) : ∀ (f : Nat) (l1 : Int32) (l2 : Int32) (S : sm_t), sm_S (sm_jV N) k8_setEnding 0 0 15 [some (.ref 52), some (.int l1), some (.int l2), none, none, none, none, none] [] (sm_m N S) (x8_setEnding_15 F f l1 l2 S) := by
  intro f
  induction f with
  | zero =>
    intro l1 l2 S
    exact sd_none
  | succ f ih =>
    intro l1 l2 S
    rw [x8_setEnding_15]
    refine sd_iload_n (pc := 15) d8_setEnding_15 rfl ?_
    refine sd_bipush (pc := 16) 120 d8_setEnding_16 cb_120 ?_
    refine sd_ic_ge (pc := 18) 136 d8_setEnding_18 (by decide) (fun _ => ?_) (fun _ => ?_)
    · exact sd_vret (pc := 136) d8_setEnding_136 (Nat.zero_le _) (Nat.zero_le _)
    · refine sd_lconst (pc := 21) 0 d8_setEnding_21 rfl ?_
      refine sd_lstore_n (lf2 := [some (.ref 52), some (.int l1), some (.int l2), some (.long 0), none, none, none, none]) (pc := 22) d8_setEnding_22 (Nat.le_of_ble_eq_true rfl) rfl ?_
      refine sd_iconst (pc := 23) 0 d8_setEnding_23 ci_0 ?_
      refine sd_istore (lf2 := [some (.ref 52), some (.int l1), some (.int l2), some (.long 0), none, some (.int 0), none, none]) (pc := 24) d8_setEnding_24 (Nat.le_of_ble_eq_true rfl) rfl ?_
      exact s8_setEnding_26 F _ ih F l1 l2 0 0 S
set_option maxHeartbeats 4000000 in
set_option maxRecDepth 20000 in
theorem s8_setEnding {N : Nat} (F : Nat) (l1 : Int32) (S : sm_t) : sm_P (sm_jV N) k8_setEnding [.ref 52, .int l1] (sm_m N S) (x8_setEnding F l1 S) := by
  show sm_S (sm_jV N) k8_setEnding 0 0 0 [some (.ref 52), some (.int l1), none, none, none, none, none, none] [] (sm_m N S) (x8_setEnding F l1 S)
  unfold x8_setEnding
  refine sd_aload_n (pc := 0) d8_setEnding_0 rfl ?_
  refine sd_lconst (pc := 1) 0 d8_setEnding_1 rfl ?_
  refine sd_putL (pc := 2) (show sm_sq 52 = some (.inr 7) from rfl) rfl fl8_222 rfl d8_setEnding_2 (fun S => ?_)
  refine sd_iload_n (pc := 5) d8_setEnding_5 rfl ?_
  refine sd_if_ne (pc := 6) 13 d8_setEnding_6 (by decide) (fun _ => ?_) (fun _ => ?_)
  · refine sd_aload_n (pc := 9) d8_setEnding_9 rfl ?_
    refine sd_cVV (k2 := k8_setCome) (As := []) (rest := []) (b := 52) (ci := 7) (pc := 10) 225 (show sm_sq 52 = some (.inr 7) from rfl) (by decide) rfl d8_setEnding_10 ml8_225 (ms8_setCome).1 (ms8_setCome).2 (me8_setCome) ⟨rfl, rfl⟩ ⟨Nat.le_of_ble_eq_true rfl, Nat.le_of_ble_eq_true rfl⟩ (Nat.le_of_ble_eq_true rfl) (Nat.le_of_ble_eq_true rfl) rfl (Nat.zero_le _) (Nat.zero_le _) rfl (s8_setCome F S) (fun S => ?_)
    refine sd_iconst (pc := 13) 0 d8_setEnding_13 ci_0 ?_
    refine sd_istore_n (lf2 := [some (.ref 52), some (.int l1), some (.int 0), none, none, none, none, none]) (pc := 14) d8_setEnding_14 (Nat.le_of_ble_eq_true rfl) rfl ?_
    exact s8_setEnding_15 F F l1 0 S
  · refine sd_iconst (pc := 13) 0 d8_setEnding_13 ci_0 ?_
    refine sd_istore_n (lf2 := [some (.ref 52), some (.int l1), some (.int 0), none, none, none, none, none]) (pc := 14) d8_setEnding_14 (Nat.le_of_ble_eq_true rfl) rfl ?_
    exact s8_setEnding_15 F F l1 0 S
set_option maxHeartbeats 4000000 in
set_option maxRecDepth 20000 in
theorem s8_weigh {N : Nat} (F : Nat) (l1 : Int32) (S : sm_t) : sm_P (sm_jI N) k8_weigh [.ref 52, .int l1] (sm_m N S) (x8_weigh F l1 S) := by
  show sm_S (sm_jI N) k8_weigh 0 0 0 [some (.ref 52), some (.int l1), none] [] (sm_m N S) (x8_weigh F l1 S)
  unfold x8_weigh
  refine sd_aload_n (pc := 0) d8_weigh_0 rfl ?_
  refine sd_iload_n (pc := 1) d8_weigh_1 rfl ?_
  refine sd_cVI (k2 := k8_askedStory) (As := [.int l1]) (rest := []) (b := 52) (ci := 7) (pc := 2) 234 (show sm_sq 52 = some (.inr 7) from rfl) (by decide) rfl d8_weigh_2 ml8_234 (ms8_askedStory).1 (ms8_askedStory).2 (me8_askedStory) ⟨rfl, rfl⟩ ⟨Nat.le_of_ble_eq_true rfl, Nat.le_of_ble_eq_true rfl⟩ (Nat.le_of_ble_eq_true rfl) (Nat.le_of_ble_eq_true rfl) (Or.inl rfl) (Nat.zero_le _) (Nat.zero_le _) rfl (s8_askedStory F l1 S) (fun v1 S => ?_)
  refine sd_istore_n (lf2 := [some (.ref 52), some (.int l1), some (.int v1)]) (pc := 5) d8_weigh_5 (Nat.le_of_ble_eq_true rfl) rfl ?_
  refine sd_iload_n (pc := 6) d8_weigh_6 rfl ?_
  refine sd_if_ge (pc := 7) 12 d8_weigh_7 (by decide) (fun _ => ?_) (fun _ => ?_)
  · refine sd_aload_n (pc := 12) d8_weigh_12 rfl ?_
    refine sd_cVI (k2 := k8_counted) (As := []) (rest := []) (b := 52) (ci := 7) (pc := 13) 237 (show sm_sq 52 = some (.inr 7) from rfl) (by decide) rfl d8_weigh_13 ml8_237 (ms8_counted).1 (ms8_counted).2 (me8_counted) ⟨rfl, rfl⟩ ⟨Nat.le_of_ble_eq_true rfl, Nat.le_of_ble_eq_true rfl⟩ (Nat.le_of_ble_eq_true rfl) (Nat.le_of_ble_eq_true rfl) (Or.inl rfl) (Nat.zero_le _) (Nat.zero_le _) rfl (s8_counted F S) (fun v2 S => ?_)
    refine sd_bipush (pc := 16) 6 d8_weigh_16 cb_6 ?_
    refine sd_ic_le (pc := 18) 24 d8_weigh_18 (by decide) (fun _ => ?_) (fun _ => ?_)
    · refine sd_aload_n (pc := 24) d8_weigh_24 rfl ?_
      refine sd_iload_n (pc := 25) d8_weigh_25 rfl ?_
      refine sd_cVV (k2 := k8_setEnding) (As := [.int l1]) (rest := []) (b := 52) (ci := 7) (pc := 26) 240 (show sm_sq 52 = some (.inr 7) from rfl) (by decide) rfl d8_weigh_26 ml8_240 (ms8_setEnding).1 (ms8_setEnding).2 (me8_setEnding) ⟨rfl, rfl⟩ ⟨Nat.le_of_ble_eq_true rfl, Nat.le_of_ble_eq_true rfl⟩ (Nat.le_of_ble_eq_true rfl) (Nat.le_of_ble_eq_true rfl) rfl (Nat.zero_le _) (Nat.zero_le _) rfl (s8_setEnding F l1 S) (fun S => ?_)
      refine sd_aload_n (pc := 29) d8_weigh_29 rfl ?_
      refine sd_getL (pc := 30) (show sm_sq 52 = some (.inr 7) from rfl) rfl fl8_222 d8_weigh_30 (fun v4 => ?_)
      refine sd_lconst (pc := 33) 0 d8_weigh_33 rfl ?_
      refine sd_lc_ne (pc := 34) 46 d8_weigh_34 d8_weigh_35 (by decide) (fun _ => ?_) (fun _ => ?_)
      · refine sd_aload_n (pc := 38) d8_weigh_38 rfl ?_
        refine sd_iconst (pc := 39) 4 d8_weigh_39 ci_4 ?_
        refine sd_cVI (k2 := k8_meets) (As := [.int 4]) (rest := []) (b := 52) (ci := 7) (pc := 40) 88 (show sm_sq 52 = some (.inr 7) from rfl) (by decide) rfl d8_weigh_40 ml8_88 (ms8_meets).1 (ms8_meets).2 (me8_meets) ⟨rfl, rfl⟩ ⟨Nat.le_of_ble_eq_true rfl, Nat.le_of_ble_eq_true rfl⟩ (Nat.le_of_ble_eq_true rfl) (Nat.le_of_ble_eq_true rfl) (Or.inl rfl) (Nat.zero_le _) (Nat.zero_le _) rfl (s8_meets F 4 S) (fun v5 S => ?_)
        refine sd_goto (pc := 43) 47 d8_weigh_43 (by decide) ?_
        exact sd_iret (pc := 47) d8_weigh_47 rfl (Nat.zero_le _) (Nat.zero_le _)
      · refine sd_iconst (pc := 46) 0 d8_weigh_46 ci_0 ?_
        exact sd_iret (pc := 47) d8_weigh_47 rfl (Nat.zero_le _) (Nat.zero_le _)
    · refine sd_bipush (pc := 21) (-6) d8_weigh_21 cb_m6 ?_
      exact sd_iret (pc := 23) d8_weigh_23 rfl (Nat.zero_le _) (Nat.zero_le _)
  · refine sd_iload_n (pc := 10) d8_weigh_10 rfl ?_
    exact sd_iret (pc := 11) d8_weigh_11 rfl (Nat.zero_le _) (Nat.zero_le _)
set_option maxHeartbeats 4000000 in
set_option maxRecDepth 20000 in
theorem s8_part_42 {N : Nat} (F : Nat) (l1 : Int64) (l3 : Int64) (l5 : Int32) (l6 : Int64) (S : sm_t) : sm_S (sm_jI N) k8_part 0 0 42 [some (.ref 52), some (.long l1), none, some (.long l3), none, some (.int l5), some (.long l6), none, none, none, none, none] [] (sm_m N S) (x8_part_42 F l1 l3 l5 l6 S) := by
  unfold x8_part_42
  refine sd_aload_n (pc := 42) d8_part_42 rfl ?_
  refine sd_lload_n (pc := 43) d8_part_43 rfl ?_
  refine sd_lload (pc := 44) d8_part_44 rfl ?_
  refine sd_ite (fun _ => sd_none) (fun h1 => ?_)
  refine sd_ldiv (pc := 46) d8_part_46 h1 ?_
  refine sd_putL (pc := 47) (show sm_sq 52 = some (.inr 7) from rfl) rfl fl8_77 rfl d8_part_47 (fun S => ?_)
  refine sd_aload_n (pc := 50) d8_part_50 rfl ?_
  refine sd_lload_n (pc := 51) d8_part_51 rfl ?_
  refine sd_lload (pc := 52) d8_part_52 rfl ?_
  refine sd_ite (fun _ => sd_none) (fun h2 => ?_)
  refine sd_ldiv (pc := 54) d8_part_54 h2 ?_
  refine sd_putL (pc := 55) (show sm_sq 52 = some (.inr 7) from rfl) rfl fl8_13 rfl d8_part_55 (fun S => ?_)
  refine sd_iload (pc := 58) d8_part_58 rfl ?_
  exact sd_iret (pc := 60) d8_part_60 rfl (Nat.zero_le _) (Nat.zero_le _)
set_option maxHeartbeats 4000000 in
set_option maxRecDepth 20000 in
theorem s8_part_17 {N : Nat} (F : Nat) : ∀ (f : Nat) (l1 : Int64) (l3 : Int64) (l5 : Int32) (l6 : Int64) (l8 : Int64) (S : sm_t), sm_S (sm_jI N) k8_part 0 0 17 [some (.ref 52), some (.long l1), none, some (.long l3), none, some (.int l5), some (.long l6), none, some (.long l8), none, none, none] [] (sm_m N S) (x8_part_17 F f l1 l3 l5 l6 l8 S) := by
  intro f
  induction f with
  | zero =>
    intro l1 l3 l5 l6 l8 S
    exact sd_none
  | succ f ih =>
    intro l1 l3 l5 l6 l8 S
    rw [x8_part_17]
    refine sd_lload (pc := 17) d8_part_17 rfl ?_
    refine sd_lconst (pc := 19) 0 d8_part_19 rfl ?_
    refine sd_lc_eq (pc := 20) 42 d8_part_20 d8_part_21 (by decide) (fun _ => ?_) (fun _ => ?_)
    · exact sd_fg [true, true, true, true, true, true, true, true, false, true, true, true] rfl (s8_part_42 F l1 l3 l5 l6 S)
    · refine sd_lload (pc := 24) d8_part_24 rfl ?_
      refine sd_lload (pc := 26) d8_part_26 rfl ?_
      refine sd_ite (fun _ => sd_none) (fun h1 => ?_)
      refine sd_lrem (pc := 28) d8_part_28 h1 ?_
      refine sd_nl (fun v2 => ?_)
      refine sd_lstore (lf2 := [some (.ref 52), some (.long l1), none, some (.long l3), none, some (.int l5), some (.long l6), none, some (.long l8), none, some (.long v2), none]) (pc := 29) d8_part_29 (Nat.le_of_ble_eq_true rfl) rfl ?_
      refine sd_lload (pc := 31) d8_part_31 rfl ?_
      refine sd_lstore (lf2 := [some (.ref 52), some (.long l1), none, some (.long l3), none, some (.int l5), some (.long l8), none, some (.long l8), none, some (.long v2), none]) (pc := 33) d8_part_33 (Nat.le_of_ble_eq_true rfl) rfl ?_
      refine sd_lload (pc := 35) d8_part_35 rfl ?_
      refine sd_lstore (lf2 := [some (.ref 52), some (.long l1), none, some (.long l3), none, some (.int l5), some (.long l8), none, some (.long v2), none, some (.long v2), none]) (pc := 37) d8_part_37 (Nat.le_of_ble_eq_true rfl) rfl ?_
      refine sd_goto (pc := 39) 17 d8_part_39 (by decide) ?_
      exact sd_fg [true, true, true, true, true, true, true, true, true, true, false, true] rfl (ih l1 l3 l5 l8 v2 S)
set_option maxHeartbeats 4000000 in
set_option maxRecDepth 20000 in
theorem s8_part {N : Nat} (F : Nat) (l1 : Int64) (l3 : Int64) (l5 : Int32) (S : sm_t) : sm_P (sm_jI N) k8_part [.ref 52, .long l1, .long l3, .int l5] (sm_m N S) (x8_part F l1 l3 l5 S) := by
  show sm_S (sm_jI N) k8_part 0 0 0 [some (.ref 52), some (.long l1), none, some (.long l3), none, some (.int l5), none, none, none, none, none, none] [] (sm_m N S) (x8_part F l1 l3 l5 S)
  unfold x8_part
  refine sd_lload_n (pc := 0) d8_part_0 rfl ?_
  refine sd_lconst (pc := 1) 0 d8_part_1 rfl ?_
  refine sd_lc_ge (pc := 2) 11 d8_part_2 d8_part_3 (by decide) (fun _ => ?_) (fun _ => ?_)
  · refine sd_lload_n (pc := 11) d8_part_11 rfl ?_
    refine sd_lstore (lf2 := [some (.ref 52), some (.long l1), none, some (.long l3), none, some (.int l5), some (.long l1), none, none, none, none, none]) (pc := 12) d8_part_12 (Nat.le_of_ble_eq_true rfl) rfl ?_
    refine sd_lload_n (pc := 14) d8_part_14 rfl ?_
    refine sd_lstore (lf2 := [some (.ref 52), some (.long l1), none, some (.long l3), none, some (.int l5), some (.long l1), none, some (.long l3), none, none, none]) (pc := 15) d8_part_15 (Nat.le_of_ble_eq_true rfl) rfl ?_
    exact s8_part_17 F F l1 l3 l5 l1 l3 S
  · refine sd_lload_n (pc := 6) d8_part_6 rfl ?_
    refine sd_lneg (pc := 7) d8_part_7 ?_
    refine sd_goto (pc := 8) 12 d8_part_8 (by decide) ?_
    refine sd_nl (fun v1 => ?_)
    refine sd_lstore (lf2 := [some (.ref 52), some (.long l1), none, some (.long l3), none, some (.int l5), some (.long v1), none, none, none, none, none]) (pc := 12) d8_part_12 (Nat.le_of_ble_eq_true rfl) rfl ?_
    refine sd_lload_n (pc := 14) d8_part_14 rfl ?_
    refine sd_lstore (lf2 := [some (.ref 52), some (.long l1), none, some (.long l3), none, some (.int l5), some (.long v1), none, some (.long l3), none, none, none]) (pc := 15) d8_part_15 (Nat.le_of_ble_eq_true rfl) rfl ?_
    exact s8_part_17 F F l1 l3 l5 v1 l3 S
set_option maxHeartbeats 4000000 in
set_option maxRecDepth 20000 in
theorem s8_where {N : Nat} (F : Nat) (l1 : Int32) (l2 : Int32) (S : sm_t) : sm_P (sm_jI N) k8_where [.ref 52, .int l1, .int l2] (sm_m N S) (x8_where F l1 l2 S) := by
  show sm_S (sm_jI N) k8_where 0 0 0 [some (.ref 52), some (.int l1), some (.int l2), none] [] (sm_m N S) (x8_where F l1 l2 S)
  unfold x8_where
  refine sd_iload_n (pc := 0) d8_where_0 rfl ?_
  refine sd_cSI (k2 := k8_isCell) (As := [.int l2]) (rest := []) (pc := 1) 117 d8_where_1 ml8_117 (ms8_isCell) (me8_isCell) ⟨rfl, rfl⟩ ⟨Nat.le_of_ble_eq_true rfl, Nat.le_of_ble_eq_true rfl⟩ (Nat.le_of_ble_eq_true rfl) (Nat.le_of_ble_eq_true rfl) (Or.inr rfl) (Nat.zero_le _) (Nat.zero_le _) rfl (s8_isCell F l2 S) (fun v1 S => ?_)
  refine sd_if_ne (pc := 4) 9 d8_where_4 (by decide) (fun _ => ?_) (fun _ => ?_)
  · refine sd_iconst (pc := 7) (-1) d8_where_7 ci_m1 ?_
    exact sd_iret (pc := 8) d8_where_8 rfl (Nat.zero_le _) (Nat.zero_le _)
  · refine sd_aload_n (pc := 9) d8_where_9 rfl ?_
    refine sd_iload_n (pc := 10) d8_where_10 rfl ?_
    refine sd_cVI (k2 := k8_weigh) (As := [.int l1]) (rest := []) (b := 52) (ci := 7) (pc := 11) 244 (show sm_sq 52 = some (.inr 7) from rfl) (by decide) rfl d8_where_11 ml8_244 (ms8_weigh).1 (ms8_weigh).2 (me8_weigh) ⟨rfl, rfl⟩ ⟨Nat.le_of_ble_eq_true rfl, Nat.le_of_ble_eq_true rfl⟩ (Nat.le_of_ble_eq_true rfl) (Nat.le_of_ble_eq_true rfl) (Or.inl rfl) (Nat.zero_le _) (Nat.zero_le _) rfl (s8_weigh F l1 S) (fun v2 S => ?_)
    refine sd_istore_n (lf2 := [some (.ref 52), some (.int l1), some (.int l2), some (.int v2)]) (pc := 14) d8_where_14 (Nat.le_of_ble_eq_true rfl) rfl ?_
    refine sd_iload_n (pc := 15) d8_where_15 rfl ?_
    refine sd_if_ge (pc := 16) 23 d8_where_16 (by decide) (fun _ => ?_) (fun _ => ?_)
    · refine sd_aload_n (pc := 23) d8_where_23 rfl ?_
      refine sd_aload_n (pc := 24) d8_where_24 rfl ?_
      refine sd_getR (pc := 25) 66 (show sm_sq 52 = some (.inr 7) from rfl) rfl fl8_59 rfl d8_where_25 ?_
      refine sd_iload_n (pc := 28) d8_where_28 rfl ?_
      refine sd_lald (pc := 29) (show sm_sq 66 = some (.inl (.long, 120)) from rfl) d8_where_29 (fun v3 => ?_)
      refine sd_aload_n (pc := 30) d8_where_30 rfl ?_
      refine sd_getL (pc := 31) (show sm_sq 52 = some (.inr 7) from rfl) rfl fl8_222 d8_where_31 (fun v4 => ?_)
      refine sd_iconst (pc := 34) 1 d8_where_34 ci_1 ?_
      refine sd_cVI (k2 := k8_part) (As := [.long v3, .long v4, .int 1]) (rest := []) (b := 52) (ci := 7) (pc := 35) 247 (show sm_sq 52 = some (.inr 7) from rfl) (by decide) rfl d8_where_35 ml8_247 (ms8_part).1 (ms8_part).2 (me8_part) ⟨rfl, rfl⟩ ⟨Nat.le_of_ble_eq_true rfl, Nat.le_of_ble_eq_true rfl⟩ (Nat.le_of_ble_eq_true rfl) (Nat.le_of_ble_eq_true rfl) (Or.inl rfl) (Nat.zero_le _) (Nat.zero_le _) rfl (s8_part F v3 v4 1 S) (fun v5 S => ?_)
      exact sd_iret (pc := 38) d8_where_38 rfl (Nat.zero_le _) (Nat.zero_le _)
    · refine sd_iload_n (pc := 19) d8_where_19 rfl ?_
      refine sd_goto (pc := 20) 38 d8_where_20 (by decide) ?_
      exact sd_iret (pc := 38) d8_where_38 rfl (Nat.zero_le _) (Nat.zero_le _)
set_option maxHeartbeats 4000000 in
set_option maxRecDepth 20000 in
theorem s2_greatest_4 {N : Nat} (F : Nat) : ∀ (f : Nat) (l1 : Int32) (l2 : Int32) (S : sm_t), sm_S (sm_jI N) k2_greatest 0 0 4 [some (.ref 18), some (.int l1), some (.int l2)] [] (sm_m N S) (x2_greatest_4 F f l1 l2 S) := by
  intro f
  induction f with
  | zero =>
    intro l1 l2 S
    exact sd_none
  | succ f ih =>
    intro l1 l2 S
    rw [x2_greatest_4]
    refine sd_iload_n (pc := 4) d2_greatest_4 rfl ?_
    refine sd_bipush (pc := 5) 120 d2_greatest_5 cb_120 ?_
    refine sd_ic_ge (pc := 7) 34 d2_greatest_7 (by decide) (fun _ => ?_) (fun _ => ?_)
    · refine sd_iload_n (pc := 34) d2_greatest_34 rfl ?_
      exact sd_iret (pc := 35) d2_greatest_35 rfl (Nat.zero_le _) (Nat.zero_le _)
    · refine sd_aload_n (pc := 10) d2_greatest_10 rfl ?_
      refine sd_getR (pc := 11) 40 (show sm_sq 18 = some (.inr 1) from rfl) rfl fl2_32 rfl d2_greatest_11 ?_
      refine sd_iload_n (pc := 14) d2_greatest_14 rfl ?_
      refine sd_lald (pc := 15) (show sm_sq 40 = some (.inl (.long, 120)) from rfl) d2_greatest_15 (fun v1 => ?_)
      refine sd_aload_n (pc := 16) d2_greatest_16 rfl ?_
      refine sd_getR (pc := 17) 40 (show sm_sq 18 = some (.inr 1) from rfl) rfl fl2_32 rfl d2_greatest_17 ?_
      refine sd_iload_n (pc := 20) d2_greatest_20 rfl ?_
      refine sd_lald (pc := 21) (show sm_sq 40 = some (.inl (.long, 120)) from rfl) d2_greatest_21 (fun v2 => ?_)
      refine sd_lc_le (pc := 22) 28 d2_greatest_22 d2_greatest_23 (by decide) (fun _ => ?_) (fun _ => ?_)
      · refine sd_iinc (lf2 := [some (.ref 18), some (.int l1), some (.int (l2 + 1))]) (pc := 28) d2_greatest_28 (Nat.le_of_ble_eq_true rfl) rfl ci_1 rfl ?_
        refine sd_goto (pc := 31) 4 d2_greatest_31 (by decide) ?_
        exact ih l1 (l2 + 1) S
      · refine sd_iload_n (pc := 26) d2_greatest_26 rfl ?_
        refine sd_istore_n (lf2 := [some (.ref 18), some (.int l2), some (.int l2)]) (pc := 27) d2_greatest_27 (Nat.le_of_ble_eq_true rfl) rfl ?_
        refine sd_iinc (lf2 := [some (.ref 18), some (.int l2), some (.int (l2 + 1))]) (pc := 28) d2_greatest_28 (Nat.le_of_ble_eq_true rfl) rfl ci_1 rfl ?_
        refine sd_goto (pc := 31) 4 d2_greatest_31 (by decide) ?_
        exact ih l2 (l2 + 1) S
set_option maxHeartbeats 4000000 in
set_option maxRecDepth 20000 in
theorem s2_greatest {N : Nat} (F : Nat) (S : sm_t) : sm_P (sm_jI N) k2_greatest [.ref 18] (sm_m N S) (x2_greatest F S) := by
  show sm_S (sm_jI N) k2_greatest 0 0 0 [some (.ref 18), none, none] [] (sm_m N S) (x2_greatest F S)
  unfold x2_greatest
  refine sd_iconst (pc := 0) 0 d2_greatest_0 ci_0 ?_
  refine sd_istore_n (lf2 := [some (.ref 18), some (.int 0), none]) (pc := 1) d2_greatest_1 (Nat.le_of_ble_eq_true rfl) rfl ?_
  refine sd_iconst (pc := 2) 1 d2_greatest_2 ci_1 ?_
  refine sd_istore_n (lf2 := [some (.ref 18), some (.int 0), some (.int 1)]) (pc := 3) d2_greatest_3 (Nat.le_of_ble_eq_true rfl) rfl ?_
  exact s2_greatest_4 F F 0 1 S
set_option maxHeartbeats 4000000 in
set_option maxRecDepth 20000 in
theorem s7_most {N : Nat} (F : Nat) (l1 : Int32) (S : sm_t) : sm_P (sm_jI N) k7_most [.ref 3, .int l1] (sm_m N S) (x7_most F l1 S) := by
  show sm_S (sm_jI N) k7_most 0 0 0 [some (.ref 3), some (.int l1), none, none] [] (sm_m N S) (x7_most F l1 S)
  unfold x7_most
  refine sd_iload_n (pc := 0) d7_most_0 rfl ?_
  refine sd_cSI (k2 := k7_isStory) (As := [.int l1]) (rest := []) (pc := 1) 214 d7_most_1 ml7_214 (ms7_isStory) (me7_isStory) ⟨rfl, rfl⟩ ⟨Nat.le_of_ble_eq_true rfl, Nat.le_of_ble_eq_true rfl⟩ (Nat.le_of_ble_eq_true rfl) (Nat.le_of_ble_eq_true rfl) (Or.inr rfl) (Nat.zero_le _) (Nat.zero_le _) rfl (s7_isStory F l1 S) (fun v1 S => ?_)
  refine sd_if_ne (pc := 4) 9 d7_most_4 (by decide) (fun _ => ?_) (fun _ => ?_)
  · refine sd_iconst (pc := 7) (-1) d7_most_7 ci_m1 ?_
    exact sd_iret (pc := 8) d7_most_8 rfl (Nat.zero_le _) (Nat.zero_le _)
  · refine sd_aload_n (pc := 9) d7_most_9 rfl ?_
    refine sd_iload_n (pc := 10) d7_most_10 rfl ?_
    refine sd_cVI (k2 := k7_weighed) (As := [.int l1]) (rest := []) (b := 3) (ci := 6) (pc := 11) 217 (show sm_sq 3 = some (.inr 6) from rfl) (by decide) rfl d7_most_11 ml7_217 (ms7_weighed).1 (ms7_weighed).2 (me7_weighed) ⟨rfl, rfl⟩ ⟨Nat.le_of_ble_eq_true rfl, Nat.le_of_ble_eq_true rfl⟩ (Nat.le_of_ble_eq_true rfl) (Nat.le_of_ble_eq_true rfl) (Or.inl rfl) (Nat.zero_le _) (Nat.zero_le _) rfl (s7_weighed F l1 S) (fun v2 S => ?_)
    refine sd_istore_n (lf2 := [some (.ref 3), some (.int l1), some (.int v2), none]) (pc := 14) d7_most_14 (Nat.le_of_ble_eq_true rfl) rfl ?_
    refine sd_iload_n (pc := 15) d7_most_15 rfl ?_
    refine sd_if_eq (pc := 16) 21 d7_most_16 (by decide) (fun _ => ?_) (fun _ => ?_)
    · refine sd_aload_n (pc := 21) d7_most_21 rfl ?_
      refine sd_getR (pc := 22) 18 (show sm_sq 3 = some (.inr 6) from rfl) rfl fl7_29 rfl d7_most_22 ?_
      refine sd_cVI (k2 := k2_greatest) (As := []) (rest := []) (b := 18) (ci := 1) (pc := 25) 230 (show sm_sq 18 = some (.inr 1) from rfl) (by decide) rfl d7_most_25 ml7_230 (ms2_greatest).1 (ms2_greatest).2 (me2_greatest) ⟨rfl, rfl⟩ ⟨Nat.le_of_ble_eq_true rfl, Nat.le_of_ble_eq_true rfl⟩ (Nat.le_of_ble_eq_true rfl) (Nat.le_of_ble_eq_true rfl) (Or.inl rfl) (Nat.zero_le _) (Nat.zero_le _) rfl (s2_greatest F S) (fun v3 S => ?_)
      refine sd_istore_n (lf2 := [some (.ref 3), some (.int l1), some (.int v2), some (.int v3)]) (pc := 28) d7_most_28 (Nat.le_of_ble_eq_true rfl) rfl ?_
      refine sd_aload_n (pc := 29) d7_most_29 rfl ?_
      refine sd_aload_n (pc := 30) d7_most_30 rfl ?_
      refine sd_getR (pc := 31) 18 (show sm_sq 3 = some (.inr 6) from rfl) rfl fl7_29 rfl d7_most_31 ?_
      refine sd_getR (pc := 34) 40 (show sm_sq 18 = some (.inr 1) from rfl) rfl fl7_220 rfl d7_most_34 ?_
      refine sd_iload_n (pc := 37) d7_most_37 rfl ?_
      refine sd_lald (pc := 38) (show sm_sq 40 = some (.inl (.long, 120)) from rfl) d7_most_38 (fun v4 => ?_)
      refine sd_aload_n (pc := 39) d7_most_39 rfl ?_
      refine sd_getR (pc := 40) 18 (show sm_sq 3 = some (.inr 6) from rfl) rfl fl7_29 rfl d7_most_40 ?_
      refine sd_getL (pc := 43) (show sm_sq 18 = some (.inr 1) from rfl) rfl fl7_223 d7_most_43 (fun v5 => ?_)
      refine sd_cVV (k2 := k7_fraction) (As := [.long v4, .long v5]) (rest := []) (b := 3) (ci := 6) (pc := 46) 226 (show sm_sq 3 = some (.inr 6) from rfl) (by decide) rfl d7_most_46 ml7_226 (ms7_fraction).1 (ms7_fraction).2 (me7_fraction) ⟨rfl, rfl⟩ ⟨Nat.le_of_ble_eq_true rfl, Nat.le_of_ble_eq_true rfl⟩ (Nat.le_of_ble_eq_true rfl) (Nat.le_of_ble_eq_true rfl) rfl (Nat.zero_le _) (Nat.zero_le _) rfl (s7_fraction F v4 v5 S) (fun S => ?_)
      refine sd_iload_n (pc := 49) d7_most_49 rfl ?_
      exact sd_iret (pc := 50) d7_most_50 rfl (Nat.zero_le _) (Nat.zero_le _)
    · refine sd_iload_n (pc := 19) d7_most_19 rfl ?_
      exact sd_iret (pc := 20) d7_most_20 rfl (Nat.zero_le _) (Nat.zero_le _)
set_option maxHeartbeats 4000000 in
set_option maxRecDepth 20000 in
theorem s8_mostOf_4 {N : Nat} (F : Nat) : ∀ (f : Nat) (l1 : Int32) (l2 : Int32) (S : sm_t), sm_S (sm_jI N) k8_mostOf 0 0 4 [some (.ref 52), some (.int l1), some (.int l2)] [] (sm_m N S) (x8_mostOf_4 F f l1 l2 S) := by
  intro f
  induction f with
  | zero =>
    intro l1 l2 S
    exact sd_none
  | succ f ih =>
    intro l1 l2 S
    rw [x8_mostOf_4]
    refine sd_iload_n (pc := 4) d8_mostOf_4 rfl ?_
    refine sd_bipush (pc := 5) 120 d8_mostOf_5 cb_120 ?_
    refine sd_ic_ge (pc := 7) 38 d8_mostOf_7 (by decide) (fun _ => ?_) (fun _ => ?_)
    · refine sd_iload_n (pc := 38) d8_mostOf_38 rfl ?_
      exact sd_iret (pc := 39) d8_mostOf_39 rfl (Nat.zero_le _) (Nat.zero_le _)
    · refine sd_aload_n (pc := 10) d8_mostOf_10 rfl ?_
      refine sd_getR (pc := 11) 66 (show sm_sq 52 = some (.inr 7) from rfl) rfl fl8_59 rfl d8_mostOf_11 ?_
      refine sd_iload_n (pc := 14) d8_mostOf_14 rfl ?_
      refine sd_lald (pc := 15) (show sm_sq 66 = some (.inl (.long, 120)) from rfl) d8_mostOf_15 (fun v1 => ?_)
      refine sd_aload_n (pc := 16) d8_mostOf_16 rfl ?_
      refine sd_getR (pc := 17) 66 (show sm_sq 52 = some (.inr 7) from rfl) rfl fl8_59 rfl d8_mostOf_17 ?_
      refine sd_iload_n (pc := 20) d8_mostOf_20 rfl ?_
      refine sd_lald (pc := 21) (show sm_sq 66 = some (.inl (.long, 120)) from rfl) d8_mostOf_21 (fun v2 => ?_)
      refine sd_lc_le (pc := 22) 30 d8_mostOf_22 d8_mostOf_23 (by decide) (fun _ => ?_) (fun _ => ?_)
      · refine sd_iload_n (pc := 30) d8_mostOf_30 rfl ?_
        refine sd_istore_n (lf2 := [some (.ref 52), some (.int l1), some (.int l2)]) (pc := 31) d8_mostOf_31 (Nat.le_of_ble_eq_true rfl) rfl ?_
        refine sd_iinc (lf2 := [some (.ref 52), some (.int l1), some (.int (l2 + 1))]) (pc := 32) d8_mostOf_32 (Nat.le_of_ble_eq_true rfl) rfl ci_1 rfl ?_
        refine sd_goto (pc := 35) 4 d8_mostOf_35 (by decide) ?_
        exact ih l1 (l2 + 1) S
      · refine sd_iload_n (pc := 26) d8_mostOf_26 rfl ?_
        refine sd_goto (pc := 27) 31 d8_mostOf_27 (by decide) ?_
        refine sd_istore_n (lf2 := [some (.ref 52), some (.int l2), some (.int l2)]) (pc := 31) d8_mostOf_31 (Nat.le_of_ble_eq_true rfl) rfl ?_
        refine sd_iinc (lf2 := [some (.ref 52), some (.int l2), some (.int (l2 + 1))]) (pc := 32) d8_mostOf_32 (Nat.le_of_ble_eq_true rfl) rfl ci_1 rfl ?_
        refine sd_goto (pc := 35) 4 d8_mostOf_35 (by decide) ?_
        exact ih l2 (l2 + 1) S
set_option maxHeartbeats 4000000 in
set_option maxRecDepth 20000 in
theorem s8_mostOf {N : Nat} (F : Nat) (S : sm_t) : sm_P (sm_jI N) k8_mostOf [.ref 52] (sm_m N S) (x8_mostOf F S) := by
  show sm_S (sm_jI N) k8_mostOf 0 0 0 [some (.ref 52), none, none] [] (sm_m N S) (x8_mostOf F S)
  unfold x8_mostOf
  refine sd_iconst (pc := 0) 0 d8_mostOf_0 ci_0 ?_
  refine sd_istore_n (lf2 := [some (.ref 52), some (.int 0), none]) (pc := 1) d8_mostOf_1 (Nat.le_of_ble_eq_true rfl) rfl ?_
  refine sd_iconst (pc := 2) 1 d8_mostOf_2 ci_1 ?_
  refine sd_istore_n (lf2 := [some (.ref 52), some (.int 0), some (.int 1)]) (pc := 3) d8_mostOf_3 (Nat.le_of_ble_eq_true rfl) rfl ?_
  exact s8_mostOf_4 F F 0 1 S
set_option maxHeartbeats 4000000 in
set_option maxRecDepth 20000 in
theorem s8_most {N : Nat} (F : Nat) (l1 : Int32) (S : sm_t) : sm_P (sm_jI N) k8_most [.ref 52, .int l1] (sm_m N S) (x8_most F l1 S) := by
  show sm_S (sm_jI N) k8_most 0 0 0 [some (.ref 52), some (.int l1), none] [] (sm_m N S) (x8_most F l1 S)
  unfold x8_most
  refine sd_aload_n (pc := 0) d8_most_0 rfl ?_
  refine sd_iload_n (pc := 1) d8_most_1 rfl ?_
  refine sd_cVI (k2 := k8_weigh) (As := [.int l1]) (rest := []) (b := 52) (ci := 7) (pc := 2) 244 (show sm_sq 52 = some (.inr 7) from rfl) (by decide) rfl d8_most_2 ml8_244 (ms8_weigh).1 (ms8_weigh).2 (me8_weigh) ⟨rfl, rfl⟩ ⟨Nat.le_of_ble_eq_true rfl, Nat.le_of_ble_eq_true rfl⟩ (Nat.le_of_ble_eq_true rfl) (Nat.le_of_ble_eq_true rfl) (Or.inl rfl) (Nat.zero_le _) (Nat.zero_le _) rfl (s8_weigh F l1 S) (fun v1 S => ?_)
  refine sd_istore_n (lf2 := [some (.ref 52), some (.int l1), some (.int v1)]) (pc := 5) d8_most_5 (Nat.le_of_ble_eq_true rfl) rfl ?_
  refine sd_iload_n (pc := 6) d8_most_6 rfl ?_
  refine sd_if_ge (pc := 7) 14 d8_most_7 (by decide) (fun _ => ?_) (fun _ => ?_)
  · refine sd_aload_n (pc := 14) d8_most_14 rfl ?_
    refine sd_aload_n (pc := 15) d8_most_15 rfl ?_
    refine sd_getR (pc := 16) 66 (show sm_sq 52 = some (.inr 7) from rfl) rfl fl8_59 rfl d8_most_16 ?_
    refine sd_aload_n (pc := 19) d8_most_19 rfl ?_
    refine sd_cVI (k2 := k8_mostOf) (As := []) (rest := [.ref 66, .ref 52]) (b := 52) (ci := 7) (pc := 20) 251 (show sm_sq 52 = some (.inr 7) from rfl) (by decide) rfl d8_most_20 ml8_251 (ms8_mostOf).1 (ms8_mostOf).2 (me8_mostOf) ⟨rfl, rfl⟩ ⟨Nat.le_of_ble_eq_true rfl, Nat.le_of_ble_eq_true rfl⟩ (Nat.le_of_ble_eq_true rfl) (Nat.le_of_ble_eq_true rfl) (Or.inl rfl) (Nat.zero_le _) (Nat.zero_le _) rfl (s8_mostOf F S) (fun v2 S => ?_)
    refine sd_lald (pc := 23) (show sm_sq 66 = some (.inl (.long, 120)) from rfl) d8_most_23 (fun v3 => ?_)
    refine sd_aload_n (pc := 24) d8_most_24 rfl ?_
    refine sd_getL (pc := 25) (show sm_sq 52 = some (.inr 7) from rfl) rfl fl8_222 d8_most_25 (fun v4 => ?_)
    refine sd_aload_n (pc := 28) d8_most_28 rfl ?_
    refine sd_cVI (k2 := k8_mostOf) (As := []) (rest := [.long v4, .long v3, .ref 52]) (b := 52) (ci := 7) (pc := 29) 251 (show sm_sq 52 = some (.inr 7) from rfl) (by decide) rfl d8_most_29 ml8_251 (ms8_mostOf).1 (ms8_mostOf).2 (me8_mostOf) ⟨rfl, rfl⟩ ⟨Nat.le_of_ble_eq_true rfl, Nat.le_of_ble_eq_true rfl⟩ (Nat.le_of_ble_eq_true rfl) (Nat.le_of_ble_eq_true rfl) (Or.inl rfl) (Nat.zero_le _) (Nat.zero_le _) rfl (s8_mostOf F S) (fun v5 S => ?_)
    refine sd_cVI (k2 := k8_part) (As := [.long v3, .long v4, .int v5]) (rest := []) (b := 52) (ci := 7) (pc := 32) 247 (show sm_sq 52 = some (.inr 7) from rfl) (by decide) rfl d8_most_32 ml8_247 (ms8_part).1 (ms8_part).2 (me8_part) ⟨rfl, rfl⟩ ⟨Nat.le_of_ble_eq_true rfl, Nat.le_of_ble_eq_true rfl⟩ (Nat.le_of_ble_eq_true rfl) (Nat.le_of_ble_eq_true rfl) (Or.inl rfl) (Nat.zero_le _) (Nat.zero_le _) rfl (s8_part F v3 v4 v5 S) (fun v6 S => ?_)
    exact sd_iret (pc := 35) d8_most_35 rfl (Nat.zero_le _) (Nat.zero_le _)
  · refine sd_iload_n (pc := 10) d8_most_10 rfl ?_
    refine sd_goto (pc := 11) 35 d8_most_11 (by decide) ?_
    exact sd_iret (pc := 35) d8_most_35 rfl (Nat.zero_le _) (Nat.zero_le _)
set_option maxHeartbeats 4000000 in
set_option maxRecDepth 20000 in
theorem s7_sure_51 {N : Nat} (F : Nat) : ∀ (f : Nat) (l2 : Int32) (l3 : Int32) (l5 : Int32) (l6 : Int32) (l7 : Int32) (S : sm_t), sm_S (sm_jI N) k7_sure 0 0 51 [some (.ref 3), none, some (.int l2), some (.int l3), none, some (.int l5), some (.int l6), some (.int l7)] [] (sm_m N S) (x7_sure_51 F f l2 l3 l5 l6 l7 S) := by
  intro f
  induction f with
  | zero =>
    intro l2 l3 l5 l6 l7 S
    exact sd_none
  | succ f ih =>
    intro l2 l3 l5 l6 l7 S
    rw [x7_sure_51]
    refine sd_iload (pc := 51) d7_sure_51 rfl ?_
    refine sd_if_lt (pc := 53) 96 d7_sure_53 (by decide) (fun _ => ?_) (fun _ => ?_)
    · refine sd_aload_n (pc := 96) d7_sure_96 rfl ?_
      refine sd_iload (pc := 97) d7_sure_97 rfl ?_
      refine sd_putI (pc := 99) (show sm_sq 3 = some (.inr 6) from rfl) rfl fl7_65 rfl d7_sure_99 (fun S => ?_)
      refine sd_iload (pc := 102) d7_sure_102 rfl ?_
      exact sd_iret (pc := 104) d7_sure_104 rfl (Nat.zero_le _) (Nat.zero_le _)
    · refine sd_aload_n (pc := 56) d7_sure_56 rfl ?_
      refine sd_getR (pc := 57) 18 (show sm_sq 3 = some (.inr 6) from rfl) rfl fl7_29 rfl d7_sure_57 ?_
      refine sd_getR (pc := 60) 40 (show sm_sq 18 = some (.inr 1) from rfl) rfl fl7_220 rfl d7_sure_60 ?_
      refine sd_iload (pc := 63) d7_sure_63 rfl ?_
      refine sd_lald (pc := 65) (show sm_sq 40 = some (.inl (.long, 120)) from rfl) d7_sure_65 (fun v1 => ?_)
      refine sd_iload_n (pc := 66) d7_sure_66 rfl ?_
      refine sd_i2l (pc := 67) d7_sure_67 ?_
      refine sd_lmul (pc := 68) d7_sure_68 ?_
      refine sd_aload_n (pc := 69) d7_sure_69 rfl ?_
      refine sd_getR (pc := 70) 18 (show sm_sq 3 = some (.inr 6) from rfl) rfl fl7_29 rfl d7_sure_70 ?_
      refine sd_getL (pc := 73) (show sm_sq 18 = some (.inr 1) from rfl) rfl fl7_223 d7_sure_73 (fun v2 => ?_)
      refine sd_iload_n (pc := 76) d7_sure_76 rfl ?_
      refine sd_i2l (pc := 77) d7_sure_77 ?_
      refine sd_lmul (pc := 78) d7_sure_78 ?_
      refine sd_lc_lt (pc := 79) 90 d7_sure_79 d7_sure_80 (by decide) (fun _ => ?_) (fun _ => ?_)
      · refine sd_iinc (lf2 := [some (.ref 3), none, some (.int l2), some (.int l3), none, some (.int l5), some (.int l6), some (.int (l7 + (-1)))]) (pc := 90) d7_sure_90 (Nat.le_of_ble_eq_true rfl) rfl ci_m1 rfl ?_
        refine sd_goto (pc := 93) 51 d7_sure_93 (by decide) ?_
        exact ih l2 l3 l5 l6 (l7 + (-1)) S
      · refine sd_iinc (lf2 := [some (.ref 3), none, some (.int l2), some (.int l3), none, some (.int (l5 + 1)), some (.int l6), some (.int l7)]) (pc := 83) d7_sure_83 (Nat.le_of_ble_eq_true rfl) rfl ci_1 rfl ?_
        refine sd_iload (pc := 86) d7_sure_86 rfl ?_
        refine sd_istore (lf2 := [some (.ref 3), none, some (.int l2), some (.int l3), none, some (.int (l5 + 1)), some (.int l7), some (.int l7)]) (pc := 88) d7_sure_88 (Nat.le_of_ble_eq_true rfl) rfl ?_
        refine sd_iinc (lf2 := [some (.ref 3), none, some (.int l2), some (.int l3), none, some (.int (l5 + 1)), some (.int l7), some (.int (l7 + (-1)))]) (pc := 90) d7_sure_90 (Nat.le_of_ble_eq_true rfl) rfl ci_m1 rfl ?_
        refine sd_goto (pc := 93) 51 d7_sure_93 (by decide) ?_
        exact ih l2 l3 (l5 + 1) l7 (l7 + (-1)) S
set_option maxHeartbeats 4000000 in
set_option maxRecDepth 20000 in
theorem s7_sure {N : Nat} (F : Nat) (l1 : Int32) (l2 : Int32) (l3 : Int32) (S : sm_t) : sm_P (sm_jI N) k7_sure [.ref 3, .int l1, .int l2, .int l3] (sm_m N S) (x7_sure F l1 l2 l3 S) := by
  show sm_S (sm_jI N) k7_sure 0 0 0 [some (.ref 3), some (.int l1), some (.int l2), some (.int l3), none, none, none, none] [] (sm_m N S) (x7_sure F l1 l2 l3 S)
  unfold x7_sure
  refine sd_iload_n (pc := 0) d7_sure_0 rfl ?_
  refine sd_cSI (k2 := k7_isStory) (As := [.int l1]) (rest := []) (pc := 1) 214 d7_sure_1 ml7_214 (ms7_isStory) (me7_isStory) ⟨rfl, rfl⟩ ⟨Nat.le_of_ble_eq_true rfl, Nat.le_of_ble_eq_true rfl⟩ (Nat.le_of_ble_eq_true rfl) (Nat.le_of_ble_eq_true rfl) (Or.inr rfl) (Nat.zero_le _) (Nat.zero_le _) rfl (s7_isStory F l1 S) (fun v1 S => ?_)
  refine sd_if_eq (pc := 4) 23 d7_sure_4 (by decide) (fun _ => ?_) (fun _ => ?_)
  · refine sd_iconst (pc := 23) (-1) d7_sure_23 ci_m1 ?_
    exact sd_iret (pc := 24) d7_sure_24 rfl (Nat.zero_le _) (Nat.zero_le _)
  · refine sd_iload_n (pc := 7) d7_sure_7 rfl ?_
    refine sd_iconst (pc := 8) 1 d7_sure_8 ci_1 ?_
    refine sd_ic_lt (pc := 9) 23 d7_sure_9 (by decide) (fun _ => ?_) (fun _ => ?_)
    · refine sd_iconst (pc := 23) (-1) d7_sure_23 ci_m1 ?_
      exact sd_iret (pc := 24) d7_sure_24 rfl (Nat.zero_le _) (Nat.zero_le _)
    · refine sd_iload_n (pc := 12) d7_sure_12 rfl ?_
      refine sd_bipush (pc := 13) 99 d7_sure_13 cb_99 ?_
      refine sd_ic_gt (pc := 15) 23 d7_sure_15 (by decide) (fun _ => ?_) (fun _ => ?_)
      · refine sd_iconst (pc := 23) (-1) d7_sure_23 ci_m1 ?_
        exact sd_iret (pc := 24) d7_sure_24 rfl (Nat.zero_le _) (Nat.zero_le _)
      · refine sd_iload_n (pc := 18) d7_sure_18 rfl ?_
        refine sd_iload_n (pc := 19) d7_sure_19 rfl ?_
        refine sd_ic_le (pc := 20) 25 d7_sure_20 (by decide) (fun _ => ?_) (fun _ => ?_)
        · refine sd_aload_n (pc := 25) d7_sure_25 rfl ?_
          refine sd_iload_n (pc := 26) d7_sure_26 rfl ?_
          refine sd_cVI (k2 := k7_weighed) (As := [.int l1]) (rest := []) (b := 3) (ci := 6) (pc := 27) 217 (show sm_sq 3 = some (.inr 6) from rfl) (by decide) rfl d7_sure_27 ml7_217 (ms7_weighed).1 (ms7_weighed).2 (me7_weighed) ⟨rfl, rfl⟩ ⟨Nat.le_of_ble_eq_true rfl, Nat.le_of_ble_eq_true rfl⟩ (Nat.le_of_ble_eq_true rfl) (Nat.le_of_ble_eq_true rfl) (Or.inl rfl) (Nat.zero_le _) (Nat.zero_le _) rfl (s7_weighed F l1 S) (fun v2 S => ?_)
          refine sd_istore (lf2 := [some (.ref 3), some (.int l1), some (.int l2), some (.int l3), some (.int v2), none, none, none]) (pc := 30) d7_sure_30 (Nat.le_of_ble_eq_true rfl) rfl ?_
          refine sd_iload (pc := 32) d7_sure_32 rfl ?_
          refine sd_if_eq (pc := 34) 40 d7_sure_34 (by decide) (fun _ => ?_) (fun _ => ?_)
          · refine sd_iconst (pc := 40) 0 d7_sure_40 ci_0 ?_
            refine sd_istore (lf2 := [some (.ref 3), some (.int l1), some (.int l2), some (.int l3), some (.int v2), some (.int 0), none, none]) (pc := 41) d7_sure_41 (Nat.le_of_ble_eq_true rfl) rfl ?_
            refine sd_bipush (pc := 43) (-9) d7_sure_43 cb_m9 ?_
            refine sd_istore (lf2 := [some (.ref 3), some (.int l1), some (.int l2), some (.int l3), some (.int v2), some (.int 0), some (.int (-9)), none]) (pc := 45) d7_sure_45 (Nat.le_of_ble_eq_true rfl) rfl ?_
            refine sd_bipush (pc := 47) 119 d7_sure_47 cb_119 ?_
            refine sd_istore (lf2 := [some (.ref 3), some (.int l1), some (.int l2), some (.int l3), some (.int v2), some (.int 0), some (.int (-9)), some (.int 119)]) (pc := 49) d7_sure_49 (Nat.le_of_ble_eq_true rfl) rfl ?_
            exact sd_fg [true, false, true, true, false, true, true, true] rfl (s7_sure_51 F F l2 l3 0 (-9) 119 S)
          · refine sd_iload (pc := 37) d7_sure_37 rfl ?_
            exact sd_iret (pc := 39) d7_sure_39 rfl (Nat.zero_le _) (Nat.zero_le _)
        · refine sd_iconst (pc := 23) (-1) d7_sure_23 ci_m1 ?_
          exact sd_iret (pc := 24) d7_sure_24 rfl (Nat.zero_le _) (Nat.zero_le _)
set_option maxHeartbeats 4000000 in
set_option maxRecDepth 20000 in
theorem s8_sure_47 {N : Nat} (F : Nat) : ∀ (f : Nat) (l2 : Int32) (l3 : Int32) (l5 : Int32) (l6 : Int32) (l7 : Int32) (S : sm_t), sm_S (sm_jI N) k8_sure 0 0 47 [some (.ref 52), none, some (.int l2), some (.int l3), none, some (.int l5), some (.int l6), some (.int l7)] [] (sm_m N S) (x8_sure_47 F f l2 l3 l5 l6 l7 S) := by
  intro f
  induction f with
  | zero =>
    intro l2 l3 l5 l6 l7 S
    exact sd_none
  | succ f ih =>
    intro l2 l3 l5 l6 l7 S
    rw [x8_sure_47]
    refine sd_iload (pc := 47) d8_sure_47 rfl ?_
    refine sd_if_lt (pc := 49) 86 d8_sure_49 (by decide) (fun _ => ?_) (fun _ => ?_)
    · refine sd_aload_n (pc := 86) d8_sure_86 rfl ?_
      refine sd_iload (pc := 87) d8_sure_87 rfl ?_
      refine sd_iload (pc := 89) d8_sure_89 rfl ?_
      refine sd_cVI (k2 := k8_ask) (As := [.int l6, .int l5]) (rest := []) (b := 52) (ci := 7) (pc := 91) 102 (show sm_sq 52 = some (.inr 7) from rfl) (by decide) rfl d8_sure_91 ml8_102 (ms8_ask).1 (ms8_ask).2 (me8_ask) ⟨rfl, rfl⟩ ⟨Nat.le_of_ble_eq_true rfl, Nat.le_of_ble_eq_true rfl⟩ (Nat.le_of_ble_eq_true rfl) (Nat.le_of_ble_eq_true rfl) (Or.inl rfl) (Nat.zero_le _) (Nat.zero_le _) rfl (s8_ask F l6 l5 S) (fun v1 S => ?_)
      exact sd_iret (pc := 94) d8_sure_94 rfl (Nat.zero_le _) (Nat.zero_le _)
    · refine sd_aload_n (pc := 52) d8_sure_52 rfl ?_
      refine sd_getR (pc := 53) 66 (show sm_sq 52 = some (.inr 7) from rfl) rfl fl8_59 rfl d8_sure_53 ?_
      refine sd_iload (pc := 56) d8_sure_56 rfl ?_
      refine sd_lald (pc := 58) (show sm_sq 66 = some (.inl (.long, 120)) from rfl) d8_sure_58 (fun v2 => ?_)
      refine sd_iload_n (pc := 59) d8_sure_59 rfl ?_
      refine sd_i2l (pc := 60) d8_sure_60 ?_
      refine sd_lmul (pc := 61) d8_sure_61 ?_
      refine sd_aload_n (pc := 62) d8_sure_62 rfl ?_
      refine sd_getL (pc := 63) (show sm_sq 52 = some (.inr 7) from rfl) rfl fl8_222 d8_sure_63 (fun v3 => ?_)
      refine sd_iload_n (pc := 66) d8_sure_66 rfl ?_
      refine sd_i2l (pc := 67) d8_sure_67 ?_
      refine sd_lmul (pc := 68) d8_sure_68 ?_
      refine sd_lc_lt (pc := 69) 80 d8_sure_69 d8_sure_70 (by decide) (fun _ => ?_) (fun _ => ?_)
      · refine sd_iinc (lf2 := [some (.ref 52), none, some (.int l2), some (.int l3), none, some (.int l5), some (.int l6), some (.int (l7 + (-1)))]) (pc := 80) d8_sure_80 (Nat.le_of_ble_eq_true rfl) rfl ci_m1 rfl ?_
        refine sd_goto (pc := 83) 47 d8_sure_83 (by decide) ?_
        exact ih l2 l3 l5 l6 (l7 + (-1)) S
      · refine sd_iinc (lf2 := [some (.ref 52), none, some (.int l2), some (.int l3), none, some (.int (l5 + 1)), some (.int l6), some (.int l7)]) (pc := 73) d8_sure_73 (Nat.le_of_ble_eq_true rfl) rfl ci_1 rfl ?_
        refine sd_iload (pc := 76) d8_sure_76 rfl ?_
        refine sd_istore (lf2 := [some (.ref 52), none, some (.int l2), some (.int l3), none, some (.int (l5 + 1)), some (.int l7), some (.int l7)]) (pc := 78) d8_sure_78 (Nat.le_of_ble_eq_true rfl) rfl ?_
        refine sd_iinc (lf2 := [some (.ref 52), none, some (.int l2), some (.int l3), none, some (.int (l5 + 1)), some (.int l7), some (.int (l7 + (-1)))]) (pc := 80) d8_sure_80 (Nat.le_of_ble_eq_true rfl) rfl ci_m1 rfl ?_
        refine sd_goto (pc := 83) 47 d8_sure_83 (by decide) ?_
        exact ih l2 l3 (l5 + 1) l7 (l7 + (-1)) S
set_option maxHeartbeats 4000000 in
set_option maxRecDepth 20000 in
theorem s8_sure {N : Nat} (F : Nat) (l1 : Int32) (l2 : Int32) (l3 : Int32) (S : sm_t) : sm_P (sm_jI N) k8_sure [.ref 52, .int l1, .int l2, .int l3] (sm_m N S) (x8_sure F l1 l2 l3 S) := by
  show sm_S (sm_jI N) k8_sure 0 0 0 [some (.ref 52), some (.int l1), some (.int l2), some (.int l3), none, none, none, none] [] (sm_m N S) (x8_sure F l1 l2 l3 S)
  unfold x8_sure
  refine sd_iload_n (pc := 0) d8_sure_0 rfl ?_
  refine sd_iconst (pc := 1) 1 d8_sure_1 ci_1 ?_
  refine sd_bipush (pc := 2) 99 d8_sure_2 cb_99 ?_
  refine sd_cSI (k2 := k8_in) (As := [.int l3, .int 1, .int 99]) (rest := []) (pc := 4) 80 d8_sure_4 ml8_80 (ms8_in) (me8_in) ⟨rfl, rfl⟩ ⟨Nat.le_of_ble_eq_true rfl, Nat.le_of_ble_eq_true rfl⟩ (Nat.le_of_ble_eq_true rfl) (Nat.le_of_ble_eq_true rfl) (Or.inr rfl) (Nat.zero_le _) (Nat.zero_le _) rfl (s8_in F l3 1 99 S) (fun v1 S => ?_)
  refine sd_if_eq (pc := 7) 19 d8_sure_7 (by decide) (fun _ => ?_) (fun _ => ?_)
  · refine sd_iconst (pc := 19) (-1) d8_sure_19 ci_m1 ?_
    exact sd_iret (pc := 20) d8_sure_20 rfl (Nat.zero_le _) (Nat.zero_le _)
  · refine sd_iload_n (pc := 10) d8_sure_10 rfl ?_
    refine sd_iconst (pc := 11) 1 d8_sure_11 ci_1 ?_
    refine sd_iload_n (pc := 12) d8_sure_12 rfl ?_
    refine sd_cSI (k2 := k8_in) (As := [.int l2, .int 1, .int l3]) (rest := []) (pc := 13) 80 d8_sure_13 ml8_80 (ms8_in) (me8_in) ⟨rfl, rfl⟩ ⟨Nat.le_of_ble_eq_true rfl, Nat.le_of_ble_eq_true rfl⟩ (Nat.le_of_ble_eq_true rfl) (Nat.le_of_ble_eq_true rfl) (Or.inr rfl) (Nat.zero_le _) (Nat.zero_le _) rfl (s8_in F l2 1 l3 S) (fun v2 S => ?_)
    refine sd_if_ne (pc := 16) 21 d8_sure_16 (by decide) (fun _ => ?_) (fun _ => ?_)
    · refine sd_iconst (pc := 19) (-1) d8_sure_19 ci_m1 ?_
      exact sd_iret (pc := 20) d8_sure_20 rfl (Nat.zero_le _) (Nat.zero_le _)
    · refine sd_aload_n (pc := 21) d8_sure_21 rfl ?_
      refine sd_iload_n (pc := 22) d8_sure_22 rfl ?_
      refine sd_cVI (k2 := k8_weigh) (As := [.int l1]) (rest := []) (b := 52) (ci := 7) (pc := 23) 244 (show sm_sq 52 = some (.inr 7) from rfl) (by decide) rfl d8_sure_23 ml8_244 (ms8_weigh).1 (ms8_weigh).2 (me8_weigh) ⟨rfl, rfl⟩ ⟨Nat.le_of_ble_eq_true rfl, Nat.le_of_ble_eq_true rfl⟩ (Nat.le_of_ble_eq_true rfl) (Nat.le_of_ble_eq_true rfl) (Or.inl rfl) (Nat.zero_le _) (Nat.zero_le _) rfl (s8_weigh F l1 S) (fun v3 S => ?_)
      refine sd_istore (lf2 := [some (.ref 52), some (.int l1), some (.int l2), some (.int l3), some (.int v3), none, none, none]) (pc := 26) d8_sure_26 (Nat.le_of_ble_eq_true rfl) rfl ?_
      refine sd_iload (pc := 28) d8_sure_28 rfl ?_
      refine sd_if_ge (pc := 30) 36 d8_sure_30 (by decide) (fun _ => ?_) (fun _ => ?_)
      · refine sd_iconst (pc := 36) 0 d8_sure_36 ci_0 ?_
        refine sd_istore (lf2 := [some (.ref 52), some (.int l1), some (.int l2), some (.int l3), some (.int v3), some (.int 0), none, none]) (pc := 37) d8_sure_37 (Nat.le_of_ble_eq_true rfl) rfl ?_
        refine sd_bipush (pc := 39) (-9) d8_sure_39 cb_m9 ?_
        refine sd_istore (lf2 := [some (.ref 52), some (.int l1), some (.int l2), some (.int l3), some (.int v3), some (.int 0), some (.int (-9)), none]) (pc := 41) d8_sure_41 (Nat.le_of_ble_eq_true rfl) rfl ?_
        refine sd_bipush (pc := 43) 119 d8_sure_43 cb_119 ?_
        refine sd_istore (lf2 := [some (.ref 52), some (.int l1), some (.int l2), some (.int l3), some (.int v3), some (.int 0), some (.int (-9)), some (.int 119)]) (pc := 45) d8_sure_45 (Nat.le_of_ble_eq_true rfl) rfl ?_
        exact sd_fg [true, false, true, true, false, true, true, true] rfl (s8_sure_47 F F l2 l3 0 (-9) 119 S)
      · refine sd_iload (pc := 33) d8_sure_33 rfl ?_
        exact sd_iret (pc := 35) d8_sure_35 rfl (Nat.zero_le _) (Nat.zero_le _)
